/-! ===== what doubles are: laws that stand in the rest of the library (the round is read over the whole of it) ===== -/
theorem zd_div (a b : UInt64) : Jvm.FP.Core.val64 (Jvm.FP.Core.ddiv a b) = Jvm.FP.Core.quotient Jvm.FP.Core.b64 (Jvm.FP.Core.val64 a) (Jvm.FP.Core.val64 b) := Jvm.FP.Core.val64_ddiv a b
