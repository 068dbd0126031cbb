/-! ===== what holds at the law's entry ===== -/
section
variable {s : State} {args : Array Value}
theorem en_arr {ty : FieldType} (h : (Cond.arrayClass ty).before args s = true) : ∃ cA : ClassId, ArrOfT s cA ty ∧ s.vm.findClass ("[" ++ ty.toString) = some cA := by
  obtain ⟨cA, kA, comp, h1, h2, h3⟩ := Cond.arrayClass_spec h
  exact ⟨cA, fun n z => ⟨fun k h => (by cases h), kA, h2, comp, h3⟩, h1⟩
theorem en_over {C : String} (h : (Cond.arrayOver (.object C)).before args s = true) : ∃ cA : ClassId, ArrOfT s cA (.object C) ∧ va_RA s cA (.object C) := by
  obtain ⟨comp, cA, kA, h1, h2, h3, h4, h5⟩ := Cond.arrayOver_spec h
  exact ⟨cA, fun n z => ⟨fun k h => (by cases h), kA, h3, comp, h4⟩, kA, comp, h3, h4, h1, h5⟩
theorem en_tab {A : Nat → Prop} {nm : String} {z0 z1 z2 z3 : Int32} (f : Nat → Int32) (f0 : f 0 = z0) (f1 : f 1 = z1) (f2 : f 2 = z2) (f3 : f 3 = z3) (harr : (Cond.arrayOf (.static "CoilSlits" nm "[I") .int).before args s = true) (hlen : (Cond.eq (.length (.static "CoilSlits" nm "[I")) (.int 4)).before args s = true)
    (h0 : (Cond.eq (.elem (.static "CoilSlits" nm "[I") (.int 0)) (.int z0)).before args s = true) (h1 : (Cond.eq (.elem (.static "CoilSlits" nm "[I") (.int 1)) (.int z1)).before args s = true) (h2 : (Cond.eq (.elem (.static "CoilSlits" nm "[I") (.int 2)) (.int z2)).before args s = true) (h3 : (Cond.eq (.elem (.static "CoilSlits" nm "[I") (.int 3)) (.int z3)).before args s = true) (hA : ∀ a : Nat, a < s.heap.size → ¬ A a) :
    ∃ t : Nat, (Term.static "CoilSlits" nm "[I").eval args s none [] s = some (.ref t) ∧ va_T .int t 4 (fun j => .int (f j)) A s s.heap := by
  refine va_Tof (by decide) harr (va_eqt hlen) (fun j hj => ?_) hA
  have : j = 0 ∨ j = 1 ∨ j = 2 ∨ j = 3 := by omega
  rcases this with rfl | rfl | rfl | rfl
  · rw [f0]; exact va_eqt h0
  · rw [f1]; exact va_eqt h1
  · rw [f2]; exact va_eqt h2
  · rw [f3]; exact va_eqt h3
theorem en_str {k : Nat} {tx : String} (h1 : (Cond.stringRef "CoilSlits" k tx).before args s = true) (h2 : (Cond.exactly (.string "CoilSlits" k) "java/lang/String").before args s = true) : ∃ sa : Nat, vk_R "CoilSlits" k tx sa s := by
  obtain ⟨a, _, _, _, h3, _⟩ := Cond.exactly_spec h2
  exact ⟨a, vk_R.of h1 h3⟩
theorem tc_Row : Cond.instantiable "CoilSlits$Row" 1 ∈ lw_tbl := tb_mem 49 (by decide +kernel)
theorem tc_Grid : Cond.instantiable "CoilSlits$Grid" 2 ∈ lw_tbl := tb_mem 32 (by decide +kernel)
theorem tc_Yard : Cond.instantiable "CoilSlits$Yard" 8 ∈ lw_tbl := tb_mem 26 (by decide +kernel)
theorem tc_Hist : Cond.instantiable "CoilSlits$History" 3 ∈ lw_tbl := tb_mem 95 (by decide +kernel)
theorem tc_Read : Cond.instantiable "CoilSlits$CoilReader" 5 ∈ lw_tbl := tb_mem 116 (by decide +kernel)
theorem tc_Slit : Cond.instantiable "CoilSlits" 6 ∈ lw_tbl := tb_mem 18 (by decide +kernel)
theorem tc_Mod : Cond.instantiable "CoilSlitsModel" 11 ∈ lw_tbl := tb_mem 815 (by decide +kernel)
theorem en_cls (hts : ∀ x ∈ lw_tbl, x.before args s = true) : ∃ (dC : Nat → ClassId) (dI : Nat → Nat → Nat), ∀ (k : Nat) (q : vw_C), zcl[k]? = some q → u_Kn s q.1 q.2.1 q.2.2 (dC k) (dI k) := by
  obtain ⟨c0, i0, h0⟩ := u_known (C := "CoilSlits$Row") (T := F_Row) (N := 1) (n := 1) hts (zlay_ok 0 (by omega)) (hts _ tc_Row)
  obtain ⟨c1, i1, h1⟩ := u_known (C := "CoilSlits$Grid") (T := F_Grid) (N := 2) (n := 2) hts (zlay_ok 1 (by omega)) (hts _ tc_Grid)
  obtain ⟨c2, i2, h2⟩ := u_known (C := "CoilSlits$Yard") (T := F_Yard) (N := 8) (n := 8) hts (zlay_ok 2 (by omega)) (hts _ tc_Yard)
  obtain ⟨c3, i3, h3⟩ := u_known (C := "CoilSlits$History") (T := F_History) (N := 3) (n := 3) hts (zlay_ok 3 (by omega)) (hts _ tc_Hist)
  obtain ⟨c4, i4, h4⟩ := u_known (C := "CoilSlits$CoilReader") (T := F_Reader) (N := 5) (n := 5) hts (zlay_ok 4 (by omega)) (hts _ tc_Read)
  obtain ⟨c5, i5, h5⟩ := u_known (C := "CoilSlits") (T := F_Slits) (N := 6) (n := 6) hts (zlay_ok 5 (by omega)) (hts _ tc_Slit)
  obtain ⟨c6, i6, h6⟩ := u_known (C := "CoilSlitsModel") (T := F_Model) (N := 11) (n := 11) hts (zlay_ok 6 (by omega)) (hts _ tc_Mod)
  refine ⟨fun k => if k = 0 then c0 else if k = 1 then c1 else if k = 2 then c2 else if k = 3 then c3 else if k = 4 then c4 else if k = 5 then c5 else c6, fun k => if k = 0 then i0 else if k = 1 then i1 else if k = 2 then i2 else if k = 3 then i3 else if k = 4 then i4 else if k = 5 then i5 else i6, ?_⟩
  intro k q hq
  match k, hq with
  | 0, hq => cases hq; exact h0
  | 1, hq => cases hq; exact h1
  | 2, hq => cases hq; exact h2
  | 3, hq => cases hq; exact h3
  | 4, hq => cases hq; exact h4
  | 5, hq => cases hq; exact h5
  | 6, hq => cases hq; exact h6
  | k + 7, hq => simp [zcl] at hq
theorem ta_int : Cond.arrayClass .int ∈ lw_tbl := tb_mem 47 (by decide +kernel)
theorem ta_long : Cond.arrayClass .long ∈ lw_tbl := tb_mem 1148 (by decide +kernel)
theorem ta_over : Cond.arrayOver (.object "CoilSlits$Yard") ∈ lw_tbl := tb_mem 101 (by decide +kernel)
theorem ti_Slit : Cond.initialized "CoilSlits" ∈ lw_tbl := tb_mem 1 (by decide +kernel)
theorem ti_Thr : Cond.initialized "java/lang/Throwable" ∈ lw_tbl := tb_mem 9 (by decide +kernel)
theorem tl_FIRST : Cond.laysStatic "CoilSlits" "FIRST_SETTINGS" "[I" ∈ lw_tbl := tb_mem 64 (by decide +kernel)
theorem tl_LEAST : Cond.laysStatic "CoilSlits" "LEAST_SETTINGS" "[I" ∈ lw_tbl := tb_mem 685 (by decide +kernel)
theorem tl_MOST : Cond.laysStatic "CoilSlits" "MOST_SETTINGS" "[I" ∈ lw_tbl := tb_mem 687 (by decide +kernel)
theorem tl_UN : Cond.laysStatic Bundle.tN "UNASSIGNED_STACK" Bundle.steD ∈ lw_tbl := tb_mem 503 (by decide +kernel)
theorem tl_SU : Cond.laysStatic Bundle.tN "SUPPRESSED_SENTINEL" Bundle.listD ∈ lw_tbl := tb_mem 505 (by decide +kernel)
theorem tx_48 : Cond.stringRef "CoilSlits" 48 "no such stack" ∈ lw_tbl := tb_mem 517 (by decide +kernel)
theorem tq_48 : Cond.exactly (.string "CoilSlits" 48) "java/lang/String" ∈ flatC (Jvm.Cond.and given_1 narrow_1) := by decide +kernel
theorem tx_59 : Cond.stringRef "CoilSlits" 59 "width, grade or quality out of range" ∈ lw_tbl := tb_mem 553 (by decide +kernel)
theorem tq_59 : Cond.exactly (.string "CoilSlits" 59) "java/lang/String" ∈ flatC (Jvm.Cond.and given_1 narrow_1) := by decide +kernel
theorem tx_67 : Cond.stringRef "CoilSlits" 67 "no room in the stack" ∈ lw_tbl := tb_mem 569 (by decide +kernel)
theorem tq_67 : Cond.exactly (.string "CoilSlits" 67) "java/lang/String" ∈ flatC (Jvm.Cond.and given_1 narrow_1) := by decide +kernel
theorem tx_78 : Cond.stringRef "CoilSlits" 78 "both stacks are the same" ∈ lw_tbl := tb_mem 587 (by decide +kernel)
theorem tq_78 : Cond.exactly (.string "CoilSlits" 78) "java/lang/String" ∈ flatC (Jvm.Cond.and given_1 narrow_1) := by decide +kernel
theorem tx_84 : Cond.stringRef "CoilSlits" 84 "no coil to move, or no room for it" ∈ lw_tbl := tb_mem 588 (by decide +kernel)
theorem tq_84 : Cond.exactly (.string "CoilSlits" 84) "java/lang/String" ∈ flatC (Jvm.Cond.and given_1 narrow_1) := by decide +kernel
theorem tx_93 : Cond.stringRef "CoilSlits" 93 "no such coil in the yard" ∈ lw_tbl := tb_mem 601 (by decide +kernel)
theorem tq_93 : Cond.exactly (.string "CoilSlits" 93) "java/lang/String" ∈ flatC (Jvm.Cond.and given_1 narrow_1) := by decide +kernel
theorem tx_98 : Cond.stringRef "CoilSlits" 98 "the coil cannot be dug out" ∈ lw_tbl := tb_mem 606 (by decide +kernel)
theorem tq_98 : Cond.exactly (.string "CoilSlits" 98) "java/lang/String" ∈ flatC (Jvm.Cond.and given_1 narrow_1) := by decide +kernel
theorem tx_109 : Cond.stringRef "CoilSlits" 109 "an argument is out of range" ∈ lw_tbl := tb_mem 627 (by decide +kernel)
theorem tq_109 : Cond.exactly (.string "CoilSlits" 109) "java/lang/String" ∈ flatC (Jvm.Cond.and given_1 narrow_1) := by decide +kernel
theorem tx_115 : Cond.stringRef "CoilSlits" 115 "no more orders can be taken" ∈ lw_tbl := tb_mem 628 (by decide +kernel)
theorem tq_115 : Cond.exactly (.string "CoilSlits" 115) "java/lang/String" ∈ flatC (Jvm.Cond.and given_1 narrow_1) := by decide +kernel
theorem tx_124 : Cond.stringRef "CoilSlits" 124 "no such order" ∈ lw_tbl := tb_mem 644 (by decide +kernel)
theorem tq_124 : Cond.exactly (.string "CoilSlits" 124) "java/lang/String" ∈ flatC (Jvm.Cond.and given_1 narrow_1) := by decide +kernel
theorem tx_132 : Cond.stringRef "CoilSlits" 132 "no such order, or no such coil in the yard" ∈ lw_tbl := tb_mem 657 (by decide +kernel)
theorem tq_132 : Cond.exactly (.string "CoilSlits" 132) "java/lang/String" ∈ flatC (Jvm.Cond.and given_1 narrow_1) := by decide +kernel
theorem tx_137 : Cond.stringRef "CoilSlits" 137 "the coil does not suit, or cannot be dug out" ∈ lw_tbl := tb_mem 663 (by decide +kernel)
theorem tq_137 : Cond.exactly (.string "CoilSlits" 137) "java/lang/String" ∈ flatC (Jvm.Cond.and given_1 narrow_1) := by decide +kernel
theorem tx_154 : Cond.stringRef "CoilSlits" 154 "no such setting" ∈ lw_tbl := tb_mem 683 (by decide +kernel)
theorem tq_154 : Cond.exactly (.string "CoilSlits" 154) "java/lang/String" ∈ flatC (Jvm.Cond.and given_1 narrow_1) := by decide +kernel
theorem tx_163 : Cond.stringRef "CoilSlits" 163 "the value is out of range" ∈ lw_tbl := tb_mem 688 (by decide +kernel)
theorem tq_163 : Cond.exactly (.string "CoilSlits" 163) "java/lang/String" ∈ flatC (Jvm.Cond.and given_1 narrow_1) := by decide +kernel
theorem tx_172 : Cond.stringRef "CoilSlits" 172 "the character code is out of range" ∈ lw_tbl := tb_mem 696 (by decide +kernel)
theorem tq_172 : Cond.exactly (.string "CoilSlits" 172) "java/lang/String" ∈ flatC (Jvm.Cond.and given_1 narrow_1) := by decide +kernel
theorem tx_178 : Cond.stringRef "CoilSlits" 178 "the buffer is full" ∈ lw_tbl := tb_mem 697 (by decide +kernel)
theorem tq_178 : Cond.exactly (.string "CoilSlits" 178) "java/lang/String" ∈ flatC (Jvm.Cond.and given_1 narrow_1) := by decide +kernel
theorem tx_190 : Cond.stringRef "CoilSlits" 190 "the buffer is not complete coils as a text" ∈ lw_tbl := tb_mem 710 (by decide +kernel)
theorem tq_190 : Cond.exactly (.string "CoilSlits" 190) "java/lang/String" ∈ flatC (Jvm.Cond.and given_1 narrow_1) := by decide +kernel
theorem tx_198 : Cond.stringRef "CoilSlits" 198 "no state is saved" ∈ lw_tbl := tb_mem 742 (by decide +kernel)
theorem tq_198 : Cond.exactly (.string "CoilSlits" 198) "java/lang/String" ∈ flatC (Jvm.Cond.and given_1 narrow_1) := by decide +kernel
theorem tx_203 : Cond.stringRef "CoilSlits" 203 "the height is out of range" ∈ lw_tbl := tb_mem 755 (by decide +kernel)
theorem tq_203 : Cond.exactly (.string "CoilSlits" 203) "java/lang/String" ∈ flatC (Jvm.Cond.and given_1 narrow_1) := by decide +kernel
theorem tx_211 : Cond.stringRef "CoilSlits" 211 "no coil has had this number" ∈ lw_tbl := tb_mem 767 (by decide +kernel)
theorem tq_211 : Cond.exactly (.string "CoilSlits" 211) "java/lang/String" ∈ flatC (Jvm.Cond.and given_1 narrow_1) := by decide +kernel
theorem tx_213 : Cond.stringRef "CoilSlits" 213 "no such property of a coil" ∈ lw_tbl := tb_mem 768 (by decide +kernel)
theorem tq_213 : Cond.exactly (.string "CoilSlits" 213) "java/lang/String" ∈ flatC (Jvm.Cond.and given_1 narrow_1) := by decide +kernel
theorem tx_218 : Cond.stringRef "CoilSlits" 218 "no such place, or no such property of an order" ∈ lw_tbl := tb_mem 776 (by decide +kernel)
theorem tq_218 : Cond.exactly (.string "CoilSlits" 218) "java/lang/String" ∈ flatC (Jvm.Cond.and given_1 narrow_1) := by decide +kernel
theorem tx_223 : Cond.stringRef "CoilSlits" 223 "nothing of this kind is counted" ∈ lw_tbl := tb_mem 791 (by decide +kernel)
theorem tq_223 : Cond.exactly (.string "CoilSlits" 223) "java/lang/String" ∈ flatC (Jvm.Cond.and given_1 narrow_1) := by decide +kernel
theorem tx_231 : Cond.stringRef "CoilSlits" 231 "rule or what is out of range" ∈ lw_tbl := tb_mem 813 (by decide +kernel)
theorem tq_231 : Cond.exactly (.string "CoilSlits" 231) "java/lang/String" ∈ flatC (Jvm.Cond.and given_1 narrow_1) := by decide +kernel
theorem en_nest (hts : ∀ x ∈ lw_tbl, x.before args s = true) : ∀ x ∈ zN, va_Nw x s :=
  List.forall_mem_cons.mpr ⟨va_Nw.of rfl (hts _ (tb_mem 63 (by decide +kernel))), List.forall_mem_cons.mpr ⟨va_Nw.of rfl (hts _ (tb_mem 117 (by decide +kernel))), List.forall_mem_cons.mpr ⟨va_Nw.of rfl (hts _ (tb_mem 225 (by decide +kernel))), List.forall_mem_cons.mpr ⟨va_Nw.of rfl (hts _ (tb_mem 317 (by decide +kernel))), List.forall_mem_cons.mpr ⟨va_Nw.of rfl (hts _ (tb_mem 328 (by decide +kernel))), fun x hx => absurd hx List.not_mem_nil⟩⟩⟩⟩⟩
theorem tn_01 : Cond.not (.castable "java/lang/IndexOutOfBoundsException" "java/lang/IllegalArgumentException") ∈ flatC (Jvm.Cond.and given_1 narrow_1) := by decide +kernel
theorem tn_02 : Cond.not (.castable "java/lang/IndexOutOfBoundsException" "java/lang/IllegalStateException") ∈ flatC (Jvm.Cond.and given_1 narrow_1) := by decide +kernel
theorem tn_10 : Cond.not (.castable "java/lang/IllegalArgumentException" "java/lang/IndexOutOfBoundsException") ∈ flatC (Jvm.Cond.and given_1 narrow_1) := by decide +kernel
theorem tn_12 : Cond.not (.castable "java/lang/IllegalArgumentException" "java/lang/IllegalStateException") ∈ flatC (Jvm.Cond.and given_1 narrow_1) := by decide +kernel
theorem tn_20 : Cond.not (.castable "java/lang/IllegalStateException" "java/lang/IndexOutOfBoundsException") ∈ flatC (Jvm.Cond.and given_1 narrow_1) := by decide +kernel
theorem tn_21 : Cond.not (.castable "java/lang/IllegalStateException" "java/lang/IllegalArgumentException") ∈ flatC (Jvm.Cond.and given_1 narrow_1) := by decide +kernel
theorem tr_UN : Cond.isRef (.static Bundle.tN "UNASSIGNED_STACK" Bundle.steD) ∈ flatC (Jvm.Cond.and given_1 narrow_1) := by decide +kernel
theorem tr_SU : Cond.isRef (.static Bundle.tN "SUPPRESSED_SENTINEL" Bundle.listD) ∈ flatC (Jvm.Cond.and given_1 narrow_1) := by decide +kernel
theorem tf_FIRSTa : Cond.arrayOf (.static "CoilSlits" "FIRST_SETTINGS" "[I") .int ∈ flatC (Jvm.Cond.and given_1 narrow_1) := by decide +kernel
theorem tf_FIRSTl : Cond.eq (.length (.static "CoilSlits" "FIRST_SETTINGS" "[I")) (.int 4) ∈ flatC (Jvm.Cond.and given_1 narrow_1) := by decide +kernel
theorem tf_FIRST0 : Cond.eq (.elem (.static "CoilSlits" "FIRST_SETTINGS" "[I") (.int 0)) (.int 20) ∈ flatC (Jvm.Cond.and given_1 narrow_1) := by decide +kernel
theorem tf_FIRST1 : Cond.eq (.elem (.static "CoilSlits" "FIRST_SETTINGS" "[I") (.int 1)) (.int 1) ∈ flatC (Jvm.Cond.and given_1 narrow_1) := by decide +kernel
theorem tf_FIRST2 : Cond.eq (.elem (.static "CoilSlits" "FIRST_SETTINGS" "[I") (.int 2)) (.int 1) ∈ flatC (Jvm.Cond.and given_1 narrow_1) := by decide +kernel
theorem tf_FIRST3 : Cond.eq (.elem (.static "CoilSlits" "FIRST_SETTINGS" "[I") (.int 3)) (.int 0) ∈ flatC (Jvm.Cond.and given_1 narrow_1) := by decide +kernel
theorem tf_LEASTa : Cond.arrayOf (.static "CoilSlits" "LEAST_SETTINGS" "[I") .int ∈ flatC (Jvm.Cond.and given_1 narrow_1) := by decide +kernel
theorem tf_LEASTl : Cond.eq (.length (.static "CoilSlits" "LEAST_SETTINGS" "[I")) (.int 4) ∈ flatC (Jvm.Cond.and given_1 narrow_1) := by decide +kernel
theorem tf_LEAST0 : Cond.eq (.elem (.static "CoilSlits" "LEAST_SETTINGS" "[I") (.int 0)) (.int 1) ∈ flatC (Jvm.Cond.and given_1 narrow_1) := by decide +kernel
theorem tf_LEAST1 : Cond.eq (.elem (.static "CoilSlits" "LEAST_SETTINGS" "[I") (.int 1)) (.int 0) ∈ flatC (Jvm.Cond.and given_1 narrow_1) := by decide +kernel
theorem tf_LEAST2 : Cond.eq (.elem (.static "CoilSlits" "LEAST_SETTINGS" "[I") (.int 2)) (.int 0) ∈ flatC (Jvm.Cond.and given_1 narrow_1) := by decide +kernel
theorem tf_LEAST3 : Cond.eq (.elem (.static "CoilSlits" "LEAST_SETTINGS" "[I") (.int 3)) (.int 0) ∈ flatC (Jvm.Cond.and given_1 narrow_1) := by decide +kernel
theorem tf_MOSTa : Cond.arrayOf (.static "CoilSlits" "MOST_SETTINGS" "[I") .int ∈ flatC (Jvm.Cond.and given_1 narrow_1) := by decide +kernel
theorem tf_MOSTl : Cond.eq (.length (.static "CoilSlits" "MOST_SETTINGS" "[I")) (.int 4) ∈ flatC (Jvm.Cond.and given_1 narrow_1) := by decide +kernel
theorem tf_MOST0 : Cond.eq (.elem (.static "CoilSlits" "MOST_SETTINGS" "[I") (.int 0)) (.int 100) ∈ flatC (Jvm.Cond.and given_1 narrow_1) := by decide +kernel
theorem tf_MOST1 : Cond.eq (.elem (.static "CoilSlits" "MOST_SETTINGS" "[I") (.int 1)) (.int 5) ∈ flatC (Jvm.Cond.and given_1 narrow_1) := by decide +kernel
theorem tf_MOST2 : Cond.eq (.elem (.static "CoilSlits" "MOST_SETTINGS" "[I") (.int 2)) (.int 9) ∈ flatC (Jvm.Cond.and given_1 narrow_1) := by decide +kernel
theorem tf_MOST3 : Cond.eq (.elem (.static "CoilSlits" "MOST_SETTINGS" "[I") (.int 3)) (.int 2) ∈ flatC (Jvm.Cond.and given_1 narrow_1) := by decide +kernel
theorem en_KX {w : Wd} (hts : ∀ x ∈ lw_tbl, x.before args s = true) (hq : ∀ x ∈ flatC (Jvm.Cond.and given_1 narrow_1), x.before args s = true) (hA : ∀ a : Nat, a < s.heap.size → ¬ zA w a) : KX w s := by
  refine ⟨?_, vx_Zqof (hts _ tl_UN) (hts _ ti_Thr) (hq _ tr_UN) hA, vx_Zqof (hts _ tl_SU) (hts _ ti_Thr) (hq _ tr_SU) hA, ?_, ?_, ?_⟩
  · exact List.forall_mem_cons.mpr ⟨en_str (hts _ tx_48) (hq _ tq_48), List.forall_mem_cons.mpr ⟨en_str (hts _ tx_59) (hq _ tq_59), List.forall_mem_cons.mpr ⟨en_str (hts _ tx_67) (hq _ tq_67), List.forall_mem_cons.mpr ⟨en_str (hts _ tx_78) (hq _ tq_78), List.forall_mem_cons.mpr ⟨en_str (hts _ tx_84) (hq _ tq_84), List.forall_mem_cons.mpr ⟨en_str (hts _ tx_93) (hq _ tq_93), List.forall_mem_cons.mpr ⟨en_str (hts _ tx_98) (hq _ tq_98), List.forall_mem_cons.mpr ⟨en_str (hts _ tx_109) (hq _ tq_109), List.forall_mem_cons.mpr ⟨en_str (hts _ tx_115) (hq _ tq_115), List.forall_mem_cons.mpr ⟨en_str (hts _ tx_124) (hq _ tq_124), List.forall_mem_cons.mpr ⟨en_str (hts _ tx_132) (hq _ tq_132), List.forall_mem_cons.mpr ⟨en_str (hts _ tx_137) (hq _ tq_137), List.forall_mem_cons.mpr ⟨en_str (hts _ tx_154) (hq _ tq_154), List.forall_mem_cons.mpr ⟨en_str (hts _ tx_163) (hq _ tq_163), List.forall_mem_cons.mpr ⟨en_str (hts _ tx_172) (hq _ tq_172), List.forall_mem_cons.mpr ⟨en_str (hts _ tx_178) (hq _ tq_178), List.forall_mem_cons.mpr ⟨en_str (hts _ tx_190) (hq _ tq_190), List.forall_mem_cons.mpr ⟨en_str (hts _ tx_198) (hq _ tq_198), List.forall_mem_cons.mpr ⟨en_str (hts _ tx_203) (hq _ tq_203), List.forall_mem_cons.mpr ⟨en_str (hts _ tx_211) (hq _ tq_211), List.forall_mem_cons.mpr ⟨en_str (hts _ tx_213) (hq _ tq_213), List.forall_mem_cons.mpr ⟨en_str (hts _ tx_218) (hq _ tq_218), List.forall_mem_cons.mpr ⟨en_str (hts _ tx_223) (hq _ tq_223), List.forall_mem_cons.mpr ⟨en_str (hts _ tx_231) (hq _ tq_231), fun x hx => absurd hx List.not_mem_nil⟩⟩⟩⟩⟩⟩⟩⟩⟩⟩⟩⟩⟩⟩⟩⟩⟩⟩⟩⟩⟩⟩⟩⟩
  · exact List.forall_mem_cons.mpr ⟨va_Nw.of rfl (hts _ (tb_mem 478 (by decide +kernel))), List.forall_mem_cons.mpr ⟨va_Nw.of rfl (hts _ (tb_mem 546 (by decide +kernel))), List.forall_mem_cons.mpr ⟨va_Nw.of rfl (hts _ (tb_mem 562 (by decide +kernel))), fun x hx => absurd hx List.not_mem_nil⟩⟩⟩
  · exact List.forall_mem_cons.mpr ⟨List.forall_mem_cons.mpr ⟨fun h => absurd rfl h, List.forall_mem_cons.mpr ⟨fun _ => va_Nc.of (hq _ tn_01), List.forall_mem_cons.mpr ⟨fun _ => va_Nc.of (hq _ tn_02), fun x hx => absurd hx List.not_mem_nil⟩⟩⟩, List.forall_mem_cons.mpr ⟨List.forall_mem_cons.mpr ⟨fun _ => va_Nc.of (hq _ tn_10), List.forall_mem_cons.mpr ⟨fun h => absurd rfl h, List.forall_mem_cons.mpr ⟨fun _ => va_Nc.of (hq _ tn_12), fun x hx => absurd hx List.not_mem_nil⟩⟩⟩, List.forall_mem_cons.mpr ⟨List.forall_mem_cons.mpr ⟨fun _ => va_Nc.of (hq _ tn_20), List.forall_mem_cons.mpr ⟨fun _ => va_Nc.of (hq _ tn_21), List.forall_mem_cons.mpr ⟨fun h => absurd rfl h, fun x hx => absurd hx List.not_mem_nil⟩⟩⟩, fun x hx => absurd hx List.not_mem_nil⟩⟩⟩
  · exact List.forall_mem_cons.mpr ⟨va_Nw.of rfl (hts _ (tb_mem 480 (by decide +kernel))), List.forall_mem_cons.mpr ⟨va_Nw.of rfl (hts _ (tb_mem 482 (by decide +kernel))), List.forall_mem_cons.mpr ⟨va_Nw.of rfl (hts _ (tb_mem 484 (by decide +kernel))), fun x hx => absurd hx List.not_mem_nil⟩⟩⟩
/-- the tables' arrays, and the script -/
def enT (L : Nat) (xs : Nat → Int32) : Nat → Option (Nat × (Nat → Int32)) := fun k => if k = 3 then some (L, xs) else zST k
theorem enT_3 {L : Nat} {xs : Nat → Int32} : enT L xs 3 = some (L, xs) := if_pos rfl
theorem enT_z {L : Nat} {xs : Nat → Int32} (k : Nat) (a : Nat × (Nat → Int32)) (h : zST k = some a) : enT L xs k = some a := by
  unfold enT
  by_cases e : k = 3
  · rw [e] at h
    cases h
  · rw [if_neg e, h]
theorem en_KK {b L : Nat} {xs : Nat → Int32} (hts : ∀ x ∈ lw_tbl, x.before args s = true) (hq : ∀ x ∈ flatC (Jvm.Cond.and given_1 narrow_1), x.before args s = true) (hX : va_X b L xs s s.heap) (hbl : b < s.heap.size) : ∃ w : Wd, w.1 = s.heap.size ∧ w.2.1 3 = b ∧ w.2.2.2.2 = enT L xs ∧ KK w s := by
  obtain ⟨dC, dI, hK⟩ := en_cls hts
  obtain ⟨a0, a1, a2⟩ := en_arr (hts _ ta_int)
  obtain ⟨b0, b1, b2⟩ := en_arr (hts _ ta_long)
  obtain ⟨c0, c1, c2⟩ := en_over (hts _ ta_over)
  have hA : ∀ a : Nat, a < s.heap.size → ¬ s.heap.size ≤ a := fun a h => Nat.not_le.mpr h
  obtain ⟨t0, u0, v0⟩ := en_tab (A := fun q => s.heap.size ≤ q) (nm := "FIRST_SETTINGS") (fun j => match j with
    | 0 => 20
    | 1 => 1
    | 2 => 1
    | _ => 0) rfl rfl rfl rfl (hq _ tf_FIRSTa) (hq _ tf_FIRSTl) (hq _ tf_FIRST0) (hq _ tf_FIRST1) (hq _ tf_FIRST2) (hq _ tf_FIRST3) hA
  obtain ⟨t1, u1, v1⟩ := en_tab (A := fun q => s.heap.size ≤ q) (nm := "LEAST_SETTINGS") (fun j => match j with
    | 0 => 1
    | _ => 0) rfl rfl rfl rfl (hq _ tf_LEASTa) (hq _ tf_LEASTl) (hq _ tf_LEAST0) (hq _ tf_LEAST1) (hq _ tf_LEAST2) (hq _ tf_LEAST3) hA
  obtain ⟨t2, u2, v2⟩ := en_tab (A := fun q => s.heap.size ≤ q) (nm := "MOST_SETTINGS") (fun j => match j with
    | 0 => 100
    | 1 => 5
    | 2 => 9
    | _ => 2) rfl rfl rfl rfl (hq _ tf_MOSTa) (hq _ tf_MOSTl) (hq _ tf_MOST0) (hq _ tf_MOST1) (hq _ tf_MOST2) (hq _ tf_MOST3) hA
  refine ⟨(s.heap.size, fun k => if k = 0 then t0 else if k = 1 then t1 else if k = 2 then t2 else b, (dC, dI), fun k => if k = 0 then a0 else if k = 1 then b0 else c0, enT L xs), rfl, rfl, rfl, ⟨hK, fun k q hk => ?_⟩, fun k a hk => ?_, fun k hk => ?_, en_nest hts, va_AO.of (hts _ ta_over)⟩
  · match k, hk with
    | 0, hk => cases hk; exact ⟨a1, a2⟩
    | 1, hk => cases hk; exact ⟨b1, b2⟩
    | 2, hk => cases hk; exact ⟨c1, c2⟩
    | k + 3, hk => simp [ztys] at hk
  · have hk : enT L xs k = some a := hk
    match k, hk with
    | 0, hk => cases hk; exact ⟨by omega, v0⟩
    | 1, hk => cases hk; exact ⟨by omega, v1⟩
    | 2, hk => cases hk; exact ⟨by omega, v2⟩
    | 3, hk =>
      cases hk
      obtain ⟨scr, x1, x2, x3, x4, x5⟩ := hX
      exact ⟨by omega, scr, x1, x2, x3, by rw [x4]; exact Nat.le_refl _, by rw [x4], x5, Nat.not_le.mpr hbl⟩
    | k + 4, hk =>
      have e : enT L xs (k + 4) = none := if_neg (by omega)
      rw [e] at hk
      cases hk
  · match k, hk with
    | 0, _ => exact va_Zref (hts _ tl_FIRST) (hts _ ti_Slit) u0 hA
    | 1, _ => exact va_Zref (hts _ tl_LEAST) (hts _ ti_Slit) u1 hA
    | 2, _ => exact va_Zref (hts _ tl_MOST) (hts _ ti_Slit) u2 hA
    | k + 3, h => exact absurd h (by omega)
end
