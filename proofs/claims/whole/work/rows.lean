section
-- ===== PART A: goes FIRST, ahead of the names: the tables' words, and 'selects' of the private methods out of them =====
/-- a private method of a class that the tables say can be made, by its rows of tables_1 -/
def lw_okq (q : MethodName × Nat) : Prop := (q.1.cls ≠ "java/lang/invoke/MethodHandle" ∧ q.1.cls ≠ "java/lang/invoke/VarHandle") ∧ Cond.instantiable q.1.cls q.2 ∈ tables_1 ∧ Cond.privateMethod q.1 ∈ tables_1 ∧ Cond.instanceMethod q.1 ∈ tables_1
theorem lw_p0 : lw_okq (⟨"CoilSlits$History", "stateAt", "(I)LCoilSlits$Yard;"⟩, 3) := ⟨⟨by decide +kernel, by decide +kernel⟩, List.mem_of_getElem? (i := 95) (by decide +kernel), List.mem_of_getElem? (i := 165) (by decide +kernel), List.mem_of_getElem? (i := 166) (by decide +kernel)⟩
theorem lw_p1 : lw_okq (⟨"CoilSlits$Yard", "dearestBehind", "(II)I"⟩, 8) := ⟨⟨by decide +kernel, by decide +kernel⟩, List.mem_of_getElem? (i := 26) (by decide +kernel), List.mem_of_getElem? (i := 194) (by decide +kernel), List.mem_of_getElem? (i := 195) (by decide +kernel)⟩
theorem lw_p2 : lw_okq (⟨"CoilSlits$Yard", "widthTaken", "(I)I"⟩, 8) := ⟨⟨by decide +kernel, by decide +kernel⟩, List.mem_of_getElem? (i := 26) (by decide +kernel), List.mem_of_getElem? (i := 210) (by decide +kernel), List.mem_of_getElem? (i := 211) (by decide +kernel)⟩
theorem lw_p3 : lw_okq (⟨"CoilSlits$Yard", "mismatch", "(III)I"⟩, 8) := ⟨⟨by decide +kernel, by decide +kernel⟩, List.mem_of_getElem? (i := 26) (by decide +kernel), List.mem_of_getElem? (i := 218) (by decide +kernel), List.mem_of_getElem? (i := 219) (by decide +kernel)⟩
theorem lw_p4 : lw_okq (⟨"CoilSlits$Yard", "worthByRule", "(III)I"⟩, 8) := ⟨⟨by decide +kernel, by decide +kernel⟩, List.mem_of_getElem? (i := 26) (by decide +kernel), List.mem_of_getElem? (i := 230) (by decide +kernel), List.mem_of_getElem? (i := 231) (by decide +kernel)⟩
theorem lw_p5 : lw_okq (⟨"CoilSlits$Yard", "emptiestBeside", "(I)I"⟩, 8) := ⟨⟨by decide +kernel, by decide +kernel⟩, List.mem_of_getElem? (i := 26) (by decide +kernel), List.mem_of_getElem? (i := 245) (by decide +kernel), List.mem_of_getElem? (i := 246) (by decide +kernel)⟩
theorem lw_p6 : lw_okq (⟨"CoilSlits$Yard", "takeTop", "(I)V"⟩, 8) := ⟨⟨by decide +kernel, by decide +kernel⟩, List.mem_of_getElem? (i := 26) (by decide +kernel), List.mem_of_getElem? (i := 268) (by decide +kernel), List.mem_of_getElem? (i := 269) (by decide +kernel)⟩
theorem lw_p7 : lw_okq (⟨"CoilSlits$Yard", "putOnTop", "(IIIII)I"⟩, 8) := ⟨⟨by decide +kernel, by decide +kernel⟩, List.mem_of_getElem? (i := 26) (by decide +kernel), List.mem_of_getElem? (i := 273) (by decide +kernel), List.mem_of_getElem? (i := 274) (by decide +kernel)⟩
theorem lw_p8 : lw_okq (⟨"CoilSlits", "readBuffer", "()I"⟩, 6) := ⟨⟨by decide +kernel, by decide +kernel⟩, List.mem_of_getElem? (i := 18) (by decide +kernel), List.mem_of_getElem? (i := 293) (by decide +kernel), List.mem_of_getElem? (i := 294) (by decide +kernel)⟩
theorem lw_p9 : lw_okq (⟨"CoilSlits$CoilReader", "beginsPart", "(I)Z"⟩, 5) := ⟨⟨by decide +kernel, by decide +kernel⟩, List.mem_of_getElem? (i := 116) (by decide +kernel), List.mem_of_getElem? (i := 306) (by decide +kernel), List.mem_of_getElem? (i := 307) (by decide +kernel)⟩
theorem lw_p10 : lw_okq (⟨"CoilSlits$CoilReader", "expects", "(I)Z"⟩, 5) := ⟨⟨by decide +kernel, by decide +kernel⟩, List.mem_of_getElem? (i := 116) (by decide +kernel), List.mem_of_getElem? (i := 310) (by decide +kernel), List.mem_of_getElem? (i := 311) (by decide +kernel)⟩
theorem lw_p11 : lw_okq (⟨"CoilSlits$CoilReader", "widens", "(I)Z"⟩, 5) := ⟨⟨by decide +kernel, by decide +kernel⟩, List.mem_of_getElem? (i := 116) (by decide +kernel), List.mem_of_getElem? (i := 314) (by decide +kernel), List.mem_of_getElem? (i := 315) (by decide +kernel)⟩
theorem lw_p12 : lw_okq (⟨"CoilSlits$CoilReader", "takesGrade", "(I)Z"⟩, 5) := ⟨⟨by decide +kernel, by decide +kernel⟩, List.mem_of_getElem? (i := 116) (by decide +kernel), List.mem_of_getElem? (i := 321) (by decide +kernel), List.mem_of_getElem? (i := 322) (by decide +kernel)⟩
theorem lw_p13 : lw_okq (⟨"CoilSlits$CoilReader", "takesQuality", "(I)Z"⟩, 5) := ⟨⟨by decide +kernel, by decide +kernel⟩, List.mem_of_getElem? (i := 116) (by decide +kernel), List.mem_of_getElem? (i := 325) (by decide +kernel), List.mem_of_getElem? (i := 326) (by decide +kernel)⟩
theorem lw_p14 : lw_okq (⟨"CoilSlits$CoilReader", "takesStack", "(I)Z"⟩, 5) := ⟨⟨by decide +kernel, by decide +kernel⟩, List.mem_of_getElem? (i := 116) (by decide +kernel), List.mem_of_getElem? (i := 333) (by decide +kernel), List.mem_of_getElem? (i := 334) (by decide +kernel)⟩
theorem lw_p15 : lw_okq (⟨"CoilSlits$CoilReader", "goesOn", "(I)Z"⟩, 5) := ⟨⟨by decide +kernel, by decide +kernel⟩, List.mem_of_getElem? (i := 116) (by decide +kernel), List.mem_of_getElem? (i := 337) (by decide +kernel), List.mem_of_getElem? (i := 338) (by decide +kernel)⟩
def lw_privs_1 : List (MethodName × Nat) := [(⟨"CoilSlits$History", "stateAt", "(I)LCoilSlits$Yard;"⟩, 3), (⟨"CoilSlits$Yard", "dearestBehind", "(II)I"⟩, 8), (⟨"CoilSlits$Yard", "widthTaken", "(I)I"⟩, 8), (⟨"CoilSlits$Yard", "mismatch", "(III)I"⟩, 8), (⟨"CoilSlits$Yard", "worthByRule", "(III)I"⟩, 8), (⟨"CoilSlits$Yard", "emptiestBeside", "(I)I"⟩, 8), (⟨"CoilSlits$Yard", "takeTop", "(I)V"⟩, 8), (⟨"CoilSlits$Yard", "putOnTop", "(IIIII)I"⟩, 8), (⟨"CoilSlits", "readBuffer", "()I"⟩, 6), (⟨"CoilSlits$CoilReader", "beginsPart", "(I)Z"⟩, 5), (⟨"CoilSlits$CoilReader", "expects", "(I)Z"⟩, 5), (⟨"CoilSlits$CoilReader", "widens", "(I)Z"⟩, 5), (⟨"CoilSlits$CoilReader", "takesGrade", "(I)Z"⟩, 5), (⟨"CoilSlits$CoilReader", "takesQuality", "(I)Z"⟩, 5), (⟨"CoilSlits$CoilReader", "takesStack", "(I)Z"⟩, 5), (⟨"CoilSlits$CoilReader", "goesOn", "(I)Z"⟩, 5)]
theorem lw_r1 : ∀ q ∈ lw_privs_1, lw_okq q := List.forall_mem_cons.mpr ⟨lw_p0, List.forall_mem_cons.mpr ⟨lw_p1, List.forall_mem_cons.mpr ⟨lw_p2, List.forall_mem_cons.mpr ⟨lw_p3, List.forall_mem_cons.mpr ⟨lw_p4, List.forall_mem_cons.mpr ⟨lw_p5, List.forall_mem_cons.mpr ⟨lw_p6, List.forall_mem_cons.mpr ⟨lw_p7, List.forall_mem_cons.mpr ⟨lw_p8, List.forall_mem_cons.mpr ⟨lw_p9, List.forall_mem_cons.mpr ⟨lw_p10, List.forall_mem_cons.mpr ⟨lw_p11, List.forall_mem_cons.mpr ⟨lw_p12, List.forall_mem_cons.mpr ⟨lw_p13, List.forall_mem_cons.mpr ⟨lw_p14, List.forall_mem_cons.mpr ⟨lw_p15, fun _ h => absurd h List.not_mem_nil⟩⟩⟩⟩⟩⟩⟩⟩⟩⟩⟩⟩⟩⟩⟩⟩
theorem lw_p16 : lw_okq (⟨"CoilSlits", "beginTrial", "(I)V"⟩, 6) := ⟨⟨by decide +kernel, by decide +kernel⟩, List.mem_of_getElem? (i := 18) (by decide +kernel), List.mem_of_getElem? (i := 345) (by decide +kernel), List.mem_of_getElem? (i := 346) (by decide +kernel)⟩
theorem lw_p17 : lw_okq (⟨"CoilSlits", "counted", "(I)I"⟩, 6) := ⟨⟨by decide +kernel, by decide +kernel⟩, List.mem_of_getElem? (i := 18) (by decide +kernel), List.mem_of_getElem? (i := 383) (by decide +kernel), List.mem_of_getElem? (i := 384) (by decide +kernel)⟩
theorem lw_p18 : lw_okq (⟨"CoilSlits", "hashedPlace", "(JI)J"⟩, 6) := ⟨⟨by decide +kernel, by decide +kernel⟩, List.mem_of_getElem? (i := 18) (by decide +kernel), List.mem_of_getElem? (i := 411) (by decide +kernel), List.mem_of_getElem? (i := 412) (by decide +kernel)⟩
theorem lw_p19 : lw_okq (⟨"CoilSlits", "hashedOrder", "(JI)J"⟩, 6) := ⟨⟨by decide +kernel, by decide +kernel⟩, List.mem_of_getElem? (i := 18) (by decide +kernel), List.mem_of_getElem? (i := 423) (by decide +kernel), List.mem_of_getElem? (i := 424) (by decide +kernel)⟩
theorem lw_p20 : lw_okq (⟨"CoilSlits$Yard", "coilsSuiting", "(I)I"⟩, 8) := ⟨⟨by decide +kernel, by decide +kernel⟩, List.mem_of_getElem? (i := 26) (by decide +kernel), List.mem_of_getElem? (i := 431) (by decide +kernel), List.mem_of_getElem? (i := 432) (by decide +kernel)⟩
theorem lw_p21 : lw_okq (⟨"CoilSlits$Yard", "suits", "(III)Z"⟩, 8) := ⟨⟨by decide +kernel, by decide +kernel⟩, List.mem_of_getElem? (i := 26) (by decide +kernel), List.mem_of_getElem? (i := 435) (by decide +kernel), List.mem_of_getElem? (i := 436) (by decide +kernel)⟩
theorem lw_p22 : lw_okq (⟨"CoilSlits$Yard", "stripsFitting", "(I)I"⟩, 8) := ⟨⟨by decide +kernel, by decide +kernel⟩, List.mem_of_getElem? (i := 26) (by decide +kernel), List.mem_of_getElem? (i := 439) (by decide +kernel), List.mem_of_getElem? (i := 440) (by decide +kernel)⟩
theorem lw_p23 : lw_okq (⟨"CoilSlits", "numberOfChoice", "(I)I"⟩, 6) := ⟨⟨by decide +kernel, by decide +kernel⟩, List.mem_of_getElem? (i := 18) (by decide +kernel), List.mem_of_getElem? (i := 443) (by decide +kernel), List.mem_of_getElem? (i := 444) (by decide +kernel)⟩
theorem lw_p24 : lw_okq (⟨"CoilSlits", "gainOfTrial", "(I)I"⟩, 6) := ⟨⟨by decide +kernel, by decide +kernel⟩, List.mem_of_getElem? (i := 18) (by decide +kernel), List.mem_of_getElem? (i := 449) (by decide +kernel), List.mem_of_getElem? (i := 450) (by decide +kernel)⟩
theorem lw_p25 : lw_okq (⟨"CoilSlits", "gained", "(I)I"⟩, 6) := ⟨⟨by decide +kernel, by decide +kernel⟩, List.mem_of_getElem? (i := 18) (by decide +kernel), List.mem_of_getElem? (i := 453) (by decide +kernel), List.mem_of_getElem? (i := 454) (by decide +kernel)⟩
theorem lw_p26 : lw_okq (⟨"java/lang/Throwable", "fillInStackTrace", "(I)Ljava/lang/Throwable;"⟩, 6) := ⟨⟨by decide +kernel, by decide +kernel⟩, List.mem_of_getElem? (i := 515) (by decide +kernel), List.mem_of_getElem? (i := 513) (by decide +kernel), List.mem_of_getElem? (i := 514) (by decide +kernel)⟩
theorem lw_p27 : lw_okq (⟨"CoilSlits", "bringInBuffer", "()I"⟩, 6) := ⟨⟨by decide +kernel, by decide +kernel⟩, List.mem_of_getElem? (i := 18) (by decide +kernel), List.mem_of_getElem? (i := 708) (by decide +kernel), List.mem_of_getElem? (i := 709) (by decide +kernel)⟩
theorem lw_p28 : lw_okq (⟨"CoilSlitsModel", "fails", "(I)I"⟩, 11) := ⟨⟨by decide +kernel, by decide +kernel⟩, List.mem_of_getElem? (i := 811) (by decide +kernel), List.mem_of_getElem? (i := 859) (by decide +kernel), List.mem_of_getElem? (i := 860) (by decide +kernel)⟩
theorem lw_p29 : lw_okq (⟨"CoilSlitsModel", "saves", "()V"⟩, 11) := ⟨⟨by decide +kernel, by decide +kernel⟩, List.mem_of_getElem? (i := 811) (by decide +kernel), List.mem_of_getElem? (i := 873) (by decide +kernel), List.mem_of_getElem? (i := 874) (by decide +kernel)⟩
theorem lw_p30 : lw_okq (⟨"CoilSlitsModel", "comes", "(IIII)I"⟩, 11) := ⟨⟨by decide +kernel, by decide +kernel⟩, List.mem_of_getElem? (i := 811) (by decide +kernel), List.mem_of_getElem? (i := 877) (by decide +kernel), List.mem_of_getElem? (i := 878) (by decide +kernel)⟩
theorem lw_p31 : lw_okq (⟨"CoilSlitsModel", "mayDig", "(I)I"⟩, 11) := ⟨⟨by decide +kernel, by decide +kernel⟩, List.mem_of_getElem? (i := 811) (by decide +kernel), List.mem_of_getElem? (i := 910) (by decide +kernel), List.mem_of_getElem? (i := 911) (by decide +kernel)⟩
def lw_privs_2 : List (MethodName × Nat) := [(⟨"CoilSlits", "beginTrial", "(I)V"⟩, 6), (⟨"CoilSlits", "counted", "(I)I"⟩, 6), (⟨"CoilSlits", "hashedPlace", "(JI)J"⟩, 6), (⟨"CoilSlits", "hashedOrder", "(JI)J"⟩, 6), (⟨"CoilSlits$Yard", "coilsSuiting", "(I)I"⟩, 8), (⟨"CoilSlits$Yard", "suits", "(III)Z"⟩, 8), (⟨"CoilSlits$Yard", "stripsFitting", "(I)I"⟩, 8), (⟨"CoilSlits", "numberOfChoice", "(I)I"⟩, 6), (⟨"CoilSlits", "gainOfTrial", "(I)I"⟩, 6), (⟨"CoilSlits", "gained", "(I)I"⟩, 6), (⟨"java/lang/Throwable", "fillInStackTrace", "(I)Ljava/lang/Throwable;"⟩, 6), (⟨"CoilSlits", "bringInBuffer", "()I"⟩, 6), (⟨"CoilSlitsModel", "fails", "(I)I"⟩, 11), (⟨"CoilSlitsModel", "saves", "()V"⟩, 11), (⟨"CoilSlitsModel", "comes", "(IIII)I"⟩, 11), (⟨"CoilSlitsModel", "mayDig", "(I)I"⟩, 11)]
theorem lw_r2 : ∀ q ∈ lw_privs_2, lw_okq q := List.forall_mem_cons.mpr ⟨lw_p16, List.forall_mem_cons.mpr ⟨lw_p17, List.forall_mem_cons.mpr ⟨lw_p18, List.forall_mem_cons.mpr ⟨lw_p19, List.forall_mem_cons.mpr ⟨lw_p20, List.forall_mem_cons.mpr ⟨lw_p21, List.forall_mem_cons.mpr ⟨lw_p22, List.forall_mem_cons.mpr ⟨lw_p23, List.forall_mem_cons.mpr ⟨lw_p24, List.forall_mem_cons.mpr ⟨lw_p25, List.forall_mem_cons.mpr ⟨lw_p26, List.forall_mem_cons.mpr ⟨lw_p27, List.forall_mem_cons.mpr ⟨lw_p28, List.forall_mem_cons.mpr ⟨lw_p29, List.forall_mem_cons.mpr ⟨lw_p30, List.forall_mem_cons.mpr ⟨lw_p31, fun _ h => absurd h List.not_mem_nil⟩⟩⟩⟩⟩⟩⟩⟩⟩⟩⟩⟩⟩⟩⟩⟩
theorem lw_p32 : lw_okq (⟨"CoilSlitsModel", "isText", "()Z"⟩, 11) := ⟨⟨by decide +kernel, by decide +kernel⟩, List.mem_of_getElem? (i := 811) (by decide +kernel), List.mem_of_getElem? (i := 1005) (by decide +kernel), List.mem_of_getElem? (i := 1006) (by decide +kernel)⟩
theorem lw_p33 : lw_okq (⟨"CoilSlitsModel", "isPart", "()Z"⟩, 11) := ⟨⟨by decide +kernel, by decide +kernel⟩, List.mem_of_getElem? (i := 811) (by decide +kernel), List.mem_of_getElem? (i := 1009) (by decide +kernel), List.mem_of_getElem? (i := 1010) (by decide +kernel)⟩
theorem lw_p34 : lw_okq (⟨"CoilSlitsModel", "isWidth", "()Z"⟩, 11) := ⟨⟨by decide +kernel, by decide +kernel⟩, List.mem_of_getElem? (i := 811) (by decide +kernel), List.mem_of_getElem? (i := 1013) (by decide +kernel), List.mem_of_getElem? (i := 1014) (by decide +kernel)⟩
theorem lw_p35 : lw_okq (⟨"CoilSlitsModel", "isNext", "(II)Z"⟩, 11) := ⟨⟨by decide +kernel, by decide +kernel⟩, List.mem_of_getElem? (i := 811) (by decide +kernel), List.mem_of_getElem? (i := 1017) (by decide +kernel), List.mem_of_getElem? (i := 1018) (by decide +kernel)⟩
theorem lw_p36 : lw_okq (⟨"CoilSlitsModel", "stops", "()Z"⟩, 11) := ⟨⟨by decide +kernel, by decide +kernel⟩, List.mem_of_getElem? (i := 811) (by decide +kernel), List.mem_of_getElem? (i := 1021) (by decide +kernel), List.mem_of_getElem? (i := 1022) (by decide +kernel)⟩
theorem lw_p37 : lw_okq (⟨"CoilSlitsModel", "isFigure", "(II)Z"⟩, 11) := ⟨⟨by decide +kernel, by decide +kernel⟩, List.mem_of_getElem? (i := 811) (by decide +kernel), List.mem_of_getElem? (i := 1025) (by decide +kernel), List.mem_of_getElem? (i := 1026) (by decide +kernel)⟩
theorem lw_p38 : lw_okq (⟨"CoilSlitsModel", "lowest", "()I"⟩, 11) := ⟨⟨by decide +kernel, by decide +kernel⟩, List.mem_of_getElem? (i := 811) (by decide +kernel), List.mem_of_getElem? (i := 1033) (by decide +kernel), List.mem_of_getElem? (i := 1034) (by decide +kernel)⟩
theorem lw_p39 : lw_okq (⟨"CoilSlitsModel", "coilAt", "(I)I"⟩, 11) := ⟨⟨by decide +kernel, by decide +kernel⟩, List.mem_of_getElem? (i := 811) (by decide +kernel), List.mem_of_getElem? (i := 1041) (by decide +kernel), List.mem_of_getElem? (i := 1042) (by decide +kernel)⟩
theorem lw_p40 : lw_okq (⟨"CoilSlitsModel", "ofCoil", "(II)I"⟩, 11) := ⟨⟨by decide +kernel, by decide +kernel⟩, List.mem_of_getElem? (i := 811) (by decide +kernel), List.mem_of_getElem? (i := 1049) (by decide +kernel), List.mem_of_getElem? (i := 1050) (by decide +kernel)⟩
theorem lw_p41 : lw_okq (⟨"CoilSlitsModel", "ofOrder", "(II)I"⟩, 11) := ⟨⟨by decide +kernel, by decide +kernel⟩, List.mem_of_getElem? (i := 811) (by decide +kernel), List.mem_of_getElem? (i := 1057) (by decide +kernel), List.mem_of_getElem? (i := 1058) (by decide +kernel)⟩
theorem lw_p42 : lw_okq (⟨"CoilSlitsModel", "counted", "(I)I"⟩, 11) := ⟨⟨by decide +kernel, by decide +kernel⟩, List.mem_of_getElem? (i := 811) (by decide +kernel), List.mem_of_getElem? (i := 1069) (by decide +kernel), List.mem_of_getElem? (i := 1070) (by decide +kernel)⟩
theorem lw_p43 : lw_okq (⟨"CoilSlitsModel", "ofCoils", "(I)I"⟩, 11) := ⟨⟨by decide +kernel, by decide +kernel⟩, List.mem_of_getElem? (i := 811) (by decide +kernel), List.mem_of_getElem? (i := 1073) (by decide +kernel), List.mem_of_getElem? (i := 1074) (by decide +kernel)⟩
theorem lw_p44 : lw_okq (⟨"CoilSlitsModel", "choiceFor", "(I)I"⟩, 11) := ⟨⟨by decide +kernel, by decide +kernel⟩, List.mem_of_getElem? (i := 811) (by decide +kernel), List.mem_of_getElem? (i := 1085) (by decide +kernel), List.mem_of_getElem? (i := 1086) (by decide +kernel)⟩
theorem lw_p45 : lw_okq (⟨"CoilSlitsModel", "byServing", "(III)I"⟩, 11) := ⟨⟨by decide +kernel, by decide +kernel⟩, List.mem_of_getElem? (i := 811) (by decide +kernel), List.mem_of_getElem? (i := 1093) (by decide +kernel), List.mem_of_getElem? (i := 1094) (by decide +kernel)⟩
theorem lw_p46 : lw_okq (⟨"CoilSlitsModel", "tries", "()V"⟩, 11) := ⟨⟨by decide +kernel, by decide +kernel⟩, List.mem_of_getElem? (i := 811) (by decide +kernel), List.mem_of_getElem? (i := 1097) (by decide +kernel), List.mem_of_getElem? (i := 1098) (by decide +kernel)⟩
theorem lw_p47 : lw_okq (⟨"CoilSlitsModel", "best", "()I"⟩, 11) := ⟨⟨by decide +kernel, by decide +kernel⟩, List.mem_of_getElem? (i := 811) (by decide +kernel), List.mem_of_getElem? (i := 1105) (by decide +kernel), List.mem_of_getElem? (i := 1106) (by decide +kernel)⟩
def lw_privs_3 : List (MethodName × Nat) := [(⟨"CoilSlitsModel", "isText", "()Z"⟩, 11), (⟨"CoilSlitsModel", "isPart", "()Z"⟩, 11), (⟨"CoilSlitsModel", "isWidth", "()Z"⟩, 11), (⟨"CoilSlitsModel", "isNext", "(II)Z"⟩, 11), (⟨"CoilSlitsModel", "stops", "()Z"⟩, 11), (⟨"CoilSlitsModel", "isFigure", "(II)Z"⟩, 11), (⟨"CoilSlitsModel", "lowest", "()I"⟩, 11), (⟨"CoilSlitsModel", "coilAt", "(I)I"⟩, 11), (⟨"CoilSlitsModel", "ofCoil", "(II)I"⟩, 11), (⟨"CoilSlitsModel", "ofOrder", "(II)I"⟩, 11), (⟨"CoilSlitsModel", "counted", "(I)I"⟩, 11), (⟨"CoilSlitsModel", "ofCoils", "(I)I"⟩, 11), (⟨"CoilSlitsModel", "choiceFor", "(I)I"⟩, 11), (⟨"CoilSlitsModel", "byServing", "(III)I"⟩, 11), (⟨"CoilSlitsModel", "tries", "()V"⟩, 11), (⟨"CoilSlitsModel", "best", "()I"⟩, 11)]
theorem lw_r3 : ∀ q ∈ lw_privs_3, lw_okq q := List.forall_mem_cons.mpr ⟨lw_p32, List.forall_mem_cons.mpr ⟨lw_p33, List.forall_mem_cons.mpr ⟨lw_p34, List.forall_mem_cons.mpr ⟨lw_p35, List.forall_mem_cons.mpr ⟨lw_p36, List.forall_mem_cons.mpr ⟨lw_p37, List.forall_mem_cons.mpr ⟨lw_p38, List.forall_mem_cons.mpr ⟨lw_p39, List.forall_mem_cons.mpr ⟨lw_p40, List.forall_mem_cons.mpr ⟨lw_p41, List.forall_mem_cons.mpr ⟨lw_p42, List.forall_mem_cons.mpr ⟨lw_p43, List.forall_mem_cons.mpr ⟨lw_p44, List.forall_mem_cons.mpr ⟨lw_p45, List.forall_mem_cons.mpr ⟨lw_p46, List.forall_mem_cons.mpr ⟨lw_p47, fun _ h => absurd h List.not_mem_nil⟩⟩⟩⟩⟩⟩⟩⟩⟩⟩⟩⟩⟩⟩⟩⟩
theorem lw_p48 : lw_okq (⟨"CoilSlitsModel", "bestPlace", "()I"⟩, 11) := ⟨⟨by decide +kernel, by decide +kernel⟩, List.mem_of_getElem? (i := 811) (by decide +kernel), List.mem_of_getElem? (i := 1113) (by decide +kernel), List.mem_of_getElem? (i := 1114) (by decide +kernel)⟩
theorem lw_p49 : lw_okq (⟨"CoilSlitsModel", "wider", "(I)I"⟩, 11) := ⟨⟨by decide +kernel, by decide +kernel⟩, List.mem_of_getElem? (i := 811) (by decide +kernel), List.mem_of_getElem? (i := 1117) (by decide +kernel), List.mem_of_getElem? (i := 1118) (by decide +kernel)⟩
theorem lw_p50 : lw_okq (⟨"CoilSlitsModel", "share", "()D"⟩, 11) := ⟨⟨by decide +kernel, by decide +kernel⟩, List.mem_of_getElem? (i := 811) (by decide +kernel), List.mem_of_getElem? (i := 1125) (by decide +kernel), List.mem_of_getElem? (i := 1126) (by decide +kernel)⟩
def lw_privs_4 : List (MethodName × Nat) := [(⟨"CoilSlitsModel", "bestPlace", "()I"⟩, 11), (⟨"CoilSlitsModel", "wider", "(I)I"⟩, 11), (⟨"CoilSlitsModel", "share", "()D"⟩, 11)]
theorem lw_r4 : ∀ q ∈ lw_privs_4, lw_okq q := List.forall_mem_cons.mpr ⟨lw_p48, List.forall_mem_cons.mpr ⟨lw_p49, List.forall_mem_cons.mpr ⟨lw_p50, fun _ h => absurd h List.not_mem_nil⟩⟩⟩
def lw_privs : List (MethodName × Nat) := lw_privs_1 ++ (lw_privs_2 ++ (lw_privs_3 ++ (lw_privs_4)))
def lw_tbl : List Cond := k2_sels lw_privs ++ tables_1
theorem lw_privs_ok : ∀ q ∈ lw_privs, lw_okq q := by
  show ∀ q ∈ lw_privs_1 ++ (lw_privs_2 ++ (lw_privs_3 ++ (lw_privs_4))), lw_okq q
  exact List.forall_mem_append.mpr ⟨lw_r1, List.forall_mem_append.mpr ⟨lw_r2, List.forall_mem_append.mpr ⟨lw_r3, lw_r4⟩⟩⟩
/-- the streams that the claim lets the run draw from -/
abbrev lw_cs : List Choice := [Jvm.Choice.named "NaN.bits"]
theorem lw_bits : nanBits ∈ lw_cs := by first | decide | exact List.mem_cons_self | simp [lw_cs, nanBits]
end
section
/-! ===== a small machine of pictures: states are (locals, stack, heap picture); its soundness over the kit's W ===== -/
-- the classes whose objects the pictures hold
def F_Row : u_T := fun k => match k with
  | _ => ("CoilSlits$Row", "cells", "[I", true)
def t_Row : Nat → FieldType := fun k => match k with
  | _ => .array .int
def F_Grid : u_T := fun k => match k with
  | 0 => ("CoilSlits$Grid", "columns", "I", true)
  | _ => ("CoilSlits$Grid", "cells", "[I", true)
def t_Grid : Nat → FieldType := fun k => match k with
  | 0 => .int
  | _ => .array .int
def F_Yard : u_T := fun k => match k with
  | 0 => ("CoilSlits$Yard", "coils", "LCoilSlits$Grid;", true)
  | 1 => ("CoilSlits$Yard", "heights", "LCoilSlits$Row;", true)
  | 2 => ("CoilSlits$Yard", "orders", "LCoilSlits$Grid;", true)
  | 3 => ("CoilSlits$Yard", "settings", "LCoilSlits$Row;", true)
  | 4 => ("CoilSlits$Yard", "tallies", "LCoilSlits$Row;", true)
  | 5 => ("CoilSlits$Yard", "orderCount", "I", false)
  | 6 => ("CoilSlits$Yard", "nextCoil", "I", false)
  | _ => ("CoilSlits$Yard", "nextOrder", "I", false)
def t_Yard : Nat → FieldType := fun k => match k with
  | 0 => .object "CoilSlits$Grid"
  | 1 => .object "CoilSlits$Row"
  | 2 => .object "CoilSlits$Grid"
  | 3 => .object "CoilSlits$Row"
  | 4 => .object "CoilSlits$Row"
  | _ => .int
def F_History : u_T := fun k => match k with
  | 0 => ("CoilSlits$History", "states", "[LCoilSlits$Yard;", true)
  | 1 => ("CoilSlits$History", "next", "I", false)
  | _ => ("CoilSlits$History", "kept", "I", false)
def t_History : Nat → FieldType := fun k => match k with
  | 0 => .array (.object "CoilSlits$Yard")
  | _ => .int
def F_Reader : u_T := fun k => match k with
  | 0 => ("CoilSlits$CoilReader", "expected", "I", false)
  | 1 => ("CoilSlits$CoilReader", "width", "I", false)
  | 2 => ("CoilSlits$CoilReader", "grade", "I", false)
  | 3 => ("CoilSlits$CoilReader", "quality", "I", false)
  | _ => ("CoilSlits$CoilReader", "stack", "I", false)
def t_Reader : Nat → FieldType := fun _ => .int
def F_Slits : u_T := fun k => match k with
  | 0 => ("CoilSlits", "yard", "LCoilSlits$Yard;", true)
  | 1 => ("CoilSlits", "trial", "LCoilSlits$Yard;", true)
  | 2 => ("CoilSlits", "history", "LCoilSlits$History;", true)
  | 3 => ("CoilSlits", "buffer", "LCoilSlits$Row;", true)
  | 4 => ("CoilSlits", "reader", "LCoilSlits$CoilReader;", true)
  | _ => ("CoilSlits", "length", "I", false)
def t_Slits : Nat → FieldType := fun k => match k with
  | 0 => .object "CoilSlits$Yard"
  | 1 => .object "CoilSlits$Yard"
  | 2 => .object "CoilSlits$History"
  | 3 => .object "CoilSlits$Row"
  | 4 => .object "CoilSlits$CoilReader"
  | _ => .int
def F_Model : u_T := fun k => match k with
  | 0 => ("CoilSlitsModel", "now", "[I", true)
  | 1 => ("CoilSlitsModel", "then", "[I", true)
  | 2 => ("CoilSlitsModel", "past", "[I", true)
  | 3 => ("CoilSlitsModel", "kept", "I", false)
  | 4 => ("CoilSlitsModel", "text", "[I", true)
  | 5 => ("CoilSlitsModel", "typed", "I", false)
  | 6 => ("CoilSlitsModel", "thrown", "I", false)
  | 7 => ("CoilSlitsModel", "at", "I", false)
  | 8 => ("CoilSlitsModel", "isFault", "Z", false)
  | 9 => ("CoilSlitsModel", "told", "[I", true)
  | _ => ("CoilSlitsModel", "tolds", "I", false)
def t_Model : Nat → FieldType := fun k => match k with
  | 0 => .array .int
  | 1 => .array .int
  | 2 => .array .int
  | 3 => .int
  | 4 => .array .int
  | 5 => .int
  | 6 => .int
  | 7 => .int
  | 8 => .boolean
  | 9 => .array .int
  | _ => .int
abbrev zcl : List vw_C := [("CoilSlits$Row", F_Row, 1), ("CoilSlits$Grid", F_Grid, 2), ("CoilSlits$Yard", F_Yard, 8), ("CoilSlits$History", F_History, 3), ("CoilSlits$CoilReader", F_Reader, 5), ("CoilSlits", F_Slits, 6), ("CoilSlitsModel", F_Model, 11)]
def zty (ci : Nat) : Nat → FieldType := match ci with
  | 0 => t_Row
  | 1 => t_Grid
  | 2 => t_Yard
  | 3 => t_History
  | 4 => t_Reader
  | 5 => t_Slits
  | _ => t_Model
theorem zty_ok : ∀ ci, ci < 7 → ∀ k, k < ((zcl[ci]?).getD ("", F_Row, 0)).2.2 → parseFieldDescriptor (((zcl[ci]?).getD ("", F_Row, 0)).2.1 k).2.2.1 = some (zty ci k) := by decide +kernel
theorem znm_ok : ∀ ci, ci < 7 → ∀ a, a < ((zcl[ci]?).getD ("", F_Row, 0)).2.2 → ∀ b, b < ((zcl[ci]?).getD ("", F_Row, 0)).2.2 → a ≠ b → (((zcl[ci]?).getD ("", F_Row, 0)).2.1 a).2.1 ≠ (((zcl[ci]?).getD ("", F_Row, 0)).2.1 b).2.1 := by decide +kernel
theorem zdc_ok : ∀ ci, ci < 7 → ∀ k, k < ((zcl[ci]?).getD ("", F_Row, 0)).2.2 → (((zcl[ci]?).getD ("", F_Row, 0)).2.1 k).1 = ((zcl[ci]?).getD ("", F_Row, 0)).1 := by decide +kernel
theorem zlay_ok : ∀ ci, ci < 7 → ∀ w ∈ u_ws ((zcl[ci]?).getD ("", F_Row, 0)).1 ((zcl[ci]?).getD ("", F_Row, 0)).2.1 ((zcl[ci]?).getD ("", F_Row, 0)).2.2, w ∈ lw_tbl := by decide +kernel
end
section
/-! ===== pictures of the heap; locals; the goal at a place ===== -/
/-- base address; addresses of the static arrays (0, 1, 2) and of the script (3); class ids and slots; ids of the array classes; what the static arrays hold -/
abbrev Wd : Type := Nat × (Nat → Nat) × va_G × (Nat → ClassId) × (Nat → Option (Nat × (Nat → Int32)))
def zad (w : Wd) (k : Nat) : Nat := if k < 4 then w.2.1 k else w.1 + (k - 4)
def ztv (w : Wd) : Value → Value
  | .ref k => .ref (zad w k)
  | v => v
theorem zad_ge {w : Wd} {k : Nat} (h : 4 ≤ k) : w.1 ≤ zad w k := by
  unfold zad; rw [if_neg (by omega)]; omega
theorem zad_ne {w : Wd} {k j : Nat} (h : 4 ≤ k) (hj : 4 ≤ j) (hkj : k ≠ j) : zad w k ≠ zad w j := by
  unfold zad; rw [if_neg (by omega), if_neg (by omega)]; omega
theorem ztv_cat (w : Wd) (v : Value) : (ztv w v).category = v.category := by cases v <;> rfl
abbrev Cel : Type := ((Nat × (Nat → Int32)) ⊕ (Nat × (Nat → Int64)) ⊕ (Nat × (Nat → Option Nat))) ⊕ (Nat × List Value)
abbrev cI (n : Nat) (f : Nat → Int32) : Cel := .inl (.inl (n, f))
abbrev cJ (n : Nat) (f : Nat → Int64) : Cel := .inl (.inr (.inl (n, f)))
abbrev cR (n : Nat) (f : Nat → Option Nat) : Cel := .inl (.inr (.inr (n, f)))
abbrev cO (ci : Nat) (fs : List Value) : Cel := .inr (ci, fs)
abbrev Hp : Type := Nat → Option Cel
/-- the picture, and the place of the next cell (0: it isn't known) -/
abbrev G : Type := Hp × Nat
abbrev St : Type := List (Option Value) × List Value × G
abbrev Out : Type := Option Value ⊕ String
abbrev Ex : Type := List Value → G → Option (Out × G)
def zup (M : Hp) (k : Nat) (c : Cel) : Hp := fun q => if q = k then some c else M q
def zenc (w : Wd) (c : Cel) : va_E := match c with
  | .inl (.inl a) => .inl (w.2.2.2.1 0, a.1, .inl a.2)
  | .inl (.inr (.inl a)) => .inl (w.2.2.2.1 1, a.1, .inr (.inl a.2))
  | .inl (.inr (.inr a)) => .inl (w.2.2.2.1 2, a.1, .inr (.inr (.inr (.inr (fun j => (a.2 j).map (zad w))))))
  | .inr o => .inr (o.1, o.2.map (ztv w))
def zat (w : Wd) (k : Nat) (c : Cel) (H : Heap) : Prop := va_at w.2.2.1 zcl (zad w k, zenc w c) H
def RepG (w : Wd) (g : G) (H : Heap) : Prop := (∀ k c, g.1 k = some c → 4 ≤ k ∧ zat w k c H) ∧ w.1 ≤ H.size ∧ (g.2 ≠ 0 → 4 ≤ g.2 ∧ H.size = zad w g.2)
abbrev zA (w : Wd) : Nat → Prop := fun q => w.1 ≤ q
abbrev ztys (w : Wd) : List (ClassId × FieldType) := [(w.2.2.2.1 0, .int), (w.2.2.2.1 1, .long), (w.2.2.2.1 2, .object "CoilSlits$Yard")]
def zsn (k : Nat) : String := match k with
  | 0 => "FIRST_SETTINGS"
  | 1 => "LEAST_SETTINGS"
  | _ => "MOST_SETTINGS"
/-- links between nest mates: these words aren't kept by every step, but by warming -/
def zN : List Cond := [.fieldLinkNest "CoilSlits$Yard" 42 "CoilSlits" "FIRST_SETTINGS" "[I" "CoilSlits", .methodLinkNest "CoilSlits" 37 ⟨"CoilSlits$CoilReader", "<init>", "()V"⟩ "CoilSlits", .methodLinkNest "CoilSlits$Yard" 72 ⟨"CoilSlits", "stackOf", "(I)I"⟩ "CoilSlits", .methodLinkNest "CoilSlits$CoilReader" 37 ⟨"CoilSlits", "within", "(III)Z"⟩ "CoilSlits", .methodLinkNest "CoilSlits$CoilReader" 47 ⟨"CoilSlits", "isStack", "(I)Z"⟩ "CoilSlits"]
/-- what the tables and the statics say: of any state of the run -/
def KK (w : Wd) (U : State) : Prop := va_K w.2.2.1 zcl (ztys w) U ∧ (∀ k a, w.2.2.2.2 k = some a → k < 4 ∧ va_T .int (zad w k) a.1 (fun j => .int (a.2 j)) (zA w) U U.heap) ∧ (∀ k, k < 3 → va_Z "CoilSlits" (zsn k) "[I" (.ref (zad w k)) (zA w) U U.heap) ∧ (∀ x ∈ zN, va_Nw x U) ∧ va_AO "CoilSlits$Yard" U
theorem zN_warm {s U : State} (hW : s.WarmedH U.vm) (h : ∀ x ∈ zN, va_Nw x s) : ∀ x ∈ zN, va_Nw x U := by
  intro x hx
  have h1 := h x hx
  simp only [zN, List.mem_cons, List.not_mem_nil, or_false] at hx
  rcases hx with rfl | rfl | rfl | rfl | rfl
  · exact va_Nw.warmF hW h1
  · exact va_Nw.warmM hW h1
  · exact va_Nw.warmM hW h1
  · exact va_Nw.warmM hW h1
  · exact va_Nw.warmM hW h1
theorem KK.warm {w : Wd} {u U : State} (hW : u.WarmedH U.vm) (hq : ∀ a : Nat, a < u.heap.size → ¬ zA w a → U.heap[a]? = u.heap[a]?) (h : KK w u) : KK w U :=
  ⟨va_K.moved hW.alike h.1, fun k a hk => ⟨(h.2.1 k a hk).1, va_T.kept (va_T.moved hW.alike (h.2.1 k a hk).2) hq⟩, fun k hk => va_Z.kept (va_Z.moved hW.alike (h.2.2.1 k hk)) hq, zN_warm hW h.2.2.2.1, h.2.2.2.2.moved hW.alike⟩
/-- the locals: b says that none is of two words -/
def LvR (w : Wd) (b : Bool) (ls : Array Slot) (L : List (Option Value)) : Prop := lv_wf ls ∧ ls.size = L.length ∧ (∀ (i : Nat) (v : Value), L[i]? = some (some v) → ls[i]? = some (.val (ztv w v))) ∧ (b = true → ∀ (i : Nat) (v : Value), L[i]? = some (some v) → v.category = 1)
def lvl (w : Wd) (L : List (Option Value)) : List (Nat × Value) := (List.range L.length).filterMap (fun i => ((L[i]?).join).map (fun v => (i, ztv w v)))
theorem lvl_mem {w : Wd} {L : List (Option Value)} {i : Nat} {u : Value} : (i, u) ∈ lvl w L ↔ ∃ v, L[i]? = some (some v) ∧ u = ztv w v := by
  simp only [lvl, List.mem_filterMap, List.mem_range, Option.map_eq_some_iff, Option.join_eq_some_iff]
  constructor
  · rintro ⟨a, _, v, hv, he⟩
    cases he
    exact ⟨v, hv, rfl⟩
  · rintro ⟨v, hv, rfl⟩
    exact ⟨i, (List.getElem?_eq_some_iff.mp hv).1, v, hv, rfl⟩
theorem LvR.has {w : Wd} {b : Bool} {ls : Array Slot} {L : List (Option Value)} (h : LvR w b ls L) : lv_has ls L.length (lvl w L) :=
  ⟨h.2.1, h.1, fun q hq => by
    obtain ⟨i, u⟩ := q
    obtain ⟨v, hv, rfl⟩ := lvl_mem.mp hq
    exact h.2.2.1 i v hv⟩
def zcat2 (x : Option (Option Value)) : Bool := match x with
  | some (some (.long _)) => true
  | some (some (.double _)) => true
  | _ => false
/-- a store of one word, where no local is of two words; and where one may be -/
def stL (b : Bool) (L : List (Option Value)) (i : Nat) (v : Value) : List (Option Value) := match b with
  | true => L.set i (some v)
  | false => match i with
    | 0 => L.set 0 (some v)
    | j + 1 => match zcat2 L[j]? with
      | true => (L.set j none).set (j + 1) (some v)
      | false => L.set (j + 1) (some v)
def stL2 (L : List (Option Value)) (i : Nat) (v : Value) : List (Option Value) := match i with
  | 0 => (L.set 0 (some v)).set 1 none
  | j + 1 => match zcat2 L[j]? with
    | true => ((L.set j none).set (j + 1) (some v)).set (j + 2) none
    | false => (L.set (j + 1) (some v)).set (j + 2) none
theorem zcat2_iff {v : Value} : zcat2 (some (some v)) = true ↔ v.category = 2 := by cases v <;> simp [zcat2, Value.category]
theorem stL_len (b : Bool) (L : List (Option Value)) (i : Nat) (v : Value) : (stL b L i v).length = L.length := by
  unfold stL; repeat' split
  all_goals simp
theorem stL2_len (L : List (Option Value)) (i : Nat) (v : Value) : (stL2 L i v).length = L.length := by
  unfold stL2; repeat' split
  all_goals simp
theorem stL_get {b : Bool} {L : List (Option Value)} {i j : Nat} {v u : Value} (h : (stL b L i v)[j]? = some (some u)) : (j = i ∧ u = v) ∨ (j ≠ i ∧ L[j]? = some (some u) ∧ (b = false → j + 1 = i → u.category ≠ 2)) := by
  by_cases hji : j = i
  · subst hji
    left; refine ⟨rfl, ?_⟩
    unfold stL at h
    split at h
    · rw [List.getElem?_set] at h; simp at h; exact h.2.symm
    · split at h
      · rw [List.getElem?_set] at h; simp at h; exact h.2.symm
      · split at h
        · rw [List.getElem?_set] at h; simp at h; exact h.2.symm
        · rw [List.getElem?_set] at h; simp at h; exact h.2.symm
  · right; refine ⟨hji, ?_⟩
    unfold stL at h
    split at h
    · rw [List.getElem?_set_ne (Ne.symm hji)] at h
      exact ⟨h, fun hb => by cases hb⟩
    · split at h
      · rw [List.getElem?_set_ne (Ne.symm hji)] at h
        exact ⟨h, fun _ e => by omega⟩
      · rename_i k
        split at h
        · rename_i hz
          rw [List.getElem?_set_ne (Ne.symm hji)] at h
          by_cases hjk : j = k
          · subst hjk
            rw [List.getElem?_set] at h; simp at h
          · rw [List.getElem?_set_ne (Ne.symm hjk)] at h
            exact ⟨h, fun _ e => by omega⟩
        · rename_i hz
          rw [List.getElem?_set_ne (Ne.symm hji)] at h
          refine ⟨h, fun _ e => ?_⟩
          have hjk : j = k := by omega
          subst hjk
          rw [h] at hz
          intro h2
          rw [zcat2_iff.mpr h2] at hz
          cases hz
theorem stL2_get {L : List (Option Value)} {i j : Nat} {v u : Value} (h : (stL2 L i v)[j]? = some (some u)) : (j = i ∧ u = v) ∨ (j ≠ i ∧ j ≠ i + 1 ∧ L[j]? = some (some u) ∧ (j + 1 = i → u.category ≠ 2)) := by
  by_cases hj1 : j = i + 1
  · exfalso
    subst hj1
    unfold stL2 at h
    split at h
    · rw [List.getElem?_set] at h; simp at h
    · split at h
      · rw [List.getElem?_set] at h; simp at h
      · rw [List.getElem?_set] at h; simp at h
  by_cases hji : j = i
  · subst hji
    left; refine ⟨rfl, ?_⟩
    unfold stL2 at h
    split at h
    · rw [List.getElem?_set_ne (by omega), List.getElem?_set] at h; simp at h; exact h.2.symm
    · split at h
      · rw [List.getElem?_set_ne (by omega), List.getElem?_set] at h; simp at h; exact h.2.symm
      · rw [List.getElem?_set_ne (by omega), List.getElem?_set] at h; simp at h; exact h.2.symm
  · right; refine ⟨hji, hj1, ?_⟩
    unfold stL2 at h
    split at h
    · rw [List.getElem?_set_ne (by omega), List.getElem?_set_ne (Ne.symm hji)] at h
      exact ⟨h, fun e => by omega⟩
    · rename_i k
      split at h
      · rename_i hz
        rw [List.getElem?_set_ne (by omega), List.getElem?_set_ne (Ne.symm hji)] at h
        by_cases hjk : j = k
        · subst hjk
          rw [List.getElem?_set] at h; simp at h
        · rw [List.getElem?_set_ne (Ne.symm hjk)] at h
          exact ⟨h, fun e => by omega⟩
      · rename_i hz
        rw [List.getElem?_set_ne (by omega), List.getElem?_set_ne (Ne.symm hji)] at h
        refine ⟨h, fun e => ?_⟩
        have hjk : j = k := by omega
        subst hjk
        rw [h] at hz
        intro h2
        rw [zcat2_iff.mpr h2] at hz
        cases hz
theorem LvR.st1 {w : Wd} {b : Bool} {ls ls' : Array Slot} {L : List (Option Value)} {i : Nat} {v : Value} (h : LvR w b ls L) (hc : v.category = 1)
    (h' : lv_has ls' L.length ((i, ztv w v) :: (lvl w L).filter (fun q => !(q.1 == i) && !(q.1 + 1 == i && q.2.category == 2)))) : LvR w b ls' (stL b L i v) := by
  obtain ⟨e1, e2, e3⟩ := h'
  refine ⟨e2, by rw [e1, stL_len], fun j u hj => ?_, fun hb j u hj => ?_⟩
  · rcases stL_get hj with ⟨rfl, rfl⟩ | ⟨hne, hL, hk⟩
    · exact e3 (j, ztv w u) List.mem_cons_self
    · refine e3 (j, ztv w u) (List.mem_cons_of_mem _ (List.mem_filter.mpr ⟨lvl_mem.mpr ⟨u, hL, rfl⟩, ?_⟩))
      simp only [Bool.and_eq_true, Bool.not_eq_true', beq_eq_false_iff_ne, ne_eq, Bool.and_eq_false_iff, ztv_cat]
      refine ⟨hne, ?_⟩
      by_cases he : j + 1 = i
      · right
        cases b with
        | true => rw [h.2.2.2 rfl j u hL]; decide
        | false => exact hk rfl he
      · exact Or.inl he
  · rcases stL_get hj with ⟨rfl, rfl⟩ | ⟨hne, hL, hk⟩
    · exact hc
    · exact h.2.2.2 hb j u hL
theorem LvR.st2 {w : Wd} {ls ls' : Array Slot} {L : List (Option Value)} {i : Nat} {v : Value} (h : LvR w false ls L)
    (h' : lv_has ls' L.length ((i, ztv w v) :: (lvl w L).filter (fun q => !(q.1 == i) && (!(q.1 == i + 1) && !(q.1 + 1 == i && q.2.category == 2))))) : LvR w false ls' (stL2 L i v) := by
  obtain ⟨e1, e2, e3⟩ := h'
  refine ⟨e2, by rw [e1, stL2_len], fun j u hj => ?_, fun hb => by cases hb⟩
  rcases stL2_get hj with ⟨rfl, rfl⟩ | ⟨hne, hne2, hL, hk⟩
  · exact e3 (j, ztv w u) List.mem_cons_self
  · refine e3 (j, ztv w u) (List.mem_cons_of_mem _ (List.mem_filter.mpr ⟨lvl_mem.mpr ⟨u, hL, rfl⟩, ?_⟩))
    simp only [Bool.and_eq_true, Bool.not_eq_true', beq_eq_false_iff_ne, ne_eq, Bool.and_eq_false_iff, ztv_cat]
    refine ⟨hne, hne2, ?_⟩
    by_cases he : j + 1 = i
    · exact Or.inr (hk he)
    · exact Or.inl he
/-- forgetting locals -/
def zforget (L : List (Option Value)) : List Nat → List (Option Value)
  | [] => L
  | i :: is => zforget (L.set i none) is
theorem LvR.set_none {w : Wd} {b : Bool} {ls : Array Slot} {L : List (Option Value)} (i : Nat) (h : LvR w b ls L) : LvR w b ls (L.set i none) := by
  have key : ∀ (j : Nat) (u : Value), (L.set i none)[j]? = some (some u) → L[j]? = some (some u) := by
    intro j u hj
    by_cases hij : i = j
    · subst hij; rw [List.getElem?_set] at hj; simp at hj
    · rw [List.getElem?_set_ne hij] at hj; exact hj
  exact ⟨h.1, by rw [h.2.1]; simp, fun j u hj => h.2.2.1 j u (key j u hj), fun hb j u hj => h.2.2.2 hb j u (key j u hj)⟩
theorem LvR.forget {w : Wd} {b : Bool} {ls : Array Slot} : ∀ (is : List Nat) {L : List (Option Value)}, LvR w b ls L → LvR w b ls (zforget L is)
  | [], _, h => h
  | i :: is, _, h => LvR.forget is (h.set_none i)
end
section
/-! ===== straight instructions: what they do to a picture ===== -/
/-- no local of two words; fields (index, class, place); calls (instruction, arguments with the receiver, what it does); constants; statics (index, place); the static arrays; may final fields be set -/
abbrev Env : Type := Bool × List (Nat × Nat × Nat) × List (Instr × Nat × Ex) × List (Nat × Value) × List (Nat × Nat) × (Nat → Option (Nat × (Nat → Int32))) × Bool
def eB (E : Env) : Bool := E.1
def eF (E : Env) : List (Nat × Nat × Nat) := E.2.1
def eC (E : Env) : List (Instr × Nat × Ex) := E.2.2.1
def eK (E : Env) : List (Nat × Value) := E.2.2.2.1
def eS (E : Env) : List (Nat × Nat) := E.2.2.2.2.1
def eT (E : Env) : Nat → Option (Nat × (Nat → Int32)) := E.2.2.2.2.2.1
def eI (E : Env) : Bool := E.2.2.2.2.2.2
def lookN {α : Type} (l : List (Nat × α)) (k : Nat) : Option α := match l with
  | [] => none
  | (j, a) :: r => if j = k then some a else lookN r k
def lookI {α : Type} (l : List (Instr × α)) (k : Instr) : Option α := match l with
  | [] => none
  | (j, a) :: r => if j = k then some a else lookI r k
theorem lookN_mem {α : Type} {l : List (Nat × α)} {k : Nat} {a : α} (h : lookN l k = some a) : (k, a) ∈ l := by
  induction l with
  | nil => cases h
  | cons x r ih =>
    obtain ⟨j, b⟩ := x
    unfold lookN at h
    split at h
    · rename_i e; subst e; cases h; exact List.mem_cons_self
    · exact List.mem_cons_of_mem _ (ih h)
theorem lookI_mem {α : Type} {l : List (Instr × α)} {k : Instr} {a : α} (h : lookI l k = some a) : (k, a) ∈ l := by
  induction l with
  | nil => cases h
  | cons x r ih =>
    obtain ⟨j, b⟩ := x
    unfold lookI at h
    split at h
    · rename_i e; subst e; cases h; exact List.mem_cons_self
    · exact List.mem_cons_of_mem _ (ih h)
def popN : Nat → List Value → List Value → Option (List Value × List Value)
  | 0, acc, S => some (acc, S)
  | n + 1, acc, v :: S => popN n (v :: acc) S
  | _ + 1, _, [] => none
theorem popN_spec : ∀ {n : Nat} {acc S vs S' : List Value}, popN n acc S = some (vs, S') → ∃ us, vs = us ++ acc ∧ us.length = n ∧ S = us.reverse ++ S'
  | 0, acc, S, vs, S', h => by cases h; exact ⟨[], rfl, rfl, rfl⟩
  | n + 1, acc, v :: S, vs, S', h => by
    obtain ⟨us, e1, e2, e3⟩ := popN_spec (n := n) h
    exact ⟨us ++ [v], by rw [e1]; simp, by simp [e2], by rw [e3]; simp⟩
  | n + 1, acc, [], vs, S', h => by cases h
def wsum : List Value → Nat
  | [] => 0
  | .long _ :: r => wsum r + 2
  | .double _ :: r => wsum r + 2
  | .int _ :: r => wsum r + 1
  | .ref _ :: r => wsum r + 1
  | .null :: r => wsum r + 1
  | .float _ :: r => wsum r + 1
  | _ :: r => wsum r + 2
theorem cat_le (v : Value) : v.category ≤ 2 := by rcases lv_cat v with h | h <;> omega
theorem wsum_ge : ∀ S : List Value, (S.map fun v => v.category).sum ≤ wsum S
  | [] => Nat.le_refl _
  | v :: r => by
    have ih := wsum_ge r
    have hc : wsum r + v.category ≤ wsum (v :: r) := by cases v <;> simp [wsum, Value.category]
    simp only [List.map_cons, List.sum_cons]
    omega
theorem wsum_tv {w : Wd} : ∀ S : List Value, ((S.map (ztv w)).map fun v => v.category).sum ≤ wsum S
  | S => by
    rw [List.map_map]
    have : ((fun v : Value => v.category) ∘ ztv w) = fun v => v.category := by funext v; exact ztv_cat w v
    rw [this]; exact wsum_ge S
/-- an index within n -/
def zix (i : Int32) (n : Nat) : Option Nat := if 0 ≤ i.toInt ∧ i.toInt < n then some i.toInt.toNat else none
theorem zix_in {i : Int32} {n j : Nat} (h : zix i n = some j) : vp_in i n ∧ i.toNatClampNeg = j := by
  unfold zix at h
  split at h
  · rename_i q
    cases h
    exact ⟨vp_in_iff.mpr q, rfl⟩
  · cases h
def zfit (ty : FieldType) (v : Value) : Bool := match ty, v with
  | .int, .int _ => true
  | .boolean, .int x => decide (x = 0) || decide (x = 1)
  | .object _, .ref _ => true
  | .array _, .ref _ => true
  | _, _ => false
theorem zfit_ok {w : Wd} {ty : FieldType} {v : Value} (h : zfit ty v = true) : narrow ty (ztv w v) = ztv w v ∧ fits ty (ztv w v) = true := by
  unfold zfit at h
  split at h
  · exact ⟨rfl, rfl⟩
  · rename_i x
    simp only [Bool.or_eq_true, decide_eq_true_eq] at h
    rcases h with rfl | rfl <;> exact ⟨rfl, rfl⟩
  · exact ⟨rfl, rfl⟩
  · exact ⟨rfl, rfl⟩
  · cases h
def xI (E : Env) : Instr → St → Option St
  | .iload_n k, (L, S, g) => match L[(k : Nat)]? with
    | some (some (.int x)) => some (L, .int x :: S, g)
    | _ => none
  | .iload k, (L, S, g) => match L[k]? with
    | some (some (.int x)) => some (L, .int x :: S, g)
    | _ => none
  | .aload_n k, (L, S, g) => match L[(k : Nat)]? with
    | some (some (.ref x)) => some (L, .ref x :: S, g)
    | _ => none
  | .aload k, (L, S, g) => match L[k]? with
    | some (some (.ref x)) => some (L, .ref x :: S, g)
    | _ => none
  | .lload_n k, (L, S, g) => match L[(k : Nat)]? with
    | some (some (.long x)) => some (L, .long x :: S, g)
    | _ => none
  | .lload k, (L, S, g) => match L[k]? with
    | some (some (.long x)) => some (L, .long x :: S, g)
    | _ => none
  | .dload_n k, (L, S, g) => match L[(k : Nat)]? with
    | some (some (.double x)) => some (L, .double x :: S, g)
    | _ => none
  | .dload k, (L, S, g) => match L[k]? with
    | some (some (.double x)) => some (L, .double x :: S, g)
    | _ => none
  | .iconst n, (L, S, g) => some (L, .int (Int32.ofInt n) :: S, g)
  | .bipush n, (L, S, g) => some (L, .int (Int8.ofInt n).toInt32 :: S, g)
  | .sipush n, (L, S, g) => some (L, .int (Int16.ofInt n).toInt32 :: S, g)
  | .lconst n, (L, S, g) => some (L, .long (Int64.ofNat (n : Nat)) :: S, g)
  | .dconst n, (L, S, g) => match n with
    | 0 => some (L, .double FP.dconst0 :: S, g)
    | 1 => some (L, .double FP.dconst1 :: S, g)
  | .ldc2_w k, (L, S, g) => match lookN (eK E) k with
    | some v => some (L, v :: S, g)
    | none => none
  | .istore_n k, (L, S, g) => match S with
    | .int x :: S => if (k : Nat) < L.length then some (stL (eB E) L k (.int x), S, g) else none
    | _ => none
  | .istore k, (L, S, g) => match S with
    | .int x :: S => if k < L.length then some (stL (eB E) L k (.int x), S, g) else none
    | _ => none
  | .astore_n k, (L, S, g) => match S with
    | .ref x :: S => if (k : Nat) < L.length then some (stL (eB E) L k (.ref x), S, g) else none
    | _ => none
  | .astore k, (L, S, g) => match S with
    | .ref x :: S => if k < L.length then some (stL (eB E) L k (.ref x), S, g) else none
    | _ => none
  | .lstore_n k, (L, S, g) => match eB E, S with
    | false, .long x :: S => if (k : Nat) + 1 < L.length then some (stL2 L k (.long x), S, g) else none
    | _, _ => none
  | .lstore k, (L, S, g) => match eB E, S with
    | false, .long x :: S => if k + 1 < L.length then some (stL2 L k (.long x), S, g) else none
    | _, _ => none
  | .dstore_n k, (L, S, g) => match eB E, S with
    | false, .double x :: S => if (k : Nat) + 1 < L.length then some (stL2 L k (.double x), S, g) else none
    | _, _ => none
  | .dstore k, (L, S, g) => match eB E, S with
    | false, .double x :: S => if k + 1 < L.length then some (stL2 L k (.double x), S, g) else none
    | _, _ => none
  | .iinc k n, (L, S, g) => match L[k]? with
    | some (some (.int x)) => some (stL (eB E) L k (.int (x + Int32.ofInt n)), S, g)
    | _ => none
  | .iadd, (L, S, g) => match S with
    | .int y :: .int x :: S => some (L, .int (x + y) :: S, g)
    | _ => none
  | .isub, (L, S, g) => match S with
    | .int y :: .int x :: S => some (L, .int (x - y) :: S, g)
    | _ => none
  | .imul, (L, S, g) => match S with
    | .int y :: .int x :: S => some (L, .int (x * y) :: S, g)
    | _ => none
  | .idiv, (L, S, g) => match S with
    | .int y :: .int x :: S => if y = 0 then none else some (L, .int (x / y) :: S, g)
    | _ => none
  | .irem, (L, S, g) => match S with
    | .int y :: .int x :: S => if y = 0 then none else some (L, .int (x - x / y * y) :: S, g)
    | _ => none
  | .iand, (L, S, g) => match S with
    | .int y :: .int x :: S => some (L, .int (x &&& y) :: S, g)
    | _ => none
  | .ladd, (L, S, g) => match S with
    | .long y :: .long x :: S => some (L, .long (x + y) :: S, g)
    | _ => none
  | .lsub, (L, S, g) => match S with
    | .long y :: .long x :: S => some (L, .long (x - y) :: S, g)
    | _ => none
  | .lmul, (L, S, g) => match S with
    | .long y :: .long x :: S => some (L, .long (x * y) :: S, g)
    | _ => none
  | .lshl, (L, S, g) => match S with
    | .int y :: .long x :: S => some (L, .long (x <<< (y.toInt64 &&& 63)) :: S, g)
    | _ => none
  | .i2l, (L, S, g) => match S with
    | .int x :: S => some (L, .long x.toInt64 :: S, g)
    | _ => none
  | .i2d, (L, S, g) => match S with
    | .int x :: S => some (L, .double (FP.i2d x) :: S, g)
    | _ => none
  | .d2l, (L, S, g) => match S with
    | .double x :: S => some (L, .long (FP.d2l x) :: S, g)
    | _ => none
  | .dmul, (L, S, g) => match S with
    | .double y :: .double x :: S => if FP.dmul x y &&& 0x7fffffffffffffff ≤ 0x7ff0000000000000 then some (L, .double (FP.dmul x y) :: S, g) else none
    | _ => none
  | .ddiv, (L, S, g) => match S with
    | .double y :: .double x :: S => if FP.ddiv x y &&& 0x7fffffffffffffff ≤ 0x7ff0000000000000 then some (L, .double (FP.ddiv x y) :: S, g) else none
    | _ => none
  | .dsub, (L, S, g) => match S with
    | .double y :: .double x :: S => if FP.dsub x y &&& 0x7fffffffffffffff ≤ 0x7ff0000000000000 then some (L, .double (FP.dsub x y) :: S, g) else none
    | _ => none
  | .lcmp, (L, S, g) => match S with
    | .long y :: .long x :: S => some (L, .int (lg_cmp x y) :: S, g)
    | _ => none
  | .dcmp op, (L, S, g) => match S with
    | .double y :: .double x :: S => some (L, .int (Op.cmpValue (FP.dcmp x y) op) :: S, g)
    | _ => none
  | .dup, (L, S, g) => match S with
    | .int x :: S => some (L, .int x :: .int x :: S, g)
    | .ref x :: S => some (L, .ref x :: .ref x :: S, g)
    | _ => none
  | .dup2, (L, S, g) => match S with
    | .int y :: .ref x :: S => some (L, .int y :: .ref x :: .int y :: .ref x :: S, g)
    | _ => none
  | .pop, (L, S, g) => match S with
    | .int _ :: S => some (L, S, g)
    | _ => none
  | .arraylength, (L, S, g) => match S with
    | .ref a :: S => match g.1 a with
      | some (.inl (.inl (n, _))) => some (L, .int (nI n) :: S, g)
      | some (.inl (.inr (.inl (n, _)))) => some (L, .int (nI n) :: S, g)
      | some (.inl (.inr (.inr (n, _)))) => some (L, .int (nI n) :: S, g)
      | some (.inr _) => none
      | none => match eT E a with
        | some (n, _) => some (L, .int (nI n) :: S, g)
        | none => none
    | _ => none
  | .iaload, (L, S, g) => match S with
    | .int i :: .ref a :: S => match g.1 a with
      | some (.inl (.inl (n, f))) => match zix i n with
        | some j => some (L, .int (f j) :: S, g)
        | none => none
      | some _ => none
      | none => match eT E a with
        | some (n, f) => match zix i n with
          | some j => some (L, .int (f j) :: S, g)
          | none => none
        | none => none
    | _ => none
  | .iastore, (L, S, g) => match S with
    | .int x :: .int i :: .ref a :: S => match g.1 a with
      | some (.inl (.inl (n, f))) => match zix i n with
        | some j => some (L, S, (zup g.1 a (cI n (upd f j x)), g.2))
        | none => none
      | _ => none
    | _ => none
  | .laload, (L, S, g) => match S with
    | .int i :: .ref a :: S => match g.1 a with
      | some (.inl (.inr (.inl (n, f)))) => match zix i n with
        | some j => some (L, .long (f j) :: S, g)
        | none => none
      | _ => none
    | _ => none
  | .lastore, (L, S, g) => match S with
    | .long x :: .int i :: .ref a :: S => match g.1 a with
      | some (.inl (.inr (.inl (n, f)))) => match zix i n with
        | some j => some (L, S, (zup g.1 a (cJ n (vp_updL f j x)), g.2))
        | none => none
      | _ => none
    | _ => none
  | .aaload, (L, S, g) => match S with
    | .int i :: .ref a :: S => match g.1 a with
      | some (.inl (.inr (.inr (n, f)))) => match zix i n with
        | some j => match f j with
          | some q => some (L, .ref q :: S, g)
          | none => some (L, .null :: S, g)
        | none => none
      | _ => none
    | _ => none
  | .aastore, (L, S, g) => match S with
    | .ref v :: .int i :: .ref a :: S => match g.1 a with
      | some (.inl (.inr (.inr (n, f)))) => match zix i n with
        | some j => match g.1 v with
          | some (.inr (2, _)) => some (L, S, (zup g.1 a (cR n (va_up f j (some v))), g.2))
          | _ => none
        | none => none
      | _ => none
    | _ => none
  | .aconst_null, (L, S, g) => some (L, .null :: S, g)
  | .getfield k, (L, S, g) => match S with
    | .ref a :: S => match g.1 a with
      | some (.inr (ci, fs)) => match lookN (eF E) k with
        | some (cj, j) => if ci = cj then match fs[j]? with
            | some v => some (L, v :: S, g)
            | none => none
          else none
        | none => none
      | _ => none
    | _ => none
  | .putfield k, (L, S, g) => match S with
    | v :: .ref a :: S => match g.1 a with
      | some (.inr (ci, fs)) => match lookN (eF E) k with
        | some (cj, j) => if ci = cj ∧ zfit (zty ci j) v = true ∧ j < fs.length ∧ ((((zcl[ci]?).getD ("", F_Row, 0)).2.1 j).2.2.2 = false ∨ eI E = true) then some (L, S, (zup g.1 a (cO ci (fs.set j v)), g.2))
          else none
        | none => none
      | _ => none
    | _ => none
  | .getstatic k, (L, S, g) => match lookN (eS E) k with
    | some j => some (L, .ref j :: S, g)
    | none => none
  | .invokevirtual k, (L, S, g) => match lookI (eC E) (.invokevirtual k) with
    | some (n, f) => match popN n [] S with
      | some (vs, S) => if wsum S ≤ 8 then match f vs g with
          | some (.inl o, g) => some (L, o.toList ++ S, g)
          | _ => none
        else none
      | none => none
    | none => none
  | .invokespecial k, (L, S, g) => match lookI (eC E) (.invokespecial k) with
    | some (n, f) => match popN n [] S with
      | some (vs, S) => if wsum S ≤ 8 then match f vs g with
          | some (.inl o, g) => some (L, o.toList ++ S, g)
          | _ => none
        else none
      | none => none
    | none => none
  | .invokestatic k, (L, S, g) => match lookI (eC E) (.invokestatic k) with
    | some (n, f) => match popN n [] S with
      | some (vs, S) => if wsum S ≤ 8 then match f vs g with
          | some (.inl o, g) => some (L, o.toList ++ S, g)
          | _ => none
        else none
      | none => none
    | none => none
  | _, _ => none
def runI (E : Env) : List Instr → St → Option St
  | [], st => some st
  | i :: r, st => match xI E i st with
    | some st => runI E r st
    | none => none
def zchk (cc : ByteArray) : Nat → List Instr → Option Nat
  | pc, [] => some pc
  | pc, i :: r => match decode cc pc with
    | .ok (j, n) => if j = i then zchk cc (pc + n) r else none
    | _ => none
end
section
/-! ===== the goal at a place, over a picture; the soundness of the straight instructions ===== -/
def CX (w : Wd) (p : Program) (s : State) (m : MethodId) (args : Array Value) (c : Code) (cc : ByteArray) (n : Nat) (own : String) : Prop :=
  p.tables.exec = Jvm.exec ∧ c.code = cc ∧ c.maxLocals = n ∧ s.vm.findClass own = some m.cls ∧ (∀ x ∈ lw_tbl, goodWord x = true → x.before args s = true) ∧ KK w s
def Kn (w : Wd) (b : Bool) (p : Program) (l : Launch) (e : Jvm.Env) (R : Room) (s : State) (m : MethodId) (args : Array Value) (below : List Frame) (meth : Method) (c : Code) (Q : State → Prop) (n cs ss pc : Nat) (st : St) : Prop :=
  st.1.length = n → ∀ (H : Heap) (locs : List Loc) (ls : Array Slot), LvR w b ls st.1 → RepG w st.2.2 H → va_S (zA w) s.heap H locs → W p l e R s m args below meth c H locs cs ss Q (F0 m pc ls (st.2.1.map (ztv w)))
def zfok (own : String) (q : Nat × Nat × Nat) : Bool := match zcl[q.2.1]? with
  | some r => decide (q.2.1 < 7) && (decide (q.2.2 < r.2.2) && (decide (r.1 = own) && decide (Cond.fieldLink own q.1 own (r.2.1 q.2.2).2.1 (r.2.1 q.2.2).2.2.1 ∈ lw_tbl)))
  | none => false
def zkok (own : String) (q : Nat × Value) : Bool := match q.2 with
  | .long x => decide (Cond.constantLong own q.1 x ∈ lw_tbl)
  | .double x => decide (Cond.constantDouble own q.1 x ∈ lw_tbl)
  | _ => false
def zsok (own : String) (q : Nat × Nat) : Bool := decide (q.2 < 3) && (decide (Cond.fieldLink own q.1 "CoilSlits" (zsn q.2) "[I" ∈ lw_tbl) || decide (Cond.fieldLinkNest own q.1 "CoilSlits" (zsn q.2) "[I" "CoilSlits" ∈ zN))
/-- a call, as the machine has it: from the callee's arguments on the stack to its answer there -/
def CallOk (w : Wd) (b : Bool) (p : Program) (l : Launch) (e : Jvm.Env) (R : Room) (s : State) (m : MethodId) (args : Array Value) (below : List Frame) (meth : Method) (c : Code) (Q : State → Prop) (cc : ByteArray) (n mc ms : Nat) (q : Instr × Nat × Ex) : Prop :=
  ∀ (cs ss pc : Nat) (L : List (Option Value)) (S vs : List Value) (g g' : G) (o : Option Value), cs + mc ≤ R.cells → ss + ms ≤ R.slots → decode cc pc = .ok (q.1, 3) → vs.length = q.2.1 → wsum S ≤ 8 → q.2.2 vs g = some (.inl o, g') →
    Kn w b p l e R s m args below meth c Q n (cs + mc) (ss + ms) (pc + 3) (L, o.toList ++ S, g') → Kn w b p l e R s m args below meth c Q n cs ss pc (L, vs.reverse ++ S, g)
def EnvOk (w : Wd) (b : Bool) (p : Program) (l : Launch) (e : Jvm.Env) (R : Room) (s : State) (m : MethodId) (args : Array Value) (below : List Frame) (meth : Method) (c : Code) (Q : State → Prop) (cc : ByteArray) (n : Nat) (own : String) (E : Env) : Prop :=
  eB E = b ∧ (∀ q ∈ eF E, zfok own q = true) ∧ (∀ q ∈ eK E, zkok own q = true) ∧ (∀ q ∈ eS E, zsok own q = true) ∧ (∀ k a, eT E k = some a → w.2.2.2.2 k = some a) ∧ (eI E = true → meth.name = "<init>") ∧ ∀ q ∈ eC E, CallOk w b p l e R s m args below meth c Q cc n 0 0 q
section
variable {w : Wd} {b : Bool} {p : Program} {l : Launch} {e : Jvm.Env} {R : Room} {s : State} {m : MethodId} {args : Array Value} {below : List Frame} {meth : Method} {c : Code} {Q : State → Prop} {cc : ByteArray} {n cs ss pc : Nat} {own : String} {E : Env}
variable {L : List (Option Value)} {S : List Value} {g : G} {st st' : St}
theorem RepG.one {H : Heap} {k : Nat} {c0 : Cel} (h : RepG w g H) (hk : g.1 k = some c0) : va_P w.2.2.1 zcl [(zad w k, zenc w c0)] H := by
  intro j q hq
  cases j with
  | zero => cases hq; exact (h.1 k c0 hk).2
  | succ j => cases hq
theorem RepG.put {H H1 : Heap} {k : Nat} {c0 c1 : Cel} (h : RepG w g H) (hk : g.1 k = some c0) (hz : H1.size = H.size) (ho : ∀ q : Nat, q ≠ zad w k → H1[q]? = H[q]?) (h1 : zat w k c1 H1) : RepG w (zup g.1 k c1, g.2) H1 := by
  have h4 := (h.1 k c0 hk).1
  refine ⟨fun j c2 hj => ?_, by rw [hz]; exact h.2.1, fun h0 => by rw [hz]; exact h.2.2 h0⟩
  simp only [zup] at hj
  split at hj
  · rename_i e; subst e; cases hj; exact ⟨h4, h1⟩
  · rename_i e
    obtain ⟨a1, a2⟩ := h.1 j c2 hj
    exact ⟨a1, va_at.kept a2 (ho _ (zad_ne a1 h4 e))⟩
theorem va_S.put' {H0 H H1 : Heap} {locs : List Loc} {a k : Nat} (h : va_S (zA w) H0 H locs) (hz : H1.size = H.size) (ho : ∀ q : Nat, q ≠ zad w a → H1[q]? = H[q]?) (h4 : 4 ≤ a) : va_S (zA w) H0 H1 (locs ++ [⟨zad w a, k⟩]) := h.put hz ho (zad_ge h4)
theorem CX.hx (h : CX w p s m args c cc n own) : p.tables.exec = Jvm.exec := h.1
theorem CX.hb (h : CX w p s m args c cc n own) : c.code = cc := h.2.1
theorem CX.hml (h : CX w p s m args c cc n own) : c.maxLocals = n := h.2.2.1
theorem CX.hown (h : CX w p s m args c cc n own) : s.vm.findClass own = some m.cls := h.2.2.2.1
theorem CX.hts (h : CX w p s m args c cc n own) {x : Cond} (hx : x ∈ lw_tbl) (hg : goodWord x = true) : x.before args s = true := h.2.2.2.2.1 x hx hg
theorem CX.kk (h : CX w p s m args c cc n own) : KK w s := h.2.2.2.2.2
theorem CX.hall (h : CX w p s m args c cc n own) : ∀ x ∈ lw_tbl.filter goodWord, x.before args s = true := fun x hx => h.hts (List.mem_filter.mp hx).1 (List.mem_filter.mp hx).2
theorem xs_iload_n {k0 : Fin 4} (cx : CX w p s m args c cc n own) (eo : EnvOk w b p l e R s m args below meth c Q cc n own E) (h : xI E (.iload_n k0) st = some st') (hd : decode cc pc = .ok (.iload_n k0, 1)) (k : Kn w b p l e R s m args below meth c Q n cs ss (pc + 1) st') : Kn w b p l e R s m args below meth c Q n cs ss pc st := by
  obtain ⟨L, S, g⟩ := st
  simp only [xI] at h
  split at h
  · rename_i x hl
    cases h
    exact fun hn H locs ls hL hG hS => lv_iload_n cx.hx cx.hb hd rfl (hL.2.2.1 _ _ hl) (k hn H locs ls hL hG hS)
  · cases h
theorem xs_iload {k0 : Nat} (cx : CX w p s m args c cc n own) (eo : EnvOk w b p l e R s m args below meth c Q cc n own E) (h : xI E (.iload k0) st = some st') (hd : decode cc pc = .ok (.iload k0, 2)) (k : Kn w b p l e R s m args below meth c Q n cs ss (pc + 2) st') : Kn w b p l e R s m args below meth c Q n cs ss pc st := by
  obtain ⟨L, S, g⟩ := st
  simp only [xI] at h
  split at h
  · rename_i x hl
    cases h
    exact fun hn H locs ls hL hG hS => lv_iload cx.hx cx.hb hd (hL.2.2.1 _ _ hl) (k hn H locs ls hL hG hS)
  · cases h
theorem xs_aload_n {k0 : Fin 4} (cx : CX w p s m args c cc n own) (eo : EnvOk w b p l e R s m args below meth c Q cc n own E) (h : xI E (.aload_n k0) st = some st') (hd : decode cc pc = .ok (.aload_n k0, 1)) (k : Kn w b p l e R s m args below meth c Q n cs ss (pc + 1) st') : Kn w b p l e R s m args below meth c Q n cs ss pc st := by
  obtain ⟨L, S, g⟩ := st
  simp only [xI] at h
  split at h
  · rename_i x hl
    cases h
    exact fun hn H locs ls hL hG hS => lv_aload_n cx.hx cx.hb hd rfl (hL.2.2.1 _ _ hl) (k hn H locs ls hL hG hS)
  · cases h
theorem xs_aload {k0 : Nat} (cx : CX w p s m args c cc n own) (eo : EnvOk w b p l e R s m args below meth c Q cc n own E) (h : xI E (.aload k0) st = some st') (hd : decode cc pc = .ok (.aload k0, 2)) (k : Kn w b p l e R s m args below meth c Q n cs ss (pc + 2) st') : Kn w b p l e R s m args below meth c Q n cs ss pc st := by
  obtain ⟨L, S, g⟩ := st
  simp only [xI] at h
  split at h
  · rename_i x hl
    cases h
    exact fun hn H locs ls hL hG hS => lv_aload cx.hx cx.hb hd (hL.2.2.1 _ _ hl) (k hn H locs ls hL hG hS)
  · cases h
theorem xs_lload_n {k0 : Fin 4} (cx : CX w p s m args c cc n own) (eo : EnvOk w b p l e R s m args below meth c Q cc n own E) (h : xI E (.lload_n k0) st = some st') (hd : decode cc pc = .ok (.lload_n k0, 1)) (k : Kn w b p l e R s m args below meth c Q n cs ss (pc + 1) st') : Kn w b p l e R s m args below meth c Q n cs ss pc st := by
  obtain ⟨L, S, g⟩ := st
  simp only [xI] at h
  split at h
  · rename_i x hl
    cases h
    exact fun hn H locs ls hL hG hS => lv_lload_n cx.hx cx.hb hd rfl (hL.2.2.1 _ _ hl) (k hn H locs ls hL hG hS)
  · cases h
theorem xs_lload {k0 : Nat} (cx : CX w p s m args c cc n own) (eo : EnvOk w b p l e R s m args below meth c Q cc n own E) (h : xI E (.lload k0) st = some st') (hd : decode cc pc = .ok (.lload k0, 2)) (k : Kn w b p l e R s m args below meth c Q n cs ss (pc + 2) st') : Kn w b p l e R s m args below meth c Q n cs ss pc st := by
  obtain ⟨L, S, g⟩ := st
  simp only [xI] at h
  split at h
  · rename_i x hl
    cases h
    exact fun hn H locs ls hL hG hS => lv_lload cx.hx cx.hb hd (hL.2.2.1 _ _ hl) (k hn H locs ls hL hG hS)
  · cases h
theorem xs_dload_n {k0 : Fin 4} (cx : CX w p s m args c cc n own) (eo : EnvOk w b p l e R s m args below meth c Q cc n own E) (h : xI E (.dload_n k0) st = some st') (hd : decode cc pc = .ok (.dload_n k0, 1)) (k : Kn w b p l e R s m args below meth c Q n cs ss (pc + 1) st') : Kn w b p l e R s m args below meth c Q n cs ss pc st := by
  obtain ⟨L, S, g⟩ := st
  simp only [xI] at h
  split at h
  · rename_i x hl
    cases h
    exact fun hn H locs ls hL hG hS => lv_dload_n cx.hx cx.hb hd rfl (hL.2.2.1 _ _ hl) (k hn H locs ls hL hG hS)
  · cases h
theorem xs_dload {k0 : Nat} (cx : CX w p s m args c cc n own) (eo : EnvOk w b p l e R s m args below meth c Q cc n own E) (h : xI E (.dload k0) st = some st') (hd : decode cc pc = .ok (.dload k0, 2)) (k : Kn w b p l e R s m args below meth c Q n cs ss (pc + 2) st') : Kn w b p l e R s m args below meth c Q n cs ss pc st := by
  obtain ⟨L, S, g⟩ := st
  simp only [xI] at h
  split at h
  · rename_i x hl
    cases h
    exact fun hn H locs ls hL hG hS => lv_dload cx.hx cx.hb hd (hL.2.2.1 _ _ hl) (k hn H locs ls hL hG hS)
  · cases h
theorem xs_iconst {k0 : Int} (cx : CX w p s m args c cc n own) (eo : EnvOk w b p l e R s m args below meth c Q cc n own E) (h : xI E (.iconst k0) st = some st') (hd : decode cc pc = .ok (.iconst k0, 1)) (k : Kn w b p l e R s m args below meth c Q n cs ss (pc + 1) st') : Kn w b p l e R s m args below meth c Q n cs ss pc st := by
  obtain ⟨L, S, g⟩ := st
  simp only [xI] at h
  cases h
  exact fun hn H locs ls hL hG hS => lv_iconst cx.hx cx.hb hd rfl (k hn H locs ls hL hG hS)
theorem xs_bipush {k0 : Int} (cx : CX w p s m args c cc n own) (eo : EnvOk w b p l e R s m args below meth c Q cc n own E) (h : xI E (.bipush k0) st = some st') (hd : decode cc pc = .ok (.bipush k0, 2)) (k : Kn w b p l e R s m args below meth c Q n cs ss (pc + 2) st') : Kn w b p l e R s m args below meth c Q n cs ss pc st := by
  obtain ⟨L, S, g⟩ := st
  simp only [xI] at h
  cases h
  exact fun hn H locs ls hL hG hS => lv_bipush cx.hx cx.hb hd rfl (k hn H locs ls hL hG hS)
theorem xs_sipush {k0 : Int} (cx : CX w p s m args c cc n own) (eo : EnvOk w b p l e R s m args below meth c Q cc n own E) (h : xI E (.sipush k0) st = some st') (hd : decode cc pc = .ok (.sipush k0, 3)) (k : Kn w b p l e R s m args below meth c Q n cs ss (pc + 3) st') : Kn w b p l e R s m args below meth c Q n cs ss pc st := by
  obtain ⟨L, S, g⟩ := st
  simp only [xI] at h
  cases h
  exact fun hn H locs ls hL hG hS => lv_sipush cx.hx cx.hb hd rfl (k hn H locs ls hL hG hS)
theorem xs_lconst {k0 : Fin 2} (cx : CX w p s m args c cc n own) (eo : EnvOk w b p l e R s m args below meth c Q cc n own E) (h : xI E (.lconst k0) st = some st') (hd : decode cc pc = .ok (.lconst k0, 1)) (k : Kn w b p l e R s m args below meth c Q n cs ss (pc + 1) st') : Kn w b p l e R s m args below meth c Q n cs ss pc st := by
  obtain ⟨L, S, g⟩ := st
  simp only [xI] at h
  cases h
  exact fun hn H locs ls hL hG hS => lv_lconst cx.hx cx.hb hd rfl (k hn H locs ls hL hG hS)
theorem xs_dconst {k0 : Fin 2} (cx : CX w p s m args c cc n own) (eo : EnvOk w b p l e R s m args below meth c Q cc n own E) (h : xI E (.dconst k0) st = some st') (hd : decode cc pc = .ok (.dconst k0, 1)) (k : Kn w b p l e R s m args below meth c Q n cs ss (pc + 1) st') : Kn w b p l e R s m args below meth c Q n cs ss pc st := by
  obtain ⟨L, S, g⟩ := st
  simp only [xI] at h

  split at h
  · cases h
    exact fun hn H locs ls hL hG hS => lv_dconst0 cx.hx cx.hb hd (k hn H locs ls hL hG hS)
  · cases h
    exact fun hn H locs ls hL hG hS => lv_dconst1 cx.hx cx.hb hd (k hn H locs ls hL hG hS)
theorem xs_ldc2 {k0 : Nat} (cx : CX w p s m args c cc n own) (eo : EnvOk w b p l e R s m args below meth c Q cc n own E) (h : xI E (.ldc2_w k0) st = some st') (hd : decode cc pc = .ok (.ldc2_w k0, 3)) (k : Kn w b p l e R s m args below meth c Q n cs ss (pc + 3) st') : Kn w b p l e R s m args below meth c Q n cs ss pc st := by
  obtain ⟨L, S, g⟩ := st
  simp only [xI] at h
  split at h
  · rename_i v hv
    cases h
    have hk := eo.2.2.1 _ (lookN_mem hv)
    cases v <;> simp only [zkok, decide_eq_true_eq, Bool.false_eq_true] at hk
    · exact fun hn H locs ls hL hG hS => lv_ldc2 cx.hx cx.hb cx.hown (cx.hts hk rfl) hd (k hn H locs ls hL hG hS)
    · exact fun hn H locs ls hL hG hS => lv_ldc2d cx.hx cx.hb cx.hown (cx.hts hk rfl) hd (k hn H locs ls hL hG hS)
  · cases h
theorem xs_istore_n {k0 : Fin 4} (cx : CX w p s m args c cc n own) (eo : EnvOk w b p l e R s m args below meth c Q cc n own E) (h : xI E (.istore_n k0) st = some st') (hd : decode cc pc = .ok (.istore_n k0, 1)) (k : Kn w b p l e R s m args below meth c Q n cs ss (pc + 1) st') : Kn w b p l e R s m args below meth c Q n cs ss pc st := by
  obtain ⟨L, S, g⟩ := st
  simp only [xI] at h

  split at h
  · rename_i x S
    split at h
    · rename_i hlt
      cases h
      rw [eo.1] at k
      exact fun hn H locs ls hL hG hS => lv_istore_n cx.hx cx.hb hd rfl hL.has hlt rfl (fun ls' hl' => k ((stL_len _ _ _ _).trans hn) H locs ls' (hL.st1 rfl hl') hG hS)
    · cases h
  · cases h
theorem xs_istore {k0 : Nat} (cx : CX w p s m args c cc n own) (eo : EnvOk w b p l e R s m args below meth c Q cc n own E) (h : xI E (.istore k0) st = some st') (hd : decode cc pc = .ok (.istore k0, 2)) (k : Kn w b p l e R s m args below meth c Q n cs ss (pc + 2) st') : Kn w b p l e R s m args below meth c Q n cs ss pc st := by
  obtain ⟨L, S, g⟩ := st
  simp only [xI] at h

  split at h
  · rename_i x S
    split at h
    · rename_i hlt
      cases h
      rw [eo.1] at k
      exact fun hn H locs ls hL hG hS => lv_istore cx.hx cx.hb hd hL.has hlt rfl (fun ls' hl' => k ((stL_len _ _ _ _).trans hn) H locs ls' (hL.st1 rfl hl') hG hS)
    · cases h
  · cases h
theorem xs_astore_n {k0 : Fin 4} (cx : CX w p s m args c cc n own) (eo : EnvOk w b p l e R s m args below meth c Q cc n own E) (h : xI E (.astore_n k0) st = some st') (hd : decode cc pc = .ok (.astore_n k0, 1)) (k : Kn w b p l e R s m args below meth c Q n cs ss (pc + 1) st') : Kn w b p l e R s m args below meth c Q n cs ss pc st := by
  obtain ⟨L, S, g⟩ := st
  simp only [xI] at h

  split at h
  · rename_i x S
    split at h
    · rename_i hlt
      cases h
      rw [eo.1] at k
      exact fun hn H locs ls hL hG hS => lv_astore_n cx.hx cx.hb hd rfl hL.has hlt rfl (fun ls' hl' => k ((stL_len _ _ _ _).trans hn) H locs ls' (hL.st1 rfl hl') hG hS)
    · cases h
  · cases h
theorem xs_astore {k0 : Nat} (cx : CX w p s m args c cc n own) (eo : EnvOk w b p l e R s m args below meth c Q cc n own E) (h : xI E (.astore k0) st = some st') (hd : decode cc pc = .ok (.astore k0, 2)) (k : Kn w b p l e R s m args below meth c Q n cs ss (pc + 2) st') : Kn w b p l e R s m args below meth c Q n cs ss pc st := by
  obtain ⟨L, S, g⟩ := st
  simp only [xI] at h

  split at h
  · rename_i x S
    split at h
    · rename_i hlt
      cases h
      rw [eo.1] at k
      exact fun hn H locs ls hL hG hS => lv_astore cx.hx cx.hb hd hL.has hlt rfl (fun ls' hl' => k ((stL_len _ _ _ _).trans hn) H locs ls' (hL.st1 rfl hl') hG hS)
    · cases h
  · cases h
theorem xs_lstore_n {k0 : Fin 4} (cx : CX w p s m args c cc n own) (eo : EnvOk w b p l e R s m args below meth c Q cc n own E) (h : xI E (.lstore_n k0) st = some st') (hd : decode cc pc = .ok (.lstore_n k0, 1)) (k : Kn w b p l e R s m args below meth c Q n cs ss (pc + 1) st') : Kn w b p l e R s m args below meth c Q n cs ss pc st := by
  obtain ⟨L, S, g⟩ := st
  simp only [xI] at h

  split at h
  · rename_i x S hB
    split at h
    · rename_i hlt
      cases h
      have hbf : b = false := eo.1.symm.trans hB
      subst hbf
      exact fun hn H locs ls hL hG hS => lv_lstore_n cx.hx cx.hb hd rfl hL.has hlt rfl (fun ls' hl' => k ((stL2_len _ _ _).trans hn) H locs ls' (hL.st2 hl') hG hS)
    · cases h
  · cases h
theorem xs_lstore {k0 : Nat} (cx : CX w p s m args c cc n own) (eo : EnvOk w b p l e R s m args below meth c Q cc n own E) (h : xI E (.lstore k0) st = some st') (hd : decode cc pc = .ok (.lstore k0, 2)) (k : Kn w b p l e R s m args below meth c Q n cs ss (pc + 2) st') : Kn w b p l e R s m args below meth c Q n cs ss pc st := by
  obtain ⟨L, S, g⟩ := st
  simp only [xI] at h

  split at h
  · rename_i x S hB
    split at h
    · rename_i hlt
      cases h
      have hbf : b = false := eo.1.symm.trans hB
      subst hbf
      exact fun hn H locs ls hL hG hS => lv_lstore cx.hx cx.hb hd hL.has hlt rfl (fun ls' hl' => k ((stL2_len _ _ _).trans hn) H locs ls' (hL.st2 hl') hG hS)
    · cases h
  · cases h
theorem xs_dstore_n {k0 : Fin 4} (cx : CX w p s m args c cc n own) (eo : EnvOk w b p l e R s m args below meth c Q cc n own E) (h : xI E (.dstore_n k0) st = some st') (hd : decode cc pc = .ok (.dstore_n k0, 1)) (k : Kn w b p l e R s m args below meth c Q n cs ss (pc + 1) st') : Kn w b p l e R s m args below meth c Q n cs ss pc st := by
  obtain ⟨L, S, g⟩ := st
  simp only [xI] at h

  split at h
  · rename_i x S hB
    split at h
    · rename_i hlt
      cases h
      have hbf : b = false := eo.1.symm.trans hB
      subst hbf
      exact fun hn H locs ls hL hG hS => lv_dstore_n cx.hx cx.hb hd rfl hL.has hlt rfl (fun ls' hl' => k ((stL2_len _ _ _).trans hn) H locs ls' (hL.st2 hl') hG hS)
    · cases h
  · cases h
theorem xs_dstore {k0 : Nat} (cx : CX w p s m args c cc n own) (eo : EnvOk w b p l e R s m args below meth c Q cc n own E) (h : xI E (.dstore k0) st = some st') (hd : decode cc pc = .ok (.dstore k0, 2)) (k : Kn w b p l e R s m args below meth c Q n cs ss (pc + 2) st') : Kn w b p l e R s m args below meth c Q n cs ss pc st := by
  obtain ⟨L, S, g⟩ := st
  simp only [xI] at h

  split at h
  · rename_i x S hB
    split at h
    · rename_i hlt
      cases h
      have hbf : b = false := eo.1.symm.trans hB
      subst hbf
      exact fun hn H locs ls hL hG hS => lv_dstore cx.hx cx.hb hd hL.has hlt rfl (fun ls' hl' => k ((stL2_len _ _ _).trans hn) H locs ls' (hL.st2 hl') hG hS)
    · cases h
  · cases h
theorem xs_iinc {k0 : Nat} {n0 : Int} (cx : CX w p s m args c cc n own) (eo : EnvOk w b p l e R s m args below meth c Q cc n own E) (h : xI E (.iinc k0 n0) st = some st') (hd : decode cc pc = .ok (.iinc k0 n0, 3)) (k : Kn w b p l e R s m args below meth c Q n cs ss (pc + 3) st') : Kn w b p l e R s m args below meth c Q n cs ss pc st := by
  obtain ⟨L, S, g⟩ := st
  simp only [xI] at h
  split at h
  · rename_i x hl
    cases h
    rw [eo.1] at k
    intro hn H locs ls hL hG hS
    have hh := hL.has
    have hh2 : lv_has ls L.length ((k0, Value.int x) :: lvl w L) := ⟨hh.1, hh.2.1, fun q hq => by
      rcases List.mem_cons.mp hq with rfl | hq
      · exact hL.2.2.1 _ _ hl
      · exact hh.2.2 q hq⟩
    refine lv_iinc cx.hx cx.hb hd hh2 (k := 0) rfl rfl (List.getElem?_eq_some_iff.mp hl).1 rfl (fun ls' hl' => k ((stL_len _ _ _ _).trans hn) H locs ls' (hL.st1 rfl ⟨hl'.1, hl'.2.1, fun q hq => hl'.2.2 q ?_⟩) hG hS)
    rcases List.mem_cons.mp hq with rfl | hq
    · exact List.mem_cons_self
    · exact List.mem_cons_of_mem _ (by
        rw [List.filter_cons]
        split
        · exact List.mem_cons_of_mem _ hq
        · exact hq)
  · cases h
theorem xs_iadd (cx : CX w p s m args c cc n own) (eo : EnvOk w b p l e R s m args below meth c Q cc n own E) (h : xI E (.iadd) st = some st') (hd : decode cc pc = .ok (.iadd, 1)) (k : Kn w b p l e R s m args below meth c Q n cs ss (pc + 1) st') : Kn w b p l e R s m args below meth c Q n cs ss pc st := by
  obtain ⟨L, S, g⟩ := st
  simp only [xI] at h
  split at h
  · cases h
    exact fun hn H locs ls hL hG hS => lv_iadd cx.hx cx.hb hd (k hn H locs ls hL hG hS)
  · cases h
theorem xs_isub (cx : CX w p s m args c cc n own) (eo : EnvOk w b p l e R s m args below meth c Q cc n own E) (h : xI E (.isub) st = some st') (hd : decode cc pc = .ok (.isub, 1)) (k : Kn w b p l e R s m args below meth c Q n cs ss (pc + 1) st') : Kn w b p l e R s m args below meth c Q n cs ss pc st := by
  obtain ⟨L, S, g⟩ := st
  simp only [xI] at h
  split at h
  · cases h
    exact fun hn H locs ls hL hG hS => lv_isub cx.hx cx.hb hd (k hn H locs ls hL hG hS)
  · cases h
theorem xs_imul (cx : CX w p s m args c cc n own) (eo : EnvOk w b p l e R s m args below meth c Q cc n own E) (h : xI E (.imul) st = some st') (hd : decode cc pc = .ok (.imul, 1)) (k : Kn w b p l e R s m args below meth c Q n cs ss (pc + 1) st') : Kn w b p l e R s m args below meth c Q n cs ss pc st := by
  obtain ⟨L, S, g⟩ := st
  simp only [xI] at h
  split at h
  · cases h
    exact fun hn H locs ls hL hG hS => lv_imul cx.hx cx.hb hd (k hn H locs ls hL hG hS)
  · cases h
theorem xs_iand (cx : CX w p s m args c cc n own) (eo : EnvOk w b p l e R s m args below meth c Q cc n own E) (h : xI E (.iand) st = some st') (hd : decode cc pc = .ok (.iand, 1)) (k : Kn w b p l e R s m args below meth c Q n cs ss (pc + 1) st') : Kn w b p l e R s m args below meth c Q n cs ss pc st := by
  obtain ⟨L, S, g⟩ := st
  simp only [xI] at h
  split at h
  · cases h
    exact fun hn H locs ls hL hG hS => lv_iand cx.hx cx.hb hd (k hn H locs ls hL hG hS)
  · cases h
theorem xs_ladd (cx : CX w p s m args c cc n own) (eo : EnvOk w b p l e R s m args below meth c Q cc n own E) (h : xI E (.ladd) st = some st') (hd : decode cc pc = .ok (.ladd, 1)) (k : Kn w b p l e R s m args below meth c Q n cs ss (pc + 1) st') : Kn w b p l e R s m args below meth c Q n cs ss pc st := by
  obtain ⟨L, S, g⟩ := st
  simp only [xI] at h
  split at h
  · cases h
    exact fun hn H locs ls hL hG hS => lv_ladd cx.hx cx.hb hd (k hn H locs ls hL hG hS)
  · cases h
theorem xs_lsub (cx : CX w p s m args c cc n own) (eo : EnvOk w b p l e R s m args below meth c Q cc n own E) (h : xI E (.lsub) st = some st') (hd : decode cc pc = .ok (.lsub, 1)) (k : Kn w b p l e R s m args below meth c Q n cs ss (pc + 1) st') : Kn w b p l e R s m args below meth c Q n cs ss pc st := by
  obtain ⟨L, S, g⟩ := st
  simp only [xI] at h
  split at h
  · cases h
    exact fun hn H locs ls hL hG hS => lv_lsub cx.hx cx.hb hd (k hn H locs ls hL hG hS)
  · cases h
theorem xs_lmul (cx : CX w p s m args c cc n own) (eo : EnvOk w b p l e R s m args below meth c Q cc n own E) (h : xI E (.lmul) st = some st') (hd : decode cc pc = .ok (.lmul, 1)) (k : Kn w b p l e R s m args below meth c Q n cs ss (pc + 1) st') : Kn w b p l e R s m args below meth c Q n cs ss pc st := by
  obtain ⟨L, S, g⟩ := st
  simp only [xI] at h
  split at h
  · cases h
    exact fun hn H locs ls hL hG hS => lv_lmul cx.hx cx.hb hd (k hn H locs ls hL hG hS)
  · cases h
theorem xs_idiv (cx : CX w p s m args c cc n own) (eo : EnvOk w b p l e R s m args below meth c Q cc n own E) (h : xI E (.idiv) st = some st') (hd : decode cc pc = .ok (.idiv, 1)) (k : Kn w b p l e R s m args below meth c Q n cs ss (pc + 1) st') : Kn w b p l e R s m args below meth c Q n cs ss pc st := by
  obtain ⟨L, S, g⟩ := st
  simp only [xI] at h
  split at h
  · split at h
    · cases h
    · rename_i hne
      cases h
      exact fun hn H locs ls hL hG hS => lv_idiv cx.hx cx.hb hd hne (k hn H locs ls hL hG hS)
  · cases h
theorem xs_irem (cx : CX w p s m args c cc n own) (eo : EnvOk w b p l e R s m args below meth c Q cc n own E) (h : xI E (.irem) st = some st') (hd : decode cc pc = .ok (.irem, 1)) (k : Kn w b p l e R s m args below meth c Q n cs ss (pc + 1) st') : Kn w b p l e R s m args below meth c Q n cs ss pc st := by
  obtain ⟨L, S, g⟩ := st
  simp only [xI] at h
  split at h
  · split at h
    · cases h
    · rename_i hne
      cases h
      exact fun hn H locs ls hL hG hS => lv_irem cx.hx cx.hb hd hne (k hn H locs ls hL hG hS)
  · cases h
theorem xs_dmul (cx : CX w p s m args c cc n own) (eo : EnvOk w b p l e R s m args below meth c Q cc n own E) (h : xI E (.dmul) st = some st') (hd : decode cc pc = .ok (.dmul, 1)) (k : Kn w b p l e R s m args below meth c Q n cs ss (pc + 1) st') : Kn w b p l e R s m args below meth c Q n cs ss pc st := by
  obtain ⟨L, S, g⟩ := st
  simp only [xI] at h
  split at h
  · split at h
    · rename_i hne
      cases h
      exact fun hn H locs ls hL hG hS => lv_dmul cx.hx cx.hb hd hne (k hn H locs ls hL hG hS)
    · cases h
  · cases h
theorem xs_ddiv (cx : CX w p s m args c cc n own) (eo : EnvOk w b p l e R s m args below meth c Q cc n own E) (h : xI E (.ddiv) st = some st') (hd : decode cc pc = .ok (.ddiv, 1)) (k : Kn w b p l e R s m args below meth c Q n cs ss (pc + 1) st') : Kn w b p l e R s m args below meth c Q n cs ss pc st := by
  obtain ⟨L, S, g⟩ := st
  simp only [xI] at h
  split at h
  · split at h
    · rename_i hne
      cases h
      exact fun hn H locs ls hL hG hS => lv_ddiv cx.hx cx.hb hd hne (k hn H locs ls hL hG hS)
    · cases h
  · cases h
theorem xs_dsub (cx : CX w p s m args c cc n own) (eo : EnvOk w b p l e R s m args below meth c Q cc n own E) (h : xI E (.dsub) st = some st') (hd : decode cc pc = .ok (.dsub, 1)) (k : Kn w b p l e R s m args below meth c Q n cs ss (pc + 1) st') : Kn w b p l e R s m args below meth c Q n cs ss pc st := by
  obtain ⟨L, S, g⟩ := st
  simp only [xI] at h
  split at h
  · split at h
    · rename_i hne
      cases h
      exact fun hn H locs ls hL hG hS => lv_dsub cx.hx cx.hb hd hne (k hn H locs ls hL hG hS)
    · cases h
  · cases h
theorem xs_lshl (cx : CX w p s m args c cc n own) (eo : EnvOk w b p l e R s m args below meth c Q cc n own E) (h : xI E (.lshl) st = some st') (hd : decode cc pc = .ok (.lshl, 1)) (k : Kn w b p l e R s m args below meth c Q n cs ss (pc + 1) st') : Kn w b p l e R s m args below meth c Q n cs ss pc st := by
  obtain ⟨L, S, g⟩ := st
  simp only [xI] at h
  split at h
  · cases h
    exact fun hn H locs ls hL hG hS => lv_lshl cx.hx cx.hb hd rfl (k hn H locs ls hL hG hS)
  · cases h
theorem xs_i2l (cx : CX w p s m args c cc n own) (eo : EnvOk w b p l e R s m args below meth c Q cc n own E) (h : xI E (.i2l) st = some st') (hd : decode cc pc = .ok (.i2l, 1)) (k : Kn w b p l e R s m args below meth c Q n cs ss (pc + 1) st') : Kn w b p l e R s m args below meth c Q n cs ss pc st := by
  obtain ⟨L, S, g⟩ := st
  simp only [xI] at h
  split at h
  · cases h
    exact fun hn H locs ls hL hG hS => lv_i2l cx.hx cx.hb hd rfl (k hn H locs ls hL hG hS)
  · cases h
theorem xs_i2d (cx : CX w p s m args c cc n own) (eo : EnvOk w b p l e R s m args below meth c Q cc n own E) (h : xI E (.i2d) st = some st') (hd : decode cc pc = .ok (.i2d, 1)) (k : Kn w b p l e R s m args below meth c Q n cs ss (pc + 1) st') : Kn w b p l e R s m args below meth c Q n cs ss pc st := by
  obtain ⟨L, S, g⟩ := st
  simp only [xI] at h
  split at h
  · cases h
    exact fun hn H locs ls hL hG hS => lv_i2d cx.hx cx.hb hd (k hn H locs ls hL hG hS)
  · cases h
theorem xs_d2l (cx : CX w p s m args c cc n own) (eo : EnvOk w b p l e R s m args below meth c Q cc n own E) (h : xI E (.d2l) st = some st') (hd : decode cc pc = .ok (.d2l, 1)) (k : Kn w b p l e R s m args below meth c Q n cs ss (pc + 1) st') : Kn w b p l e R s m args below meth c Q n cs ss pc st := by
  obtain ⟨L, S, g⟩ := st
  simp only [xI] at h
  split at h
  · cases h
    exact fun hn H locs ls hL hG hS => lv_d2l cx.hx cx.hb hd (k hn H locs ls hL hG hS)
  · cases h
theorem xs_lcmp (cx : CX w p s m args c cc n own) (eo : EnvOk w b p l e R s m args below meth c Q cc n own E) (h : xI E (.lcmp) st = some st') (hd : decode cc pc = .ok (.lcmp, 1)) (k : Kn w b p l e R s m args below meth c Q n cs ss (pc + 1) st') : Kn w b p l e R s m args below meth c Q n cs ss pc st := by
  obtain ⟨L, S, g⟩ := st
  simp only [xI] at h
  split at h
  · cases h
    exact fun hn H locs ls hL hG hS => W.lcmp cx.hx cx.hb hd (k hn H locs ls hL hG hS)
  · cases h
theorem xs_dcmp {k0 : CmpOp} (cx : CX w p s m args c cc n own) (eo : EnvOk w b p l e R s m args below meth c Q cc n own E) (h : xI E (.dcmp k0) st = some st') (hd : decode cc pc = .ok (.dcmp k0, 1)) (k : Kn w b p l e R s m args below meth c Q n cs ss (pc + 1) st') : Kn w b p l e R s m args below meth c Q n cs ss pc st := by
  obtain ⟨L, S, g⟩ := st
  simp only [xI] at h
  split at h
  · cases h
    exact fun hn H locs ls hL hG hS => lv_dcmp cx.hx cx.hb hd (k hn H locs ls hL hG hS)
  · cases h
theorem xs_dup (cx : CX w p s m args c cc n own) (eo : EnvOk w b p l e R s m args below meth c Q cc n own E) (h : xI E (.dup) st = some st') (hd : decode cc pc = .ok (.dup, 1)) (k : Kn w b p l e R s m args below meth c Q n cs ss (pc + 1) st') : Kn w b p l e R s m args below meth c Q n cs ss pc st := by
  obtain ⟨L, S, g⟩ := st
  simp only [xI] at h
  split at h
  · cases h
    exact fun hn H locs ls hL hG hS => lv_dup cx.hx cx.hb hd rfl (k hn H locs ls hL hG hS)
  · cases h
    exact fun hn H locs ls hL hG hS => lv_dup cx.hx cx.hb hd rfl (k hn H locs ls hL hG hS)
  · cases h
theorem xs_dup2 (cx : CX w p s m args c cc n own) (eo : EnvOk w b p l e R s m args below meth c Q cc n own E) (h : xI E (.dup2) st = some st') (hd : decode cc pc = .ok (.dup2, 1)) (k : Kn w b p l e R s m args below meth c Q n cs ss (pc + 1) st') : Kn w b p l e R s m args below meth c Q n cs ss pc st := by
  obtain ⟨L, S, g⟩ := st
  simp only [xI] at h
  split at h
  · cases h
    exact fun hn H locs ls hL hG hS => lv_dup2_11 cx.hx cx.hb hd rfl rfl (k hn H locs ls hL hG hS)
  · cases h
theorem xs_pop (cx : CX w p s m args c cc n own) (eo : EnvOk w b p l e R s m args below meth c Q cc n own E) (h : xI E (.pop) st = some st') (hd : decode cc pc = .ok (.pop, 1)) (k : Kn w b p l e R s m args below meth c Q n cs ss (pc + 1) st') : Kn w b p l e R s m args below meth c Q n cs ss pc st := by
  obtain ⟨L, S, g⟩ := st
  simp only [xI] at h
  split at h
  · cases h
    exact fun hn H locs ls hL hG hS => lv_pop cx.hx cx.hb hd rfl (k hn H locs ls hL hG hS)
  · cases h
theorem xs_aconst_null (cx : CX w p s m args c cc n own) (eo : EnvOk w b p l e R s m args below meth c Q cc n own E) (h : xI E (.aconst_null) st = some st') (hd : decode cc pc = .ok (.aconst_null, 1)) (k : Kn w b p l e R s m args below meth c Q n cs ss (pc + 1) st') : Kn w b p l e R s m args below meth c Q n cs ss pc st := by
  obtain ⟨L, S, g⟩ := st
  simp only [xI] at h
  cases h
  exact fun hn H locs ls hL hG hS => lv_null cx.hx cx.hb hd (k hn H locs ls hL hG hS)
end
end
section
/-! ===== the soundness of what reads and writes the heap, and of calls ===== -/
section
variable {w : Wd} {b : Bool} {p : Program} {l : Launch} {e : Jvm.Env} {R : Room} {s : State} {m : MethodId} {args : Array Value} {below : List Frame} {meth : Method} {c : Code} {Q : State → Prop} {cc : ByteArray} {n cs ss pc : Nat} {own : String} {E : Env}
variable {L : List (Option Value)} {S : List Value} {g : G} {st st' : St}
theorem zcl_at {ci : Nat} (h : ci < 7) : ∃ r, zcl[ci]? = some r := by
  match ci, h with
  | 0, _ => exact ⟨_, rfl⟩
  | 1, _ => exact ⟨_, rfl⟩
  | 2, _ => exact ⟨_, rfl⟩
  | 3, _ => exact ⟨_, rfl⟩
  | 4, _ => exact ⟨_, rfl⟩
  | 5, _ => exact ⟨_, rfl⟩
  | 6, _ => exact ⟨_, rfl⟩
theorem zfok_spec {own : String} {q : Nat × Nat × Nat} (h : zfok own q = true) : ∃ r : vw_C, zcl[q.2.1]? = some r ∧ q.2.1 < 7 ∧ q.2.2 < r.2.2 ∧ r.1 = own ∧ Cond.fieldLink own q.1 own (r.2.1 q.2.2).2.1 (r.2.1 q.2.2).2.2.1 ∈ lw_tbl := by
  unfold zfok at h
  split at h
  · rename_i r hr
    simp only [Bool.and_eq_true, decide_eq_true_eq] at h
    exact ⟨r, hr, h.1, h.2.1, h.2.2.1, h.2.2.2⟩
  · cases h
theorem zlay {r : vw_C} {ci : Nat} (hr : zcl[ci]? = some r) (h : ci < 7) : ∀ x ∈ u_ws r.1 r.2.1 r.2.2, x ∈ lw_tbl.filter goodWord := by
  have h1 := zlay_ok ci h
  rw [hr] at h1
  intro x hx
  refine List.mem_filter.mpr ⟨h1 x hx, ?_⟩
  obtain ⟨k, -, rfl⟩ := List.mem_map.mp hx
  unfold u_lay
  split <;> rfl
theorem ztyok {r : vw_C} {ci : Nat} (hr : zcl[ci]? = some r) (h : ci < 7) : ∀ k, k < r.2.2 → parseFieldDescriptor (r.2.1 k).2.2.1 = some (zty ci k) := by
  have h1 := zty_ok ci h
  rw [hr] at h1
  exact h1
theorem znmok {r : vw_C} {ci : Nat} (hr : zcl[ci]? = some r) (h : ci < 7) : ∀ a, a < r.2.2 → ∀ b, b < r.2.2 → a ≠ b → (r.2.1 a).2.1 ≠ (r.2.1 b).2.1 := by
  have h1 := znm_ok ci h
  rw [hr] at h1
  exact h1
theorem zdcok {r : vw_C} {ci : Nat} (hr : zcl[ci]? = some r) (h : ci < 7) : ∀ k, k < r.2.2 → (r.2.1 k).1 = r.1 := by
  have h1 := zdc_ok ci h
  rw [hr] at h1
  exact h1
theorem xs_getfield {k0 : Nat} (cx : CX w p s m args c cc n own) (eo : EnvOk w b p l e R s m args below meth c Q cc n own E) (h : xI E (.getfield k0) st = some st') (hd : decode cc pc = .ok (.getfield k0, 3)) (k : Kn w b p l e R s m args below meth c Q n cs ss (pc + 3) st') : Kn w b p l e R s m args below meth c Q n cs ss pc st := by
  obtain ⟨L, S, g⟩ := st
  simp only [xI] at h
  split at h
  · rename_i a S
    split at h
    · rename_i ci fs hM
      split at h
      · rename_i cj j hf
        split at h
        · rename_i hcj
          subst hcj
          split at h
          · rename_i v hv
            cases h
            obtain ⟨⟨C, T, N⟩, hr, h7, hj, hC, hlink⟩ := zfok_spec (eo.2.1 _ (lookN_mem hf))
            dsimp only at hr h7 hj hC hlink
            subst hC
            intro hn H locs ls hL hG hS
            refine va_get (D := w.2.2.1) (cl := zcl) (ref := C) (T := T) (C := C) (N := N) (ci := ci) cx.hx cx.hb cx.hall (zlay hr h7) cx.hown cx.kk.1 (hG.one hM) 0 rfl hr j hj (cx.hts hlink rfl) (fun x hx => ?_) (v := ztv w v) ?_ hd (k hn H locs ls hL hG hS)
            · have hdc : (T j).1 = C := zdcok hr h7 j hj
              rw [hdc] at hx; exact hx
            · rw [List.getElem?_map, hv]; rfl
          · cases h
        · cases h
      · cases h
    · cases h
  · cases h
theorem xs_getstatic {k0 : Nat} (cx : CX w p s m args c cc n own) (eo : EnvOk w b p l e R s m args below meth c Q cc n own E) (h : xI E (.getstatic k0) st = some st') (hd : decode cc pc = .ok (.getstatic k0, 3)) (k : Kn w b p l e R s m args below meth c Q n cs ss (pc + 3) st') : Kn w b p l e R s m args below meth c Q n cs ss pc st := by
  obtain ⟨L, S, g⟩ := st
  simp only [xI] at h
  split at h
  · rename_i j hj
    cases h
    have hk := eo.2.2.2.1 _ (lookN_mem hj)
    simp only [zsok, Bool.and_eq_true, Bool.or_eq_true, decide_eq_true_eq] at hk
    intro hn H locs ls hL hG hS
    rcases hk.2 with h1 | h1
    · exact va_gets cx.hx cx.hb (cx.kk.2.2.1 j hk.1) hS cx.hown (cx.hts h1 rfl) (fun _ h => h) hd (k hn H locs ls hL hG hS)
    · exact va_getsN cx.hx cx.hb (cx.kk.2.2.1 j hk.1) hS cx.hown (va_Nw.use rfl (cx.kk.2.2.2.1 _ h1)) (fun _ h => h) hd (k hn H locs ls hL hG hS)
  · cases h
theorem xs_arraylength (cx : CX w p s m args c cc n own) (eo : EnvOk w b p l e R s m args below meth c Q cc n own E) (h : xI E .arraylength st = some st') (hd : decode cc pc = .ok (.arraylength, 1)) (k : Kn w b p l e R s m args below meth c Q n cs ss (pc + 1) st') : Kn w b p l e R s m args below meth c Q n cs ss pc st := by
  obtain ⟨L, S, g⟩ := st
  simp only [xI] at h
  split at h
  · split at h
    · rename_i hM
      cases h
      exact fun hn H locs ls hL hG hS => va_alen cx.hx cx.hb cx.kk.1 (hG.one hM) 0 0 rfl rfl rfl hd (k hn H locs ls hL hG hS)
    · rename_i hM
      cases h
      exact fun hn H locs ls hL hG hS => va_alen cx.hx cx.hb cx.kk.1 (hG.one hM) 0 1 rfl rfl rfl hd (k hn H locs ls hL hG hS)
    · rename_i hM
      cases h
      exact fun hn H locs ls hL hG hS => va_alen cx.hx cx.hb cx.kk.1 (hG.one hM) 0 2 rfl rfl rfl hd (k hn H locs ls hL hG hS)
    · cases h
    · split at h
      · rename_i hT
        cases h
        intro hn H locs ls hL hG hS
        obtain ⟨-, cell, q1, q2, q3, q4, q5, q6, q7⟩ := cx.kk.2.1 _ _ (eo.2.2.2.2.1 _ _ hT)
        exact W.alen cx.hx cx.hb (by rw [hS.2.1 _ (Array.getElem?_eq_some_iff.mp q1).1 q7]; exact q1) q2 q5 rfl rfl hd (k hn H locs ls hL hG hS)
      · cases h
  · cases h
theorem xs_iaload (cx : CX w p s m args c cc n own) (eo : EnvOk w b p l e R s m args below meth c Q cc n own E) (h : xI E .iaload st = some st') (hd : decode cc pc = .ok (.iaload, 1)) (k : Kn w b p l e R s m args below meth c Q n cs ss (pc + 1) st') : Kn w b p l e R s m args below meth c Q n cs ss pc st := by
  obtain ⟨L, S, g⟩ := st
  simp only [xI] at h
  split at h
  · split at h
    · rename_i hM
      split at h
      · rename_i hi
        cases h
        obtain ⟨h1, h2⟩ := zix_in hi
        subst h2
        exact fun hn H locs ls hL hG hS => va_iald cx.hx cx.hb cx.kk.1 (hG.one hM) 0 0 rfl rfl h1 hd (k hn H locs ls hL hG hS)
      · cases h
    · cases h
    · split at h
      · rename_i hT
        split at h
        · rename_i hi
          cases h
          obtain ⟨h1, h2⟩ := zix_in hi
          subst h2
          exact fun hn H locs ls hL hG hS => va_ti cx.hx cx.hb (cx.kk.2.1 _ _ (eo.2.2.2.2.1 _ _ hT)).2 hS h1 rfl hd (k hn H locs ls hL hG hS)
        · cases h
      · cases h
  · cases h
theorem xs_laload (cx : CX w p s m args c cc n own) (eo : EnvOk w b p l e R s m args below meth c Q cc n own E) (h : xI E .laload st = some st') (hd : decode cc pc = .ok (.laload, 1)) (k : Kn w b p l e R s m args below meth c Q n cs ss (pc + 1) st') : Kn w b p l e R s m args below meth c Q n cs ss pc st := by
  obtain ⟨L, S, g⟩ := st
  simp only [xI] at h
  split at h
  · split at h
    · rename_i hM
      split at h
      · rename_i hi
        cases h
        obtain ⟨h1, h2⟩ := zix_in hi
        subst h2
        exact fun hn H locs ls hL hG hS => va_lald cx.hx cx.hb cx.kk.1 (hG.one hM) 0 1 rfl rfl h1 hd (k hn H locs ls hL hG hS)
      · cases h
    · cases h
  · cases h
theorem xs_aaload (cx : CX w p s m args c cc n own) (eo : EnvOk w b p l e R s m args below meth c Q cc n own E) (h : xI E .aaload st = some st') (hd : decode cc pc = .ok (.aaload, 1)) (k : Kn w b p l e R s m args below meth c Q n cs ss (pc + 1) st') : Kn w b p l e R s m args below meth c Q n cs ss pc st := by
  obtain ⟨L, S, g⟩ := st
  simp only [xI] at h
  split at h
  · split at h
    · rename_i f hM
      split at h
      · rename_i j hi
        obtain ⟨h1, h2⟩ := zix_in hi
        subst h2
        split at h
        · rename_i q hq
          cases h
          exact fun hn H locs ls hL hG hS => va_aldq cx.hx cx.hb cx.kk.1 (hG.one hM) 0 2 rfl rfl h1 hd (by dsimp only; rw [hq]; exact k hn H locs ls hL hG hS)
        · rename_i hq
          cases h
          exact fun hn H locs ls hL hG hS => va_aldq cx.hx cx.hb cx.kk.1 (hG.one hM) 0 2 rfl rfl h1 hd (by dsimp only; rw [hq]; exact k hn H locs ls hL hG hS)
      · cases h
    · cases h
  · cases h
theorem xs_iastore (cx : CX w p s m args c cc n own) (eo : EnvOk w b p l e R s m args below meth c Q cc n own E) (h : xI E .iastore st = some st') (hd : decode cc pc = .ok (.iastore, 1)) (k : Kn w b p l e R s m args below meth c Q n cs ss (pc + 1) st') : Kn w b p l e R s m args below meth c Q n cs ss pc st := by
  obtain ⟨L, S, g⟩ := st
  simp only [xI] at h
  split at h
  · rename_i x i a S
    split at h
    · rename_i N f hM
      split at h
      · rename_i j hi
        cases h
        obtain ⟨h1, h2⟩ := zix_in hi
        subst h2
        intro hn H locs ls hL hG hS
        obtain ⟨h4, hat⟩ := hG.1 _ _ hM
        refine W.iast cx.hx cx.hb hat ((cx.kk.1.2 0 _ rfl).1 N (fun j => .int (f j))) (fun q => by cases q) (by show ¬ (i < 0 ∨ (arrV _ _ _).slots.size ≤ _); rw [arrV_size]; exact h1) rfl rfl hd fun H1 e1 z1 o1 => ?_
        refine k hn H1 _ ls hL (hG.put hM z1 o1 ?_) (hS.put' z1 o1 h4)
        show H1[zad w a]? = some (arrV (w.2.2.2.1 0) N (fun j => .int (upd f i.toNatClampNeg x j)))
        rw [e1]
        refine congrArg some ((arrV_store _ _ _ _ _).trans (congrArg (arrV _ _) ?_))
        funext q
        by_cases hq : q = i.toNatClampNeg
        · subst hq; simp [updV, upd]
        · simp [updV, upd, hq]
      · cases h
    · cases h
  · cases h
theorem xs_lastore (cx : CX w p s m args c cc n own) (eo : EnvOk w b p l e R s m args below meth c Q cc n own E) (h : xI E .lastore st = some st') (hd : decode cc pc = .ok (.lastore, 1)) (k : Kn w b p l e R s m args below meth c Q n cs ss (pc + 1) st') : Kn w b p l e R s m args below meth c Q n cs ss pc st := by
  obtain ⟨L, S, g⟩ := st
  simp only [xI] at h
  split at h
  · rename_i x i a S
    split at h
    · rename_i N f hM
      split at h
      · rename_i j hi
        cases h
        obtain ⟨h1, h2⟩ := zix_in hi
        subst h2
        intro hn H locs ls hL hG hS
        obtain ⟨h4, hat⟩ := hG.1 _ _ hM
        refine W.last cx.hx cx.hb hat ((cx.kk.1.2 1 _ rfl).1 N (fun j => .long (f j))) (fun q => by cases q) (by show ¬ (i < 0 ∨ (arrV _ _ _).slots.size ≤ _); rw [arrV_size]; exact h1) rfl rfl hd fun H1 e1 z1 o1 => ?_
        refine k hn H1 _ ls hL (hG.put hM z1 o1 ?_) (hS.put' z1 o1 h4)
        show H1[zad w a]? = some (arrV (w.2.2.2.1 1) N (fun j => .long (vp_updL f i.toNatClampNeg x j)))
        rw [e1]
        refine congrArg some ((arrV_store _ _ _ _ _).trans (congrArg (arrV _ _) ?_))
        funext q
        by_cases hq : q = i.toNatClampNeg
        · subst hq; simp [updV, vp_updL]
        · simp [updV, vp_updL, hq]
      · cases h
    · cases h
  · cases h
theorem xs_aastore (cx : CX w p s m args c cc n own) (eo : EnvOk w b p l e R s m args below meth c Q cc n own E) (h : xI E .aastore st = some st') (hd : decode cc pc = .ok (.aastore, 1)) (k : Kn w b p l e R s m args below meth c Q n cs ss (pc + 1) st') : Kn w b p l e R s m args below meth c Q n cs ss pc st := by
  obtain ⟨L, S, g⟩ := st
  simp only [xI] at h
  split at h
  · rename_i v i a S
    split at h
    · rename_i N f hM
      split at h
      · rename_i j hi
        split at h
        · rename_i vs hV
          cases h
          obtain ⟨h1, h2⟩ := zix_in hi
          subst h2
          intro hn H locs ls hL hG hS
          obtain ⟨h4, hat⟩ := hG.1 _ _ hM
          obtain ⟨r', hr', cellV, g1, g2, g3, -⟩ := (hG.1 _ _ hV).2
          have hcls := (cx.kk.1.1 2 _ rfl).2
          obtain ⟨kA, comp, k1, k2, k3, -⟩ := (cx.kk.1.2 2 _ rfl).2
          have hcomp : comp = w.2.2.1.1 2 := Option.some.inj (k3.symm.trans hcls.1)
          subst hcomp
          obtain ⟨kC, hkC, -⟩ := hcls.2
          have hlt : i.toNatClampNeg < N := Nat.not_le.mp fun q => h1 (Or.inr q)
          have h0 : ¬ i < 0 := fun q => h1 (Or.inl q)
          refine W.aast cx.hx cx.hb hat (fun q h => by cases h) (fun h => by cases h) k1 k2 rfl hkC ⟨h0, by show _ < (arrV _ _ _).slots.size; rw [arrV_size]; exact hlt⟩ g1 (fun q h => by rw [g3] at h; cases h) (by rw [g2]; exact hkC) (by rw [g2]; exact va_assign hcls) rfl rfl hd fun H1 e1 z1 o1 => ?_
          refine k hn H1 _ ls hL (hG.put hM z1 o1 ?_) (hS.put' z1 o1 h4)
          show H1[zad w a]? = some (arrV (w.2.2.2.1 2) N (fun j => va_rf ((va_up f i.toNatClampNeg (some v) j).map (zad w))))
          rw [e1]
          refine congrArg some ((arrV_store _ _ _ _ _).trans (congrArg (arrV _ _) ?_))
          funext q
          by_cases hq : q = i.toNatClampNeg
          · subst hq; simp [updV, va_up, va_rf]
          · simp [updV, va_up, hq]
        · cases h
      · cases h
    · cases h
  · cases h
theorem xs_putfield {k0 : Nat} (cx : CX w p s m args c cc n own) (eo : EnvOk w b p l e R s m args below meth c Q cc n own E) (h : xI E (.putfield k0) st = some st') (hd : decode cc pc = .ok (.putfield k0, 3)) (k : Kn w b p l e R s m args below meth c Q n cs ss (pc + 3) st') : Kn w b p l e R s m args below meth c Q n cs ss pc st := by
  obtain ⟨L, S, g⟩ := st
  simp only [xI] at h
  split at h
  · rename_i v a S
    split at h
    · rename_i ci fs hM
      split at h
      · rename_i cj j hf
        split at h
        · rename_i hcj
          obtain ⟨hcj, hfit, hlen, hfin⟩ := hcj
          subst hcj
          cases h
          obtain ⟨⟨C, T, N⟩, hr, h7, hj, hC, hlink⟩ := zfok_spec (eo.2.1 _ (lookN_mem hf))
          dsimp only at hr h7 hj hC hlink
          subst hC
          rw [hr] at hfin
          intro hn H locs ls hL hG hS
          obtain ⟨h4, hat⟩ := hG.1 _ _ hM
          have hap := va_apart (own := C) cx.hall (zlay hr h7) (zty ci) (ztyok hr h7) (znmok hr h7) cx.kk.1 hr
          obtain ⟨r, h1, cell, q1, q2, q3, q4⟩ := hat
          have hrr : r = (C, T, N) := Option.some.inj (h1.symm.trans hr)
          subst hrr
          obtain ⟨hSl, hfc, kC, hkC, hkind⟩ := cx.kk.1.1 ci _ hr
          obtain ⟨cf, kf, fi, f, hi, hsl⟩ := hSl j hj
          have hlay := cx.hall _ (zlay hr h7 _ (u_in_lay hj))
          have hst := (u_facts hfc hkC (u_lays cx.hall (zlay hr h7) hj) hi).1
          obtain ⟨z1, z2⟩ := zfit_ok (w := w) hfit
          have hdc : (T j).1 = C := zdcok hr h7 j hj
          have hi' : s.fieldFound? C (T j).2.1 (T j).2.2.1 = some (cf, kf, fi, f) := by have hi2 := hi; dsimp only at hi2; rw [hdc] at hi2; exact hi2
          have hend : ∀ (H1 : Heap), H1[zad w a]? = some (cell.setSlot f.slot (ztv w v)) → H1.size = H.size → (∀ q : Nat, q ≠ zad w a → H1[q]? = H[q]?) → W p l e R s m args below meth c H1 (locs ++ [⟨zad w a, f.slot⟩]) cs ss Q (F0 m (pc + 3) ls (S.map (ztv w))) := by
            intro H1 e1 e2 e3
            rw [hsl] at e1
            refine k hn H1 _ ls hL (hG.put hM e2 e3 ?_) (hS.put' e2 e3 h4)
            refine ⟨_, hr, t_OB.to (V := updV (vp_V (fs.map (ztv w))) j (ztv w v)) ⟨_, e1, q2, q3, t_set q4 hap hj _⟩ (fun i _ => ?_)⟩
            rw [vp_updV_set (by simpa using hlen), List.map_set]
          unfold u_lay at hlay
          by_cases hF : (T j).2.2.2 = true
          · rw [if_pos hF] at hlay
            have hI : eI E = true := by
              rcases hfin with h0 | h0
              · exact absurd hF (by rw [show (T j).2.2.2 = false from h0]; decide)
              · exact h0
            have hcf : m.cls = cf := by
              obtain ⟨_, _, c', _, _, _, -, -, hf', -, -, -, hown2, -⟩ := Cond.laysFinal_spec hlay
              have e1 : c' = cf := by have := hi.symm.trans hf'; simp at this; exact this.1.symm
              rw [hdc] at hown2
              rw [← e1]; exact Option.some.inj (cx.hown.symm.trans hown2)
            have h6 := u_fits hfc hkC hkind (Or.inr hlay) hi (ztyok hr h7 j hj) z1 z2
            exact W.putFinK cx.hx cx.hb cx.hown (cx.hts hlink rfl) hi' hst hcf (eo.2.2.2.2.2.1 hI) (by rw [q2]; exact h6) q1 q3 (by rw [hsl]; exact k2_hasslot (q4 j hj)) rfl rfl hd hend
          · rw [if_neg hF] at hlay
            have h6 := u_store hfc hkC hkind hlay hi (ztyok hr h7 j hj) z1 z2
            exact W.putK cx.hx cx.hb (f := f) ⟨cx.hown, cx.hts hlink rfl, ⟨_, _, _, hi'⟩, hst⟩ (by rw [q2]; exact h6) q1 q3 (by rw [hsl]; exact k2_hasslot (q4 j hj)) rfl rfl hd hend
        · cases h
      · cases h
    · cases h
  · cases h
theorem xs_call {i0 : Instr} (eo : EnvOk w b p l e R s m args below meth c Q cc n own E) (hR : cs ≤ R.cells ∧ ss ≤ R.slots) (h : (match lookI (eC E) i0 with
    | some (n, f) => match popN n [] S with
      | some (vs, S) => if wsum S ≤ 8 then match f vs g with
          | some (.inl o, g) => some (L, o.toList ++ S, g)
          | _ => none
        else none
      | none => none
    | none => none) = some st') (hd : decode cc pc = .ok (i0, 3)) (k : Kn w b p l e R s m args below meth c Q n cs ss (pc + 3) st') : Kn w b p l e R s m args below meth c Q n cs ss pc (L, S, g) := by
  split at h
  · rename_i nn f hf
    split at h
    · rename_i vs S' hp
      split at h
      · rename_i h8
        split at h
        · rename_i o g' hx
          cases h
          obtain ⟨us, e1, e2, e3⟩ := popN_spec hp
          rw [List.append_nil] at e1
          subst e1
          rw [e3]
          exact eo.2.2.2.2.2.2 _ (lookI_mem hf) cs ss pc L S' vs g g' o hR.1 hR.2 hd e2 h8 hx k
        · cases h
      · cases h
    · cases h
  · cases h
end
end
section
/-! ===== blocks, conditions, branches, loops, switches, ends ===== -/
def ilen : Instr → Nat
  | .iload _ => 2
  | .aload _ => 2
  | .lload _ => 2
  | .dload _ => 2
  | .istore _ => 2
  | .astore _ => 2
  | .lstore _ => 2
  | .dstore _ => 2
  | .bipush _ => 2
  | .sipush _ => 3
  | .ldc2_w _ => 3
  | .iinc _ _ => 3
  | .getfield _ => 3
  | .putfield _ => 3
  | .getstatic _ => 3
  | .invokevirtual _ => 3
  | .invokespecial _ => 3
  | .invokestatic _ => 3
  | _ => 1
def zck (cc : ByteArray) : Nat → List Instr → Option Nat
  | pc, [] => some pc
  | pc, i :: r => if decode cc pc = .ok (i, ilen i) then zck cc (pc + ilen i) r else none
/-- how a piece of code goes on: nm: to its end; bk, ct: to the end, or the head, of the loop round it; fn: the method is left -/
abbrev Res : Type := Option (St ⊕ (St ⊕ (St ⊕ (Out × G))))
abbrev nm (st : St) : Res := some (.inl st)
abbrev bk (st : St) : Res := some (.inr (.inl st))
abbrev ct (st : St) : Res := some (.inr (.inr (.inl st)))
abbrev fn (o : Out) (g : G) : Res := some (.inr (.inr (.inr (o, g))))
abbrev Dn : Type := St → Res
abbrev Cn : Type := St → Option (Bool × St)
def blk (E : Env) (is : List Instr) : Dn := fun st => match runI E is st with
  | some st => nm st
  | none => none
def sq (a b : Dn) : Dn := fun st => match a st with
  | some (.inl st) => b st
  | some (.inr x) => some (.inr x)
  | none => none
def brk : Dn := fun st => bk st
def cnt : Dn := fun st => ct st
/-- the operands of a conditional jump: is it taken -/
def zcj (i : Instr) (S : List Value) : Option (Bool × List Value) := match i, S with
  | .if_icmp .eq _, .int y :: .int x :: S => some (decide (x = y), S)
  | .if_icmp .ne _, .int y :: .int x :: S => some (decide (¬ x = y), S)
  | .if_icmp .lt _, .int y :: .int x :: S => some (decide (x < y), S)
  | .if_icmp .ge _, .int y :: .int x :: S => some (decide (y ≤ x), S)
  | .if_icmp .gt _, .int y :: .int x :: S => some (decide (y < x), S)
  | .if_icmp .le _, .int y :: .int x :: S => some (decide (x ≤ y), S)
  | .ifCond .eq _, .int x :: S => some (decide (x = 0), S)
  | .ifCond .ne _, .int x :: S => some (decide (¬ x = 0), S)
  | .ifCond .lt _, .int x :: S => some (decide (x < 0), S)
  | .ifCond .ge _, .int x :: S => some (decide (0 ≤ x), S)
  | .ifCond .gt _, .int x :: S => some (decide (0 < x), S)
  | .ifCond .le _, .int x :: S => some (decide (x ≤ 0), S)
  | .ifnull _, .ref _ :: S => some (false, S)
  | .ifnull _, .null :: S => some (true, S)
  | _, _ => none
def zoff (i : Instr) : Int := match i with
  | .if_icmp _ o => o
  | .ifCond _ o => o
  | .ifnull o => o
  | .goto o => o
  | _ => 0
def cat (E : Env) (is : List Instr) (j : Instr) : Cn := fun st => match runI E is st with
  | some (L, S, g) => match zcj j S with
    | some (t, S) => some (t, L, S, g)
    | none => none
  | none => none
def cno (c : Cn) : Cn := fun st => match c st with
  | some (t, st) => some (!t, st)
  | none => none
def can (a b : Cn) : Cn := fun st => match a st with
  | some (true, st) => b st
  | some (false, st) => some (false, st)
  | none => none
def cor (a b : Cn) : Cn := fun st => match a st with
  | some (true, st) => some (true, st)
  | some (false, st) => b st
  | none => none
/-- forgetting locals ahead of a condition -/
def cfo (is : List Nat) (c : Cn) : Cn := fun st => c (zforget st.1 is, st.2)
def ite' (c : Cn) (a b : Dn) : Dn := fun st => match c st with
  | some (true, st) => a st
  | some (false, st) => b st
  | none => none
def lop (c : Cn) (body upd : Dn) : Nat → Dn
  | 0 => fun _ => none
  | N + 1 => fun st => match c st with
    | some (false, st) => nm st
    | some (true, st) => match body st with
      | some (.inl st) => match upd st with
        | some (.inl st) => lop c body upd N st
        | _ => none
      | some (.inr (.inl st)) => nm st
      | some (.inr (.inr (.inl st))) => match upd st with
        | some (.inl st) => lop c body upd N st
        | _ => none
      | some (.inr (.inr (.inr x))) => some (.inr (.inr (.inr x)))
      | none => none
    | none => none
/-- a switch: the first case of that number, or the default -/
def swg (x : Int32) : List (Int32 × Dn) → Dn → Dn
  | [], d => d
  | (k, a) :: r, d => if x = k then a else swg x r d
def swi (E : Env) (is : List Instr) (cs : List (Int32 × Dn)) (d : Dn) : Dn := fun st => match runI E is st with
  | some (L, .int x :: S, g) => swg x cs d (L, S, g)
  | _ => none
/-- the ends -/
def rti (E : Env) (is : List Instr) : Dn := fun st => match runI E is st with
  | some (_, [.int x], g) => fn (.inl (some (.int x))) g
  | _ => none
def rtz (E : Env) (is : List Instr) : Dn := fun st => match runI E is st with
  | some (_, [.int x], g) => if x = 0 ∨ x = 1 then fn (.inl (some (.int x))) g else none
  | _ => none
def rtl (E : Env) (is : List Instr) : Dn := fun st => match runI E is st with
  | some (_, [.long x], g) => fn (.inl (some (.long x))) g
  | _ => none
def rtd (E : Env) (is : List Instr) : Dn := fun st => match runI E is st with
  | some (_, [.double x], g) => fn (.inl (some (.double x))) g
  | _ => none
def rta (E : Env) (is : List Instr) : Dn := fun st => match runI E is st with
  | some (_, [.ref x], g) => fn (.inl (some (.ref x))) g
  | some (_, [.null], g) => fn (.inl (some .null)) g
  | _ => none
def rtv (E : Env) (is : List Instr) : Dn := fun st => match runI E is st with
  | some (_, [], g) => fn (.inl none) g
  | _ => none
/-- the locals at the entry -/
def zsl : List Value → List (Option Value)
  | [] => []
  | .long x :: r => some (.long x) :: none :: zsl r
  | .double x :: r => some (.double x) :: none :: zsl r
  | v :: r => some v :: zsl r
def zpad (n : Nat) (l : List (Option Value)) : List (Option Value) := l ++ List.replicate (n - l.length) none
/-- what a method does -/
def exm (n : Nat) (d : Dn) : Ex := fun vs g => if (zsl vs).length ≤ n then match d (zpad n (zsl vs), [], g) with
    | some (.inr (.inr (.inr x))) => some x
    | _ => none
  else none
section
variable {w : Wd} {b : Bool} {p : Program} {l : Launch} {e : Jvm.Env} {R : Room} {s : State} {m : MethodId} {args : Array Value} {below : List Frame} {meth : Method} {c : Code} {Q : State → Prop} {cc : ByteArray} {n cs ss pc : Nat} {own : String} {E : Env}
variable {L : List (Option Value)} {S : List Value} {g : G} {st st' : St}
theorem xI_sound {i : Instr} (cx : CX w p s m args c cc n own) (eo : EnvOk w b p l e R s m args below meth c Q cc n own E) (hR : cs ≤ R.cells ∧ ss ≤ R.slots) (h : xI E i st = some st') (hd : decode cc pc = .ok (i, ilen i)) (k : Kn w b p l e R s m args below meth c Q n cs ss (pc + ilen i) st') : Kn w b p l e R s m args below meth c Q n cs ss pc st := by
  cases i
  case iload_n => exact xs_iload_n cx eo h hd k
  case iload => exact xs_iload cx eo h hd k
  case aload_n => exact xs_aload_n cx eo h hd k
  case aload => exact xs_aload cx eo h hd k
  case lload_n => exact xs_lload_n cx eo h hd k
  case lload => exact xs_lload cx eo h hd k
  case dload_n => exact xs_dload_n cx eo h hd k
  case dload => exact xs_dload cx eo h hd k
  case iconst => exact xs_iconst cx eo h hd k
  case bipush => exact xs_bipush cx eo h hd k
  case sipush => exact xs_sipush cx eo h hd k
  case lconst => exact xs_lconst cx eo h hd k
  case dconst => exact xs_dconst cx eo h hd k
  case ldc2_w => exact xs_ldc2 cx eo h hd k
  case istore_n => exact xs_istore_n cx eo h hd k
  case istore => exact xs_istore cx eo h hd k
  case astore_n => exact xs_astore_n cx eo h hd k
  case astore => exact xs_astore cx eo h hd k
  case lstore_n => exact xs_lstore_n cx eo h hd k
  case lstore => exact xs_lstore cx eo h hd k
  case dstore_n => exact xs_dstore_n cx eo h hd k
  case dstore => exact xs_dstore cx eo h hd k
  case iinc => exact xs_iinc cx eo h hd k
  case iadd => exact xs_iadd cx eo h hd k
  case isub => exact xs_isub cx eo h hd k
  case imul => exact xs_imul cx eo h hd k
  case idiv => exact xs_idiv cx eo h hd k
  case irem => exact xs_irem cx eo h hd k
  case iand => exact xs_iand cx eo h hd k
  case ladd => exact xs_ladd cx eo h hd k
  case lsub => exact xs_lsub cx eo h hd k
  case lmul => exact xs_lmul cx eo h hd k
  case lshl => exact xs_lshl cx eo h hd k
  case i2l => exact xs_i2l cx eo h hd k
  case i2d => exact xs_i2d cx eo h hd k
  case d2l => exact xs_d2l cx eo h hd k
  case dmul => exact xs_dmul cx eo h hd k
  case ddiv => exact xs_ddiv cx eo h hd k
  case dsub => exact xs_dsub cx eo h hd k
  case lcmp => exact xs_lcmp cx eo h hd k
  case dcmp => exact xs_dcmp cx eo h hd k
  case dup => exact xs_dup cx eo h hd k
  case dup2 => exact xs_dup2 cx eo h hd k
  case pop => exact xs_pop cx eo h hd k
  case aconst_null => exact xs_aconst_null cx eo h hd k
  case arraylength => exact xs_arraylength cx eo h hd k
  case iaload => exact xs_iaload cx eo h hd k
  case iastore => exact xs_iastore cx eo h hd k
  case laload => exact xs_laload cx eo h hd k
  case lastore => exact xs_lastore cx eo h hd k
  case aaload => exact xs_aaload cx eo h hd k
  case aastore => exact xs_aastore cx eo h hd k
  case getfield => exact xs_getfield cx eo h hd k
  case putfield => exact xs_putfield cx eo h hd k
  case getstatic => exact xs_getstatic cx eo h hd k
  case invokevirtual => obtain ⟨L, S, g⟩ := st; exact xs_call eo hR h hd k
  case invokespecial => obtain ⟨L, S, g⟩ := st; exact xs_call eo hR h hd k
  case invokestatic => obtain ⟨L, S, g⟩ := st; exact xs_call eo hR h hd k
  all_goals (obtain ⟨L, S, g⟩ := st; cases (show (none : Option St) = some st' from h))
theorem run_sound (cx : CX w p s m args c cc n own) (eo : EnvOk w b p l e R s m args below meth c Q cc n own E) (hR : cs ≤ R.cells ∧ ss ≤ R.slots) : ∀ (is : List Instr) {pc pe : Nat} {st st' : St}, zck cc pc is = some pe → runI E is st = some st' → Kn w b p l e R s m args below meth c Q n cs ss pe st' → Kn w b p l e R s m args below meth c Q n cs ss pc st
  | [], pc, pe, st, st', hz, hr, k => by
    cases hz; cases hr; exact k
  | i :: r, pc, pe, st, st', hz, hr, k => by
    unfold zck at hz
    split at hz
    · rename_i hd
      unfold runI at hr
      split at hr
      · rename_i st1 h1
        exact xI_sound cx eo hR h1 hd (run_sound cx eo hR r hz hr k)
      · cases hr
    · cases hz
end
end
section
/-! ===== the soundness of the combinators, over any goal at places ===== -/
abbrev Kp : Type := Nat → Nat → Nat → St → Prop
def Sn (K : Kp) (F : Out → G → Prop) (kb kc : St → Prop) (c0 s0 pc : Nat) (d : Dn) (c1 s1 pe : Nat) : Prop := ∀ st, match d st with
  | some (.inl st') => K c1 s1 pe st' → K c0 s0 pc st
  | some (.inr (.inl st')) => kb st' → K c0 s0 pc st
  | some (.inr (.inr (.inl st'))) => kc st' → K c0 s0 pc st
  | some (.inr (.inr (.inr x))) => F x.1 x.2 → K c0 s0 pc st
  | none => True
def Sc (K : Kp) (c s pc : Nat) (d : Cn) (pt pf : Nat) : Prop := ∀ st, match d st with
  | some (true, st') => K c s pt st' → K c s pc st
  | some (false, st') => K c s pf st' → K c s pc st
  | none => True
section
variable {K : Kp} {F : Out → G → Prop} {kb kc : St → Prop} {c0 s0 c1 s1 c2 s2 c s pc pe pm pt pf pu px p2 : Nat}
theorem sn_blk {E : Env} {is : List Instr} (h : ∀ st st', runI E is st = some st' → K c s pe st' → K c s pc st) : Sn K F kb kc c s pc (blk E is) c s pe := by
  intro st
  unfold blk
  cases hr : runI E is st with
  | none => trivial
  | some st' => exact h st st' hr
theorem sn_sq {a b : Dn} (ha : Sn K F kb kc c0 s0 pc a c1 s1 pm) (hb : Sn K F kb kc c1 s1 pm b c2 s2 pe) : Sn K F kb kc c0 s0 pc (sq a b) c2 s2 pe := by
  intro st
  have h1 := ha st
  unfold sq
  cases hr : a st with
  | none => trivial
  | some r =>
    rw [hr] at h1
    rcases r with st' | st' | st' | x
    · dsimp only at h1 ⊢
      have h2 := hb st'
      cases hr2 : b st' with
      | none => trivial
      | some r2 =>
        rw [hr2] at h2
        rcases r2 with st2 | st2 | st2 | x2
        · exact fun k => h1 (h2 k)
        · exact fun k => h1 (h2 k)
        · exact fun k => h1 (h2 k)
        · exact fun k => h1 (h2 k)
    · exact h1
    · exact h1
    · exact h1
theorem sn_goto {d : Dn} (h : Sn K F kb kc c0 s0 pc d c1 s1 pm) (hg : ∀ st, K c1 s1 pe st → K c1 s1 pm st) : Sn K F kb kc c0 s0 pc d c1 s1 pe := by
  intro st
  have h1 := h st
  cases hr : d st with
  | none => trivial
  | some r =>
    rw [hr] at h1
    rcases r with st' | st' | st' | x
    · exact fun k => h1 (hg _ k)
    · exact h1
    · exact h1
    · exact h1
/-- code whose end isn't reached may be said to end anywhere -/
theorem sn_end {d : Dn} (h : Sn K F kb kc c0 s0 pc d c1 s1 pm) (hn : ∀ st st', d st ≠ some (.inl st')) : Sn K F kb kc c0 s0 pc d c2 s2 pe := by
  intro st
  have h1 := h st
  cases hr : d st with
  | none => trivial
  | some r =>
    rw [hr] at h1
    rcases r with st' | st' | st' | x
    · exact absurd hr (hn st st')
    · exact h1
    · exact h1
    · exact h1
theorem sn_brk (hg : ∀ st, kb st → K c s pc st) : Sn K F kb kc c s pc brk c1 s1 pe := fun st => hg st
theorem sn_cnt (hg : ∀ st, kc st → K c s pc st) : Sn K F kb kc c s pc cnt c1 s1 pe := fun st => hg st
theorem sc_no {d : Cn} (h : Sc K c s pc d pt pf) : Sc K c s pc (cno d) pf pt := by
  intro st
  have h1 := h st
  unfold cno
  cases hr : d st with
  | none => trivial
  | some r =>
    obtain ⟨t, st'⟩ := r
    rw [hr] at h1
    cases t <;> exact h1
theorem sc_an {a b : Cn} (ha : Sc K c s pc a pm pf) (hb : Sc K c s pm b pt pf) : Sc K c s pc (can a b) pt pf := by
  intro st
  have h1 := ha st
  unfold can
  cases hr : a st with
  | none => trivial
  | some r =>
    obtain ⟨t, st'⟩ := r
    rw [hr] at h1
    cases t with
    | false => exact h1
    | true =>
      dsimp only at h1 ⊢
      have h2 := hb st'
      cases hr2 : b st' with
      | none => trivial
      | some r2 =>
        obtain ⟨t2, st2⟩ := r2
        rw [hr2] at h2
        cases t2 <;> exact fun k => h1 (h2 k)
theorem sc_or {a b : Cn} (ha : Sc K c s pc a pt pm) (hb : Sc K c s pm b pt pf) : Sc K c s pc (cor a b) pt pf := by
  intro st
  have h1 := ha st
  unfold cor
  cases hr : a st with
  | none => trivial
  | some r =>
    obtain ⟨t, st'⟩ := r
    rw [hr] at h1
    cases t with
    | true => exact h1
    | false =>
      dsimp only at h1 ⊢
      have h2 := hb st'
      cases hr2 : b st' with
      | none => trivial
      | some r2 =>
        obtain ⟨t2, st2⟩ := r2
        rw [hr2] at h2
        cases t2 <;> exact fun k => h1 (h2 k)
theorem sc_fo {is : List Nat} {d : Cn} (hf : ∀ st, K c s pc (zforget st.1 is, st.2) → K c s pc st) (h : Sc K c s pc d pt pf) : Sc K c s pc (cfo is d) pt pf := by
  intro st
  have h1 := h (zforget st.1 is, st.2)
  unfold cfo
  cases hr : d (zforget st.1 is, st.2) with
  | none => trivial
  | some r =>
    obtain ⟨t, st'⟩ := r
    rw [hr] at h1
    cases t <;> exact fun k => hf _ (h1 k)
theorem sn_ite {d : Cn} {a b : Dn} (hc : Sc K c0 s0 pc d pt pf) (ha : Sn K F kb kc c0 s0 pt a c1 s1 pe) (hb : Sn K F kb kc c0 s0 pf b c1 s1 pe) : Sn K F kb kc c0 s0 pc (ite' d a b) c1 s1 pe := by
  intro st
  have h1 := hc st
  unfold ite'
  cases hr : d st with
  | none => trivial
  | some r =>
    obtain ⟨t, st'⟩ := r
    rw [hr] at h1
    cases t with
    | true =>
      dsimp only at h1 ⊢
      have h2 := ha st'
      cases hr2 : a st' with
      | none => trivial
      | some r2 =>
        rw [hr2] at h2
        rcases r2 with st2 | st2 | st2 | x2
        · exact fun k => h1 (h2 k)
        · exact fun k => h1 (h2 k)
        · exact fun k => h1 (h2 k)
        · exact fun k => h1 (h2 k)
    | false =>
      dsimp only at h1 ⊢
      have h2 := hb st'
      cases hr2 : b st' with
      | none => trivial
      | some r2 =>
        rw [hr2] at h2
        rcases r2 with st2 | st2 | st2 | x2
        · exact fun k => h1 (h2 k)
        · exact fun k => h1 (h2 k)
        · exact fun k => h1 (h2 k)
        · exact fun k => h1 (h2 k)
theorem sn_lop {d : Cn} {body upd : Dn} {kb2 kc2 : St → Prop} (hc : Sc K c s pc d pt px) (hb : Sn K F (K c s px) (K c s pu) c s pt body c s pu) (hu : Sn K F kb2 kc2 c s pu upd c s p2) (hg : ∀ st, K c s pc st → K c s p2 st) : ∀ N, Sn K F kb kc c s pc (lop d body upd N) c s px
  | 0 => fun st => trivial
  | N + 1 => by
    have ih := sn_lop hc hb hu hg N
    intro st
    have h1 := hc st
    unfold lop
    cases hr : d st with
    | none => trivial
    | some r =>
      obtain ⟨t, st'⟩ := r
      rw [hr] at h1
      cases t with
      | false => exact h1
      | true =>
        dsimp only at h1 ⊢
        have h2 := hb st'
        cases hr2 : body st' with
        | none => trivial
        | some r2 =>
          rw [hr2] at h2
          rcases r2 with st2 | st2 | st2 | x2
          · dsimp only at h2 ⊢
            have h3 := hu st2
            cases hr3 : upd st2 with
            | none => trivial
            | some r3 =>
              rw [hr3] at h3
              rcases r3 with st3 | st3 | st3 | x3
              · dsimp only at h3 ⊢
                have h4 := ih st3
                cases hr4 : lop d body upd N st3 with
                | none => trivial
                | some r4 =>
                  rw [hr4] at h4
                  rcases r4 with st4 | st4 | st4 | x4
                  · exact fun k => h1 (h2 (h3 (hg _ (h4 k))))
                  · exact fun k => h1 (h2 (h3 (hg _ (h4 k))))
                  · exact fun k => h1 (h2 (h3 (hg _ (h4 k))))
                  · exact fun k => h1 (h2 (h3 (hg _ (h4 k))))
              · trivial
              · trivial
              · trivial
          · exact fun k => h1 (h2 k)
          · dsimp only at h2 ⊢
            have h3 := hu st2
            cases hr3 : upd st2 with
            | none => trivial
            | some r3 =>
              rw [hr3] at h3
              rcases r3 with st3 | st3 | st3 | x3
              · dsimp only at h3 ⊢
                have h4 := ih st3
                cases hr4 : lop d body upd N st3 with
                | none => trivial
                | some r4 =>
                  rw [hr4] at h4
                  rcases r4 with st4 | st4 | st4 | x4
                  · exact fun k => h1 (h2 (h3 (hg _ (h4 k))))
                  · exact fun k => h1 (h2 (h3 (hg _ (h4 k))))
                  · exact fun k => h1 (h2 (h3 (hg _ (h4 k))))
                  · exact fun k => h1 (h2 (h3 (hg _ (h4 k))))
              · trivial
              · trivial
              · trivial
          · exact fun k => h1 (h2 k)
/-- a switch, case by case -/
def SwOk (K : Kp) (F : Out → G → Prop) (kb kc : St → Prop) (c0 s0 c1 s1 pe : Nat) (tgt : Int32 → Nat) (x : Int32) : List (Int32 × Dn) → Dn → Prop
  | [], d => Sn K F kb kc c0 s0 (tgt x) d c1 s1 pe
  | (k, a) :: r, d => (x = k → Sn K F kb kc c0 s0 (tgt x) a c1 s1 pe) ∧ (x ≠ k → SwOk K F kb kc c0 s0 c1 s1 pe tgt x r d)
theorem swg_ok {tgt : Int32 → Nat} {x : Int32} : ∀ {cs : List (Int32 × Dn)} {d : Dn}, SwOk K F kb kc c0 s0 c1 s1 pe tgt x cs d → Sn K F kb kc c0 s0 (tgt x) (swg x cs d) c1 s1 pe
  | [], d, h => h
  | (k, a) :: r, d, h => by
    unfold swg
    by_cases hx : x = k
    · rw [if_pos hx]; exact h.1 hx
    · rw [if_neg hx]; exact swg_ok (h.2 hx)
theorem sn_swi {E : Env} {is : List Instr} {cs : List (Int32 × Dn)} {d : Dn} (tgt : Int32 → Nat) (h : ∀ st L x S g, runI E is st = some (L, .int x :: S, g) → K c0 s0 (tgt x) (L, S, g) → K c0 s0 pc st) (hs : ∀ x, SwOk K F kb kc c0 s0 c1 s1 pe tgt x cs d) : Sn K F kb kc c0 s0 pc (swi E is cs d) c1 s1 pe := by
  intro st
  unfold swi
  cases hr : runI E is st with
  | none => trivial
  | some st' =>
    obtain ⟨L, S, g⟩ := st'
    cases S with
    | nil => trivial
    | cons v S =>
      cases v with
      | int x =>
        dsimp only
        have h2 := swg_ok (hs x) (L, S, g)
        cases hr2 : swg x cs d (L, S, g) with
        | none => trivial
        | some r2 =>
          rw [hr2] at h2
          rcases r2 with st2 | st2 | st2 | x2
          · exact fun k => h _ _ _ _ _ hr (h2 k)
          · exact fun k => h _ _ _ _ _ hr (h2 k)
          · exact fun k => h _ _ _ _ _ hr (h2 k)
          · exact fun k => h _ _ _ _ _ hr (h2 k)
      | _ => trivial
end
end
section
/-! ===== methods: contracts out of what their code does; calls ===== -/
abbrev zW : List Cond := lw_tbl.filter goodWord
theorem zW_good : GoodIn zW zW := fun x hx => ⟨hx, good_of_word (List.mem_filter.mp hx).2⟩
abbrev zPc (w : Wd) (vs : List Value) (g : G) : Array Value → State → Prop := va_Pc (vs.map (ztv w)) (fun U => KK w U ∧ RepG w g U.heap)
def zQ (w : Wd) (o : Option Value) (g : G) : Array Value → State → Outcome → State → Prop := fun _ st oc t => (oc = .returned (o.map (ztv w)) ∧ RepG w g t.heap) ∧ va_F (zA w) st t
/-- a method does f -/
def CT (w : Wd) (l : Launch) (y : MethodName) (bytes : ByteArray) (maxL : Nat) (ret : Option FieldType) (rm : Room) (f : Ex) : Prop :=
  ∀ vs g o g', f vs g = some (.inl o, g') → Met l y (Cond.code y bytes maxL ret :: zW) rm (zPc w vs g) (zQ w o g') rm.cells rm.slots (zA w)
/-- a method of an object of class ci -/
def zrv (ci : Nat) (f : Ex) : Ex := fun vs g => match vs with
  | .ref a :: As => match g.1 a with
    | some (.inr (cj, _)) => if cj = ci then f (.ref a :: As) g else none
    | _ => none
  | _ => none
theorem CT.rv {w : Wd} {l : Launch} {y : MethodName} {bytes : ByteArray} {maxL : Nat} {ret : Option FieldType} {rm : Room} {f : Ex} (ci : Nat) (h : CT w l y bytes maxL ret rm f) : CT w l y bytes maxL ret rm (zrv ci f) := by
  intro vs g o g' hf
  unfold zrv at hf
  split at hf
  · split at hf
    · split at hf
      · exact h _ _ _ _ hf
      · cases hf
    · cases hf
  · cases hf
theorem KK.same {w : Wd} {u U : State} (hvm : u.vm = U.vm) (hh : u.heap = U.heap) (h : KK w u) : KK w U :=
  ⟨va_K.moved (by rw [hvm]; exact Vm.Alike.refl _) h.1, fun k a hk => ⟨(h.2.1 k a hk).1, va_T.kept (va_T.moved (by rw [hvm]; exact Vm.Alike.refl _) (h.2.1 k a hk).2) (fun q _ _ => by rw [hh])⟩, fun k hk => va_Z.kept (va_Z.moved (by rw [hvm]; exact Vm.Alike.refl _) (h.2.2.1 k hk)) (fun q _ _ => by rw [hh]), fun x hx => va_Nw.same (by
    simp only [zN, List.mem_cons, List.not_mem_nil, or_false] at hx
    rcases hx with rfl | rfl | rfl | rfl | rfl <;> rfl) hvm (h.2.2.2.1 x hx), h.2.2.2.2.moved (by rw [hvm]; exact Vm.Alike.refl _)⟩
theorem zPc_blind {w : Wd} {vs : List Value} {g : G} : FrameBlind (zPc w vs g) := fun a U gg mk h => ⟨h.1, KK.same (u := U) (U := U.calling gg mk a) rfl rfl h.2.1, h.2.2⟩
theorem zsl_get {w : Wd} : ∀ (vs : List Value) (k i : Nat) (v : Value), (zsl vs)[i]? = some (some v) → (k + i, ztv w v) ∈ lv_args k (vs.map (ztv w))
  | [], k, i, v, h => by cases h
  | u :: r, k, i, v, h => by
    have key1 : u.category ≠ 2 → zsl (u :: r) = some u :: zsl r := fun hc => by cases u <;> first | rfl | exact absurd rfl hc
    have key2 : u.category = 2 → zsl (u :: r) = some u :: none :: zsl r := fun hc => by cases u <;> first | rfl | cases hc
    simp only [List.map_cons, lv_args, ztv_cat]
    by_cases hc : u.category = 2
    · rw [key2 hc] at h
      rw [if_pos hc]
      match i, h with
      | 0, h => cases h; exact List.mem_cons_self
      | 1, h => cases h
      | i + 2, h =>
        refine List.mem_cons_of_mem _ ?_
        have h1 := zsl_get (w := w) r (k + 2) i v h
        rwa [show k + 2 + i = k + (i + 2) by omega] at h1
    · rw [key1 hc] at h
      rw [if_neg hc]
      match i, h with
      | 0, h => cases h; exact List.mem_cons_self
      | i + 1, h =>
        refine List.mem_cons_of_mem _ ?_
        have h1 := zsl_get (w := w) r (k + 1) i v h
        rwa [show k + 1 + i = k + (i + 1) by omega] at h1
theorem zsl_len {w : Wd} : ∀ vs : List Value, (lg_sl (vs.map (ztv w))).length = (zsl vs).length
  | [] => rfl
  | u :: r => by
    have ih := zsl_len (w := w) r
    cases u <;> simp [lg_sl, zsl, ztv, Value.category] at ih ⊢ <;> omega
/-- does no argument take two words -/
def zc1 : List Value → Bool
  | [] => true
  | .long _ :: _ => false
  | .double _ :: _ => false
  | _ :: r => zc1 r
theorem zc1_get : ∀ {vs : List Value} {i : Nat} {v : Value}, zc1 vs = true → (zsl vs)[i]? = some (some v) → v.category = 1
  | [], i, v, _, h => by cases h
  | u :: r, i, v, hc, h => by
    cases u <;> first
      | (cases hc; done)
      | (match i, h with
         | 0, h => (cases h; rfl)
         | i + 1, h => exact zc1_get (vs := r) hc h)
def exb (b : Bool) (n : Nat) (d : Dn) : Ex := fun vs g => match b, zc1 vs with
  | true, false => none
  | _, _ => exm n d vs g
section
variable {w : Wd} {b : Bool} {p : Program} {l : Launch} {e : Jvm.Env} {R : Room} {s : State} {m : MethodId} {args : Array Value} {below : List Frame} {meth : Method} {c : Code} {Q : State → Prop} {cc : ByteArray} {n cs ss pc : Nat} {own : String} {E : Env}
variable {L : List (Option Value)} {S : List Value} {g g' : G} {st st' : St} {o : Option Value} {H : Heap} {locs : List Loc}
theorem zentry {vs : List Value} (hlen : (zsl vs).length ≤ n) (hb : b = true → zc1 vs = true) : LvR w b ((lg_sl (vs.map (ztv w)) ++ List.replicate (n - (lg_sl (vs.map (ztv w))).length) Slot.unset).toArray) (zpad n (zsl vs)) := by
  have h0 := lv_entry (vs.map (ztv w)) (n := n) (by rw [zsl_len]; exact hlen)
  have key : ∀ (i : Nat) (v : Value), (zpad n (zsl vs))[i]? = some (some v) → (zsl vs)[i]? = some (some v) := by
    intro i v hv
    unfold zpad at hv
    by_cases hi : i < (zsl vs).length
    · rwa [List.getElem?_append_left hi] at hv
    · rw [List.getElem?_append_right (by omega), List.getElem?_replicate] at hv
      split at hv <;> cases hv
  refine ⟨h0.2.1, ?_, fun i v hv => ?_, fun hbt i v hv => zc1_get (hb hbt) (key i v hv)⟩
  · rw [h0.1]; simp [zpad]; omega
  · have h1 := zsl_get (w := w) vs 0 i v (key i v hv)
    rw [Nat.zero_add] at h1
    exact h0.2.2 _ h1
abbrev zK (w : Wd) (b : Bool) (p : Program) (l : Launch) (e : Jvm.Env) (R : Room) (s : State) (m : MethodId) (args : Array Value) (below : List Frame) (meth : Method) (c : Code) (Q : State → Prop) (n : Nat) : Kp := Kn w b p l e R s m args below meth c Q n
/-- what is known at a method's entry -/
def MX (w : Wd) (p : Program) (s : State) (m : MethodId) (args : Array Value) (meth : Method) (c : Code) (y : MethodName) (cc : ByteArray) (n : Nat) (ret : Option FieldType) : Prop :=
  CX w p s m args c cc n y.cls ∧ meth.sig.returnType = ret ∧ meth.locks = false ∧ meth.name = y.name
theorem ct_of {y : MethodName} {ret : Option FieldType} {rm : Room} {d : Dn} {pe : Nat} (hy : plainName y.cls = true)
    (body : ∀ (p : Program) (e : Jvm.Env) (s : State) (m : MethodId) (args : Array Value) (below : List Frame) (meth : Method) (c : Code) (o : Option Value) (g' : G), MX w p s m args meth c y cc n ret →
      Sn (zK w b p l e rm s m args below meth c (MQ below (zQ w o g') args s rm.cells rm.slots (zA w)) n) (fun o1 g1 => o1 = .inl o ∧ g1 = g') (fun _ => False) (fun _ => False) 0 0 0 d rm.cells rm.slots pe) : CT w l y cc n ret rm (exb b n d) := by
  intro vs g o g' hf
  have hf2 : exm n d vs g = some (.inl o, g') ∧ (b = true → zc1 vs = true) := by
    unfold exb at hf
    split at hf
    · cases hf
    · rename_i hne
      refine ⟨hf, fun hb => ?_⟩
      cases hz : zc1 vs with
      | true => rfl
      | false => exact absurd hz (hne hb)
  obtain ⟨hf, hb1⟩ := hf2
  unfold exm at hf
  split at hf
  · rename_i hlen
    refine Met.ofW (cc := cc) (maxL := n) (ret := ret) hy rfl ?_
    intro p e s m args below meth c s₁ B hml hv
    obtain ⟨rfl, hK, hG⟩ := hv
    have hts := atoms_spec (ws := Cond.code y cc n ret :: zW) B.pre
    have hown : s.vm.findClass y.cls = some m.cls := findClass_of_methodNamed B.named
    have cx : CX w p s m (vs.map (ztv w)).toArray c cc n y.cls := ⟨B.exec, B.bytes, hml, hown, fun x hx hg => hts x (List.mem_cons_of_mem _ (List.mem_filter.mpr ⟨hx, hg⟩)), hK⟩
    have hsn := body p e s m (vs.map (ztv w)).toArray below meth c o g' ⟨cx, B.returns, B.notSynchronized, (name_of_methodNamed B.named B.method).1⟩ (zpad n (zsl vs), [], g)
    split at hf
    · rename_i x hx
      cases hf
      rw [hx] at hsn
      have k := hsn ⟨rfl, rfl⟩
      rw [lg_entry_eq]
      exact k (by simp [zpad]; omega) s.heap [] _ (zentry hlen hb1) hG va_S.rf
    · cases hf
  · cases hf
-- the ends
abbrev zQok (w : Wd) (p : Program) (l : Launch) (e : Jvm.Env) (R : Room) (s : State) (m : MethodId) (args : Array Value) (below : List Frame) (meth : Method) (c : Code) (Q : State → Prop) (mc ms : Nat) (F : Out → G → Prop) : Prop :=
  ∀ (o1 : Option Value) (g1 : G), F (.inl o1) g1 → ∀ (H : Heap) (locs : List Loc) (g : JFrame), W p l e R s m args below meth c H locs mc ms (MQ below (zQ w o1 g1) args s mc ms (zA w)) g → W p l e R s m args below meth c H locs mc ms Q g
theorem zQok_plain {mc ms : Nat} : zQok w p l e R s m args below meth c (MQ below (zQ w o g') args s mc ms (zA w)) mc ms (fun o1 g1 => o1 = .inl o ∧ g1 = g') := by
  intro o1 g1 hF H locs g k
  obtain ⟨e1, rfl⟩ := hF
  cases e1
  exact k
theorem sn_rti {F : Out → G → Prop} {kb kc : St → Prop} {is : List Instr} {p1 c1 s1 pe mc ms : Nat} (hQ : zQok w p l e R s m args below meth c Q mc ms F)
    (cx : CX w p s m args c cc n own) (hr : meth.sig.returnType = some .int) (hlk : meth.locks = false) (hrun : ∀ st st', runI E is st = some st' → zK w b p l e R s m args below meth c Q n cs ss p1 st' → zK w b p l e R s m args below meth c Q n cs ss pc st) (hd : decode cc p1 = .ok (.ireturn, 1)) (hc : cs ≤ mc) (hs : ss ≤ ms) :
    Sn (zK w b p l e R s m args below meth c Q n) F kb kc cs ss pc (rti E is) c1 s1 pe := by
  have key : ∀ (st : St) (x : Out × G), rti E is st = some (.inr (.inr (.inr x))) → F x.1 x.2 → zK w b p l e R s m args below meth c Q n cs ss pc st := by
    intro st x hx hf
    unfold rti at hx
    split at hx
    · rename_i L1 y g1 hrr
      cases hx
      refine hrun _ _ hrr (fun hn H locs ls hL hG hS => ?_)
      refine W.widen hc hs (hQ _ _ hf H locs _ ?_)
      exact W.iret cx.hx cx.hb hr (fun t ht hW => ⟨⟨rfl, by rw [ht]; exact hG⟩, hS.F ht⟩) hS.2.2 hd
    · cases hx
  intro st
  have k := key st
  cases hr : rti E is st with
  | none => trivial
  | some r =>
    rcases r with r | r | r | x
    · exfalso; unfold rti at hr; split at hr <;> (try split at hr) <;> cases hr
    · exfalso; unfold rti at hr; split at hr <;> (try split at hr) <;> cases hr
    · exfalso; unfold rti at hr; split at hr <;> (try split at hr) <;> cases hr
    · exact k x hr
theorem sn_rtz {F : Out → G → Prop} {kb kc : St → Prop} {is : List Instr} {p1 c1 s1 pe mc ms : Nat} (hQ : zQok w p l e R s m args below meth c Q mc ms F)
    (cx : CX w p s m args c cc n own) (hr : meth.sig.returnType = some .boolean) (hlk : meth.locks = false) (hrun : ∀ st st', runI E is st = some st' → zK w b p l e R s m args below meth c Q n cs ss p1 st' → zK w b p l e R s m args below meth c Q n cs ss pc st) (hd : decode cc p1 = .ok (.ireturn, 1)) (hc : cs ≤ mc) (hs : ss ≤ ms) :
    Sn (zK w b p l e R s m args below meth c Q n) F kb kc cs ss pc (rtz E is) c1 s1 pe := by
  have key : ∀ (st : St) (x : Out × G), rtz E is st = some (.inr (.inr (.inr x))) → F x.1 x.2 → zK w b p l e R s m args below meth c Q n cs ss pc st := by
    intro st x hx hf
    unfold rtz at hx
    split at hx
    · rename_i L1 y g1 hrr
      split at hx
      · rename_i h01
        cases hx
        refine hrun _ _ hrr (fun hn H locs ls hL hG hS => ?_)
        refine W.widen hc hs (hQ _ _ hf H locs _ ?_)
        exact W.zret cx.hx cx.hb hr (by rcases h01 with rfl | rfl <;> rfl) (fun t ht hW => ⟨⟨rfl, by rw [ht]; exact hG⟩, hS.F ht⟩) hS.2.2 hd
      · cases hx
    · cases hx
  intro st
  have k := key st
  cases hr : rtz E is st with
  | none => trivial
  | some r =>
    rcases r with r | r | r | x
    · exfalso; unfold rtz at hr; split at hr <;> (try split at hr) <;> cases hr
    · exfalso; unfold rtz at hr; split at hr <;> (try split at hr) <;> cases hr
    · exfalso; unfold rtz at hr; split at hr <;> (try split at hr) <;> cases hr
    · exact k x hr
theorem sn_rtl {F : Out → G → Prop} {kb kc : St → Prop} {is : List Instr} {p1 c1 s1 pe mc ms : Nat} (hQ : zQok w p l e R s m args below meth c Q mc ms F)
    (cx : CX w p s m args c cc n own) (hr : meth.sig.returnType = some .long) (hlk : meth.locks = false) (hrun : ∀ st st', runI E is st = some st' → zK w b p l e R s m args below meth c Q n cs ss p1 st' → zK w b p l e R s m args below meth c Q n cs ss pc st) (hd : decode cc p1 = .ok (.lreturn, 1)) (hc : cs ≤ mc) (hs : ss ≤ ms) :
    Sn (zK w b p l e R s m args below meth c Q n) F kb kc cs ss pc (rtl E is) c1 s1 pe := by
  have key : ∀ (st : St) (x : Out × G), rtl E is st = some (.inr (.inr (.inr x))) → F x.1 x.2 → zK w b p l e R s m args below meth c Q n cs ss pc st := by
    intro st x hx hf
    unfold rtl at hx
    split at hx
    · rename_i L1 y g1 hrr
      cases hx
      refine hrun _ _ hrr (fun hn H locs ls hL hG hS => ?_)
      refine W.widen hc hs (hQ _ _ hf H locs _ ?_)
      exact W.lret cx.hx cx.hb hr (fun t ht hW => ⟨⟨rfl, by rw [ht]; exact hG⟩, hS.F ht⟩) hS.2.2 hd
    · cases hx
  intro st
  have k := key st
  cases hr : rtl E is st with
  | none => trivial
  | some r =>
    rcases r with r | r | r | x
    · exfalso; unfold rtl at hr; split at hr <;> (try split at hr) <;> cases hr
    · exfalso; unfold rtl at hr; split at hr <;> (try split at hr) <;> cases hr
    · exfalso; unfold rtl at hr; split at hr <;> (try split at hr) <;> cases hr
    · exact k x hr
theorem sn_rtd {F : Out → G → Prop} {kb kc : St → Prop} {is : List Instr} {p1 c1 s1 pe mc ms : Nat} (hQ : zQok w p l e R s m args below meth c Q mc ms F)
    (cx : CX w p s m args c cc n own) (hr : meth.sig.returnType = some .double) (hlk : meth.locks = false) (hrun : ∀ st st', runI E is st = some st' → zK w b p l e R s m args below meth c Q n cs ss p1 st' → zK w b p l e R s m args below meth c Q n cs ss pc st) (hd : decode cc p1 = .ok (.dreturn, 1)) (hc : cs ≤ mc) (hs : ss ≤ ms) :
    Sn (zK w b p l e R s m args below meth c Q n) F kb kc cs ss pc (rtd E is) c1 s1 pe := by
  have key : ∀ (st : St) (x : Out × G), rtd E is st = some (.inr (.inr (.inr x))) → F x.1 x.2 → zK w b p l e R s m args below meth c Q n cs ss pc st := by
    intro st x hx hf
    unfold rtd at hx
    split at hx
    · rename_i L1 y g1 hrr
      cases hx
      refine hrun _ _ hrr (fun hn H locs ls hL hG hS => ?_)
      refine W.widen hc hs (hQ _ _ hf H locs _ ?_)
      exact W.dret cx.hx cx.hb hr (fun t ht hW => ⟨⟨rfl, by rw [ht]; exact hG⟩, hS.F ht⟩) hS.2.2 hd
    · cases hx
  intro st
  have k := key st
  cases hr : rtd E is st with
  | none => trivial
  | some r =>
    rcases r with r | r | r | x
    · exfalso; unfold rtd at hr; split at hr <;> (try split at hr) <;> cases hr
    · exfalso; unfold rtd at hr; split at hr <;> (try split at hr) <;> cases hr
    · exfalso; unfold rtd at hr; split at hr <;> (try split at hr) <;> cases hr
    · exact k x hr
theorem sn_rtv {F : Out → G → Prop} {kb kc : St → Prop} {is : List Instr} {p1 c1 s1 pe mc ms : Nat} (hQ : zQok w p l e R s m args below meth c Q mc ms F)
    (cx : CX w p s m args c cc n own) (hr : meth.sig.returnType = none) (hlk : meth.locks = false) (hrun : ∀ st st', runI E is st = some st' → zK w b p l e R s m args below meth c Q n cs ss p1 st' → zK w b p l e R s m args below meth c Q n cs ss pc st) (hd : decode cc p1 = .ok (.return_, 1)) (hc : cs ≤ mc) (hs : ss ≤ ms) :
    Sn (zK w b p l e R s m args below meth c Q n) F kb kc cs ss pc (rtv E is) c1 s1 pe := by
  have key : ∀ (st : St) (x : Out × G), rtv E is st = some (.inr (.inr (.inr x))) → F x.1 x.2 → zK w b p l e R s m args below meth c Q n cs ss pc st := by
    intro st x hx hf
    unfold rtv at hx
    split at hx
    · rename_i L1 g1 hrr
      cases hx
      refine hrun _ _ hrr (fun hn H locs ls hL hG hS => ?_)
      refine W.widen hc hs (hQ _ _ hf H locs _ ?_)
      exact W.vret cx.hx cx.hb hr (fun t ht hW => ⟨⟨rfl, by rw [ht]; exact hG⟩, hS.F ht⟩) hS.2.2 hd
    · cases hx
  intro st
  have k := key st
  cases hr : rtv E is st with
  | none => trivial
  | some r =>
    rcases r with r | r | r | x
    · exfalso; unfold rtv at hr; split at hr <;> (try split at hr) <;> cases hr
    · exfalso; unfold rtv at hr; split at hr <;> (try split at hr) <;> cases hr
    · exfalso; unfold rtv at hr; split at hr <;> (try split at hr) <;> cases hr
    · exact k x hr
theorem sn_rta {nmR : String} {F : Out → G → Prop} {kb kc : St → Prop} {is : List Instr} {p1 c1 s1 pe mc ms : Nat} (hQ : zQok w p l e R s m args below meth c Q mc ms F)
    (cx : CX w p s m args c cc n own) (hr : meth.sig.returnType = some (.object nmR)) (hlk : meth.locks = false) (hrun : ∀ st st', runI E is st = some st' → zK w b p l e R s m args below meth c Q n cs ss p1 st' → zK w b p l e R s m args below meth c Q n cs ss pc st) (hd : decode cc p1 = .ok (.areturn, 1)) (hc : cs ≤ mc) (hs : ss ≤ ms) :
    Sn (zK w b p l e R s m args below meth c Q n) F kb kc cs ss pc (rta E is) c1 s1 pe := by
  have key : ∀ (st : St) (x : Out × G), rta E is st = some (.inr (.inr (.inr x))) → F x.1 x.2 → zK w b p l e R s m args below meth c Q n cs ss pc st := by
    intro st x hx hf
    unfold rta at hx
    split at hx
    · rename_i L1 y g1 hrr
      cases hx
      refine hrun _ _ hrr (fun hn H locs ls hL hG hS => ?_)
      refine W.widen hc hs (hQ _ _ hf H locs _ ?_)
      exact W.aret cx.hx cx.hb hr (Or.inl ⟨_, rfl⟩) (Or.inr ⟨_, rfl⟩) (fun t ht hW => ⟨⟨rfl, by rw [ht]; exact hG⟩, hS.F ht⟩) hS.2.2 hd
    · rename_i L1 g1 hrr
      cases hx
      refine hrun _ _ hrr (fun hn H locs ls hL hG hS => ?_)
      refine W.widen hc hs (hQ _ _ hf H locs _ ?_)
      exact W.aret cx.hx cx.hb hr (Or.inl ⟨_, rfl⟩) (Or.inl rfl) (fun t ht hW => ⟨⟨rfl, by rw [ht]; exact hG⟩, hS.F ht⟩) hS.2.2 hd
    · cases hx
  intro st
  have k := key st
  cases hr : rta E is st with
  | none => trivial
  | some r =>
    rcases r with r | r | r | x
    · exfalso; unfold rta at hr; split at hr <;> (try split at hr) <;> cases hr
    · exfalso; unfold rta at hr; split at hr <;> (try split at hr) <;> cases hr
    · exfalso; unfold rta at hr; split at hr <;> (try split at hr) <;> cases hr
    · exact k x hr
end
end
section
/-! ===== jumps, switches, new cells ===== -/
def swt (x : Int32) : List (Int32 × Nat) → Nat → Nat
  | [], d => d
  | (k, p) :: r, d => if x = k then p else swt x r d
theorem swt_spec {x : Int32} : ∀ {tl : List (Int32 × Nat)} {d : Nat}, (∃ q ∈ tl, q.1 = x ∧ swt x tl d = q.2) ∨ ((∀ q ∈ tl, q.1 ≠ x) ∧ swt x tl d = d)
  | [], d => Or.inr ⟨fun q h => absurd h List.not_mem_nil, rfl⟩
  | (k, p) :: r, d => by
    unfold swt
    by_cases hx : x = k
    · exact Or.inl ⟨(k, p), List.mem_cons_self, hx.symm, by rw [if_pos hx]⟩
    · rw [if_neg hx]
      rcases swt_spec (x := x) (tl := r) (d := d) with ⟨q, h1, h2, h3⟩ | ⟨h1, h2⟩
      · exact Or.inl ⟨q, List.mem_cons_of_mem _ h1, h2, h3⟩
      · exact Or.inr ⟨fun q hq => by
          rcases List.mem_cons.mp hq with rfl | hq
          · exact fun e => hx e.symm
          · exact h1 q hq, h2⟩
def zsw (cc : ByteArray) (pc : Nat) (tl : List (Int32 × Nat)) (pd : Nat) : Bool := match decode cc pc with
  | .ok (.tableswitch d lo hi offs, _) => decide ((pc : Int) + d = (pd : Int)) && (tl.all (fun q => decide (lo ≤ q.1.toInt) && (decide (q.1.toInt ≤ hi) && match offs[(q.1.toInt - lo).toNat]? with
      | some o => decide ((pc : Int) + o = (q.2 : Int))
      | none => false)) && (List.range (hi - lo + 1).toNat).all (fun i => tl.any (fun q => decide (q.1.toInt = lo + (i : Int)))))
  | .ok (.lookupswitch d ps, _) => decide ((pc : Int) + d = (pd : Int)) && ((ps.toList.zip (ps.toList.drop 1)).all (fun (a, next) => a.1 < next.1) && (tl.all (fun q => decide ((pc : Int) + Op.lookupswitch.offset ps.toList d q.1.toInt = (q.2 : Int))) && ps.toList.all (fun r => tl.any (fun q => decide (q.1.toInt = r.1)))))
  | _ => false
theorem zoffset_none {d v : Int} : ∀ {l : List (Int × Int)}, (∀ r ∈ l, r.1 ≠ v) → Op.lookupswitch.offset l d v = d
  | [], _ => rfl
  | (a, o) :: r, h => by
    rw [Op.lookupswitch.offset_cons, if_neg (h (a, o) List.mem_cons_self)]
    exact zoffset_none fun q hq => h q (List.mem_cons_of_mem _ hq)
def SwL (K : Kp) (F : Out → G → Prop) (kb kc : St → Prop) (c0 s0 c1 s1 pe : Nat) : List (Int32 × Nat) → List (Int32 × Dn) → Prop
  | [], [] => True
  | (k, p) :: tl, (j, a) :: cl => k = j ∧ Sn K F kb kc c0 s0 p a c1 s1 pe ∧ SwL K F kb kc c0 s0 c1 s1 pe tl cl
  | _, _ => False
theorem swl_ok {K : Kp} {F : Out → G → Prop} {kb kc : St → Prop} {c0 s0 c1 s1 pe pd : Nat} {d : Dn} {x : Int32} (hd : Sn K F kb kc c0 s0 pd d c1 s1 pe) : ∀ {tl : List (Int32 × Nat)} {cl : List (Int32 × Dn)}, SwL K F kb kc c0 s0 c1 s1 pe tl cl → Sn K F kb kc c0 s0 (swt x tl pd) (swg x cl d) c1 s1 pe
  | [], [], _ => hd
  | (k, p) :: tl, (j, a) :: cl, h => by
    obtain ⟨rfl, h2, h3⟩ := h
    unfold swt swg
    by_cases hx : x = k
    · rw [if_pos hx, if_pos hx]; exact h2
    · rw [if_neg hx, if_neg hx]; exact swl_ok hd h3
  | [], _ :: _, h => h.elim
  | _ :: _, [], h => h.elim
theorem sn_sw {K : Kp} {F : Out → G → Prop} {kb kc : St → Prop} {c0 s0 c1 s1 pe pd pc : Nat} {E : Env} {is : List Instr} {cl : List (Int32 × Dn)} {d : Dn} (tl : List (Int32 × Nat)) (h : ∀ st L x S g, runI E is st = some (L, .int x :: S, g) → K c0 s0 (swt x tl pd) (L, S, g) → K c0 s0 pc st) (hs : SwL K F kb kc c0 s0 c1 s1 pe tl cl) (hd : Sn K F kb kc c0 s0 pd d c1 s1 pe) : Sn K F kb kc c0 s0 pc (swi E is cl d) c1 s1 pe := by
  intro st
  unfold swi
  cases hr : runI E is st with
  | none => trivial
  | some st' =>
    obtain ⟨L, S, g⟩ := st'
    cases S with
    | nil => trivial
    | cons v S =>
      cases v with
      | int x =>
        dsimp only
        have h2 := swl_ok (x := x) hd hs (L, S, g)
        cases hr2 : swg x cl d (L, S, g) with
        | none => trivial
        | some r2 =>
          rw [hr2] at h2
          rcases r2 with st2 | st2 | st2 | x2
          · exact fun k => h _ _ _ _ _ hr (h2 k)
          · exact fun k => h _ _ _ _ _ hr (h2 k)
          · exact fun k => h _ _ _ _ _ hr (h2 k)
          · exact fun k => h _ _ _ _ _ hr (h2 k)
      | _ => trivial
/-- what a new object of a class holds -/
def zdf (ci : Nat) : List Value := match ci with
  | 0 => [.null]
  | 1 => [.int 0, .null]
  | 2 => [.null, .null, .null, .null, .null, .int 0, .int 0, .int 0]
  | 3 => [.null, .int 0, .int 0]
  | 4 => [.int 0, .int 0, .int 0, .int 0, .int 0]
  | 5 => [.null, .null, .null, .null, .null, .int 0]
  | _ => [.null, .null, .null, .int 0, .null, .int 0, .int 0, .int 0, .int 0, .null, .int 0]
theorem zdf_ok : ∀ ci, ci < 7 → ∀ j, j < ((zcl[ci]?).getD ("", F_Row, 0)).2.2 → defaultValue (zty ci j) = vp_V (zdf ci) j := by decide +kernel
theorem zdf_tv {w : Wd} (ci : Nat) : (zdf ci).map (ztv w) = zdf ci := by
  unfold zdf
  split <;> rfl
def newO (ci : Nat) : Dn := fun (L, S, g) => if g.2 = 0 then none else nm (L, .ref g.2 :: S, (zup g.1 g.2 (cO ci (zdf ci)), g.2 + 1))
def newI (N : Nat) : Dn := fun (L, S, g) => if g.2 = 0 then none else match S with
  | .int x :: S => if x = nI N then nm (L, .ref g.2 :: S, (zup g.1 g.2 (cI N (fun _ => 0)), g.2 + 1)) else none
  | _ => none
def newJ (N : Nat) : Dn := fun (L, S, g) => if g.2 = 0 then none else match S with
  | .int x :: S => if x = nI N then nm (L, .ref g.2 :: S, (zup g.1 g.2 (cJ N (fun _ => 0)), g.2 + 1)) else none
  | _ => none
def newR (N : Nat) : Dn := fun (L, S, g) => if g.2 = 0 then none else match S with
  | .int x :: S => if x = nI N then nm (L, .ref g.2 :: S, (zup g.1 g.2 (cR N (fun _ => none)), g.2 + 1)) else none
  | _ => none
section
variable {w : Wd} {b : Bool} {p : Program} {l : Launch} {e : Jvm.Env} {R : Room} {s : State} {m : MethodId} {args : Array Value} {below : List Frame} {meth : Method} {c : Code} {Q : State → Prop} {cc : ByteArray} {n cs ss pc : Nat} {own : String} {E : Env}
variable {L : List (Option Value)} {S : List Value} {g g' : G} {st st' : St} {o : Option Value} {H : Heap} {locs : List Loc}
theorem zj_sound {j : Instr} {S S' : List Value} {t : Bool} {tgt : Nat} (cx : CX w p s m args c cc n own) (hd : decode cc pc = .ok (j, 3)) (ht : (pc : Int) + zoff j = (tgt : Int)) (hz : zcj j S = some (t, S'))
    (kt : t = true → zK w b p l e R s m args below meth c Q n cs ss tgt (L, S', g)) (kf : t = false → zK w b p l e R s m args below meth c Q n cs ss (pc + 3) (L, S', g)) : zK w b p l e R s m args below meth c Q n cs ss pc (L, S, g) := by
  unfold zcj at hz
  split at hz
  · cases hz
    exact fun hn H locs ls hL hG hS => lv_icmp_eq cx.hx cx.hb hd ht (fun h => kt (decide_eq_true h) hn H locs ls hL hG hS) (fun h => kf (decide_eq_false h) hn H locs ls hL hG hS)
  · cases hz
    exact fun hn H locs ls hL hG hS => lv_icmp_ne cx.hx cx.hb hd ht (fun h => kt (decide_eq_true h) hn H locs ls hL hG hS) (fun h => kf (decide_eq_false (fun q => q h)) hn H locs ls hL hG hS)
  · cases hz
    exact fun hn H locs ls hL hG hS => lv_icmp_lt cx.hx cx.hb hd ht (fun h => kt (decide_eq_true h) hn H locs ls hL hG hS) (fun h => kf (decide_eq_false h) hn H locs ls hL hG hS)
  · cases hz
    exact fun hn H locs ls hL hG hS => lv_icmp_ge cx.hx cx.hb hd ht (fun h => kt (decide_eq_true h) hn H locs ls hL hG hS) (fun h => kf (decide_eq_false h) hn H locs ls hL hG hS)
  · cases hz
    exact fun hn H locs ls hL hG hS => lv_icmp_gt cx.hx cx.hb hd ht (fun h => kt (decide_eq_true h) hn H locs ls hL hG hS) (fun h => kf (decide_eq_false h) hn H locs ls hL hG hS)
  · cases hz
    exact fun hn H locs ls hL hG hS => lv_icmp_le cx.hx cx.hb hd ht (fun h => kt (decide_eq_true h) hn H locs ls hL hG hS) (fun h => kf (decide_eq_false h) hn H locs ls hL hG hS)
  · cases hz
    exact fun hn H locs ls hL hG hS => lv_if_eq cx.hx cx.hb hd ht (fun h => kt (decide_eq_true h) hn H locs ls hL hG hS) (fun h => kf (decide_eq_false h) hn H locs ls hL hG hS)
  · cases hz
    exact fun hn H locs ls hL hG hS => lv_if_ne cx.hx cx.hb hd ht (fun h => kt (decide_eq_true h) hn H locs ls hL hG hS) (fun h => kf (decide_eq_false (fun q => q h)) hn H locs ls hL hG hS)
  · cases hz
    exact fun hn H locs ls hL hG hS => lv_if_lt cx.hx cx.hb hd ht (fun h => kt (decide_eq_true h) hn H locs ls hL hG hS) (fun h => kf (decide_eq_false h) hn H locs ls hL hG hS)
  · cases hz
    exact fun hn H locs ls hL hG hS => lv_if_ge cx.hx cx.hb hd ht (fun h => kt (decide_eq_true h) hn H locs ls hL hG hS) (fun h => kf (decide_eq_false h) hn H locs ls hL hG hS)
  · cases hz
    exact fun hn H locs ls hL hG hS => lv_if_gt cx.hx cx.hb hd ht (fun h => kt (decide_eq_true h) hn H locs ls hL hG hS) (fun h => kf (decide_eq_false h) hn H locs ls hL hG hS)
  · cases hz
    exact fun hn H locs ls hL hG hS => lv_if_le cx.hx cx.hb hd ht (fun h => kt (decide_eq_true h) hn H locs ls hL hG hS) (fun h => kf (decide_eq_false h) hn H locs ls hL hG hS)
  · cases hz
    exact fun hn H locs ls hL hG hS => lv_ifnull cx.hx cx.hb hd (kf rfl hn H locs ls hL hG hS)
  · cases hz
    exact fun hn H locs ls hL hG hS => lv_ifnullN cx.hx cx.hb hd ht (kt rfl hn H locs ls hL hG hS)
  · cases hz
theorem sc_cat {is : List Instr} {j : Instr} {p1 tgt : Nat} (cx : CX w p s m args c cc n own) (eo : EnvOk w b p l e R s m args below meth c Q cc n own E) (hR : cs ≤ R.cells ∧ ss ≤ R.slots) (hz : zck cc pc is = some p1) (hd : decode cc p1 = .ok (j, 3)) (ht : (p1 : Int) + zoff j = (tgt : Int)) : Sc (zK w b p l e R s m args below meth c Q n) cs ss pc (cat E is j) tgt (p1 + 3) := by
  intro st
  unfold cat
  cases hr : runI E is st with
  | none => trivial
  | some st' =>
    obtain ⟨L, S, g⟩ := st'
    dsimp only
    cases hj : zcj j S with
    | none => trivial
    | some r =>
      obtain ⟨t, S'⟩ := r
      cases t with
      | true => exact fun k => run_sound cx eo hR is hz hr (zj_sound cx hd ht hj (fun _ => k) (fun h => by cases h))
      | false => exact fun k => run_sound cx eo hR is hz hr (zj_sound cx hd ht hj (fun h => by cases h) (fun _ => k))
theorem k_goto {off : Int} {tgt : Nat} (cx : CX w p s m args c cc n own) (hd : decode cc pc = .ok (.goto off, 3)) (ht : (pc : Int) + off = (tgt : Int)) (st : St) (k : zK w b p l e R s m args below meth c Q n cs ss tgt st) : zK w b p l e R s m args below meth c Q n cs ss pc st :=
  fun hn H locs ls hL hG hS => lv_goto cx.hx cx.hb hd ht (k hn H locs ls hL hG hS)
theorem zforget_len : ∀ (is : List Nat) (L : List (Option Value)), (zforget L is).length = L.length
  | [], _ => rfl
  | i :: is, L => by
    show (zforget (L.set i none) is).length = _
    rw [zforget_len is]; simp
theorem k_fo {is : List Nat} (st : St) (k : zK w b p l e R s m args below meth c Q n cs ss pc (zforget st.1 is, st.2)) : zK w b p l e R s m args below meth c Q n cs ss pc st :=
  fun hn H locs ls hL hG hS => k (by rw [zforget_len]; exact hn) H locs ls (LvR.forget is hL) hG hS
theorem sw_sound {is : List Instr} {p1 pd : Nat} {tl : List (Int32 × Nat)} (cx : CX w p s m args c cc n own) (eo : EnvOk w b p l e R s m args below meth c Q cc n own E) (hR : cs ≤ R.cells ∧ ss ≤ R.slots) (hz : zck cc pc is = some p1) (hd : zsw cc p1 tl pd = true) (st : St) (L : List (Option Value)) (x : Int32) (S : List Value) (g : G) (hr : runI E is st = some (L, .int x :: S, g)) (k : zK w b p l e R s m args below meth c Q n cs ss (swt x tl pd) (L, S, g)) : zK w b p l e R s m args below meth c Q n cs ss pc st := by
  refine run_sound cx eo hR is hz hr (fun hn H locs ls hL hG hS => ?_)
  have k1 := k hn H locs ls hL hG hS
  unfold zsw at hd
  split at hd
  · rename_i d lo hi offs len hdec
    simp only [Bool.and_eq_true, decide_eq_true_eq, List.all_eq_true, List.any_eq_true] at hd
    obtain ⟨h1, h2, h3⟩ := hd
    rcases swt_spec (x := x) (tl := tl) (d := pd) with ⟨q, q1, q2, q3⟩ | ⟨q1, q2⟩
    · obtain ⟨a1, a2, a3⟩ := h2 q q1
      split at a3
      · rename_i off ho
        rw [q2] at a1 a2 ho
        rw [q3] at k1
        exact lv_tableIn cx.hx cx.hb hdec (by omega) (by omega) ho (of_decide_eq_true a3) k1
      · cases a3
    · rw [q2] at k1
      refine lv_tableOut cx.hx cx.hb hdec ?_ h1 k1
      by_cases hlo : x.toInt < lo
      · exact Or.inl hlo
      · by_cases hhi : hi < x.toInt
        · exact Or.inr hhi
        · exfalso
          obtain ⟨q, hq1, hq2⟩ := h3 (x.toInt - lo).toNat (List.mem_range.mpr (by omega))
          exact q1 q hq1 (Int32.toInt_inj.mp (by rw [hq2]; omega))
  · rename_i d ps len hdec
    simp only [Bool.and_eq_true, decide_eq_true_eq] at hd
    obtain ⟨h1, h2, h3, h4⟩ := hd
    rw [List.all_eq_true] at h3 h4
    rcases swt_spec (x := x) (tl := tl) (d := pd) with ⟨q, q1, q2, q3⟩ | ⟨q1, q2⟩
    · have a3 := of_decide_eq_true (h3 q q1)
      rw [q2] at a3
      rw [q3] at k1
      exact lv_lookup cx.hx cx.hb hdec h2 rfl a3 k1
    · rw [q2] at k1
      refine lv_lookup cx.hx cx.hb hdec h2 (zoffset_none fun r hr2 e2 => ?_) h1 k1
      obtain ⟨q, hq1, hq2⟩ := List.any_eq_true.mp (h4 r hr2)
      exact q1 q hq1 (Int32.toInt_inj.mp ((of_decide_eq_true hq2).trans e2))
  · cases hd
theorem zad_succ {k : Nat} (h : 4 ≤ k) : zad w (k + 1) = zad w k + 1 := by
  unfold zad; rw [if_neg (by omega), if_neg (by omega)]; omega
theorem RepG.push {H H1 : Heap} {c1 : Cel} (h : RepG w g H) (h0 : g.2 ≠ 0) (hz : H1.size = H.size + 1) (ho : ∀ q : Nat, q < H.size → H1[q]? = H[q]?) (h1 : zat w g.2 c1 H1) : RepG w (zup g.1 g.2 c1, g.2 + 1) H1 := by
  obtain ⟨h4, hsz⟩ := h.2.2 h0
  refine ⟨fun j c2 hj => ?_, by have := h.2.1; omega, fun _ => ⟨by show 4 ≤ g.2 + 1; omega, by show H1.size = zad w (g.2 + 1); rw [hz, hsz, zad_succ h4]⟩⟩
  simp only [zup] at hj
  split at hj
  · rename_i e; subst e; cases hj; exact ⟨h4, h1⟩
  · obtain ⟨a1, a2⟩ := h.1 j c2 hj
    exact ⟨a1, va_at.kept a2 (ho _ a2.lt)⟩
theorem va_S.push' {H0 H H1 : Heap} (h : va_S (zA w) H0 H locs) (hz : H1.size = H.size + 1) (ho : ∀ q : Nat, q < H.size → H1[q]? = H[q]?) : va_S (zA w) H0 H1 locs :=
  ⟨Nat.le_trans h.1 (by omega), fun q h1 h2 => (ho q (Nat.lt_of_lt_of_le h1 h.1)).trans (h.2.1 q h1 h2), h.2.2⟩
theorem sn_newO {F : Out → G → Prop} {kb kc : St → Prop} {index ci N : Nat} {C : String} (cx : CX w p s m args c cc n own) (hd : decode cc pc = .ok (.new index, 3)) (h7 : ci < 7) (hC : ((zcl[ci]?).getD ("", F_Row, 0)).1 = C) (hN : ((zcl[ci]?).getD ("", F_Row, 0)).2.2 = N) (h1 : Cond.classLink own index C ∈ lw_tbl) (h2 : Cond.instantiable C N ∈ lw_tbl) (h3 : Cond.initialized C ∈ lw_tbl) (hc : cs + 1 ≤ R.cells) (hs : ss + N ≤ R.slots) :
    Sn (zK w b p l e R s m args below meth c Q n) F kb kc cs ss pc (newO ci) (cs + 1) (ss + N) (pc + 3) := by
  intro st
  obtain ⟨L, S, g⟩ := st
  unfold newO
  by_cases h0 : g.2 = 0
  · simp only [h0, if_true]
  · simp only [h0, if_false]
    intro k hn H locs ls hL hG hS
    obtain ⟨r, hr⟩ := zcl_at h7
    rw [hr] at hC hN
    obtain ⟨C', T, N'⟩ := r
    dsimp only [Option.getD_some] at hC hN
    subst hC; subst hN
    have hKn := cx.kk.1.1 ci _ hr
    obtain ⟨h4, hsz⟩ := hG.2.2 h0
    refine W.newcK cx.hx cx.hb cx.hown (cx.hts h1 rfl) (cx.hts h2 rfl) (cx.hts h3 rfl) rfl hd hc hs hKn.2.1 hsz fun H1 kC hkC e1 z1 o1 => ?_
    rw [← hsz] at z1 o1
    refine k hn H1 locs ls hL (hG.push h0 z1 o1 ⟨_, hr, ?_⟩) (hS.push' z1 o1)
    have hdf := zdf_ok ci h7
    rw [hr] at hdf
    have h5 := (u_born (zty ci) cx.hall (zlay hr h7) hKn hkC e1 (ztyok hr h7)).to hdf
    show t_OB (zad w g.2) _ _ _ H1 (vp_V ((zdf ci).map (ztv w)))
    rw [zdf_tv]
    exact h5
end
end
section
/-! ===== new arrays; calls ===== -/
section
variable {w : Wd} {b : Bool} {p : Program} {l : Launch} {e : Jvm.Env} {R : Room} {s : State} {m : MethodId} {args : Array Value} {below : List Frame} {meth : Method} {c : Code} {Q : State → Prop} {cc : ByteArray} {n cs ss pc : Nat} {own : String} {E : Env}
variable {L : List (Option Value)} {S : List Value} {g g' : G} {st st' : St} {o : Option Value} {H : Heap} {locs : List Loc}
theorem nI_nn {N : Nat} (h : N < 2 ^ 31) : ¬ nI N < 0 := nI_pos h
theorem sn_newI {F : Out → G → Prop} {kb kc : St → Prop} {N : Nat} (cx : CX w p s m args c cc n own) (hd : decode cc pc = .ok (.newarray .int, 2)) (h1 : Cond.arrayClass .int ∈ lw_tbl) (hN : N < 2 ^ 20) (hc : cs + 1 ≤ R.cells) (hs : ss + N ≤ R.slots) :
    Sn (zK w b p l e R s m args below meth c Q n) F kb kc cs ss pc (newI N) (cs + 1) (ss + N) (pc + 2) := by
  intro st
  obtain ⟨L, S, g⟩ := st
  by_cases h0 : g.2 = 0
  · unfold newI; simp only [h0, if_true]
  · cases S with
    | nil => unfold newI; simp only [h0, if_false]
    | cons v S =>
      cases v with
      | int x =>
        by_cases hx : x = nI N
        · subst hx
          unfold newI; simp only [h0, if_false, if_true]
          intro k hn H locs ls hL hG hS
          obtain ⟨h4, hsz⟩ := hG.2.2 h0
          refine va_newaK (atype := .int) cx.hx cx.hb (cx.hts h1 rfl) rfl hd rfl (nI_nn (by omega)) (nI_clamp (by omega)) (by show N * 4 ≤ _; omega) hc hs hsz fun H1 cA e1 z1 o1 hAr hNm => ?_
          rw [← hsz] at z1 o1
          refine k hn H1 locs ls hL (hG.push h0 z1 o1 ?_) (hS.push' z1 o1)
          have hcA : w.2.2.2.1 0 = cA := Option.some.inj ((cx.kk.1.2 0 _ rfl).2.symm.trans hNm)
          show H1[zad w g.2]? = some (vp_cell (w.2.2.2.1 0) (N, .inl (fun _ => 0)))
          rw [hcA]
          exact e1
        · unfold newI; simp only [h0, if_false, hx]
      | _ => unfold newI; simp only [h0, if_false]
theorem sn_newJ {F : Out → G → Prop} {kb kc : St → Prop} {N : Nat} (cx : CX w p s m args c cc n own) (hd : decode cc pc = .ok (.newarray .long, 2)) (h1 : Cond.arrayClass .long ∈ lw_tbl) (hN : N < 2 ^ 20) (hc : cs + 1 ≤ R.cells) (hs : ss + N ≤ R.slots) :
    Sn (zK w b p l e R s m args below meth c Q n) F kb kc cs ss pc (newJ N) (cs + 1) (ss + N) (pc + 2) := by
  intro st
  obtain ⟨L, S, g⟩ := st
  by_cases h0 : g.2 = 0
  · unfold newJ; simp only [h0, if_true]
  · cases S with
    | nil => unfold newJ; simp only [h0, if_false]
    | cons v S =>
      cases v with
      | int x =>
        by_cases hx : x = nI N
        · subst hx
          unfold newJ; simp only [h0, if_false, if_true]
          intro k hn H locs ls hL hG hS
          obtain ⟨h4, hsz⟩ := hG.2.2 h0
          refine va_newaK (atype := .long) cx.hx cx.hb (cx.hts h1 rfl) rfl hd rfl (nI_nn (by omega)) (nI_clamp (by omega)) (by show N * 8 ≤ _; omega) hc hs hsz fun H1 cA e1 z1 o1 hAr hNm => ?_
          rw [← hsz] at z1 o1
          refine k hn H1 locs ls hL (hG.push h0 z1 o1 ?_) (hS.push' z1 o1)
          have hcA : w.2.2.2.1 1 = cA := Option.some.inj ((cx.kk.1.2 1 _ rfl).2.symm.trans hNm)
          show H1[zad w g.2]? = some (vp_cell (w.2.2.2.1 1) (N, .inr (.inl (fun _ => 0))))
          rw [hcA]
          exact e1
        · unfold newJ; simp only [h0, if_false, hx]
      | _ => unfold newJ; simp only [h0, if_false]
theorem sn_newR {F : Out → G → Prop} {kb kc : St → Prop} {N index : Nat} (cx : CX w p s m args c cc n own) (hd : decode cc pc = .ok (.anewarray index, 3)) (h1 : Cond.classLink own index "CoilSlits$Yard" ∈ lw_tbl) (hN : N < 2 ^ 20) (hc : cs + 1 ≤ R.cells) (hs : ss + N ≤ R.slots) :
    Sn (zK w b p l e R s m args below meth c Q n) F kb kc cs ss pc (newR N) (cs + 1) (ss + N) (pc + 3) := by
  intro st
  obtain ⟨L, S, g⟩ := st
  by_cases h0 : g.2 = 0
  · unfold newR; simp only [h0, if_true]
  · cases S with
    | nil => unfold newR; simp only [h0, if_false]
    | cons v S =>
      cases v with
      | int x =>
        by_cases hx : x = nI N
        · subst hx
          unfold newR; simp only [h0, if_false, if_true]
          intro k hn H locs ls hL hG hS
          obtain ⟨h4, hsz⟩ := hG.2.2 h0
          refine W.anew cx.hx cx.hb cx.hown (cx.hts h1 rfl) (va_AO.use cx.kk.2.2.2.2) rfl hd rfl (nI_nn (by omega)) (by rw [nI_clamp (by omega)]; omega) hc (by rw [nI_clamp (by omega)]; exact hs) fun cA kA comp f1 f2 f3 f4 => ?_
          generalize hH1 : H.push ({ cls := cA, slots := Array.replicate (nI N).toNatClampNeg .null, vm := .none } : Cell) = H1
          have z1 : H1.size = H.size + 1 := by rw [← hH1, Array.size_push]
          have e1 : H1[H.size]? = some (arrV cA N (fun _ => .null)) := by rw [← hH1, Array.getElem?_push_size, ← arrV_new, nI_clamp (by omega)]
          have o1 : ∀ q : Nat, q < H.size → H1[q]? = H[q]? := fun q hq => by rw [← hH1, Array.getElem?_push, if_neg (Nat.ne_of_lt hq)]
          have hcA : w.2.2.2.1 2 = cA := by
            obtain ⟨kA', comp', -, -, -, k4⟩ := (cx.kk.1.2 2 _ rfl).2
            exact Option.some.inj (k4.symm.trans f1)
          have k1 := k hn H1 locs ls hL (hG.push h0 z1 o1 (show zat w g.2 (cR N (fun _ => none)) H1 by
            show H1[zad w g.2]? = some (vp_cell (w.2.2.2.1 2) _)
            rw [hcA, vp_cell_q, ← hsz]
            exact e1)) (hS.push' z1 o1)
          rw [nI_clamp (by omega), hsz]
          exact k1
        · unfold newR; simp only [h0, if_false, hx]
      | _ => unfold newR; simp only [h0, if_false]
/-- behind a call -/
theorem run_then {mc ms : Nat} {args2 : Array Value} {gj : JFrame} {rest : List Value} (hr : va_Run p l e R s m args below meth c H locs cs ss mc ms gj rest (zQ w o g' args2) (zA w)) (hS : va_S (zA w) s.heap H locs)
    (kk : ∀ (H1 : Heap) (locs1 : List Loc), RepG w g' H1 → va_S (zA w) s.heap H1 locs1 → W p l e R s m args below meth c H1 locs1 (cs + mc) (ss + ms) Q { gj with pc := gj.pc + 3, stack := (o.map (ztv w)).toList ++ rest }) : W p l e R s m args below meth c H locs cs ss Q gj := by
  intro T hT X
  obtain ⟨v, st₀, t, T', L, h0, X', hL, e1, e2, ⟨⟨hv, hg⟩, hz, hk⟩, st⟩ := hr T hT X
  cases hv
  rw [h0] at hz hk
  obtain ⟨t2, a1, b1⟩ := kk T'.heap (locs ++ L) (by rw [e1]; exact hg)
    ⟨Nat.le_trans hS.1 (by rw [e1]; exact hz), fun q h1 h2 => by rw [e1, hk q (Nat.lt_of_lt_of_le h1 hS.1) h2]; exact hS.2.1 q h1 h2, fun q hq => by
      rcases List.mem_append.mp hq with h | h
      · exact hS.2.2 q h
      · exact hL q h⟩ T' rfl X'
  exact ⟨t2, st t2 a1, b1⟩
theorem zpre (cx : CX w p s m args c cc n own) {vs : List Value} (hG : RepG w g H) (hS : va_S (zA w) s.heap H locs) : ∀ U : State, U.heap = H → s.WarmedH U.vm → zPc w vs g (vs.map (ztv w)).toArray U := by
  intro U hU hW
  refine ⟨rfl, KK.warm hW (fun a h1 h2 => by rw [hU]; exact hS.2.1 a h1 h2) cx.kk, by rw [hU]; exact hG⟩
theorem zcallB (cx : CX w p s m args c cc n own) {y : MethodName} {bytes : ByteArray} {maxL idx nn : Nat} {ret : Option FieldType} {rm : Room} (hcode : Cond.code y bytes maxL ret ∈ lw_tbl) (hlink : Cond.methodLink own idx y ∈ lw_tbl) (hini : Cond.initialized y.cls ∈ lw_tbl)
    (hd : y.cls ≠ "java/lang/invoke/MethodHandle" ∧ y.cls ≠ "java/lang/invoke/VarHandle" ∧ (parseMethodDescriptor y.desc).map (fun d => d.parameters.length) = some nn) (hR : rm.frames + 1 ≤ R.frames ∧ 8 + (maxL + 11) + rm.locals ≤ R.locals) :
    CallB R s args own idx y bytes maxL ret (Cond.code y bytes maxL ret :: zW) rm rm.cells rm.slots nn :=
  callB_of nn cx.hall (fun x hx => by
    rcases List.mem_cons.mp hx with rfl | hx
    · exact ⟨List.mem_filter.mpr ⟨hcode, rfl⟩, Or.inl rfl⟩
    · exact zW_good x hx) rfl rfl rfl (cx.hts hini rfl) (cx.hts hlink rfl) hd hR
theorem call_V (cx : CX w p s m args c cc n own) {y : MethodName} {bytes : ByteArray} {maxL idx nn ci : Nat} {ret : Option FieldType} {rm : Room} {f : Ex} (hct : CT w l y bytes maxL ret rm f) (hcode : Cond.code y bytes maxL ret ∈ lw_tbl) (hlink : Cond.methodLink own idx y ∈ lw_tbl) (hini : Cond.initialized y.cls ∈ lw_tbl) (hin : Cond.instanceMethod y ∈ lw_tbl) (hsel : Cond.selects y.cls y y ∈ lw_tbl) (h7 : ci < 7) (hci : ((zcl[ci]?).getD ("", F_Row, 0)).1 = y.cls)
    (hd : y.cls ≠ "java/lang/invoke/MethodHandle" ∧ y.cls ≠ "java/lang/invoke/VarHandle" ∧ (parseMethodDescriptor y.desc).map (fun d => d.parameters.length) = some nn) (hR : rm.frames + 1 ≤ R.frames ∧ 8 + (maxL + 11) + rm.locals ≤ R.locals) :
    CallOk w b p l e R s m args below meth c Q cc n rm.cells rm.slots (.invokevirtual idx, nn + 1, zrv ci f) := by
  intro cs ss pc L S vs g g' o hc hs hdg hlen h8 hf k hn H locs ls hL hG hS
  have hf2 := hf
  dsimp only at hf2
  unfold zrv at hf2
  split at hf2
  · rename_i a As
    split at hf2
    · rename_i cj fs hM
      split at hf2
      · rename_i hcj
        subst hcj
        obtain ⟨r, hr⟩ := zcl_at h7
        rw [hr] at hci
        dsimp only [Option.getD_some] at hci
        have hrecv := va_recv cx.kk.1 (hG.one hM) (ci := cj) (q0 := 0) hr rfl
        rw [hci] at hrecv
        have hrun := va_runV (e := e) (below := below) (meth := meth) (As := As.map (ztv w)) (rest := S.map (ztv w)) (g := F0 m pc ls ((((Value.ref a :: As).reverse ++ S)).map (ztv w))) (cells := cs) (slots := ss) (locs := locs) (H := H) ⟨cx.hx, cx.hb, cx.hml, cx.hown, cx.hall⟩ (hct _ _ _ _ hf2) ⟨zcallB cx hcode hlink hini hd hR, cx.hts hin rfl, cx.hts hsel rfl⟩ ⟨zPc_blind, hrecv, zpre cx (vs := .ref a :: As) hG hS⟩ rfl (by simp at hlen ⊢; exact hlen) (by show ls.size = n; rw [hL.2.1]; exact hn) (by show List.map _ _ = _; simp [ztv]) (lv_room (Nat.le_trans (wsum_tv S) h8)) hdg ⟨hc, hs⟩
        refine run_then hrun hS fun H1 locs1 hG1 hS1 => ?_
        have k1 := k hn H1 locs1 ls hL hG1 hS1
        cases o <;> exact k1
      · cases hf2
    · cases hf2
  · cases hf2
theorem call_S (cx : CX w p s m args c cc n own) {y : MethodName} {bytes : ByteArray} {maxL idx nn : Nat} {ret : Option FieldType} {rm : Room} {f : Ex} (hct : CT w l y bytes maxL ret rm f) (hcode : Cond.code y bytes maxL ret ∈ lw_tbl) (hlink : Cond.methodLink own idx y ∈ lw_tbl) (hini : Cond.initialized y.cls ∈ lw_tbl) (hst : Cond.static y ∈ lw_tbl)
    (hd : y.cls ≠ "java/lang/invoke/MethodHandle" ∧ y.cls ≠ "java/lang/invoke/VarHandle" ∧ (parseMethodDescriptor y.desc).map (fun d => d.parameters.length) = some nn) (hR : rm.frames + 1 ≤ R.frames ∧ 8 + (maxL + 11) + rm.locals ≤ R.locals) :
    CallOk w b p l e R s m args below meth c Q cc n rm.cells rm.slots (.invokestatic idx, nn, f) := by
  intro cs ss pc L S vs g g' o hc hs hdg hlen h8 hf k hn H locs ls hL hG hS
  have hrun := va_runS (e := e) (below := below) (meth := meth) (As := vs.map (ztv w)) (rest := S.map (ztv w)) (g := F0 m pc ls ((vs.reverse ++ S).map (ztv w))) (cells := cs) (slots := ss) (locs := locs) (H := H) ⟨cx.hx, cx.hb, cx.hml, cx.hown, cx.hall⟩ (hct _ _ _ _ hf) ⟨zcallB cx hcode hlink hini hd hR, cx.hts hst rfl⟩ ⟨zPc_blind, zpre cx (vs := vs) hG hS⟩ rfl (by simp at hlen ⊢; exact hlen) (by show ls.size = n; rw [hL.2.1]; exact hn) (by show List.map _ _ = _; simp) (lv_room (Nat.le_trans (wsum_tv S) h8)) hdg ⟨hc, hs⟩
  refine run_then hrun hS fun H1 locs1 hG1 hS1 => ?_
  have k1 := k hn H1 locs1 ls hL hG1 hS1
  cases o <;> exact k1
theorem call_SN (cx : CX w p s m args c cc n own) {y : MethodName} {host : String} {bytes : ByteArray} {maxL idx nn : Nat} {ret : Option FieldType} {rm : Room} {f : Ex} (hct : CT w l y bytes maxL ret rm f) (hcode : Cond.code y bytes maxL ret ∈ lw_tbl) (hlink : Cond.methodLinkNest own idx y host ∈ zN) (hini : Cond.initialized y.cls ∈ lw_tbl) (hst : Cond.static y ∈ lw_tbl)
    (hd : y.cls ≠ "java/lang/invoke/MethodHandle" ∧ y.cls ≠ "java/lang/invoke/VarHandle" ∧ (parseMethodDescriptor y.desc).map (fun d => d.parameters.length) = some nn) (hR : rm.frames + 1 ≤ R.frames ∧ 8 + (maxL + 11) + rm.locals ≤ R.locals) :
    CallOk w b p l e R s m args below meth c Q cc n rm.cells rm.slots (.invokestatic idx, nn, f) := by
  intro cs ss pc L S vs g g' o hc hs hdg hlen h8 hf k hn H locs ls hL hG hS
  have hcb := va_cnB (ws := Cond.code y bytes maxL ret :: zW) (rm := rm) nn cx.hall (fun x hx => by
    rcases List.mem_cons.mp hx with rfl | hx
    · exact ⟨List.mem_filter.mpr ⟨hcode, rfl⟩, Or.inl rfl⟩
    · exact zW_good x hx) rfl rfl rfl (cx.kk.2.2.2.1 _ hlink) (cx.hts hini rfl) hd hR
  have hrun := va_runSN (e := e) (below := below) (meth := meth) (As := vs.map (ztv w)) (rest := S.map (ztv w)) (g := F0 m pc ls ((vs.reverse ++ S).map (ztv w))) (cells := cs) (slots := ss) (locs := locs) (H := H) ⟨cx.hx, cx.hb, cx.hml, cx.hown, cx.hall⟩ (hct _ _ _ _ hf) ⟨hcb, cx.hts hst rfl, trivial⟩ ⟨zPc_blind, zpre cx (vs := vs) hG hS⟩ rfl (by simp at hlen ⊢; exact hlen) (by show ls.size = n; rw [hL.2.1]; exact hn) (by show List.map _ _ = _; simp) (lv_room (Nat.le_trans (wsum_tv S) h8)) hdg ⟨hc, hs⟩
  refine run_then hrun hS fun H1 locs1 hG1 hS1 => ?_
  have k1 := k hn H1 locs1 ls hL hG1 hS1
  cases o <;> exact k1
/-- a constructor's receiver is a cell -/
def zri (f : Ex) : Ex := fun vs g => match vs with
  | .ref a :: As => f (.ref a :: As) g
  | _ => none
theorem call_I (cx : CX w p s m args c cc n own) {y : MethodName} {bytes : ByteArray} {maxL idx nn : Nat} {rm : Room} {f : Ex} (hct : CT w l y bytes maxL none rm f) (hy1 : y.name = "<init>") (hcode : Cond.code y bytes maxL none ∈ lw_tbl) (hlink : Cond.methodLink own idx y ∈ lw_tbl) (hini : Cond.initialized y.cls ∈ lw_tbl) (hin : Cond.instanceMethod y ∈ lw_tbl)
    (hd : y.cls ≠ "java/lang/invoke/MethodHandle" ∧ y.cls ≠ "java/lang/invoke/VarHandle" ∧ (parseMethodDescriptor y.desc).map (fun d => d.parameters.length) = some nn) (hR : rm.frames + 1 ≤ R.frames ∧ 8 + (maxL + 11) + rm.locals ≤ R.locals) :
    CallOk w b p l e R s m args below meth c Q cc n rm.cells rm.slots (.invokespecial idx, nn + 1, zri f) := by
  intro cs ss pc L S vs g g' o hc hs hdg hlen h8 hf k hn H locs ls hL hG hS
  have hf2 := hf
  dsimp only at hf2
  unfold zri at hf2
  split at hf2
  · rename_i a As
    have hrun := va_runI (e := e) (below := below) (meth := meth) (As := As.map (ztv w)) (rest := S.map (ztv w)) (g := F0 m pc ls ((((Value.ref a :: As).reverse ++ S)).map (ztv w))) (cells := cs) (slots := ss) (locs := locs) (H := H) ⟨cx.hx, cx.hb, cx.hml, cx.hown, cx.hall⟩ (hct _ _ _ _ hf2) ⟨zcallB cx hcode hlink hini hd hR, hy1, cx.hts hin rfl⟩ ⟨zPc_blind, zpre cx (vs := .ref a :: As) hG hS⟩ rfl (by simp at hlen ⊢; exact hlen) (by show ls.size = n; rw [hL.2.1]; exact hn) (by show List.map _ _ = _; simp [ztv]) (lv_room (Nat.le_trans (wsum_tv S) h8)) hdg ⟨hc, hs⟩
    refine run_then hrun hS fun H1 locs1 hG1 hS1 => ?_
    have k1 := k hn H1 locs1 ls hL hG1 hS1
    cases o <;> exact k1
  · cases hf2
theorem call_IN (cx : CX w p s m args c cc n own) {y : MethodName} {host : String} {bytes : ByteArray} {maxL idx nn : Nat} {rm : Room} {f : Ex} (hct : CT w l y bytes maxL none rm f) (hy1 : y.name = "<init>") (hcode : Cond.code y bytes maxL none ∈ lw_tbl) (hlink : Cond.methodLinkNest own idx y host ∈ zN) (hini : Cond.initialized y.cls ∈ lw_tbl) (hin : Cond.instanceMethod y ∈ lw_tbl)
    (hd : y.cls ≠ "java/lang/invoke/MethodHandle" ∧ y.cls ≠ "java/lang/invoke/VarHandle" ∧ (parseMethodDescriptor y.desc).map (fun d => d.parameters.length) = some nn) (hR : rm.frames + 1 ≤ R.frames ∧ 8 + (maxL + 11) + rm.locals ≤ R.locals) :
    CallOk w b p l e R s m args below meth c Q cc n rm.cells rm.slots (.invokespecial idx, nn + 1, zri f) := by
  intro cs ss pc L S vs g g' o hc hs hdg hlen h8 hf k hn H locs ls hL hG hS
  have hf2 := hf
  dsimp only at hf2
  unfold zri at hf2
  split at hf2
  · rename_i a As
    have hcb := va_cnB (ws := Cond.code y bytes maxL none :: zW) (rm := rm) nn cx.hall (fun x hx => by
      rcases List.mem_cons.mp hx with rfl | hx
      · exact ⟨List.mem_filter.mpr ⟨hcode, rfl⟩, Or.inl rfl⟩
      · exact zW_good x hx) rfl rfl rfl (cx.kk.2.2.2.1 _ hlink) (cx.hts hini rfl) hd hR
    have hrun := va_runIN (e := e) (below := below) (meth := meth) (As := As.map (ztv w)) (rest := S.map (ztv w)) (g := F0 m pc ls ((((Value.ref a :: As).reverse ++ S)).map (ztv w))) (cells := cs) (slots := ss) (locs := locs) (H := H) ⟨cx.hx, cx.hb, cx.hml, cx.hown, cx.hall⟩ (hct _ _ _ _ hf2) ⟨hcb, hy1, cx.hts hin rfl⟩ ⟨zPc_blind, zpre cx (vs := .ref a :: As) hG hS⟩ rfl (by simp at hlen ⊢; exact hlen) (by show ls.size = n; rw [hL.2.1]; exact hn) (by show List.map _ _ = _; simp [ztv]) (lv_room (Nat.le_trans (wsum_tv S) h8)) hdg ⟨hc, hs⟩
    refine run_then hrun hS fun H1 locs1 hG1 hS1 => ?_
    have k1 := k hn H1 locs1 ls hL hG1 hS1
    cases o <;> exact k1
  · cases hf2
end
end
section
/-! ===== what the class uses of the JDK, as calls ===== -/
def xObj : Ex := fun vs g => match vs with
  | [.ref _] => some (.inl none, g)
  | _ => none
def xMin : Ex := fun vs g => match vs with
  | [.int x, .int y] => some (.inl (some (.int (if y < x then y else x))), g)
  | _ => none
def xMax : Ex := fun vs g => match vs with
  | [.int x, .int y] => some (.inl (some (.int (if x < y then y else x))), g)
  | _ => none
def xAbs : Ex := fun vs g => match vs with
  | [.int x] => some (.inl (some (.int (if 0 ≤ x then x else 0 - x))), g)
  | _ => none
def xCopy : Ex := fun vs g => match vs with
  | [.ref a0, .int sp, .ref a, .int dp, .int n] => match g.1 a0, g.1 a with
    | some (.inl (.inl (n0, f))), some (.inl (.inl (n1, h))) => if 0 ≤ sp.toInt ∧ 0 ≤ dp.toInt ∧ 0 ≤ n.toInt ∧ sp.toInt + n.toInt ≤ n0 ∧ dp.toInt + n.toInt ≤ n1 then
        some (.inl none, (zup g.1 a (cI n1 (va_cpy f h sp.toInt.toNat dp.toInt.toNat n.toInt.toNat)), g.2))
      else none
    | _, _ => none
  | _ => none
def xRaw : Ex := fun vs g => match vs with
  | [.double x] => some (.inl (some (.long x.toInt64)), g)
  | _ => none
def yRaw : MethodName := ⟨"java/lang/Double", "doubleToRawLongBits", "(D)J"⟩
section
variable {w : Wd} {b : Bool} {p : Program} {l : Launch} {e : Jvm.Env} {R : Room} {s : State} {m : MethodId} {args : Array Value} {below : List Frame} {meth : Method} {c : Code} {Q : State → Prop} {cc : ByteArray} {n cs ss pc : Nat} {own : String} {E : Env}
variable {L : List (Option Value)} {S : List Value} {g g' : G} {st st' : St} {o : Option Value} {H : Heap} {locs : List Loc}
theorem call_obj (cx : CX w p s m args c cc n own) {idx : Nat} (hlink : Cond.methodLink own idx objectInit ∈ lw_tbl) (hin : Cond.instanceMethod objectInit ∈ lw_tbl) (hcode : Cond.code objectInit ⟨#[0xb1]⟩ 1 none ∈ lw_tbl) (hR : 1 ≤ R.frames ∧ 20 ≤ R.locals) :
    CallOk w b p l e R s m args below meth c Q cc n 0 0 (.invokespecial idx, 1, xObj) := by
  intro cs ss pc L S vs g g' o hc hs hdg hlen h8 hf k hn H locs ls hL hG hS
  dsimp only at hf
  unfold xObj at hf
  split at hf
  · rename_i a
    cases hf
    exact W.objInit (rest := S.map (ztv w)) cx.hx cx.hb cx.hown (cx.hts hlink rfl) (cx.hts hin rfl) (cx.hts hcode rfl) rfl (by rw [cx.hml]; show ls.size = n; rw [hL.2.1]; exact hn) rfl hdg hR.1 (by have h2 := wsum_tv (w := w) S; show 2 * 0 + _ + 12 ≤ _; omega) (k hn H locs ls hL hG hS)
  · cases hf
theorem call_min (cx : CX w p s m args c cc n own) {idx : Nat} (hlink : Cond.methodLink own idx Lib.Math.min.name ∈ lw_tbl) (hst : Cond.static Lib.Math.min.name ∈ lw_tbl) (hini : Cond.initialized "java/lang/Math" ∈ lw_tbl) (hcode : Cond.code Lib.Math.min.name Lib.Math.min.code 2 (some .int) ∈ lw_tbl) (hR : 1 ≤ R.frames ∧ 21 ≤ R.locals) :
    CallOk w b p l e R s m args below meth c Q cc n 0 0 (.invokestatic idx, 2, xMin) := by
  intro cs ss pc L S vs g g' o hc hs hdg hlen h8 hf k hn H locs ls hL hG hS
  dsimp only at hf
  unfold xMin at hf
  split at hf
  · rename_i x y
    cases hf
    exact va_mmin (rest := S.map (ztv w)) cx.hx cx.hb (by rw [cx.hml, hL.2.1]; exact hn.symm) cx.hown (cx.hts hlink rfl) (cx.hts hst rfl) (cx.hts hini rfl) (cx.hts hcode rfl) hR.1 (by have h2 := wsum_tv (w := w) S; omega) (by omega) (by omega) hdg (k hn H locs ls hL hG hS)
  · cases hf
theorem call_max (cx : CX w p s m args c cc n own) {idx : Nat} (hlink : Cond.methodLink own idx Lib.Math.max.name ∈ lw_tbl) (hst : Cond.static Lib.Math.max.name ∈ lw_tbl) (hini : Cond.initialized "java/lang/Math" ∈ lw_tbl) (hcode : Cond.code Lib.Math.max.name Lib.Math.max.code 2 (some .int) ∈ lw_tbl) (hR : 1 ≤ R.frames ∧ 21 ≤ R.locals) :
    CallOk w b p l e R s m args below meth c Q cc n 0 0 (.invokestatic idx, 2, xMax) := by
  intro cs ss pc L S vs g g' o hc hs hdg hlen h8 hf k hn H locs ls hL hG hS
  dsimp only at hf
  unfold xMax at hf
  split at hf
  · rename_i x y
    cases hf
    exact va_mmax (rest := S.map (ztv w)) cx.hx cx.hb (by rw [cx.hml, hL.2.1]; exact hn.symm) cx.hown (cx.hts hlink rfl) (cx.hts hst rfl) (cx.hts hini rfl) (cx.hts hcode rfl) hR.1 (by have h2 := wsum_tv (w := w) S; omega) (by omega) (by omega) hdg (k hn H locs ls hL hG hS)
  · cases hf
theorem call_abs (cx : CX w p s m args c cc n own) {idx : Nat} (hlink : Cond.methodLink own idx Lib.Math.abs.name ∈ lw_tbl) (hst : Cond.static Lib.Math.abs.name ∈ lw_tbl) (hini : Cond.initialized "java/lang/Math" ∈ lw_tbl) (hcode : Cond.code Lib.Math.abs.name Lib.Math.abs.code 1 (some .int) ∈ lw_tbl) (hR : 1 ≤ R.frames ∧ 21 ≤ R.locals) :
    CallOk w b p l e R s m args below meth c Q cc n 0 0 (.invokestatic idx, 1, xAbs) := by
  intro cs ss pc L S vs g g' o hc hs hdg hlen h8 hf k hn H locs ls hL hG hS
  dsimp only at hf
  unfold xAbs at hf
  split at hf
  · rename_i x
    cases hf
    exact va_mabs (rest := S.map (ztv w)) cx.hx cx.hb (by rw [cx.hml, hL.2.1]; exact hn.symm) cx.hown (cx.hts hlink rfl) (cx.hts hst rfl) (cx.hts hini rfl) (cx.hts hcode rfl) hR.1 (by have h2 := wsum_tv (w := w) S; omega) (by omega) (by omega) hdg (k hn H locs ls hL hG hS)
  · cases hf
theorem call_copy (cx : CX w p s m args c cc n own) {idx : Nat} (hlink : Cond.methodLink own idx arraycopyName ∈ lw_tbl) (hnat : Cond.native arraycopyName ∈ lw_tbl) (hst : Cond.static arraycopyName ∈ lw_tbl) (hini : Cond.initialized "java/lang/System" ∈ lw_tbl) (hR : 1 ≤ R.frames ∧ 60 ≤ R.locals) :
    CallOk w b p l e R s m args below meth c Q cc n 0 0 (.invokestatic idx, 5, xCopy) := by
  intro cs ss pc L S vs g g' o hc hs hdg hlen h8 hf k hn H locs ls hL hG hS
  dsimp only at hf
  unfold xCopy at hf
  split at hf
  · rename_i a0 sp a dp nn
    split at hf
    · rename_i n0 f n1 h hM0 hM1
      split at hf
      · rename_i hq
        cases hf
        obtain ⟨q1, q2, q3, q4, q5⟩ := hq
        have neg : ∀ z : Int32, 0 ≤ z.toInt → ¬ z < 0 := fun z hz hl => by
          have := Int32.lt_iff_toInt_lt.mp hl
          simp at this; omega
        have nn0 : ∀ z : Int32, z.toNatClampNeg = z.toInt.toNat := fun z => rfl
        obtain ⟨h40, hat0⟩ := hG.1 _ _ hM0
        obtain ⟨h41, hat1⟩ := hG.1 _ _ hM1
        have hnw : nativeFrameWords "java/lang/System" "arraycopy" 5 + 11 ≤ 52 := by decide +kernel
        -- the cells, and the step
        intro T hT X
        have hc0 : H[zad w a0]? = some (vp_cell (w.2.2.2.1 0) (n0, .inl f)) := hat0
        have hc1 : H[zad w a]? = some (vp_cell (w.2.2.2.1 0) (n1, .inl h)) := hat1
        obtain ⟨-, k0, hk0, cm0, hkk0⟩ := (cx.kk.1.2 0 _ rfl).1 n0 (fun j => .int (f j))
        obtain ⟨-, k1, hk1, cm1, hkk1⟩ := (cx.kk.1.2 0 _ rfl).1 n1 (fun j => .int (h j))
        have h4 : sp.toNatClampNeg + nn.toNatClampNeg ≤ n0 := by rw [nn0, nn0]; omega
        obtain ⟨vm', X', step⟩ := X.arraycopy cx.hx cx.hown (cx.hts hlink rfl) (cx.hts hnat rfl) (cx.hts hst rfl) (cx.hts hini rfl) (src := zad w a0) (dst := zad w a) (cs := vp_cell (w.2.2.2.1 0) (n0, .inl f)) (cd := vp_cell (w.2.2.2.1 0) (n1, .inl h)) (srcPos := sp) (destPos := dp) (n := nn) (by rw [hT]; exact hc0) (by rw [hT]; exact hc1)
          (fun _ h => by cases h) (fun _ h => by cases h) (fun h => by cases h) (fun h => by cases h) hk0 hk1 hkk0 hkk1 (by simp [refKind]) (neg sp q1) (neg dp q2) (neg nn q3)
          (by show ¬ _ > ((arrV _ n0 (fun j => .int (f j))).slots.size : Int); rw [arrV_size]; omega)
          (by show ¬ _ > ((arrV _ n1 (fun j => .int (h j))).slots.size : Int); rw [arrV_size]; omega)
          (fun vm₁ _ i hi => by
            have e : (vp_cell (w.2.2.2.1 0) (n0, .inl f)).slots.getD (sp.toNatClampNeg + i) .null = .int (f (sp.toNatClampNeg + i)) := by
              show (arrV _ n0 (fun j => .int (f j))).slots.getD _ _ = _
              rw [Array.getD_eq_getD_getElem?, arrV_read _ _ (by omega)]
              rfl
            refine ⟨?_, ?_⟩
            · rw [e]; rfl
            · rw [e]; exact trivial)
          (g := F0 m pc ls (.int nn :: .int dp :: .ref (zad w a) :: .int sp :: .ref (zad w a0) :: S.map (ztv w))) rfl (by rw [cx.hml]; show ls.size = n; rw [hL.2.1]; exact hn) (rest := S.map (ztv w)) rfl (by rw [cx.hb]; exact hdg) hR.1 (by have h2 := wsum_tv (w := w) S; show 2 * 0 + _ + _ ≤ _; omega)
        have e1 : copied (vp_cell (w.2.2.2.1 0) (n0, .inl f)) (vp_cell (w.2.2.2.1 0) (n1, .inl h)) sp dp nn = vp_cell (w.2.2.2.1 0) (n1, .inl (va_cpy f h sp.toNatClampNeg dp.toNatClampNeg nn.toNatClampNeg)) := va_copied (fun z => .int z) _ _ f h h4
        rw [e1] at X' step
        have hl : zad w a < H.size := (Array.getElem?_eq_some_iff.mp hc1).1
        have hheap : ((T.setVm vm').setCell (zad w a) (vp_cell (w.2.2.2.1 0) (n1, .inl (va_cpy f h sp.toNatClampNeg dp.toNatClampNeg nn.toNatClampNeg)))).heap = H.setIfInBounds (zad w a) (vp_cell (w.2.2.2.1 0) (n1, .inl (va_cpy f h sp.toNatClampNeg dp.toNatClampNeg nn.toNatClampNeg))) := by rw [← hT]; rfl
        have oq : ∀ q : Nat, q ≠ zad w a → (H.setIfInBounds (zad w a) (vp_cell (w.2.2.2.1 0) (n1, .inl (va_cpy f h sp.toNatClampNeg dp.toNatClampNeg nn.toNatClampNeg))))[q]? = H[q]? := fun q hq => by simp [Array.getElem?_setIfInBounds, Ne.symm hq]
        obtain ⟨t, a1, b1⟩ := k hn _ _ ls hL (hG.put (c1 := cI n1 (va_cpy f h sp.toInt.toNat dp.toInt.toNat nn.toInt.toNat)) hM1 (by simp) oq (show (H.setIfInBounds (zad w a) _)[zad w a]? = some _ by simp [Array.getElem?_setIfInBounds, hl]; try rfl)) ⟨by simp; exact hS.1, fun q g1 g2 => by
            rw [oq q (fun e => g2 (by rw [e]; exact zad_ge h41))]
            exact hS.2.1 q g1 g2, fun q hq => by
            rcases List.mem_append.mp hq with h | h
            · exact hS.2.2 q h
            · obtain ⟨z, -, hz⟩ := List.mem_map.mp h
              rw [← hz]
              exact zad_ge h41⟩ _ hheap X'
        exact ⟨t, step t a1, b1⟩
      · cases hf
    · cases hf
  · cases hf
theorem call_raw (cx : CX w p s m args c cc n own) {idx : Nat} (hlink : Cond.methodLink own idx yRaw ∈ lw_tbl) (hnat : Cond.native yRaw ∈ lw_tbl) (hst : Cond.static yRaw ∈ lw_tbl) (hini : Cond.initialized "java/lang/Double" ∈ lw_tbl) (hR : 1 ≤ R.frames ∧ 60 ≤ R.locals) :
    CallOk w b p l e R s m args below meth c Q cc n 0 0 (.invokestatic idx, 1, xRaw) := by
  intro cs ss pc L S vs g g' o hc hs hdg hlen h8 hf k hn H locs ls hL hG hS
  dsimp only at hf
  unfold xRaw at hf
  split at hf
  · rename_i x
    cases hf
    intro T hT X
    have hnw : nativeFrameWords "java/lang/Double" "doubleToRawLongBits" 2 + 11 ≤ 52 := by decide +kernel
    obtain ⟨r, kS, methS, hnS, hmS, hkS, N⟩ := NativeOf.of_static (cx.hts hnat rfl) (cx.hts hst rfl) (ps := [.double]) (ret := some .long) (by decide +kernel)
    have hinitS : kS.init = .initialized := Cond.initialized_spec (findClass_of_methodNamed hnS) hkS (cx.hts hini rfl)
    obtain ⟨vm', X', step⟩ := X.invokestatic cx.hx cx.hown (cx.hts hlink rfl) hnS hmS N.static hkS hinitS (by decide) (g := F0 m pc ls (.double x :: S.map (ztv w))) rfl (argsL := [.double x]) (rest := S.map (ztv w)) (by rw [N.sig]; rfl) rfl (by rw [cx.hb]; exact hdg)
    obtain ⟨t, a1, b1⟩ := k hn H locs ls hL hG hS (T.setVm vm') hT X'
    refine ⟨t, step t fun acts => ?_, b1⟩
    obtain ⟨kS', N'⟩ := N.alike X'.warmed.alike
    exact Steps.doubleToRawLongBitsOf (g := F0 m pc ls (S.map (ztv w))) (ig := .invokestatic idx) (len := 3) p X'.here acts N' x (X'.notFull (g := F0 m pc ls (S.map (ztv w))) (by show ls.size = _; rw [cx.hml, hL.2.1]; exact hn) (vars := nativeFrameWords "java/lang/Double" "doubleToRawLongBits" 2) hR.1 (by have h2 := wsum_tv (w := w) S; show 2 * 0 + ((S.map (ztv w)).map fun v => v.category).sum + _ ≤ _; omega)) (by rw [cx.hb]; exact hdg) a1
  · cases hf
end
end
