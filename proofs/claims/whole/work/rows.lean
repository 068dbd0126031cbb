section
-- ===== PART A: goes FIRST, ahead of the names: the tables' words, and 'selects' of the private methods out of them =====
/-- a private method of a class that the tables say can be made, by its rows of tables_1 -/
def lw_okq (q : MethodName × Nat) : Prop := (q.1.cls ≠ "java/lang/invoke/MethodHandle" ∧ q.1.cls ≠ "java/lang/invoke/VarHandle") ∧ Cond.instantiable q.1.cls q.2 ∈ tables_1 ∧ Cond.privateMethod q.1 ∈ tables_1 ∧ Cond.instanceMethod q.1 ∈ tables_1
theorem lw_p0 : lw_okq (⟨"CoilSlits$History", "stateAt", "(I)LCoilSlits$Yard;"⟩, 3) := ⟨⟨by decide +kernel, by decide +kernel⟩, List.mem_of_getElem? (i := 95) (by decide +kernel), List.mem_of_getElem? (i := 165) (by decide +kernel), List.mem_of_getElem? (i := 166) (by decide +kernel)⟩
theorem lw_p1 : lw_okq (⟨"CoilSlits$Yard", "dearestBehind", "(II)I"⟩, 8) := ⟨⟨by decide +kernel, by decide +kernel⟩, List.mem_of_getElem? (i := 26) (by decide +kernel), List.mem_of_getElem? (i := 194) (by decide +kernel), List.mem_of_getElem? (i := 195) (by decide +kernel)⟩
theorem lw_p2 : lw_okq (⟨"CoilSlits$Yard", "widthTaken", "(I)I"⟩, 8) := ⟨⟨by decide +kernel, by decide +kernel⟩, List.mem_of_getElem? (i := 26) (by decide +kernel), List.mem_of_getElem? (i := 210) (by decide +kernel), List.mem_of_getElem? (i := 211) (by decide +kernel)⟩
theorem lw_p3 : lw_okq (⟨"CoilSlits$Yard", "mismatch", "(III)I"⟩, 8) := ⟨⟨by decide +kernel, by decide +kernel⟩, List.mem_of_getElem? (i := 26) (by decide +kernel), List.mem_of_getElem? (i := 218) (by decide +kernel), List.mem_of_getElem? (i := 219) (by decide +kernel)⟩
theorem lw_p4 : lw_okq (⟨"CoilSlits$Yard", "worthByRule", "(III)I"⟩, 8) := ⟨⟨by decide +kernel, by decide +kernel⟩, List.mem_of_getElem? (i := 26) (by decide +kernel), List.mem_of_getElem? (i := 230) (by decide +kernel), List.mem_of_getElem? (i := 231) (by decide +kernel)⟩
theorem lw_p5 : lw_okq (⟨"CoilSlits$Yard", "emptiestBeside", "(I)I"⟩, 8) := ⟨⟨by decide +kernel, by decide +kernel⟩, List.mem_of_getElem? (i := 26) (by decide +kernel), List.mem_of_getElem? (i := 245) (by decide +kernel), List.mem_of_getElem? (i := 246) (by decide +kernel)⟩
theorem lw_p6 : lw_okq (⟨"CoilSlits$Yard", "takeTop", "(I)V"⟩, 8) := ⟨⟨by decide +kernel, by decide +kernel⟩, List.mem_of_getElem? (i := 26) (by decide +kernel), List.mem_of_getElem? (i := 268) (by decide +kernel), List.mem_of_getElem? (i := 269) (by decide +kernel)⟩
theorem lw_p7 : lw_okq (⟨"CoilSlits$Yard", "putOnTop", "(IIIII)I"⟩, 8) := ⟨⟨by decide +kernel, by decide +kernel⟩, List.mem_of_getElem? (i := 26) (by decide +kernel), List.mem_of_getElem? (i := 273) (by decide +kernel), List.mem_of_getElem? (i := 274) (by decide +kernel)⟩
theorem lw_p8 : lw_okq (⟨"CoilSlits", "readBuffer", "()I"⟩, 6) := ⟨⟨by decide +kernel, by decide +kernel⟩, List.mem_of_getElem? (i := 18) (by decide +kernel), List.mem_of_getElem? (i := 293) (by decide +kernel), List.mem_of_getElem? (i := 294) (by decide +kernel)⟩
theorem lw_p9 : lw_okq (⟨"CoilSlits$CoilReader", "beginsPart", "(I)Z"⟩, 5) := ⟨⟨by decide +kernel, by decide +kernel⟩, List.mem_of_getElem? (i := 116) (by decide +kernel), List.mem_of_getElem? (i := 306) (by decide +kernel), List.mem_of_getElem? (i := 307) (by decide +kernel)⟩
theorem lw_p10 : lw_okq (⟨"CoilSlits$CoilReader", "expects", "(I)Z"⟩, 5) := ⟨⟨by decide +kernel, by decide +kernel⟩, List.mem_of_getElem? (i := 116) (by decide +kernel), List.mem_of_getElem? (i := 310) (by decide +kernel), List.mem_of_getElem? (i := 311) (by decide +kernel)⟩
theorem lw_p11 : lw_okq (⟨"CoilSlits$CoilReader", "widens", "(I)Z"⟩, 5) := ⟨⟨by decide +kernel, by decide +kernel⟩, List.mem_of_getElem? (i := 116) (by decide +kernel), List.mem_of_getElem? (i := 314) (by decide +kernel), List.mem_of_getElem? (i := 315) (by decide +kernel)⟩
theorem lw_p12 : lw_okq (⟨"CoilSlits$CoilReader", "takesGrade", "(I)Z"⟩, 5) := ⟨⟨by decide +kernel, by decide +kernel⟩, List.mem_of_getElem? (i := 116) (by decide +kernel), List.mem_of_getElem? (i := 321) (by decide +kernel), List.mem_of_getElem? (i := 322) (by decide +kernel)⟩
theorem lw_p13 : lw_okq (⟨"CoilSlits$CoilReader", "takesQuality", "(I)Z"⟩, 5) := ⟨⟨by decide +kernel, by decide +kernel⟩, List.mem_of_getElem? (i := 116) (by decide +kernel), List.mem_of_getElem? (i := 325) (by decide +kernel), List.mem_of_getElem? (i := 326) (by decide +kernel)⟩
theorem lw_p14 : lw_okq (⟨"CoilSlits$CoilReader", "takesStack", "(I)Z"⟩, 5) := ⟨⟨by decide +kernel, by decide +kernel⟩, List.mem_of_getElem? (i := 116) (by decide +kernel), List.mem_of_getElem? (i := 333) (by decide +kernel), List.mem_of_getElem? (i := 334) (by decide +kernel)⟩
theorem lw_p15 : lw_okq (⟨"CoilSlits$CoilReader", "goesOn", "(I)Z"⟩, 5) := ⟨⟨by decide +kernel, by decide +kernel⟩, List.mem_of_getElem? (i := 116) (by decide +kernel), List.mem_of_getElem? (i := 337) (by decide +kernel), List.mem_of_getElem? (i := 338) (by decide +kernel)⟩
def lw_privs_1 : List (MethodName × Nat) := [(⟨"CoilSlits$History", "stateAt", "(I)LCoilSlits$Yard;"⟩, 3), (⟨"CoilSlits$Yard", "dearestBehind", "(II)I"⟩, 8), (⟨"CoilSlits$Yard", "widthTaken", "(I)I"⟩, 8), (⟨"CoilSlits$Yard", "mismatch", "(III)I"⟩, 8), (⟨"CoilSlits$Yard", "worthByRule", "(III)I"⟩, 8), (⟨"CoilSlits$Yard", "emptiestBeside", "(I)I"⟩, 8), (⟨"CoilSlits$Yard", "takeTop", "(I)V"⟩, 8), (⟨"CoilSlits$Yard", "putOnTop", "(IIIII)I"⟩, 8), (⟨"CoilSlits", "readBuffer", "()I"⟩, 6), (⟨"CoilSlits$CoilReader", "beginsPart", "(I)Z"⟩, 5), (⟨"CoilSlits$CoilReader", "expects", "(I)Z"⟩, 5), (⟨"CoilSlits$CoilReader", "widens", "(I)Z"⟩, 5), (⟨"CoilSlits$CoilReader", "takesGrade", "(I)Z"⟩, 5), (⟨"CoilSlits$CoilReader", "takesQuality", "(I)Z"⟩, 5), (⟨"CoilSlits$CoilReader", "takesStack", "(I)Z"⟩, 5), (⟨"CoilSlits$CoilReader", "goesOn", "(I)Z"⟩, 5)]
theorem lw_r1 : ∀ q ∈ lw_privs_1, lw_okq q := List.forall_mem_cons.mpr ⟨lw_p0, List.forall_mem_cons.mpr ⟨lw_p1, List.forall_mem_cons.mpr ⟨lw_p2, List.forall_mem_cons.mpr ⟨lw_p3, List.forall_mem_cons.mpr ⟨lw_p4, List.forall_mem_cons.mpr ⟨lw_p5, List.forall_mem_cons.mpr ⟨lw_p6, List.forall_mem_cons.mpr ⟨lw_p7, List.forall_mem_cons.mpr ⟨lw_p8, List.forall_mem_cons.mpr ⟨lw_p9, List.forall_mem_cons.mpr ⟨lw_p10, List.forall_mem_cons.mpr ⟨lw_p11, List.forall_mem_cons.mpr ⟨lw_p12, List.forall_mem_cons.mpr ⟨lw_p13, List.forall_mem_cons.mpr ⟨lw_p14, List.forall_mem_cons.mpr ⟨lw_p15, fun _ h => absurd h List.not_mem_nil⟩⟩⟩⟩⟩⟩⟩⟩⟩⟩⟩⟩⟩⟩⟩⟩
theorem lw_p16 : lw_okq (⟨"CoilSlits", "beginTrial", "(I)V"⟩, 6) := ⟨⟨by decide +kernel, by decide +kernel⟩, List.mem_of_getElem? (i := 18) (by decide +kernel), List.mem_of_getElem? (i := 345) (by decide +kernel), List.mem_of_getElem? (i := 346) (by decide +kernel)⟩
theorem lw_p17 : lw_okq (⟨"CoilSlits", "counted", "(I)I"⟩, 6) := ⟨⟨by decide +kernel, by decide +kernel⟩, List.mem_of_getElem? (i := 18) (by decide +kernel), List.mem_of_getElem? (i := 383) (by decide +kernel), List.mem_of_getElem? (i := 384) (by decide +kernel)⟩
theorem lw_p18 : lw_okq (⟨"CoilSlits", "hashedPlace", "(JI)J"⟩, 6) := ⟨⟨by decide +kernel, by decide +kernel⟩, List.mem_of_getElem? (i := 18) (by decide +kernel), List.mem_of_getElem? (i := 411) (by decide +kernel), List.mem_of_getElem? (i := 412) (by decide +kernel)⟩
theorem lw_p19 : lw_okq (⟨"CoilSlits", "hashedOrder", "(JI)J"⟩, 6) := ⟨⟨by decide +kernel, by decide +kernel⟩, List.mem_of_getElem? (i := 18) (by decide +kernel), List.mem_of_getElem? (i := 423) (by decide +kernel), List.mem_of_getElem? (i := 424) (by decide +kernel)⟩
theorem lw_p20 : lw_okq (⟨"CoilSlits$Yard", "coilsSuiting", "(I)I"⟩, 8) := ⟨⟨by decide +kernel, by decide +kernel⟩, List.mem_of_getElem? (i := 26) (by decide +kernel), List.mem_of_getElem? (i := 431) (by decide +kernel), List.mem_of_getElem? (i := 432) (by decide +kernel)⟩
theorem lw_p21 : lw_okq (⟨"CoilSlits$Yard", "suits", "(III)Z"⟩, 8) := ⟨⟨by decide +kernel, by decide +kernel⟩, List.mem_of_getElem? (i := 26) (by decide +kernel), List.mem_of_getElem? (i := 435) (by decide +kernel), List.mem_of_getElem? (i := 436) (by decide +kernel)⟩
theorem lw_p22 : lw_okq (⟨"CoilSlits$Yard", "stripsFitting", "(I)I"⟩, 8) := ⟨⟨by decide +kernel, by decide +kernel⟩, List.mem_of_getElem? (i := 26) (by decide +kernel), List.mem_of_getElem? (i := 439) (by decide +kernel), List.mem_of_getElem? (i := 440) (by decide +kernel)⟩
theorem lw_p23 : lw_okq (⟨"CoilSlits", "numberOfChoice", "(I)I"⟩, 6) := ⟨⟨by decide +kernel, by decide +kernel⟩, List.mem_of_getElem? (i := 18) (by decide +kernel), List.mem_of_getElem? (i := 443) (by decide +kernel), List.mem_of_getElem? (i := 444) (by decide +kernel)⟩
theorem lw_p24 : lw_okq (⟨"CoilSlits", "gainOfTrial", "(I)I"⟩, 6) := ⟨⟨by decide +kernel, by decide +kernel⟩, List.mem_of_getElem? (i := 18) (by decide +kernel), List.mem_of_getElem? (i := 449) (by decide +kernel), List.mem_of_getElem? (i := 450) (by decide +kernel)⟩
theorem lw_p25 : lw_okq (⟨"CoilSlits", "gained", "(I)I"⟩, 6) := ⟨⟨by decide +kernel, by decide +kernel⟩, List.mem_of_getElem? (i := 18) (by decide +kernel), List.mem_of_getElem? (i := 453) (by decide +kernel), List.mem_of_getElem? (i := 454) (by decide +kernel)⟩
theorem lw_p26 : lw_okq (⟨"java/lang/Throwable", "fillInStackTrace", "(I)Ljava/lang/Throwable;"⟩, 6) := ⟨⟨by decide +kernel, by decide +kernel⟩, List.mem_of_getElem? (i := 515) (by decide +kernel), List.mem_of_getElem? (i := 513) (by decide +kernel), List.mem_of_getElem? (i := 514) (by decide +kernel)⟩
theorem lw_p27 : lw_okq (⟨"CoilSlits", "bringInBuffer", "()I"⟩, 6) := ⟨⟨by decide +kernel, by decide +kernel⟩, List.mem_of_getElem? (i := 18) (by decide +kernel), List.mem_of_getElem? (i := 708) (by decide +kernel), List.mem_of_getElem? (i := 709) (by decide +kernel)⟩
theorem lw_p28 : lw_okq (⟨"CoilSlitsModel", "fails", "(I)I"⟩, 11) := ⟨⟨by decide +kernel, by decide +kernel⟩, List.mem_of_getElem? (i := 811) (by decide +kernel), List.mem_of_getElem? (i := 859) (by decide +kernel), List.mem_of_getElem? (i := 860) (by decide +kernel)⟩
theorem lw_p29 : lw_okq (⟨"CoilSlitsModel", "saves", "()V"⟩, 11) := ⟨⟨by decide +kernel, by decide +kernel⟩, List.mem_of_getElem? (i := 811) (by decide +kernel), List.mem_of_getElem? (i := 873) (by decide +kernel), List.mem_of_getElem? (i := 874) (by decide +kernel)⟩
theorem lw_p30 : lw_okq (⟨"CoilSlitsModel", "comes", "(IIII)I"⟩, 11) := ⟨⟨by decide +kernel, by decide +kernel⟩, List.mem_of_getElem? (i := 811) (by decide +kernel), List.mem_of_getElem? (i := 877) (by decide +kernel), List.mem_of_getElem? (i := 878) (by decide +kernel)⟩
theorem lw_p31 : lw_okq (⟨"CoilSlitsModel", "mayDig", "(I)I"⟩, 11) := ⟨⟨by decide +kernel, by decide +kernel⟩, List.mem_of_getElem? (i := 811) (by decide +kernel), List.mem_of_getElem? (i := 910) (by decide +kernel), List.mem_of_getElem? (i := 911) (by decide +kernel)⟩
def lw_privs_2 : List (MethodName × Nat) := [(⟨"CoilSlits", "beginTrial", "(I)V"⟩, 6), (⟨"CoilSlits", "counted", "(I)I"⟩, 6), (⟨"CoilSlits", "hashedPlace", "(JI)J"⟩, 6), (⟨"CoilSlits", "hashedOrder", "(JI)J"⟩, 6), (⟨"CoilSlits$Yard", "coilsSuiting", "(I)I"⟩, 8), (⟨"CoilSlits$Yard", "suits", "(III)Z"⟩, 8), (⟨"CoilSlits$Yard", "stripsFitting", "(I)I"⟩, 8), (⟨"CoilSlits", "numberOfChoice", "(I)I"⟩, 6), (⟨"CoilSlits", "gainOfTrial", "(I)I"⟩, 6), (⟨"CoilSlits", "gained", "(I)I"⟩, 6), (⟨"java/lang/Throwable", "fillInStackTrace", "(I)Ljava/lang/Throwable;"⟩, 6), (⟨"CoilSlits", "bringInBuffer", "()I"⟩, 6), (⟨"CoilSlitsModel", "fails", "(I)I"⟩, 11), (⟨"CoilSlitsModel", "saves", "()V"⟩, 11), (⟨"CoilSlitsModel", "comes", "(IIII)I"⟩, 11), (⟨"CoilSlitsModel", "mayDig", "(I)I"⟩, 11)]
theorem lw_r2 : ∀ q ∈ lw_privs_2, lw_okq q := List.forall_mem_cons.mpr ⟨lw_p16, List.forall_mem_cons.mpr ⟨lw_p17, List.forall_mem_cons.mpr ⟨lw_p18, List.forall_mem_cons.mpr ⟨lw_p19, List.forall_mem_cons.mpr ⟨lw_p20, List.forall_mem_cons.mpr ⟨lw_p21, List.forall_mem_cons.mpr ⟨lw_p22, List.forall_mem_cons.mpr ⟨lw_p23, List.forall_mem_cons.mpr ⟨lw_p24, List.forall_mem_cons.mpr ⟨lw_p25, List.forall_mem_cons.mpr ⟨lw_p26, List.forall_mem_cons.mpr ⟨lw_p27, List.forall_mem_cons.mpr ⟨lw_p28, List.forall_mem_cons.mpr ⟨lw_p29, List.forall_mem_cons.mpr ⟨lw_p30, List.forall_mem_cons.mpr ⟨lw_p31, fun _ h => absurd h List.not_mem_nil⟩⟩⟩⟩⟩⟩⟩⟩⟩⟩⟩⟩⟩⟩⟩⟩
theorem lw_p32 : lw_okq (⟨"CoilSlitsModel", "isText", "()Z"⟩, 11) := ⟨⟨by decide +kernel, by decide +kernel⟩, List.mem_of_getElem? (i := 811) (by decide +kernel), List.mem_of_getElem? (i := 1005) (by decide +kernel), List.mem_of_getElem? (i := 1006) (by decide +kernel)⟩
theorem lw_p33 : lw_okq (⟨"CoilSlitsModel", "isPart", "()Z"⟩, 11) := ⟨⟨by decide +kernel, by decide +kernel⟩, List.mem_of_getElem? (i := 811) (by decide +kernel), List.mem_of_getElem? (i := 1009) (by decide +kernel), List.mem_of_getElem? (i := 1010) (by decide +kernel)⟩
theorem lw_p34 : lw_okq (⟨"CoilSlitsModel", "isWidth", "()Z"⟩, 11) := ⟨⟨by decide +kernel, by decide +kernel⟩, List.mem_of_getElem? (i := 811) (by decide +kernel), List.mem_of_getElem? (i := 1013) (by decide +kernel), List.mem_of_getElem? (i := 1014) (by decide +kernel)⟩
theorem lw_p35 : lw_okq (⟨"CoilSlitsModel", "isNext", "(II)Z"⟩, 11) := ⟨⟨by decide +kernel, by decide +kernel⟩, List.mem_of_getElem? (i := 811) (by decide +kernel), List.mem_of_getElem? (i := 1017) (by decide +kernel), List.mem_of_getElem? (i := 1018) (by decide +kernel)⟩
theorem lw_p36 : lw_okq (⟨"CoilSlitsModel", "stops", "()Z"⟩, 11) := ⟨⟨by decide +kernel, by decide +kernel⟩, List.mem_of_getElem? (i := 811) (by decide +kernel), List.mem_of_getElem? (i := 1021) (by decide +kernel), List.mem_of_getElem? (i := 1022) (by decide +kernel)⟩
theorem lw_p37 : lw_okq (⟨"CoilSlitsModel", "isFigure", "(II)Z"⟩, 11) := ⟨⟨by decide +kernel, by decide +kernel⟩, List.mem_of_getElem? (i := 811) (by decide +kernel), List.mem_of_getElem? (i := 1025) (by decide +kernel), List.mem_of_getElem? (i := 1026) (by decide +kernel)⟩
theorem lw_p38 : lw_okq (⟨"CoilSlitsModel", "lowest", "()I"⟩, 11) := ⟨⟨by decide +kernel, by decide +kernel⟩, List.mem_of_getElem? (i := 811) (by decide +kernel), List.mem_of_getElem? (i := 1033) (by decide +kernel), List.mem_of_getElem? (i := 1034) (by decide +kernel)⟩
theorem lw_p39 : lw_okq (⟨"CoilSlitsModel", "coilAt", "(I)I"⟩, 11) := ⟨⟨by decide +kernel, by decide +kernel⟩, List.mem_of_getElem? (i := 811) (by decide +kernel), List.mem_of_getElem? (i := 1041) (by decide +kernel), List.mem_of_getElem? (i := 1042) (by decide +kernel)⟩
theorem lw_p40 : lw_okq (⟨"CoilSlitsModel", "ofCoil", "(II)I"⟩, 11) := ⟨⟨by decide +kernel, by decide +kernel⟩, List.mem_of_getElem? (i := 811) (by decide +kernel), List.mem_of_getElem? (i := 1049) (by decide +kernel), List.mem_of_getElem? (i := 1050) (by decide +kernel)⟩
theorem lw_p41 : lw_okq (⟨"CoilSlitsModel", "ofOrder", "(II)I"⟩, 11) := ⟨⟨by decide +kernel, by decide +kernel⟩, List.mem_of_getElem? (i := 811) (by decide +kernel), List.mem_of_getElem? (i := 1057) (by decide +kernel), List.mem_of_getElem? (i := 1058) (by decide +kernel)⟩
theorem lw_p42 : lw_okq (⟨"CoilSlitsModel", "counted", "(I)I"⟩, 11) := ⟨⟨by decide +kernel, by decide +kernel⟩, List.mem_of_getElem? (i := 811) (by decide +kernel), List.mem_of_getElem? (i := 1069) (by decide +kernel), List.mem_of_getElem? (i := 1070) (by decide +kernel)⟩
theorem lw_p43 : lw_okq (⟨"CoilSlitsModel", "ofCoils", "(I)I"⟩, 11) := ⟨⟨by decide +kernel, by decide +kernel⟩, List.mem_of_getElem? (i := 811) (by decide +kernel), List.mem_of_getElem? (i := 1073) (by decide +kernel), List.mem_of_getElem? (i := 1074) (by decide +kernel)⟩
theorem lw_p44 : lw_okq (⟨"CoilSlitsModel", "choiceFor", "(I)I"⟩, 11) := ⟨⟨by decide +kernel, by decide +kernel⟩, List.mem_of_getElem? (i := 811) (by decide +kernel), List.mem_of_getElem? (i := 1085) (by decide +kernel), List.mem_of_getElem? (i := 1086) (by decide +kernel)⟩
theorem lw_p45 : lw_okq (⟨"CoilSlitsModel", "byServing", "(III)I"⟩, 11) := ⟨⟨by decide +kernel, by decide +kernel⟩, List.mem_of_getElem? (i := 811) (by decide +kernel), List.mem_of_getElem? (i := 1093) (by decide +kernel), List.mem_of_getElem? (i := 1094) (by decide +kernel)⟩
theorem lw_p46 : lw_okq (⟨"CoilSlitsModel", "tries", "()V"⟩, 11) := ⟨⟨by decide +kernel, by decide +kernel⟩, List.mem_of_getElem? (i := 811) (by decide +kernel), List.mem_of_getElem? (i := 1097) (by decide +kernel), List.mem_of_getElem? (i := 1098) (by decide +kernel)⟩
theorem lw_p47 : lw_okq (⟨"CoilSlitsModel", "best", "()I"⟩, 11) := ⟨⟨by decide +kernel, by decide +kernel⟩, List.mem_of_getElem? (i := 811) (by decide +kernel), List.mem_of_getElem? (i := 1105) (by decide +kernel), List.mem_of_getElem? (i := 1106) (by decide +kernel)⟩
def lw_privs_3 : List (MethodName × Nat) := [(⟨"CoilSlitsModel", "isText", "()Z"⟩, 11), (⟨"CoilSlitsModel", "isPart", "()Z"⟩, 11), (⟨"CoilSlitsModel", "isWidth", "()Z"⟩, 11), (⟨"CoilSlitsModel", "isNext", "(II)Z"⟩, 11), (⟨"CoilSlitsModel", "stops", "()Z"⟩, 11), (⟨"CoilSlitsModel", "isFigure", "(II)Z"⟩, 11), (⟨"CoilSlitsModel", "lowest", "()I"⟩, 11), (⟨"CoilSlitsModel", "coilAt", "(I)I"⟩, 11), (⟨"CoilSlitsModel", "ofCoil", "(II)I"⟩, 11), (⟨"CoilSlitsModel", "ofOrder", "(II)I"⟩, 11), (⟨"CoilSlitsModel", "counted", "(I)I"⟩, 11), (⟨"CoilSlitsModel", "ofCoils", "(I)I"⟩, 11), (⟨"CoilSlitsModel", "choiceFor", "(I)I"⟩, 11), (⟨"CoilSlitsModel", "byServing", "(III)I"⟩, 11), (⟨"CoilSlitsModel", "tries", "()V"⟩, 11), (⟨"CoilSlitsModel", "best", "()I"⟩, 11)]
theorem lw_r3 : ∀ q ∈ lw_privs_3, lw_okq q := List.forall_mem_cons.mpr ⟨lw_p32, List.forall_mem_cons.mpr ⟨lw_p33, List.forall_mem_cons.mpr ⟨lw_p34, List.forall_mem_cons.mpr ⟨lw_p35, List.forall_mem_cons.mpr ⟨lw_p36, List.forall_mem_cons.mpr ⟨lw_p37, List.forall_mem_cons.mpr ⟨lw_p38, List.forall_mem_cons.mpr ⟨lw_p39, List.forall_mem_cons.mpr ⟨lw_p40, List.forall_mem_cons.mpr ⟨lw_p41, List.forall_mem_cons.mpr ⟨lw_p42, List.forall_mem_cons.mpr ⟨lw_p43, List.forall_mem_cons.mpr ⟨lw_p44, List.forall_mem_cons.mpr ⟨lw_p45, List.forall_mem_cons.mpr ⟨lw_p46, List.forall_mem_cons.mpr ⟨lw_p47, fun _ h => absurd h List.not_mem_nil⟩⟩⟩⟩⟩⟩⟩⟩⟩⟩⟩⟩⟩⟩⟩⟩
theorem lw_p48 : lw_okq (⟨"CoilSlitsModel", "bestPlace", "()I"⟩, 11) := ⟨⟨by decide +kernel, by decide +kernel⟩, List.mem_of_getElem? (i := 811) (by decide +kernel), List.mem_of_getElem? (i := 1113) (by decide +kernel), List.mem_of_getElem? (i := 1114) (by decide +kernel)⟩
theorem lw_p49 : lw_okq (⟨"CoilSlitsModel", "wider", "(I)I"⟩, 11) := ⟨⟨by decide +kernel, by decide +kernel⟩, List.mem_of_getElem? (i := 811) (by decide +kernel), List.mem_of_getElem? (i := 1117) (by decide +kernel), List.mem_of_getElem? (i := 1118) (by decide +kernel)⟩
theorem lw_p50 : lw_okq (⟨"CoilSlitsModel", "share", "()D"⟩, 11) := ⟨⟨by decide +kernel, by decide +kernel⟩, List.mem_of_getElem? (i := 811) (by decide +kernel), List.mem_of_getElem? (i := 1125) (by decide +kernel), List.mem_of_getElem? (i := 1126) (by decide +kernel)⟩
def lw_privs_4 : List (MethodName × Nat) := [(⟨"CoilSlitsModel", "bestPlace", "()I"⟩, 11), (⟨"CoilSlitsModel", "wider", "(I)I"⟩, 11), (⟨"CoilSlitsModel", "share", "()D"⟩, 11)]
theorem lw_r4 : ∀ q ∈ lw_privs_4, lw_okq q := List.forall_mem_cons.mpr ⟨lw_p48, List.forall_mem_cons.mpr ⟨lw_p49, List.forall_mem_cons.mpr ⟨lw_p50, fun _ h => absurd h List.not_mem_nil⟩⟩⟩
def lw_privs : List (MethodName × Nat) := lw_privs_1 ++ (lw_privs_2 ++ (lw_privs_3 ++ (lw_privs_4)))
def lw_tbl : List Cond := k2_sels lw_privs ++ tables_1
theorem lw_privs_ok : ∀ q ∈ lw_privs, lw_okq q := by
  show ∀ q ∈ lw_privs_1 ++ (lw_privs_2 ++ (lw_privs_3 ++ (lw_privs_4))), lw_okq q
  exact List.forall_mem_append.mpr ⟨lw_r1, List.forall_mem_append.mpr ⟨lw_r2, List.forall_mem_append.mpr ⟨lw_r3, lw_r4⟩⟩⟩
/-- the streams that the claim lets the run draw from -/
abbrev lw_cs : List Choice := [Jvm.Choice.named "NaN.bits"]
theorem lw_bits : nanBits ∈ lw_cs := by first | decide | exact List.mem_cons_self | simp [lw_cs, nanBits]
end
section
/-! ===== BEGIN words of one list among another's, by their places ===== -/
theorem goodIn_r {big : List Cond} (ws : List Cond) (ps : List Nat) (hp : ws = ps.filterMap (fun i => big[i]?)) (h : ws.all goodWord = true) : GoodIn big ws := by
  intro w hw
  have h1 := List.all_eq_true.mp h w hw
  rw [hp] at hw
  obtain ⟨i, -, hi⟩ := List.mem_filterMap.mp hw
  have hm : w ∈ big := by first | exact List.mem_of_getElem? hi | exact List.getElem?_mem hi
  exact ⟨hm, good_of_word h1⟩
theorem goodIn_app {big a b : List Cond} (ha : GoodIn big a) (hb : GoodIn big b) : GoodIn big (a ++ b) := fun w h => (List.mem_append.mp h).elim (ha w) (hb w)
theorem goodIn_ca {big a b : List Cond} {c : Cond} (ha : GoodIn big (c :: a)) (hb : GoodIn big b) : GoodIn big (c :: (a ++ b)) := fun w h => (List.mem_cons.mp h).elim (fun e => ha w (List.mem_cons.mpr (Or.inl e))) (fun h => (List.mem_append.mp h).elim (fun h => ha w (List.mem_cons.mpr (Or.inr h))) (hb w))
theorem goodIn_sub {big ws : List Cond} (hm : ∀ w ∈ ws, w ∈ big) (h : ws.all goodWord = true) : GoodIn big ws := fun w hw => ⟨hm w hw, good_of_word (List.all_eq_true.mp h w hw)⟩
/-! ===== END ===== -/
/-! ===== BEGIN exceptions that leave a method, and their catching by the caller (launches without stack traces) ===== -/
section VXA
/-! The laws vx_back, vx_callV, vx_callS, vx_callSW, vx_throw0, vx_throwS follow proofs of the library, with one case more: JvmDerived/Free/Laws.lean (Back.of_free), Shelf42/LK1.lean (callV, callS), Shelf/KitTraced.lean (throwNew0V, throwNewS). -/
/-- where a method has thrown q: the class by its name, the cell, what was written, the world -/
def vx_T (XC : String → State → State → Prop) (st : State) (q : Addr) (t : State) (mc ms : Nat) (free : Addr → Prop) : Prop :=
  ∃ (E : String) (ce : Cell) (L : List Loc), XC E st t ∧ t.heap[q]? = some ce ∧ ce.vm = .none ∧ st.vm.findClass E = some ce.cls ∧ st.WarmedH t.vm ∧ st.sameButNew ({ t with vm := st.vm } : State) L mc ms ∧ ∀ z ∈ L, free z.base
def vx_Q (Qc : Array Value → State → Outcome → State → Prop) (XC : String → State → State → Prop) (mc ms : Nat) (free : Addr → Prop) : Array Value → State → Outcome → State → Prop := fun a st o t =>
  (Qc a st o t ∧ ∃ L, FrameEnd st o t L mc ms ∧ ∀ q ∈ L, free q.base) ∨ ∃ q, o = .threw q ∧ vx_T XC st q t mc ms free
/-- a callee that returns or throws -/
def vx_Met (l : Launch) (y : MethodName) (ws : List Cond) (rm : Room) (Pc : Array Value → State → Prop) (Qc : Array Value → State → Outcome → State → Prop) (XC : String → State → State → Prop) (mc ms : Nat) (free : Addr → Prop) : Prop :=
  MetFree l y (headSpec ws rm) Pc (fun _ _ _ _ _ => True) (vx_Q Qc XC mc ms free)
def vx_Post (XC : String → State → State → Prop) (mc ms : Nat) (free : Addr → Prop) : Pt → Array Value → Addr → Pt → Prop := fun A a q B =>
  ∃ (g : JFrame) (mk : MethodId) (t : State) (L : List Loc) (E : String) (ce : Cell), B.U.heap = t.heap ∧ B.U.vm = t.vm ∧ XC E (A.U.calling g mk a) t ∧ t.heap[q]? = some ce ∧ ce.vm = .none ∧ A.U.vm.findClass E = some ce.cls ∧ B.locs = A.locs ++ L ∧ (∀ z ∈ L, free z.base) ∧ B.cells = A.cells + mc ∧ B.slots = A.slots + ms
def vx_Back (l : Launch) (R : Room) (p : Program) (e : Env) (below : List Frame) (s : State) (sargs : Array Value) (y : MethodName) (len W9 : Nat)
    (Pre : Pt → Array Value → Prop) (Post : Pt → Array Value → Option Value → Pt → Prop) (PostX : Pt → Array Value → Addr → Pt → Prop) : Prop :=
  ∀ (m : MethodId) (meth : Method) (c : Code) (A : Pt) (g : JFrame) (ig : Instr) (mk : MethodId) (a : Array Value),
    Stand p l e R s m sargs below meth c A.U A.locs A.cells A.slots → g.method = m → g.locals.size = c.maxLocals → decode c.code g.pc = .ok (ig, len) →
    2 * g.monitorRoom + (g.stack.map fun v => v.category).sum ≤ W9 → A.U.methodNamed? y = some mk → Pre A a →
    (∃ (v : Option Value) (B : Pt), Stand p l e R s m sargs below meth c B.U B.locs B.cells B.slots ∧ Post A a v B ∧
      Steps p.tables e below (doInvoke e (A.U.setTop g) [] mk a).1 (B.U.setTop { g with pc := g.pc + len, stack := v.toList ++ g.stack })) ∨
    (∃ (q : Addr) (B : Pt), Stand p l e R s m sargs below meth c B.U B.locs B.cells B.slots ∧ PostX A a q B ∧
      Steps p.tables e below (doInvoke e (A.U.setTop g) [] mk a).1 ((B.U.setTop g).pushFrame (.throwing q)))
section Payer
variable {l : Launch} {R : Room} {p : Program} {e : Env} {below : List Frame} {s : State} {sargs : Array Value} {y : MethodName} {len W9 : Nat}
theorem vx_back {ws : List Cond} {rm : Room} {Pc : Array Value → State → Prop} {Qc : Array Value → State → Outcome → State → Prop} {XC : String → State → State → Prop} {mc ms : Nat} {free : Addr → Prop} {bytes : ByteArray} {maxL : Nat} {ret : Option FieldType}
    (hM : vx_Met l y ws rm Pc Qc XC mc ms free) (hblind : FrameBlind Pc) (hrc : rm.cells = mc) (hrs : rm.slots = ms)
    (hframes : rm.frames + 1 ≤ R.frames) (hlocals : W9 + (maxL + 11) + rm.locals ≤ R.locals)
    (hws : ∀ w ∈ ws, ∀ a' U, s.WarmedH U.vm → w.before a' U = true) (hcode : Cond.code y bytes maxL ret ∈ ws) (hinit : ∀ a' U, s.WarmedH U.vm → (Cond.initialized y.cls).before a' U = true) :
    vx_Back l R p e below s sargs y len W9 (PreOf R mc ms Pc) (PostOf Qc mc ms free) (vx_Post XC mc ms free) := by
  intro m meth c A g ig mk a X hg hsize hdg hW hn hp
  have h1 : (headSpec ws rm).pre.before a A.U = true := atoms_intro fun w hw => hws w hw _ _ X.warmed
  have h2 : (Cond.code y bytes maxL ret).before a A.U = true := hws _ hcode _ _ X.warmed
  have h3 : (Cond.initialized y.cls).before a A.U = true := hinit _ _ X.warmed
  have h4 : A.cells + (headSpec ws rm).room.cells ≤ R.cells := by rw [show (headSpec ws rm).room.cells = mc from hrc]; exact hp.1
  have h5 : A.slots + (headSpec ws rm).room.slots ≤ R.slots := by rw [show (headSpec ws rm).room.slots = ms from hrs]; exact hp.2.1
  have hPc : Pc a (A.U.calling g mk a) := hblind _ _ _ _ hp.2.2
  obtain ⟨U, Ls, c0, s0⟩ := A
  dsimp only [Pt.U, Pt.locs, Pt.cells, Pt.slots] at h1 h2 h3 h4 h5 X hn hPc ⊢
  obtain ⟨methY, cY, hmY, hcY, -, hlY, -, -, -, -⟩ := Cond.code_spec hn h2
  obtain ⟨kY, hkY, -⟩ := className_of_methodNamed hn
  have hinitY : kY.init = .initialized := Cond.initialized_spec (findClass_of_methodNamed hn) hkY h3
  have h : At U g.method c below := by rw [hg]; exact X.here
  have hlocals9 : W9 + (maxL + 11) + (headSpec ws rm).room.locals ≤ R.locals := hlocals
  have happ : (headSpec ws rm).appliesLoose y e.platform (U.calling g mk a) = true :=
    Spec.appliesLoose_calling (g := g) h hdg hn hkY hinitY
      (X.room_calling (g := g) (R' := (headSpec ws rm).room) hsize hmY hcY hframes (by rw [hlY]; omega) h4 h5) h1
  obtain ⟨mid, hmid⟩ := h.above
  have hfr : (U.setTop g).frames = (.java g :: mid) ++ below := by rw [State.frames_setTop' g h.top, hmid]; rfl
  obtain ⟨o, s₂, hsteps, -, hend, hq⟩ := Steps.callFree hM p X.admits X.cas X.clock (acts := []) hfr happ hPc trivial
  have hq' : vx_Q Qc XC mc ms free a (U.calling g mk a) o s₂ := hq
  rw [State.frames_setTop' g h.top] at hend
  obtain ⟨g₀, hg0⟩ := Option.isSome_iff_exists.mp h.top
  obtain ⟨r, hr⟩ := State.topJava?_eq_some.mp hg0
  have hr' : (({ U with heap := s₂.heap, slotsUsed := s₂.slotsUsed } : State).setVm s₂.vm).frames = .java g₀ :: r := hr
  rcases hq' with ⟨hqc, L, hfe, hL⟩ | ⟨q, rfl, E, ce, L, hx, hce, hcv, hcl, hW₂, hsm, hL⟩
  · obtain ⟨⟨v, rfl⟩, hW₂, e2, q2, q3, q4, q5, q6⟩ := id hfe
    have e3 : s₂ = ({ (U.calling g mk a).setFrames s₂.frames with heap := s₂.heap, slotsUsed := s₂.slotsUsed } : State).setVm s₂.vm := by
      have : s₂ = ({ s₂ with vm := (U.calling g mk a).vm } : State).setVm s₂.vm := rfl
      rw [e2] at this
      exact this
    obtain ⟨c₂, i₂, len₂, hc₂, hd₂, hf₂⟩ := hend
    have hW' : U.WarmedH s₂.vm := hW₂
    have hcc : c₂ = c := by
      have h1 : s₂.code? g.method = U.code? g.method := by
        rw [State.code?_eq, State.code?_eq, hW'.alike.method?]
      exact Option.some.inj (hc₂.symm.trans (h1.trans h.code))
    subst hcc
    have hlen : len₂ = len := by rw [hdg] at hd₂; cases hd₂; rfl
    subst hlen
    have hs₂ : s₂ = (({ U with heap := s₂.heap, slotsUsed := s₂.slotsUsed } : State).setVm s₂.vm).setTop { g with pc := g.pc + len₂, stack := v.toList ++ g.stack } := by
      refine e3.trans ?_
      rw [hf₂, State.calling_eq h.top, State.setFrames_setFrames, State.setTop_of_frames _ hr', hr]
      rfl
    have hsame : U.sameButNew ({ U with heap := s₂.heap, slotsUsed := s₂.slotsUsed } : State) L mc ms := by
      refine ⟨?_, q2, q3, q4, q5, q6⟩
      obtain ⟨t, ht, -⟩ := State.frames_cons hr
      show ({ U with heap := s₂.heap, slotsUsed := s₂.slotsUsed } : State) = { U.setFrames U.frames with heap := s₂.heap, slotsUsed := s₂.slotsUsed }
      rw [State.setFrames_self ht]
    subst hg
    refine Or.inl ⟨v, ⟨(({ U with heap := s₂.heap, slotsUsed := s₂.slotsUsed } : State).setVm s₂.vm), Ls ++ L, c0 + mc, s0 + ms⟩,
      ⟨X.admits, X.cas, X.clock, X.frames, X.room, X.hears, X.method, X.code, (X.here.setHeapUsed s₂.heap s₂.slotsUsed).setVm hW'.alike, X.tail, State.WarmedH.trans X.warmed hW', X.limits, X.bytes, X.same.trans (hsame.setVm s.vm)⟩,
      ⟨g, mk, s₂, L, rfl, rfl, hqc, rfl, hL, rfl, rfl⟩, ?_⟩
    show Steps p.tables e below _ ((({ U with heap := s₂.heap, slotsUsed := s₂.slotsUsed } : State).setVm s₂.vm).setTop { g with pc := g.pc + len₂, stack := v.toList ++ g.stack })
    rw [← hs₂]
    exact hsteps
  · obtain ⟨e2, q2, q3, q4, q5, q6⟩ := id hsm
    have e3 : s₂ = ({ (U.calling g mk a).setFrames s₂.frames with heap := s₂.heap, slotsUsed := s₂.slotsUsed } : State).setVm s₂.vm := by
      have : s₂ = ({ s₂ with vm := (U.calling g mk a).vm } : State).setVm s₂.vm := rfl
      rw [e2] at this
      exact this
    have hf₂ : s₂.frames = .throwing q :: .java g :: U.frames.tail := hend
    have hW' : U.WarmedH s₂.vm := hW₂
    have hs₂ : s₂ = ((({ U with heap := s₂.heap, slotsUsed := s₂.slotsUsed } : State).setVm s₂.vm).setTop g).pushFrame (.throwing q) := by
      refine e3.trans ?_
      rw [hf₂, State.calling_eq h.top, State.setFrames_setFrames, State.pushFrame, State.frames_setTop _ hr', State.setTop_of_frames _ hr', State.setFrames_setFrames, hr]
      rfl
    have hsame : U.sameButNew ({ U with heap := s₂.heap, slotsUsed := s₂.slotsUsed } : State) L mc ms := by
      refine ⟨?_, q2, q3, q4, q5, q6⟩
      obtain ⟨t, ht, -⟩ := State.frames_cons hr
      show ({ U with heap := s₂.heap, slotsUsed := s₂.slotsUsed } : State) = { U.setFrames U.frames with heap := s₂.heap, slotsUsed := s₂.slotsUsed }
      rw [State.setFrames_self ht]
    subst hg
    refine Or.inr ⟨q, ⟨(({ U with heap := s₂.heap, slotsUsed := s₂.slotsUsed } : State).setVm s₂.vm), Ls ++ L, c0 + mc, s0 + ms⟩,
      ⟨X.admits, X.cas, X.clock, X.frames, X.room, X.hears, X.method, X.code, (X.here.setHeapUsed s₂.heap s₂.slotsUsed).setVm hW'.alike, X.tail, State.WarmedH.trans X.warmed hW', X.limits, X.bytes, X.same.trans (hsame.setVm s.vm)⟩,
      ⟨g, mk, s₂, L, E, ce, rfl, rfl, hx, hce, hcv, hcl, rfl, hL, rfl, rfl⟩, ?_⟩
    show Steps p.tables e below _ (((({ U with heap := s₂.heap, slotsUsed := s₂.slotsUsed } : State).setVm s₂.vm).setTop g).pushFrame (.throwing q))
    rw [← hs₂]
    exact hsteps
end Payer
section Calls
variable {p : Program} {l : Launch} {e : Env} {R : Room} {s : State} {m : MethodId} {args : Array Value} {below : List Frame} {meth : Method} {c : Code} {T : State} {locs : List Loc} {cells slots : Nat}
theorem vx_callV (X : Stand p l e R s m args below meth c T locs cells slots) (hexec : p.tables.exec = Jvm.exec) {own C : String} {index : Nat} {y : MethodName} {bytes : ByteArray} {maxL : Nat} {ret : Option FieldType}
    (hown : s.vm.findClass own = some m.cls) (hlink : (Cond.methodLink own index y).before args s = true) (hinst : (Cond.instanceMethod y).before args s = true) (hsel : (Cond.selects C y y).before args s = true)
    (hcode : (Cond.code y bytes maxL ret).before args s = true) (hy : y.cls ≠ "java/lang/invoke/MethodHandle" ∧ y.cls ≠ "java/lang/invoke/VarHandle")
    {W9 : Nat} {Pre : Pt → Array Value → Prop} {Post : Pt → Array Value → Option Value → Pt → Prop} {PostX : Pt → Array Value → Addr → Pt → Prop} (hK : vx_Back l R p e below s args y 3 W9 Pre Post PostX)
    {b : Addr} {cellB : Cell} (hcell : T.heap[b]? = some cellB) (hobj : cellB.vm.isStatics = false) (hcls : s.vm.findClass C = some cellB.cls)
    {g : JFrame} (hg : g.method = m) (hsize : g.locals.size = c.maxLocals) {argsL rest : List Value} (hlen : ∀ sig, parseMethodDescriptor y.desc = some sig → argsL.length = sig.parameters.length)
    (hstack : g.stack = argsL.reverse ++ .ref b :: rest) (hW : 2 * g.monitorRoom + (rest.map fun v => v.category).sum ≤ W9) (hdg : decode c.code g.pc = .ok (.invokevirtual index, 3))
    (hpre : ∀ vm₁, s.WarmedH vm₁ → Pre ⟨T.setVm vm₁, locs, cells, slots⟩ (Value.ref b :: argsL).toArray) :
    (∃ (v : Option Value) (vm₁ : Vm) (B : Pt), s.WarmedH vm₁ ∧ Stand p l e R s m args below meth c B.U B.locs B.cells B.slots ∧ Post ⟨T.setVm vm₁, locs, cells, slots⟩ (Value.ref b :: argsL).toArray v B ∧
      ∀ target, Steps p.tables e below (B.U.setTop { g with pc := g.pc + 3, stack := v.toList ++ rest }) target → Steps p.tables e below (T.setTop g) target) ∨
    (∃ (q : Addr) (vm₁ : Vm) (B : Pt), s.WarmedH vm₁ ∧ Stand p l e R s m args below meth c B.U B.locs B.cells B.slots ∧ PostX ⟨T.setVm vm₁, locs, cells, slots⟩ (Value.ref b :: argsL).toArray q B ∧
      Steps p.tables e below (T.setTop g) ((B.U.setTop { g with stack := rest }).pushFrame (.throwing q))) := by
  obtain ⟨mk, methM, hnamed, hmethM, hstM, habM⟩ := Cond.instanceMethod_spec hinst
  obtain ⟨methM', cM, hmethM', -, -, -, -, -, -, hsigM⟩ := Cond.code_spec hnamed hcode
  cases hmethM.symm.trans hmethM'
  obtain ⟨c2, r2, m2, q1, q2, q3, q4, kP, hkP, hkPi⟩ := Cond.selects_spec hsel
  cases hcls.symm.trans q1
  cases (State.methodFound?_of_named hnamed hy).symm.trans q2
  cases hnamed.symm.trans q3
  have hselP : selectMethod e.platform s.vm cellB.cls mk = .method mk := by rw [Launch.admits_selectMethod X.admits]; exact q4
  obtain ⟨vm₁, X₁, hstep₁⟩ := X.invokevirtual hexec hown hlink hnamed hmethM hstM hkP hkPi hy (a := b) (cell := cellB) hcell
    (fun z h => by rw [h] at hobj; cases hobj) hselP hmethM habM hkP hkPi (g := g) hg (argsL := argsL) (rest := rest) (hlen _ hsigM) hstack hdg
  rcases hK m meth c ⟨T.setVm vm₁, locs, cells, slots⟩ { g with stack := rest } (.invokevirtual index) mk (Value.ref b :: argsL).toArray X₁ hg hsize hdg hW (X₁.named hnamed) (hpre vm₁ X₁.warmed) with ⟨v, B, X', hpost, hsteps⟩ | ⟨q, B, X', hpost, hsteps⟩
  · exact Or.inl ⟨v, vm₁, B, X₁.warmed, X', hpost, fun target h => hstep₁ _ fun acts => by rw [doInvoke_state]; exact hsteps.trans h⟩
  · exact Or.inr ⟨q, vm₁, B, X₁.warmed, X', hpost, hstep₁ _ fun acts => by rw [doInvoke_state]; exact hsteps⟩
theorem vx_callS (X : Stand p l e R s m args below meth c T locs cells slots) (hexec : p.tables.exec = Jvm.exec) {own : String} {index : Nat} {y : MethodName} {bytes : ByteArray} {maxL : Nat} {ret : Option FieldType}
    (hown : s.vm.findClass own = some m.cls) (hlink : (Cond.methodLink own index y).before args s = true) (hstat : (Cond.static y).before args s = true) (hinit : (Cond.initialized y.cls).before args s = true)
    (hcode : (Cond.code y bytes maxL ret).before args s = true) (hy : y.cls ≠ "java/lang/invoke/MethodHandle" ∧ y.cls ≠ "java/lang/invoke/VarHandle")
    {W9 : Nat} {Pre : Pt → Array Value → Prop} {Post : Pt → Array Value → Option Value → Pt → Prop} {PostX : Pt → Array Value → Addr → Pt → Prop} (hK : vx_Back l R p e below s args y 3 W9 Pre Post PostX)
    {g : JFrame} (hg : g.method = m) (hsize : g.locals.size = c.maxLocals) {argsL rest : List Value} (hlen : ∀ sig, parseMethodDescriptor y.desc = some sig → argsL.length = sig.parameters.length)
    (hstack : g.stack = argsL.reverse ++ rest) (hW : 2 * g.monitorRoom + (rest.map fun v => v.category).sum ≤ W9) (hdg : decode c.code g.pc = .ok (.invokestatic index, 3))
    (hpre : ∀ vm₁, s.WarmedH vm₁ → Pre ⟨T.setVm vm₁, locs, cells, slots⟩ argsL.toArray) :
    (∃ (v : Option Value) (vm₁ : Vm) (B : Pt), s.WarmedH vm₁ ∧ Stand p l e R s m args below meth c B.U B.locs B.cells B.slots ∧ Post ⟨T.setVm vm₁, locs, cells, slots⟩ argsL.toArray v B ∧
      ∀ target, Steps p.tables e below (B.U.setTop { g with pc := g.pc + 3, stack := v.toList ++ rest }) target → Steps p.tables e below (T.setTop g) target) ∨
    (∃ (q : Addr) (vm₁ : Vm) (B : Pt), s.WarmedH vm₁ ∧ Stand p l e R s m args below meth c B.U B.locs B.cells B.slots ∧ PostX ⟨T.setVm vm₁, locs, cells, slots⟩ argsL.toArray q B ∧
      Steps p.tables e below (T.setTop g) ((B.U.setTop { g with stack := rest }).pushFrame (.throwing q))) := by
  obtain ⟨mk, hnamed⟩ := Cond.code_named hcode
  obtain ⟨methM, cM, hmethM, -, -, -, -, -, -, hsigM⟩ := Cond.code_spec hnamed hcode
  have hstatic : methM.isStatic = true := Cond.static_spec hnamed hmethM hstat
  obtain ⟨kP, hkP, -⟩ := className_of_methodNamed hnamed
  have hinitP : kP.init = .initialized := Cond.initialized_spec (findClass_of_methodNamed hnamed) hkP hinit
  obtain ⟨vm₁, X₁, hstep₁⟩ := X.invokestatic hexec hown hlink hnamed hmethM hstatic hkP hinitP hy (g := g) hg (argsL := argsL) (rest := rest) (hlen _ hsigM) hstack hdg
  rcases hK m meth c ⟨T.setVm vm₁, locs, cells, slots⟩ { g with stack := rest } (.invokestatic index) mk argsL.toArray X₁ hg hsize hdg hW (X₁.named hnamed) (hpre vm₁ X₁.warmed) with ⟨v, B, X', hpost, hsteps⟩ | ⟨q, B, X', hpost, hsteps⟩
  · exact Or.inl ⟨v, vm₁, B, X₁.warmed, X', hpost, fun target h => hstep₁ _ fun acts => by rw [doInvoke_state]; exact hsteps.trans h⟩
  · exact Or.inr ⟨q, vm₁, B, X₁.warmed, X', hpost, hstep₁ _ fun acts => by rw [doInvoke_state]; exact hsteps⟩
end Calls
theorem vx_cls {s : State} {T : State} {vm₁ : Vm} {E : String} {k : ClassId} (hW : s.WarmedH vm₁) (h : (T.setVm vm₁).vm.findClass E = some k) : s.vm.findClass E = some k := by
  have h1 : vm₁.findClass E = some k := h
  rw [hW.alike.findClass] at h1
  exact h1
/-- the method's frame g, with q thrown over it -/
def vx_W (p : Program) (l : Launch) (e : Env) (R : Room) (s : State) (m : MethodId) (args : Array Value) (below : List Frame) (meth : Method) (c : Code) (H : Heap) (locs : List Loc) (cells slots : Nat) (Q : State → Prop) (g : JFrame) (q : Addr) : Prop :=
  ∀ T : State, T.heap = H → Stand p l e R s m args below meth c T locs cells slots → ∃ t, Steps p.tables e below ((T.setTop g).pushFrame (.throwing q)) t ∧ Q t
def vx_Run (p : Program) (l : Launch) (e : Env) (R : Room) (s : State) (m : MethodId) (args : Array Value) (below : List Frame) (meth : Method) (c : Code) (H : Heap) (locs : List Loc) (cells slots mc ms : Nat) (g : JFrame) (rest : List Value) (Qa : State → Outcome → State → Prop) (XC : String → State → State → Prop) (free : Addr → Prop) : Prop :=
  ∀ T : State, T.heap = H → Stand p l e R s m args below meth c T locs cells slots →
    (∃ (v : Option Value) (st₀ t T' : State) (L : List Loc), st₀.heap = H ∧ Stand p l e R s m args below meth c T' (locs ++ L) (cells + mc) (slots + ms) ∧ (∀ q ∈ L, free q.base) ∧ T'.heap = t.heap ∧ T'.vm = t.vm ∧ Qa st₀ (.returned v) t ∧
      Goes p e below T g T' { g with pc := g.pc + 3, stack := v.toList ++ rest }) ∨
    (∃ (q : Addr) (st₀ t T' : State) (L : List Loc) (E : String) (ce : Cell), st₀.heap = H ∧ Stand p l e R s m args below meth c T' (locs ++ L) (cells + mc) (slots + ms) ∧ (∀ z ∈ L, free z.base) ∧ T'.heap = t.heap ∧ T'.vm = t.vm ∧ XC E st₀ t ∧ t.heap[q]? = some ce ∧ ce.vm = .none ∧ s.vm.findClass E = some ce.cls ∧
      Steps p.tables e below (T.setTop g) ((T'.setTop { g with stack := rest }).pushFrame (.throwing q)))
def vx_X {S : Type} (px : S → Prop) (B : String → S → State → Prop) (A : Nat → Prop) : String → State → State → Prop := fun E st t => ∃ u : S, px u ∧ B E u t ∧ va_F A st t
section Runs
variable {p : Program} {l : Launch} {e : Env} {R : Room} {s : State} {m : MethodId} {args : Array Value} {below : List Frame} {meth : Method} {c : Code} {H : Heap} {locs : List Loc} {cells slots : Nat}
variable {y : MethodName} {bytes cc : ByteArray} {maxL nL mc ms n index : Nat} {ret : Option FieldType} {ws : List Cond} {rm : Room} {Pc : Array Value → State → Prop} {Qc : Array Value → State → Outcome → State → Prop} {XC : String → State → State → Prop} {free : Addr → Prop} {Ts : List Cond} {own C : String} {b : Addr} {As rest : List Value} {g : JFrame}
theorem vx_callBack (cb : CallB R s args own index y bytes maxL ret ws rm mc ms n) (hM : vx_Met l y ws rm Pc Qc XC mc ms free) (hbl : FrameBlind Pc) : vx_Back l R p e below s args y 3 8 (PreOf R mc ms Pc) (PostOf Qc mc ms free) (vx_Post XC mc ms free) := by
  obtain ⟨hrc, hrs, hfr, hlo, hws, hcw, -, hini, -⟩ := cb
  exact vx_back (bytes := bytes) (maxL := maxL) (ret := ret) hM hbl hrc hrs hfr hlo hws hcw (fun a' U hW => word_at hW (Or.inl (by first | rfl | simp [Cond.onTables, Cond.keeps, Cond.steady])) hini)
theorem vx_runV (S : CallFix p m c cc nL s args Ts own) (hM : vx_Met l y ws rm Pc Qc XC mc ms free) (cw : CallW R s args own C index y bytes maxL ret ws rm mc ms n) (hp : PreV s H C b Pc As)
    (hg : g.method = m) (hn : As.length = n) (hsize : g.locals.size = nL) (hstack : g.stack = As.reverse ++ .ref b :: rest) (hW : 2 * g.monitorRoom + (rest.map fun v => v.category).sum ≤ 8) (hdg : decode cc g.pc = .ok (.invokevirtual index, 3)) (hf : cells + mc ≤ R.cells ∧ slots + ms ≤ R.slots) :
    vx_Run p l e R s m args below meth c H locs cells slots mc ms g rest (Qc (Value.ref b :: As).toArray) XC free := by
  have hK : vx_Back l R p e below s args y 3 8 (PreOf R mc ms Pc) (PostOf Qc mc ms free) (vx_Post XC mc ms free) := vx_callBack cw.1 hM hp.1
  obtain ⟨⟨-, -, -, -, -, -, hcode, -, hy, hlen, hl⟩, hin, hse⟩ := cw
  obtain ⟨hx, hb, hml, ho, -⟩ := S
  obtain ⟨-, ⟨cellB, hcB, hoB, hclB⟩, hPc⟩ := hp
  intro T hT X
  rcases vx_callV X hx (C := C) (bytes := bytes) (maxL := maxL) (ret := ret) ho hl hin hse hcode hy hK (by rw [hT]; exact hcB) hoB hclB hg (hsize.trans hml.symm) (argsL := As) (rest := rest) (fun sig h => hn.trans (hlen sig h)) hstack hW (by rw [hb]; exact hdg)
    (fun vm₁ hW₁ => ⟨hf.1, hf.2, hPc (T.setVm vm₁) hT hW₁⟩) with ⟨v, vm₁, ⟨U', l2, c2, s2⟩, hW₁, X', ⟨g', mk, t, L, e1, e2, hq, h1, hL, h2, h3⟩, st⟩ | ⟨q, vm₁, ⟨U', l2, c2, s2⟩, hW₁, X', ⟨g', mk, t, L, E, ce, e1, e2, hq, hce, hcv, hcl, h1, hL, h2, h3⟩, st⟩
  · dsimp only [Pt.U, Pt.locs, Pt.cells, Pt.slots] at X' e1 e2 h1 h2 h3 st
    subst h1; subst h2; subst h3
    exact Or.inl ⟨v, (T.setVm vm₁).calling g' mk (Value.ref b :: As).toArray, t, U', L, hT, X', hL, e1, e2, hq, st⟩
  · dsimp only [Pt.U, Pt.locs, Pt.cells, Pt.slots] at X' e1 e2 h1 h2 h3 st hcl
    subst h1; subst h2; subst h3
    exact Or.inr ⟨q, (T.setVm vm₁).calling g' mk (Value.ref b :: As).toArray, t, U', L, E, ce, hT, X', hL, e1, e2, hq, hce, hcv, vx_cls hW₁ hcl, st⟩
theorem vx_runS (S : CallFix p m c cc nL s args Ts own) (hM : vx_Met l y ws rm Pc Qc XC mc ms free) (cw : CallB R s args own index y bytes maxL ret ws rm mc ms n ∧ (Cond.static y).before args s = true) (hp : PreS s H Pc As)
    (hg : g.method = m) (hn : As.length = n) (hsize : g.locals.size = nL) (hstack : g.stack = As.reverse ++ rest) (hW : 2 * g.monitorRoom + (rest.map fun v => v.category).sum ≤ 8) (hdg : decode cc g.pc = .ok (.invokestatic index, 3)) (hf : cells + mc ≤ R.cells ∧ slots + ms ≤ R.slots) :
    vx_Run p l e R s m args below meth c H locs cells slots mc ms g rest (Qc As.toArray) XC free := by
  have hK : vx_Back l R p e below s args y 3 8 (PreOf R mc ms Pc) (PostOf Qc mc ms free) (vx_Post XC mc ms free) := vx_callBack cw.1 hM hp.1
  obtain ⟨⟨-, -, -, -, -, -, hcode, hini, hy, hlen, hl⟩, hstt⟩ := cw
  obtain ⟨hx, hb, hml, ho, -⟩ := S
  intro T hT X
  rcases vx_callS X hx (bytes := bytes) (maxL := maxL) (ret := ret) ho hl hstt hini hcode hy hK hg (hsize.trans hml.symm) (argsL := As) (rest := rest) (fun sig h => hn.trans (hlen sig h)) hstack hW (by rw [hb]; exact hdg)
    (fun vm₁ hW₁ => ⟨hf.1, hf.2, hp.2 (T.setVm vm₁) hT hW₁⟩) with ⟨v, vm₁, ⟨U', l2, c2, s2⟩, hW₁, X', ⟨g', mk, t, L, e1, e2, hq, h1, hL, h2, h3⟩, st⟩ | ⟨q, vm₁, ⟨U', l2, c2, s2⟩, hW₁, X', ⟨g', mk, t, L, E, ce, e1, e2, hq, hce, hcv, hcl, h1, hL, h2, h3⟩, st⟩
  · dsimp only [Pt.U, Pt.locs, Pt.cells, Pt.slots] at X' e1 e2 h1 h2 h3 st
    subst h1; subst h2; subst h3
    exact Or.inl ⟨v, (T.setVm vm₁).calling g' mk As.toArray, t, U', L, hT, X', hL, e1, e2, hq, st⟩
  · dsimp only [Pt.U, Pt.locs, Pt.cells, Pt.slots] at X' e1 e2 h1 h2 h3 st hcl
    subst h1; subst h2; subst h3
    exact Or.inr ⟨q, (T.setVm vm₁).calling g' mk As.toArray, t, U', L, E, ce, hT, X', hL, e1, e2, hq, hce, hcv, vx_cls hW₁ hcl, st⟩
end Runs
section Rows
variable {p : Program} {l : Launch} {e : Env} {R : Room} {s : State} {m : MethodId} {args : Array Value} {below : List Frame} {meth : Method} {c : Code} {H : Heap} {locs : List Loc} {cells slots : Nat} {Q : State → Prop}
variable {mc ms : Nat} {free : Addr → Prop} {A0 A1 : Nat → Prop} {H0 : Heap} {a : Array Value} {pc : Nat} {ls : Array Slot} {st0 rest : List Value}
theorem vx_keep {st₀ t T' : State} {L : List Loc} (h0 : st₀.heap = H) (e1 : T'.heap = t.heap) (hS : va_S A0 H0 H locs) (hA : ∀ q, q < H.size → A1 q → A0 q) (hf : ∀ q, free q → A0 q) (hL : ∀ q ∈ L, free q.base) (hF : va_F A1 st₀ t) :
    H.size ≤ T'.heap.size ∧ (∀ q : Nat, q < H.size → ¬ A1 q → T'.heap[q]? = H[q]?) ∧ va_S A0 H0 T'.heap (locs ++ L) := by
  obtain ⟨hz, hk⟩ := hF
  rw [h0] at hz hk
  exact ⟨by rw [e1]; exact hz, fun q h1 h2 => by rw [e1]; exact hk q h1 h2,
    ⟨Nat.le_trans hS.1 (by rw [e1]; exact hz), fun q h1 h2 => by rw [e1, hk q (Nat.lt_of_lt_of_le h1 hS.1) (fun z => h2 (hA q (Nat.lt_of_lt_of_le h1 hS.1) z))]; exact hS.2.1 q h1 h2, fun q hq => by
      rcases List.mem_append.mp hq with h | h
      · exact hS.2.2 q h
      · exact hf _ (hL q h)⟩⟩
theorem vx_calli {S SX : Type} {post : Int32 → S → Prop} {px : SX → Prop} {B : S → State → Prop} {BX : String → SX → State → Prop} {AX : Nat → Prop} (hr : vx_Run p l e R s m args below meth c H locs cells slots mc ms (F0 m pc ls st0) rest (va_Qi post B A1 a) (vx_X px BX AX) free) (hS : va_S A0 H0 H locs) (hA : ∀ q, q < H.size → A1 q → A0 q) (hf : ∀ q, free q → A0 q) (hAX : ∀ q, q < H.size → AX q → A0 q)
    (kx : ∀ (E : String) (ce : Cell) (q9 : Addr) (u : SX) (t : State) (H1 : Heap) (locs1 : List Loc), t.heap = H1 → s.vm.Alike t.vm → px u → BX E u t → H.size ≤ H1.size → (∀ q : Nat, q < H.size → ¬ AX q → H1[q]? = H[q]?) → va_S A0 H0 H1 locs1 → H1[q9]? = some ce → ce.vm = .none → s.vm.findClass E = some ce.cls → vx_W p l e R s m args below meth c H1 locs1 (cells + mc) (slots + ms) Q (F0 m pc ls rest) q9)
    (kk : ∀ (r : Int32) (u : S) (t : State) (H1 : Heap) (locs1 : List Loc), t.heap = H1 → s.vm.Alike t.vm → post r u → B u t → H.size ≤ H1.size → (∀ q : Nat, q < H.size → ¬ A1 q → H1[q]? = H[q]?) → va_S A0 H0 H1 locs1 → W p l e R s m args below meth c H1 locs1 (cells + mc) (slots + ms) Q (F0 m (pc + 3) ls (.int r :: rest))) : W p l e R s m args below meth c H locs cells slots Q (F0 m pc ls st0) := by
  intro T hT X
  rcases hr T hT X with ⟨v, st₀, t, T', L, h0, X', hL, e1, e2, ⟨⟨r, u, hv, hp, hb⟩, hF⟩, st⟩ | ⟨q, st₀, t, T', L, E, ce, h0, X', hL, e1, e2, ⟨u, hp, hb, hF⟩, hce, hcv, hcl, st⟩
  · cases hv
    obtain ⟨k1, k2, k3⟩ := vx_keep h0 e1 hS hA hf hL hF
    obtain ⟨t2, a1, b1⟩ := kk r u t T'.heap (locs ++ L) e1.symm (by rw [← e2]; exact X'.warmed.alike) hp hb k1 k2 k3 T' rfl X'
    exact ⟨t2, st t2 a1, b1⟩
  · obtain ⟨k1, k2, k3⟩ := vx_keep h0 e1 hS hAX hf hL hF
    obtain ⟨t2, a1, b1⟩ := kx E ce q u t T'.heap (locs ++ L) e1.symm (by rw [← e2]; exact X'.warmed.alike) hp hb k1 k2 k3 (by rw [e1]; exact hce) hcv hcl T' rfl X'
    exact ⟨t2, st.trans a1, b1⟩
theorem vx_calll {S SX : Type} {post : Int64 → S → Prop} {px : SX → Prop} {B : S → State → Prop} {BX : String → SX → State → Prop} {AX : Nat → Prop} (hr : vx_Run p l e R s m args below meth c H locs cells slots mc ms (F0 m pc ls st0) rest (va_Ql post B A1 a) (vx_X px BX AX) free) (hS : va_S A0 H0 H locs) (hA : ∀ q, q < H.size → A1 q → A0 q) (hf : ∀ q, free q → A0 q) (hAX : ∀ q, q < H.size → AX q → A0 q)
    (kx : ∀ (E : String) (ce : Cell) (q9 : Addr) (u : SX) (t : State) (H1 : Heap) (locs1 : List Loc), t.heap = H1 → s.vm.Alike t.vm → px u → BX E u t → H.size ≤ H1.size → (∀ q : Nat, q < H.size → ¬ AX q → H1[q]? = H[q]?) → va_S A0 H0 H1 locs1 → H1[q9]? = some ce → ce.vm = .none → s.vm.findClass E = some ce.cls → vx_W p l e R s m args below meth c H1 locs1 (cells + mc) (slots + ms) Q (F0 m pc ls rest) q9)
    (kk : ∀ (r : Int64) (u : S) (t : State) (H1 : Heap) (locs1 : List Loc), t.heap = H1 → s.vm.Alike t.vm → post r u → B u t → H.size ≤ H1.size → (∀ q : Nat, q < H.size → ¬ A1 q → H1[q]? = H[q]?) → va_S A0 H0 H1 locs1 → W p l e R s m args below meth c H1 locs1 (cells + mc) (slots + ms) Q (F0 m (pc + 3) ls (.long r :: rest))) : W p l e R s m args below meth c H locs cells slots Q (F0 m pc ls st0) := by
  intro T hT X
  rcases hr T hT X with ⟨v, st₀, t, T', L, h0, X', hL, e1, e2, ⟨⟨r, u, hv, hp, hb⟩, hF⟩, st⟩ | ⟨q, st₀, t, T', L, E, ce, h0, X', hL, e1, e2, ⟨u, hp, hb, hF⟩, hce, hcv, hcl, st⟩
  · cases hv
    obtain ⟨k1, k2, k3⟩ := vx_keep h0 e1 hS hA hf hL hF
    obtain ⟨t2, a1, b1⟩ := kk r u t T'.heap (locs ++ L) e1.symm (by rw [← e2]; exact X'.warmed.alike) hp hb k1 k2 k3 T' rfl X'
    exact ⟨t2, st t2 a1, b1⟩
  · obtain ⟨k1, k2, k3⟩ := vx_keep h0 e1 hS hAX hf hL hF
    obtain ⟨t2, a1, b1⟩ := kx E ce q u t T'.heap (locs ++ L) e1.symm (by rw [← e2]; exact X'.warmed.alike) hp hb k1 k2 k3 (by rw [e1]; exact hce) hcv hcl T' rfl X'
    exact ⟨t2, st.trans a1, b1⟩
theorem vx_callf {S SX : Type} {post : UInt32 → S → Prop} {px : SX → Prop} {B : S → State → Prop} {BX : String → SX → State → Prop} {AX : Nat → Prop} (hr : vx_Run p l e R s m args below meth c H locs cells slots mc ms (F0 m pc ls st0) rest (va_Qf post B A1 a) (vx_X px BX AX) free) (hS : va_S A0 H0 H locs) (hA : ∀ q, q < H.size → A1 q → A0 q) (hf : ∀ q, free q → A0 q) (hAX : ∀ q, q < H.size → AX q → A0 q)
    (kx : ∀ (E : String) (ce : Cell) (q9 : Addr) (u : SX) (t : State) (H1 : Heap) (locs1 : List Loc), t.heap = H1 → s.vm.Alike t.vm → px u → BX E u t → H.size ≤ H1.size → (∀ q : Nat, q < H.size → ¬ AX q → H1[q]? = H[q]?) → va_S A0 H0 H1 locs1 → H1[q9]? = some ce → ce.vm = .none → s.vm.findClass E = some ce.cls → vx_W p l e R s m args below meth c H1 locs1 (cells + mc) (slots + ms) Q (F0 m pc ls rest) q9)
    (kk : ∀ (r : UInt32) (u : S) (t : State) (H1 : Heap) (locs1 : List Loc), t.heap = H1 → s.vm.Alike t.vm → post r u → B u t → H.size ≤ H1.size → (∀ q : Nat, q < H.size → ¬ A1 q → H1[q]? = H[q]?) → va_S A0 H0 H1 locs1 → W p l e R s m args below meth c H1 locs1 (cells + mc) (slots + ms) Q (F0 m (pc + 3) ls (.float r :: rest))) : W p l e R s m args below meth c H locs cells slots Q (F0 m pc ls st0) := by
  intro T hT X
  rcases hr T hT X with ⟨v, st₀, t, T', L, h0, X', hL, e1, e2, ⟨⟨r, u, hv, hp, hb⟩, hF⟩, st⟩ | ⟨q, st₀, t, T', L, E, ce, h0, X', hL, e1, e2, ⟨u, hp, hb, hF⟩, hce, hcv, hcl, st⟩
  · cases hv
    obtain ⟨k1, k2, k3⟩ := vx_keep h0 e1 hS hA hf hL hF
    obtain ⟨t2, a1, b1⟩ := kk r u t T'.heap (locs ++ L) e1.symm (by rw [← e2]; exact X'.warmed.alike) hp hb k1 k2 k3 T' rfl X'
    exact ⟨t2, st t2 a1, b1⟩
  · obtain ⟨k1, k2, k3⟩ := vx_keep h0 e1 hS hAX hf hL hF
    obtain ⟨t2, a1, b1⟩ := kx E ce q u t T'.heap (locs ++ L) e1.symm (by rw [← e2]; exact X'.warmed.alike) hp hb k1 k2 k3 (by rw [e1]; exact hce) hcv hcl T' rfl X'
    exact ⟨t2, st.trans a1, b1⟩
theorem vx_calld {S SX : Type} {post : UInt64 → S → Prop} {px : SX → Prop} {B : S → State → Prop} {BX : String → SX → State → Prop} {AX : Nat → Prop} (hr : vx_Run p l e R s m args below meth c H locs cells slots mc ms (F0 m pc ls st0) rest (va_Qd post B A1 a) (vx_X px BX AX) free) (hS : va_S A0 H0 H locs) (hA : ∀ q, q < H.size → A1 q → A0 q) (hf : ∀ q, free q → A0 q) (hAX : ∀ q, q < H.size → AX q → A0 q)
    (kx : ∀ (E : String) (ce : Cell) (q9 : Addr) (u : SX) (t : State) (H1 : Heap) (locs1 : List Loc), t.heap = H1 → s.vm.Alike t.vm → px u → BX E u t → H.size ≤ H1.size → (∀ q : Nat, q < H.size → ¬ AX q → H1[q]? = H[q]?) → va_S A0 H0 H1 locs1 → H1[q9]? = some ce → ce.vm = .none → s.vm.findClass E = some ce.cls → vx_W p l e R s m args below meth c H1 locs1 (cells + mc) (slots + ms) Q (F0 m pc ls rest) q9)
    (kk : ∀ (r : UInt64) (u : S) (t : State) (H1 : Heap) (locs1 : List Loc), t.heap = H1 → s.vm.Alike t.vm → post r u → B u t → H.size ≤ H1.size → (∀ q : Nat, q < H.size → ¬ A1 q → H1[q]? = H[q]?) → va_S A0 H0 H1 locs1 → W p l e R s m args below meth c H1 locs1 (cells + mc) (slots + ms) Q (F0 m (pc + 3) ls (.double r :: rest))) : W p l e R s m args below meth c H locs cells slots Q (F0 m pc ls st0) := by
  intro T hT X
  rcases hr T hT X with ⟨v, st₀, t, T', L, h0, X', hL, e1, e2, ⟨⟨r, u, hv, hp, hb⟩, hF⟩, st⟩ | ⟨q, st₀, t, T', L, E, ce, h0, X', hL, e1, e2, ⟨u, hp, hb, hF⟩, hce, hcv, hcl, st⟩
  · cases hv
    obtain ⟨k1, k2, k3⟩ := vx_keep h0 e1 hS hA hf hL hF
    obtain ⟨t2, a1, b1⟩ := kk r u t T'.heap (locs ++ L) e1.symm (by rw [← e2]; exact X'.warmed.alike) hp hb k1 k2 k3 T' rfl X'
    exact ⟨t2, st t2 a1, b1⟩
  · obtain ⟨k1, k2, k3⟩ := vx_keep h0 e1 hS hAX hf hL hF
    obtain ⟨t2, a1, b1⟩ := kx E ce q u t T'.heap (locs ++ L) e1.symm (by rw [← e2]; exact X'.warmed.alike) hp hb k1 k2 k3 (by rw [e1]; exact hce) hcv hcl T' rfl X'
    exact ⟨t2, st.trans a1, b1⟩
theorem vx_callv {S SX : Type} {post : S → Prop} {px : SX → Prop} {B : S → State → Prop} {BX : String → SX → State → Prop} {AX : Nat → Prop} (hr : vx_Run p l e R s m args below meth c H locs cells slots mc ms (F0 m pc ls st0) rest (va_Qv post B A1 a) (vx_X px BX AX) free) (hS : va_S A0 H0 H locs) (hA : ∀ q, q < H.size → A1 q → A0 q) (hf : ∀ q, free q → A0 q) (hAX : ∀ q, q < H.size → AX q → A0 q)
    (kx : ∀ (E : String) (ce : Cell) (q9 : Addr) (u : SX) (t : State) (H1 : Heap) (locs1 : List Loc), t.heap = H1 → s.vm.Alike t.vm → px u → BX E u t → H.size ≤ H1.size → (∀ q : Nat, q < H.size → ¬ AX q → H1[q]? = H[q]?) → va_S A0 H0 H1 locs1 → H1[q9]? = some ce → ce.vm = .none → s.vm.findClass E = some ce.cls → vx_W p l e R s m args below meth c H1 locs1 (cells + mc) (slots + ms) Q (F0 m pc ls rest) q9)
    (kk : ∀ (u : S) (t : State) (H1 : Heap) (locs1 : List Loc), t.heap = H1 → s.vm.Alike t.vm → post u → B u t → H.size ≤ H1.size → (∀ q : Nat, q < H.size → ¬ A1 q → H1[q]? = H[q]?) → va_S A0 H0 H1 locs1 → W p l e R s m args below meth c H1 locs1 (cells + mc) (slots + ms) Q (F0 m (pc + 3) ls (rest))) : W p l e R s m args below meth c H locs cells slots Q (F0 m pc ls st0) := by
  intro T hT X
  rcases hr T hT X with ⟨v, st₀, t, T', L, h0, X', hL, e1, e2, ⟨⟨u, hv, hp, hb⟩, hF⟩, st⟩ | ⟨q, st₀, t, T', L, E, ce, h0, X', hL, e1, e2, ⟨u, hp, hb, hF⟩, hce, hcv, hcl, st⟩
  · cases hv
    obtain ⟨k1, k2, k3⟩ := vx_keep h0 e1 hS hA hf hL hF
    obtain ⟨t2, a1, b1⟩ := kk u t T'.heap (locs ++ L) e1.symm (by rw [← e2]; exact X'.warmed.alike) hp hb k1 k2 k3 T' rfl X'
    exact ⟨t2, st t2 a1, b1⟩
  · obtain ⟨k1, k2, k3⟩ := vx_keep h0 e1 hS hAX hf hL hF
    obtain ⟨t2, a1, b1⟩ := kx E ce q u t T'.heap (locs ++ L) e1.symm (by rw [← e2]; exact X'.warmed.alike) hp hb k1 k2 k3 (by rw [e1]; exact hce) hcv hcl T' rfl X'
    exact ⟨t2, st.trans a1, b1⟩
/-- caught by the row x of this method's table; the rows ahead don't take it -/
theorem vx_catch {own name : String} {E : String} {ce : Cell} {q : Addr} (hown : s.vm.findClass own = some m.cls) (pre : List ExceptionTableEntry) (x : ExceptionTableEntry) (suf : List ExceptionTableEntry) (hsplit : c.exceptionTable.toList = pre ++ x :: suf)
    (hpass : ∀ z ∈ pre, covers z pc = false ∨ (z.catchType ≠ 0 ∧ ∃ nm : String, (Cond.classLink own z.catchType nm).before args s = true ∧ va_Nc E nm s)) (hx : covers x pc = true) (h0 : x.catchType ≠ 0)
    (hlink : (Cond.classLink own x.catchType name).before args s = true) (hcast : (Cond.castable E name).before args s = true) (hcell : H[q]? = some ce) (hv : ce.vm = .none) (hcl : s.vm.findClass E = some ce.cls)
    (kk : W p l e R s m args below meth c H locs cells slots Q (F0 m x.handlerPc ls [.ref q])) : vx_W p l e R s m args below meth c H locs cells slots Q (F0 m pc ls rest) q := by
  intro T hT X
  have hpl : e.platform.magicAccessors = ({} : Platform).magicAccessors := by rw [X.admits.platform]
  obtain ⟨c3, c4, hc3, hc4, hasg⟩ := Cond.castable_spec hcast
  cases Option.some.inj (hc3.symm.trans hcl)
  obtain ⟨c5, hc5, hcl5⟩ := Cond.classLink_spec hown hlink e.platform hpl
  cases Option.some.inj (hc4.symm.trans hc5)
  obtain ⟨vm', X', st⟩ := X.thenCaughtThrough q (g := F0 m pc ls rest) rfl (Steps.refl _) (by rw [hT]; exact hcell) (by rw [hv]; rfl) (by obtain ⟨k9, h9, -⟩ := Vm.findClass_spec hcl; exact ⟨k9, h9⟩) pre x suf hsplit
    (fun z hz => by
      rcases hpass z hz with h | ⟨hz0, nm, hl1, hn1⟩
      · exact Or.inl h
      · obtain ⟨c6, hc6, hcl6⟩ := Cond.classLink_spec hown hl1 e.platform hpl
        obtain ⟨a8, b8, h1, h2, h3⟩ := hn1
        cases Option.some.inj (h1.symm.trans hcl)
        cases Option.some.inj (h2.symm.trans hc6)
        exact Or.inr ⟨hz0, _, hcl6, h3⟩) hx (Or.inr ⟨h0, c4, hcl5, hasg⟩)
  obtain ⟨t, a1, b1⟩ := kk (T.setVm vm') hT X'
  exact ⟨t, st.trans a1, b1⟩
end Rows
section Ends
variable {p : Program} {l : Launch} {e : Env} {R : Room} {s : State} {m : MethodId} {args : Array Value} {below : List Frame} {meth : Method} {c : Code} {H : Heap} {locs : List Loc} {cells slots : Nat} {Q : State → Prop}
variable {mc ms : Nat} {free : Addr → Prop} {A0 A1 : Nat → Prop} {H0 : Heap} {a : Array Value} {ls : Array Slot} {st0 rest : List Value}
variable {Qc : Array Value → State → Outcome → State → Prop} {XC : String → State → State → Prop}
/-- what a body that may throw owes at its end -/
def vx_MQ (below : List Frame) (Qc : Array Value → State → Outcome → State → Prop) (XC : String → State → State → Prop) (a : Array Value) (s : State) (mc ms : Nat) (free : Addr → Prop) : State → Prop := fun t =>
  ∃ o, t.status = .running ∧ Ended t below o ∧ vx_Q Qc XC mc ms free a s o t
theorem vx_ret {g : JFrame} {mc ms : Nat} (k : W p l e R s m args below meth c H locs cells slots (MQ below Qc args s mc ms free) g) : W p l e R s m args below meth c H locs cells slots (vx_MQ below Qc XC args s mc ms free) g := by
  intro T hT X
  obtain ⟨t, a1, o, b1, b2, b3, b4⟩ := k T hT X
  exact ⟨t, a1, o, b1, b2, Or.inl ⟨b3, b4⟩⟩
/-- not caught here: it goes on to the caller -/
theorem vx_widen {g : JFrame} {q : Addr} {k n : Nat} (h1 : cells ≤ k) (h2 : slots ≤ n) (kk : vx_W p l e R s m args below meth c H locs k n Q g q) : vx_W p l e R s m args below meth c H locs cells slots Q g q := fun T hT X => kk T hT (stand_widen X h1 h2)
theorem vx_out {pc : Nat} {E : String} {ce : Cell} {q : Addr} {mc ms : Nat} (hout : ∀ x ∈ c.exceptionTable.toList, covers x pc = false) (hlocks : meth.locks = false) (hcell : H[q]? = some ce) (hv : ce.vm = .none) (hcl : s.vm.findClass E = some ce.cls)
    (hx : ∀ t : State, t.heap = H → s.vm.Alike t.vm → XC E s t) (hf : ∀ z ∈ locs, free z.base) (hc : cells ≤ mc) (hs : slots ≤ ms) :
    vx_W p l e R s m args below meth c H locs cells slots (vx_MQ below Qc XC args s mc ms free) (F0 m pc ls rest) q := by
  intro T hT X
  obtain ⟨st1, hrun, hend, hW, hsm⟩ := X.leaveThrown q (g := F0 m pc ls rest) rfl rfl rfl hout hlocks
  have hcell9 : (T.setFrames (.throwing q :: below)).heap[q]? = some ce := by
    show T.heap[q]? = some ce
    rw [hT]; exact hcell
  exact ⟨_, st1, .threw q, hrun, hend, Or.inr ⟨q, rfl, E, ce, locs, hx _ hT hW.alike, hcell9, hv, hcl, hW, hsm.mono hc hs, hf⟩⟩
theorem vx_frame {U : State} {k n : Nat} (h : s.sameButNew ({ U with vm := s.vm } : State) locs k n) : s.heap.size ≤ U.heap.size ∧ ∀ q : Nat, q < s.heap.size → (∀ z ∈ locs, z.base ≠ q) → U.heap[q]? = s.heap[q]? := by
  obtain ⟨-, h2, -, -, -, h6⟩ := h
  refine ⟨h2, fun q hq hz => ?_⟩
  obtain ⟨c9, e1, e2, e3, e4⟩ := h6 q _ (Array.getElem?_eq_getElem hq)
  have hs : c9.slots = (s.heap[q]).slots := Array.ext_getElem? fun i => e4 i fun hm => hz _ hm rfl
  have h9 : c9 = s.heap[q] := by
    rw [hs] at e2
    exact e2
  have e5 : U.heap[q]? = some c9 := e1
  rw [e5, h9, Array.getElem?_eq_getElem hq]
/-- the words of a throw but the four that speak of the heap -/
def vx_no (w : Cond) : Bool := decide (w ≠ .isRef (.static Bundle.tN "UNASSIGNED_STACK" Bundle.steD)) && decide (w ≠ .isRef (.static Bundle.tN "SUPPRESSED_SENTINEL" Bundle.listD)) && decide (w ≠ .laysStatic Bundle.tN "UNASSIGNED_STACK" Bundle.steD) && decide (w ≠ .laysStatic Bundle.tN "SUPPRESSED_SENTINEL" Bundle.listD)
def vx_at0 (own : String) (ic : Nat) (X : String) (names : List String) : List Cond := (Bundle.ownAtoms0 own ic X names).filter vx_no
def vx_atS (own : String) (ic : Nat) (X : String) (names : List String) : List Cond := (Bundle.ownAtoms own ic X names).filter vx_no
/-- a word that the tables alone decide, or a good one -/
def vx_ot (w : Cond) : Bool := w.onTables || goodWord w
theorem vx_ot_at {args a' : Array Value} {s U : State} {w : Cond} (hW : s.WarmedH U.vm) (hvm : s.vm = U.vm) (hg : vx_ot w = true) (h : w.before args s = true) : w.before a' U = true := by
  simp only [vx_ot, Bool.or_eq_true] at hg
  rcases hg with hg | hg
  · exact va_tabs hg hvm h
  · exact word_at hW (good_of_word hg) h
/-- a list's words: the good ones out of the method's own list, the others by premises of their own -/
theorem vx_hat {args : Array Value} {s : State} {L B : List Cond} (h1 : ∀ w ∈ L.filter goodWord, w.before args s = true) (h2 : ∀ w ∈ L.filter (fun w => !goodWord w), w ∈ B) (h3 : ∀ w ∈ B, w.before args s = true) : ∀ w ∈ L, w.before args s = true := by
  intro w hw
  by_cases g : goodWord w = true
  · exact h1 w (List.mem_filter.mpr ⟨hw, g⟩)
  · refine h3 w (h2 w (List.mem_filter.mpr ⟨hw, ?_⟩))
    show (!goodWord w) = true
    cases hgw : goodWord w
    · rfl
    · exact absurd hgw g
theorem vx_c {args : Array Value} {s : State} {w : Cond} {B : List Cond} (h : w.before args s = true) (t : ∀ w ∈ B, w.before args s = true) : ∀ w' ∈ w :: B, w'.before args s = true := fun w' h' => (List.mem_cons.mp h').elim (fun e => by rw [e]; exact h) (t w')
theorem vx_n {args : Array Value} {s : State} : ∀ w ∈ ([] : List Cond), w.before args s = true := fun _ h => nomatch h
theorem vx_own {args : Array Value} {s : State} {L : List Cond} (h1 : ∀ w ∈ L.filter vx_no, w.before args s = true)
    (hU : (Cond.isRef (.static Bundle.tN "UNASSIGNED_STACK" Bundle.steD)).before args s = true) (hN : (Cond.isRef (.static Bundle.tN "SUPPRESSED_SENTINEL" Bundle.listD)).before args s = true)
    (lU : (Cond.laysStatic Bundle.tN "UNASSIGNED_STACK" Bundle.steD).before args s = true) (lN : (Cond.laysStatic Bundle.tN "SUPPRESSED_SENTINEL" Bundle.listD).before args s = true) : ∀ w ∈ L, w.before args s = true := by
  intro w hw
  by_cases e1 : w = .isRef (.static Bundle.tN "UNASSIGNED_STACK" Bundle.steD)
  · rw [e1]; exact hU
  · by_cases e2 : w = .isRef (.static Bundle.tN "SUPPRESSED_SENTINEL" Bundle.listD)
    · rw [e2]; exact hN
    · by_cases e3 : w = .laysStatic Bundle.tN "UNASSIGNED_STACK" Bundle.steD
      · rw [e3]; exact lU
      · by_cases e4 : w = .laysStatic Bundle.tN "SUPPRESSED_SENTINEL" Bundle.listD
        · rw [e4]; exact lN
        · exact h1 w (List.mem_filter.mpr ⟨hw, by unfold vx_no; rw [decide_eq_true e1, decide_eq_true e2, decide_eq_true e3, decide_eq_true e4]; rfl⟩)
/-- where a static field lies, its class's statics cell in H -/
def vx_L (C n d : String) (A : Nat → Prop) (U : State) (H : Heap) : Prop := ∃ (c : ClassId) (k : Class) (i : Nat) (f : Field) (a : Nat) (cell : Cell), U.vm.findClass C = some c ∧ U.fieldFound? C n d = some (c, k, i, f) ∧ f.isStatic = true ∧ k.statics = some a ∧ H[a]? = some cell ∧ cell.vm.isStatics = true ∧ cell.cls = c ∧ f.slot < cell.slots.size ∧ k.staticTypes[f.slot]? = some f.type ∧ ¬ A a
theorem vx_L.moved {C n d : String} {A : Nat → Prop} {u U : State} {H : Heap} (hvm : u.vm.Alike U.vm) (h : vx_L C n d A u H) : vx_L C n d A U H := by
  obtain ⟨c, k, i, f, a, cell, h1, h2, h3, h4, h5, h6, h7, h8, h9, h10⟩ := h
  obtain ⟨k', hi', he⟩ := State.fieldFound?_setVm hvm h2
  exact ⟨c, k', i, f, a, cell, by rw [hvm.findClass]; exact h1, hi', h3, by rw [he]; exact h4, h5, h6, h7, h8, by rw [he]; exact h9, h10⟩
theorem vx_L.kept {C n d : String} {A : Nat → Prop} {U : State} {H H1 : Heap} (h : vx_L C n d A U H) (hq : ∀ a : Nat, a < H.size → ¬ A a → H1[a]? = H[a]?) : vx_L C n d A U H1 := by
  obtain ⟨c, k, i, f, a, cell, h1, h2, h3, h4, h5, h6, h7, h8, h9, h10⟩ := h
  exact ⟨c, k, i, f, a, cell, h1, h2, h3, h4, by rw [hq a (Array.getElem?_eq_some_iff.mp h5).1 h10]; exact h5, h6, h7, h8, h9, h10⟩
theorem vx_L.narrow {C n d : String} {A B : Nat → Prop} {U : State} {H : Heap} (h : vx_L C n d A U H) (hAB : ∀ q, B q → A q) : vx_L C n d B U H := by
  obtain ⟨c, k, i, f, a, cell, h1, h2, h3, h4, h5, h6, h7, h8, h9, h10⟩ := h
  exact ⟨c, k, i, f, a, cell, h1, h2, h3, h4, h5, h6, h7, h8, h9, fun z => h10 (hAB _ z)⟩
theorem vx_L.word {C n d : String} {A : Nat → Prop} {s : State} {args : Array Value} (h : vx_L C n d A s s.heap) : (Cond.laysStatic C n d).before args s = true := by
  obtain ⟨c, k, i, f, a, cell, h1, h2, h3, h4, h5, h6, h7, h8, h9, -⟩ := h
  show (Cond.laysStatic C n d).holds args s none s [] = true
  exact Cond.laysStatic_of h1 h2 h3 h4 h5 h6 h7 h8 h9
/-- .. and what it holds: null or some reference -/
def vx_Zq (C n d : String) (A : Nat → Prop) (U : State) (H : Heap) : Prop := va_Zq C n d A U H ∧ vx_L C n d A U H
theorem vx_Zq.moved {C n d : String} {A : Nat → Prop} {u U : State} {H : Heap} (hvm : u.vm.Alike U.vm) (h : vx_Zq C n d A u H) : vx_Zq C n d A U H := ⟨va_Zq.moved hvm h.1, vx_L.moved hvm h.2⟩
theorem vx_Zq.kept {C n d : String} {A : Nat → Prop} {U : State} {H H1 : Heap} (h : vx_Zq C n d A U H) (hq : ∀ a : Nat, a < H.size → ¬ A a → H1[a]? = H[a]?) : vx_Zq C n d A U H1 := ⟨va_Zq.kept h.1 hq, vx_L.kept h.2 hq⟩
theorem vx_Zq.narrow {C n d : String} {A B : Nat → Prop} {U : State} {H : Heap} (h : vx_Zq C n d A U H) (hAB : ∀ q, B q → A q) : vx_Zq C n d B U H := ⟨va_Zq.narrow h.1 hAB, vx_L.narrow h.2 hAB⟩
theorem vx_Zqof {args : Array Value} {s : State} {C n d : String} {A : Nat → Prop} (hl : (Cond.laysStatic C n d).before args s = true) (hini : (Cond.initialized C).before args s = true) (h : (Cond.isRef (.static C n d)).before args s = true) (hA : ∀ a : Nat, a < s.heap.size → ¬ A a) : vx_Zq C n d A s s.heap := by
  refine ⟨va_Zqof hl hini h hA, ?_⟩
  obtain ⟨c, k, i, f, a, cell, h1, h2, h3, h4, h5, h6, h7, h8, h9⟩ := Cond.laysStatic_spec hl
  exact ⟨c, k, i, f, a, cell, h1, h2, h3, h4, h5, h6, h7, h8, h9, hA a (Array.getElem?_eq_some_iff.mp h5).1⟩
theorem vx_isRef {C n d : String} {v : Value} {A : Nat → Prop} {s : State} {args : Array Value} (h : va_Z C n d v A s s.heap) (hv : v.isRef = true) : (Cond.isRef (.static C n d)).before args s = true := by
  obtain ⟨cf, kf, fi, f, a, cell, h1, h2, h3, h4, h5, h6, h7, -⟩ := h
  have he : (Term.static C n d).eval args s none [] s = some v := by
    simp [Term.eval, State.fieldNamed?, h1, h2, h4, h5, h6, h7]
  simp only [Cond.before, Cond.holds, Cond.value, he]
  cases v <;> simp_all [Value.isRef]
theorem vx_isRefq {C n d : String} {A : Nat → Prop} {s : State} {args : Array Value} (h : va_Zq C n d A s s.heap) : (Cond.isRef (.static C n d)).before args s = true := by
  rcases h with h | ⟨t, h⟩
  · exact vx_isRef h rfl
  · exact vx_isRef h rfl
/-- the same frame, seen from here: as if the method were called anew in this heap -/
theorem vx_rebase {T : State} (X : Stand p l e R s m args below meth c T locs cells slots) {R' : Room} (hf : R'.frames ≤ R.frames) (hl : R'.locals ≤ R.locals) (hc : cells + R'.cells ≤ R.cells) (hs : slots + R'.slots ≤ R.slots) :
    Stand p l e R' ((T.setVm s.vm).setFrames (.invoking m args :: below)) m args below meth c T [] 0 0 := by
  have htop : (T.setVm s.vm).topJava?.isSome := X.here.top
  have hF : ((T.setVm s.vm).setFrames (.invoking m args :: below)).frames = .invoking m args :: below := State.frames_setFrames _ (State.cur_lt_of_top htop)
  obtain ⟨g₀, hg0⟩ := Option.isSome_iff_exists.mp htop
  obtain ⟨r, hr⟩ := State.topJava?_eq_some.mp hg0
  have hl9 : e.platform.stackLimits (T.setVm s.vm).me = e.platform.stackLimits s.me := X.limits
  have hb9 : (T.setVm s.vm).me.stackBytes = s.me.stackBytes := X.bytes
  refine ⟨X.admits, X.cas, X.clock, hF, ?_, X.hears, X.method, X.code, X.here, X.tail, X.warmed, ?_, ?_, ?_⟩
  · have h := X.room
    have hU : ((T.setVm s.vm).setFrames (.invoking m args :: below)).localsInUse = s.localsInUse := by
      rw [State.localsInUse_invoking hF (meth := meth) (c := c) X.method X.code, State.localsInUse_invoking X.frames X.method X.code]
    simp only [State.hasRoom, Bool.and_eq_true, decide_eq_true_eq] at h ⊢
    obtain ⟨⟨⟨⟨h1, h2, h3, h4, h5, h6⟩, h7⟩, h8⟩, h9⟩ := h
    rw [X.frames, List.length_cons] at h2 h3
    have q1 := X.heapSize
    have q2 := X.used
    simp only [hF, hU, List.length_cons, State.stackLimits_setFrames, State.stackBytes_setFrames, hl9, hb9]
    refine ⟨⟨⟨⟨by omega, by omega, by omega, by omega, by omega, h6⟩, ?_⟩, ?_⟩, X.book⟩
    · show T.heap.size + R'.cells ≤ e.platform.maxCells
      omega
    · show T.slotsUsed + R'.slots ≤ e.platform.maxSlots
      omega
  · rw [State.stackLimits_setFrames]; rfl
  · rw [State.stackBytes_setFrames]; rfl
  · refine ⟨?_, Nat.le_refl _, Nat.le_refl _, ?_, ?_, fun a c9 h9 => ⟨c9, h9, rfl, rfl, fun _ _ => rfl⟩⟩
    · obtain ⟨t, ht, -⟩ := State.frames_cons hr
      show T.setVm s.vm = { ((T.setVm s.vm).setFrames (.invoking m args :: below)).setFrames (T.setVm s.vm).frames with heap := T.heap, slotsUsed := T.slotsUsed }
      rw [State.setFrames_setFrames, State.setFrames_self ht]
      rfl
    · show T.slotsUsed = T.slotsUsed + ((T.heap.toList.drop T.heap.size).map (·.slots.size)).sum
      rw [List.drop_eq_nil_of_le (Nat.le_of_eq Array.length_toList)]
      rfl
    · show ((T.heap.toList.drop T.heap.size).map (·.slots.size)).sum ≤ 0
      rw [List.drop_eq_nil_of_le (Nat.le_of_eq Array.length_toList)]
      exact Nat.le_refl _
/-- 'throw new E()': new; dup; invokespecial; athrow -/
theorem vx_throw0 {cc : ByteArray} {pc : Nat} (hexec : p.tables.exec = Jvm.exec) (hb : c.code = cc) (hl : l.stackTraces = false) {own cls : String} {names : List String} {ik ic mc ms : Nat} {A : Nat → Prop}
    (hown : s.vm.findClass own = some m.cls) (hcls : Bundle.fit cls = true) (hnames : ∀ n ∈ names, Bundle.fit n = true)
    (hk : (Cond.classLink own ik cls).before args s = true) (hini : (Cond.initialized cls).before args s = true) (hat : ∀ w ∈ vx_at0 own ic cls names, w.before args s = true)
    (hgood : ∀ w ∈ Cond.classLink own ik cls :: Cond.initialized cls :: vx_at0 own ic cls names, vx_ot w = true)
    (hU : vx_Zq Bundle.tN "UNASSIGNED_STACK" Bundle.steD A s s.heap) (hN : vx_Zq Bundle.tN "SUPPRESSED_SENTINEL" Bundle.listD A s s.heap) (hS : va_S A s.heap H locs) (hsize : ls.size = c.maxLocals)
    (d0 : decode cc pc = .ok (.new ik, 3)) (d3 : decode cc (pc + 3) = .ok (.dup, 1)) (d4 : decode cc (pc + 4) = .ok (.invokespecial ic, 3)) (d7 : decode cc (pc + 7) = .ok (.athrow, 1))
    (hout : ∀ x ∈ c.exceptionTable.toList, covers x (pc + 7) = false)
    (hRframes : names.length + 3 < R.frames) (hRlocals : (rest.map fun v => v.category).sum + (13 * (names.length + 1) + 42) ≤ R.locals) (hRcells : cells + 1 ≤ R.cells) (hRslots : slots + 6 ≤ R.slots) (hlocks : meth.locks = false)
    (hx : ∀ t : State, s.vm.Alike t.vm → H.size ≤ t.heap.size → (∀ q : Nat, q < H.size → t.heap[q]? = H[q]?) → XC cls s t)
    (hf : ∀ z ∈ locs, free z.base) (hc : cells + 1 ≤ mc) (hs : slots + 6 ≤ ms) :
    W p l e R s m args below meth c H locs cells slots (vx_MQ below Qc XC args s mc ms free) (F0 m pc ls rest) := by
  intro T hT X
  have htr : e.platform.stackTraces = false := (show e.platform.stackTraces = l.stackTraces by rw [X.admits.platform]).trans hl
  have Y := vx_rebase X (R' := { frames := R.frames, locals := R.locals, cells := 1, slots := 6 }) (Nat.le_refl _) (Nat.le_refl _) hRcells hRslots
  obtain ⟨s', hA⟩ : ∃ z, z = (T.setVm s.vm).setFrames (.invoking m args :: below) := ⟨_, rfl⟩
  rw [← hA] at Y
  have hvm : s'.vm = s.vm := by rw [hA]; rfl
  have hhp : s'.heap = H := by rw [hA]; exact hT
  have hW0 : s.WarmedH s'.vm := by rw [hvm]; exact State.WarmedH.refl s
  have hat' : ∀ w ∈ vx_at0 own ic cls names, w.before args s' = true := fun w hw => vx_ot_at hW0 hvm.symm (hgood w (List.mem_cons_of_mem _ (List.mem_cons_of_mem _ hw))) (hat w hw)
  have hk' : (Cond.classLink own ik cls).before args s' = true := vx_ot_at hW0 hvm.symm (hgood _ List.mem_cons_self) hk
  have hini' : (Cond.initialized cls).before args s' = true := vx_ot_at hW0 hvm.symm (hgood _ (List.mem_cons_of_mem _ List.mem_cons_self)) hini
  have hU' : vx_Zq Bundle.tN "UNASSIGNED_STACK" Bundle.steD A s' s'.heap := by rw [hhp]; exact vx_Zq.moved hW0.alike (hU.kept hS.2.1)
  have hN' : vx_Zq Bundle.tN "SUPPRESSED_SENTINEL" Bundle.listD A s' s'.heap := by rw [hhp]; exact vx_Zq.moved hW0.alike (hN.kept hS.2.1)
  have h : ∀ w ∈ Bundle.ownAtoms0 own ic cls names, w.before args s' = true := vx_own hat' (vx_isRefq hU'.1) (vx_isRefq hN'.1) hU'.2.word hN'.2.word
  have hown' : s'.vm.findClass own = some m.cls := by rw [hvm]; exact hown
  have hins : (Cond.instantiable cls 6).before args s' = true := h _ (by simp [Bundle.ownAtoms0])
  obtain ⟨vm₁, cX, kX, hfX, hkX, -, -, X₁, st1⟩ := Y.newCold hexec (own := own) (C := cls) (index := ik) (n := 6) hown' hk' hins hini'
    (g := F0 m pc ls rest) rfl (by rw [hb]; exact d0) (Nat.le_refl _) (Nat.le_refl _)
  generalize hT1 : (T.setVm vm₁).pushCell { cls := cX, slots := kX.instanceTypes.map defaultValue, vm := .none } = T1 at X₁ st1
  have hcat : (Value.ref T.heap.size).category = 1 := rfl
  have hcellA : T1.heap[T.heap.size]? = some (freshCell cX kX) := by rw [← hT1]; exact State.heap_pushCell_size _ _
  have d3' : decode c.code (pc + 3) = .ok (.dup, 1) := by rw [hb]; exact d3
  obtain ⟨U, hsteps, hrun, hend, hW, hsame, ce, hce, hO⟩ := X₁.ctorThrow0 hexec htr (own := own) (cls := cls) (names := names) (ic := ic) hown' hcls hnames h (fun x hx => nomatch hx) hfX hkX hcellA (by rw [hhp, hT]; exact Nat.le_refl _)
    (g := { method := m, pc := pc + 4, locals := ls, stack := .ref T.heap.size :: .ref T.heap.size :: rest, locked := none }) rfl hsize rfl rfl (rest := rest) rfl
    (by rw [hb]; exact d4) (by rw [hb]; exact d7) hout hRframes (by simp only [List.map_cons, List.sum_cons, hcat]; omega) hlocks
  obtain ⟨f1, f2⟩ := vx_frame hsame
  rw [hhp] at f1 f2
  have hWs : s.WarmedH U.vm := State.WarmedH.trans hW0 hW
  have hcl : s.vm.findClass cls = some ce.cls := by
    have h9 := hO.cls
    rw [hvm] at h9
    exact h9
  have hall : s.sameButNew ({ U with vm := s.vm } : State) locs mc ms := by
    subst hA
    obtain ⟨e1, e2⟩ := hsame
    rw [State.setFrames_setFrames] at e1
    have h2 : (T.setVm s.vm).sameButNew ({ U with vm := s.vm } : State) [] (0 + 1) (0 + 6) := ⟨e1, e2⟩
    have h3 := X.same.trans h2
    rw [List.append_nil] at h3
    exact h3.mono hc hs
  refine ⟨U, ?_, .threw T.heap.size, hrun, hend, Or.inr ⟨T.heap.size, rfl, cls, ce, locs, hx U hWs.alike f1 (fun q hq => f2 q hq (fun z hz => nomatch hz)), hce, hO.vm, hcl, hWs, hall, hf⟩⟩
  refine st1 _ ?_
  show Steps p.tables e below (T1.setTop { method := m, pc := pc + 3, locals := ls, stack := .ref T.heap.size :: rest, locked := none }) _
  jvm_step X₁.here [X₁.here.top, hexec, d3', Value.category]
  exact hsteps
/-- 'throw new E("text")': new; dup; ldc; invokespecial; athrow -/
theorem vx_throwS {cc : ByteArray} {pc : Nat} (hexec : p.tables.exec = Jvm.exec) (hb : c.code = cc) (hl : l.stackTraces = false) {own cls text : String} {names : List String} {ik is ic mc ms sa : Nat} {A : Nat → Prop}
    (hown : s.vm.findClass own = some m.cls) (hcls : Bundle.fit cls = true) (hnames : ∀ n ∈ names, Bundle.fit n = true)
    (hk : (Cond.classLink own ik cls).before args s = true) (hini : (Cond.initialized cls).before args s = true) (hstr : vk_R own is text sa s) (hat : ∀ w ∈ vx_atS own ic cls names, w.before args s = true)
    (hgood : ∀ w ∈ Cond.classLink own ik cls :: Cond.initialized cls :: vx_atS own ic cls names, vx_ot w = true)
    (hU : vx_Zq Bundle.tN "UNASSIGNED_STACK" Bundle.steD A s s.heap) (hN : vx_Zq Bundle.tN "SUPPRESSED_SENTINEL" Bundle.listD A s s.heap) (hS : va_S A s.heap H locs) (hsize : ls.size = c.maxLocals)
    (d0 : decode cc pc = .ok (.new ik, 3)) (d3 : decode cc (pc + 3) = .ok (.dup, 1)) (d4 : decode cc (pc + 4) = .ok (.ldc is, 2)) (d6 : decode cc (pc + 6) = .ok (.invokespecial ic, 3)) (d9 : decode cc (pc + 9) = .ok (.athrow, 1))
    (hout : ∀ x ∈ c.exceptionTable.toList, covers x (pc + 9) = false)
    (hRframes : names.length + 3 < R.frames) (hRlocals : (rest.map fun v => v.category).sum + (13 * (names.length + 1) + 43) ≤ R.locals) (hRcells : cells + 1 ≤ R.cells) (hRslots : slots + 6 ≤ R.slots) (hlocks : meth.locks = false)
    (hx : ∀ t : State, s.vm.Alike t.vm → H.size ≤ t.heap.size → (∀ q : Nat, q < H.size → t.heap[q]? = H[q]?) → XC cls s t)
    (hf : ∀ z ∈ locs, free z.base) (hc : cells + 1 ≤ mc) (hs : slots + 6 ≤ ms) :
    W p l e R s m args below meth c H locs cells slots (vx_MQ below Qc XC args s mc ms free) (F0 m pc ls rest) := by
  intro T hT X
  have htr : e.platform.stackTraces = false := (show e.platform.stackTraces = l.stackTraces by rw [X.admits.platform]).trans hl
  have Y := vx_rebase X (R' := { frames := R.frames, locals := R.locals, cells := 1, slots := 6 }) (Nat.le_refl _) (Nat.le_refl _) hRcells hRslots
  obtain ⟨s', hA⟩ : ∃ z, z = (T.setVm s.vm).setFrames (.invoking m args :: below) := ⟨_, rfl⟩
  rw [← hA] at Y
  have hvm : s'.vm = s.vm := by rw [hA]; rfl
  have hhp : s'.heap = H := by rw [hA]; exact hT
  have hW0 : s.WarmedH s'.vm := by rw [hvm]; exact State.WarmedH.refl s
  have hat' : ∀ w ∈ vx_atS own ic cls names, w.before args s' = true := fun w hw => vx_ot_at hW0 hvm.symm (hgood w (List.mem_cons_of_mem _ (List.mem_cons_of_mem _ hw))) (hat w hw)
  have hk' : (Cond.classLink own ik cls).before args s' = true := vx_ot_at hW0 hvm.symm (hgood _ List.mem_cons_self) hk
  have hini' : (Cond.initialized cls).before args s' = true := vx_ot_at hW0 hvm.symm (hgood _ (List.mem_cons_of_mem _ List.mem_cons_self)) hini
  have hU' : vx_Zq Bundle.tN "UNASSIGNED_STACK" Bundle.steD A s' s'.heap := by rw [hhp]; exact vx_Zq.moved hW0.alike (hU.kept hS.2.1)
  have hN' : vx_Zq Bundle.tN "SUPPRESSED_SENTINEL" Bundle.listD A s' s'.heap := by rw [hhp]; exact vx_Zq.moved hW0.alike (hN.kept hS.2.1)
  have h : ∀ w ∈ Bundle.ownAtoms own ic cls names, w.before args s' = true := vx_own hat' (vx_isRefq hU'.1) (vx_isRefq hN'.1) hU'.2.word hN'.2.word
  have hown' : s'.vm.findClass own = some m.cls := by rw [hvm]; exact hown
  have hins : (Cond.instantiable cls 6).before args s' = true := h _ (by simp [Bundle.ownAtoms])
  obtain ⟨vm₁, cX, kX, hfX, hkX, -, -, X₁, st1⟩ := Y.newCold hexec (own := own) (C := cls) (index := ik) (n := 6) hown' hk' hins hini'
    (g := F0 m pc ls rest) rfl (by rw [hb]; exact d0) (Nat.le_refl _) (Nat.le_refl _)
  generalize hT1 : (T.setVm vm₁).pushCell { cls := cX, slots := kX.instanceTypes.map defaultValue, vm := .none } = T1 at X₁ st1
  have hcat : (Value.ref T.heap.size).category = 1 := rfl
  have hcellA : T1.heap[T.heap.size]? = some (freshCell cX kX) := by rw [← hT1]; exact State.heap_pushCell_size _ _
  have d3' : decode c.code (pc + 3) = .ok (.dup, 1) := by rw [hb]; exact d3
  have d4' : decode c.code (pc + 4) = .ok (.ldc is, 2) := by rw [hb]; exact d4
  have hstr' : vk_R own is text sa s' := vk_R.warm hW0 hstr
  obtain ⟨U, hsteps, hrun, hend, hW, hsame, ce, hce, hO⟩ := X₁.ctorThrowS hexec htr (own := own) (cls := cls) (names := names) (ic := ic) hown' hcls hnames h (fun x hx => nomatch hx) hfX hkX hcellA (by rw [hhp, hT]; exact Nat.le_refl _) (msg := .ref sa) rfl
    (g := { method := m, pc := pc + 6, locals := ls, stack := .ref sa :: .ref T.heap.size :: .ref T.heap.size :: rest, locked := none }) rfl hsize rfl rfl (rest := rest) rfl
    (by rw [hb]; exact d6) (by rw [hb]; exact d9) hout hRframes (by simp only [List.map_cons, List.sum_cons, hcat]; omega) hlocks
  obtain ⟨f1, f2⟩ := vx_frame hsame
  rw [hhp] at f1 f2
  have hWs : s.WarmedH U.vm := State.WarmedH.trans hW0 hW
  have hcl : s.vm.findClass cls = some ce.cls := by
    have h9 := hO.cls
    rw [hvm] at h9
    exact h9
  have hall : s.sameButNew ({ U with vm := s.vm } : State) locs mc ms := by
    subst hA
    obtain ⟨e1, e2⟩ := hsame
    rw [State.setFrames_setFrames] at e1
    have h2 : (T.setVm s.vm).sameButNew ({ U with vm := s.vm } : State) [] (0 + 1) (0 + 6) := ⟨e1, e2⟩
    have h3 := X.same.trans h2
    rw [List.append_nil] at h3
    exact h3.mono hc hs
  refine ⟨U, ?_, .threw T.heap.size, hrun, hend, Or.inr ⟨T.heap.size, rfl, cls, ce, locs, hx U hWs.alike f1 (fun q hq => f2 q hq (fun z hz => nomatch hz)), hce, hO.vm, hcl, hWs, hall, hf⟩⟩
  refine st1 _ ?_
  show Steps p.tables e below (T1.setTop { method := m, pc := pc + 3, locals := ls, stack := .ref T.heap.size :: rest, locked := none }) _
  jvm_step X₁.here [X₁.here.top, hexec, d3', Value.category]
  exact X₁.ldcString hexec (own := own) (text := text) (index := is) (a := sa) hown' hstr'.1 hstr'.2
    (g := { method := m, pc := pc + 4, locals := ls, stack := .ref T.heap.size :: .ref T.heap.size :: rest, locked := none }) rfl d4' _ hsteps
/-- 'throw new E("text")', the text by a wide index -/
theorem vx_throwSW {cc : ByteArray} {pc : Nat} (hexec : p.tables.exec = Jvm.exec) (hb : c.code = cc) (hl : l.stackTraces = false) {own cls text : String} {names : List String} {ik is ic mc ms sa : Nat} {A : Nat → Prop}
    (hown : s.vm.findClass own = some m.cls) (hcls : Bundle.fit cls = true) (hnames : ∀ n ∈ names, Bundle.fit n = true)
    (hk : (Cond.classLink own ik cls).before args s = true) (hini : (Cond.initialized cls).before args s = true) (hstr : vk_R own is text sa s) (hat : ∀ w ∈ vx_atS own ic cls names, w.before args s = true)
    (hgood : ∀ w ∈ Cond.classLink own ik cls :: Cond.initialized cls :: vx_atS own ic cls names, vx_ot w = true)
    (hU : vx_Zq Bundle.tN "UNASSIGNED_STACK" Bundle.steD A s s.heap) (hN : vx_Zq Bundle.tN "SUPPRESSED_SENTINEL" Bundle.listD A s s.heap) (hS : va_S A s.heap H locs) (hsize : ls.size = c.maxLocals)
    (d0 : decode cc pc = .ok (.new ik, 3)) (d3 : decode cc (pc + 3) = .ok (.dup, 1)) (d4 : decode cc (pc + 4) = .ok (.ldc_w is, 3)) (d7 : decode cc (pc + 7) = .ok (.invokespecial ic, 3)) (d10 : decode cc (pc + 10) = .ok (.athrow, 1))
    (hout : ∀ x ∈ c.exceptionTable.toList, covers x (pc + 10) = false)
    (hRframes : names.length + 3 < R.frames) (hRlocals : (rest.map fun v => v.category).sum + (13 * (names.length + 1) + 43) ≤ R.locals) (hRcells : cells + 1 ≤ R.cells) (hRslots : slots + 6 ≤ R.slots) (hlocks : meth.locks = false)
    (hx : ∀ t : State, s.vm.Alike t.vm → H.size ≤ t.heap.size → (∀ q : Nat, q < H.size → t.heap[q]? = H[q]?) → XC cls s t)
    (hf : ∀ z ∈ locs, free z.base) (hc : cells + 1 ≤ mc) (hs : slots + 6 ≤ ms) :
    W p l e R s m args below meth c H locs cells slots (vx_MQ below Qc XC args s mc ms free) (F0 m pc ls rest) := by
  intro T hT X
  have htr : e.platform.stackTraces = false := (show e.platform.stackTraces = l.stackTraces by rw [X.admits.platform]).trans hl
  have Y := vx_rebase X (R' := { frames := R.frames, locals := R.locals, cells := 1, slots := 6 }) (Nat.le_refl _) (Nat.le_refl _) hRcells hRslots
  obtain ⟨s', hA⟩ : ∃ z, z = (T.setVm s.vm).setFrames (.invoking m args :: below) := ⟨_, rfl⟩
  rw [← hA] at Y
  have hvm : s'.vm = s.vm := by rw [hA]; rfl
  have hhp : s'.heap = H := by rw [hA]; exact hT
  have hW0 : s.WarmedH s'.vm := by rw [hvm]; exact State.WarmedH.refl s
  have hat' : ∀ w ∈ vx_atS own ic cls names, w.before args s' = true := fun w hw => vx_ot_at hW0 hvm.symm (hgood w (List.mem_cons_of_mem _ (List.mem_cons_of_mem _ hw))) (hat w hw)
  have hk' : (Cond.classLink own ik cls).before args s' = true := vx_ot_at hW0 hvm.symm (hgood _ List.mem_cons_self) hk
  have hini' : (Cond.initialized cls).before args s' = true := vx_ot_at hW0 hvm.symm (hgood _ (List.mem_cons_of_mem _ List.mem_cons_self)) hini
  have hU' : vx_Zq Bundle.tN "UNASSIGNED_STACK" Bundle.steD A s' s'.heap := by rw [hhp]; exact vx_Zq.moved hW0.alike (hU.kept hS.2.1)
  have hN' : vx_Zq Bundle.tN "SUPPRESSED_SENTINEL" Bundle.listD A s' s'.heap := by rw [hhp]; exact vx_Zq.moved hW0.alike (hN.kept hS.2.1)
  have h : ∀ w ∈ Bundle.ownAtoms own ic cls names, w.before args s' = true := vx_own hat' (vx_isRefq hU'.1) (vx_isRefq hN'.1) hU'.2.word hN'.2.word
  have hown' : s'.vm.findClass own = some m.cls := by rw [hvm]; exact hown
  have hins : (Cond.instantiable cls 6).before args s' = true := h _ (by simp [Bundle.ownAtoms])
  obtain ⟨vm₁, cX, kX, hfX, hkX, -, -, X₁, st1⟩ := Y.newCold hexec (own := own) (C := cls) (index := ik) (n := 6) hown' hk' hins hini'
    (g := F0 m pc ls rest) rfl (by rw [hb]; exact d0) (Nat.le_refl _) (Nat.le_refl _)
  generalize hT1 : (T.setVm vm₁).pushCell { cls := cX, slots := kX.instanceTypes.map defaultValue, vm := .none } = T1 at X₁ st1
  have hcat : (Value.ref T.heap.size).category = 1 := rfl
  have hcellA : T1.heap[T.heap.size]? = some (freshCell cX kX) := by rw [← hT1]; exact State.heap_pushCell_size _ _
  have d3' : decode c.code (pc + 3) = .ok (.dup, 1) := by rw [hb]; exact d3
  have d4' : decode c.code (pc + 4) = .ok (.ldc_w is, 3) := by rw [hb]; exact d4
  have hstr' : vk_R own is text sa s' := vk_R.warm hW0 hstr
  obtain ⟨U, hsteps, hrun, hend, hW, hsame, ce, hce, hO⟩ := X₁.ctorThrowS hexec htr (own := own) (cls := cls) (names := names) (ic := ic) hown' hcls hnames h (fun x hx => nomatch hx) hfX hkX hcellA (by rw [hhp, hT]; exact Nat.le_refl _) (msg := .ref sa) rfl
    (g := { method := m, pc := pc + 7, locals := ls, stack := .ref sa :: .ref T.heap.size :: .ref T.heap.size :: rest, locked := none }) rfl hsize rfl rfl (rest := rest) rfl
    (by rw [hb]; exact d7) (by rw [hb]; exact d10) hout hRframes (by simp only [List.map_cons, List.sum_cons, hcat]; omega) hlocks
  obtain ⟨f1, f2⟩ := vx_frame hsame
  rw [hhp] at f1 f2
  have hWs : s.WarmedH U.vm := State.WarmedH.trans hW0 hW
  have hcl : s.vm.findClass cls = some ce.cls := by
    have h9 := hO.cls
    rw [hvm] at h9
    exact h9
  have hall : s.sameButNew ({ U with vm := s.vm } : State) locs mc ms := by
    subst hA
    obtain ⟨e1, e2⟩ := hsame
    rw [State.setFrames_setFrames] at e1
    have h2 : (T.setVm s.vm).sameButNew ({ U with vm := s.vm } : State) [] (0 + 1) (0 + 6) := ⟨e1, e2⟩
    have h3 := X.same.trans h2
    rw [List.append_nil] at h3
    exact h3.mono hc hs
  refine ⟨U, ?_, .threw T.heap.size, hrun, hend, Or.inr ⟨T.heap.size, rfl, cls, ce, locs, hx U hWs.alike f1 (fun q hq => f2 q hq (fun z hz => nomatch hz)), hce, hO.vm, hcl, hWs, hall, hf⟩⟩
  refine st1 _ ?_
  show Steps p.tables e below (T1.setTop { method := m, pc := pc + 3, locals := ls, stack := .ref T.heap.size :: rest, locked := none }) _
  jvm_step X₁.here [X₁.here.top, hexec, d3', Value.category]
  exact X₁.ldcStringW hexec (own := own) (text := text) (index := is) (a := sa) hown' hstr'.1 hstr'.2
    (g := { method := m, pc := pc + 4, locals := ls, stack := .ref T.heap.size :: .ref T.heap.size :: rest, locked := none }) rfl d4' _ hsteps
end Ends
section Bodies
variable {l : Launch}
theorem vx_ofW {y : MethodName} {ws ws' : List Cond} {rm : Room} {Pc : Array Value → State → Prop} {Qc : Array Value → State → Outcome → State → Prop} {XC : String → State → State → Prop} {mc ms : Nat} {free : Addr → Prop} {cc : ByteArray} {maxL : Nat} {ret : Option FieldType}
    (hy : plainName y.cls = true) (hw : ws = Cond.code y cc maxL ret :: ws')
    (body : ∀ p e s m args below meth c s₁, BodyLoose p l y (headSpec ws rm) cc maxL ret e s m args below meth c s₁ → c.maxLocals = maxL → (∀ x ∈ c.exceptionTable.toList, False) → Pc args s →
      W p l e (headSpec ws rm).room s m args below meth c s.heap [] 0 0 (vx_MQ below Qc XC args s mc ms free) (entryFrame m args maxL)) : vx_Met l y ws rm Pc Qc XC mc ms free := by
  refine MetFree.of_bodyS (code := cc) (maxLocals := maxL) (ret := ret) hy ?_ ?_
  · intro args s m h hn
    obtain ⟨meth, c, h1, h2, h3, h4, h5, h6, -, -⟩ := Cond.code_spec hn (atoms_spec (ws := ws) h _ (by rw [hw]; exact List.mem_cons_self))
    exact ⟨meth, c, h1, h2, h3, h4, h5, h6⟩
  · intro p e s m args below meth c s₁ B hml hP _
    have hh0 : s₁.heap = s.heap := by rw [B.state]; rfl
    have ht : ∀ x ∈ c.exceptionTable.toList, False := by
      obtain ⟨meth9, c9, h1, h2, -, -, -, -, h7, -⟩ := Cond.code_spec B.named (atoms_spec (ws := ws) B.pre _ (by rw [hw]; exact List.mem_cons_self))
      cases Option.some.inj (h1.symm.trans B.method)
      cases Option.some.inj (h2.symm.trans (Stand.of_body B).code)
      intro x hx
      rw [Array.isEmpty_iff.mp h7] at hx
      cases hx
    obtain ⟨t, a1, o, b1, b2, b3⟩ := body p e s m args below meth c s₁ B hml ht hP s₁ hh0 (Stand.of_body B)
    exact ⟨t, o, a1, b1, b2, b3⟩
/-- the table of a body with handlers -/
theorem vx_table {p : Program} {x y : MethodName} {S : Spec} {cc bytes : ByteArray} {maxL maxL' : Nat} {ret ret' : Option FieldType} {e : Env} {s s₁ : State} {m : MethodId} {args : Array Value} {below : List Frame} {meth : Method} {c : Code} {hh : List (Nat × Nat × Nat × Nat)}
    (B : BodyLoose p l y S cc maxL ret e s m args below meth c s₁) (h : (Cond.codeWith y bytes maxL' ret' hh).before args s = true) : c.exceptionTable.toList = tableOf hh := by
  obtain ⟨m9, meth9, c9, hn9, h1, h2, -, -, h6, -⟩ := Cond.codeWith_spec h
  cases Option.some.inj (hn9.symm.trans B.named)
  cases Option.some.inj (h1.symm.trans B.method)
  cases Option.some.inj (h2.symm.trans (Stand.of_body B).code)
  rw [← h6, table_eq]
end Bodies
end VXA
/-! ===== END ===== -/
/-! ===== BEGIN a static call of a method with an exception table ===== -/
section VXS
variable {p : Program} {l : Launch} {e : Env} {R : Room} {s : State} {m : MethodId} {args : Array Value} {below : List Frame} {meth : Method} {c : Code} {T : State} {H : Heap} {locs : List Loc} {cells slots : Nat}
abbrev vx_CSW (R : Room) (s : State) (args : Array Value) (own : String) (index : Nat) (y : MethodName) (bytes : ByteArray) (maxL : Nat) (ret : Option FieldType) (hh : List (Nat × Nat × Nat × Nat)) (ws : List Cond) (rm : Room) (mc ms n : Nat) : Prop :=
  (rm.cells = mc ∧ rm.slots = ms ∧ rm.frames + 1 ≤ R.frames ∧ 8 + (maxL + 11) + rm.locals ≤ R.locals ∧ (∀ w ∈ ws, ∀ (a' : Array Value) (U : State), s.WarmedH U.vm → w.before a' U = true) ∧ Cond.codeWith y bytes maxL ret hh ∈ ws) ∧
  (Cond.codeWith y bytes maxL ret hh).before args s = true ∧ (Cond.initialized y.cls).before args s = true ∧ (y.cls ≠ "java/lang/invoke/MethodHandle" ∧ y.cls ≠ "java/lang/invoke/VarHandle") ∧
  (∀ sig, parseMethodDescriptor y.desc = some sig → n = sig.parameters.length) ∧ (Cond.methodLink own index y).before args s = true ∧ (Cond.static y).before args s = true
theorem vx_cwSW {own : String} {index maxL mc ms : Nat} {y : MethodName} {bytes : ByteArray} {ret : Option FieldType} {hh : List (Nat × Nat × Nat × Nat)} {Ts ws ws' : List Cond} {rm : Room} (n : Nat) (ht : ∀ w ∈ Ts, w.before args s = true) (hT : GoodIn Ts (va_wsS own index y ws)) (hw : ws = Cond.codeWith y bytes maxL ret hh :: ws') (hrc : rm.cells = mc) (hrs : rm.slots = ms)
    (hd : y.cls ≠ "java/lang/invoke/MethodHandle" ∧ y.cls ≠ "java/lang/invoke/VarHandle" ∧ (parseMethodDescriptor y.desc).map (fun d => d.parameters.length) = some n) (hR : rm.frames + 1 ≤ R.frames ∧ 8 + (maxL + 11) + rm.locals ≤ R.locals) :
    vx_CSW R s args own index y bytes maxL ret hh ws rm mc ms n := by
  have ok : ∀ w ∈ va_wsS own index y ws, w.before args s = true := fun w h => ht w (hT w h).1
  have hG : GoodIn Ts ws := fun w h => hT w (by unfold va_wsS; exact List.mem_append_right _ h)
  have hc : Cond.codeWith y bytes maxL ret hh ∈ ws := by rw [hw]; exact List.mem_cons_self
  refine ⟨⟨hrc, hrs, hR.1, hR.2, pay_in ht hG, hc⟩, ht _ (hG _ hc).1, ok _ (by simp [va_wsS]), ⟨hd.1, hd.2.1⟩, fun sig h => ?_, ok _ (by simp [va_wsS]), ok _ (by simp [va_wsS])⟩
  have h2 := hd.2.2
  rw [h] at h2
  exact (Option.some.inj h2).symm
theorem vx_callSW (X : Stand p l e R s m args below meth c T locs cells slots) (hexec : p.tables.exec = Jvm.exec) {own : String} {index : Nat} {y : MethodName} {bytes : ByteArray} {maxL : Nat} {ret : Option FieldType} {hh : List (Nat × Nat × Nat × Nat)}
    (hown : s.vm.findClass own = some m.cls) (hlink : (Cond.methodLink own index y).before args s = true) (hstat : (Cond.static y).before args s = true) (hinit : (Cond.initialized y.cls).before args s = true)
    (hcode : (Cond.codeWith y bytes maxL ret hh).before args s = true) (hy : y.cls ≠ "java/lang/invoke/MethodHandle" ∧ y.cls ≠ "java/lang/invoke/VarHandle")
    {W9 : Nat} {Pre : Pt → Array Value → Prop} {Post : Pt → Array Value → Option Value → Pt → Prop} (hK : Back l R p e below s args y 3 W9 Pre Post)
    {g : JFrame} (hg : g.method = m) (hsize : g.locals.size = c.maxLocals) {argsL rest : List Value} (hlen : ∀ sig, parseMethodDescriptor y.desc = some sig → argsL.length = sig.parameters.length)
    (hstack : g.stack = argsL.reverse ++ rest) (hW : 2 * g.monitorRoom + (rest.map fun v => v.category).sum ≤ W9) (hdg : decode c.code g.pc = .ok (.invokestatic index, 3))
    (hpre : ∀ vm₁, s.WarmedH vm₁ → Pre ⟨T.setVm vm₁, locs, cells, slots⟩ argsL.toArray) :
    ∃ (v : Option Value) (vm₁ : Vm) (B : Pt), s.WarmedH vm₁ ∧ Stand p l e R s m args below meth c B.U B.locs B.cells B.slots ∧ Post ⟨T.setVm vm₁, locs, cells, slots⟩ argsL.toArray v B ∧
      ∀ target, Steps p.tables e below (B.U.setTop { g with pc := g.pc + 3, stack := v.toList ++ rest }) target → Steps p.tables e below (T.setTop g) target := by
  obtain ⟨mk, methM, cM, hnamed, hmethM, -, -, -, -, -, -, hsigM⟩ := Cond.codeWith_spec hcode
  have hstatic : methM.isStatic = true := Cond.static_spec hnamed hmethM hstat
  obtain ⟨kP, hkP, -⟩ := className_of_methodNamed hnamed
  have hinitP : kP.init = .initialized := Cond.initialized_spec (findClass_of_methodNamed hnamed) hkP hinit
  obtain ⟨vm₁, X₁, hstep₁⟩ := X.invokestatic hexec hown hlink hnamed hmethM hstatic hkP hinitP hy (g := g) hg (argsL := argsL) (rest := rest) (hlen _ hsigM) hstack hdg
  obtain ⟨v, B, X', hpost, hsteps⟩ := hK m meth c ⟨T.setVm vm₁, locs, cells, slots⟩ { g with stack := rest } (.invokestatic index) mk argsL.toArray X₁ hg hsize hdg hW (X₁.named hnamed) (hpre vm₁ X₁.warmed)
  exact ⟨v, vm₁, B, X₁.warmed, X', hpost, fun target h => hstep₁ _ fun acts => by rw [doInvoke_state]; exact hsteps.trans h⟩
theorem vx_runSW {y : MethodName} {bytes cc : ByteArray} {maxL nL mc ms n index : Nat} {ret : Option FieldType} {hh : List (Nat × Nat × Nat × Nat)} {ws : List Cond} {rm : Room} {Pc : Array Value → State → Prop} {Qc : Array Value → State → Outcome → State → Prop} {free : Addr → Prop} {Ts : List Cond} {own : String} {As rest : List Value} {g : JFrame}
    (S : CallFix p m c cc nL s args Ts own) (hM : Met l y ws rm Pc Qc mc ms free) (cw : vx_CSW R s args own index y bytes maxL ret hh ws rm mc ms n) (hp : PreS s H Pc As)
    (hg : g.method = m) (hn : As.length = n) (hsize : g.locals.size = nL) (hstack : g.stack = As.reverse ++ rest) (hW : 2 * g.monitorRoom + (rest.map fun v => v.category).sum ≤ 8) (hdg : decode cc g.pc = .ok (.invokestatic index, 3)) (hf : cells + mc ≤ R.cells ∧ slots + ms ≤ R.slots) :
    va_Run p l e R s m args below meth c H locs cells slots mc ms g rest (Qc As.toArray) (free) := by
  obtain ⟨⟨hrc, hrs, hfr, hlo, hws, hcw⟩, hcode, hini, hy, hlen, hl, hstt⟩ := cw
  have hK : Back l R p e below s args y 3 8 (PreOf R mc ms Pc) (PostOf Qc mc ms free) := va_backW (hh := hh) (bytes := bytes) (maxL := maxL) (ret := ret) hM hp.1 hrc hrs hfr hlo hws hcw (fun a' U hW => word_at hW (Or.inl (by first | rfl | simp [Cond.onTables, Cond.keeps, Cond.steady])) hini)
  obtain ⟨hx, hb, hml, ho, -⟩ := S
  intro T hT X
  obtain ⟨v, vm₁, ⟨U', l2, c2, s2⟩, hW₁, X', ⟨g', mk, t, L, e1, e2, hq, h1, hL, h2, h3⟩, st⟩ := vx_callSW X hx (hh := hh) (bytes := bytes) (maxL := maxL) (ret := ret) ho hl hstt hini hcode hy hK hg (hsize.trans hml.symm) (argsL := As) (rest := rest) (fun sig h => hn.trans (hlen sig h)) hstack hW (by rw [hb]; exact hdg)
    (fun vm₁ hW₁ => ⟨hf.1, hf.2, hp.2 (T.setVm vm₁) hT hW₁⟩)
  dsimp only [Pt.U, Pt.locs, Pt.cells, Pt.slots] at X' e1 e2 h1 h2 h3 st
  subst h1; subst h2; subst h3
  exact ⟨v, (T.setVm vm₁).calling g' mk As.toArray, t, U', L, hT, X', hL, e1, e2, hq, st⟩
/-- not caught here, past rows that name other classes: it goes on to the caller -/
theorem vx_outP {p : Program} {l : Launch} {e : Env} {R : Room} {s : State} {m : MethodId} {args : Array Value} {below : List Frame} {meth : Method} {c : Code} {H : Heap} {locs : List Loc} {cells slots : Nat} {free : Addr → Prop} {ls : Array Slot} {rest : List Value} {Qc : Array Value → State → Outcome → State → Prop} {XC : String → State → State → Prop}
    {pc : Nat} {own E : String} {ce : Cell} {q : Addr} {mc ms : Nat} (hown : s.vm.findClass own = some m.cls) (hlocks : meth.locks = false)
    (hpass : ∀ z ∈ c.exceptionTable.toList, covers z pc = false ∨ (z.catchType ≠ 0 ∧ ∃ nm : String, (Cond.classLink own z.catchType nm).before args s = true ∧ va_Nc E nm s)) (hcell : H[q]? = some ce) (hv : ce.vm = .none) (hcl : s.vm.findClass E = some ce.cls)
    (hx : ∀ t : State, t.heap = H → s.vm.Alike t.vm → XC E s t) (hf : ∀ z ∈ locs, free z.base) (hc : cells ≤ mc) (hs : slots ≤ ms) :
    vx_W p l e R s m args below meth c H locs cells slots (vx_MQ below Qc XC args s mc ms free) (F0 m pc ls rest) q := by
  intro T hT X
  have hpl : e.platform.magicAccessors = ({} : Platform).magicAccessors := by rw [X.admits.platform]
  obtain ⟨vm', hW', X', st⟩ := X.outThrough hlocks q (g := F0 m pc ls rest) rfl rfl rfl (cell := ce) (by rw [hT]; exact hcell) (by rw [hv]; rfl)
    (by obtain ⟨k9, h9, -⟩ := Vm.findClass_spec hcl; exact ⟨k9, h9⟩) (fun z hz => by
      rcases hpass z hz with h | ⟨hz0, nm, hl1, hn1⟩
      · exact Or.inl h
      · obtain ⟨c6, hc6, hcl6⟩ := Cond.classLink_spec hown hl1 e.platform hpl
        obtain ⟨a8, b8, h1, h2, h3⟩ := hn1
        cases Option.some.inj (h1.symm.trans hcl)
        cases Option.some.inj (h2.symm.trans hc6)
        exact Or.inr ⟨hz0, _, hcl6, h3⟩)
  obtain ⟨g₀, hfr⟩ := X'.frames_eq
  have hcell9 : ((T.setVm vm').setFrames (.throwing q :: below)).heap[q]? = some ce := by
    show T.heap[q]? = some ce
    rw [hT]; exact hcell
  have hend : Ended ((T.setVm vm').setFrames (.throwing q :: below)) below (.threw q) := State.frames_setFrames _ (State.cur_lt_of_frames hfr)
  refine ⟨(T.setVm vm').setFrames (.throwing q :: below), ?_, .threw q, X'.here.running, hend, Or.inr ⟨q, rfl, E, ce, locs, hx _ hT (X'.ends _).1.alike, hcell9, hv, hcl, (X'.ends _).1, (X'.ends _).2.mono hc hs, hf⟩⟩
  rw [X.pushThrowing_eq]
  exact st
/-- a thing of a world lies in the heap -/
theorem vx_lt {D : va_G} {cl : List vw_C} {ws : va_W} {H1 : Heap} (h : va_P D cl ws H1) {k : Nat} {q : Nat × va_E} (hk : ws[k]? = some q) : q.1 < H1.size := (h k q hk).lt
end VXS
/-! ===== END ===== -/
/-! ===== BEGIN methods with a table of their own: called by a name, returning or throwing ===== -/
section VXH
/-! vx_backW, vx_callVX, vx_callSX, vx_callVW, vx_runVW, vx_runVX, vx_runSX, vx_ofWH follow the same proofs as their sisters above (Free/Laws.lean, Shelf42/LK1.lean); vx_outP calls Shelf42/NT130.lean (outThrough). -/
section
variable {l : Launch} {R : Room} {p : Program} {e : Env} {below : List Frame} {s : State} {sargs : Array Value} {y : MethodName} {len W9 : Nat}
theorem vx_backW {ws : List Cond} {rm : Room} {Pc : Array Value → State → Prop} {Qc : Array Value → State → Outcome → State → Prop} {XC : String → State → State → Prop} {mc ms : Nat} {free : Addr → Prop} {bytes : ByteArray} {maxL : Nat} {ret : Option FieldType} {hh : List (Nat × Nat × Nat × Nat)}
    (hM : vx_Met l y ws rm Pc Qc XC mc ms free) (hblind : FrameBlind Pc) (hrc : rm.cells = mc) (hrs : rm.slots = ms)
    (hframes : rm.frames + 1 ≤ R.frames) (hlocals : W9 + (maxL + 11) + rm.locals ≤ R.locals)
    (hws : ∀ w ∈ ws, ∀ a' U, s.WarmedH U.vm → w.before a' U = true) (hcode : Cond.codeWith y bytes maxL ret hh ∈ ws) (hinit : ∀ a' U, s.WarmedH U.vm → (Cond.initialized y.cls).before a' U = true) :
    vx_Back l R p e below s sargs y len W9 (PreOf R mc ms Pc) (PostOf Qc mc ms free) (vx_Post XC mc ms free) := by
  intro m meth c A g ig mk a X hg hsize hdg hW hn hp
  have h1 : (headSpec ws rm).pre.before a A.U = true := atoms_intro fun w hw => hws w hw _ _ X.warmed
  have h2 : (Cond.codeWith y bytes maxL ret hh).before a A.U = true := hws _ hcode _ _ X.warmed
  have h3 : (Cond.initialized y.cls).before a A.U = true := hinit _ _ X.warmed
  have h4 : A.cells + (headSpec ws rm).room.cells ≤ R.cells := by rw [show (headSpec ws rm).room.cells = mc from hrc]; exact hp.1
  have h5 : A.slots + (headSpec ws rm).room.slots ≤ R.slots := by rw [show (headSpec ws rm).room.slots = ms from hrs]; exact hp.2.1
  have hPc : Pc a (A.U.calling g mk a) := hblind _ _ _ _ hp.2.2
  obtain ⟨U, Ls, c0, s0⟩ := A
  dsimp only [Pt.U, Pt.locs, Pt.cells, Pt.slots] at h1 h2 h3 h4 h5 X hn hPc ⊢
  obtain ⟨m9, methY, cY, hn9, hmY, hcY, -, hlY, -⟩ := Cond.codeWith_spec h2
  cases Option.some.inj (hn9.symm.trans hn)
  obtain ⟨kY, hkY, -⟩ := className_of_methodNamed hn
  have hinitY : kY.init = .initialized := Cond.initialized_spec (findClass_of_methodNamed hn) hkY h3
  have h : At U g.method c below := by rw [hg]; exact X.here
  have hlocals9 : W9 + (maxL + 11) + (headSpec ws rm).room.locals ≤ R.locals := hlocals
  have happ : (headSpec ws rm).appliesLoose y e.platform (U.calling g mk a) = true :=
    Spec.appliesLoose_calling (g := g) h hdg hn hkY hinitY
      (X.room_calling (g := g) (R' := (headSpec ws rm).room) hsize hmY hcY hframes (by rw [hlY]; omega) h4 h5) h1
  obtain ⟨mid, hmid⟩ := h.above
  have hfr : (U.setTop g).frames = (.java g :: mid) ++ below := by rw [State.frames_setTop' g h.top, hmid]; rfl
  obtain ⟨o, s₂, hsteps, -, hend, hq⟩ := Steps.callFree hM p X.admits X.cas X.clock (acts := []) hfr happ hPc trivial
  have hq' : vx_Q Qc XC mc ms free a (U.calling g mk a) o s₂ := hq
  rw [State.frames_setTop' g h.top] at hend
  obtain ⟨g₀, hg0⟩ := Option.isSome_iff_exists.mp h.top
  obtain ⟨r, hr⟩ := State.topJava?_eq_some.mp hg0
  have hr' : (({ U with heap := s₂.heap, slotsUsed := s₂.slotsUsed } : State).setVm s₂.vm).frames = .java g₀ :: r := hr
  rcases hq' with ⟨hqc, L, hfe, hL⟩ | ⟨q, rfl, E, ce, L, hx, hce, hcv, hcl, hW₂, hsm, hL⟩
  · obtain ⟨⟨v, rfl⟩, hW₂, e2, q2, q3, q4, q5, q6⟩ := id hfe
    have e3 : s₂ = ({ (U.calling g mk a).setFrames s₂.frames with heap := s₂.heap, slotsUsed := s₂.slotsUsed } : State).setVm s₂.vm := by
      have : s₂ = ({ s₂ with vm := (U.calling g mk a).vm } : State).setVm s₂.vm := rfl
      rw [e2] at this
      exact this
    obtain ⟨c₂, i₂, len₂, hc₂, hd₂, hf₂⟩ := hend
    have hW' : U.WarmedH s₂.vm := hW₂
    have hcc : c₂ = c := by
      have h1 : s₂.code? g.method = U.code? g.method := by
        rw [State.code?_eq, State.code?_eq, hW'.alike.method?]
      exact Option.some.inj (hc₂.symm.trans (h1.trans h.code))
    subst hcc
    have hlen : len₂ = len := by rw [hdg] at hd₂; cases hd₂; rfl
    subst hlen
    have hs₂ : s₂ = (({ U with heap := s₂.heap, slotsUsed := s₂.slotsUsed } : State).setVm s₂.vm).setTop { g with pc := g.pc + len₂, stack := v.toList ++ g.stack } := by
      refine e3.trans ?_
      rw [hf₂, State.calling_eq h.top, State.setFrames_setFrames, State.setTop_of_frames _ hr', hr]
      rfl
    have hsame : U.sameButNew ({ U with heap := s₂.heap, slotsUsed := s₂.slotsUsed } : State) L mc ms := by
      refine ⟨?_, q2, q3, q4, q5, q6⟩
      obtain ⟨t, ht, -⟩ := State.frames_cons hr
      show ({ U with heap := s₂.heap, slotsUsed := s₂.slotsUsed } : State) = { U.setFrames U.frames with heap := s₂.heap, slotsUsed := s₂.slotsUsed }
      rw [State.setFrames_self ht]
    subst hg
    refine Or.inl ⟨v, ⟨(({ U with heap := s₂.heap, slotsUsed := s₂.slotsUsed } : State).setVm s₂.vm), Ls ++ L, c0 + mc, s0 + ms⟩,
      ⟨X.admits, X.cas, X.clock, X.frames, X.room, X.hears, X.method, X.code, (X.here.setHeapUsed s₂.heap s₂.slotsUsed).setVm hW'.alike, X.tail, State.WarmedH.trans X.warmed hW', X.limits, X.bytes, X.same.trans (hsame.setVm s.vm)⟩,
      ⟨g, mk, s₂, L, rfl, rfl, hqc, rfl, hL, rfl, rfl⟩, ?_⟩
    show Steps p.tables e below _ ((({ U with heap := s₂.heap, slotsUsed := s₂.slotsUsed } : State).setVm s₂.vm).setTop { g with pc := g.pc + len₂, stack := v.toList ++ g.stack })
    rw [← hs₂]
    exact hsteps
  · obtain ⟨e2, q2, q3, q4, q5, q6⟩ := id hsm
    have e3 : s₂ = ({ (U.calling g mk a).setFrames s₂.frames with heap := s₂.heap, slotsUsed := s₂.slotsUsed } : State).setVm s₂.vm := by
      have : s₂ = ({ s₂ with vm := (U.calling g mk a).vm } : State).setVm s₂.vm := rfl
      rw [e2] at this
      exact this
    have hf₂ : s₂.frames = .throwing q :: .java g :: U.frames.tail := hend
    have hW' : U.WarmedH s₂.vm := hW₂
    have hs₂ : s₂ = ((({ U with heap := s₂.heap, slotsUsed := s₂.slotsUsed } : State).setVm s₂.vm).setTop g).pushFrame (.throwing q) := by
      refine e3.trans ?_
      rw [hf₂, State.calling_eq h.top, State.setFrames_setFrames, State.pushFrame, State.frames_setTop _ hr', State.setTop_of_frames _ hr', State.setFrames_setFrames, hr]
      rfl
    have hsame : U.sameButNew ({ U with heap := s₂.heap, slotsUsed := s₂.slotsUsed } : State) L mc ms := by
      refine ⟨?_, q2, q3, q4, q5, q6⟩
      obtain ⟨t, ht, -⟩ := State.frames_cons hr
      show ({ U with heap := s₂.heap, slotsUsed := s₂.slotsUsed } : State) = { U.setFrames U.frames with heap := s₂.heap, slotsUsed := s₂.slotsUsed }
      rw [State.setFrames_self ht]
    subst hg
    refine Or.inr ⟨q, ⟨(({ U with heap := s₂.heap, slotsUsed := s₂.slotsUsed } : State).setVm s₂.vm), Ls ++ L, c0 + mc, s0 + ms⟩,
      ⟨X.admits, X.cas, X.clock, X.frames, X.room, X.hears, X.method, X.code, (X.here.setHeapUsed s₂.heap s₂.slotsUsed).setVm hW'.alike, X.tail, State.WarmedH.trans X.warmed hW', X.limits, X.bytes, X.same.trans (hsame.setVm s.vm)⟩,
      ⟨g, mk, s₂, L, E, ce, rfl, rfl, hx, hce, hcv, hcl, rfl, hL, rfl, rfl⟩, ?_⟩
    show Steps p.tables e below _ (((({ U with heap := s₂.heap, slotsUsed := s₂.slotsUsed } : State).setVm s₂.vm).setTop g).pushFrame (.throwing q))
    rw [← hs₂]
    exact hsteps
end
variable {p : Program} {l : Launch} {e : Env} {R : Room} {s : State} {m : MethodId} {args : Array Value} {below : List Frame} {meth : Method} {c : Code} {T : State} {H : Heap} {locs : List Loc} {cells slots : Nat}
theorem vx_callVX (X : Stand p l e R s m args below meth c T locs cells slots) (hexec : p.tables.exec = Jvm.exec) {own C : String} {index : Nat} {y : MethodName} {bytes : ByteArray} {maxL : Nat} {ret : Option FieldType} {hh : List (Nat × Nat × Nat × Nat)}
    (hown : s.vm.findClass own = some m.cls) (hlink : (Cond.methodLink own index y).before args s = true) (hinst : (Cond.instanceMethod y).before args s = true) (hsel : (Cond.selects C y y).before args s = true)
    (hcode : (Cond.codeWith y bytes maxL ret hh).before args s = true) (hy : y.cls ≠ "java/lang/invoke/MethodHandle" ∧ y.cls ≠ "java/lang/invoke/VarHandle")
    {W9 : Nat} {Pre : Pt → Array Value → Prop} {Post : Pt → Array Value → Option Value → Pt → Prop} {PostX : Pt → Array Value → Addr → Pt → Prop} (hK : vx_Back l R p e below s args y 3 W9 Pre Post PostX)
    {b : Addr} {cellB : Cell} (hcell : T.heap[b]? = some cellB) (hobj : cellB.vm.isStatics = false) (hcls : s.vm.findClass C = some cellB.cls)
    {g : JFrame} (hg : g.method = m) (hsize : g.locals.size = c.maxLocals) {argsL rest : List Value} (hlen : ∀ sig, parseMethodDescriptor y.desc = some sig → argsL.length = sig.parameters.length)
    (hstack : g.stack = argsL.reverse ++ .ref b :: rest) (hW : 2 * g.monitorRoom + (rest.map fun v => v.category).sum ≤ W9) (hdg : decode c.code g.pc = .ok (.invokevirtual index, 3))
    (hpre : ∀ vm₁, s.WarmedH vm₁ → Pre ⟨T.setVm vm₁, locs, cells, slots⟩ (Value.ref b :: argsL).toArray) :
    (∃ (v : Option Value) (vm₁ : Vm) (B : Pt), s.WarmedH vm₁ ∧ Stand p l e R s m args below meth c B.U B.locs B.cells B.slots ∧ Post ⟨T.setVm vm₁, locs, cells, slots⟩ (Value.ref b :: argsL).toArray v B ∧
      ∀ target, Steps p.tables e below (B.U.setTop { g with pc := g.pc + 3, stack := v.toList ++ rest }) target → Steps p.tables e below (T.setTop g) target) ∨
    (∃ (q : Addr) (vm₁ : Vm) (B : Pt), s.WarmedH vm₁ ∧ Stand p l e R s m args below meth c B.U B.locs B.cells B.slots ∧ PostX ⟨T.setVm vm₁, locs, cells, slots⟩ (Value.ref b :: argsL).toArray q B ∧
      Steps p.tables e below (T.setTop g) ((B.U.setTop { g with stack := rest }).pushFrame (.throwing q))) := by
  obtain ⟨mk, methM, hnamed, hmethM, hstM, habM⟩ := Cond.instanceMethod_spec hinst
  obtain ⟨m8, methM', cM, hn8, hmethM', -, -, -, -, -, -, hsigM⟩ := Cond.codeWith_spec hcode
  cases Option.some.inj (hn8.symm.trans hnamed)
  cases hmethM.symm.trans hmethM'
  obtain ⟨c2, r2, m2, q1, q2, q3, q4, kP, hkP, hkPi⟩ := Cond.selects_spec hsel
  cases hcls.symm.trans q1
  cases (State.methodFound?_of_named hnamed hy).symm.trans q2
  cases hnamed.symm.trans q3
  have hselP : selectMethod e.platform s.vm cellB.cls mk = .method mk := by rw [Launch.admits_selectMethod X.admits]; exact q4
  obtain ⟨vm₁, X₁, hstep₁⟩ := X.invokevirtual hexec hown hlink hnamed hmethM hstM hkP hkPi hy (a := b) (cell := cellB) hcell
    (fun z h => by rw [h] at hobj; cases hobj) hselP hmethM habM hkP hkPi (g := g) hg (argsL := argsL) (rest := rest) (hlen _ hsigM) hstack hdg
  rcases hK m meth c ⟨T.setVm vm₁, locs, cells, slots⟩ { g with stack := rest } (.invokevirtual index) mk (Value.ref b :: argsL).toArray X₁ hg hsize hdg hW (X₁.named hnamed) (hpre vm₁ X₁.warmed) with ⟨v, B, X', hpost, hsteps⟩ | ⟨q, B, X', hpost, hsteps⟩
  · exact Or.inl ⟨v, vm₁, B, X₁.warmed, X', hpost, fun target h => hstep₁ _ fun acts => by rw [doInvoke_state]; exact hsteps.trans h⟩
  · exact Or.inr ⟨q, vm₁, B, X₁.warmed, X', hpost, hstep₁ _ fun acts => by rw [doInvoke_state]; exact hsteps⟩
theorem vx_callSX (X : Stand p l e R s m args below meth c T locs cells slots) (hexec : p.tables.exec = Jvm.exec) {own : String} {index : Nat} {y : MethodName} {bytes : ByteArray} {maxL : Nat} {ret : Option FieldType} {hh : List (Nat × Nat × Nat × Nat)}
    (hown : s.vm.findClass own = some m.cls) (hlink : (Cond.methodLink own index y).before args s = true) (hstat : (Cond.static y).before args s = true) (hinit : (Cond.initialized y.cls).before args s = true)
    (hcode : (Cond.codeWith y bytes maxL ret hh).before args s = true) (hy : y.cls ≠ "java/lang/invoke/MethodHandle" ∧ y.cls ≠ "java/lang/invoke/VarHandle")
    {W9 : Nat} {Pre : Pt → Array Value → Prop} {Post : Pt → Array Value → Option Value → Pt → Prop} {PostX : Pt → Array Value → Addr → Pt → Prop} (hK : vx_Back l R p e below s args y 3 W9 Pre Post PostX)
    {g : JFrame} (hg : g.method = m) (hsize : g.locals.size = c.maxLocals) {argsL rest : List Value} (hlen : ∀ sig, parseMethodDescriptor y.desc = some sig → argsL.length = sig.parameters.length)
    (hstack : g.stack = argsL.reverse ++ rest) (hW : 2 * g.monitorRoom + (rest.map fun v => v.category).sum ≤ W9) (hdg : decode c.code g.pc = .ok (.invokestatic index, 3))
    (hpre : ∀ vm₁, s.WarmedH vm₁ → Pre ⟨T.setVm vm₁, locs, cells, slots⟩ argsL.toArray) :
    (∃ (v : Option Value) (vm₁ : Vm) (B : Pt), s.WarmedH vm₁ ∧ Stand p l e R s m args below meth c B.U B.locs B.cells B.slots ∧ Post ⟨T.setVm vm₁, locs, cells, slots⟩ argsL.toArray v B ∧
      ∀ target, Steps p.tables e below (B.U.setTop { g with pc := g.pc + 3, stack := v.toList ++ rest }) target → Steps p.tables e below (T.setTop g) target) ∨
    (∃ (q : Addr) (vm₁ : Vm) (B : Pt), s.WarmedH vm₁ ∧ Stand p l e R s m args below meth c B.U B.locs B.cells B.slots ∧ PostX ⟨T.setVm vm₁, locs, cells, slots⟩ argsL.toArray q B ∧
      Steps p.tables e below (T.setTop g) ((B.U.setTop { g with stack := rest }).pushFrame (.throwing q))) := by
  obtain ⟨mk, methM, cM, hnamed, hmethM, -, -, -, -, -, -, hsigM⟩ := Cond.codeWith_spec hcode
  have hstatic : methM.isStatic = true := Cond.static_spec hnamed hmethM hstat
  obtain ⟨kP, hkP, -⟩ := className_of_methodNamed hnamed
  have hinitP : kP.init = .initialized := Cond.initialized_spec (findClass_of_methodNamed hnamed) hkP hinit
  obtain ⟨vm₁, X₁, hstep₁⟩ := X.invokestatic hexec hown hlink hnamed hmethM hstatic hkP hinitP hy (g := g) hg (argsL := argsL) (rest := rest) (hlen _ hsigM) hstack hdg
  rcases hK m meth c ⟨T.setVm vm₁, locs, cells, slots⟩ { g with stack := rest } (.invokestatic index) mk argsL.toArray X₁ hg hsize hdg hW (X₁.named hnamed) (hpre vm₁ X₁.warmed) with ⟨v, B, X', hpost, hsteps⟩ | ⟨q, B, X', hpost, hsteps⟩
  · exact Or.inl ⟨v, vm₁, B, X₁.warmed, X', hpost, fun target h => hstep₁ _ fun acts => by rw [doInvoke_state]; exact hsteps.trans h⟩
  · exact Or.inr ⟨q, vm₁, B, X₁.warmed, X', hpost, hstep₁ _ fun acts => by rw [doInvoke_state]; exact hsteps⟩
theorem vx_callVW (X : Stand p l e R s m args below meth c T locs cells slots) (hexec : p.tables.exec = Jvm.exec) {own C : String} {index : Nat} {y : MethodName} {bytes : ByteArray} {maxL : Nat} {ret : Option FieldType} {hh : List (Nat × Nat × Nat × Nat)}
    (hown : s.vm.findClass own = some m.cls) (hlink : (Cond.methodLink own index y).before args s = true) (hinst : (Cond.instanceMethod y).before args s = true) (hsel : (Cond.selects C y y).before args s = true)
    (hcode : (Cond.codeWith y bytes maxL ret hh).before args s = true) (hy : y.cls ≠ "java/lang/invoke/MethodHandle" ∧ y.cls ≠ "java/lang/invoke/VarHandle")
    {W9 : Nat} {Pre : Pt → Array Value → Prop} {Post : Pt → Array Value → Option Value → Pt → Prop} (hK : Back l R p e below s args y 3 W9 Pre Post)
    {b : Addr} {cellB : Cell} (hcell : T.heap[b]? = some cellB) (hobj : cellB.vm.isStatics = false) (hcls : s.vm.findClass C = some cellB.cls)
    {g : JFrame} (hg : g.method = m) (hsize : g.locals.size = c.maxLocals) {argsL rest : List Value} (hlen : ∀ sig, parseMethodDescriptor y.desc = some sig → argsL.length = sig.parameters.length)
    (hstack : g.stack = argsL.reverse ++ .ref b :: rest) (hW : 2 * g.monitorRoom + (rest.map fun v => v.category).sum ≤ W9) (hdg : decode c.code g.pc = .ok (.invokevirtual index, 3))
    (hpre : ∀ vm₁, s.WarmedH vm₁ → Pre ⟨T.setVm vm₁, locs, cells, slots⟩ (Value.ref b :: argsL).toArray) :
    ∃ (v : Option Value) (vm₁ : Vm) (B : Pt), s.WarmedH vm₁ ∧ Stand p l e R s m args below meth c B.U B.locs B.cells B.slots ∧ Post ⟨T.setVm vm₁, locs, cells, slots⟩ (Value.ref b :: argsL).toArray v B ∧
      ∀ target, Steps p.tables e below (B.U.setTop { g with pc := g.pc + 3, stack := v.toList ++ rest }) target → Steps p.tables e below (T.setTop g) target := by
  obtain ⟨mk, methM, hnamed, hmethM, hstM, habM⟩ := Cond.instanceMethod_spec hinst
  obtain ⟨m8, methM', cM, hn8, hmethM', -, -, -, -, -, -, hsigM⟩ := Cond.codeWith_spec hcode
  cases Option.some.inj (hn8.symm.trans hnamed)
  cases hmethM.symm.trans hmethM'
  obtain ⟨c2, r2, m2, q1, q2, q3, q4, kP, hkP, hkPi⟩ := Cond.selects_spec hsel
  cases hcls.symm.trans q1
  cases (State.methodFound?_of_named hnamed hy).symm.trans q2
  cases hnamed.symm.trans q3
  have hselP : selectMethod e.platform s.vm cellB.cls mk = .method mk := by rw [Launch.admits_selectMethod X.admits]; exact q4
  obtain ⟨vm₁, X₁, hstep₁⟩ := X.invokevirtual hexec hown hlink hnamed hmethM hstM hkP hkPi hy (a := b) (cell := cellB) hcell
    (fun z h => by rw [h] at hobj; cases hobj) hselP hmethM habM hkP hkPi (g := g) hg (argsL := argsL) (rest := rest) (hlen _ hsigM) hstack hdg
  obtain ⟨v, B, X', hpost, hsteps⟩ := hK m meth c ⟨T.setVm vm₁, locs, cells, slots⟩ { g with stack := rest } (.invokevirtual index) mk (Value.ref b :: argsL).toArray X₁ hg hsize hdg hW (X₁.named hnamed) (hpre vm₁ X₁.warmed)
  exact ⟨v, vm₁, B, X₁.warmed, X', hpost, fun target h => hstep₁ _ fun acts => by rw [doInvoke_state]; exact hsteps.trans h⟩
abbrev vx_CVW (R : Room) (s : State) (args : Array Value) (own C : String) (index : Nat) (y : MethodName) (bytes : ByteArray) (maxL : Nat) (ret : Option FieldType) (hh : List (Nat × Nat × Nat × Nat)) (ws : List Cond) (rm : Room) (mc ms n : Nat) : Prop :=
  (rm.cells = mc ∧ rm.slots = ms ∧ rm.frames + 1 ≤ R.frames ∧ 8 + (maxL + 11) + rm.locals ≤ R.locals ∧ (∀ w ∈ ws, ∀ (a' : Array Value) (U : State), s.WarmedH U.vm → w.before a' U = true) ∧ Cond.codeWith y bytes maxL ret hh ∈ ws) ∧
  (Cond.codeWith y bytes maxL ret hh).before args s = true ∧ (Cond.initialized y.cls).before args s = true ∧ (y.cls ≠ "java/lang/invoke/MethodHandle" ∧ y.cls ≠ "java/lang/invoke/VarHandle") ∧
  (∀ sig, parseMethodDescriptor y.desc = some sig → n = sig.parameters.length) ∧ (Cond.methodLink own index y).before args s = true ∧ (Cond.instanceMethod y).before args s = true ∧ (Cond.selects C y y).before args s = true
theorem vx_cwVW {own C : String} {index maxL mc ms : Nat} {y : MethodName} {bytes : ByteArray} {ret : Option FieldType} {hh : List (Nat × Nat × Nat × Nat)} {Ts ws ws' : List Cond} {rm : Room} (n : Nat) (ht : ∀ w ∈ Ts, w.before args s = true) (hT : GoodIn Ts (wsV own index C y ws)) (hw : ws = Cond.codeWith y bytes maxL ret hh :: ws') (hrc : rm.cells = mc) (hrs : rm.slots = ms)
    (hd : y.cls = C ∧ y.cls ≠ "java/lang/invoke/MethodHandle" ∧ y.cls ≠ "java/lang/invoke/VarHandle" ∧ (parseMethodDescriptor y.desc).map (fun d => d.parameters.length) = some n) (hR : rm.frames + 1 ≤ R.frames ∧ 8 + (maxL + 11) + rm.locals ≤ R.locals) :
    vx_CVW R s args own C index y bytes maxL ret hh ws rm mc ms n := by
  obtain ⟨hC, hd⟩ := hd
  subst hC
  have ok : ∀ w ∈ wsV own index y.cls y ws, w.before args s = true := fun w h => ht w (hT w h).1
  have hG : GoodIn Ts ws := fun w h => hT w (by unfold wsV; exact List.mem_append_right _ h)
  have hc : Cond.codeWith y bytes maxL ret hh ∈ ws := by rw [hw]; exact List.mem_cons_self
  refine ⟨⟨hrc, hrs, hR.1, hR.2, pay_in ht hG, hc⟩, ht _ (hG _ hc).1, ok _ (by simp [wsV]), ⟨hd.1, hd.2.1⟩, fun sig h => ?_, ok _ (by simp [wsV]), ok _ (by simp [wsV]), ok _ (by simp [wsV])⟩
  have h2 := hd.2.2
  rw [h] at h2
  exact (Option.some.inj h2).symm
theorem vx_runVW {y : MethodName} {bytes cc : ByteArray} {maxL nL mc ms n index : Nat} {ret : Option FieldType} {hh : List (Nat × Nat × Nat × Nat)} {ws : List Cond} {rm : Room} {Pc : Array Value → State → Prop} {Qc : Array Value → State → Outcome → State → Prop} {free : Addr → Prop} {Ts : List Cond} {own C : String} {b : Addr} {As rest : List Value} {g : JFrame}
    (S : CallFix p m c cc nL s args Ts own) (hM : Met l y ws rm Pc Qc mc ms free) (cw : vx_CVW R s args own C index y bytes maxL ret hh ws rm mc ms n) (hp : PreV s H C b Pc As)
    (hg : g.method = m) (hn : As.length = n) (hsize : g.locals.size = nL) (hstack : g.stack = As.reverse ++ .ref b :: rest) (hW : 2 * g.monitorRoom + (rest.map fun v => v.category).sum ≤ 8) (hdg : decode cc g.pc = .ok (.invokevirtual index, 3)) (hf : cells + mc ≤ R.cells ∧ slots + ms ≤ R.slots) :
    va_Run p l e R s m args below meth c H locs cells slots mc ms g rest (Qc (Value.ref b :: As).toArray) free := by
  obtain ⟨⟨hrc, hrs, hfr, hlo, hws, hcw⟩, hcode, hini, hy, hlen, hl, hin, hse⟩ := cw
  have hK : Back l R p e below s args y 3 8 (PreOf R mc ms Pc) (PostOf Qc mc ms free) := va_backW (hh := hh) (bytes := bytes) (maxL := maxL) (ret := ret) hM hp.1 hrc hrs hfr hlo hws hcw (fun a' U hW => word_at hW (Or.inl (by first | rfl | simp [Cond.onTables, Cond.keeps, Cond.steady])) hini)
  obtain ⟨hx, hb, hml, ho, -⟩ := S
  obtain ⟨-, ⟨cellB, hcB, hoB, hclB⟩, hPc⟩ := hp
  intro T hT X
  obtain ⟨v, vm₁, ⟨U', l2, c2, s2⟩, hW₁, X', ⟨g', mk, t, L, e1, e2, hq, h1, hL, h2, h3⟩, st⟩ := vx_callVW X hx (C := C) (hh := hh) (bytes := bytes) (maxL := maxL) (ret := ret) ho hl hin hse hcode hy hK (by rw [hT]; exact hcB) hoB hclB hg (hsize.trans hml.symm) (argsL := As) (rest := rest) (fun sig h => hn.trans (hlen sig h)) hstack hW (by rw [hb]; exact hdg)
    (fun vm₁ hW₁ => ⟨hf.1, hf.2, hPc (T.setVm vm₁) hT hW₁⟩)
  dsimp only [Pt.U, Pt.locs, Pt.cells, Pt.slots] at X' e1 e2 h1 h2 h3 st
  subst h1; subst h2; subst h3
  exact ⟨v, (T.setVm vm₁).calling g' mk (Value.ref b :: As).toArray, t, U', L, hT, X', hL, e1, e2, hq, st⟩
section
variable {y : MethodName} {bytes cc : ByteArray} {maxL nL mc ms n index : Nat} {ret : Option FieldType} {ws : List Cond} {rm : Room} {Pc : Array Value → State → Prop} {Qc : Array Value → State → Outcome → State → Prop} {XC : String → State → State → Prop} {free : Addr → Prop} {Ts : List Cond} {own C : String} {b : Addr} {As rest : List Value} {g : JFrame}
theorem vx_runVX {hh : List (Nat × Nat × Nat × Nat)} (S : CallFix p m c cc nL s args Ts own) (hM : vx_Met l y ws rm Pc Qc XC mc ms free) (cw : vx_CVW R s args own C index y bytes maxL ret hh ws rm mc ms n) (hp : PreV s H C b Pc As)
    (hg : g.method = m) (hn : As.length = n) (hsize : g.locals.size = nL) (hstack : g.stack = As.reverse ++ .ref b :: rest) (hW : 2 * g.monitorRoom + (rest.map fun v => v.category).sum ≤ 8) (hdg : decode cc g.pc = .ok (.invokevirtual index, 3)) (hf : cells + mc ≤ R.cells ∧ slots + ms ≤ R.slots) :
    vx_Run p l e R s m args below meth c H locs cells slots mc ms g rest (Qc (Value.ref b :: As).toArray) XC free := by
  obtain ⟨⟨hrc, hrs, hfr, hlo, hws, hcw⟩, hcode, hini, hy, hlen, hl, hin, hse⟩ := cw
  have hK : vx_Back l R p e below s args y 3 8 (PreOf R mc ms Pc) (PostOf Qc mc ms free) (vx_Post XC mc ms free) := vx_backW (hh := hh) (bytes := bytes) (maxL := maxL) (ret := ret) hM hp.1 hrc hrs hfr hlo hws hcw (fun a' U hW => word_at hW (Or.inl (by first | rfl | simp [Cond.onTables, Cond.keeps, Cond.steady])) hini)
  obtain ⟨hx, hb, hml, ho, -⟩ := S
  obtain ⟨-, ⟨cellB, hcB, hoB, hclB⟩, hPc⟩ := hp
  intro T hT X
  rcases vx_callVX X hx (C := C) (hh := hh) (bytes := bytes) (maxL := maxL) (ret := ret) ho hl hin hse hcode hy hK (by rw [hT]; exact hcB) hoB hclB hg (hsize.trans hml.symm) (argsL := As) (rest := rest) (fun sig h => hn.trans (hlen sig h)) hstack hW (by rw [hb]; exact hdg)
    (fun vm₁ hW₁ => ⟨hf.1, hf.2, hPc (T.setVm vm₁) hT hW₁⟩) with ⟨v, vm₁, ⟨U', l2, c2, s2⟩, hW₁, X', ⟨g', mk, t, L, e1, e2, hq, h1, hL, h2, h3⟩, st⟩ | ⟨q, vm₁, ⟨U', l2, c2, s2⟩, hW₁, X', ⟨g', mk, t, L, E, ce, e1, e2, hq, hce, hcv, hcl, h1, hL, h2, h3⟩, st⟩
  · dsimp only [Pt.U, Pt.locs, Pt.cells, Pt.slots] at X' e1 e2 h1 h2 h3 st
    subst h1; subst h2; subst h3
    exact Or.inl ⟨v, (T.setVm vm₁).calling g' mk (Value.ref b :: As).toArray, t, U', L, hT, X', hL, e1, e2, hq, st⟩
  · dsimp only [Pt.U, Pt.locs, Pt.cells, Pt.slots] at X' e1 e2 h1 h2 h3 st hcl
    subst h1; subst h2; subst h3
    exact Or.inr ⟨q, (T.setVm vm₁).calling g' mk (Value.ref b :: As).toArray, t, U', L, E, ce, hT, X', hL, e1, e2, hq, hce, hcv, vx_cls hW₁ hcl, st⟩
theorem vx_runSX {hh : List (Nat × Nat × Nat × Nat)} (S : CallFix p m c cc nL s args Ts own) (hM : vx_Met l y ws rm Pc Qc XC mc ms free) (cw : vx_CSW R s args own index y bytes maxL ret hh ws rm mc ms n) (hp : PreS s H Pc As)
    (hg : g.method = m) (hn : As.length = n) (hsize : g.locals.size = nL) (hstack : g.stack = As.reverse ++ rest) (hW : 2 * g.monitorRoom + (rest.map fun v => v.category).sum ≤ 8) (hdg : decode cc g.pc = .ok (.invokestatic index, 3)) (hf : cells + mc ≤ R.cells ∧ slots + ms ≤ R.slots) :
    vx_Run p l e R s m args below meth c H locs cells slots mc ms g rest (Qc As.toArray) XC free := by
  obtain ⟨⟨hrc, hrs, hfr, hlo, hws, hcw⟩, hcode, hini, hy, hlen, hl, hstt⟩ := cw
  have hK : vx_Back l R p e below s args y 3 8 (PreOf R mc ms Pc) (PostOf Qc mc ms free) (vx_Post XC mc ms free) := vx_backW (hh := hh) (bytes := bytes) (maxL := maxL) (ret := ret) hM hp.1 hrc hrs hfr hlo hws hcw (fun a' U hW => word_at hW (Or.inl (by first | rfl | simp [Cond.onTables, Cond.keeps, Cond.steady])) hini)
  obtain ⟨hx, hb, hml, ho, -⟩ := S
  intro T hT X
  rcases vx_callSX X hx (hh := hh) (bytes := bytes) (maxL := maxL) (ret := ret) ho hl hstt hini hcode hy hK hg (hsize.trans hml.symm) (argsL := As) (rest := rest) (fun sig h => hn.trans (hlen sig h)) hstack hW (by rw [hb]; exact hdg)
    (fun vm₁ hW₁ => ⟨hf.1, hf.2, hp.2 (T.setVm vm₁) hT hW₁⟩) with ⟨v, vm₁, ⟨U', l2, c2, s2⟩, hW₁, X', ⟨g', mk, t, L, e1, e2, hq, h1, hL, h2, h3⟩, st⟩ | ⟨q, vm₁, ⟨U', l2, c2, s2⟩, hW₁, X', ⟨g', mk, t, L, E, ce, e1, e2, hq, hce, hcv, hcl, h1, hL, h2, h3⟩, st⟩
  · dsimp only [Pt.U, Pt.locs, Pt.cells, Pt.slots] at X' e1 e2 h1 h2 h3 st
    subst h1; subst h2; subst h3
    exact Or.inl ⟨v, (T.setVm vm₁).calling g' mk As.toArray, t, U', L, hT, X', hL, e1, e2, hq, st⟩
  · dsimp only [Pt.U, Pt.locs, Pt.cells, Pt.slots] at X' e1 e2 h1 h2 h3 st hcl
    subst h1; subst h2; subst h3
    exact Or.inr ⟨q, (T.setVm vm₁).calling g' mk As.toArray, t, U', L, E, ce, hT, X', hL, e1, e2, hq, hce, hcv, vx_cls hW₁ hcl, st⟩
end
end VXH
theorem vx_ofWH {l : Launch} {y : MethodName} {ws ws' : List Cond} {rm : Room} {Pc : Array Value → State → Prop} {Qc : Array Value → State → Outcome → State → Prop} {XC : String → State → State → Prop} {mc ms : Nat} {free : Addr → Prop} {cc : ByteArray} {maxL : Nat} {ret : Option FieldType} {hh : List (Nat × Nat × Nat × Nat)}
    (hy : plainName y.cls = true) (hw : ws = Cond.codeWith y cc maxL ret hh :: ws')
    (body : ∀ p e s m args below meth c s₁, BodyLoose p l y (headSpec ws rm) cc maxL ret e s m args below meth c s₁ → c.maxLocals = maxL → Pc args s →
      W p l e (headSpec ws rm).room s m args below meth c s.heap [] 0 0 (vx_MQ below Qc XC args s mc ms free) (entryFrame m args maxL)) : vx_Met l y ws rm Pc Qc XC mc ms free := by
  refine MetFree.of_bodyS (code := cc) (maxLocals := maxL) (ret := ret) hy ?_ ?_
  · intro args s m h hn
    obtain ⟨m9, meth, c, hn9, h1, h2, h3, h4, -, h5, h6, -⟩ := Cond.codeWith_spec (atoms_spec (ws := ws) h _ (by rw [hw]; exact List.mem_cons_self))
    cases hn.symm.trans hn9
    exact ⟨meth, c, h1, h2, h3, h4, h5, h6⟩
  · intro p e s m args below meth c s₁ B hml hP _
    have hh0 : s₁.heap = s.heap := by rw [B.state]; rfl
    obtain ⟨t, a1, o, b1, b2, b3⟩ := body p e s m args below meth c s₁ B hml hP s₁ hh0 (Stand.of_body B)
    exact ⟨t, o, a1, b1, b2, b3⟩
/-! ===== END ===== -/
/-! ===== BEGIN what the machine throws by itself, no traces kept ===== -/
section VXM
set_option maxHeartbeats 1000000 in
/-- the machine throws cls with the message text, no traces kept: from its note over the frame g to 'throwing' over the same frame (follows the proofs of Stand.vmThrowsMessage, Shelf/KitTracedVmS.lean, and Stand.throwsMessageColdBareV, StandMessageColdV.lean, without the step out of the frame) -/
theorem vx_vmAt {p : Program} {l : Launch} {e : Env} {R : Room} {s : State} {m₀ : MethodId} {args : Array Value} {below : List Frame} {meth : Method} {c : Code} {W : State} {locs : List Loc} {cells slots : Nat}
    (X : Stand p l e R s m₀ args below meth c W locs cells slots) (hexec : p.tables.exec = Jvm.exec) (htr : e.platform.stackTraces = false) {cls : String} {names : List String} {text : String}
    (hcls : Bundle.fit cls = true) (hnames : ∀ n ∈ names, Bundle.fit n = true) (hsoe : (cls == "java/lang/StackOverflowError") = false) (hoom : (cls == "java/lang/OutOfMemoryError") = false)
    (h : ∀ a ∈ Bundle.messageArmAtoms cls names, a.before args s = true)
    (hlocs : ∀ x ∈ locs, ∀ cell, s.heap[x.base]? = some cell → cell.vm.isStatics = false)
    (htext : (text == notModelled) = false) (hlimit : ¬ (stringBytes (stringToUtf16 text)).size > e.platform.arrayLengthLimit) (hheap : ¬ (stringBytes (stringToUtf16 text)).size * componentBytes .byte > e.platform.maxHeapBytes)
    {g : JFrame} (hg : g.method = m₀) (hsize : g.locals.size = c.maxLocals)
    (hRframes : names.length + 4 < R.frames) (hRlocals : 2 * g.monitorRoom + (g.stack.map fun v => v.category).sum + 10240 ≤ R.locals) (hshort : 13 * names.length + 55 ≤ 10240)
    (hRcells : cells + 3 ≤ R.cells) (hRslots : slots + ((stringBytes (stringToUtf16 text)).size + 4 + 6) ≤ R.slots) (hlocks : meth.locks = false) :
    ∃ (S : State) (q : Addr) (ce : Cell), (∀ target, Steps p.tables e below ((S.setTop g).pushFrame (.throwing q)) target → Steps p.tables e below ((W.setTop g).pushFrame (.throwNew cls (some text) none)) target) ∧
      Stand p l e R s m₀ args below meth c S locs (cells + 3) (slots + ((stringBytes (stringToUtf16 text)).size + 4 + 6)) ∧ S.heap[q]? = some ce ∧ s.vm.findClass cls = some ce.cls ∧ ce.vm = .none := by
  have howns : e.platform.frameOwnsMonitors = true := by rw [X.admits.platform]
  have hfin : e.platform.finalization = false := by rw [X.admits.platform]
  have hpl : e.platform.magicAccessors = ({} : Platform).magicAccessors := by rw [X.admits.platform]
  have a : ∀ x, x ∈ Bundle.messageArmAtoms cls names → x.holds args s none s [] = true := fun x hx => h x hx
  obtain ⟨T, Z0, L, -, Y⟩ := ThrowableC.of_atoms (args := args) howns hfin hpl (fun x hx => h x (by simp [Bundle.messageArmAtoms, hx]))
  obtain ⟨Z, M, LZ, LM, hnZ⟩ := Init0T.ofS_atoms (args := args) hpl L Y (fun x hx => h x (by simp [Bundle.messageArmAtoms, hx]))
  obtain ⟨P1, Ps, hlen, L1, hL, hP1m, hlink1, hlink⟩ := Bundle.chainS (args := args) hpl hnZ names cls hcls hnames (fun x hx => h x (by simp [Bundle.messageArmAtoms, hx]))
  obtain ⟨Zs, LZs, hn4, hfitv, hfitc⟩ := StringT.of_atoms (args := args) (fun x hx => h x (by simp [Bundle.messageArmAtoms, hx]))
  have hfound : s.vm.findClass cls = some P1.m.cls := findClass_of_methodNamed hP1m
  obtain ⟨c1, kX, hc1, hk, hord, -, -, hn6⟩ := Cond.instantiable_spec (a (.instantiable cls 6) (by simp [Bundle.messageArmAtoms]))
  cases Option.some.inj (hc1.symm.trans hfound)
  have hinit := Cond.initialized_spec hfound hk (a (.initialized cls) (by simp [Bundle.messageArmAtoms]))
  have hctor : kX.findMethod "<init>" "(Ljava/lang/String;)V" = some P1.m.idx := findMethod_of_methodNamed hP1m hk
  have hsel0 : selectMethod e.platform s.vm P1.m.cls T.fill0 = .method T.fill0 := by
    obtain ⟨c2, r2, m2, q1, q2, q3, q4, -⟩ := Cond.selects_spec (a (.selects cls Bundle.tFill0 Bundle.tFill0) (by simp [Bundle.messageArmAtoms]))
    cases Option.some.inj (q1.symm.trans hfound)
    cases Option.some.inj (q2.symm.trans (State.methodFound?_of_named Y.fill0 (by decide)))
    cases Option.some.inj (q3.symm.trans Y.fill0)
    rw [Launch.admits_selectMethod X.admits]; exact q4
  have hselF : selectMethod e.platform s.vm P1.m.cls T.fill = .method T.fill := by
    obtain ⟨c2, r2, m2, q1, q2, q3, q4, -⟩ := Cond.selects_spec (a (.selects cls Bundle.tFill Bundle.tFill) (by simp [Bundle.messageArmAtoms]))
    cases Option.some.inj (q1.symm.trans hfound)
    cases Option.some.inj (q2.symm.trans (State.methodFound?_of_named Y.fill (by decide)))
    cases Option.some.inj (q3.symm.trans Y.fill)
    rw [Launch.admits_selectMethod X.admits]; exact q4
  obtain ⟨cellS0, hcS0, hiss⟩ := Y.statics
  obtain ⟨u0, hu0⟩ := Cond.staticRefV Y.unassigned L.unassignedStatic L.statics hcS0 hiss (a (.isRef (.static Bundle.tN "UNASSIGNED_STACK" Bundle.steD)) (by simp [Bundle.messageArmAtoms]))
  obtain ⟨sen, hsen⟩ := Cond.staticRefV Y.sentinel L.sentinelStatic L.statics hcS0 hiss (a (.isRef (.static Bundle.tN "SUPPRESSED_SENTINEL" Bundle.listD)) (by simp [Bundle.messageArmAtoms]))
  obtain ⟨ci198, i198, fB, hk198, hg198, ha198, hsB, -, hnB, htB, hffB⟩ := Cond.ownField (t := .object "java/lang/Object") Y.found L.cls (by decide +kernel) (a (.fieldLink Bundle.tN 198 Bundle.tN "backtrace" "Ljava/lang/Object;") (by simp [Bundle.messageArmAtoms])) (a (.lays Bundle.tN Bundle.tN "backtrace" "Ljava/lang/Object;") (by simp [Bundle.messageArmAtoms])) e.platform hpl
  obtain ⟨cellS, hcS', heS, -, hkeep⟩ := X.same.2.2.2.2.2 T.aS cellS0 hcS0
  have hcellS : W.heap[T.aS]? = some cellS := hcS'
  have hout' : ∀ i, (⟨T.aS, i⟩ : Loc) ∉ locs := fun i hmem => by
    have := hlocs _ hmem cellS0 hcS0
    rw [hiss] at this; cases this
  have hknownS : cellS.vm ≠ .unknown := by
    rw [heS]; intro hu
    rw [show cellS0.vm = .unknown from hu] at hiss
    cases hiss
  have hvU : cellS.slots[T.fUnassigned.slot]? = some u0.v := by rw [hkeep _ (hout' _)]; exact hu0
  have hvSen : cellS.slots[T.fSentinel.slot]? = some sen.v := by rw [hkeep _ (hout' _)]; exact hsen
  obtain ⟨iM, hffM⟩ := Y.msg
  obtain ⟨tyC, dC, hdC, hdnC⟩ := Cond.laysAt hfound hk Y.cause (a (.lays cls Bundle.tN "cause" "Ljava/lang/Throwable;") (by simp [Bundle.messageArmAtoms]))
  obtain ⟨tyS, dS, hdS, hdnS⟩ := Cond.laysAt hfound hk Y.stack (a (.lays cls Bundle.tN "stackTrace" Bundle.steD) (by simp [Bundle.messageArmAtoms]))
  obtain ⟨tyP, dP, hdP, hdnP⟩ := Cond.laysAt hfound hk Y.supp (a (.lays cls Bundle.tN "suppressedExceptions" Bundle.listD) (by simp [Bundle.messageArmAtoms]))
  obtain ⟨tyM, dM, hdM, hdnM⟩ := Cond.laysAt hfound hk hffM (a (.lays cls Bundle.tN "detailMessage" "Ljava/lang/String;") (by simp [Bundle.messageArmAtoms]))
  obtain ⟨tyB, dB, hdB, hdnB⟩ := Cond.laysAt hfound hk hffB (a (.lays cls Bundle.tN "backtrace" "Ljava/lang/Object;") (by simp [Bundle.messageArmAtoms]))
  have bC := Cond.laysApart hdB hdC hdnB hdnC (by rw [hnB, Y.causeName]; decide)
  have bS := Cond.laysApart hdB hdS hdnB hdnS (by rw [hnB, Y.stackName]; decide)
  have bP := Cond.laysApart hdB hdP hdnB hdnP (by rw [hnB, Y.suppName]; decide)
  have hbk : ((preparedCellV T.toThrowableT (freshCell P1.m.cls kX) (W.heap.size + 2) u0 sen).withEntry W.cur).slots[fB.slot]? = some .null := by
    have := fresh_default (c := P1.m.cls) tyB
    rw [htB] at this
    simpa [preparedCellV, Cell.setSlot, Cell.withEntry, Array.getElem?_setIfInBounds, bC, bS, bP, bC.symm, bS.symm, bP.symm, defaultValue] using this
  have tkC := Takes.of_laid (v := .ref (W.heap.size + 2)) hk hord tyC (by rw [Y.causeType]; rfl)
  have tkS := Takes.of_laid (v := u0.v) hk hord tyS (by rw [Y.stackType]; exact fits_refV_array _ u0)
  have tkP := Takes.of_laid (v := sen.v) hk hord tyP (by rw [Y.suppType]; exact fits_refV_object _ sen)
  have tkM := Takes.of_laid (v := .ref (W.heap.size + 1)) hk hord tyM (by rw [Y.msgType]; rfl)
  have hskip : SkipFacts T e.platform s (fun u => u) u0 ((preparedCellV T.toThrowableT (freshCell P1.m.cls kX) (W.heap.size + 2) u0 sen).withEntry W.cur) := ⟨{ ci198 := ci198, i198 := i198, fBack := fB }, ⟨hk198, hg198, ha198, hsB⟩, hbk, fun _ _ => rfl⟩
  have h0 : At W g.method c below := by rw [hg]; exact X.here
  obtain ⟨hbeyond, hfreeW⟩ := X.vmMayThrow hsize (.throwNew cls (some text) none) (fun f hf => by cases hf) rfl hRlocals
  have hfr' : W.frames.length + Ps.length + 4 < (e.platform.stackLimits W.me).1 := by have := X.framesAbove hRframes; omega
  have hwd' : (stackUse (.java g :: W.frames.tail)).2 + 13 * Ps.length + 55 ≤ (e.platform.stackLimits W.me).2 := by have := X.stackAbove hsize (K := 13 * Ps.length + 55) (by omega); omega
  have hslots : W.slotsUsed + (stringBytes (stringToUtf16 text)).size + Zs.kS.instanceTypes.size + kX.instanceTypes.size ≤ e.platform.maxSlots := by
    have := X.slotsAbove hRslots
    rw [hn4, hn6]
    omega
  obtain ⟨vm', hW', st⟩ := Steps.vmThrowsMessageColdByV p (s₀ := s) (S := W) (g := g) h0 hexec T L Z LZ M LM X.warmed (t := W.cur) rfl Zs LZs P1 L1 Ps hL hlink1 hlink hsoe hoom hfound hk hinit hord hctor
    (Launch.admits_hotImplicitExceptions X.admits) hbeyond hfreeW htext hlimit hheap (X.cellsAbove hRcells) hslots (hfitv _) (hfitc _)
    (Nn := fun u => u) heapOnly_id (fun _ _ => rfl) (fun _ => rfl) (fun u x y => setCell_twice _ _ _ _) (fun _ => Nat.le_refl _) (cN := ((preparedCellV T.toThrowableT (freshCell P1.m.cls kX) (W.heap.size + 2) u0 sen).withEntry W.cur))
    hsel0 hcellS hknownS hvU tkS (fun _ hu => hu) (fun _ hu => hu) rfl rfl rfl (by simp [preparedCellV, Cell.setSlot, Cell.withEntry]) hskip (fun _ _ hA hW _ hroom _ hrest => L.nativeOff p htr hA hW hroom hrest) hselF hvSen tkC tkP tkM Y.objLocals rfl hfr' hwd'
  rw [plainBareV_eq T.toThrowableT (W.heap.size + 2) u0 sen (.ref (W.heap.size + 1)) W.cur rfl rfl] at st
  obtain ⟨-, -, w3, w4, -, -, -⟩ := withThrown_facts e.platform W Zs text P1.m.cls kX
  have X3 := ((X.pushed (bytesOf Zs.cB (stringToUtf16 text))).pushed (stringAt Zs.cS Zs.kS Zs.fv Zs.fc (stringToUtf16 text) W.heap.size)).pushed (freshCell P1.m.cls kX)
  rw [← withString_eq] at X3
  have X4 := X3.noted hW'
  have ha : (W.heap.size + 2) < ((withThrown W Zs text P1.m.cls kX).setVm vm').heap.size := by show _ < (withThrown W Zs text P1.m.cls kX).heap.size; rw [w3]; omega
  have hcell : ((withThrown W Zs text P1.m.cls kX).setVm vm').heap[(W.heap.size + 2)]? = some (freshCell P1.m.cls kX) := w4
  have X5 := ((((X4.stored hcell T.fCause.slot (.ref (W.heap.size + 2))).storedAgain ha T.fStack.slot u0.v).storedAgain ha T.fSupp.slot sen.v).storedAgain ha T.fStack.slot u0.v).storedAgain ha T.fMsg.slot (.ref (W.heap.size + 1))
  obtain ⟨g₁, hfrM⟩ := X5.frames_eq
  have hU : ((((withThrown W Zs text P1.m.cls kX).setVm vm').setCell (W.heap.size + 2) (plainBareV T.toThrowableT (freshCell P1.m.cls kX) (W.heap.size + 2) u0 sen (.ref (W.heap.size + 1)))).setTop g).pushFrame (.throwing (W.heap.size + 2)) = (((withThrown W Zs text P1.m.cls kX).setVm vm').setCell (W.heap.size + 2) (plainBareV T.toThrowableT (freshCell P1.m.cls kX) (W.heap.size + 2) u0 sen (.ref (W.heap.size + 1)))).setFrames (.throwing (W.heap.size + 2) :: .java g :: below) := by
    rw [State.pushFrame, State.frames_setTop _ hfrM, State.setTop_of_frames _ hfrM, State.setFrames_setFrames]
  have b1 : (bytesOf Zs.cB (stringToUtf16 text)).slots.size = (stringBytes (stringToUtf16 text)).size := by
    rw [(Cell.writeAll_facts _ _).2.2]; simp [bytes0]
  have b2 : (stringAt Zs.cS Zs.kS Zs.fv Zs.fc (stringToUtf16 text) W.heap.size).slots.size = 4 := by simp [string0, Cell.setSlot, hn4]
  have b3 : (freshCell P1.m.cls kX).slots.size = 6 := by simp [hn6]
  rw [b1, b2, b3] at X5
  have e9 : slots + (stringBytes (stringToUtf16 text)).size + 4 + 6 = slots + ((stringBytes (stringToUtf16 text)).size + 4 + 6) := by omega
  rw [e9] at X5
  simp only [List.append_assoc, List.cons_append, List.nil_append] at X5
  refine ⟨((withThrown W Zs text P1.m.cls kX).setVm vm').setCell (W.heap.size + 2) (plainBareV T.toThrowableT (freshCell P1.m.cls kX) (W.heap.size + 2) u0 sen (.ref (W.heap.size + 1))), W.heap.size + 2, _, fun target ht => st _ (by rw [X.tail, ← hU]; exact ht),
    X5.forget (fun y hy => ?_), heapAt_setCell_self _ ha, hfound, rfl⟩
  simp only [List.mem_cons, List.not_mem_nil, or_false] at hy
  have hge : s.heap.size ≤ W.heap.size := X.same.2.1
  rcases hy with rfl | rfl | rfl | rfl | rfl <;> exact Nat.le_trans hge (Nat.le_add_right _ 2)
set_option maxHeartbeats 1000000 in
/-- the machine throws NullPointerException, no traces kept: from its note over the frame g to 'throwing' over the same frame (follows the proof of Stand.vmThrowsNpe, Shelf42/KT2.lean; throwsNpeColdBareVAt, Shelf42/NT91.lean, called) -/
theorem vx_npeAt {p : Program} {l : Launch} {e : Env} {R : Room} {s : State} {m₀ : MethodId} {args : Array Value} {below : List Frame} {meth : Method} {c : Code} {W : State} {locs : List Loc} {cells slots : Nat}
    (X : Stand p l e R s m₀ args below meth c W locs cells slots) (hexec : p.tables.exec = Jvm.exec) (htr : e.platform.stackTraces = false) {n : Nat}
    (h : ∀ a ∈ Bundle.npeArmAtoms n, a.before args s = true)
    (hlocs : ∀ x ∈ locs, ∀ cell, s.heap[x.base]? = some cell → cell.vm.isStatics = false)
    {g : JFrame} (hg : g.method = m₀) (hsize : g.locals.size = c.maxLocals)
    (hRframes : 7 < R.frames) (hRlocals : 2 * g.monitorRoom + (g.stack.map fun v => v.category).sum + 10240 ≤ R.locals)
    (hRcells : cells + 1 ≤ R.cells) (hRslots : slots + n ≤ R.slots) (hlocks : meth.locks = false) :
    ∃ (S : State) (q : Addr) (ce : Cell), (∀ target, Steps p.tables e below ((S.setTop g).pushFrame (.throwing q)) target → Steps p.tables e below ((W.setTop g).pushFrame (.throwNew "java/lang/NullPointerException" none none)) target) ∧
      Stand p l e R s m₀ args below meth c S locs (cells + 1) (slots + n) ∧ S.heap[q]? = some ce ∧ s.vm.findClass "java/lang/NullPointerException" = some ce.cls ∧ ce.vm = .none := by
  have howns : e.platform.frameOwnsMonitors = true := by rw [X.admits.platform]
  have hfin : e.platform.finalization = false := by rw [X.admits.platform]
  have hpl : e.platform.magicAccessors = ({} : Platform).magicAccessors := by rw [X.admits.platform]
  have hpl2 : e.platform.arrayCloneIsPublic = true := by rw [X.admits.platform]
  have a' : ∀ x, x ∈ Bundle.npeArmAtoms n → x.holds args s none s [] = true := fun x hx => h x hx
  obtain ⟨T, Z, L, LZ, Y⟩ := ThrowableC.of_atoms (args := args) howns hfin hpl (fun x hx => h x (by simp [Bundle.npeArmAtoms, hx]))
  obtain ⟨N, LN, hcN, hnNF, hordN, hffS⟩ := NpeC.of_atoms (args := args) hpl hpl2 L Y (fun x hx => h x (by simp [Bundle.npeArmAtoms, hx]))
  obtain ⟨P1, L1, hP1m, hP1s⟩ := PassC.of_atoms (args := args) (s := s) hpl (X := Bundle.nN) (Y := Bundle.rN) (by decide) (by decide) LibCode.NullPointerException.Init0.at_0 LibCode.NullPointerException.Init0.at_1 LibCode.NullPointerException.Init0.at_4 (fun x hx => h x (by simp [Bundle.npeArmAtoms, hx]))
  obtain ⟨PR, LR, hPRm, hPRs⟩ := PassC.of_atoms (args := args) (s := s) hpl (X := Bundle.rN) (Y := Bundle.eN) (by decide) (by decide) LibCode.RuntimeException.Init0.at_0 LibCode.RuntimeException.Init0.at_1 LibCode.RuntimeException.Init0.at_4 (fun x hx => h x (by simp [Bundle.npeArmAtoms, hx]))
  obtain ⟨PE, LEx, hPEm, hPEs⟩ := PassC.of_atoms (args := args) (s := s) hpl (X := Bundle.eN) (Y := Bundle.tN) (by decide) (by decide) LibCode.Exception.Init0.at_0 LibCode.Exception.Init0.at_1 LibCode.Exception.Init0.at_4 (fun x hx => h x (by simp [Bundle.npeArmAtoms, hx]))
  have hfound : s.vm.findClass Bundle.nN = some P1.m.cls := findClass_of_methodNamed hP1m
  have ecls : N.cN = P1.m.cls := Option.some.inj (hcN.symm.trans hfound)
  have hk : s.vm.classes[P1.m.cls]? = some N.kN := by rw [← ecls]; exact LN.cls
  have hinit := Cond.initialized_spec hfound hk (a' (.initialized Bundle.nN) (by simp [Bundle.npeArmAtoms]))
  have hctor : N.kN.findMethod "<init>" "()V" = some P1.m.idx := findMethod_of_methodNamed hP1m hk
  obtain ⟨c1, k1, hc1, hk1, -, -, -, hn⟩ := Cond.instantiable_spec (a' (.instantiable Bundle.nN n) (by simp [Bundle.npeArmAtoms]))
  cases Option.some.inj (hc1.symm.trans hfound)
  cases Option.some.inj (hk1.symm.trans hk)
  have hfsz : (freshCell P1.m.cls N.kN).slots.size = n := by simp [hn]
  have hlink1 : P1.sup = PR.m := Option.some.inj (hP1s.symm.trans hPRm)
  have hlinkR : PR.sup = PE.m := Option.some.inj (hPRs.symm.trans hPEm)
  have hlinkE : PE.sup = Z.m T.toThrowableT := Option.some.inj (hPEs.symm.trans Y.init0)
  have hLs : ∀ P, P ∈ [PR, PE] → P.Links0 e.platform s := fun P hP => by
    simp only [List.mem_cons, List.not_mem_nil, or_false] at hP
    rcases hP with rfl | rfl
    · exact LR
    · exact LEx
  have hsel0 : selectMethod e.platform s.vm P1.m.cls T.fill0 = .method T.fill0 := by
    obtain ⟨c2, r2, m2, q1, q2, q3, q4, -⟩ := Cond.selects_spec (a' (.selects Bundle.nN Bundle.tFill0 Bundle.tFill0) (by simp [Bundle.npeArmAtoms]))
    cases Option.some.inj (q1.symm.trans hfound)
    cases Option.some.inj (q2.symm.trans (State.methodFound?_of_named Y.fill0 (by decide)))
    cases Option.some.inj (q3.symm.trans Y.fill0)
    rw [Launch.admits_selectMethod X.admits]; exact q4
  have hselF : selectMethod e.platform s.vm P1.m.cls T.fill = .method N.fill := by
    obtain ⟨c2, r2, m2, q1, q2, q3, q4, -⟩ := Cond.selects_spec (a' (.selects Bundle.nN Bundle.tFill Bundle.nFill) (by simp [Bundle.npeArmAtoms]))
    cases Option.some.inj (q1.symm.trans hfound)
    cases Option.some.inj (q2.symm.trans (State.methodFound?_of_named Y.fill (by decide)))
    cases Option.some.inj (q3.symm.trans hnNF)
    rw [Launch.admits_selectMethod X.admits]; exact q4
  obtain ⟨cellS0, hcS0, hiss⟩ := Y.statics
  obtain ⟨u0, hu0⟩ := Cond.staticRefV Y.unassigned L.unassignedStatic L.statics hcS0 hiss (a' (.isRef (.static Bundle.tN "UNASSIGNED_STACK" Bundle.steD)) (by simp [Bundle.npeArmAtoms]))
  obtain ⟨sen, hsen⟩ := Cond.staticRefV Y.sentinel L.sentinelStatic L.statics hcS0 hiss (a' (.isRef (.static Bundle.tN "SUPPRESSED_SENTINEL" Bundle.listD)) (by simp [Bundle.npeArmAtoms]))
  obtain ⟨ci198, i198, fB, hk198, hg198, ha198, hsB, -, hnB, htB, hffB⟩ := Cond.ownField (t := .object "java/lang/Object") Y.found L.cls (by decide +kernel) (a' (.fieldLink Bundle.tN 198 Bundle.tN "backtrace" Bundle.objD) (by simp [Bundle.npeArmAtoms])) (a' (.lays Bundle.tN Bundle.tN "backtrace" Bundle.objD) (by simp [Bundle.npeArmAtoms])) e.platform hpl
  obtain ⟨cellS, hcS', heS, -, hkeep⟩ := X.same.2.2.2.2.2 T.aS cellS0 hcS0
  have hcellS : W.heap[T.aS]? = some cellS := hcS'
  have hout' : ∀ i, (⟨T.aS, i⟩ : Loc) ∉ locs := fun i hmem => by
    have := hlocs _ hmem cellS0 hcS0
    rw [hiss] at this; cases this
  have hknownS : cellS.vm ≠ .unknown := by
    rw [heS]; intro hu
    rw [show cellS0.vm = .unknown from hu] at hiss
    cases hiss
  have hvU : cellS.slots[T.fUnassigned.slot]? = some u0.v := by rw [hkeep _ (hout' _)]; exact hu0
  have hvSen : cellS.slots[T.fSentinel.slot]? = some sen.v := by rw [hkeep _ (hout' _)]; exact hsen
  obtain ⟨tyC, dC, hdC, hdnC⟩ := Cond.laysAt hfound hk Y.cause (a' (.lays Bundle.nN Bundle.tN "cause" "Ljava/lang/Throwable;") (by simp [Bundle.npeArmAtoms]))
  obtain ⟨tyS, dS, hdS, hdnS⟩ := Cond.laysAt hfound hk Y.stack (a' (.lays Bundle.nN Bundle.tN "stackTrace" Bundle.steD) (by simp [Bundle.npeArmAtoms]))
  obtain ⟨tyP, dP, hdP, hdnP⟩ := Cond.laysAt hfound hk Y.supp (a' (.lays Bundle.nN Bundle.tN "suppressedExceptions" Bundle.listD) (by simp [Bundle.npeArmAtoms]))
  obtain ⟨tyX, dX, hdX, hdnX⟩ := Cond.laysAt hfound hk hffS (a' (.lays Bundle.nN Bundle.nN "extendedMessageState" "I") (by simp [Bundle.npeArmAtoms, Bundle.npeAtoms]))
  obtain ⟨hnX, htX⟩ := State.fieldFound?_type hffS (t := .int) (by decide +kernel)
  have xC := Cond.laysApart hdC hdX hdnC hdnX (by rw [hnX, Y.causeName]; decide)
  have xS := Cond.laysApart hdS hdX hdnS hdnX (by rw [hnX, Y.stackName]; decide)
  have xP := Cond.laysApart hdP hdX hdnP hdnX (by rw [hnX, Y.suppName]; decide)
  have hv0 : (freshCell P1.m.cls N.kN).slots[N.fState.slot]? = some (.int 0) := by
    have := fresh_default (c := P1.m.cls) tyX
    rw [htX] at this; exact this
  obtain ⟨tyB, dB, hdB, hdnB⟩ := Cond.laysAt hfound hk hffB (a' (.lays Bundle.nN Bundle.tN "backtrace" Bundle.objD) (by simp [Bundle.npeArmAtoms]))
  have bC := Cond.laysApart hdB hdC hdnB hdnC (by rw [hnB, Y.causeName]; decide)
  have bS := Cond.laysApart hdB hdS hdnB hdnS (by rw [hnB, Y.stackName]; decide)
  have bP := Cond.laysApart hdB hdP hdnB hdnP (by rw [hnB, Y.suppName]; decide)
  have bX := Cond.laysApart hdB hdX hdnB hdnX (by rw [hnB, hnX]; decide)
  have hbk : ((npeCell N.toNpeT (preparedCellV T.toThrowableT (freshCell P1.m.cls N.kN) W.heap.size u0 sen) W.cur).withEntry W.cur).slots[fB.slot]? = some .null := by
    have := fresh_default (c := P1.m.cls) tyB
    rw [htB] at this
    simpa [npeCell, preparedCellV, Cell.setSlot, Cell.withEntry, Array.getElem?_setIfInBounds, bC, bS, bP, bX, bC.symm, bS.symm, bP.symm, bX.symm, defaultValue] using this
  have tkC := Takes.of_laid (v := .ref W.heap.size) hk hordN tyC (by rw [Y.causeType]; rfl)
  have tkS := Takes.of_laid (v := u0.v) hk hordN tyS (by rw [Y.stackType]; exact fits_refV_array _ u0)
  have tkP := Takes.of_laid (v := sen.v) hk hordN tyP (by rw [Y.suppType]; exact fits_refV_object _ sen)
  have tkX := Takes.of_laid (v := .int 1) hk hordN tyX (by rw [htX]; rfl)
  have hskip : SkipFacts T e.platform s (fun u => u) u0 ((npeCell N.toNpeT (preparedCellV T.toThrowableT (freshCell P1.m.cls N.kN) W.heap.size u0 sen) W.cur).withEntry W.cur) := ⟨{ ci198 := ci198, i198 := i198, fBack := fB }, ⟨hk198, hg198, ha198, hsB⟩, hbk, fun _ _ => rfl⟩
  obtain ⟨vm', X3, st, -⟩ := X.throwsNpeColdBareVAt hexec hg hsize T L Z LZ N LN P1 L1 [PR, PE] hLs hlink1 ⟨hlinkR, hlinkE, trivial⟩ hfound hk hinit hordN hctor hsel0 hselF hcellS hknownS hvU hvSen
    hv0 xC xS xP tkC tkS tkP tkX Y.objLocals hskip (fun _ _ hA hW _ hroom _ hrest => L.nativeOff p htr hA hW hroom hrest) (by simpa using hRframes) hRlocals (by simp) hRcells (by rw [hn]; exact hRslots)
  have hlt : W.heap.size < ((W.pushCell (freshCell P1.m.cls N.kN)).setVm vm').heap.size := by
    show W.heap.size < (W.pushCell (freshCell P1.m.cls N.kN)).heap.size
    rw [State.heap_size_pushCell]; omega
  rw [hfsz] at X3
  obtain ⟨g₁, hfrM⟩ := X3.frames_eq
  have hU : ((((W.pushCell (freshCell P1.m.cls N.kN)).setVm vm').setCell W.heap.size (npeBareV T.toThrowableT N.toNpeT (freshCell P1.m.cls N.kN) W.heap.size u0 sen)).setTop g).pushFrame (.throwing W.heap.size) = (((W.pushCell (freshCell P1.m.cls N.kN)).setVm vm').setCell W.heap.size (npeBareV T.toThrowableT N.toNpeT (freshCell P1.m.cls N.kN) W.heap.size u0 sen)).setFrames (.throwing W.heap.size :: .java g :: below) := by
    rw [State.pushFrame, State.frames_setTop _ hfrM, State.setTop_of_frames _ hfrM, State.setFrames_setFrames]
  refine ⟨_, W.heap.size, _, fun target ht => st.trans (by rw [← hU]; exact ht), X3.forget (fun y hy => ?_), heapAt_setCell_self _ hlt, hfound, rfl⟩
  simp only [List.mem_cons, List.not_mem_nil, or_false] at hy
  have hge : s.heap.size ≤ W.heap.size := X.same.2.1
  rcases hy with rfl | rfl | rfl | rfl | rfl <;> exact hge
/-- the words of a machine's NullPointerException, but the four that speak of the heap -/
def vx_atN (n : Nat) : List Cond := (Bundle.npeArmAtoms n).filter vx_no
/-- the words of a machine's throw with a message, but the four that speak of the heap -/
def vx_atM (X : String) (names : List String) : List Cond := (Bundle.messageArmAtoms X names).filter vx_no
section
variable {p : Program} {l : Launch} {e : Env} {R : Room} {s : State} {m : MethodId} {args : Array Value} {below : List Frame} {meth : Method} {c : Code} {H : Heap} {locs : List Loc} {cells slots : Nat}
/-- a frame seen from a rebased start, seen from the first start again -/
theorem vx_back9 {T S : State} {R' : Room} {k n : Nat} (X : Stand p l e R s m args below meth c T locs cells slots) (Y : Stand p l e R' ((T.setVm s.vm).setFrames (.invoking m args :: below)) m args below meth c T [] 0 0) (Z : Stand p l e R' ((T.setVm s.vm).setFrames (.invoking m args :: below)) m args below meth c S [] k n) :
    Stand p l e R s m args below meth c S locs (cells + k) (slots + n) := by
  have hW0 : s.WarmedH ((T.setVm s.vm).setFrames (.invoking m args :: below)).vm := State.WarmedH.refl s
  refine { admits := X.admits, cas := X.cas, clock := X.clock, frames := X.frames, room := X.room, hears := X.hears, method := X.method, code := X.code, here := Z.here, tail := Z.tail, warmed := State.WarmedH.trans hW0 Z.warmed, limits := Z.limits.trans (Y.limits.symm.trans X.limits), bytes := Z.bytes.trans (Y.bytes.symm.trans X.bytes), same := ?_ }
  obtain ⟨e1, e2⟩ := Z.same
  rw [State.setFrames_setFrames] at e1
  have h2 : (T.setVm s.vm).sameButNew (S.setVm s.vm) [] k n := ⟨e1, e2⟩
  have h3 := X.same.trans h2
  rw [List.append_nil] at h3
  exact h3
/-- from the machine's note that E is thrown here with this text -/
def vx_Note (p : Program) (l : Launch) (e : Env) (R : Room) (s : State) (m : MethodId) (args : Array Value) (below : List Frame) (meth : Method) (c : Code) (H : Heap) (locs : List Loc) (cells slots : Nat) (Q : State → Prop) (g : JFrame) (E text : String) : Prop :=
  ∀ T : State, T.heap = H → Stand p l e R s m args below meth c T locs cells slots → ∃ t, Steps p.tables e below ((T.setTop g).pushFrame (.throwNew E (some text) none)) t ∧ Q t
theorem vx_vm {pc : Nat} {ls : Array Slot} {rest : List Value} {Q : State → Prop} (hexec : p.tables.exec = Jvm.exec) (hl : l.stackTraces = false) {cls text : String} {names : List String} {nb : Nat} {A : Nat → Prop}
    (hcls : Bundle.fit cls = true) (hnames : ∀ n ∈ names, Bundle.fit n = true) (hsoe : (cls == "java/lang/StackOverflowError") = false) (hoom : (cls == "java/lang/OutOfMemoryError") = false)
    (hat : ∀ w ∈ vx_atM cls names, w.before args s = true) (hgood : ∀ w ∈ vx_atM cls names, vx_ot w = true)
    (hU : vx_Zq Bundle.tN "UNASSIGNED_STACK" Bundle.steD A s s.heap) (hN : vx_Zq Bundle.tN "SUPPRESSED_SENTINEL" Bundle.listD A s s.heap) (hS : va_S A s.heap H locs) (hsize : ls.size = c.maxLocals)
    (htext : (text == notModelled) = false) (hnb : (stringBytes (stringToUtf16 text)).size ≤ nb) (hnb1 : nb ≤ 1000)
    (hRframes : names.length + 4 < R.frames) (hRlocals : (rest.map fun v => v.category).sum + 10240 ≤ R.locals) (hshort : 13 * names.length + 55 ≤ 10240) (hRcells : cells + 3 ≤ R.cells) (hRslots : slots + (nb + 10) ≤ R.slots) (hlocks : meth.locks = false)
    (k : ∀ (H1 : Heap) (q9 : Addr) (ce : Cell), H.size ≤ H1.size → (∀ q : Nat, q < H.size → H1[q]? = H[q]?) → va_S A s.heap H1 locs → H1[q9]? = some ce → ce.vm = .none → s.vm.findClass cls = some ce.cls → vx_W p l e R s m args below meth c H1 locs (cells + 3) (slots + (nb + 10)) Q (F0 m pc ls rest) q9) :
    vx_Note p l e R s m args below meth c H locs cells slots Q (F0 m pc ls rest) cls text := by
  intro T hT X
  have htr : e.platform.stackTraces = false := (show e.platform.stackTraces = l.stackTraces by rw [X.admits.platform]).trans hl
  have Y := vx_rebase X (R' := { frames := R.frames, locals := R.locals, cells := 3, slots := nb + 10 }) (Nat.le_refl _) (Nat.le_refl _) hRcells hRslots
  have hhp : ((T.setVm s.vm).setFrames (.invoking m args :: below)).heap = H := hT
  have hW0 : s.WarmedH ((T.setVm s.vm).setFrames (.invoking m args :: below)).vm := State.WarmedH.refl s
  have hat' : ∀ w ∈ vx_atM cls names, w.before args ((T.setVm s.vm).setFrames (.invoking m args :: below)) = true := fun w hw => vx_ot_at hW0 rfl (hgood w hw) (hat w hw)
  have hU' : vx_Zq Bundle.tN "UNASSIGNED_STACK" Bundle.steD A ((T.setVm s.vm).setFrames (.invoking m args :: below)) ((T.setVm s.vm).setFrames (.invoking m args :: below)).heap := by rw [hhp]; exact vx_Zq.moved hW0.alike (hU.kept hS.2.1)
  have hN' : vx_Zq Bundle.tN "SUPPRESSED_SENTINEL" Bundle.listD A ((T.setVm s.vm).setFrames (.invoking m args :: below)) ((T.setVm s.vm).setFrames (.invoking m args :: below)).heap := by rw [hhp]; exact vx_Zq.moved hW0.alike (hN.kept hS.2.1)
  obtain ⟨S, q, ce, st, Z, hce, hcl', hv⟩ := vx_vmAt Y hexec htr (cls := cls) (names := names) (text := text) hcls hnames hsoe hoom (vx_own hat' (vx_isRefq hU'.1) (vx_isRefq hN'.1) hU'.2.word hN'.2.word) (fun x hx => nomatch hx) htext
    (by rw [Launch.admits_arrayLengthLimit X.admits]; omega) (by rw [Launch.admits_maxHeapBytes X.admits]; simp only [componentBytes]; omega)
    (g := F0 m pc ls rest) rfl hsize hRframes (by show 2 * 0 + (rest.map fun v => v.category).sum + 10240 ≤ R.locals; omega) hshort (by show 0 + 3 ≤ 3; omega) (by show 0 + (_ + 4 + 6) ≤ nb + 10; omega) hlocks
  obtain ⟨f1, f2⟩ := vx_frame Z.same
  have f1' : H.size ≤ S.heap.size := by rw [← hT]; exact f1
  have f2' : ∀ q : Nat, q < H.size → S.heap[q]? = H[q]? := fun q hq => by
    rw [← hT]
    exact f2 q (by rw [← hT] at hq; exact hq) (fun z hz => nomatch hz)
  have X5 := vx_back9 X Y Z
  have X6 : Stand p l e R s m args below meth c S locs (cells + 3) (slots + (nb + 10)) := { X5 with same := X5.same.mono (by omega) (by omega) }
  obtain ⟨t, a1, b1⟩ := k S.heap q ce f1' f2' ⟨Nat.le_trans hS.1 f1', fun q h1 h2 => (f2' q (Nat.lt_of_lt_of_le h1 hS.1)).trans (hS.2.1 q h1 h2), hS.2.2⟩ hce hv hcl' S rfl X6
  exact ⟨t, st t a1, b1⟩
/-- from the machine's note that NullPointerException is thrown here -/
def vx_NoteN (p : Program) (l : Launch) (e : Env) (R : Room) (s : State) (m : MethodId) (args : Array Value) (below : List Frame) (meth : Method) (c : Code) (H : Heap) (locs : List Loc) (cells slots : Nat) (Q : State → Prop) (g : JFrame) : Prop :=
  ∀ T : State, T.heap = H → Stand p l e R s m args below meth c T locs cells slots → ∃ t, Steps p.tables e below ((T.setTop g).pushFrame (.throwNew "java/lang/NullPointerException" none none)) t ∧ Q t
theorem vx_npe {pc : Nat} {ls : Array Slot} {rest : List Value} {Q : State → Prop} (hexec : p.tables.exec = Jvm.exec) (hl : l.stackTraces = false) {nb : Nat} {A : Nat → Prop}
    (hat : ∀ w ∈ vx_atN nb, w.before args s = true) (hgood : ∀ w ∈ vx_atN nb, vx_ot w = true)
    (hU : vx_Zq Bundle.tN "UNASSIGNED_STACK" Bundle.steD A s s.heap) (hN : vx_Zq Bundle.tN "SUPPRESSED_SENTINEL" Bundle.listD A s s.heap) (hS : va_S A s.heap H locs) (hsize : ls.size = c.maxLocals)
    (hRframes : 7 < R.frames) (hRlocals : (rest.map fun v => v.category).sum + 10240 ≤ R.locals) (hRcells : cells + 1 ≤ R.cells) (hRslots : slots + nb ≤ R.slots) (hlocks : meth.locks = false)
    (k : ∀ (H1 : Heap) (q9 : Addr) (ce : Cell), H.size ≤ H1.size → (∀ q : Nat, q < H.size → H1[q]? = H[q]?) → va_S A s.heap H1 locs → H1[q9]? = some ce → ce.vm = .none → s.vm.findClass "java/lang/NullPointerException" = some ce.cls → vx_W p l e R s m args below meth c H1 locs (cells + 1) (slots + nb) Q (F0 m pc ls rest) q9) :
    vx_NoteN p l e R s m args below meth c H locs cells slots Q (F0 m pc ls rest) := by
  intro T hT X
  have htr : e.platform.stackTraces = false := (show e.platform.stackTraces = l.stackTraces by rw [X.admits.platform]).trans hl
  have Y := vx_rebase X (R' := { frames := R.frames, locals := R.locals, cells := 1, slots := nb }) (Nat.le_refl _) (Nat.le_refl _) hRcells hRslots
  have hhp : ((T.setVm s.vm).setFrames (.invoking m args :: below)).heap = H := hT
  have hW0 : s.WarmedH ((T.setVm s.vm).setFrames (.invoking m args :: below)).vm := State.WarmedH.refl s
  have hat' : ∀ w ∈ vx_atN nb, w.before args ((T.setVm s.vm).setFrames (.invoking m args :: below)) = true := fun w hw => vx_ot_at hW0 rfl (hgood w hw) (hat w hw)
  have hU' : vx_Zq Bundle.tN "UNASSIGNED_STACK" Bundle.steD A ((T.setVm s.vm).setFrames (.invoking m args :: below)) ((T.setVm s.vm).setFrames (.invoking m args :: below)).heap := by rw [hhp]; exact vx_Zq.moved hW0.alike (hU.kept hS.2.1)
  have hN' : vx_Zq Bundle.tN "SUPPRESSED_SENTINEL" Bundle.listD A ((T.setVm s.vm).setFrames (.invoking m args :: below)) ((T.setVm s.vm).setFrames (.invoking m args :: below)).heap := by rw [hhp]; exact vx_Zq.moved hW0.alike (hN.kept hS.2.1)
  obtain ⟨S, q, ce, st, Z, hce, hcl', hv⟩ := vx_npeAt Y hexec htr (n := nb) (vx_own hat' (vx_isRefq hU'.1) (vx_isRefq hN'.1) hU'.2.word hN'.2.word) (fun x hx => nomatch hx)
    (g := F0 m pc ls rest) rfl hsize hRframes (by show 2 * 0 + (rest.map fun v => v.category).sum + 10240 ≤ R.locals; omega) (by show 0 + 1 ≤ 1; omega) (by show 0 + nb ≤ nb; omega) hlocks
  obtain ⟨f1, f2⟩ := vx_frame Z.same
  have f1' : H.size ≤ S.heap.size := by rw [← hT]; exact f1
  have f2' : ∀ q : Nat, q < H.size → S.heap[q]? = H[q]? := fun q hq => by
    rw [← hT]
    exact f2 q (by rw [← hT] at hq; exact hq) (fun z hz => nomatch hz)
  have X5 := vx_back9 X Y Z
  have X6 : Stand p l e R s m args below meth c S locs (cells + 1) (slots + nb) := { X5 with same := X5.same.mono (by omega) (by omega) }
  obtain ⟨t, a1, b1⟩ := k S.heap q ce f1' f2' ⟨Nat.le_trans hS.1 f1', fun q h1 h2 => (f2' q (Nat.lt_of_lt_of_le h1 hS.1)).trans (hS.2.1 q h1 h2), hS.2.2⟩ hce hv hcl' S rfl X6
  exact ⟨t, st t a1, b1⟩
variable {Q : State → Prop} {cc : ByteArray} {pc : Nat} {ls : Array Slot} {rest : List Value}
theorem vx_idivZ (hexec : p.tables.exec = Jvm.exec) (hb : c.code = cc) {a b : Int32} (h0 : b = 0) (d : decode cc pc = .ok (.idiv, 1)) (k : vx_Note p l e R s m args below meth c H locs cells slots Q (F0 m pc ls rest) "java/lang/ArithmeticException" "/ by zero") :
    W p l e R s m args below meth c H locs cells slots Q (F0 m pc ls (.int b :: .int a :: rest)) := by
  intro T hT X
  obtain ⟨t, st, q⟩ := k T hT X
  exact ⟨t, X.idivZero hexec (g := F0 m pc ls (.int b :: .int a :: rest)) rfl (a := a) (rest := rest) (by rw [h0]) (by rw [hb]; exact d) t st, q⟩
theorem vx_iremZ (hexec : p.tables.exec = Jvm.exec) (hb : c.code = cc) {a b : Int32} (h0 : b = 0) (d : decode cc pc = .ok (.irem, 1)) (k : vx_Note p l e R s m args below meth c H locs cells slots Q (F0 m pc ls rest) "java/lang/ArithmeticException" "/ by zero") :
    W p l e R s m args below meth c H locs cells slots Q (F0 m pc ls (.int b :: .int a :: rest)) := by
  intro T hT X
  obtain ⟨t, st, q⟩ := k T hT X
  exact ⟨t, X.iremZero hexec (g := F0 m pc ls (.int b :: .int a :: rest)) rfl (a := a) (rest := rest) (by rw [h0]) (by rw [hb]; exact d) t st, q⟩
theorem vx_ldivZ (hexec : p.tables.exec = Jvm.exec) (hb : c.code = cc) {a b : Int64} (h0 : b = 0) (d : decode cc pc = .ok (.ldiv, 1)) (k : vx_Note p l e R s m args below meth c H locs cells slots Q (F0 m pc ls rest) "java/lang/ArithmeticException" "/ by zero") :
    W p l e R s m args below meth c H locs cells slots Q (F0 m pc ls (.long b :: .long a :: rest)) := by
  intro T hT X
  obtain ⟨t, st, q⟩ := k T hT X
  exact ⟨t, X.ldivZero hexec (g := F0 m pc ls (.long b :: .long a :: rest)) rfl (a := a) (rest := rest) (by rw [h0]) (by rw [hb]; exact d) t st, q⟩
theorem vx_lremZ (hexec : p.tables.exec = Jvm.exec) (hb : c.code = cc) {a b : Int64} (h0 : b = 0) (d : decode cc pc = .ok (.lrem, 1)) (k : vx_Note p l e R s m args below meth c H locs cells slots Q (F0 m pc ls rest) "java/lang/ArithmeticException" "/ by zero") :
    W p l e R s m args below meth c H locs cells slots Q (F0 m pc ls (.long b :: .long a :: rest)) := by
  intro T hT X
  obtain ⟨t, st, q⟩ := k T hT X
  exact ⟨t, X.lremZero hexec (g := F0 m pc ls (.long b :: .long a :: rest)) rfl (a := a) (rest := rest) (by rw [h0]) (by rw [hb]; exact d) t st, q⟩
theorem vx_ialdZ {D : va_G} {cl : List vw_C} {ws : va_W} {tys : List (ClassId × FieldType)} {a : Nat} (hexec : p.tables.exec = Jvm.exec) (hb : c.code = cc) (hK : va_K D cl tys s) (hP : va_P D cl ws H) (q0 t0 : Nat) {cA : ClassId} {n : Nat} {f : Nat → Int32} (ha : ws[q0]? = some (a, .inl (cA, n, .inl f))) (ht : tys[t0]? = some (cA, .int)) {i : Int32} (hout : ¬ vp_in i n) (hdg : decode cc pc = .ok (.iaload, 1))
    (k : ∀ tx : String, tx = (toString "Index " ++ toString i ++ toString " out of bounds for length " ++ toString n : String) → vx_Note p l e R s m args below meth c H locs cells slots Q (F0 m pc ls rest) "java/lang/ArrayIndexOutOfBoundsException" tx) : W p l e R s m args below meth c H locs cells slots Q (F0 m pc ls (.int i :: .ref a :: rest)) := by
  intro T hT X
  obtain ⟨t, st, q⟩ := k _ rfl T hT X
  refine ⟨t, ?_, q⟩
  have h1 := X.ialoadOut hexec (by rw [hT]; exact hP q0 _ ha) ((hK.2 t0 _ ht).1 n (fun j => .int (f j))) (j := i) (by show (i < 0 ∨ (arrV _ _ _).slots.size ≤ _); rw [arrV_size]; exact Classical.byContradiction hout) (g := F0 m pc ls (.int i :: .ref a :: rest)) rfl (rest := rest) rfl (by rw [hb]; exact hdg) t
  simp only [arrV_size] at h1
  exact h1 st
theorem vx_iastZ {D : va_G} {cl : List vw_C} {ws : va_W} {tys : List (ClassId × FieldType)} {a : Nat} (hexec : p.tables.exec = Jvm.exec) (hb : c.code = cc) (hK : va_K D cl tys s) (hP : va_P D cl ws H) (q0 t0 : Nat) {cA : ClassId} {n : Nat} {f : Nat → Int32} (ha : ws[q0]? = some (a, .inl (cA, n, .inl f))) (ht : tys[t0]? = some (cA, .int)) {i : Int32} {x : Int32} (hout : ¬ vp_in i n) (hdg : decode cc pc = .ok (.iastore, 1))
    (k : ∀ tx : String, tx = (toString "Index " ++ toString i ++ toString " out of bounds for length " ++ toString n : String) → vx_Note p l e R s m args below meth c H locs cells slots Q (F0 m pc ls rest) "java/lang/ArrayIndexOutOfBoundsException" tx) : W p l e R s m args below meth c H locs cells slots Q (F0 m pc ls (.int x :: .int i :: .ref a :: rest)) := by
  intro T hT X
  obtain ⟨t, st, q⟩ := k _ rfl T hT X
  refine ⟨t, ?_, q⟩
  have h1 := X.iastoreOut hexec (by rw [hT]; exact hP q0 _ ha) ((hK.2 t0 _ ht).1 n (fun j => .int (f j))) (j := i) (by show (i < 0 ∨ (arrV _ _ _).slots.size ≤ _); rw [arrV_size]; exact Classical.byContradiction hout) (g := F0 m pc ls (.int x :: .int i :: .ref a :: rest)) rfl (rest := rest) rfl (by rw [hb]; exact hdg) t
  simp only [arrV_size] at h1
  exact h1 st
theorem vx_baldZ {D : va_G} {cl : List vw_C} {ws : va_W} {tys : List (ClassId × FieldType)} {a : Nat} (hexec : p.tables.exec = Jvm.exec) (hb : c.code = cc) (hK : va_K D cl tys s) (hP : va_P D cl ws H) (q0 t0 : Nat) {cA : ClassId} {n : Nat} {f : Nat → Int32} (ha : ws[q0]? = some (a, .inl (cA, n, .inl f))) (ht : tys[t0]? = some (cA, .byte)) {i : Int32} (hout : ¬ vp_in i n) (hdg : decode cc pc = .ok (.baload, 1))
    (k : ∀ tx : String, tx = (toString "Index " ++ toString i ++ toString " out of bounds for length " ++ toString n : String) → vx_Note p l e R s m args below meth c H locs cells slots Q (F0 m pc ls rest) "java/lang/ArrayIndexOutOfBoundsException" tx) : W p l e R s m args below meth c H locs cells slots Q (F0 m pc ls (.int i :: .ref a :: rest)) := by
  intro T hT X
  obtain ⟨t, st, q⟩ := k _ rfl T hT X
  refine ⟨t, ?_, q⟩
  have h1 := X.baloadOut hexec (by rw [hT]; exact hP q0 _ ha) ((hK.2 t0 _ ht).1 n (fun j => .int (f j))) (j := i) (by show (i < 0 ∨ (arrV _ _ _).slots.size ≤ _); rw [arrV_size]; exact Classical.byContradiction hout) (g := F0 m pc ls (.int i :: .ref a :: rest)) rfl (rest := rest) rfl (by rw [hb]; exact hdg) t
  simp only [arrV_size] at h1
  exact h1 st
theorem vx_bastZ {D : va_G} {cl : List vw_C} {ws : va_W} {tys : List (ClassId × FieldType)} {a : Nat} (hexec : p.tables.exec = Jvm.exec) (hb : c.code = cc) (hK : va_K D cl tys s) (hP : va_P D cl ws H) (q0 t0 : Nat) {cA : ClassId} {n : Nat} {f : Nat → Int32} (ha : ws[q0]? = some (a, .inl (cA, n, .inl f))) (ht : tys[t0]? = some (cA, .byte)) {i : Int32} {x : Int32} (hout : ¬ vp_in i n) (hdg : decode cc pc = .ok (.bastore, 1))
    (k : ∀ tx : String, tx = (toString "Index " ++ toString i ++ toString " out of bounds for length " ++ toString n : String) → vx_Note p l e R s m args below meth c H locs cells slots Q (F0 m pc ls rest) "java/lang/ArrayIndexOutOfBoundsException" tx) : W p l e R s m args below meth c H locs cells slots Q (F0 m pc ls (.int x :: .int i :: .ref a :: rest)) := by
  intro T hT X
  obtain ⟨t, st, q⟩ := k _ rfl T hT X
  refine ⟨t, ?_, q⟩
  have h1 := X.bastoreOut hexec (by rw [hT]; exact hP q0 _ ha) ((hK.2 t0 _ ht).1 n (fun j => .int (f j))) (j := i) (by show (i < 0 ∨ (arrV _ _ _).slots.size ≤ _); rw [arrV_size]; exact Classical.byContradiction hout) (g := F0 m pc ls (.int x :: .int i :: .ref a :: rest)) rfl (rest := rest) rfl (by rw [hb]; exact hdg) t
  simp only [arrV_size] at h1
  exact h1 st
theorem vx_zaldZ {D : va_G} {cl : List vw_C} {ws : va_W} {tys : List (ClassId × FieldType)} {a : Nat} (hexec : p.tables.exec = Jvm.exec) (hb : c.code = cc) (hK : va_K D cl tys s) (hP : va_P D cl ws H) (q0 t0 : Nat) {cA : ClassId} {n : Nat} {f : Nat → Int32} (ha : ws[q0]? = some (a, .inl (cA, n, .inl f))) (ht : tys[t0]? = some (cA, .boolean)) {i : Int32} (hout : ¬ vp_in i n) (hdg : decode cc pc = .ok (.baload, 1))
    (k : ∀ tx : String, tx = (toString "Index " ++ toString i ++ toString " out of bounds for length " ++ toString n : String) → vx_Note p l e R s m args below meth c H locs cells slots Q (F0 m pc ls rest) "java/lang/ArrayIndexOutOfBoundsException" tx) : W p l e R s m args below meth c H locs cells slots Q (F0 m pc ls (.int i :: .ref a :: rest)) := by
  intro T hT X
  obtain ⟨t, st, q⟩ := k _ rfl T hT X
  refine ⟨t, ?_, q⟩
  have h1 := X.baloadOut hexec (by rw [hT]; exact hP q0 _ ha) ((hK.2 t0 _ ht).1 n (fun j => .int (f j))) (j := i) (by show (i < 0 ∨ (arrV _ _ _).slots.size ≤ _); rw [arrV_size]; exact Classical.byContradiction hout) (g := F0 m pc ls (.int i :: .ref a :: rest)) rfl (rest := rest) rfl (by rw [hb]; exact hdg) t
  simp only [arrV_size] at h1
  exact h1 st
theorem vx_zastZ {D : va_G} {cl : List vw_C} {ws : va_W} {tys : List (ClassId × FieldType)} {a : Nat} (hexec : p.tables.exec = Jvm.exec) (hb : c.code = cc) (hK : va_K D cl tys s) (hP : va_P D cl ws H) (q0 t0 : Nat) {cA : ClassId} {n : Nat} {f : Nat → Int32} (ha : ws[q0]? = some (a, .inl (cA, n, .inl f))) (ht : tys[t0]? = some (cA, .boolean)) {i : Int32} {x : Int32} (hout : ¬ vp_in i n) (hdg : decode cc pc = .ok (.bastore, 1))
    (k : ∀ tx : String, tx = (toString "Index " ++ toString i ++ toString " out of bounds for length " ++ toString n : String) → vx_Note p l e R s m args below meth c H locs cells slots Q (F0 m pc ls rest) "java/lang/ArrayIndexOutOfBoundsException" tx) : W p l e R s m args below meth c H locs cells slots Q (F0 m pc ls (.int x :: .int i :: .ref a :: rest)) := by
  intro T hT X
  obtain ⟨t, st, q⟩ := k _ rfl T hT X
  refine ⟨t, ?_, q⟩
  have h1 := X.bastoreOut hexec (by rw [hT]; exact hP q0 _ ha) ((hK.2 t0 _ ht).1 n (fun j => .int (f j))) (j := i) (by show (i < 0 ∨ (arrV _ _ _).slots.size ≤ _); rw [arrV_size]; exact Classical.byContradiction hout) (g := F0 m pc ls (.int x :: .int i :: .ref a :: rest)) rfl (rest := rest) rfl (by rw [hb]; exact hdg) t
  simp only [arrV_size] at h1
  exact h1 st
theorem vx_caldZ {D : va_G} {cl : List vw_C} {ws : va_W} {tys : List (ClassId × FieldType)} {a : Nat} (hexec : p.tables.exec = Jvm.exec) (hb : c.code = cc) (hK : va_K D cl tys s) (hP : va_P D cl ws H) (q0 t0 : Nat) {cA : ClassId} {n : Nat} {f : Nat → Int32} (ha : ws[q0]? = some (a, .inl (cA, n, .inl f))) (ht : tys[t0]? = some (cA, .char)) {i : Int32} (hout : ¬ vp_in i n) (hdg : decode cc pc = .ok (.caload, 1))
    (k : ∀ tx : String, tx = (toString "Index " ++ toString i ++ toString " out of bounds for length " ++ toString n : String) → vx_Note p l e R s m args below meth c H locs cells slots Q (F0 m pc ls rest) "java/lang/ArrayIndexOutOfBoundsException" tx) : W p l e R s m args below meth c H locs cells slots Q (F0 m pc ls (.int i :: .ref a :: rest)) := by
  intro T hT X
  obtain ⟨t, st, q⟩ := k _ rfl T hT X
  refine ⟨t, ?_, q⟩
  have h1 := X.caloadOut hexec (by rw [hT]; exact hP q0 _ ha) ((hK.2 t0 _ ht).1 n (fun j => .int (f j))) (j := i) (by show (i < 0 ∨ (arrV _ _ _).slots.size ≤ _); rw [arrV_size]; exact Classical.byContradiction hout) (g := F0 m pc ls (.int i :: .ref a :: rest)) rfl (rest := rest) rfl (by rw [hb]; exact hdg) t
  simp only [arrV_size] at h1
  exact h1 st
theorem vx_castZ {D : va_G} {cl : List vw_C} {ws : va_W} {tys : List (ClassId × FieldType)} {a : Nat} (hexec : p.tables.exec = Jvm.exec) (hb : c.code = cc) (hK : va_K D cl tys s) (hP : va_P D cl ws H) (q0 t0 : Nat) {cA : ClassId} {n : Nat} {f : Nat → Int32} (ha : ws[q0]? = some (a, .inl (cA, n, .inl f))) (ht : tys[t0]? = some (cA, .char)) {i : Int32} {x : Int32} (hout : ¬ vp_in i n) (hdg : decode cc pc = .ok (.castore, 1))
    (k : ∀ tx : String, tx = (toString "Index " ++ toString i ++ toString " out of bounds for length " ++ toString n : String) → vx_Note p l e R s m args below meth c H locs cells slots Q (F0 m pc ls rest) "java/lang/ArrayIndexOutOfBoundsException" tx) : W p l e R s m args below meth c H locs cells slots Q (F0 m pc ls (.int x :: .int i :: .ref a :: rest)) := by
  intro T hT X
  obtain ⟨t, st, q⟩ := k _ rfl T hT X
  refine ⟨t, ?_, q⟩
  have h1 := X.castoreOut hexec (by rw [hT]; exact hP q0 _ ha) ((hK.2 t0 _ ht).1 n (fun j => .int (f j))) (j := i) (by show (i < 0 ∨ (arrV _ _ _).slots.size ≤ _); rw [arrV_size]; exact Classical.byContradiction hout) (g := F0 m pc ls (.int x :: .int i :: .ref a :: rest)) rfl (rest := rest) rfl (by rw [hb]; exact hdg) t
  simp only [arrV_size] at h1
  exact h1 st
theorem vx_saldZ {D : va_G} {cl : List vw_C} {ws : va_W} {tys : List (ClassId × FieldType)} {a : Nat} (hexec : p.tables.exec = Jvm.exec) (hb : c.code = cc) (hK : va_K D cl tys s) (hP : va_P D cl ws H) (q0 t0 : Nat) {cA : ClassId} {n : Nat} {f : Nat → Int32} (ha : ws[q0]? = some (a, .inl (cA, n, .inl f))) (ht : tys[t0]? = some (cA, .short)) {i : Int32} (hout : ¬ vp_in i n) (hdg : decode cc pc = .ok (.saload, 1))
    (k : ∀ tx : String, tx = (toString "Index " ++ toString i ++ toString " out of bounds for length " ++ toString n : String) → vx_Note p l e R s m args below meth c H locs cells slots Q (F0 m pc ls rest) "java/lang/ArrayIndexOutOfBoundsException" tx) : W p l e R s m args below meth c H locs cells slots Q (F0 m pc ls (.int i :: .ref a :: rest)) := by
  intro T hT X
  obtain ⟨t, st, q⟩ := k _ rfl T hT X
  refine ⟨t, ?_, q⟩
  have h1 := X.saloadOut hexec (by rw [hT]; exact hP q0 _ ha) ((hK.2 t0 _ ht).1 n (fun j => .int (f j))) (j := i) (by show (i < 0 ∨ (arrV _ _ _).slots.size ≤ _); rw [arrV_size]; exact Classical.byContradiction hout) (g := F0 m pc ls (.int i :: .ref a :: rest)) rfl (rest := rest) rfl (by rw [hb]; exact hdg) t
  simp only [arrV_size] at h1
  exact h1 st
theorem vx_sastZ {D : va_G} {cl : List vw_C} {ws : va_W} {tys : List (ClassId × FieldType)} {a : Nat} (hexec : p.tables.exec = Jvm.exec) (hb : c.code = cc) (hK : va_K D cl tys s) (hP : va_P D cl ws H) (q0 t0 : Nat) {cA : ClassId} {n : Nat} {f : Nat → Int32} (ha : ws[q0]? = some (a, .inl (cA, n, .inl f))) (ht : tys[t0]? = some (cA, .short)) {i : Int32} {x : Int32} (hout : ¬ vp_in i n) (hdg : decode cc pc = .ok (.sastore, 1))
    (k : ∀ tx : String, tx = (toString "Index " ++ toString i ++ toString " out of bounds for length " ++ toString n : String) → vx_Note p l e R s m args below meth c H locs cells slots Q (F0 m pc ls rest) "java/lang/ArrayIndexOutOfBoundsException" tx) : W p l e R s m args below meth c H locs cells slots Q (F0 m pc ls (.int x :: .int i :: .ref a :: rest)) := by
  intro T hT X
  obtain ⟨t, st, q⟩ := k _ rfl T hT X
  refine ⟨t, ?_, q⟩
  have h1 := X.sastoreOut hexec (by rw [hT]; exact hP q0 _ ha) ((hK.2 t0 _ ht).1 n (fun j => .int (f j))) (j := i) (by show (i < 0 ∨ (arrV _ _ _).slots.size ≤ _); rw [arrV_size]; exact Classical.byContradiction hout) (g := F0 m pc ls (.int x :: .int i :: .ref a :: rest)) rfl (rest := rest) rfl (by rw [hb]; exact hdg) t
  simp only [arrV_size] at h1
  exact h1 st
theorem vx_laldZ {D : va_G} {cl : List vw_C} {ws : va_W} {tys : List (ClassId × FieldType)} {a : Nat} (hexec : p.tables.exec = Jvm.exec) (hb : c.code = cc) (hK : va_K D cl tys s) (hP : va_P D cl ws H) (q0 t0 : Nat) {cA : ClassId} {n : Nat} {f : Nat → Int64} (ha : ws[q0]? = some (a, .inl (cA, n, .inr (.inl f)))) (ht : tys[t0]? = some (cA, .long)) {i : Int32} (hout : ¬ vp_in i n) (hdg : decode cc pc = .ok (.laload, 1))
    (k : ∀ tx : String, tx = (toString "Index " ++ toString i ++ toString " out of bounds for length " ++ toString n : String) → vx_Note p l e R s m args below meth c H locs cells slots Q (F0 m pc ls rest) "java/lang/ArrayIndexOutOfBoundsException" tx) : W p l e R s m args below meth c H locs cells slots Q (F0 m pc ls (.int i :: .ref a :: rest)) := by
  intro T hT X
  obtain ⟨t, st, q⟩ := k _ rfl T hT X
  refine ⟨t, ?_, q⟩
  have h1 := X.laloadOut hexec (by rw [hT]; exact hP q0 _ ha) ((hK.2 t0 _ ht).1 n (fun j => .long (f j))) (j := i) (by show (i < 0 ∨ (arrV _ _ _).slots.size ≤ _); rw [arrV_size]; exact Classical.byContradiction hout) (g := F0 m pc ls (.int i :: .ref a :: rest)) rfl (rest := rest) rfl (by rw [hb]; exact hdg) t
  simp only [arrV_size] at h1
  exact h1 st
theorem vx_lastZ {D : va_G} {cl : List vw_C} {ws : va_W} {tys : List (ClassId × FieldType)} {a : Nat} (hexec : p.tables.exec = Jvm.exec) (hb : c.code = cc) (hK : va_K D cl tys s) (hP : va_P D cl ws H) (q0 t0 : Nat) {cA : ClassId} {n : Nat} {f : Nat → Int64} (ha : ws[q0]? = some (a, .inl (cA, n, .inr (.inl f)))) (ht : tys[t0]? = some (cA, .long)) {i : Int32} {x : Int64} (hout : ¬ vp_in i n) (hdg : decode cc pc = .ok (.lastore, 1))
    (k : ∀ tx : String, tx = (toString "Index " ++ toString i ++ toString " out of bounds for length " ++ toString n : String) → vx_Note p l e R s m args below meth c H locs cells slots Q (F0 m pc ls rest) "java/lang/ArrayIndexOutOfBoundsException" tx) : W p l e R s m args below meth c H locs cells slots Q (F0 m pc ls (.long x :: .int i :: .ref a :: rest)) := by
  intro T hT X
  obtain ⟨t, st, q⟩ := k _ rfl T hT X
  refine ⟨t, ?_, q⟩
  have h1 := X.lastoreOut hexec (by rw [hT]; exact hP q0 _ ha) ((hK.2 t0 _ ht).1 n (fun j => .long (f j))) (j := i) (by show (i < 0 ∨ (arrV _ _ _).slots.size ≤ _); rw [arrV_size]; exact Classical.byContradiction hout) (g := F0 m pc ls (.long x :: .int i :: .ref a :: rest)) rfl (rest := rest) rfl (by rw [hb]; exact hdg) t
  simp only [arrV_size] at h1
  exact h1 st
theorem vx_faldZ {D : va_G} {cl : List vw_C} {ws : va_W} {tys : List (ClassId × FieldType)} {a : Nat} (hexec : p.tables.exec = Jvm.exec) (hb : c.code = cc) (hK : va_K D cl tys s) (hP : va_P D cl ws H) (q0 t0 : Nat) {cA : ClassId} {n : Nat} {f : Nat → UInt32} (ha : ws[q0]? = some (a, .inl (cA, n, .inr (.inr (.inl f))))) (ht : tys[t0]? = some (cA, .float)) {i : Int32} (hout : ¬ vp_in i n) (hdg : decode cc pc = .ok (.faload, 1))
    (k : ∀ tx : String, tx = (toString "Index " ++ toString i ++ toString " out of bounds for length " ++ toString n : String) → vx_Note p l e R s m args below meth c H locs cells slots Q (F0 m pc ls rest) "java/lang/ArrayIndexOutOfBoundsException" tx) : W p l e R s m args below meth c H locs cells slots Q (F0 m pc ls (.int i :: .ref a :: rest)) := by
  intro T hT X
  obtain ⟨t, st, q⟩ := k _ rfl T hT X
  refine ⟨t, ?_, q⟩
  have h1 := X.faloadOut hexec (by rw [hT]; exact hP q0 _ ha) ((hK.2 t0 _ ht).1 n (fun j => .float (f j))) (j := i) (by show (i < 0 ∨ (arrV _ _ _).slots.size ≤ _); rw [arrV_size]; exact Classical.byContradiction hout) (g := F0 m pc ls (.int i :: .ref a :: rest)) rfl (rest := rest) rfl (by rw [hb]; exact hdg) t
  simp only [arrV_size] at h1
  exact h1 st
theorem vx_fastZ {D : va_G} {cl : List vw_C} {ws : va_W} {tys : List (ClassId × FieldType)} {a : Nat} (hexec : p.tables.exec = Jvm.exec) (hb : c.code = cc) (hK : va_K D cl tys s) (hP : va_P D cl ws H) (q0 t0 : Nat) {cA : ClassId} {n : Nat} {f : Nat → UInt32} (ha : ws[q0]? = some (a, .inl (cA, n, .inr (.inr (.inl f))))) (ht : tys[t0]? = some (cA, .float)) {i : Int32} {x : UInt32} (hout : ¬ vp_in i n) (hdg : decode cc pc = .ok (.fastore, 1))
    (k : ∀ tx : String, tx = (toString "Index " ++ toString i ++ toString " out of bounds for length " ++ toString n : String) → vx_Note p l e R s m args below meth c H locs cells slots Q (F0 m pc ls rest) "java/lang/ArrayIndexOutOfBoundsException" tx) : W p l e R s m args below meth c H locs cells slots Q (F0 m pc ls (.float x :: .int i :: .ref a :: rest)) := by
  intro T hT X
  obtain ⟨t, st, q⟩ := k _ rfl T hT X
  refine ⟨t, ?_, q⟩
  have h1 := X.fastoreOut hexec (by rw [hT]; exact hP q0 _ ha) ((hK.2 t0 _ ht).1 n (fun j => .float (f j))) (j := i) (by show (i < 0 ∨ (arrV _ _ _).slots.size ≤ _); rw [arrV_size]; exact Classical.byContradiction hout) (g := F0 m pc ls (.float x :: .int i :: .ref a :: rest)) rfl (rest := rest) rfl (by rw [hb]; exact hdg) t
  simp only [arrV_size] at h1
  exact h1 st
theorem vx_daldZ {D : va_G} {cl : List vw_C} {ws : va_W} {tys : List (ClassId × FieldType)} {a : Nat} (hexec : p.tables.exec = Jvm.exec) (hb : c.code = cc) (hK : va_K D cl tys s) (hP : va_P D cl ws H) (q0 t0 : Nat) {cA : ClassId} {n : Nat} {f : Nat → UInt64} (ha : ws[q0]? = some (a, .inl (cA, n, .inr (.inr (.inr (.inl f)))))) (ht : tys[t0]? = some (cA, .double)) {i : Int32} (hout : ¬ vp_in i n) (hdg : decode cc pc = .ok (.daload, 1))
    (k : ∀ tx : String, tx = (toString "Index " ++ toString i ++ toString " out of bounds for length " ++ toString n : String) → vx_Note p l e R s m args below meth c H locs cells slots Q (F0 m pc ls rest) "java/lang/ArrayIndexOutOfBoundsException" tx) : W p l e R s m args below meth c H locs cells slots Q (F0 m pc ls (.int i :: .ref a :: rest)) := by
  intro T hT X
  obtain ⟨t, st, q⟩ := k _ rfl T hT X
  refine ⟨t, ?_, q⟩
  have h1 := X.daloadOut hexec (by rw [hT]; exact hP q0 _ ha) ((hK.2 t0 _ ht).1 n (fun j => .double (f j))) (j := i) (by show (i < 0 ∨ (arrV _ _ _).slots.size ≤ _); rw [arrV_size]; exact Classical.byContradiction hout) (g := F0 m pc ls (.int i :: .ref a :: rest)) rfl (rest := rest) rfl (by rw [hb]; exact hdg) t
  simp only [arrV_size] at h1
  exact h1 st
theorem vx_dastZ {D : va_G} {cl : List vw_C} {ws : va_W} {tys : List (ClassId × FieldType)} {a : Nat} (hexec : p.tables.exec = Jvm.exec) (hb : c.code = cc) (hK : va_K D cl tys s) (hP : va_P D cl ws H) (q0 t0 : Nat) {cA : ClassId} {n : Nat} {f : Nat → UInt64} (ha : ws[q0]? = some (a, .inl (cA, n, .inr (.inr (.inr (.inl f)))))) (ht : tys[t0]? = some (cA, .double)) {i : Int32} {x : UInt64} (hout : ¬ vp_in i n) (hdg : decode cc pc = .ok (.dastore, 1))
    (k : ∀ tx : String, tx = (toString "Index " ++ toString i ++ toString " out of bounds for length " ++ toString n : String) → vx_Note p l e R s m args below meth c H locs cells slots Q (F0 m pc ls rest) "java/lang/ArrayIndexOutOfBoundsException" tx) : W p l e R s m args below meth c H locs cells slots Q (F0 m pc ls (.double x :: .int i :: .ref a :: rest)) := by
  intro T hT X
  obtain ⟨t, st, q⟩ := k _ rfl T hT X
  refine ⟨t, ?_, q⟩
  have h1 := X.dastoreOut hexec (by rw [hT]; exact hP q0 _ ha) ((hK.2 t0 _ ht).1 n (fun j => .double (f j))) (j := i) (by show (i < 0 ∨ (arrV _ _ _).slots.size ≤ _); rw [arrV_size]; exact Classical.byContradiction hout) (g := F0 m pc ls (.double x :: .int i :: .ref a :: rest)) rfl (rest := rest) rfl (by rw [hb]; exact hdg) t
  simp only [arrV_size] at h1
  exact h1 st
theorem vx_arraylengthN (hexec : p.tables.exec = Jvm.exec) (hb : c.code = cc) (hdg : decode cc pc = .ok (.arraylength, 1)) (k : vx_NoteN p l e R s m args below meth c H locs cells slots Q (F0 m pc ls rest)) : W p l e R s m args below meth c H locs cells slots Q (F0 m pc ls (.null :: rest)) := by
  intro T hT X
  obtain ⟨t, st, q⟩ := k T hT X
  exact ⟨t, X.arraylengthNull hexec (g := F0 m pc ls (.null :: rest)) rfl (rest := rest) rfl (by rw [hb]; exact hdg) t st, q⟩
theorem vx_ialoadN (hexec : p.tables.exec = Jvm.exec) (hb : c.code = cc) {i : Int32} (hdg : decode cc pc = .ok (.iaload, 1)) (k : vx_NoteN p l e R s m args below meth c H locs cells slots Q (F0 m pc ls rest)) : W p l e R s m args below meth c H locs cells slots Q (F0 m pc ls (.int i :: .null :: rest)) := by
  intro T hT X
  obtain ⟨t, st, q⟩ := k T hT X
  exact ⟨t, X.ialoadNull hexec (g := F0 m pc ls (.int i :: .null :: rest)) rfl (rest := rest) rfl (by rw [hb]; exact hdg) t st, q⟩
theorem vx_laloadN (hexec : p.tables.exec = Jvm.exec) (hb : c.code = cc) {i : Int32} (hdg : decode cc pc = .ok (.laload, 1)) (k : vx_NoteN p l e R s m args below meth c H locs cells slots Q (F0 m pc ls rest)) : W p l e R s m args below meth c H locs cells slots Q (F0 m pc ls (.int i :: .null :: rest)) := by
  intro T hT X
  obtain ⟨t, st, q⟩ := k T hT X
  exact ⟨t, X.laloadNull hexec (g := F0 m pc ls (.int i :: .null :: rest)) rfl (rest := rest) rfl (by rw [hb]; exact hdg) t st, q⟩
theorem vx_faloadN (hexec : p.tables.exec = Jvm.exec) (hb : c.code = cc) {i : Int32} (hdg : decode cc pc = .ok (.faload, 1)) (k : vx_NoteN p l e R s m args below meth c H locs cells slots Q (F0 m pc ls rest)) : W p l e R s m args below meth c H locs cells slots Q (F0 m pc ls (.int i :: .null :: rest)) := by
  intro T hT X
  obtain ⟨t, st, q⟩ := k T hT X
  exact ⟨t, X.faloadNull hexec (g := F0 m pc ls (.int i :: .null :: rest)) rfl (rest := rest) rfl (by rw [hb]; exact hdg) t st, q⟩
theorem vx_daloadN (hexec : p.tables.exec = Jvm.exec) (hb : c.code = cc) {i : Int32} (hdg : decode cc pc = .ok (.daload, 1)) (k : vx_NoteN p l e R s m args below meth c H locs cells slots Q (F0 m pc ls rest)) : W p l e R s m args below meth c H locs cells slots Q (F0 m pc ls (.int i :: .null :: rest)) := by
  intro T hT X
  obtain ⟨t, st, q⟩ := k T hT X
  exact ⟨t, X.daloadNull hexec (g := F0 m pc ls (.int i :: .null :: rest)) rfl (rest := rest) rfl (by rw [hb]; exact hdg) t st, q⟩
theorem vx_aaloadN (hexec : p.tables.exec = Jvm.exec) (hb : c.code = cc) {i : Int32} (hdg : decode cc pc = .ok (.aaload, 1)) (k : vx_NoteN p l e R s m args below meth c H locs cells slots Q (F0 m pc ls rest)) : W p l e R s m args below meth c H locs cells slots Q (F0 m pc ls (.int i :: .null :: rest)) := by
  intro T hT X
  obtain ⟨t, st, q⟩ := k T hT X
  exact ⟨t, X.aaloadNull hexec (g := F0 m pc ls (.int i :: .null :: rest)) rfl (rest := rest) rfl (by rw [hb]; exact hdg) t st, q⟩
theorem vx_baloadN (hexec : p.tables.exec = Jvm.exec) (hb : c.code = cc) {i : Int32} (hdg : decode cc pc = .ok (.baload, 1)) (k : vx_NoteN p l e R s m args below meth c H locs cells slots Q (F0 m pc ls rest)) : W p l e R s m args below meth c H locs cells slots Q (F0 m pc ls (.int i :: .null :: rest)) := by
  intro T hT X
  obtain ⟨t, st, q⟩ := k T hT X
  exact ⟨t, X.baloadNull hexec (g := F0 m pc ls (.int i :: .null :: rest)) rfl (rest := rest) rfl (by rw [hb]; exact hdg) t st, q⟩
theorem vx_caloadN (hexec : p.tables.exec = Jvm.exec) (hb : c.code = cc) {i : Int32} (hdg : decode cc pc = .ok (.caload, 1)) (k : vx_NoteN p l e R s m args below meth c H locs cells slots Q (F0 m pc ls rest)) : W p l e R s m args below meth c H locs cells slots Q (F0 m pc ls (.int i :: .null :: rest)) := by
  intro T hT X
  obtain ⟨t, st, q⟩ := k T hT X
  exact ⟨t, X.caloadNull hexec (g := F0 m pc ls (.int i :: .null :: rest)) rfl (rest := rest) rfl (by rw [hb]; exact hdg) t st, q⟩
theorem vx_saloadN (hexec : p.tables.exec = Jvm.exec) (hb : c.code = cc) {i : Int32} (hdg : decode cc pc = .ok (.saload, 1)) (k : vx_NoteN p l e R s m args below meth c H locs cells slots Q (F0 m pc ls rest)) : W p l e R s m args below meth c H locs cells slots Q (F0 m pc ls (.int i :: .null :: rest)) := by
  intro T hT X
  obtain ⟨t, st, q⟩ := k T hT X
  exact ⟨t, X.saloadNull hexec (g := F0 m pc ls (.int i :: .null :: rest)) rfl (rest := rest) rfl (by rw [hb]; exact hdg) t st, q⟩
theorem vx_iastoreN (hexec : p.tables.exec = Jvm.exec) (hb : c.code = cc) {x : Int32} {i : Int32} (hdg : decode cc pc = .ok (.iastore, 1)) (k : vx_NoteN p l e R s m args below meth c H locs cells slots Q (F0 m pc ls rest)) : W p l e R s m args below meth c H locs cells slots Q (F0 m pc ls (.int x :: .int i :: .null :: rest)) := by
  intro T hT X
  obtain ⟨t, st, q⟩ := k T hT X
  exact ⟨t, X.iastoreNull hexec (g := F0 m pc ls (.int x :: .int i :: .null :: rest)) rfl (rest := rest) rfl (by rw [hb]; exact hdg) t st, q⟩
theorem vx_lastoreN (hexec : p.tables.exec = Jvm.exec) (hb : c.code = cc) {x : Int64} {i : Int32} (hdg : decode cc pc = .ok (.lastore, 1)) (k : vx_NoteN p l e R s m args below meth c H locs cells slots Q (F0 m pc ls rest)) : W p l e R s m args below meth c H locs cells slots Q (F0 m pc ls (.long x :: .int i :: .null :: rest)) := by
  intro T hT X
  obtain ⟨t, st, q⟩ := k T hT X
  exact ⟨t, X.lastoreNull hexec (g := F0 m pc ls (.long x :: .int i :: .null :: rest)) rfl (rest := rest) rfl (by rw [hb]; exact hdg) t st, q⟩
theorem vx_fastoreN (hexec : p.tables.exec = Jvm.exec) (hb : c.code = cc) {x : UInt32} {i : Int32} (hdg : decode cc pc = .ok (.fastore, 1)) (k : vx_NoteN p l e R s m args below meth c H locs cells slots Q (F0 m pc ls rest)) : W p l e R s m args below meth c H locs cells slots Q (F0 m pc ls (.float x :: .int i :: .null :: rest)) := by
  intro T hT X
  obtain ⟨t, st, q⟩ := k T hT X
  exact ⟨t, X.fastoreNull hexec (g := F0 m pc ls (.float x :: .int i :: .null :: rest)) rfl (rest := rest) rfl (by rw [hb]; exact hdg) t st, q⟩
theorem vx_dastoreN (hexec : p.tables.exec = Jvm.exec) (hb : c.code = cc) {x : UInt64} {i : Int32} (hdg : decode cc pc = .ok (.dastore, 1)) (k : vx_NoteN p l e R s m args below meth c H locs cells slots Q (F0 m pc ls rest)) : W p l e R s m args below meth c H locs cells slots Q (F0 m pc ls (.double x :: .int i :: .null :: rest)) := by
  intro T hT X
  obtain ⟨t, st, q⟩ := k T hT X
  exact ⟨t, X.dastoreNull hexec (g := F0 m pc ls (.double x :: .int i :: .null :: rest)) rfl (rest := rest) rfl (by rw [hb]; exact hdg) t st, q⟩
theorem vx_bastoreN (hexec : p.tables.exec = Jvm.exec) (hb : c.code = cc) {x : Int32} {i : Int32} (hdg : decode cc pc = .ok (.bastore, 1)) (k : vx_NoteN p l e R s m args below meth c H locs cells slots Q (F0 m pc ls rest)) : W p l e R s m args below meth c H locs cells slots Q (F0 m pc ls (.int x :: .int i :: .null :: rest)) := by
  intro T hT X
  obtain ⟨t, st, q⟩ := k T hT X
  exact ⟨t, X.bastoreNull hexec (g := F0 m pc ls (.int x :: .int i :: .null :: rest)) rfl (rest := rest) rfl (by rw [hb]; exact hdg) t st, q⟩
theorem vx_castoreN (hexec : p.tables.exec = Jvm.exec) (hb : c.code = cc) {x : Int32} {i : Int32} (hdg : decode cc pc = .ok (.castore, 1)) (k : vx_NoteN p l e R s m args below meth c H locs cells slots Q (F0 m pc ls rest)) : W p l e R s m args below meth c H locs cells slots Q (F0 m pc ls (.int x :: .int i :: .null :: rest)) := by
  intro T hT X
  obtain ⟨t, st, q⟩ := k T hT X
  exact ⟨t, X.castoreNull hexec (g := F0 m pc ls (.int x :: .int i :: .null :: rest)) rfl (rest := rest) rfl (by rw [hb]; exact hdg) t st, q⟩
theorem vx_sastoreN (hexec : p.tables.exec = Jvm.exec) (hb : c.code = cc) {x : Int32} {i : Int32} (hdg : decode cc pc = .ok (.sastore, 1)) (k : vx_NoteN p l e R s m args below meth c H locs cells slots Q (F0 m pc ls rest)) : W p l e R s m args below meth c H locs cells slots Q (F0 m pc ls (.int x :: .int i :: .null :: rest)) := by
  intro T hT X
  obtain ⟨t, st, q⟩ := k T hT X
  exact ⟨t, X.sastoreNull hexec (g := F0 m pc ls (.int x :: .int i :: .null :: rest)) rfl (rest := rest) rfl (by rw [hb]; exact hdg) t st, q⟩
theorem vx_invokeN {own C : String} {index maxL : Nat} {y : MethodName} {bytes : ByteArray} {ret : Option FieldType} (hexec : p.tables.exec = Jvm.exec) (hb : c.code = cc) (hown : s.vm.findClass own = some m.cls) (hlink : (Cond.methodLink own index y).before args s = true) (hinst : (Cond.instanceMethod y).before args s = true) (hcode : (Cond.code y bytes maxL ret).before args s = true) (hsel : (Cond.selects C y y).before args s = true)
    (hx : y.cls ≠ "java/lang/invoke/MethodHandle" ∧ y.cls ≠ "java/lang/invoke/VarHandle") {As : List Value} (hlen : (parseMethodDescriptor y.desc).map (fun d => d.parameters.length) = some As.length) (hdg : decode cc pc = .ok (.invokevirtual index, 3))
    (k : vx_NoteN p l e R s m args below meth c H locs cells slots Q (F0 m pc ls rest)) {st0 : List Value} (hst : st0 = As.reverse ++ .null :: rest) : W p l e R s m args below meth c H locs cells slots Q (F0 m pc ls st0) := by
  intro T hT X
  obtain ⟨r0, r, hn, hrm, hstR, hsigR⟩ := va_Decl.of hinst hcode
  obtain ⟨c2, r2, m2, q1, q2, q3, q4, kP, hkP, hkPi⟩ := Cond.selects_spec hsel
  cases hn.symm.trans q3
  have hl9 : As.length = r.sig.parameters.length := by
    rw [hsigR] at hlen
    exact (Option.some.inj hlen).symm
  obtain ⟨vm', X1, st1⟩ := X.invokevirtualNull hexec hown hlink hn hrm hstR hkP hkPi hx (g := F0 m pc ls st0) rfl (argsL := As) (rest := rest) hl9 hst (by rw [hb]; exact hdg)
  obtain ⟨t, st, q⟩ := k (T.setVm vm') hT X1
  exact ⟨t, st1 t st, q⟩
theorem vx_newarrayZ {atype : ArrayType} (hexec : p.tables.exec = Jvm.exec) (hb : c.code = cc) {n : Int32} (h0 : n < 0) (hdg : decode cc pc = .ok (.newarray atype, 2)) (k : ∀ tx : String, tx = toString n → vx_Note p l e R s m args below meth c H locs cells slots Q (F0 m pc ls rest) "java/lang/NegativeArraySizeException" tx) : W p l e R s m args below meth c H locs cells slots Q (F0 m pc ls (.int n :: rest)) := by
  intro T hT X
  obtain ⟨t, st, q⟩ := k _ rfl T hT X
  exact ⟨t, X.newarrayNegative hexec (g := F0 m pc ls (.int n :: rest)) rfl h0 (rest := rest) rfl (by rw [hb]; exact hdg) t st, q⟩
end
end VXM
/-! ===== END ===== -/
/-! ===== BEGIN an exception as an object: made, kept, thrown later (no traces kept) ===== -/
section VXK
variable {p : Program} {l : Launch} {e : Env} {R : Room} {s : State} {m₀ : MethodId} {args : Array Value} {below : List Frame} {meth : Method} {c : Code} {W : State} {locs : List Loc} {cells slots : Nat}
set_option maxHeartbeats 1000000 in
theorem vx_ctorMadeS (X : Stand p l e R s m₀ args below meth c W locs cells slots) (hexec : p.tables.exec = Jvm.exec) (htr : e.platform.stackTraces = false) {own cls : String} {names : List String} {ic : Nat}
    (hown : s.vm.findClass own = some m₀.cls) (hcls : Bundle.fit cls = true) (hnames : ∀ n ∈ names, Bundle.fit n = true)
    (h : ∀ a ∈ Bundle.ownAtoms own ic cls names, a.before args s = true)
    (hlocs : ∀ x ∈ locs, ∀ cell, s.heap[x.base]? = some cell → cell.vm.isStatics = false)
    {a : Addr} {cX : ClassId} {kX : Class} (hfoundX : s.vm.findClass cls = some cX) (hkX : s.vm.classes[cX]? = some kX) (hcell : W.heap[a]? = some (freshCell cX kX)) (hnew : s.heap.size ≤ a)
    {msg : Value} (hmsg : msg.isRef = true)
    {g : JFrame} (hg : g.method = m₀) (hsize : g.locals.size = c.maxLocals) {rest : List Value} (hstack : g.stack = msg :: .ref a :: .ref a :: rest)
    (hd6 : decode c.code g.pc = .ok (.invokespecial ic, 3))
    (hRframes : names.length + 3 < R.frames) (hRlocals : 2 * g.monitorRoom + ((Value.ref a :: rest).map fun v => v.category).sum + (13 * (names.length + 1) + 42) ≤ R.locals) :
    ∃ (V : State) (ce : Cell) (L : List Loc), Stand p l e R s m₀ args below meth c (V.setCell a ce) (locs ++ L) cells slots ∧ (∀ y ∈ L, y.base = a) ∧ a < V.heap.size ∧ ce.cls = cX ∧ ce.vm = .none ∧
      ∀ target, Steps p.tables e below ((V.setCell a ce).setTop { g with stack := .ref a :: rest, pc := g.pc + 3 }) target → Steps p.tables e below (W.setTop g) target := by
  have howns : e.platform.frameOwnsMonitors = true := by rw [X.admits.platform]
  have hfin : e.platform.finalization = false := by rw [X.admits.platform]
  have hpl : e.platform.magicAccessors = ({} : Platform).magicAccessors := by rw [X.admits.platform]
  have a' : ∀ x, x ∈ Bundle.ownAtoms own ic cls names → x.holds args s none s [] = true := fun x hx => h x hx
  obtain ⟨T, Z0, L, -, Y⟩ := ThrowableC.of_atoms (args := args) howns hfin hpl (fun x hx => h x (by simp [Bundle.ownAtoms, hx]))
  obtain ⟨Z, M, LZ, LM, hnZ⟩ := Init0T.ofS_atoms (args := args) hpl L Y (fun x hx => h x (by simp [Bundle.ownAtoms, hx]))
  obtain ⟨P1, Ps, hlen, L1, hL, hP1m, hlink1, hlink⟩ := Bundle.chainS (args := args) hpl hnZ names cls hcls hnames (fun x hx => h x (by simp [Bundle.ownAtoms, hx]))
  have hfound : s.vm.findClass cls = some P1.m.cls := findClass_of_methodNamed hP1m
  cases Option.some.inj (hfoundX.symm.trans hfound)
  obtain ⟨c1, kX', hc1, hk, hord, -, -, hn6⟩ := Cond.instantiable_spec (a' (.instantiable cls 6) (by simp [Bundle.ownAtoms]))
  cases Option.some.inj (hc1.symm.trans hfound)
  cases Option.some.inj (hkX.symm.trans hk)
  have hsel0 : selectMethod e.platform s.vm P1.m.cls T.fill0 = .method T.fill0 := by
    obtain ⟨c2, r2, m2, q1, q2, q3, q4, -⟩ := Cond.selects_spec (a' (.selects cls Bundle.tFill0 Bundle.tFill0) (by simp [Bundle.ownAtoms]))
    cases Option.some.inj (q1.symm.trans hfound)
    cases Option.some.inj (q2.symm.trans (State.methodFound?_of_named Y.fill0 (by decide)))
    cases Option.some.inj (q3.symm.trans Y.fill0)
    rw [Launch.admits_selectMethod X.admits]; exact q4
  have hselF : selectMethod e.platform s.vm P1.m.cls T.fill = .method T.fill := by
    obtain ⟨c2, r2, m2, q1, q2, q3, q4, -⟩ := Cond.selects_spec (a' (.selects cls Bundle.tFill Bundle.tFill) (by simp [Bundle.ownAtoms]))
    cases Option.some.inj (q1.symm.trans hfound)
    cases Option.some.inj (q2.symm.trans (State.methodFound?_of_named Y.fill (by decide)))
    cases Option.some.inj (q3.symm.trans Y.fill)
    rw [Launch.admits_selectMethod X.admits]; exact q4
  obtain ⟨cellS0, hcS0, hiss⟩ := Y.statics
  obtain ⟨u0, hu0⟩ := Cond.staticRefV Y.unassigned L.unassignedStatic L.statics hcS0 hiss (a' (.isRef (.static Bundle.tN "UNASSIGNED_STACK" Bundle.steD)) (by simp [Bundle.ownAtoms]))
  obtain ⟨sen, hsen⟩ := Cond.staticRefV Y.sentinel L.sentinelStatic L.statics hcS0 hiss (a' (.isRef (.static Bundle.tN "SUPPRESSED_SENTINEL" Bundle.listD)) (by simp [Bundle.ownAtoms]))
  obtain ⟨ci198, i198, fB, hk198, hg198, ha198, hsB, -, hnB, htB, hffB⟩ := Cond.ownField (t := .object "java/lang/Object") Y.found L.cls (by decide +kernel) (a' (.fieldLink Bundle.tN 198 Bundle.tN "backtrace" "Ljava/lang/Object;") (by simp [Bundle.ownAtoms])) (a' (.lays Bundle.tN Bundle.tN "backtrace" "Ljava/lang/Object;") (by simp [Bundle.ownAtoms])) e.platform hpl
  obtain ⟨cellS, hcS', heS, -, hkeep⟩ := X.same.2.2.2.2.2 T.aS cellS0 hcS0
  have hcellS : W.heap[T.aS]? = some cellS := hcS'
  have hout' : ∀ i, (⟨T.aS, i⟩ : Loc) ∉ locs := fun i hmem => by
    have := hlocs _ hmem cellS0 hcS0
    rw [hiss] at this; cases this
  have hknownS : cellS.vm ≠ .unknown := by
    rw [heS]; intro hu
    rw [show cellS0.vm = .unknown from hu] at hiss
    cases hiss
  have hneS : T.aS ≠ a := Nat.ne_of_lt (Nat.lt_of_lt_of_le (Array.getElem?_eq_some_iff.mp hcS0).1 hnew)
  obtain ⟨iM, hffM⟩ := Y.msg
  obtain ⟨tyC, dC, hdC, hdnC⟩ := Cond.laysAt hfound hk Y.cause (a' (.lays cls Bundle.tN "cause" "Ljava/lang/Throwable;") (by simp [Bundle.ownAtoms]))
  obtain ⟨tyS, dS, hdS, hdnS⟩ := Cond.laysAt hfound hk Y.stack (a' (.lays cls Bundle.tN "stackTrace" Bundle.steD) (by simp [Bundle.ownAtoms]))
  obtain ⟨tyP, dP, hdP, hdnP⟩ := Cond.laysAt hfound hk Y.supp (a' (.lays cls Bundle.tN "suppressedExceptions" Bundle.listD) (by simp [Bundle.ownAtoms]))
  obtain ⟨tyM, dM, hdM, hdnM⟩ := Cond.laysAt hfound hk hffM (a' (.lays cls Bundle.tN "detailMessage" "Ljava/lang/String;") (by simp [Bundle.ownAtoms]))
  obtain ⟨tyB, dB, hdB, hdnB⟩ := Cond.laysAt hfound hk hffB (a' (.lays cls Bundle.tN "backtrace" "Ljava/lang/Object;") (by simp [Bundle.ownAtoms]))
  have bC := Cond.laysApart hdB hdC hdnB hdnC (by rw [hnB, Y.causeName]; decide)
  have bS := Cond.laysApart hdB hdS hdnB hdnS (by rw [hnB, Y.stackName]; decide)
  have bP := Cond.laysApart hdB hdP hdnB hdnP (by rw [hnB, Y.suppName]; decide)
  have hskip : SkipFacts T e.platform s (fun u => u) u0 ((preparedCellV T.toThrowableT (freshCell P1.m.cls kX) a u0 sen).withEntry W.cur) :=
    ⟨{ ci198 := ci198, i198 := i198, fBack := fB }, ⟨hk198, hg198, ha198, hsB⟩, by
      have := fresh_default (c := P1.m.cls) tyB
      rw [htB] at this
      simpa [preparedCellV, Cell.setSlot, Cell.withEntry, Array.getElem?_setIfInBounds, bC, bS, bP, bC.symm, bS.symm, bP.symm, defaultValue] using this, fun _ _ => rfl⟩
  obtain ⟨tm, methC, cdC, kC, vm₁, hnC, -, -, -, -, -, -, -, hW₁, st1⟩ := Steps.initColdS (tb := p.tables) (e := e) (below := below) (s := s) (U := W) X.here hexec X.warmed hpl hown (t := Bundle.initS cls) rfl rfl (Bundle.fit_spec hcls).2
    (a' (.methodLink own ic (Bundle.initS cls)) (by simp [Bundle.ownAtoms])) (h (.instanceMethod (Bundle.initS cls)) (by cases names <;> simp [Bundle.ownAtoms, Bundle.chainSAtoms, Bundle.passSAtoms])) (bytes := Bundle.six) (maxL := 2) (h (.code (Bundle.initS cls) Bundle.six 2 none) (by cases names <;> simp [Bundle.ownAtoms, Bundle.chainSAtoms, Bundle.passSAtoms]))
    (f := g) hg (a := a) (msg := msg) (rest := .ref a :: rest) hstack hd6
  cases Option.some.inj (hnC.symm.trans hP1m)
  have X₁ := X.noted hW₁
  obtain ⟨vm₂, X₂, st2⟩ := X₁.ctorMessageOffV hexec (g := { g with stack := .ref a :: rest }) hg hsize T L Z LZ M LM (P1 :: Ps)
    (fun P hP => by rcases List.mem_cons.mp hP with rfl | hP; exact L1; exact hL P hP) ⟨hlink1, hlink⟩ (u0 := u0) (sen := sen) (self := a) hmsg (cell := freshCell P1.m.cls kX) (cellS := cellS)
    hcell (fun _ => by simp) (by simp) rfl rfl hsel0 hselF hcellS hneS hknownS (by rw [hkeep _ (hout' _)]; exact hu0) (by rw [hkeep _ (hout' _)]; exact hsen)
    (Takes.of_laid hk hord tyC (by rw [Y.causeType]; rfl)) (Takes.of_laid hk hord tyS (by rw [Y.stackType]; exact fits_refV_array _ u0)) (Takes.of_laid hk hord tyP (by rw [Y.suppType]; exact fits_refV_object _ sen))
    (Takes.of_laid hk hord tyM (by rw [Y.msgType]; exact fits_refV_object _ ⟨msg, hmsg⟩)) Y.objLocals hskip htr [] hd6
    (by simp only [List.length_cons, hlen]; omega) (by simp only [List.length_cons, hlen]; exact hRlocals)
  have hlt : a < ((W.setVm vm₁).setVm vm₂).heap.size := (Array.getElem?_eq_some_iff.mp hcell).1
  refine ⟨(W.setVm vm₁).setVm vm₂, _, _, X₂, fun y hy => ?_, hlt, rfl, rfl, fun target hwalk => st1 _ (fun acts => ?_)⟩
  · simp only [List.mem_cons, List.not_mem_nil, or_false] at hy
    rcases hy with rfl | rfl | rfl | rfl | rfl <;> rfl
  · rw [doInvoke_state]
    exact st2 _ hwalk
set_option maxHeartbeats 1000000 in
theorem vx_ctorMade0 (X : Stand p l e R s m₀ args below meth c W locs cells slots) (hexec : p.tables.exec = Jvm.exec) (htr : e.platform.stackTraces = false) {own cls : String} {names : List String} {ic : Nat}
    (hown : s.vm.findClass own = some m₀.cls) (hcls : Bundle.fit cls = true) (hnames : ∀ n ∈ names, Bundle.fit n = true)
    (h : ∀ a ∈ Bundle.ownAtoms0 own ic cls names, a.before args s = true)
    (hlocs : ∀ x ∈ locs, ∀ cell, s.heap[x.base]? = some cell → cell.vm.isStatics = false)
    {a : Addr} {cX : ClassId} {kX : Class} (hfoundX : s.vm.findClass cls = some cX) (hkX : s.vm.classes[cX]? = some kX) (hcell : W.heap[a]? = some (freshCell cX kX)) (hnew : s.heap.size ≤ a)
    {g : JFrame} (hg : g.method = m₀) (hsize : g.locals.size = c.maxLocals) {rest : List Value} (hstack : g.stack = .ref a :: .ref a :: rest)
    (hd6 : decode c.code g.pc = .ok (.invokespecial ic, 3))
    (hRframes : names.length + 3 < R.frames) (hRlocals : 2 * g.monitorRoom + ((Value.ref a :: rest).map fun v => v.category).sum + (13 * (names.length + 1) + 41) ≤ R.locals) :
    ∃ (V : State) (ce : Cell) (L : List Loc), Stand p l e R s m₀ args below meth c (V.setCell a ce) (locs ++ L) cells slots ∧ (∀ y ∈ L, y.base = a) ∧ a < V.heap.size ∧ ce.cls = cX ∧ ce.vm = .none ∧
      ∀ target, Steps p.tables e below ((V.setCell a ce).setTop { g with stack := .ref a :: rest, pc := g.pc + 3 }) target → Steps p.tables e below (W.setTop g) target := by
  have howns : e.platform.frameOwnsMonitors = true := by rw [X.admits.platform]
  have hfin : e.platform.finalization = false := by rw [X.admits.platform]
  have hpl : e.platform.magicAccessors = ({} : Platform).magicAccessors := by rw [X.admits.platform]
  have a' : ∀ x, x ∈ Bundle.ownAtoms0 own ic cls names → x.holds args s none s [] = true := fun x hx => h x hx
  obtain ⟨T, Z, L, LZ, Y⟩ := ThrowableC.of_atoms (args := args) howns hfin hpl (fun x hx => h x (by simp [Bundle.ownAtoms0, hx]))
  obtain ⟨P1, Ps, hlen, L1, hL, hP1m, hlink1, hlink⟩ := Bundle.chain0 (args := args) hpl Y.init0 names cls hcls hnames (fun x hx => h x (by simp [Bundle.ownAtoms0, hx]))
  have hfound : s.vm.findClass cls = some P1.m.cls := findClass_of_methodNamed hP1m
  cases Option.some.inj (hfoundX.symm.trans hfound)
  obtain ⟨c1, kX', hc1, hk, hord, -, -, hn6⟩ := Cond.instantiable_spec (a' (.instantiable cls 6) (by simp [Bundle.ownAtoms0]))
  cases Option.some.inj (hc1.symm.trans hfound)
  cases Option.some.inj (hkX.symm.trans hk)
  have hsel0 : selectMethod e.platform s.vm P1.m.cls T.fill0 = .method T.fill0 := by
    obtain ⟨c2, r2, m2, q1, q2, q3, q4, -⟩ := Cond.selects_spec (a' (.selects cls Bundle.tFill0 Bundle.tFill0) (by simp [Bundle.ownAtoms0]))
    cases Option.some.inj (q1.symm.trans hfound)
    cases Option.some.inj (q2.symm.trans (State.methodFound?_of_named Y.fill0 (by decide)))
    cases Option.some.inj (q3.symm.trans Y.fill0)
    rw [Launch.admits_selectMethod X.admits]; exact q4
  have hselF : selectMethod e.platform s.vm P1.m.cls T.fill = .method T.fill := by
    obtain ⟨c2, r2, m2, q1, q2, q3, q4, -⟩ := Cond.selects_spec (a' (.selects cls Bundle.tFill Bundle.tFill) (by simp [Bundle.ownAtoms0]))
    cases Option.some.inj (q1.symm.trans hfound)
    cases Option.some.inj (q2.symm.trans (State.methodFound?_of_named Y.fill (by decide)))
    cases Option.some.inj (q3.symm.trans Y.fill)
    rw [Launch.admits_selectMethod X.admits]; exact q4
  obtain ⟨cellS0, hcS0, hiss⟩ := Y.statics
  obtain ⟨u0, hu0⟩ := Cond.staticRefV Y.unassigned L.unassignedStatic L.statics hcS0 hiss (a' (.isRef (.static Bundle.tN "UNASSIGNED_STACK" Bundle.steD)) (by simp [Bundle.ownAtoms0]))
  obtain ⟨sen, hsen⟩ := Cond.staticRefV Y.sentinel L.sentinelStatic L.statics hcS0 hiss (a' (.isRef (.static Bundle.tN "SUPPRESSED_SENTINEL" Bundle.listD)) (by simp [Bundle.ownAtoms0]))
  obtain ⟨ci198, i198, fB, hk198, hg198, ha198, hsB, -, hnB, htB, hffB⟩ := Cond.ownField (t := .object "java/lang/Object") Y.found L.cls (by decide +kernel) (a' (.fieldLink Bundle.tN 198 Bundle.tN "backtrace" "Ljava/lang/Object;") (by simp [Bundle.ownAtoms0])) (a' (.lays Bundle.tN Bundle.tN "backtrace" "Ljava/lang/Object;") (by simp [Bundle.ownAtoms0])) e.platform hpl
  obtain ⟨cellS, hcS', heS, -, hkeep⟩ := X.same.2.2.2.2.2 T.aS cellS0 hcS0
  have hcellS : W.heap[T.aS]? = some cellS := hcS'
  have hout' : ∀ i, (⟨T.aS, i⟩ : Loc) ∉ locs := fun i hmem => by
    have := hlocs _ hmem cellS0 hcS0
    rw [hiss] at this; cases this
  have hknownS : cellS.vm ≠ .unknown := by
    rw [heS]; intro hu
    rw [show cellS0.vm = .unknown from hu] at hiss
    cases hiss
  have hneS : T.aS ≠ a := Nat.ne_of_lt (Nat.lt_of_lt_of_le (Array.getElem?_eq_some_iff.mp hcS0).1 hnew)
  obtain ⟨iM, hffM⟩ := Y.msg
  obtain ⟨tyC, dC, hdC, hdnC⟩ := Cond.laysAt hfound hk Y.cause (a' (.lays cls Bundle.tN "cause" "Ljava/lang/Throwable;") (by simp [Bundle.ownAtoms0]))
  obtain ⟨tyS, dS, hdS, hdnS⟩ := Cond.laysAt hfound hk Y.stack (a' (.lays cls Bundle.tN "stackTrace" Bundle.steD) (by simp [Bundle.ownAtoms0]))
  obtain ⟨tyP, dP, hdP, hdnP⟩ := Cond.laysAt hfound hk Y.supp (a' (.lays cls Bundle.tN "suppressedExceptions" Bundle.listD) (by simp [Bundle.ownAtoms0]))
  obtain ⟨tyM, dM, hdM, hdnM⟩ := Cond.laysAt hfound hk hffM (a' (.lays cls Bundle.tN "detailMessage" "Ljava/lang/String;") (by simp [Bundle.ownAtoms0]))
  obtain ⟨tyB, dB, hdB, hdnB⟩ := Cond.laysAt hfound hk hffB (a' (.lays cls Bundle.tN "backtrace" "Ljava/lang/Object;") (by simp [Bundle.ownAtoms0]))
  have bC := Cond.laysApart hdB hdC hdnB hdnC (by rw [hnB, Y.causeName]; decide)
  have bS := Cond.laysApart hdB hdS hdnB hdnS (by rw [hnB, Y.stackName]; decide)
  have bP := Cond.laysApart hdB hdP hdnB hdnP (by rw [hnB, Y.suppName]; decide)
  have hskip : SkipFacts T e.platform s (fun u => u) u0 ((preparedCellV T.toThrowableT (freshCell P1.m.cls kX) a u0 sen).withEntry W.cur) :=
    ⟨{ ci198 := ci198, i198 := i198, fBack := fB }, ⟨hk198, hg198, ha198, hsB⟩, by
      have := fresh_default (c := P1.m.cls) tyB
      rw [htB] at this
      simpa [preparedCellV, Cell.setSlot, Cell.withEntry, Array.getElem?_setIfInBounds, bC, bS, bP, bC.symm, bS.symm, bP.symm, defaultValue] using this, fun _ _ => rfl⟩
  obtain ⟨tm, methC, cdC, kC, vm₁, hnC, -, -, -, -, -, -, -, hW₁, st1⟩ := Steps.initCold (tb := p.tables) (e := e) (below := below) (s := s) (U := W) X.here hexec X.warmed hpl hown (t := Bundle.init0 cls) rfl rfl (Bundle.fit_spec hcls).2
    (a' (.methodLink own ic (Bundle.init0 cls)) (by simp [Bundle.ownAtoms0])) (h (.instanceMethod (Bundle.init0 cls)) (by cases names <;> simp [Bundle.ownAtoms0, Bundle.chain0Atoms, Bundle.passAtoms])) (bytes := Bundle.five) (maxL := 1) (h (.code (Bundle.init0 cls) Bundle.five 1 none) (by cases names <;> simp [Bundle.ownAtoms0, Bundle.chain0Atoms, Bundle.passAtoms]))
    (f := g) hg (a := a) (rest := .ref a :: rest) hstack hd6
  cases Option.some.inj (hnC.symm.trans hP1m)
  have X₁ := X.noted hW₁
  obtain ⟨vm₂, X₂, st2⟩ := X₁.ctorPlainOffV hexec (g := { g with stack := .ref a :: rest }) hg hsize T L Z LZ (P1 :: Ps)
    (fun P hP => by rcases List.mem_cons.mp hP with rfl | hP; exact L1; exact hL P hP) ⟨hlink1, hlink⟩ (u0 := u0) (sen := sen) (self := a) (cell := freshCell P1.m.cls kX) (cellS := cellS)
    hcell (fun _ => by simp) (by simp) rfl rfl hsel0 hselF hcellS hneS hknownS (by rw [hkeep _ (hout' _)]; exact hu0) (by rw [hkeep _ (hout' _)]; exact hsen)
    (Takes.of_laid hk hord tyC (by rw [Y.causeType]; rfl)) (Takes.of_laid hk hord tyS (by rw [Y.stackType]; exact fits_refV_array _ u0)) (Takes.of_laid hk hord tyP (by rw [Y.suppType]; exact fits_refV_object _ sen)) Y.objLocals hskip htr [] hd6
    (by simp only [List.length_cons, hlen]; omega) (by simp only [List.length_cons, hlen]; exact hRlocals)
  have hlt : a < ((W.setVm vm₁).setVm vm₂).heap.size := (Array.getElem?_eq_some_iff.mp hcell).1
  refine ⟨(W.setVm vm₁).setVm vm₂, _, _, X₂, fun y hy => ?_, hlt, rfl, rfl, fun target hwalk => st1 _ (fun acts => ?_)⟩
  · simp only [List.mem_cons, List.not_mem_nil, or_false] at hy
    rcases hy with rfl | rfl | rfl | rfl <;> rfl
  · rw [doInvoke_state]
    exact st2 _ hwalk
end VXK
section VXK2
variable {p : Program} {l : Launch} {e : Env} {R : Room} {s : State} {m : MethodId} {args : Array Value} {below : List Frame} {meth : Method} {c : Code} {H : Heap} {locs : List Loc} {cells slots : Nat} {Q : State → Prop}
variable {ls : Array Slot} {rest : List Value} {D : va_G} {cl : List vw_C} {tys : List (ClassId × FieldType)} {ws : va_W}
/-- 'new E("text")' that isn't thrown at once: the object goes on the stack -/
theorem vx_makeS {cc : ByteArray} {pc : Nat} (hexec : p.tables.exec = Jvm.exec) (hb : c.code = cc) (hl : l.stackTraces = false) {own cls text : String} {names : List String} {ik is ic sa ci : Nat} {A : Nat → Prop} {T0 : u_T}
    (hown : s.vm.findClass own = some m.cls) (hcls : Bundle.fit cls = true) (hnames : ∀ n ∈ names, Bundle.fit n = true)
    (hk : (Cond.classLink own ik cls).before args s = true) (hini : (Cond.initialized cls).before args s = true) (hstr : vk_R own is text sa s) (hat : ∀ w ∈ vx_atS own ic cls names, w.before args s = true)
    (hgood : ∀ w ∈ Cond.classLink own ik cls :: Cond.initialized cls :: vx_atS own ic cls names, vx_ot w = true)
    (hU : vx_Zq Bundle.tN "UNASSIGNED_STACK" Bundle.steD A s s.heap) (hN : vx_Zq Bundle.tN "SUPPRESSED_SENTINEL" Bundle.listD A s s.heap) (hS : va_S A s.heap H locs) (hsize : ls.size = c.maxLocals)
    (d0 : decode cc pc = .ok (.new ik, 3)) (d3 : decode cc (pc + 3) = .ok (.dup, 1)) (d4 : decode cc (pc + 4) = .ok (.ldc is, 2)) (d6 : decode cc (pc + 6) = .ok (.invokespecial ic, 3))
    (hK : va_K D cl tys s) (hP : va_P D cl ws H) (hD : va_D A ws) (hA : ∀ q, s.heap.size ≤ q → A q) (hc : cl[ci]? = some (cls, T0, 0))
    (hRframes : names.length + 3 < R.frames) (hRlocals : (rest.map fun v => v.category).sum + (13 * (names.length + 1) + 43) ≤ R.locals) (hRcells : cells + 1 ≤ R.cells) (hRslots : slots + 6 ≤ R.slots)
    (kk : ∀ (q : Nat) (H1 : Heap), va_P D cl (ws ++ [(q, .inr (ci, []))]) H1 → va_D A (ws ++ [(q, .inr (ci, []))]) → va_S A s.heap H1 locs → W p l e R s m args below meth c H1 locs (cells + 1) (slots + 6) Q (F0 m (pc + 9) ls (.ref q :: rest))) :
    W p l e R s m args below meth c H locs cells slots Q (F0 m pc ls rest) := by
  intro T hT X
  subst hT
  have htr : e.platform.stackTraces = false := (show e.platform.stackTraces = l.stackTraces by rw [X.admits.platform]).trans hl
  have Y := vx_rebase X (R' := { frames := R.frames, locals := R.locals, cells := 1, slots := 6 }) (Nat.le_refl _) (Nat.le_refl _) hRcells hRslots
  obtain ⟨s', hA'⟩ : ∃ z, z = (T.setVm s.vm).setFrames (.invoking m args :: below) := ⟨_, rfl⟩
  rw [← hA'] at Y
  have hvm : s'.vm = s.vm := by rw [hA']; rfl
  have hhp : s'.heap = T.heap := by rw [hA']; rfl
  have hW0 : s.WarmedH s'.vm := by rw [hvm]; exact State.WarmedH.refl s
  have hat' : ∀ w ∈ vx_atS own ic cls names, w.before args s' = true := fun w hw => vx_ot_at hW0 hvm.symm (hgood w (List.mem_cons_of_mem _ (List.mem_cons_of_mem _ hw))) (hat w hw)
  have hk' : (Cond.classLink own ik cls).before args s' = true := vx_ot_at hW0 hvm.symm (hgood _ List.mem_cons_self) hk
  have hini' : (Cond.initialized cls).before args s' = true := vx_ot_at hW0 hvm.symm (hgood _ (List.mem_cons_of_mem _ List.mem_cons_self)) hini
  have hU' : vx_Zq Bundle.tN "UNASSIGNED_STACK" Bundle.steD A s' s'.heap := by rw [hhp]; exact vx_Zq.moved hW0.alike (hU.kept hS.2.1)
  have hN' : vx_Zq Bundle.tN "SUPPRESSED_SENTINEL" Bundle.listD A s' s'.heap := by rw [hhp]; exact vx_Zq.moved hW0.alike (hN.kept hS.2.1)
  have h : ∀ w ∈ Bundle.ownAtoms own ic cls names, w.before args s' = true := vx_own hat' (vx_isRefq hU'.1) (vx_isRefq hN'.1) hU'.2.word hN'.2.word
  have hown' : s'.vm.findClass own = some m.cls := by rw [hvm]; exact hown
  have hins : (Cond.instantiable cls 6).before args s' = true := h _ (by simp [Bundle.ownAtoms])
  obtain ⟨vm₁, cX, kX, hfX, hkX, -, -, X₁, st1⟩ := Y.newCold hexec (own := own) (C := cls) (index := ik) (n := 6) hown' hk' hins hini'
    (g := F0 m pc ls rest) rfl (by rw [hb]; exact d0) (Nat.le_refl _) (Nat.le_refl _)
  generalize hT1 : (T.setVm vm₁).pushCell { cls := cX, slots := kX.instanceTypes.map defaultValue, vm := .none } = T1 at X₁ st1
  have hcat : (Value.ref T.heap.size).category = 1 := rfl
  have hcellA : T1.heap[T.heap.size]? = some (freshCell cX kX) := by rw [← hT1]; exact State.heap_pushCell_size _ _
  have d3' : decode c.code (pc + 3) = .ok (.dup, 1) := by rw [hb]; exact d3
  have d4' : decode c.code (pc + 4) = .ok (.ldc is, 2) := by rw [hb]; exact d4
  have hstr' : vk_R own is text sa s' := vk_R.warm hW0 hstr
  obtain ⟨V, ce, L, Z, hL, hlt, hcl9, hvm9, st⟩ := vx_ctorMadeS X₁ hexec htr (own := own) (cls := cls) (names := names) (ic := ic) hown' hcls hnames h (fun x hx => nomatch hx) hfX hkX hcellA (by rw [hhp]; exact Nat.le_refl _) (msg := .ref sa) rfl
    (g := { method := m, pc := pc + 6, locals := ls, stack := .ref sa :: .ref T.heap.size :: .ref T.heap.size :: rest, locked := none }) rfl hsize (rest := rest) rfl
    (by rw [hb]; exact d6) hRframes (by simp only [List.map_cons, List.sum_cons, hcat]; omega)
  have Z0 := Stand.forget (locs := []) Z (fun y hy => by rw [hL y hy, hhp]; exact Nat.le_refl _)
  obtain ⟨f1, f2⟩ := vx_frame Z0.same
  rw [hhp] at f1 f2
  have hcid : ce.cls = D.1 ci := by
    rw [hcl9]
    have h1 := (hK.1 ci _ hc).2.1
    rw [hvm] at hfX
    exact Option.some.inj (hfX.symm.trans h1)
  have hh : (V.setCell T.heap.size ce).heap[T.heap.size]? = some ce := heapAt_setCell_self (s := V) ce hlt
  subst hA'
  have X5 := vx_back9 X Y Z0
  have X6 : Stand p l e R s m args below meth c (V.setCell T.heap.size ce) locs (cells + 1) (slots + 6) := { X5 with same := X5.same.mono (by omega) (by omega) }
  have hk9 : ∀ (k : Nat) (x : Nat × va_E), ws[k]? = some x → (V.setCell T.heap.size ce).heap[x.1]? = T.heap[x.1]? := fun k x hx => f2 x.1 ((hP k x hx).lt) (fun z hz => nomatch hz)
  obtain ⟨t, a1, b1⟩ := kk T.heap.size (V.setCell T.heap.size ce).heap ((hP.kept hk9).app (fun k x hx => by
      have hz : k < 1 := (List.getElem?_eq_some_iff.mp hx).1
      rw [show k = 0 by omega] at hx
      cases hx
      exact ⟨_, hc, ce, hh, hcid, hvm9, fun k hk => absurd hk (Nat.not_lt_zero k)⟩)) (hD.push hP rfl (hA _ hS.1)) ⟨Nat.le_trans hS.1 f1, fun q h1 h2 => (f2 q (Nat.lt_of_lt_of_le h1 hS.1) (fun z hz => nomatch hz)).trans (hS.2.1 q h1 h2), hS.2.2⟩ _ rfl X6
  refine ⟨t, st1 _ ?_, b1⟩
  show Steps p.tables e below (T1.setTop { method := m, pc := pc + 3, locals := ls, stack := .ref T.heap.size :: rest, locked := none }) _
  jvm_step X₁.here [X₁.here.top, hexec, d3', Value.category]
  exact X₁.ldcString hexec (own := own) (text := text) (index := is) (a := sa) hown' hstr'.1 hstr'.2
    (g := { method := m, pc := pc + 4, locals := ls, stack := .ref T.heap.size :: .ref T.heap.size :: rest, locked := none }) rfl d4' _ (st _ a1)
/-- 'new E()' that isn't thrown at once: the object goes on the stack -/
theorem vx_make0 {cc : ByteArray} {pc : Nat} (hexec : p.tables.exec = Jvm.exec) (hb : c.code = cc) (hl : l.stackTraces = false) {own cls : String} {names : List String} {ik ic ci : Nat} {A : Nat → Prop} {T0 : u_T}
    (hown : s.vm.findClass own = some m.cls) (hcls : Bundle.fit cls = true) (hnames : ∀ n ∈ names, Bundle.fit n = true)
    (hk : (Cond.classLink own ik cls).before args s = true) (hini : (Cond.initialized cls).before args s = true) (hat : ∀ w ∈ vx_at0 own ic cls names, w.before args s = true)
    (hgood : ∀ w ∈ Cond.classLink own ik cls :: Cond.initialized cls :: vx_at0 own ic cls names, vx_ot w = true)
    (hU : vx_Zq Bundle.tN "UNASSIGNED_STACK" Bundle.steD A s s.heap) (hN : vx_Zq Bundle.tN "SUPPRESSED_SENTINEL" Bundle.listD A s s.heap) (hS : va_S A s.heap H locs) (hsize : ls.size = c.maxLocals)
    (d0 : decode cc pc = .ok (.new ik, 3)) (d3 : decode cc (pc + 3) = .ok (.dup, 1)) (d4 : decode cc (pc + 4) = .ok (.invokespecial ic, 3))
    (hK : va_K D cl tys s) (hP : va_P D cl ws H) (hD : va_D A ws) (hA : ∀ q, s.heap.size ≤ q → A q) (hc : cl[ci]? = some (cls, T0, 0))
    (hRframes : names.length + 3 < R.frames) (hRlocals : (rest.map fun v => v.category).sum + (13 * (names.length + 1) + 42) ≤ R.locals) (hRcells : cells + 1 ≤ R.cells) (hRslots : slots + 6 ≤ R.slots)
    (kk : ∀ (q : Nat) (H1 : Heap), va_P D cl (ws ++ [(q, .inr (ci, []))]) H1 → va_D A (ws ++ [(q, .inr (ci, []))]) → va_S A s.heap H1 locs → W p l e R s m args below meth c H1 locs (cells + 1) (slots + 6) Q (F0 m (pc + 7) ls (.ref q :: rest))) :
    W p l e R s m args below meth c H locs cells slots Q (F0 m pc ls rest) := by
  intro T hT X
  subst hT
  have htr : e.platform.stackTraces = false := (show e.platform.stackTraces = l.stackTraces by rw [X.admits.platform]).trans hl
  have Y := vx_rebase X (R' := { frames := R.frames, locals := R.locals, cells := 1, slots := 6 }) (Nat.le_refl _) (Nat.le_refl _) hRcells hRslots
  obtain ⟨s', hA'⟩ : ∃ z, z = (T.setVm s.vm).setFrames (.invoking m args :: below) := ⟨_, rfl⟩
  rw [← hA'] at Y
  have hvm : s'.vm = s.vm := by rw [hA']; rfl
  have hhp : s'.heap = T.heap := by rw [hA']; rfl
  have hW0 : s.WarmedH s'.vm := by rw [hvm]; exact State.WarmedH.refl s
  have hat' : ∀ w ∈ vx_at0 own ic cls names, w.before args s' = true := fun w hw => vx_ot_at hW0 hvm.symm (hgood w (List.mem_cons_of_mem _ (List.mem_cons_of_mem _ hw))) (hat w hw)
  have hk' : (Cond.classLink own ik cls).before args s' = true := vx_ot_at hW0 hvm.symm (hgood _ List.mem_cons_self) hk
  have hini' : (Cond.initialized cls).before args s' = true := vx_ot_at hW0 hvm.symm (hgood _ (List.mem_cons_of_mem _ List.mem_cons_self)) hini
  have hU' : vx_Zq Bundle.tN "UNASSIGNED_STACK" Bundle.steD A s' s'.heap := by rw [hhp]; exact vx_Zq.moved hW0.alike (hU.kept hS.2.1)
  have hN' : vx_Zq Bundle.tN "SUPPRESSED_SENTINEL" Bundle.listD A s' s'.heap := by rw [hhp]; exact vx_Zq.moved hW0.alike (hN.kept hS.2.1)
  have h : ∀ w ∈ Bundle.ownAtoms0 own ic cls names, w.before args s' = true := vx_own hat' (vx_isRefq hU'.1) (vx_isRefq hN'.1) hU'.2.word hN'.2.word
  have hown' : s'.vm.findClass own = some m.cls := by rw [hvm]; exact hown
  have hins : (Cond.instantiable cls 6).before args s' = true := h _ (by simp [Bundle.ownAtoms0])
  obtain ⟨vm₁, cX, kX, hfX, hkX, -, -, X₁, st1⟩ := Y.newCold hexec (own := own) (C := cls) (index := ik) (n := 6) hown' hk' hins hini'
    (g := F0 m pc ls rest) rfl (by rw [hb]; exact d0) (Nat.le_refl _) (Nat.le_refl _)
  generalize hT1 : (T.setVm vm₁).pushCell { cls := cX, slots := kX.instanceTypes.map defaultValue, vm := .none } = T1 at X₁ st1
  have hcat : (Value.ref T.heap.size).category = 1 := rfl
  have hcellA : T1.heap[T.heap.size]? = some (freshCell cX kX) := by rw [← hT1]; exact State.heap_pushCell_size _ _
  have d3' : decode c.code (pc + 3) = .ok (.dup, 1) := by rw [hb]; exact d3
  obtain ⟨V, ce, L, Z, hL, hlt, hcl9, hvm9, st⟩ := vx_ctorMade0 X₁ hexec htr (own := own) (cls := cls) (names := names) (ic := ic) hown' hcls hnames h (fun x hx => nomatch hx) hfX hkX hcellA (by rw [hhp]; exact Nat.le_refl _)
    (g := { method := m, pc := pc + 4, locals := ls, stack := .ref T.heap.size :: .ref T.heap.size :: rest, locked := none }) rfl hsize (rest := rest) rfl
    (by rw [hb]; exact d4) hRframes (by simp only [List.map_cons, List.sum_cons, hcat]; omega)
  have Z0 := Stand.forget (locs := []) Z (fun y hy => by rw [hL y hy, hhp]; exact Nat.le_refl _)
  obtain ⟨f1, f2⟩ := vx_frame Z0.same
  rw [hhp] at f1 f2
  have hcid : ce.cls = D.1 ci := by
    rw [hcl9]
    have h1 := (hK.1 ci _ hc).2.1
    rw [hvm] at hfX
    exact Option.some.inj (hfX.symm.trans h1)
  have hh : (V.setCell T.heap.size ce).heap[T.heap.size]? = some ce := heapAt_setCell_self (s := V) ce hlt
  subst hA'
  have X5 := vx_back9 X Y Z0
  have X6 : Stand p l e R s m args below meth c (V.setCell T.heap.size ce) locs (cells + 1) (slots + 6) := { X5 with same := X5.same.mono (by omega) (by omega) }
  have hk9 : ∀ (k : Nat) (x : Nat × va_E), ws[k]? = some x → (V.setCell T.heap.size ce).heap[x.1]? = T.heap[x.1]? := fun k x hx => f2 x.1 ((hP k x hx).lt) (fun z hz => nomatch hz)
  obtain ⟨t, a1, b1⟩ := kk T.heap.size (V.setCell T.heap.size ce).heap ((hP.kept hk9).app (fun k x hx => by
      have hz : k < 1 := (List.getElem?_eq_some_iff.mp hx).1
      rw [show k = 0 by omega] at hx
      cases hx
      exact ⟨_, hc, ce, hh, hcid, hvm9, fun k hk => absurd hk (Nat.not_lt_zero k)⟩)) (hD.push hP rfl (hA _ hS.1)) ⟨Nat.le_trans hS.1 f1, fun q h1 h2 => (f2 q (Nat.lt_of_lt_of_le h1 hS.1) (fun z hz => nomatch hz)).trans (hS.2.1 q h1 h2), hS.2.2⟩ _ rfl X6
  refine ⟨t, st1 _ ?_, b1⟩
  show Steps p.tables e below (T1.setTop { method := m, pc := pc + 3, locals := ls, stack := .ref T.heap.size :: rest, locked := none }) _
  jvm_step X₁.here [X₁.here.top, hexec, d3', Value.category]
  exact st _ a1
/-- 'throw x' of an object that was made before -/
theorem vx_athrow {cc : ByteArray} {pc : Nat} (hexec : p.tables.exec = Jvm.exec) (hb : c.code = cc) {q : Addr} (hdg : decode cc pc = .ok (.athrow, 1)) (k : vx_W p l e R s m args below meth c H locs cells slots Q (F0 m pc ls rest) q) : W p l e R s m args below meth c H locs cells slots Q (F0 m pc ls (.ref q :: rest)) := by
  intro T hT X
  obtain ⟨t, st, hq⟩ := k T hT X
  refine ⟨t, ?_, hq⟩
  have hdg' : decode c.code pc = .ok (.athrow, 1) := by rw [hb]; exact hdg
  jvm_step X.here [X.here.top, hexec, hdg', athrow.wp_sem]
  exact st
end VXK2
/-! ===== END ===== -/
/-! ===== BEGIN a constructor that throws (launches without stack traces) ===== -/
section VXIA
variable {p : Program} {l : Launch} {e : Env} {R : Room} {s : State} {m : MethodId} {args : Array Value} {below : List Frame} {meth : Method} {c : Code} {T : State} {locs : List Loc} {cells slots : Nat}
theorem vx_callI (X : Stand p l e R s m args below meth c T locs cells slots) (hexec : p.tables.exec = Jvm.exec) {own : String} {index : Nat} {y : MethodName} {bytes : ByteArray} {maxL : Nat}
    (hown : s.vm.findClass own = some m.cls) (hy1 : y.name = "<init>") (hlink : (Cond.methodLink own index y).before args s = true) (hinst : (Cond.instanceMethod y).before args s = true)
    (hcode : (Cond.code y bytes maxL none).before args s = true) (hy : y.cls ≠ "java/lang/invoke/MethodHandle" ∧ y.cls ≠ "java/lang/invoke/VarHandle")
    {W9 : Nat} {Pre : Pt → Array Value → Prop} {Post : Pt → Array Value → Option Value → Pt → Prop} {PostX : Pt → Array Value → Addr → Pt → Prop} (hK : vx_Back l R p e below s args y 3 W9 Pre Post PostX)
    {g : JFrame} (hg : g.method = m) (hsize : g.locals.size = c.maxLocals) {a : Addr} {argsL rest : List Value} (hlen : ∀ sig, parseMethodDescriptor y.desc = some sig → argsL.length = sig.parameters.length)
    (hstack : g.stack = argsL.reverse ++ .ref a :: rest) (hW : 2 * g.monitorRoom + (rest.map fun v => v.category).sum ≤ W9) (hdg : decode c.code g.pc = .ok (.invokespecial index, 3))
    (hpre : ∀ vm₁, s.WarmedH vm₁ → Pre ⟨T.setVm vm₁, locs, cells, slots⟩ (Value.ref a :: argsL).toArray) :
    (∃ (v : Option Value) (vm₁ : Vm) (B : Pt), s.WarmedH vm₁ ∧ Stand p l e R s m args below meth c B.U B.locs B.cells B.slots ∧ Post ⟨T.setVm vm₁, locs, cells, slots⟩ (Value.ref a :: argsL).toArray v B ∧
      ∀ target, Steps p.tables e below (B.U.setTop { g with pc := g.pc + 3, stack := v.toList ++ rest }) target → Steps p.tables e below (T.setTop g) target) ∨
    (∃ (q : Addr) (vm₁ : Vm) (B : Pt), s.WarmedH vm₁ ∧ Stand p l e R s m args below meth c B.U B.locs B.cells B.slots ∧ PostX ⟨T.setVm vm₁, locs, cells, slots⟩ (Value.ref a :: argsL).toArray q B ∧
      Steps p.tables e below (T.setTop g) ((B.U.setTop { g with stack := rest }).pushFrame (.throwing q))) := by
  subst hg
  have hpl : e.platform.magicAccessors = ({} : Platform).magicAccessors := by rw [X.admits.platform]
  obtain ⟨mk, methM, cM, kP, vm₁, hnamed, hmethM, hcodeM, -, hlocalsM, -, hkP, -, hW₁, hstep₁⟩ := Steps.initColdArgs (e := e) X.here hexec X.warmed hpl hown hy1 hy hlink hinst hcode (f := g) rfl hlen hstack hdg
  have X₁ := X.noted hW₁
  rcases hK g.method meth c ⟨T.setVm vm₁, locs, cells, slots⟩ { g with stack := rest } (.invokespecial index) mk (Value.ref a :: argsL).toArray X₁ rfl hsize hdg hW (X₁.named hnamed) (hpre vm₁ X₁.warmed) with ⟨v, B, X', hpost, hsteps⟩ | ⟨q, B, X', hpost, hsteps⟩
  · exact Or.inl ⟨v, vm₁, B, X₁.warmed, X', hpost, fun target h => hstep₁ _ fun acts => by rw [doInvoke_state]; exact hsteps.trans h⟩
  · exact Or.inr ⟨q, vm₁, B, X₁.warmed, X', hpost, hstep₁ _ fun acts => by rw [doInvoke_state]; exact hsteps⟩
end VXIA
section VXIB
variable {p : Program} {l : Launch} {e : Env} {R : Room} {s : State} {m : MethodId} {args : Array Value} {below : List Frame} {meth : Method} {c : Code} {H : Heap} {locs : List Loc} {cells slots : Nat}
variable {y : MethodName} {bytes cc : ByteArray} {maxL nL mc ms n index : Nat} {ret : Option FieldType} {ws : List Cond} {rm : Room} {Pc : Array Value → State → Prop} {Qc : Array Value → State → Outcome → State → Prop} {XC : String → State → State → Prop} {free : Addr → Prop} {Ts : List Cond} {own C : String} {b : Addr} {As rest : List Value} {g : JFrame}
theorem vx_runI (S : CallFix p m c cc nL s args Ts own) (hM : vx_Met l y ws rm Pc Qc XC mc ms free) (cw : CallB R s args own index y bytes maxL none ws rm mc ms n ∧ y.name = "<init>" ∧ (Cond.instanceMethod y).before args s = true) (hp : PreS s H Pc (.ref b :: As))
    (hg : g.method = m) (hn : As.length = n) (hsize : g.locals.size = nL) (hstack : g.stack = As.reverse ++ .ref b :: rest) (hW : 2 * g.monitorRoom + (rest.map fun v => v.category).sum ≤ 8) (hdg : decode cc g.pc = .ok (.invokespecial index, 3)) (hf : cells + mc ≤ R.cells ∧ slots + ms ≤ R.slots) :
    vx_Run p l e R s m args below meth c H locs cells slots mc ms g rest (Qc (Value.ref b :: As).toArray) XC free := by
  have hK : vx_Back l R p e below s args y 3 8 (PreOf R mc ms Pc) (PostOf Qc mc ms free) (vx_Post XC mc ms free) := vx_callBack cw.1 hM hp.1
  obtain ⟨⟨-, -, -, -, -, -, hcode, -, hy, hlen, hl⟩, hy1, hin⟩ := cw
  obtain ⟨hx, hb, hml, ho, -⟩ := S
  have hPc := hp.2
  intro T hT X
  rcases vx_callI X hx (bytes := bytes) (maxL := maxL) ho hy1 hl hin hcode hy hK hg (hsize.trans hml.symm) (a := b) (argsL := As) (rest := rest) (fun sig h => hn.trans (hlen sig h)) hstack hW (by rw [hb]; exact hdg)
    (fun vm₁ hW₁ => ⟨hf.1, hf.2, hPc (T.setVm vm₁) hT hW₁⟩) with ⟨v, vm₁, ⟨U', l2, c2, s2⟩, hW₁, X', ⟨g', mk, t, L, e1, e2, hq, h1, hL, h2, h3⟩, st⟩ | ⟨q, vm₁, ⟨U', l2, c2, s2⟩, hW₁, X', ⟨g', mk, t, L, E, ce, e1, e2, hq, hce, hcv, hcl, h1, hL, h2, h3⟩, st⟩
  · dsimp only [Pt.U, Pt.locs, Pt.cells, Pt.slots] at X' e1 e2 h1 h2 h3 st
    subst h1; subst h2; subst h3
    exact Or.inl ⟨v, (T.setVm vm₁).calling g' mk (Value.ref b :: As).toArray, t, U', L, hT, X', hL, e1, e2, hq, st⟩
  · dsimp only [Pt.U, Pt.locs, Pt.cells, Pt.slots] at X' e1 e2 h1 h2 h3 st hcl
    subst h1; subst h2; subst h3
    exact Or.inr ⟨q, (T.setVm vm₁).calling g' mk (Value.ref b :: As).toArray, t, U', L, E, ce, hT, X', hL, e1, e2, hq, hce, hcv, vx_cls hW₁ hcl, st⟩
end VXIB
/-! ===== END ===== -/
/-! ===== BEGIN a private constructor of a nest mate that throws ===== -/
section VXIC
variable {p : Program} {l : Launch} {e : Env} {R : Room} {s : State} {m : MethodId} {args : Array Value} {below : List Frame} {meth : Method} {c : Code} {T : State} {locs : List Loc} {cells slots : Nat}
theorem vx_callIN (X : Stand p l e R s m args below meth c T locs cells slots) (hexec : p.tables.exec = Jvm.exec) {own : String} {index : Nat} {host : String} {y : MethodName} {bytes : ByteArray} {maxL : Nat}
    (hown : s.vm.findClass own = some m.cls) (hy1 : y.name = "<init>") (hlink : (Cond.methodLinkNest own index y host).before args s = true) (hinst : (Cond.instanceMethod y).before args s = true)
    (hcode : (Cond.code y bytes maxL none).before args s = true) (hy : y.cls ≠ "java/lang/invoke/MethodHandle" ∧ y.cls ≠ "java/lang/invoke/VarHandle")
    {W9 : Nat} {Pre : Pt → Array Value → Prop} {Post : Pt → Array Value → Option Value → Pt → Prop} {PostX : Pt → Array Value → Addr → Pt → Prop} (hK : vx_Back l R p e below s args y 3 W9 Pre Post PostX)
    {g : JFrame} (hg : g.method = m) (hsize : g.locals.size = c.maxLocals) {a : Addr} {argsL rest : List Value} (hlen : ∀ sig, parseMethodDescriptor y.desc = some sig → argsL.length = sig.parameters.length)
    (hstack : g.stack = argsL.reverse ++ .ref a :: rest) (hW : 2 * g.monitorRoom + (rest.map fun v => v.category).sum ≤ W9) (hdg : decode c.code g.pc = .ok (.invokespecial index, 3))
    (hpre : ∀ vm₁, s.WarmedH vm₁ → Pre ⟨T.setVm vm₁, locs, cells, slots⟩ (Value.ref a :: argsL).toArray) :
    (∃ (v : Option Value) (vm₁ : Vm) (B : Pt), s.WarmedH vm₁ ∧ Stand p l e R s m args below meth c B.U B.locs B.cells B.slots ∧ Post ⟨T.setVm vm₁, locs, cells, slots⟩ (Value.ref a :: argsL).toArray v B ∧
      ∀ target, Steps p.tables e below (B.U.setTop { g with pc := g.pc + 3, stack := v.toList ++ rest }) target → Steps p.tables e below (T.setTop g) target) ∨
    (∃ (q : Addr) (vm₁ : Vm) (B : Pt), s.WarmedH vm₁ ∧ Stand p l e R s m args below meth c B.U B.locs B.cells B.slots ∧ PostX ⟨T.setVm vm₁, locs, cells, slots⟩ (Value.ref a :: argsL).toArray q B ∧
      Steps p.tables e below (T.setTop g) ((B.U.setTop { g with stack := rest }).pushFrame (.throwing q))) := by
  subst hg
  have hpl : e.platform.magicAccessors = ({} : Platform).magicAccessors := by rw [X.admits.platform]
  obtain ⟨mk, methM, cM, kP, vm₁, hnamed, hmethM, hcodeM, -, hlocalsM, -, hkP, -, hW₁, hstep₁⟩ := Steps.initColdArgsNest (e := e) X.here hexec X.warmed hpl hown hy1 hy hlink hinst hcode (f := g) rfl hlen hstack hdg
  have X₁ := X.noted hW₁
  rcases hK g.method meth c ⟨T.setVm vm₁, locs, cells, slots⟩ { g with stack := rest } (.invokespecial index) mk (Value.ref a :: argsL).toArray X₁ rfl hsize hdg hW (X₁.named hnamed) (hpre vm₁ X₁.warmed) with ⟨v, B, X', hpost, hsteps⟩ | ⟨q, B, X', hpost, hsteps⟩
  · exact Or.inl ⟨v, vm₁, B, X₁.warmed, X', hpost, fun target h => hstep₁ _ fun acts => by rw [doInvoke_state]; exact hsteps.trans h⟩
  · exact Or.inr ⟨q, vm₁, B, X₁.warmed, X', hpost, hstep₁ _ fun acts => by rw [doInvoke_state]; exact hsteps⟩
end VXIC
section VXID
variable {p : Program} {l : Launch} {e : Env} {R : Room} {s : State} {m : MethodId} {args : Array Value} {below : List Frame} {meth : Method} {c : Code} {H : Heap} {locs : List Loc} {cells slots : Nat}
theorem vx_runIN {y : MethodName} {bytes cc : ByteArray} {maxL nL mc ms n index : Nat} {ws : List Cond} {rm : Room} {Pc : Array Value → State → Prop} {Qc : Array Value → State → Outcome → State → Prop} {XC : String → State → State → Prop} {free : Addr → Prop} {Ts : List Cond} {own host : String} {b : Addr} {As rest : List Value} {g : JFrame}
    (S : CallFix p m c cc nL s args Ts own) (hM : vx_Met l y ws rm Pc Qc XC mc ms free) (cw : va_CN R s args own index y host bytes maxL none ws rm mc ms n ∧ y.name = "<init>" ∧ (Cond.instanceMethod y).before args s = true) (hp : PreS s H Pc (.ref b :: As))
    (hg : g.method = m) (hn : As.length = n) (hsize : g.locals.size = nL) (hstack : g.stack = As.reverse ++ .ref b :: rest) (hW : 2 * g.monitorRoom + (rest.map fun v => v.category).sum ≤ 8) (hdg : decode cc g.pc = .ok (.invokespecial index, 3)) (hf : cells + mc ≤ R.cells ∧ slots + ms ≤ R.slots) :
    vx_Run p l e R s m args below meth c H locs cells slots mc ms g rest (Qc (Value.ref b :: As).toArray) XC free := by
  obtain ⟨⟨⟨hrc, hrs, hfr, hlo, hws, hcw⟩, hcode, hini, hy, hlen, hl⟩, hx1, hx2⟩ := cw
  have hK : vx_Back l R p e below s args y 3 8 (PreOf R mc ms Pc) (PostOf Qc mc ms free) (vx_Post XC mc ms free) := vx_back (bytes := bytes) (maxL := maxL) (ret := none) hM hp.1 hrc hrs hfr hlo hws hcw (fun a' U hW => word_at hW (Or.inl (by first | rfl | simp [Cond.onTables, Cond.keeps, Cond.steady])) hini)
  obtain ⟨hx, hb, hml, ho, -⟩ := S
  have hPc := hp.2
  intro T hT X
  rcases vx_callIN X hx (bytes := bytes) (maxL := maxL) ho hx1 hl hx2 hcode hy hK hg (hsize.trans hml.symm) (a := b) (argsL := As) (rest := rest) (fun sig h => hn.trans (hlen sig h)) hstack hW (by rw [hb]; exact hdg)
    (fun vm₁ hW₁ => ⟨hf.1, hf.2, hPc (T.setVm vm₁) hT hW₁⟩) with ⟨v, vm₁, ⟨U', l2, c2, s2⟩, hW₁, X', ⟨g', mk, t, L, e1, e2, hq, h1, hL, h2, h3⟩, st⟩ | ⟨q, vm₁, ⟨U', l2, c2, s2⟩, hW₁, X', ⟨g', mk, t, L, E, ce, e1, e2, hq, hce, hcv, hcl, h1, hL, h2, h3⟩, st⟩
  · dsimp only [Pt.U, Pt.locs, Pt.cells, Pt.slots] at X' e1 e2 h1 h2 h3 st
    subst h1; subst h2; subst h3
    exact Or.inl ⟨v, (T.setVm vm₁).calling g' mk (Value.ref b :: As).toArray, t, U', L, hT, X', hL, e1, e2, hq, st⟩
  · dsimp only [Pt.U, Pt.locs, Pt.cells, Pt.slots] at X' e1 e2 h1 h2 h3 st hcl
    subst h1; subst h2; subst h3
    exact Or.inr ⟨q, (T.setVm vm₁).calling g' mk (Value.ref b :: As).toArray, t, U', L, E, ce, hT, X', hL, e1, e2, hq, hce, hcv, vx_cls hW₁ hcl, st⟩
end VXID
/-! ===== END ===== -/
/-! ===== BEGIN a method of a class above, found by the receiver, that may throw (follows va_callVU, va_runU of this kit) ===== -/
section
variable {p : Program} {l : Launch} {e : Env} {R : Room} {s : State} {m : MethodId} {args : Array Value} {below : List Frame} {meth : Method} {c : Code} {H : Heap} {locs : List Loc} {cells slots : Nat}
theorem vx_callVU {T : State} {locs : List Loc} {cells slots : Nat} (X : Stand p l e R s m args below meth c T locs cells slots) (hexec : p.tables.exec = Jvm.exec) {own C owner : String} {index : Nat} {x y : MethodName} {bytes : ByteArray} {maxL : Nat} {ret : Option FieldType}
    (hown : s.vm.findClass own = some m.cls) (hlink : (Cond.methodLink own index x).before args s = true) (hsame : (Cond.sameMethod x.cls owner x.name x.desc).before args s = true)
    (hd0 : va_Decl s ⟨owner, x.name, x.desc⟩) (howner : owner ≠ "java/lang/invoke/MethodHandle" ∧ owner ≠ "java/lang/invoke/VarHandle")
    (hsel : (Cond.selects C x y).before args s = true) (hinst : (Cond.instanceMethod y).before args s = true) (hcode : (Cond.code y bytes maxL ret).before args s = true)
    {W : Nat} {Pre : Pt → Array Value → Prop} {Post : Pt → Array Value → Option Value → Pt → Prop} {PostX : Pt → Array Value → Addr → Pt → Prop} (hK : vx_Back l R p e below s args y 3 W Pre Post PostX)
    {b : Addr} {cellB : Cell} (hcell : T.heap[b]? = some cellB) (hobj : cellB.vm.isStatics = false) (hcls : s.vm.findClass C = some cellB.cls)
    {g : JFrame} (hg : g.method = m) (hsize : g.locals.size = c.maxLocals) {argsL rest : List Value} (hlen : ∀ sig, parseMethodDescriptor x.desc = some sig → argsL.length = sig.parameters.length)
    (hstack : g.stack = argsL.reverse ++ .ref b :: rest) (hW : 2 * g.monitorRoom + (rest.map fun v => v.category).sum ≤ W) (hdg : decode c.code g.pc = .ok (.invokevirtual index, 3))
    (hpre : ∀ vm₁, s.WarmedH vm₁ → Pre ⟨T.setVm vm₁, locs, cells, slots⟩ (Value.ref b :: argsL).toArray) :
    (∃ (v : Option Value) (vm₁ : Vm) (B : Pt), s.WarmedH vm₁ ∧ Stand p l e R s m args below meth c B.U B.locs B.cells B.slots ∧ Post ⟨T.setVm vm₁, locs, cells, slots⟩ (Value.ref b :: argsL).toArray v B ∧
      ∀ target, Steps p.tables e below (B.U.setTop { g with pc := g.pc + 3, stack := v.toList ++ rest }) target → Steps p.tables e below (T.setTop g) target) ∨
    (∃ (q : Addr) (vm₁ : Vm) (B : Pt), s.WarmedH vm₁ ∧ Stand p l e R s m args below meth c B.U B.locs B.cells B.slots ∧ PostX ⟨T.setVm vm₁, locs, cells, slots⟩ (Value.ref b :: argsL).toArray q B ∧
      Steps p.tables e below (T.setTop g) ((B.U.setTop { g with stack := rest }).pushFrame (.throwing q))) := by
  obtain ⟨r0, r, hn, hrm, hstR, hsigR⟩ := hd0
  obtain ⟨cn, ck, r1, hcn, hck, hni, hf, hn1⟩ := Cond.sameMethod_found hsame
  cases hn.symm.trans hn1
  obtain ⟨mk, methM, hnamed, hmethM, -, habM⟩ := Cond.instanceMethod_spec hinst
  obtain ⟨c2, r2, m2, q1, q2, q3, q4, kP, hkP, hkPi⟩ := Cond.selects_spec hsel
  cases hcls.symm.trans q1
  cases hf.symm.trans q2
  cases hnamed.symm.trans q3
  have hselP : selectMethod e.platform s.vm cellB.cls r0 = .method mk := by rw [Launch.admits_selectMethod X.admits]; exact q4
  obtain ⟨vm₁, X₁, hstep₁⟩ := X.invokevirtualUp hexec hown hlink hsame howner hn hrm hstR (a := b) (cell := cellB) hcell
    (fun z h => by rw [h] at hobj; cases hobj) hselP hmethM habM hkP hkPi (g := g) hg (argsL := argsL) (rest := rest) (hlen _ hsigR) hstack hdg
  rcases hK m meth c ⟨T.setVm vm₁, locs, cells, slots⟩ { g with stack := rest } (.invokevirtual index) mk (Value.ref b :: argsL).toArray X₁ hg hsize hdg hW (X₁.named hnamed) (hpre vm₁ X₁.warmed) with ⟨v, B, X', hpost, hsteps⟩ | ⟨q, B, X', hpost, hsteps⟩
  · exact Or.inl ⟨v, vm₁, B, X₁.warmed, X', hpost, fun target h => hstep₁ _ fun acts => by rw [doInvoke_state]; exact hsteps.trans h⟩
  · exact Or.inr ⟨q, vm₁, B, X₁.warmed, X', hpost, hstep₁ _ fun acts => by rw [doInvoke_state]; exact hsteps⟩
theorem vx_runU {x y : MethodName} {bytes cc : ByteArray} {maxL nL mc ms n index : Nat} {ret : Option FieldType} {ws : List Cond} {rm : Room} {Pc : Array Value → State → Prop} {Qc : Array Value → State → Outcome → State → Prop} {XC : String → State → State → Prop} {free : Addr → Prop} {Ts : List Cond} {own C owner : String} {b : Addr} {As rest : List Value} {g : JFrame}
    (S : CallFix p m c cc nL s args Ts own) (hM : vx_Met l y ws rm Pc Qc XC mc ms free) (cw : va_CU R s args own C owner index x y bytes maxL ret ws rm mc ms n) (hp : PreV s H C b Pc As)
    (hg : g.method = m) (hn : As.length = n) (hsize : g.locals.size = nL) (hstack : g.stack = As.reverse ++ .ref b :: rest) (hW : 2 * g.monitorRoom + (rest.map fun v => v.category).sum ≤ 8) (hdg : decode cc g.pc = .ok (.invokevirtual index, 3)) (hf : cells + mc ≤ R.cells ∧ slots + ms ≤ R.slots) :
    vx_Run p l e R s m args below meth c H locs cells slots mc ms g rest (Qc (Value.ref b :: As).toArray) XC free := by
  obtain ⟨hrc, hrs, hfr, hlo, hws, hcw⟩ := cw.back
  have hini := cw.init
  have hK : vx_Back l R p e below s args y 3 8 (PreOf R mc ms Pc) (PostOf Qc mc ms free) (vx_Post XC mc ms free) := vx_back (bytes := bytes) (maxL := maxL) (ret := ret) hM hp.1 hrc hrs hfr hlo hws hcw (fun a' U hW => word_at hW (Or.inl (by first | rfl | simp [Cond.onTables, Cond.keeps, Cond.steady])) hini)
  obtain ⟨hx, hb, hml, ho, -⟩ := S
  obtain ⟨-, ⟨cellB, hcB, hoB, hclB⟩, hPc⟩ := hp
  intro T hT X
  rcases vx_callVU X hx (C := C) (owner := owner) (bytes := bytes) (maxL := maxL) (ret := ret) ho cw.link cw.same cw.decl cw.notMH cw.sel cw.inst cw.code hK (by rw [hT]; exact hcB) hoB hclB hg (hsize.trans hml.symm) (argsL := As) (rest := rest) (fun sig h => hn.trans (cw.len sig h)) hstack hW (by rw [hb]; exact hdg)
    (fun vm₁ hW₁ => ⟨hf.1, hf.2, hPc (T.setVm vm₁) hT hW₁⟩) with ⟨v, vm₁, ⟨U', l2, c2, s2⟩, hW₁, X', ⟨g', mk, t, L, e1, e2, hq, h1, hL, h2, h3⟩, st⟩ | ⟨q, vm₁, ⟨U', l2, c2, s2⟩, hW₁, X', ⟨g', mk, t, L, E, ce, e1, e2, hq, hce, hcv, hcl, h1, hL, h2, h3⟩, st⟩
  · dsimp only [Pt.U, Pt.locs, Pt.cells, Pt.slots] at X' e1 e2 h1 h2 h3 st
    subst h1; subst h2; subst h3
    exact Or.inl ⟨v, (T.setVm vm₁).calling g' mk (Value.ref b :: As).toArray, t, U', L, hT, X', hL, e1, e2, hq, st⟩
  · dsimp only [Pt.U, Pt.locs, Pt.cells, Pt.slots] at X' e1 e2 h1 h2 h3 st hcl
    subst h1; subst h2; subst h3
    exact Or.inr ⟨q, (T.setVm vm₁).calling g' mk (Value.ref b :: As).toArray, t, U', L, E, ce, hT, X', hL, e1, e2, hq, hce, hcv, vx_cls hW₁ hcl, st⟩
end
/-! ===== END ===== -/
/-! ===== BEGIN super.m(..) that may throw (follows va_callSU, va_runSU) ===== -/
section
variable {p : Program} {l : Launch} {e : Env} {R : Room} {s : State} {m : MethodId} {args : Array Value} {below : List Frame} {meth : Method} {c : Code} {H : Heap} {locs : List Loc} {cells slots : Nat}
theorem vx_callSU {T : State} {locs : List Loc} {cells slots : Nat} (X : Stand p l e R s m args below meth c T locs cells slots) (hexec : p.tables.exec = Jvm.exec) {own : String} {index : Nat} {y : MethodName} {bytes : ByteArray} {maxL : Nat} {ret : Option FieldType}
    (hown : s.vm.findClass own = some m.cls) (hlink : (Cond.methodLink own index y).before args s = true) (hsame : (Cond.sameMethod y.cls y.cls y.name y.desc).before args s = true) (hsup : (Cond.superclass own y.cls).before args s = true)
    (hinst : (Cond.instanceMethod y).before args s = true) (hcode : (Cond.code y bytes maxL ret).before args s = true) (hno : y.name ≠ "<init>")
    {W : Nat} {Pre : Pt → Array Value → Prop} {Post : Pt → Array Value → Option Value → Pt → Prop} {PostX : Pt → Array Value → Addr → Pt → Prop} (hK : vx_Back l R p e below s args y 3 W Pre Post PostX)
    {b : Addr} {cellB : Cell} {kB : Class} (hcell : T.heap[b]? = some cellB) (hobj : cellB.vm.isStatics = false) (hkB : s.vm.classes[cellB.cls]? = some kB)
    {g : JFrame} (hg : g.method = m) (hsize : g.locals.size = c.maxLocals) {argsL rest : List Value} (hlen : ∀ sig, parseMethodDescriptor y.desc = some sig → argsL.length = sig.parameters.length)
    (hstack : g.stack = argsL.reverse ++ .ref b :: rest) (hW : 2 * g.monitorRoom + (rest.map fun v => v.category).sum ≤ W) (hdg : decode c.code g.pc = .ok (.invokespecial index, 3))
    (hpre : ∀ vm₁, s.WarmedH vm₁ → Pre ⟨T.setVm vm₁, locs, cells, slots⟩ (Value.ref b :: argsL).toArray) :
    (∃ (v : Option Value) (vm₁ : Vm) (B : Pt), s.WarmedH vm₁ ∧ Stand p l e R s m args below meth c B.U B.locs B.cells B.slots ∧ Post ⟨T.setVm vm₁, locs, cells, slots⟩ (Value.ref b :: argsL).toArray v B ∧
      ∀ target, Steps p.tables e below (B.U.setTop { g with pc := g.pc + 3, stack := v.toList ++ rest }) target → Steps p.tables e below (T.setTop g) target) ∨
    (∃ (q : Addr) (vm₁ : Vm) (B : Pt), s.WarmedH vm₁ ∧ Stand p l e R s m args below meth c B.U B.locs B.cells B.slots ∧ PostX ⟨T.setVm vm₁, locs, cells, slots⟩ (Value.ref b :: argsL).toArray q B ∧
      Steps p.tables e below (T.setTop g) ((B.U.setTop { g with stack := rest }).pushFrame (.throwing q))) := by
  obtain ⟨mk, methM, hnamed, hmethM, hstM, habM⟩ := Cond.instanceMethod_spec hinst
  obtain ⟨methM', cM, hmethM', -, -, -, -, -, -, hsigM⟩ := Cond.code_spec hnamed hcode
  cases hmethM.symm.trans hmethM'
  obtain ⟨ps, dk, kp, hps, hdk, hkp, hsuper, -, -, hnid⟩ := Cond.superclass_spec hown hsup
  have hn : s.methodNamed? ⟨y.cls, y.name, y.desc⟩ = some mk := hnamed
  have hpm : ps = mk.cls := Option.some.inj (hps.symm.trans (findClass_of_methodNamed hnamed))
  have hsub : s.vm.isSubclass ps mk.cls = true := by rw [hpm]; simp [Vm.isSubclass, Vm.isSubclassAux]
  obtain ⟨vm₁, X₁, hstep₁⟩ := X.invokespecialUp hexec hown hlink hsame hn hmethM hstM habM hno hdk hnid hps hsuper hsub (a := b) (cell := cellB) hcell
    (fun z h => by rw [h] at hobj; cases hobj) hkB (g := g) hg (argsL := argsL) (rest := rest) (hlen _ hsigM) hstack hdg
  rcases hK m meth c ⟨T.setVm vm₁, locs, cells, slots⟩ { g with stack := rest } (.invokespecial index) mk (Value.ref b :: argsL).toArray X₁ hg hsize hdg hW (X₁.named hnamed) (hpre vm₁ X₁.warmed) with ⟨v, B, X', hpost, hsteps⟩ | ⟨q, B, X', hpost, hsteps⟩
  · exact Or.inl ⟨v, vm₁, B, X₁.warmed, X', hpost, fun target h => hstep₁ _ (by rw [doInvoke_state]; exact hsteps.trans h)⟩
  · exact Or.inr ⟨q, vm₁, B, X₁.warmed, X', hpost, hstep₁ _ (by rw [doInvoke_state]; exact hsteps)⟩
theorem vx_runSU {y : MethodName} {bytes cc : ByteArray} {maxL nL mc ms n index : Nat} {ret : Option FieldType} {ws : List Cond} {rm : Room} {Pc : Array Value → State → Prop} {Qc : Array Value → State → Outcome → State → Prop} {XC : String → State → State → Prop} {free : Addr → Prop} {Ts : List Cond} {own C : String} {cC : ClassId} {b : Addr} {As rest : List Value} {g : JFrame}
    (hat : ClassAt s C cC) (S : CallFix p m c cc nL s args Ts own) (hM : vx_Met l y ws rm Pc Qc XC mc ms free) (cw : va_CS R s args own index y bytes maxL ret ws rm mc ms n) (hp : PreV s H C b Pc As)
    (hg : g.method = m) (hn : As.length = n) (hsize : g.locals.size = nL) (hstack : g.stack = As.reverse ++ .ref b :: rest) (hW : 2 * g.monitorRoom + (rest.map fun v => v.category).sum ≤ 8) (hdg : decode cc g.pc = .ok (.invokespecial index, 3)) (hf : cells + mc ≤ R.cells ∧ slots + ms ≤ R.slots) :
    vx_Run p l e R s m args below meth c H locs cells slots mc ms g rest (Qc (Value.ref b :: As).toArray) XC free := by
  obtain ⟨⟨hrc, hrs, hfr, hlo, hws, hcw⟩, hl1, hl2, hl3, hl4, hini, hcode, hno, hlen⟩ := cw
  have hK : vx_Back l R p e below s args y 3 8 (PreOf R mc ms Pc) (PostOf Qc mc ms free) (vx_Post XC mc ms free) := vx_back (bytes := bytes) (maxL := maxL) (ret := ret) hM hp.1 hrc hrs hfr hlo hws hcw (fun a' U hW => word_at hW (Or.inl (by first | rfl | simp [Cond.onTables, Cond.keeps, Cond.steady])) hini)
  obtain ⟨hx, hb, hml, ho, -⟩ := S
  obtain ⟨-, ⟨cellB, hcB, hoB, hclB⟩, hPc⟩ := hp
  obtain ⟨hfc, kB, hkB, -⟩ := hat
  cases hfc.symm.trans hclB
  intro T hT X
  rcases vx_callSU X hx (bytes := bytes) (maxL := maxL) (ret := ret) ho hl1 hl2 hl3 hl4 hcode hno hK (by rw [hT]; exact hcB) hoB hkB hg (hsize.trans hml.symm) (argsL := As) (rest := rest) (fun sig h => hn.trans (hlen sig h)) hstack hW (by rw [hb]; exact hdg)
    (fun vm₁ hW₁ => ⟨hf.1, hf.2, hPc (T.setVm vm₁) hT hW₁⟩) with ⟨v, vm₁, ⟨U', l2, c2, s2⟩, hW₁, X', ⟨g', mk, t, L, e1, e2, hq, h1, hL, h2, h3⟩, st⟩ | ⟨q, vm₁, ⟨U', l2, c2, s2⟩, hW₁, X', ⟨g', mk, t, L, E, ce, e1, e2, hq, hce, hcv, hcl, h1, hL, h2, h3⟩, st⟩
  · dsimp only [Pt.U, Pt.locs, Pt.cells, Pt.slots] at X' e1 e2 h1 h2 h3 st
    subst h1; subst h2; subst h3
    exact Or.inl ⟨v, (T.setVm vm₁).calling g' mk (Value.ref b :: As).toArray, t, U', L, hT, X', hL, e1, e2, hq, st⟩
  · dsimp only [Pt.U, Pt.locs, Pt.cells, Pt.slots] at X' e1 e2 h1 h2 h3 st hcl
    subst h1; subst h2; subst h3
    exact Or.inr ⟨q, (T.setVm vm₁).calling g' mk (Value.ref b :: As).toArray, t, U', L, E, ce, hT, X', hL, e1, e2, hq, hce, hcv, vx_cls hW₁ hcl, st⟩
end
/-! ===== END ===== -/
/-! ===== BEGIN a private method of a nest mate that may throw (follows va_callVN, va_callSN, va_runVN, va_runSN) ===== -/
section
variable {p : Program} {l : Launch} {e : Env} {R : Room} {s : State} {m : MethodId} {args : Array Value} {below : List Frame} {meth : Method} {c : Code} {H : Heap} {locs : List Loc} {cells slots : Nat}
variable {T : State}
theorem vx_callVN (X : Stand p l e R s m args below meth c T locs cells slots) (hexec : p.tables.exec = Jvm.exec) {own C : String} {index : Nat} {host : String} {y : MethodName} {bytes : ByteArray} {maxL : Nat} {ret : Option FieldType}
    (hown : s.vm.findClass own = some m.cls) (hlink : (Cond.methodLinkNest own index y host).before args s = true) (hinst : (Cond.instanceMethod y).before args s = true) (hsel : (Cond.selects C y y).before args s = true)
    (hcode : (Cond.code y bytes maxL ret).before args s = true) (hy : y.cls ≠ "java/lang/invoke/MethodHandle" ∧ y.cls ≠ "java/lang/invoke/VarHandle")
    {W : Nat} {Pre : Pt → Array Value → Prop} {Post : Pt → Array Value → Option Value → Pt → Prop} {PostX : Pt → Array Value → Addr → Pt → Prop} (hK : vx_Back l R p e below s args y 3 W Pre Post PostX)
    {b : Addr} {cellB : Cell} (hcell : T.heap[b]? = some cellB) (hobj : cellB.vm.isStatics = false) (hcls : s.vm.findClass C = some cellB.cls)
    {g : JFrame} (hg : g.method = m) (hsize : g.locals.size = c.maxLocals) {argsL rest : List Value} (hlen : ∀ sig, parseMethodDescriptor y.desc = some sig → argsL.length = sig.parameters.length)
    (hstack : g.stack = argsL.reverse ++ .ref b :: rest) (hW : 2 * g.monitorRoom + (rest.map fun v => v.category).sum ≤ W) (hdg : decode c.code g.pc = .ok (.invokevirtual index, 3))
    (hpre : ∀ vm₁, s.WarmedH vm₁ → Pre ⟨T.setVm vm₁, locs, cells, slots⟩ (Value.ref b :: argsL).toArray) :
    (∃ (v : Option Value) (vm₁ : Vm) (B : Pt), s.WarmedH vm₁ ∧ Stand p l e R s m args below meth c B.U B.locs B.cells B.slots ∧ Post ⟨T.setVm vm₁, locs, cells, slots⟩ (Value.ref b :: argsL).toArray v B ∧
      ∀ target, Steps p.tables e below (B.U.setTop { g with pc := g.pc + 3, stack := v.toList ++ rest }) target → Steps p.tables e below (T.setTop g) target) ∨
    (∃ (q : Addr) (vm₁ : Vm) (B : Pt), s.WarmedH vm₁ ∧ Stand p l e R s m args below meth c B.U B.locs B.cells B.slots ∧ PostX ⟨T.setVm vm₁, locs, cells, slots⟩ (Value.ref b :: argsL).toArray q B ∧
      Steps p.tables e below (T.setTop g) ((B.U.setTop { g with stack := rest }).pushFrame (.throwing q))) := by
  obtain ⟨mk, methM, hnamed, hmethM, hstM, habM⟩ := Cond.instanceMethod_spec hinst
  obtain ⟨methM', cM, hmethM', -, -, -, -, -, -, hsigM⟩ := Cond.code_spec hnamed hcode
  cases hmethM.symm.trans hmethM'
  obtain ⟨c2, r2, m2, q1, q2, q3, q4, kP, hkP, hkPi⟩ := Cond.selects_spec hsel
  cases hcls.symm.trans q1
  cases (State.methodFound?_of_named hnamed hy).symm.trans q2
  cases hnamed.symm.trans q3
  have hselP : selectMethod e.platform s.vm cellB.cls mk = .method mk := by rw [Launch.admits_selectMethod X.admits]; exact q4
  obtain ⟨vm₁, X₁, hstep₁⟩ := X.invokevirtualNest hexec hown hlink hnamed hmethM hstM hkP hkPi hy (a := b) (cell := cellB) hcell
    (fun z h => by rw [h] at hobj; cases hobj) hselP hmethM habM hkP hkPi (g := g) hg (argsL := argsL) (rest := rest) (hlen _ hsigM) hstack hdg
  rcases hK m meth c ⟨T.setVm vm₁, locs, cells, slots⟩ { g with stack := rest } (.invokevirtual index) mk (Value.ref b :: argsL).toArray X₁ hg hsize hdg hW (X₁.named hnamed) (hpre vm₁ X₁.warmed) with ⟨v, B, X', hpost, hsteps⟩ | ⟨q, B, X', hpost, hsteps⟩
  · exact Or.inl ⟨v, vm₁, B, X₁.warmed, X', hpost, fun target h => hstep₁ _ fun acts => by rw [doInvoke_state]; exact hsteps.trans h⟩
  · exact Or.inr ⟨q, vm₁, B, X₁.warmed, X', hpost, hstep₁ _ fun acts => by rw [doInvoke_state]; exact hsteps⟩
theorem vx_callSN (X : Stand p l e R s m args below meth c T locs cells slots) (hexec : p.tables.exec = Jvm.exec) {own : String} {index : Nat} {host : String} {y : MethodName} {bytes : ByteArray} {maxL : Nat} {ret : Option FieldType}
    (hown : s.vm.findClass own = some m.cls) (hlink : (Cond.methodLinkNest own index y host).before args s = true) (hstat : (Cond.static y).before args s = true) (hinit : (Cond.initialized y.cls).before args s = true)
    (hcode : (Cond.code y bytes maxL ret).before args s = true) (hy : y.cls ≠ "java/lang/invoke/MethodHandle" ∧ y.cls ≠ "java/lang/invoke/VarHandle")
    {W : Nat} {Pre : Pt → Array Value → Prop} {Post : Pt → Array Value → Option Value → Pt → Prop} {PostX : Pt → Array Value → Addr → Pt → Prop} (hK : vx_Back l R p e below s args y 3 W Pre Post PostX)
    {g : JFrame} (hg : g.method = m) (hsize : g.locals.size = c.maxLocals) {argsL rest : List Value} (hlen : ∀ sig, parseMethodDescriptor y.desc = some sig → argsL.length = sig.parameters.length)
    (hstack : g.stack = argsL.reverse ++ rest) (hW : 2 * g.monitorRoom + (rest.map fun v => v.category).sum ≤ W) (hdg : decode c.code g.pc = .ok (.invokestatic index, 3))
    (hpre : ∀ vm₁, s.WarmedH vm₁ → Pre ⟨T.setVm vm₁, locs, cells, slots⟩ argsL.toArray) :
    (∃ (v : Option Value) (vm₁ : Vm) (B : Pt), s.WarmedH vm₁ ∧ Stand p l e R s m args below meth c B.U B.locs B.cells B.slots ∧ Post ⟨T.setVm vm₁, locs, cells, slots⟩ argsL.toArray v B ∧
      ∀ target, Steps p.tables e below (B.U.setTop { g with pc := g.pc + 3, stack := v.toList ++ rest }) target → Steps p.tables e below (T.setTop g) target) ∨
    (∃ (q : Addr) (vm₁ : Vm) (B : Pt), s.WarmedH vm₁ ∧ Stand p l e R s m args below meth c B.U B.locs B.cells B.slots ∧ PostX ⟨T.setVm vm₁, locs, cells, slots⟩ argsL.toArray q B ∧
      Steps p.tables e below (T.setTop g) ((B.U.setTop { g with stack := rest }).pushFrame (.throwing q))) := by
  obtain ⟨mk, hnamed⟩ := Cond.code_named hcode
  obtain ⟨methM, cM, hmethM, -, -, -, -, -, -, hsigM⟩ := Cond.code_spec hnamed hcode
  have hstatic : methM.isStatic = true := Cond.static_spec hnamed hmethM hstat
  obtain ⟨kP, hkP, -⟩ := className_of_methodNamed hnamed
  have hinitP : kP.init = .initialized := Cond.initialized_spec (findClass_of_methodNamed hnamed) hkP hinit
  obtain ⟨vm₁, X₁, hstep₁⟩ := X.invokestaticNest hexec hown hlink hnamed hmethM hstatic hkP hinitP hy (g := g) hg (argsL := argsL) (rest := rest) (hlen _ hsigM) hstack hdg
  rcases hK m meth c ⟨T.setVm vm₁, locs, cells, slots⟩ { g with stack := rest } (.invokestatic index) mk argsL.toArray X₁ hg hsize hdg hW (X₁.named hnamed) (hpre vm₁ X₁.warmed) with ⟨v, B, X', hpost, hsteps⟩ | ⟨q, B, X', hpost, hsteps⟩
  · exact Or.inl ⟨v, vm₁, B, X₁.warmed, X', hpost, fun target h => hstep₁ _ fun acts => by rw [doInvoke_state]; exact hsteps.trans h⟩
  · exact Or.inr ⟨q, vm₁, B, X₁.warmed, X', hpost, hstep₁ _ fun acts => by rw [doInvoke_state]; exact hsteps⟩
theorem vx_runVN {y : MethodName} {bytes cc : ByteArray} {maxL nL mc ms n index : Nat} {ret : Option FieldType} {ws : List Cond} {rm : Room} {Pc : Array Value → State → Prop} {Qc : Array Value → State → Outcome → State → Prop} {XC : String → State → State → Prop} {free : Addr → Prop} {Ts : List Cond} {own C host : String} {b : Addr} {As rest : List Value} {g : JFrame}
    (S : CallFix p m c cc nL s args Ts own) (hM : vx_Met l y ws rm Pc Qc XC mc ms free) (cw : va_CN R s args own index y host bytes maxL ret ws rm mc ms n ∧ (Cond.instanceMethod y).before args s = true ∧ (Cond.selects C y y).before args s = true) (hp : PreV s H C b Pc As)
    (hg : g.method = m) (hn : As.length = n) (hsize : g.locals.size = nL) (hstack : g.stack = As.reverse ++ .ref b :: rest) (hW : 2 * g.monitorRoom + (rest.map fun v => v.category).sum ≤ 8) (hdg : decode cc g.pc = .ok (.invokevirtual index, 3)) (hf : cells + mc ≤ R.cells ∧ slots + ms ≤ R.slots) :
    vx_Run p l e R s m args below meth c H locs cells slots mc ms g rest (Qc (Value.ref b :: As).toArray) XC free := by
  obtain ⟨⟨⟨hrc, hrs, hfr, hlo, hws, hcw⟩, hcode, hini, hy, hlen, hl⟩, hx1, hx2⟩ := cw
  have hK : vx_Back l R p e below s args y 3 8 (PreOf R mc ms Pc) (PostOf Qc mc ms free) (vx_Post XC mc ms free) := vx_back (bytes := bytes) (maxL := maxL) (ret := ret) hM hp.1 hrc hrs hfr hlo hws hcw (fun a' U hW => word_at hW (Or.inl (by first | rfl | simp [Cond.onTables, Cond.keeps, Cond.steady])) hini)
  obtain ⟨hx, hb, hml, ho, -⟩ := S
  obtain ⟨-, ⟨cellB, hcB, hoB, hclB⟩, hPc⟩ := hp
  intro T hT X
  rcases vx_callVN X hx (C := C) (bytes := bytes) (maxL := maxL) (ret := ret) ho hl hx1 hx2 hcode hy hK (by rw [hT]; exact hcB) hoB hclB hg (hsize.trans hml.symm) (argsL := As) (rest := rest) (fun sig h => hn.trans (hlen sig h)) hstack hW (by rw [hb]; exact hdg)
    (fun vm₁ hW₁ => ⟨hf.1, hf.2, hPc (T.setVm vm₁) hT hW₁⟩) with ⟨v, vm₁, ⟨U', l2, c2, s2⟩, hW₁, X', ⟨g', mk, t, L, e1, e2, hq, h1, hL, h2, h3⟩, st⟩ | ⟨q, vm₁, ⟨U', l2, c2, s2⟩, hW₁, X', ⟨g', mk, t, L, E, ce, e1, e2, hq, hce, hcv, hcl, h1, hL, h2, h3⟩, st⟩
  · dsimp only [Pt.U, Pt.locs, Pt.cells, Pt.slots] at X' e1 e2 h1 h2 h3 st
    subst h1; subst h2; subst h3
    exact Or.inl ⟨v, (T.setVm vm₁).calling g' mk (Value.ref b :: As).toArray, t, U', L, hT, X', hL, e1, e2, hq, st⟩
  · dsimp only [Pt.U, Pt.locs, Pt.cells, Pt.slots] at X' e1 e2 h1 h2 h3 st hcl
    subst h1; subst h2; subst h3
    exact Or.inr ⟨q, (T.setVm vm₁).calling g' mk (Value.ref b :: As).toArray, t, U', L, E, ce, hT, X', hL, e1, e2, hq, hce, hcv, vx_cls hW₁ hcl, st⟩
theorem vx_runSN {y : MethodName} {bytes cc : ByteArray} {maxL nL mc ms n index : Nat} {ret : Option FieldType} {ws : List Cond} {rm : Room} {Pc : Array Value → State → Prop} {Qc : Array Value → State → Outcome → State → Prop} {XC : String → State → State → Prop} {free : Addr → Prop} {Ts : List Cond} {own host : String} {As rest : List Value} {g : JFrame}
    (S : CallFix p m c cc nL s args Ts own) (hM : vx_Met l y ws rm Pc Qc XC mc ms free) (cw : va_CN R s args own index y host bytes maxL ret ws rm mc ms n ∧ (Cond.static y).before args s = true ∧ True) (hp : PreS s H Pc As)
    (hg : g.method = m) (hn : As.length = n) (hsize : g.locals.size = nL) (hstack : g.stack = As.reverse ++ rest) (hW : 2 * g.monitorRoom + (rest.map fun v => v.category).sum ≤ 8) (hdg : decode cc g.pc = .ok (.invokestatic index, 3)) (hf : cells + mc ≤ R.cells ∧ slots + ms ≤ R.slots) :
    vx_Run p l e R s m args below meth c H locs cells slots mc ms g rest (Qc As.toArray) XC free := by
  obtain ⟨⟨⟨hrc, hrs, hfr, hlo, hws, hcw⟩, hcode, hini, hy, hlen, hl⟩, hx1, hx2⟩ := cw
  have hK : vx_Back l R p e below s args y 3 8 (PreOf R mc ms Pc) (PostOf Qc mc ms free) (vx_Post XC mc ms free) := vx_back (bytes := bytes) (maxL := maxL) (ret := ret) hM hp.1 hrc hrs hfr hlo hws hcw (fun a' U hW => word_at hW (Or.inl (by first | rfl | simp [Cond.onTables, Cond.keeps, Cond.steady])) hini)
  obtain ⟨hx, hb, hml, ho, -⟩ := S
  have hPc := hp.2
  intro T hT X
  rcases vx_callSN X hx (bytes := bytes) (maxL := maxL) (ret := ret) ho hl hx1 hini hcode hy hK hg (hsize.trans hml.symm) (argsL := As) (rest := rest) (fun sig h => hn.trans (hlen sig h)) hstack hW (by rw [hb]; exact hdg)
    (fun vm₁ hW₁ => ⟨hf.1, hf.2, hPc (T.setVm vm₁) hT hW₁⟩) with ⟨v, vm₁, ⟨U', l2, c2, s2⟩, hW₁, X', ⟨g', mk, t, L, e1, e2, hq, h1, hL, h2, h3⟩, st⟩ | ⟨q, vm₁, ⟨U', l2, c2, s2⟩, hW₁, X', ⟨g', mk, t, L, E, ce, e1, e2, hq, hce, hcv, hcl, h1, hL, h2, h3⟩, st⟩
  · dsimp only [Pt.U, Pt.locs, Pt.cells, Pt.slots] at X' e1 e2 h1 h2 h3 st
    subst h1; subst h2; subst h3
    exact Or.inl ⟨v, (T.setVm vm₁).calling g' mk As.toArray, t, U', L, hT, X', hL, e1, e2, hq, st⟩
  · dsimp only [Pt.U, Pt.locs, Pt.cells, Pt.slots] at X' e1 e2 h1 h2 h3 st hcl
    subst h1; subst h2; subst h3
    exact Or.inr ⟨q, (T.setVm vm₁).calling g' mk As.toArray, t, U', L, E, ce, hT, X', hL, e1, e2, hq, hce, hcv, vx_cls hW₁ hcl, st⟩
end
/-! ===== END ===== -/
/-! ===== BEGIN calls by an interface of methods that may throw (vx_callIF, vx_runF follow va_callIF, va_runF of this kit) ===== -/
section
variable {p : Program} {l : Launch} {e : Env} {R : Room} {s : State} {m : MethodId} {args : Array Value} {below : List Frame} {meth : Method} {c : Code} {H : Heap} {locs : List Loc} {cells slots : Nat} {Q : State → Prop}
variable {mc ms : Nat} {free : Addr → Prop} {A0 A1 : Nat → Prop} {H0 : Heap} {a : Array Value} {pc : Nat} {ls : Array Slot} {st0 rest : List Value}
def vx_Run5 (p : Program) (l : Launch) (e : Env) (R : Room) (s : State) (m : MethodId) (args : Array Value) (below : List Frame) (meth : Method) (c : Code) (H : Heap) (locs : List Loc) (cells slots mc ms : Nat) (g : JFrame) (rest : List Value) (Qa : State → Outcome → State → Prop) (XC : String → State → State → Prop) (free : Addr → Prop) : Prop :=
  ∀ T : State, T.heap = H → Stand p l e R s m args below meth c T locs cells slots →
    (∃ (v : Option Value) (st₀ t T' : State) (L : List Loc), st₀.heap = H ∧ Stand p l e R s m args below meth c T' (locs ++ L) (cells + mc) (slots + ms) ∧ (∀ q ∈ L, free q.base) ∧ T'.heap = t.heap ∧ T'.vm = t.vm ∧ Qa st₀ (.returned v) t ∧
      Goes p e below T g T' { g with pc := g.pc + 5, stack := v.toList ++ rest }) ∨
    (∃ (q : Addr) (st₀ t T' : State) (L : List Loc) (E : String) (ce : Cell), st₀.heap = H ∧ Stand p l e R s m args below meth c T' (locs ++ L) (cells + mc) (slots + ms) ∧ (∀ z ∈ L, free z.base) ∧ T'.heap = t.heap ∧ T'.vm = t.vm ∧ XC E st₀ t ∧ t.heap[q]? = some ce ∧ ce.vm = .none ∧ s.vm.findClass E = some ce.cls ∧
      Steps p.tables e below (T.setTop g) ((T'.setTop { g with stack := rest }).pushFrame (.throwing q)))
theorem vx_callIF {T : State} (X : Stand p l e R s m args below meth c T locs cells slots) (hexec : p.tables.exec = Jvm.exec) {own C : String} {index count : Nat} {x y : MethodName} {bytes : ByteArray} {maxL : Nat} {ret : Option FieldType}
    (hown : s.vm.findClass own = some m.cls) (hlink : (Cond.methodLink own index x).before args s = true) (hdecl : (Cond.declares x).before args s = true) (hface : (Cond.interfaceMethod x.cls x.cls x.name x.desc).before args s = true)
    (hsel : (Cond.selects C x y).before args s = true) (hinst : (Cond.instanceMethod y).before args s = true) (hpub : (Cond.publicMethod y).before args s = true) (hunh : (Cond.unhidden C x.name x.desc).before args s = true)
    (hcast : (Cond.castable C x.cls).before args s = true) (hcode : (Cond.code y bytes maxL ret).before args s = true) (hx : x.cls ≠ "java/lang/invoke/MethodHandle" ∧ x.cls ≠ "java/lang/invoke/VarHandle")
    {W9 : Nat} {Pre : Pt → Array Value → Prop} {Post : Pt → Array Value → Option Value → Pt → Prop} {PostX : Pt → Array Value → Addr → Pt → Prop} (hK : vx_Back l R p e below s args y 5 W9 Pre Post PostX)
    {b : Addr} {cellB : Cell} {kB : Class} (hcell : T.heap[b]? = some cellB) (hobj : cellB.vm.isStatics = false) (hcls : s.vm.findClass C = some cellB.cls) (hkB : s.vm.classes[cellB.cls]? = some kB)
    {g : JFrame} (hg : g.method = m) (hsize : g.locals.size = c.maxLocals) {argsL rest : List Value} (hlen : ∀ sig, parseMethodDescriptor x.desc = some sig → argsL.length = sig.parameters.length)
    (hstack : g.stack = argsL.reverse ++ .ref b :: rest) (hW : 2 * g.monitorRoom + (rest.map fun v => v.category).sum ≤ W9) (hdg : decode c.code g.pc = .ok (.invokeinterface index count, 5))
    (hpre : ∀ vm₁, s.WarmedH vm₁ → Pre ⟨T.setVm vm₁, locs, cells, slots⟩ (Value.ref b :: argsL).toArray) :
    (∃ (v : Option Value) (vm₁ : Vm) (B : Pt), s.WarmedH vm₁ ∧ Stand p l e R s m args below meth c B.U B.locs B.cells B.slots ∧ Post ⟨T.setVm vm₁, locs, cells, slots⟩ (Value.ref b :: argsL).toArray v B ∧
      ∀ target, Steps p.tables e below (B.U.setTop { g with pc := g.pc + 5, stack := v.toList ++ rest }) target → Steps p.tables e below (T.setTop g) target) ∨
    (∃ (q : Addr) (vm₁ : Vm) (B : Pt), s.WarmedH vm₁ ∧ Stand p l e R s m args below meth c B.U B.locs B.cells B.slots ∧ PostX ⟨T.setVm vm₁, locs, cells, slots⟩ (Value.ref b :: argsL).toArray q B ∧
      Steps p.tables e below (T.setTop g) ((B.U.setTop { g with stack := rest }).pushFrame (.throwing q))) := by
  obtain ⟨r0, r, hn, hrm, hstR, hsigR⟩ := Cond.declares_spec hdecl
  obtain ⟨cL, kL, r1, hcL, hkL, hiL, hfoundL, hn1⟩ := Cond.interfaceMethod_spec hface
  cases hn.symm.trans hn1
  have hr0cls : r0.cls = cL := Option.some.inj ((findClass_of_methodNamed hn).symm.trans hcL)
  obtain ⟨hnameR, hdescR⟩ := name_of_methodNamed hn hrm
  obtain ⟨mk, methM, hnamed, hmethM, -, habM⟩ := Cond.instanceMethod_spec hinst
  obtain ⟨c2, r2, m2, q1, q2, q3, q4, -⟩ := Cond.selects_spec hsel
  cases hcls.symm.trans q1
  cases hfoundL.symm.trans q2
  cases hnamed.symm.trans q3
  have hselP : selectMethod e.platform s.vm cellB.cls r0 = .method mk := by rw [Launch.admits_selectMethod X.admits]; exact q4
  have hpubM : hasFlag methM.accessFlags Acc.public_ = true := Cond.publicMethod_spec hnamed hmethM hpub
  have hway : ((cellB.cls :: s.vm.superclasses cellB.cls).any fun k => (declaredIn s.vm r.name r.desc k).any fun (_, z) => z.isPrivate || z.isStatic) = false := by
    rw [hnameR, hdescR]; exact Cond.unhidden_spec hcls hunh
  obtain ⟨c3, t3, w1, w2, w3⟩ := Cond.castable_spec hcast
  cases hcls.symm.trans w1
  cases hcL.symm.trans w2
  obtain ⟨vm₁, X₁, hstep₁⟩ := X.invokeinterface hexec hown hlink hn hrm hstR (by rw [hr0cls]; exact hkL) hiL hx (a := b) (cell := cellB) (kcell := kB) hcell
    (fun z h => by rw [h] at hobj; cases hobj) hkB (by rw [hr0cls]; exact w3) hselP hmethM hway hpubM habM (g := g) hg (argsL := argsL) (rest := rest) (hlen _ hsigR) hstack hdg
  rcases hK m meth c ⟨T.setVm vm₁, locs, cells, slots⟩ { g with stack := rest } (.invokeinterface index count) mk (Value.ref b :: argsL).toArray X₁ hg hsize hdg hW (X₁.named hnamed) (hpre vm₁ X₁.warmed) with ⟨v, B, X', hpost, hsteps⟩ | ⟨q, B, X', hpost, hsteps⟩
  · exact Or.inl ⟨v, vm₁, B, X₁.warmed, X', hpost, fun target h => hstep₁ _ fun acts => by rw [doInvoke_state]; exact hsteps.trans h⟩
  · exact Or.inr ⟨q, vm₁, B, X₁.warmed, X', hpost, hstep₁ _ fun acts => by rw [doInvoke_state]; exact hsteps⟩
theorem vx_runF {x y : MethodName} {bytes cc : ByteArray} {maxL nL mc ms n index count : Nat} {ret : Option FieldType} {ws : List Cond} {rm : Room} {Pc : Array Value → State → Prop} {Qc : Array Value → State → Outcome → State → Prop} {XC : String → State → State → Prop} {free : Addr → Prop} {Ts : List Cond} {own C : String} {cC : ClassId} {b : Addr} {As rest : List Value} {g : JFrame}
    (hat : ClassAt s C cC) (S : CallFix p m c cc nL s args Ts own) (hM : vx_Met l y ws rm Pc Qc XC mc ms free) (cw : va_CI R s args own C index x y bytes maxL ret ws rm mc ms n) (hp : PreV s H C b Pc As)
    (hg : g.method = m) (hn : As.length = n) (hsize : g.locals.size = nL) (hstack : g.stack = As.reverse ++ .ref b :: rest) (hW : 2 * g.monitorRoom + (rest.map fun v => v.category).sum ≤ 8) (hdg : decode cc g.pc = .ok (.invokeinterface index count, 5)) (hf : cells + mc ≤ R.cells ∧ slots + ms ≤ R.slots) :
    vx_Run5 p l e R s m args below meth c H locs cells slots mc ms g rest (Qc (Value.ref b :: As).toArray) XC free := by
  obtain ⟨hrc, hrs, hfr, hlo, hws, hcw⟩ := cw.back
  have hini := cw.init
  have hK : vx_Back l R p e below s args y 5 8 (PreOf R mc ms Pc) (PostOf Qc mc ms free) (vx_Post XC mc ms free) := vx_back (bytes := bytes) (maxL := maxL) (ret := ret) hM hp.1 hrc hrs hfr hlo hws hcw (fun a' U hW => word_at hW (Or.inl (by first | rfl | simp [Cond.onTables, Cond.keeps, Cond.steady])) hini)
  obtain ⟨hx, hb, hml, ho, -⟩ := S
  obtain ⟨-, ⟨cellB, hcB, hoB, hclB⟩, hPc⟩ := hp
  obtain ⟨hfc, kB, hkB, -⟩ := hat
  cases hfc.symm.trans hclB
  intro T hT X
  rcases vx_callIF X hx (C := C) (bytes := bytes) (maxL := maxL) (ret := ret) ho cw.link cw.decl cw.face cw.sel cw.inst cw.pub cw.unh cw.cast cw.code cw.notMH hK (by rw [hT]; exact hcB) hoB hclB hkB hg (hsize.trans hml.symm) (argsL := As) (rest := rest) (fun sig h => hn.trans (cw.len sig h)) hstack hW (by rw [hb]; exact hdg)
    (fun vm₁ hW₁ => ⟨hf.1, hf.2, hPc (T.setVm vm₁) hT hW₁⟩) with ⟨v, vm₁, ⟨U', l2, c2, s2⟩, hW₁, X', ⟨g', mk, t, L, e1, e2, hq, h1, hL, h2, h3⟩, st⟩ | ⟨q, vm₁, ⟨U', l2, c2, s2⟩, hW₁, X', ⟨g', mk, t, L, E, ce, e1, e2, hq, hce, hcv, hcl, h1, hL, h2, h3⟩, st⟩
  · dsimp only [Pt.U, Pt.locs, Pt.cells, Pt.slots] at X' e1 e2 h1 h2 h3 st
    subst h1; subst h2; subst h3
    exact Or.inl ⟨v, (T.setVm vm₁).calling g' mk (Value.ref b :: As).toArray, t, U', L, hT, X', hL, e1, e2, hq, st⟩
  · dsimp only [Pt.U, Pt.locs, Pt.cells, Pt.slots] at X' e1 e2 h1 h2 h3 st hcl
    subst h1; subst h2; subst h3
    exact Or.inr ⟨q, (T.setVm vm₁).calling g' mk (Value.ref b :: As).toArray, t, U', L, E, ce, hT, X', hL, e1, e2, hq, hce, hcv, vx_cls hW₁ hcl, st⟩
theorem vx_callFv {S SX : Type} {post : S → Prop} {px : SX → Prop} {B : S → State → Prop} {BX : String → SX → State → Prop} {AX : Nat → Prop} (hr : vx_Run5 p l e R s m args below meth c H locs cells slots mc ms (F0 m pc ls st0) rest (va_Qv post B A1 a) (vx_X px BX AX) free) (hS : va_S A0 H0 H locs) (hA : ∀ q, q < H.size → A1 q → A0 q) (hf : ∀ q, free q → A0 q) (hAX : ∀ q, q < H.size → AX q → A0 q)
    (kx : ∀ (E : String) (ce : Cell) (q9 : Addr) (u : SX) (t : State) (H1 : Heap) (locs1 : List Loc), t.heap = H1 → s.vm.Alike t.vm → px u → BX E u t → H.size ≤ H1.size → (∀ q : Nat, q < H.size → ¬ AX q → H1[q]? = H[q]?) → va_S A0 H0 H1 locs1 → H1[q9]? = some ce → ce.vm = .none → s.vm.findClass E = some ce.cls → vx_W p l e R s m args below meth c H1 locs1 (cells + mc) (slots + ms) Q (F0 m pc ls rest) q9)
    (kk : ∀ (u : S) (t : State) (H1 : Heap) (locs1 : List Loc), t.heap = H1 → s.vm.Alike t.vm → post u → B u t → H.size ≤ H1.size → (∀ q : Nat, q < H.size → ¬ A1 q → H1[q]? = H[q]?) → va_S A0 H0 H1 locs1 → W p l e R s m args below meth c H1 locs1 (cells + mc) (slots + ms) Q (F0 m (pc + 5) ls (rest))) : W p l e R s m args below meth c H locs cells slots Q (F0 m pc ls st0) := by
  intro T hT X
  rcases hr T hT X with ⟨v, st₀, t, T', L, h0, X', hL, e1, e2, ⟨⟨u, hv, hp, hb⟩, hF⟩, st⟩ | ⟨q, st₀, t, T', L, E, ce, h0, X', hL, e1, e2, ⟨u, hp, hb, hF⟩, hce, hcv, hcl, st⟩
  · cases hv
    obtain ⟨k1, k2, k3⟩ := vx_keep h0 e1 hS hA hf hL hF
    obtain ⟨t2, a1, b1⟩ := kk u t T'.heap (locs ++ L) e1.symm (by rw [← e2]; exact X'.warmed.alike) hp hb k1 k2 k3 T' rfl X'
    exact ⟨t2, st t2 a1, b1⟩
  · obtain ⟨k1, k2, k3⟩ := vx_keep h0 e1 hS hAX hf hL hF
    obtain ⟨t2, a1, b1⟩ := kx E ce q u t T'.heap (locs ++ L) e1.symm (by rw [← e2]; exact X'.warmed.alike) hp hb k1 k2 k3 (by rw [e1]; exact hce) hcv hcl T' rfl X'
    exact ⟨t2, st.trans a1, b1⟩
theorem vx_callFi {S SX : Type} {post : Int32 → S → Prop} {px : SX → Prop} {B : S → State → Prop} {BX : String → SX → State → Prop} {AX : Nat → Prop} (hr : vx_Run5 p l e R s m args below meth c H locs cells slots mc ms (F0 m pc ls st0) rest (va_Qi post B A1 a) (vx_X px BX AX) free) (hS : va_S A0 H0 H locs) (hA : ∀ q, q < H.size → A1 q → A0 q) (hf : ∀ q, free q → A0 q) (hAX : ∀ q, q < H.size → AX q → A0 q)
    (kx : ∀ (E : String) (ce : Cell) (q9 : Addr) (u : SX) (t : State) (H1 : Heap) (locs1 : List Loc), t.heap = H1 → s.vm.Alike t.vm → px u → BX E u t → H.size ≤ H1.size → (∀ q : Nat, q < H.size → ¬ AX q → H1[q]? = H[q]?) → va_S A0 H0 H1 locs1 → H1[q9]? = some ce → ce.vm = .none → s.vm.findClass E = some ce.cls → vx_W p l e R s m args below meth c H1 locs1 (cells + mc) (slots + ms) Q (F0 m pc ls rest) q9)
    (kk : ∀ (r : Int32) (u : S) (t : State) (H1 : Heap) (locs1 : List Loc), t.heap = H1 → s.vm.Alike t.vm → post r u → B u t → H.size ≤ H1.size → (∀ q : Nat, q < H.size → ¬ A1 q → H1[q]? = H[q]?) → va_S A0 H0 H1 locs1 → W p l e R s m args below meth c H1 locs1 (cells + mc) (slots + ms) Q (F0 m (pc + 5) ls (.int r :: rest))) : W p l e R s m args below meth c H locs cells slots Q (F0 m pc ls st0) := by
  intro T hT X
  rcases hr T hT X with ⟨v, st₀, t, T', L, h0, X', hL, e1, e2, ⟨⟨r, u, hv, hp, hb⟩, hF⟩, st⟩ | ⟨q, st₀, t, T', L, E, ce, h0, X', hL, e1, e2, ⟨u, hp, hb, hF⟩, hce, hcv, hcl, st⟩
  · cases hv
    obtain ⟨k1, k2, k3⟩ := vx_keep h0 e1 hS hA hf hL hF
    obtain ⟨t2, a1, b1⟩ := kk r u t T'.heap (locs ++ L) e1.symm (by rw [← e2]; exact X'.warmed.alike) hp hb k1 k2 k3 T' rfl X'
    exact ⟨t2, st t2 a1, b1⟩
  · obtain ⟨k1, k2, k3⟩ := vx_keep h0 e1 hS hAX hf hL hF
    obtain ⟨t2, a1, b1⟩ := kx E ce q u t T'.heap (locs ++ L) e1.symm (by rw [← e2]; exact X'.warmed.alike) hp hb k1 k2 k3 (by rw [e1]; exact hce) hcv hcl T' rfl X'
    exact ⟨t2, st.trans a1, b1⟩
theorem vx_callFl {S SX : Type} {post : Int64 → S → Prop} {px : SX → Prop} {B : S → State → Prop} {BX : String → SX → State → Prop} {AX : Nat → Prop} (hr : vx_Run5 p l e R s m args below meth c H locs cells slots mc ms (F0 m pc ls st0) rest (va_Ql post B A1 a) (vx_X px BX AX) free) (hS : va_S A0 H0 H locs) (hA : ∀ q, q < H.size → A1 q → A0 q) (hf : ∀ q, free q → A0 q) (hAX : ∀ q, q < H.size → AX q → A0 q)
    (kx : ∀ (E : String) (ce : Cell) (q9 : Addr) (u : SX) (t : State) (H1 : Heap) (locs1 : List Loc), t.heap = H1 → s.vm.Alike t.vm → px u → BX E u t → H.size ≤ H1.size → (∀ q : Nat, q < H.size → ¬ AX q → H1[q]? = H[q]?) → va_S A0 H0 H1 locs1 → H1[q9]? = some ce → ce.vm = .none → s.vm.findClass E = some ce.cls → vx_W p l e R s m args below meth c H1 locs1 (cells + mc) (slots + ms) Q (F0 m pc ls rest) q9)
    (kk : ∀ (r : Int64) (u : S) (t : State) (H1 : Heap) (locs1 : List Loc), t.heap = H1 → s.vm.Alike t.vm → post r u → B u t → H.size ≤ H1.size → (∀ q : Nat, q < H.size → ¬ A1 q → H1[q]? = H[q]?) → va_S A0 H0 H1 locs1 → W p l e R s m args below meth c H1 locs1 (cells + mc) (slots + ms) Q (F0 m (pc + 5) ls (.long r :: rest))) : W p l e R s m args below meth c H locs cells slots Q (F0 m pc ls st0) := by
  intro T hT X
  rcases hr T hT X with ⟨v, st₀, t, T', L, h0, X', hL, e1, e2, ⟨⟨r, u, hv, hp, hb⟩, hF⟩, st⟩ | ⟨q, st₀, t, T', L, E, ce, h0, X', hL, e1, e2, ⟨u, hp, hb, hF⟩, hce, hcv, hcl, st⟩
  · cases hv
    obtain ⟨k1, k2, k3⟩ := vx_keep h0 e1 hS hA hf hL hF
    obtain ⟨t2, a1, b1⟩ := kk r u t T'.heap (locs ++ L) e1.symm (by rw [← e2]; exact X'.warmed.alike) hp hb k1 k2 k3 T' rfl X'
    exact ⟨t2, st t2 a1, b1⟩
  · obtain ⟨k1, k2, k3⟩ := vx_keep h0 e1 hS hAX hf hL hF
    obtain ⟨t2, a1, b1⟩ := kx E ce q u t T'.heap (locs ++ L) e1.symm (by rw [← e2]; exact X'.warmed.alike) hp hb k1 k2 k3 (by rw [e1]; exact hce) hcv hcl T' rfl X'
    exact ⟨t2, st.trans a1, b1⟩
theorem vx_callFf {S SX : Type} {post : UInt32 → S → Prop} {px : SX → Prop} {B : S → State → Prop} {BX : String → SX → State → Prop} {AX : Nat → Prop} (hr : vx_Run5 p l e R s m args below meth c H locs cells slots mc ms (F0 m pc ls st0) rest (va_Qf post B A1 a) (vx_X px BX AX) free) (hS : va_S A0 H0 H locs) (hA : ∀ q, q < H.size → A1 q → A0 q) (hf : ∀ q, free q → A0 q) (hAX : ∀ q, q < H.size → AX q → A0 q)
    (kx : ∀ (E : String) (ce : Cell) (q9 : Addr) (u : SX) (t : State) (H1 : Heap) (locs1 : List Loc), t.heap = H1 → s.vm.Alike t.vm → px u → BX E u t → H.size ≤ H1.size → (∀ q : Nat, q < H.size → ¬ AX q → H1[q]? = H[q]?) → va_S A0 H0 H1 locs1 → H1[q9]? = some ce → ce.vm = .none → s.vm.findClass E = some ce.cls → vx_W p l e R s m args below meth c H1 locs1 (cells + mc) (slots + ms) Q (F0 m pc ls rest) q9)
    (kk : ∀ (r : UInt32) (u : S) (t : State) (H1 : Heap) (locs1 : List Loc), t.heap = H1 → s.vm.Alike t.vm → post r u → B u t → H.size ≤ H1.size → (∀ q : Nat, q < H.size → ¬ A1 q → H1[q]? = H[q]?) → va_S A0 H0 H1 locs1 → W p l e R s m args below meth c H1 locs1 (cells + mc) (slots + ms) Q (F0 m (pc + 5) ls (.float r :: rest))) : W p l e R s m args below meth c H locs cells slots Q (F0 m pc ls st0) := by
  intro T hT X
  rcases hr T hT X with ⟨v, st₀, t, T', L, h0, X', hL, e1, e2, ⟨⟨r, u, hv, hp, hb⟩, hF⟩, st⟩ | ⟨q, st₀, t, T', L, E, ce, h0, X', hL, e1, e2, ⟨u, hp, hb, hF⟩, hce, hcv, hcl, st⟩
  · cases hv
    obtain ⟨k1, k2, k3⟩ := vx_keep h0 e1 hS hA hf hL hF
    obtain ⟨t2, a1, b1⟩ := kk r u t T'.heap (locs ++ L) e1.symm (by rw [← e2]; exact X'.warmed.alike) hp hb k1 k2 k3 T' rfl X'
    exact ⟨t2, st t2 a1, b1⟩
  · obtain ⟨k1, k2, k3⟩ := vx_keep h0 e1 hS hAX hf hL hF
    obtain ⟨t2, a1, b1⟩ := kx E ce q u t T'.heap (locs ++ L) e1.symm (by rw [← e2]; exact X'.warmed.alike) hp hb k1 k2 k3 (by rw [e1]; exact hce) hcv hcl T' rfl X'
    exact ⟨t2, st.trans a1, b1⟩
theorem vx_callFd {S SX : Type} {post : UInt64 → S → Prop} {px : SX → Prop} {B : S → State → Prop} {BX : String → SX → State → Prop} {AX : Nat → Prop} (hr : vx_Run5 p l e R s m args below meth c H locs cells slots mc ms (F0 m pc ls st0) rest (va_Qd post B A1 a) (vx_X px BX AX) free) (hS : va_S A0 H0 H locs) (hA : ∀ q, q < H.size → A1 q → A0 q) (hf : ∀ q, free q → A0 q) (hAX : ∀ q, q < H.size → AX q → A0 q)
    (kx : ∀ (E : String) (ce : Cell) (q9 : Addr) (u : SX) (t : State) (H1 : Heap) (locs1 : List Loc), t.heap = H1 → s.vm.Alike t.vm → px u → BX E u t → H.size ≤ H1.size → (∀ q : Nat, q < H.size → ¬ AX q → H1[q]? = H[q]?) → va_S A0 H0 H1 locs1 → H1[q9]? = some ce → ce.vm = .none → s.vm.findClass E = some ce.cls → vx_W p l e R s m args below meth c H1 locs1 (cells + mc) (slots + ms) Q (F0 m pc ls rest) q9)
    (kk : ∀ (r : UInt64) (u : S) (t : State) (H1 : Heap) (locs1 : List Loc), t.heap = H1 → s.vm.Alike t.vm → post r u → B u t → H.size ≤ H1.size → (∀ q : Nat, q < H.size → ¬ A1 q → H1[q]? = H[q]?) → va_S A0 H0 H1 locs1 → W p l e R s m args below meth c H1 locs1 (cells + mc) (slots + ms) Q (F0 m (pc + 5) ls (.double r :: rest))) : W p l e R s m args below meth c H locs cells slots Q (F0 m pc ls st0) := by
  intro T hT X
  rcases hr T hT X with ⟨v, st₀, t, T', L, h0, X', hL, e1, e2, ⟨⟨r, u, hv, hp, hb⟩, hF⟩, st⟩ | ⟨q, st₀, t, T', L, E, ce, h0, X', hL, e1, e2, ⟨u, hp, hb, hF⟩, hce, hcv, hcl, st⟩
  · cases hv
    obtain ⟨k1, k2, k3⟩ := vx_keep h0 e1 hS hA hf hL hF
    obtain ⟨t2, a1, b1⟩ := kk r u t T'.heap (locs ++ L) e1.symm (by rw [← e2]; exact X'.warmed.alike) hp hb k1 k2 k3 T' rfl X'
    exact ⟨t2, st t2 a1, b1⟩
  · obtain ⟨k1, k2, k3⟩ := vx_keep h0 e1 hS hAX hf hL hF
    obtain ⟨t2, a1, b1⟩ := kx E ce q u t T'.heap (locs ++ L) e1.symm (by rw [← e2]; exact X'.warmed.alike) hp hb k1 k2 k3 (by rw [e1]; exact hce) hcv hcl T' rfl X'
    exact ⟨t2, st.trans a1, b1⟩
end
/-! ===== END ===== -/
/-! ===== BEGIN by an interface, a method with a table of its own that may throw (follows va_callIFW, va_runFW) ===== -/
section
variable {p : Program} {l : Launch} {e : Env} {R : Room} {s : State} {m : MethodId} {args : Array Value} {below : List Frame} {meth : Method} {c : Code} {H : Heap} {locs : List Loc} {cells slots : Nat}
theorem vx_callIFW {T : State} (X : Stand p l e R s m args below meth c T locs cells slots) (hexec : p.tables.exec = Jvm.exec) {own C : String} {index count : Nat} {x y : MethodName} {bytes : ByteArray} {maxL : Nat} {ret : Option FieldType} {hh : List (Nat × Nat × Nat × Nat)}
    (hown : s.vm.findClass own = some m.cls) (hlink : (Cond.methodLink own index x).before args s = true) (hdecl : (Cond.declares x).before args s = true) (hface : (Cond.interfaceMethod x.cls x.cls x.name x.desc).before args s = true)
    (hsel : (Cond.selects C x y).before args s = true) (hinst : (Cond.instanceMethod y).before args s = true) (hpub : (Cond.publicMethod y).before args s = true) (hunh : (Cond.unhidden C x.name x.desc).before args s = true)
    (hcast : (Cond.castable C x.cls).before args s = true) (hcode : (Cond.codeWith y bytes maxL ret hh).before args s = true) (hx : x.cls ≠ "java/lang/invoke/MethodHandle" ∧ x.cls ≠ "java/lang/invoke/VarHandle")
    {W : Nat} {Pre : Pt → Array Value → Prop} {Post : Pt → Array Value → Option Value → Pt → Prop} {PostX : Pt → Array Value → Addr → Pt → Prop} (hK : vx_Back l R p e below s args y 5 W Pre Post PostX)
    {b : Addr} {cellB : Cell} {kB : Class} (hcell : T.heap[b]? = some cellB) (hobj : cellB.vm.isStatics = false) (hcls : s.vm.findClass C = some cellB.cls) (hkB : s.vm.classes[cellB.cls]? = some kB)
    {g : JFrame} (hg : g.method = m) (hsize : g.locals.size = c.maxLocals) {argsL rest : List Value} (hlen : ∀ sig, parseMethodDescriptor x.desc = some sig → argsL.length = sig.parameters.length)
    (hstack : g.stack = argsL.reverse ++ .ref b :: rest) (hW : 2 * g.monitorRoom + (rest.map fun v => v.category).sum ≤ W) (hdg : decode c.code g.pc = .ok (.invokeinterface index count, 5))
    (hpre : ∀ vm₁, s.WarmedH vm₁ → Pre ⟨T.setVm vm₁, locs, cells, slots⟩ (Value.ref b :: argsL).toArray) :
    (∃ (v : Option Value) (vm₁ : Vm) (B : Pt), s.WarmedH vm₁ ∧ Stand p l e R s m args below meth c B.U B.locs B.cells B.slots ∧ Post ⟨T.setVm vm₁, locs, cells, slots⟩ (Value.ref b :: argsL).toArray v B ∧
      ∀ target, Steps p.tables e below (B.U.setTop { g with pc := g.pc + 5, stack := v.toList ++ rest }) target → Steps p.tables e below (T.setTop g) target) ∨
    (∃ (q : Addr) (vm₁ : Vm) (B : Pt), s.WarmedH vm₁ ∧ Stand p l e R s m args below meth c B.U B.locs B.cells B.slots ∧ PostX ⟨T.setVm vm₁, locs, cells, slots⟩ (Value.ref b :: argsL).toArray q B ∧
      Steps p.tables e below (T.setTop g) ((B.U.setTop { g with stack := rest }).pushFrame (.throwing q))) := by
  obtain ⟨r0, r, hn, hrm, hstR, hsigR⟩ := Cond.declares_spec hdecl
  obtain ⟨cL, kL, r1, hcL, hkL, hiL, hfoundL, hn1⟩ := Cond.interfaceMethod_spec hface
  cases hn.symm.trans hn1
  have hr0cls : r0.cls = cL := Option.some.inj ((findClass_of_methodNamed hn).symm.trans hcL)
  obtain ⟨hnameR, hdescR⟩ := name_of_methodNamed hn hrm
  obtain ⟨mk, methM, hnamed, hmethM, -, habM⟩ := Cond.instanceMethod_spec hinst
  obtain ⟨c2, r2, m2, q1, q2, q3, q4, -⟩ := Cond.selects_spec hsel
  cases hcls.symm.trans q1
  cases hfoundL.symm.trans q2
  cases hnamed.symm.trans q3
  have hselP : selectMethod e.platform s.vm cellB.cls r0 = .method mk := by rw [Launch.admits_selectMethod X.admits]; exact q4
  have hpubM : hasFlag methM.accessFlags Acc.public_ = true := Cond.publicMethod_spec hnamed hmethM hpub
  have hway : ((cellB.cls :: s.vm.superclasses cellB.cls).any fun k => (declaredIn s.vm r.name r.desc k).any fun (_, z) => z.isPrivate || z.isStatic) = false := by
    rw [hnameR, hdescR]; exact Cond.unhidden_spec hcls hunh
  obtain ⟨c3, t3, w1, w2, w3⟩ := Cond.castable_spec hcast
  cases hcls.symm.trans w1
  cases hcL.symm.trans w2
  obtain ⟨vm₁, X₁, hstep₁⟩ := X.invokeinterface hexec hown hlink hn hrm hstR (by rw [hr0cls]; exact hkL) hiL hx (a := b) (cell := cellB) (kcell := kB) hcell
    (fun z h => by rw [h] at hobj; cases hobj) hkB (by rw [hr0cls]; exact w3) hselP hmethM hway hpubM habM (g := g) hg (argsL := argsL) (rest := rest) (hlen _ hsigR) hstack hdg
  rcases hK m meth c ⟨T.setVm vm₁, locs, cells, slots⟩ { g with stack := rest } (.invokeinterface index count) mk (Value.ref b :: argsL).toArray X₁ hg hsize hdg hW (X₁.named hnamed) (hpre vm₁ X₁.warmed) with ⟨v, B, X', hpost, hsteps⟩ | ⟨q, B, X', hpost, hsteps⟩
  · exact Or.inl ⟨v, vm₁, B, X₁.warmed, X', hpost, fun target h => hstep₁ _ fun acts => by rw [doInvoke_state]; exact hsteps.trans h⟩
  · exact Or.inr ⟨q, vm₁, B, X₁.warmed, X', hpost, hstep₁ _ fun acts => by rw [doInvoke_state]; exact hsteps⟩
theorem vx_runFW {x y : MethodName} {bytes cc : ByteArray} {maxL nL mc ms n index count : Nat} {ret : Option FieldType} {hh : List (Nat × Nat × Nat × Nat)} {ws : List Cond} {rm : Room} {Pc : Array Value → State → Prop} {Qc : Array Value → State → Outcome → State → Prop} {XC : String → State → State → Prop} {free : Addr → Prop} {Ts : List Cond} {own C : String} {cC : ClassId} {b : Addr} {As rest : List Value} {g : JFrame}
    (hat : ClassAt s C cC) (S : CallFix p m c cc nL s args Ts own) (hM : vx_Met l y ws rm Pc Qc XC mc ms free) (cw : va_CIW R s args own C index x y bytes maxL ret hh ws rm mc ms n) (hp : PreV s H C b Pc As)
    (hg : g.method = m) (hn : As.length = n) (hsize : g.locals.size = nL) (hstack : g.stack = As.reverse ++ .ref b :: rest) (hW : 2 * g.monitorRoom + (rest.map fun v => v.category).sum ≤ 8) (hdg : decode cc g.pc = .ok (.invokeinterface index count, 5)) (hf : cells + mc ≤ R.cells ∧ slots + ms ≤ R.slots) :
    vx_Run5 p l e R s m args below meth c H locs cells slots mc ms g rest (Qc (Value.ref b :: As).toArray) XC free := by
  obtain ⟨hrc, hrs, hfr, hlo, hws, hcw⟩ := cw.back
  have hini := cw.init
  have hK : vx_Back l R p e below s args y 5 8 (PreOf R mc ms Pc) (PostOf Qc mc ms free) (vx_Post XC mc ms free) := vx_backW (hh := hh) (bytes := bytes) (maxL := maxL) (ret := ret) hM hp.1 hrc hrs hfr hlo hws hcw (fun a' U hW => word_at hW (Or.inl (by first | rfl | simp [Cond.onTables, Cond.keeps, Cond.steady])) hini)
  obtain ⟨hx, hb, hml, ho, -⟩ := S
  obtain ⟨-, ⟨cellB, hcB, hoB, hclB⟩, hPc⟩ := hp
  obtain ⟨hfc, kB, hkB, -⟩ := hat
  cases hfc.symm.trans hclB
  intro T hT X
  rcases vx_callIFW X hx (C := C) (hh := hh) (bytes := bytes) (maxL := maxL) (ret := ret) ho cw.link cw.decl cw.face cw.sel cw.inst cw.pub cw.unh cw.cast cw.code cw.notMH hK (by rw [hT]; exact hcB) hoB hclB hkB hg (hsize.trans hml.symm) (argsL := As) (rest := rest) (fun sig h => hn.trans (cw.len sig h)) hstack hW (by rw [hb]; exact hdg)
    (fun vm₁ hW₁ => ⟨hf.1, hf.2, hPc (T.setVm vm₁) hT hW₁⟩) with ⟨v, vm₁, ⟨U', l2, c2, s2⟩, hW₁, X', ⟨g', mk, t, L, e1, e2, hq, h1, hL, h2, h3⟩, st⟩ | ⟨q, vm₁, ⟨U', l2, c2, s2⟩, hW₁, X', ⟨g', mk, t, L, E, ce, e1, e2, hq, hce, hcv, hcl, h1, hL, h2, h3⟩, st⟩
  · dsimp only [Pt.U, Pt.locs, Pt.cells, Pt.slots] at X' e1 e2 h1 h2 h3 st
    subst h1; subst h2; subst h3
    exact Or.inl ⟨v, (T.setVm vm₁).calling g' mk (Value.ref b :: As).toArray, t, U', L, hT, X', hL, e1, e2, hq, st⟩
  · dsimp only [Pt.U, Pt.locs, Pt.cells, Pt.slots] at X' e1 e2 h1 h2 h3 st hcl
    subst h1; subst h2; subst h3
    exact Or.inr ⟨q, (T.setVm vm₁).calling g' mk (Value.ref b :: As).toArray, t, U', L, E, ce, hT, X', hL, e1, e2, hq, hce, hcv, vx_cls hW₁ hcl, st⟩
end
/-! ===== END ===== -/
/-! ===== BEGIN .. of methods that hand back an object of the pool ===== -/
section
variable {p : Program} {l : Launch} {e : Env} {R : Room} {s : State} {m : MethodId} {args : Array Value} {below : List Frame} {meth : Method} {c : Code} {H : Heap} {locs : List Loc} {cells slots : Nat} {Q : State → Prop}
variable {mc ms : Nat} {free : Addr → Prop} {A0 A1 : Nat → Prop} {H0 : Heap} {a : Array Value} {pc : Nat} {ls : Array Slot} {st0 rest : List Value}
theorem vx_callq {S SX : Type} {post : Option Nat → S → Prop} {px : SX → Prop} {B : S → State → Prop} {BX : String → SX → State → Prop} {AX : Nat → Prop} (hr : vx_Run p l e R s m args below meth c H locs cells slots mc ms (F0 m pc ls st0) rest (va_Qq post B A1 a) (vx_X px BX AX) free) (hS : va_S A0 H0 H locs) (hA : ∀ q, q < H.size → A1 q → A0 q) (hf : ∀ q, free q → A0 q) (hAX : ∀ q, q < H.size → AX q → A0 q)
    (kx : ∀ (E : String) (ce : Cell) (q9 : Addr) (u : SX) (t : State) (H1 : Heap) (locs1 : List Loc), t.heap = H1 → s.vm.Alike t.vm → px u → BX E u t → H.size ≤ H1.size → (∀ q : Nat, q < H.size → ¬ AX q → H1[q]? = H[q]?) → va_S A0 H0 H1 locs1 → H1[q9]? = some ce → ce.vm = .none → s.vm.findClass E = some ce.cls → vx_W p l e R s m args below meth c H1 locs1 (cells + mc) (slots + ms) Q (F0 m pc ls rest) q9)
    (kk : ∀ (r : Option Nat) (u : S) (t : State) (H1 : Heap) (locs1 : List Loc), t.heap = H1 → s.vm.Alike t.vm → post r u → B u t → H.size ≤ H1.size → (∀ q : Nat, q < H.size → ¬ A1 q → H1[q]? = H[q]?) → va_S A0 H0 H1 locs1 → W p l e R s m args below meth c H1 locs1 (cells + mc) (slots + ms) Q (F0 m (pc + 3) ls (va_rf r :: rest))) : W p l e R s m args below meth c H locs cells slots Q (F0 m pc ls st0) := by
  intro T hT X
  rcases hr T hT X with ⟨v, st₀, t, T', L, h0, X', hL, e1, e2, ⟨⟨r, u, hv, hp, hb⟩, hF⟩, st⟩ | ⟨q, st₀, t, T', L, E, ce, h0, X', hL, e1, e2, ⟨u, hp, hb, hF⟩, hce, hcv, hcl, st⟩
  · cases hv
    obtain ⟨k1, k2, k3⟩ := vx_keep h0 e1 hS hA hf hL hF
    obtain ⟨t2, a1, b1⟩ := kk r u t T'.heap (locs ++ L) e1.symm (by rw [← e2]; exact X'.warmed.alike) hp hb k1 k2 k3 T' rfl X'
    exact ⟨t2, st t2 a1, b1⟩
  · obtain ⟨k1, k2, k3⟩ := vx_keep h0 e1 hS hAX hf hL hF
    obtain ⟨t2, a1, b1⟩ := kx E ce q u t T'.heap (locs ++ L) e1.symm (by rw [← e2]; exact X'.warmed.alike) hp hb k1 k2 k3 (by rw [e1]; exact hce) hcv hcl T' rfl X'
    exact ⟨t2, st.trans a1, b1⟩
end
/-! ===== END ===== -/
/-! ===== BEGIN .. a constant ===== -/
section
variable {p : Program} {l : Launch} {e : Env} {R : Room} {s : State} {m : MethodId} {args : Array Value} {below : List Frame} {meth : Method} {c : Code} {H : Heap} {locs : List Loc} {cells slots : Nat} {Q : State → Prop}
variable {mc ms : Nat} {free : Addr → Prop} {A0 A1 : Nat → Prop} {H0 : Heap} {a : Array Value} {pc : Nat} {ls : Array Slot} {st0 rest : List Value}
theorem vx_calle {ad : Nat → Nat} {S SX : Type} {post : Option Nat → S → Prop} {px : SX → Prop} {B : S → State → Prop} {BX : String → SX → State → Prop} {AX : Nat → Prop} (hr : vx_Run p l e R s m args below meth c H locs cells slots mc ms (F0 m pc ls st0) rest (va_Qe ad post B A1 a) (vx_X px BX AX) free) (hS : va_S A0 H0 H locs) (hA : ∀ q, q < H.size → A1 q → A0 q) (hf : ∀ q, free q → A0 q) (hAX : ∀ q, q < H.size → AX q → A0 q)
    (kx : ∀ (E : String) (ce : Cell) (q9 : Addr) (u : SX) (t : State) (H1 : Heap) (locs1 : List Loc), t.heap = H1 → s.vm.Alike t.vm → px u → BX E u t → H.size ≤ H1.size → (∀ q : Nat, q < H.size → ¬ AX q → H1[q]? = H[q]?) → va_S A0 H0 H1 locs1 → H1[q9]? = some ce → ce.vm = .none → s.vm.findClass E = some ce.cls → vx_W p l e R s m args below meth c H1 locs1 (cells + mc) (slots + ms) Q (F0 m pc ls rest) q9)
    (kk : ∀ (r : Option Nat) (u : S) (t : State) (H1 : Heap) (locs1 : List Loc), t.heap = H1 → s.vm.Alike t.vm → post r u → B u t → H.size ≤ H1.size → (∀ q : Nat, q < H.size → ¬ A1 q → H1[q]? = H[q]?) → va_S A0 H0 H1 locs1 → W p l e R s m args below meth c H1 locs1 (cells + mc) (slots + ms) Q (F0 m (pc + 3) ls (va_re ad r :: rest))) : W p l e R s m args below meth c H locs cells slots Q (F0 m pc ls st0) := by
  intro T hT X
  rcases hr T hT X with ⟨v, st₀, t, T', L, h0, X', hL, e1, e2, ⟨⟨r, u, hv, hp, hb⟩, hF⟩, st⟩ | ⟨q, st₀, t, T', L, E, ce, h0, X', hL, e1, e2, ⟨u, hp, hb, hF⟩, hce, hcv, hcl, st⟩
  · cases hv
    obtain ⟨k1, k2, k3⟩ := vx_keep h0 e1 hS hA hf hL hF
    obtain ⟨t2, a1, b1⟩ := kk r u t T'.heap (locs ++ L) e1.symm (by rw [← e2]; exact X'.warmed.alike) hp hb k1 k2 k3 T' rfl X'
    exact ⟨t2, st t2 a1, b1⟩
  · obtain ⟨k1, k2, k3⟩ := vx_keep h0 e1 hS hAX hf hL hF
    obtain ⟨t2, a1, b1⟩ := kx E ce q u t T'.heap (locs ++ L) e1.symm (by rw [← e2]; exact X'.warmed.alike) hp hb k1 k2 k3 (by rw [e1]; exact hce) hcv hcl T' rfl X'
    exact ⟨t2, st.trans a1, b1⟩
end
/-! ===== END ===== -/
/-! ===== BEGIN .. by an interface, an object ===== -/
section
variable {p : Program} {l : Launch} {e : Env} {R : Room} {s : State} {m : MethodId} {args : Array Value} {below : List Frame} {meth : Method} {c : Code} {H : Heap} {locs : List Loc} {cells slots : Nat} {Q : State → Prop}
variable {mc ms : Nat} {free : Addr → Prop} {A0 A1 : Nat → Prop} {H0 : Heap} {a : Array Value} {pc : Nat} {ls : Array Slot} {st0 rest : List Value}
theorem vx_callFq {S SX : Type} {post : Option Nat → S → Prop} {px : SX → Prop} {B : S → State → Prop} {BX : String → SX → State → Prop} {AX : Nat → Prop} (hr : vx_Run5 p l e R s m args below meth c H locs cells slots mc ms (F0 m pc ls st0) rest (va_Qq post B A1 a) (vx_X px BX AX) free) (hS : va_S A0 H0 H locs) (hA : ∀ q, q < H.size → A1 q → A0 q) (hf : ∀ q, free q → A0 q) (hAX : ∀ q, q < H.size → AX q → A0 q)
    (kx : ∀ (E : String) (ce : Cell) (q9 : Addr) (u : SX) (t : State) (H1 : Heap) (locs1 : List Loc), t.heap = H1 → s.vm.Alike t.vm → px u → BX E u t → H.size ≤ H1.size → (∀ q : Nat, q < H.size → ¬ AX q → H1[q]? = H[q]?) → va_S A0 H0 H1 locs1 → H1[q9]? = some ce → ce.vm = .none → s.vm.findClass E = some ce.cls → vx_W p l e R s m args below meth c H1 locs1 (cells + mc) (slots + ms) Q (F0 m pc ls rest) q9)
    (kk : ∀ (r : Option Nat) (u : S) (t : State) (H1 : Heap) (locs1 : List Loc), t.heap = H1 → s.vm.Alike t.vm → post r u → B u t → H.size ≤ H1.size → (∀ q : Nat, q < H.size → ¬ A1 q → H1[q]? = H[q]?) → va_S A0 H0 H1 locs1 → W p l e R s m args below meth c H1 locs1 (cells + mc) (slots + ms) Q (F0 m (pc + 5) ls (va_rf r :: rest))) : W p l e R s m args below meth c H locs cells slots Q (F0 m pc ls st0) := by
  intro T hT X
  rcases hr T hT X with ⟨v, st₀, t, T', L, h0, X', hL, e1, e2, ⟨⟨r, u, hv, hp, hb⟩, hF⟩, st⟩ | ⟨q, st₀, t, T', L, E, ce, h0, X', hL, e1, e2, ⟨u, hp, hb, hF⟩, hce, hcv, hcl, st⟩
  · cases hv
    obtain ⟨k1, k2, k3⟩ := vx_keep h0 e1 hS hA hf hL hF
    obtain ⟨t2, a1, b1⟩ := kk r u t T'.heap (locs ++ L) e1.symm (by rw [← e2]; exact X'.warmed.alike) hp hb k1 k2 k3 T' rfl X'
    exact ⟨t2, st t2 a1, b1⟩
  · obtain ⟨k1, k2, k3⟩ := vx_keep h0 e1 hS hAX hf hL hF
    obtain ⟨t2, a1, b1⟩ := kx E ce q u t T'.heap (locs ++ L) e1.symm (by rw [← e2]; exact X'.warmed.alike) hp hb k1 k2 k3 (by rw [e1]; exact hce) hcv hcl T' rfl X'
    exact ⟨t2, st.trans a1, b1⟩
end
/-! ===== END ===== -/
/-! ===== BEGIN .. by an interface, a constant ===== -/
section
variable {p : Program} {l : Launch} {e : Env} {R : Room} {s : State} {m : MethodId} {args : Array Value} {below : List Frame} {meth : Method} {c : Code} {H : Heap} {locs : List Loc} {cells slots : Nat} {Q : State → Prop}
variable {mc ms : Nat} {free : Addr → Prop} {A0 A1 : Nat → Prop} {H0 : Heap} {a : Array Value} {pc : Nat} {ls : Array Slot} {st0 rest : List Value}
theorem vx_callFe {ad : Nat → Nat} {S SX : Type} {post : Option Nat → S → Prop} {px : SX → Prop} {B : S → State → Prop} {BX : String → SX → State → Prop} {AX : Nat → Prop} (hr : vx_Run5 p l e R s m args below meth c H locs cells slots mc ms (F0 m pc ls st0) rest (va_Qe ad post B A1 a) (vx_X px BX AX) free) (hS : va_S A0 H0 H locs) (hA : ∀ q, q < H.size → A1 q → A0 q) (hf : ∀ q, free q → A0 q) (hAX : ∀ q, q < H.size → AX q → A0 q)
    (kx : ∀ (E : String) (ce : Cell) (q9 : Addr) (u : SX) (t : State) (H1 : Heap) (locs1 : List Loc), t.heap = H1 → s.vm.Alike t.vm → px u → BX E u t → H.size ≤ H1.size → (∀ q : Nat, q < H.size → ¬ AX q → H1[q]? = H[q]?) → va_S A0 H0 H1 locs1 → H1[q9]? = some ce → ce.vm = .none → s.vm.findClass E = some ce.cls → vx_W p l e R s m args below meth c H1 locs1 (cells + mc) (slots + ms) Q (F0 m pc ls rest) q9)
    (kk : ∀ (r : Option Nat) (u : S) (t : State) (H1 : Heap) (locs1 : List Loc), t.heap = H1 → s.vm.Alike t.vm → post r u → B u t → H.size ≤ H1.size → (∀ q : Nat, q < H.size → ¬ A1 q → H1[q]? = H[q]?) → va_S A0 H0 H1 locs1 → W p l e R s m args below meth c H1 locs1 (cells + mc) (slots + ms) Q (F0 m (pc + 5) ls (va_re ad r :: rest))) : W p l e R s m args below meth c H locs cells slots Q (F0 m pc ls st0) := by
  intro T hT X
  rcases hr T hT X with ⟨v, st₀, t, T', L, h0, X', hL, e1, e2, ⟨⟨r, u, hv, hp, hb⟩, hF⟩, st⟩ | ⟨q, st₀, t, T', L, E, ce, h0, X', hL, e1, e2, ⟨u, hp, hb, hF⟩, hce, hcv, hcl, st⟩
  · cases hv
    obtain ⟨k1, k2, k3⟩ := vx_keep h0 e1 hS hA hf hL hF
    obtain ⟨t2, a1, b1⟩ := kk r u t T'.heap (locs ++ L) e1.symm (by rw [← e2]; exact X'.warmed.alike) hp hb k1 k2 k3 T' rfl X'
    exact ⟨t2, st t2 a1, b1⟩
  · obtain ⟨k1, k2, k3⟩ := vx_keep h0 e1 hS hAX hf hL hF
    obtain ⟨t2, a1, b1⟩ := kx E ce q u t T'.heap (locs ++ L) e1.symm (by rw [← e2]; exact X'.warmed.alike) hp hb k1 k2 k3 (by rw [e1]; exact hce) hcv hcl T' rfl X'
    exact ⟨t2, st.trans a1, b1⟩
end
/-! ===== END ===== -/
/-! ===== BEGIN what the machine throws by itself: null at a field, at athrow ===== -/
section VXM2
variable {p : Program} {l : Launch} {e : Env} {R : Room} {s : State} {m : MethodId} {args : Array Value} {below : List Frame} {meth : Method} {c : Code} {H : Heap} {locs : List Loc} {cells slots : Nat}
variable {Q : State → Prop} {cc : ByteArray} {pc : Nat} {ls : Array Slot} {rest : List Value}
theorem vx_getfN {D cl tys} {own ref C : String} {T : u_T} {N ci index : Nat} {Ts : List Cond} (hexec : p.tables.exec = Jvm.exec) (hb : c.code = cc) (hts : ∀ w ∈ Ts, w.before args s = true) (hin : ∀ w ∈ u_ws C T N, w ∈ Ts) (hown : s.vm.findClass own = some m.cls) (hK : va_K D cl tys s) (hc : cl[ci]? = some (C, T, N)) (k : Nat) (hk : k < N) (hlink : (Cond.fieldLink own index ref (T k).2.1 (T k).2.2.1).before args s = true) (hsame : ∀ x, s.fieldFound? (T k).1 (T k).2.1 (T k).2.2.1 = some x → s.fieldFound? ref (T k).2.1 (T k).2.2.1 = some x) (hdg : decode cc pc = .ok (.getfield index, 3)) (kk : vx_NoteN p l e R s m args below meth c H locs cells slots Q (F0 m pc ls rest)) : W p l e R s m args below meth c H locs cells slots Q (F0 m pc ls (.null :: rest)) := by
  obtain ⟨hS, hfc, kC, hkC, -⟩ := hK.1 ci _ hc
  obtain ⟨cf, kf, fi, f, hi, -⟩ := hS k hk
  intro U hU X
  obtain ⟨vm', X1, st1⟩ := X.getfieldNull hexec hown hlink (hsame _ hi) (u_facts hfc hkC (u_lays hts hin hk) hi).1 (g := F0 m pc ls (.null :: rest)) rfl (rest := rest) rfl (by rw [hb]; exact hdg)
  obtain ⟨t, st, q⟩ := kk (U.setVm vm') hU X1
  exact ⟨t, st1 t st, q⟩
theorem vx_getfNN {D cl tys} {own ref C host : String} {T : u_T} {N ci index : Nat} {Ts : List Cond} (hexec : p.tables.exec = Jvm.exec) (hb : c.code = cc) (hts : ∀ w ∈ Ts, w.before args s = true) (hin : ∀ w ∈ u_ws C T N, w ∈ Ts) (hown : s.vm.findClass own = some m.cls) (hK : va_K D cl tys s) (hc : cl[ci]? = some (C, T, N)) (k : Nat) (hk : k < N) (hlink : (Cond.fieldLinkNest own index ref (T k).2.1 (T k).2.2.1 host).before args s = true) (hsame : ∀ x, s.fieldFound? (T k).1 (T k).2.1 (T k).2.2.1 = some x → s.fieldFound? ref (T k).2.1 (T k).2.2.1 = some x) (hdg : decode cc pc = .ok (.getfield index, 3)) (kk : vx_NoteN p l e R s m args below meth c H locs cells slots Q (F0 m pc ls rest)) : W p l e R s m args below meth c H locs cells slots Q (F0 m pc ls (.null :: rest)) := by
  obtain ⟨hS, hfc, kC, hkC, -⟩ := hK.1 ci _ hc
  obtain ⟨cf, kf, fi, f, hi, -⟩ := hS k hk
  intro U hU X
  obtain ⟨vm', X1, st1⟩ := X.getfieldNullNest hexec hown hlink (hsame _ hi) (u_facts hfc hkC (u_lays hts hin hk) hi).1 (g := F0 m pc ls (.null :: rest)) rfl (rest := rest) rfl (by rw [hb]; exact hdg)
  obtain ⟨t, st, q⟩ := kk (U.setVm vm') hU X1
  exact ⟨t, st1 t st, q⟩
theorem vx_putfN {D cl tys} {own ref C : String} {T : u_T} {N ci index : Nat} {Ts : List Cond} (hexec : p.tables.exec = Jvm.exec) (hb : c.code = cc) (hts : ∀ w ∈ Ts, w.before args s = true) (hin : ∀ w ∈ u_ws C T N, w ∈ Ts) (hown : s.vm.findClass own = some m.cls) (hK : va_K D cl tys s) (hc : cl[ci]? = some (C, T, N)) (k : Nat) (hk : k < N) (hlink : (Cond.fieldLink own index ref (T k).2.1 (T k).2.2.1).before args s = true) (hsame : ∀ x, s.fieldFound? (T k).1 (T k).2.1 (T k).2.2.1 = some x → s.fieldFound? ref (T k).2.1 (T k).2.2.1 = some x) (hfin : (T k).2.2.2 = false) {v : Value} (hdg : decode cc pc = .ok (.putfield index, 3)) (kk : vx_NoteN p l e R s m args below meth c H locs cells slots Q (F0 m pc ls rest)) : W p l e R s m args below meth c H locs cells slots Q (F0 m pc ls (v :: .null :: rest)) := by
  obtain ⟨hS, hfc, kC, hkC, -⟩ := hK.1 ci _ hc
  obtain ⟨cf, kf, fi, f, hi, -⟩ := hS k hk
  have hlay := hts _ (hin _ (u_in_lay hk))
  unfold u_lay at hlay
  rw [if_neg (by rw [hfin]; decide)] at hlay
  obtain ⟨c9, k9, cf9, kf9, fi9, f9, -, -, hi9, hst9, hnf9, -⟩ := Cond.lays_spec hlay
  cases hi.symm.trans hi9
  intro U hU X
  obtain ⟨vm', X1, st1⟩ := X.putfieldNull hexec hown hlink (hsame _ hi) hst9 hnf9 (g := F0 m pc ls (v :: .null :: rest)) rfl (v := v) (rest := rest) rfl (by rw [hb]; exact hdg)
  obtain ⟨t, st, q⟩ := kk (U.setVm vm') hU X1
  exact ⟨t, st1 t st, q⟩
theorem vx_putfNN {D cl tys} {own ref C host : String} {T : u_T} {N ci index : Nat} {Ts : List Cond} (hexec : p.tables.exec = Jvm.exec) (hb : c.code = cc) (hts : ∀ w ∈ Ts, w.before args s = true) (hin : ∀ w ∈ u_ws C T N, w ∈ Ts) (hown : s.vm.findClass own = some m.cls) (hK : va_K D cl tys s) (hc : cl[ci]? = some (C, T, N)) (k : Nat) (hk : k < N) (hlink : (Cond.fieldLinkNest own index ref (T k).2.1 (T k).2.2.1 host).before args s = true) (hsame : ∀ x, s.fieldFound? (T k).1 (T k).2.1 (T k).2.2.1 = some x → s.fieldFound? ref (T k).2.1 (T k).2.2.1 = some x) (hfin : (T k).2.2.2 = false) {v : Value} (hdg : decode cc pc = .ok (.putfield index, 3)) (kk : vx_NoteN p l e R s m args below meth c H locs cells slots Q (F0 m pc ls rest)) : W p l e R s m args below meth c H locs cells slots Q (F0 m pc ls (v :: .null :: rest)) := by
  obtain ⟨hS, hfc, kC, hkC, -⟩ := hK.1 ci _ hc
  obtain ⟨cf, kf, fi, f, hi, -⟩ := hS k hk
  have hlay := hts _ (hin _ (u_in_lay hk))
  unfold u_lay at hlay
  rw [if_neg (by rw [hfin]; decide)] at hlay
  obtain ⟨c9, k9, cf9, kf9, fi9, f9, -, -, hi9, hst9, hnf9, -⟩ := Cond.lays_spec hlay
  cases hi.symm.trans hi9
  intro U hU X
  obtain ⟨vm', X1, st1⟩ := X.putfieldNullNest hexec hown hlink (hsame _ hi) hst9 hnf9 (g := F0 m pc ls (v :: .null :: rest)) rfl (v := v) (rest := rest) rfl (by rw [hb]; exact hdg)
  obtain ⟨t, st, q⟩ := kk (U.setVm vm') hU X1
  exact ⟨t, st1 t st, q⟩
theorem vx_athrowN (hexec : p.tables.exec = Jvm.exec) (hb : c.code = cc) (hdg : decode cc pc = .ok (.athrow, 1)) (k : vx_NoteN p l e R s m args below meth c H locs cells slots Q (F0 m pc ls rest)) : W p l e R s m args below meth c H locs cells slots Q (F0 m pc ls (.null :: rest)) := by
  intro T hT X
  obtain ⟨t, st, q⟩ := k T hT X
  exact ⟨t, X.athrowNull hexec (g := F0 m pc ls (.null :: rest)) rfl (rest := rest) rfl (by rw [hb]; exact hdg) t st, q⟩
end VXM2
/-! ===== END ===== -/
end
section
/-! ===== a small machine of pictures: states are (locals, stack, heap picture); its soundness over the kit's W ===== -/
-- the classes whose objects the pictures hold
def F_Row : u_T := fun k => match k with
  | _ => ("CoilSlits$Row", "cells", "[I", true)
def t_Row : Nat → FieldType := fun k => match k with
  | _ => .array .int
def F_Grid : u_T := fun k => match k with
  | 0 => ("CoilSlits$Grid", "columns", "I", true)
  | _ => ("CoilSlits$Grid", "cells", "[I", true)
def t_Grid : Nat → FieldType := fun k => match k with
  | 0 => .int
  | _ => .array .int
def F_Yard : u_T := fun k => match k with
  | 0 => ("CoilSlits$Yard", "coils", "LCoilSlits$Grid;", true)
  | 1 => ("CoilSlits$Yard", "heights", "LCoilSlits$Row;", true)
  | 2 => ("CoilSlits$Yard", "orders", "LCoilSlits$Grid;", true)
  | 3 => ("CoilSlits$Yard", "settings", "LCoilSlits$Row;", true)
  | 4 => ("CoilSlits$Yard", "tallies", "LCoilSlits$Row;", true)
  | 5 => ("CoilSlits$Yard", "orderCount", "I", false)
  | 6 => ("CoilSlits$Yard", "nextCoil", "I", false)
  | _ => ("CoilSlits$Yard", "nextOrder", "I", false)
def t_Yard : Nat → FieldType := fun k => match k with
  | 0 => .object "CoilSlits$Grid"
  | 1 => .object "CoilSlits$Row"
  | 2 => .object "CoilSlits$Grid"
  | 3 => .object "CoilSlits$Row"
  | 4 => .object "CoilSlits$Row"
  | _ => .int
def F_History : u_T := fun k => match k with
  | 0 => ("CoilSlits$History", "states", "[LCoilSlits$Yard;", true)
  | 1 => ("CoilSlits$History", "next", "I", false)
  | _ => ("CoilSlits$History", "kept", "I", false)
def t_History : Nat → FieldType := fun k => match k with
  | 0 => .array (.object "CoilSlits$Yard")
  | _ => .int
def F_Reader : u_T := fun k => match k with
  | 0 => ("CoilSlits$CoilReader", "expected", "I", false)
  | 1 => ("CoilSlits$CoilReader", "width", "I", false)
  | 2 => ("CoilSlits$CoilReader", "grade", "I", false)
  | 3 => ("CoilSlits$CoilReader", "quality", "I", false)
  | _ => ("CoilSlits$CoilReader", "stack", "I", false)
def t_Reader : Nat → FieldType := fun _ => .int
def F_Slits : u_T := fun k => match k with
  | 0 => ("CoilSlits", "yard", "LCoilSlits$Yard;", true)
  | 1 => ("CoilSlits", "trial", "LCoilSlits$Yard;", true)
  | 2 => ("CoilSlits", "history", "LCoilSlits$History;", true)
  | 3 => ("CoilSlits", "buffer", "LCoilSlits$Row;", true)
  | 4 => ("CoilSlits", "reader", "LCoilSlits$CoilReader;", true)
  | _ => ("CoilSlits", "length", "I", false)
def t_Slits : Nat → FieldType := fun k => match k with
  | 0 => .object "CoilSlits$Yard"
  | 1 => .object "CoilSlits$Yard"
  | 2 => .object "CoilSlits$History"
  | 3 => .object "CoilSlits$Row"
  | 4 => .object "CoilSlits$CoilReader"
  | _ => .int
def F_Model : u_T := fun k => match k with
  | 0 => ("CoilSlitsModel", "now", "[I", true)
  | 1 => ("CoilSlitsModel", "then", "[I", true)
  | 2 => ("CoilSlitsModel", "past", "[I", true)
  | 3 => ("CoilSlitsModel", "kept", "I", false)
  | 4 => ("CoilSlitsModel", "text", "[I", true)
  | 5 => ("CoilSlitsModel", "typed", "I", false)
  | 6 => ("CoilSlitsModel", "thrown", "I", false)
  | 7 => ("CoilSlitsModel", "at", "I", false)
  | 8 => ("CoilSlitsModel", "isFault", "Z", false)
  | 9 => ("CoilSlitsModel", "told", "[I", true)
  | _ => ("CoilSlitsModel", "tolds", "I", false)
def t_Model : Nat → FieldType := fun k => match k with
  | 0 => .array .int
  | 1 => .array .int
  | 2 => .array .int
  | 3 => .int
  | 4 => .array .int
  | 5 => .int
  | 6 => .int
  | 7 => .int
  | 8 => .boolean
  | 9 => .array .int
  | _ => .int
abbrev zcl : List vw_C := [("CoilSlits$Row", F_Row, 1), ("CoilSlits$Grid", F_Grid, 2), ("CoilSlits$Yard", F_Yard, 8), ("CoilSlits$History", F_History, 3), ("CoilSlits$CoilReader", F_Reader, 5), ("CoilSlits", F_Slits, 6), ("CoilSlitsModel", F_Model, 11)]
def zty (ci : Nat) : Nat → FieldType := match ci with
  | 0 => t_Row
  | 1 => t_Grid
  | 2 => t_Yard
  | 3 => t_History
  | 4 => t_Reader
  | 5 => t_Slits
  | _ => t_Model
theorem zty_ok : ∀ ci, ci < 7 → ∀ k, k < ((zcl[ci]?).getD ("", F_Row, 0)).2.2 → parseFieldDescriptor (((zcl[ci]?).getD ("", F_Row, 0)).2.1 k).2.2.1 = some (zty ci k) := by decide +kernel
theorem znm_ok : ∀ ci, ci < 7 → ∀ a, a < ((zcl[ci]?).getD ("", F_Row, 0)).2.2 → ∀ b, b < ((zcl[ci]?).getD ("", F_Row, 0)).2.2 → a ≠ b → (((zcl[ci]?).getD ("", F_Row, 0)).2.1 a).2.1 ≠ (((zcl[ci]?).getD ("", F_Row, 0)).2.1 b).2.1 := by decide +kernel
theorem zdc_ok : ∀ ci, ci < 7 → ∀ k, k < ((zcl[ci]?).getD ("", F_Row, 0)).2.2 → (((zcl[ci]?).getD ("", F_Row, 0)).2.1 k).1 = ((zcl[ci]?).getD ("", F_Row, 0)).1 := by decide +kernel
theorem zlay_ok : ∀ ci, ci < 7 → ∀ w ∈ u_ws ((zcl[ci]?).getD ("", F_Row, 0)).1 ((zcl[ci]?).getD ("", F_Row, 0)).2.1 ((zcl[ci]?).getD ("", F_Row, 0)).2.2, w ∈ lw_tbl := by decide +kernel
end
section
/-! ===== pictures of the heap; locals; the goal at a place ===== -/
/-- base address; addresses of the static arrays (0, 1, 2) and of the script (3); class ids and slots; ids of the array classes; what the static arrays hold -/
abbrev Wd : Type := Nat × (Nat → Nat) × va_G × (Nat → ClassId) × (Nat → Option (Nat × (Nat → Int32)))
def zad (w : Wd) (k : Nat) : Nat := if k < 4 then w.2.1 k else w.1 + (k - 4)
def ztv (w : Wd) : Value → Value
  | .ref k => .ref (zad w k)
  | v => v
theorem zad_ge {w : Wd} {k : Nat} (h : 4 ≤ k) : w.1 ≤ zad w k := by
  unfold zad; rw [if_neg (by omega)]; omega
theorem zad_ne {w : Wd} {k j : Nat} (h : 4 ≤ k) (hj : 4 ≤ j) (hkj : k ≠ j) : zad w k ≠ zad w j := by
  unfold zad; rw [if_neg (by omega), if_neg (by omega)]; omega
theorem ztv_cat (w : Wd) (v : Value) : (ztv w v).category = v.category := by cases v <;> rfl
abbrev Cel : Type := ((Nat × (Nat → Int32)) ⊕ (Nat × (Nat → Int64)) ⊕ (Nat × (Nat → Option Nat))) ⊕ (Nat × List Value)
abbrev cI (n : Nat) (f : Nat → Int32) : Cel := .inl (.inl (n, f))
abbrev cJ (n : Nat) (f : Nat → Int64) : Cel := .inl (.inr (.inl (n, f)))
abbrev cR (n : Nat) (f : Nat → Option Nat) : Cel := .inl (.inr (.inr (n, f)))
abbrev cO (ci : Nat) (fs : List Value) : Cel := .inr (ci, fs)
abbrev Hp : Type := Nat → Option Cel
/-- the picture, and the place of the next cell (0: it isn't known) -/
abbrev G : Type := Hp × Nat
abbrev St : Type := List (Option Value) × List Value × G
abbrev Out : Type := Option Value ⊕ String
abbrev Ex : Type := List Value → G → Option (Out × G)
def zup (M : Hp) (k : Nat) (c : Cel) : Hp := fun q => if q = k then some c else M q
def zenc (w : Wd) (c : Cel) : va_E := match c with
  | .inl (.inl a) => .inl (w.2.2.2.1 0, a.1, .inl a.2)
  | .inl (.inr (.inl a)) => .inl (w.2.2.2.1 1, a.1, .inr (.inl a.2))
  | .inl (.inr (.inr a)) => .inl (w.2.2.2.1 2, a.1, .inr (.inr (.inr (.inr (fun j => (a.2 j).map (zad w))))))
  | .inr o => .inr (o.1, o.2.map (ztv w))
def zat (w : Wd) (k : Nat) (c : Cel) (H : Heap) : Prop := va_at w.2.2.1 zcl (zad w k, zenc w c) H
def RepG (w : Wd) (g : G) (H : Heap) : Prop := (∀ k c, g.1 k = some c → 4 ≤ k ∧ zat w k c H) ∧ w.1 ≤ H.size ∧ (g.2 ≠ 0 → 4 ≤ g.2 ∧ H.size = zad w g.2)
abbrev zA (w : Wd) : Nat → Prop := fun q => w.1 ≤ q
abbrev ztys (w : Wd) : List (ClassId × FieldType) := [(w.2.2.2.1 0, .int), (w.2.2.2.1 1, .long), (w.2.2.2.1 2, .object "CoilSlits$Yard")]
def zsn (k : Nat) : String := match k with
  | 0 => "FIRST_SETTINGS"
  | 1 => "LEAST_SETTINGS"
  | _ => "MOST_SETTINGS"
/-- links between nest mates: these words aren't kept by every step, but by warming -/
def zN : List Cond := [.fieldLinkNest "CoilSlits$Yard" 42 "CoilSlits" "FIRST_SETTINGS" "[I" "CoilSlits", .methodLinkNest "CoilSlits" 37 ⟨"CoilSlits$CoilReader", "<init>", "()V"⟩ "CoilSlits", .methodLinkNest "CoilSlits$Yard" 72 ⟨"CoilSlits", "stackOf", "(I)I"⟩ "CoilSlits", .methodLinkNest "CoilSlits$CoilReader" 37 ⟨"CoilSlits", "within", "(III)Z"⟩ "CoilSlits", .methodLinkNest "CoilSlits$CoilReader" 47 ⟨"CoilSlits", "isStack", "(I)Z"⟩ "CoilSlits"]
/-- what the tables and the statics say: of any state of the run -/
def KK (w : Wd) (U : State) : Prop := va_K w.2.2.1 zcl (ztys w) U ∧ (∀ k a, w.2.2.2.2 k = some a → k < 4 ∧ va_T .int (zad w k) a.1 (fun j => .int (a.2 j)) (zA w) U U.heap) ∧ (∀ k, k < 3 → va_Z "CoilSlits" (zsn k) "[I" (.ref (zad w k)) (zA w) U U.heap) ∧ (∀ x ∈ zN, va_Nw x U) ∧ va_AO "CoilSlits$Yard" U
theorem zN_warm {s U : State} (hW : s.WarmedH U.vm) (h : ∀ x ∈ zN, va_Nw x s) : ∀ x ∈ zN, va_Nw x U := by
  intro x hx
  have h1 := h x hx
  simp only [zN, List.mem_cons, List.not_mem_nil, or_false] at hx
  rcases hx with rfl | rfl | rfl | rfl | rfl
  · exact va_Nw.warmF hW h1
  · exact va_Nw.warmM hW h1
  · exact va_Nw.warmM hW h1
  · exact va_Nw.warmM hW h1
  · exact va_Nw.warmM hW h1
theorem KK.warm {w : Wd} {u U : State} (hW : u.WarmedH U.vm) (hq : ∀ a : Nat, a < u.heap.size → ¬ zA w a → U.heap[a]? = u.heap[a]?) (h : KK w u) : KK w U :=
  ⟨va_K.moved hW.alike h.1, fun k a hk => ⟨(h.2.1 k a hk).1, va_T.kept (va_T.moved hW.alike (h.2.1 k a hk).2) hq⟩, fun k hk => va_Z.kept (va_Z.moved hW.alike (h.2.2.1 k hk)) hq, zN_warm hW h.2.2.2.1, h.2.2.2.2.moved hW.alike⟩
/-- the locals: b says that none is of two words -/
def LvR (w : Wd) (b : Bool) (ls : Array Slot) (L : List (Option Value)) : Prop := lv_wf ls ∧ ls.size = L.length ∧ (∀ (i : Nat) (v : Value), L[i]? = some (some v) → ls[i]? = some (.val (ztv w v))) ∧ (b = true → ∀ (i : Nat) (v : Value), L[i]? = some (some v) → v.category = 1)
def lvl (w : Wd) (L : List (Option Value)) : List (Nat × Value) := (List.range L.length).filterMap (fun i => ((L[i]?).join).map (fun v => (i, ztv w v)))
theorem lvl_mem {w : Wd} {L : List (Option Value)} {i : Nat} {u : Value} : (i, u) ∈ lvl w L ↔ ∃ v, L[i]? = some (some v) ∧ u = ztv w v := by
  simp only [lvl, List.mem_filterMap, List.mem_range, Option.map_eq_some_iff, Option.join_eq_some_iff]
  constructor
  · rintro ⟨a, _, v, hv, he⟩
    cases he
    exact ⟨v, hv, rfl⟩
  · rintro ⟨v, hv, rfl⟩
    exact ⟨i, (List.getElem?_eq_some_iff.mp hv).1, v, hv, rfl⟩
theorem LvR.has {w : Wd} {b : Bool} {ls : Array Slot} {L : List (Option Value)} (h : LvR w b ls L) : lv_has ls L.length (lvl w L) :=
  ⟨h.2.1, h.1, fun q hq => by
    obtain ⟨i, u⟩ := q
    obtain ⟨v, hv, rfl⟩ := lvl_mem.mp hq
    exact h.2.2.1 i v hv⟩
def zcat2 (x : Option (Option Value)) : Bool := match x with
  | some (some (.long _)) => true
  | some (some (.double _)) => true
  | _ => false
/-- a store of one word, where no local is of two words; and where one may be -/
def stL (b : Bool) (L : List (Option Value)) (i : Nat) (v : Value) : List (Option Value) := match b with
  | true => L.set i (some v)
  | false => match i with
    | 0 => L.set 0 (some v)
    | j + 1 => match zcat2 L[j]? with
      | true => (L.set j none).set (j + 1) (some v)
      | false => L.set (j + 1) (some v)
def stL2 (L : List (Option Value)) (i : Nat) (v : Value) : List (Option Value) := match i with
  | 0 => (L.set 0 (some v)).set 1 none
  | j + 1 => match zcat2 L[j]? with
    | true => ((L.set j none).set (j + 1) (some v)).set (j + 2) none
    | false => (L.set (j + 1) (some v)).set (j + 2) none
theorem zcat2_iff {v : Value} : zcat2 (some (some v)) = true ↔ v.category = 2 := by cases v <;> simp [zcat2, Value.category]
theorem stL_len (b : Bool) (L : List (Option Value)) (i : Nat) (v : Value) : (stL b L i v).length = L.length := by
  unfold stL; repeat' split
  all_goals simp
theorem stL2_len (L : List (Option Value)) (i : Nat) (v : Value) : (stL2 L i v).length = L.length := by
  unfold stL2; repeat' split
  all_goals simp
theorem stL_get {b : Bool} {L : List (Option Value)} {i j : Nat} {v u : Value} (h : (stL b L i v)[j]? = some (some u)) : (j = i ∧ u = v) ∨ (j ≠ i ∧ L[j]? = some (some u) ∧ (b = false → j + 1 = i → u.category ≠ 2)) := by
  by_cases hji : j = i
  · subst hji
    left; refine ⟨rfl, ?_⟩
    unfold stL at h
    split at h
    · rw [List.getElem?_set] at h; simp at h; exact h.2.symm
    · split at h
      · rw [List.getElem?_set] at h; simp at h; exact h.2.symm
      · split at h
        · rw [List.getElem?_set] at h; simp at h; exact h.2.symm
        · rw [List.getElem?_set] at h; simp at h; exact h.2.symm
  · right; refine ⟨hji, ?_⟩
    unfold stL at h
    split at h
    · rw [List.getElem?_set_ne (Ne.symm hji)] at h
      exact ⟨h, fun hb => by cases hb⟩
    · split at h
      · rw [List.getElem?_set_ne (Ne.symm hji)] at h
        exact ⟨h, fun _ e => by omega⟩
      · rename_i k
        split at h
        · rename_i hz
          rw [List.getElem?_set_ne (Ne.symm hji)] at h
          by_cases hjk : j = k
          · subst hjk
            rw [List.getElem?_set] at h; simp at h
          · rw [List.getElem?_set_ne (Ne.symm hjk)] at h
            exact ⟨h, fun _ e => by omega⟩
        · rename_i hz
          rw [List.getElem?_set_ne (Ne.symm hji)] at h
          refine ⟨h, fun _ e => ?_⟩
          have hjk : j = k := by omega
          subst hjk
          rw [h] at hz
          intro h2
          rw [zcat2_iff.mpr h2] at hz
          cases hz
theorem stL2_get {L : List (Option Value)} {i j : Nat} {v u : Value} (h : (stL2 L i v)[j]? = some (some u)) : (j = i ∧ u = v) ∨ (j ≠ i ∧ j ≠ i + 1 ∧ L[j]? = some (some u) ∧ (j + 1 = i → u.category ≠ 2)) := by
  by_cases hj1 : j = i + 1
  · exfalso
    subst hj1
    unfold stL2 at h
    split at h
    · rw [List.getElem?_set] at h; simp at h
    · split at h
      · rw [List.getElem?_set] at h; simp at h
      · rw [List.getElem?_set] at h; simp at h
  by_cases hji : j = i
  · subst hji
    left; refine ⟨rfl, ?_⟩
    unfold stL2 at h
    split at h
    · rw [List.getElem?_set_ne (by omega), List.getElem?_set] at h; simp at h; exact h.2.symm
    · split at h
      · rw [List.getElem?_set_ne (by omega), List.getElem?_set] at h; simp at h; exact h.2.symm
      · rw [List.getElem?_set_ne (by omega), List.getElem?_set] at h; simp at h; exact h.2.symm
  · right; refine ⟨hji, hj1, ?_⟩
    unfold stL2 at h
    split at h
    · rw [List.getElem?_set_ne (by omega), List.getElem?_set_ne (Ne.symm hji)] at h
      exact ⟨h, fun e => by omega⟩
    · rename_i k
      split at h
      · rename_i hz
        rw [List.getElem?_set_ne (by omega), List.getElem?_set_ne (Ne.symm hji)] at h
        by_cases hjk : j = k
        · subst hjk
          rw [List.getElem?_set] at h; simp at h
        · rw [List.getElem?_set_ne (Ne.symm hjk)] at h
          exact ⟨h, fun e => by omega⟩
      · rename_i hz
        rw [List.getElem?_set_ne (by omega), List.getElem?_set_ne (Ne.symm hji)] at h
        refine ⟨h, fun e => ?_⟩
        have hjk : j = k := by omega
        subst hjk
        rw [h] at hz
        intro h2
        rw [zcat2_iff.mpr h2] at hz
        cases hz
theorem LvR.st1 {w : Wd} {b : Bool} {ls ls' : Array Slot} {L : List (Option Value)} {i : Nat} {v : Value} (h : LvR w b ls L) (hc : v.category = 1)
    (h' : lv_has ls' L.length ((i, ztv w v) :: (lvl w L).filter (fun q => !(q.1 == i) && !(q.1 + 1 == i && q.2.category == 2)))) : LvR w b ls' (stL b L i v) := by
  obtain ⟨e1, e2, e3⟩ := h'
  refine ⟨e2, by rw [e1, stL_len], fun j u hj => ?_, fun hb j u hj => ?_⟩
  · rcases stL_get hj with ⟨rfl, rfl⟩ | ⟨hne, hL, hk⟩
    · exact e3 (j, ztv w u) List.mem_cons_self
    · refine e3 (j, ztv w u) (List.mem_cons_of_mem _ (List.mem_filter.mpr ⟨lvl_mem.mpr ⟨u, hL, rfl⟩, ?_⟩))
      simp only [Bool.and_eq_true, Bool.not_eq_true', beq_eq_false_iff_ne, ne_eq, Bool.and_eq_false_iff, ztv_cat]
      refine ⟨hne, ?_⟩
      by_cases he : j + 1 = i
      · right
        cases b with
        | true => rw [h.2.2.2 rfl j u hL]; decide
        | false => exact hk rfl he
      · exact Or.inl he
  · rcases stL_get hj with ⟨rfl, rfl⟩ | ⟨hne, hL, hk⟩
    · exact hc
    · exact h.2.2.2 hb j u hL
theorem LvR.st2 {w : Wd} {ls ls' : Array Slot} {L : List (Option Value)} {i : Nat} {v : Value} (h : LvR w false ls L)
    (h' : lv_has ls' L.length ((i, ztv w v) :: (lvl w L).filter (fun q => !(q.1 == i) && (!(q.1 == i + 1) && !(q.1 + 1 == i && q.2.category == 2))))) : LvR w false ls' (stL2 L i v) := by
  obtain ⟨e1, e2, e3⟩ := h'
  refine ⟨e2, by rw [e1, stL2_len], fun j u hj => ?_, fun hb => by cases hb⟩
  rcases stL2_get hj with ⟨rfl, rfl⟩ | ⟨hne, hne2, hL, hk⟩
  · exact e3 (j, ztv w u) List.mem_cons_self
  · refine e3 (j, ztv w u) (List.mem_cons_of_mem _ (List.mem_filter.mpr ⟨lvl_mem.mpr ⟨u, hL, rfl⟩, ?_⟩))
    simp only [Bool.and_eq_true, Bool.not_eq_true', beq_eq_false_iff_ne, ne_eq, Bool.and_eq_false_iff, ztv_cat]
    refine ⟨hne, hne2, ?_⟩
    by_cases he : j + 1 = i
    · exact Or.inr (hk he)
    · exact Or.inl he
/-- forgetting locals -/
def zforget (L : List (Option Value)) : List Nat → List (Option Value)
  | [] => L
  | i :: is => zforget (L.set i none) is
theorem LvR.set_none {w : Wd} {b : Bool} {ls : Array Slot} {L : List (Option Value)} (i : Nat) (h : LvR w b ls L) : LvR w b ls (L.set i none) := by
  have key : ∀ (j : Nat) (u : Value), (L.set i none)[j]? = some (some u) → L[j]? = some (some u) := by
    intro j u hj
    by_cases hij : i = j
    · subst hij; rw [List.getElem?_set] at hj; simp at hj
    · rw [List.getElem?_set_ne hij] at hj; exact hj
  exact ⟨h.1, by rw [h.2.1]; simp, fun j u hj => h.2.2.1 j u (key j u hj), fun hb j u hj => h.2.2.2 hb j u (key j u hj)⟩
theorem LvR.forget {w : Wd} {b : Bool} {ls : Array Slot} : ∀ (is : List Nat) {L : List (Option Value)}, LvR w b ls L → LvR w b ls (zforget L is)
  | [], _, h => h
  | i :: is, _, h => LvR.forget is (h.set_none i)
end
section
/-! ===== straight instructions: what they do to a picture ===== -/
/-- no local of two words; fields (index, class, place); calls (instruction, arguments with the receiver, what it does); constants; statics (index, place); the static arrays; may final fields be set -/
abbrev Env : Type := Bool × List (Nat × Nat × Nat) × List (Instr × Nat × Ex) × List (Nat × Value) × List (Nat × Nat) × (Nat → Option (Nat × (Nat → Int32))) × Bool
def eB (E : Env) : Bool := E.1
def eF (E : Env) : List (Nat × Nat × Nat) := E.2.1
def eC (E : Env) : List (Instr × Nat × Ex) := E.2.2.1
def eK (E : Env) : List (Nat × Value) := E.2.2.2.1
def eS (E : Env) : List (Nat × Nat) := E.2.2.2.2.1
def eT (E : Env) : Nat → Option (Nat × (Nat → Int32)) := E.2.2.2.2.2.1
def eI (E : Env) : Bool := E.2.2.2.2.2.2
def lookN {α : Type} (l : List (Nat × α)) (k : Nat) : Option α := match l with
  | [] => none
  | (j, a) :: r => if j = k then some a else lookN r k
def lookI {α : Type} (l : List (Instr × α)) (k : Instr) : Option α := match l with
  | [] => none
  | (j, a) :: r => if j = k then some a else lookI r k
theorem lookN_mem {α : Type} {l : List (Nat × α)} {k : Nat} {a : α} (h : lookN l k = some a) : (k, a) ∈ l := by
  induction l with
  | nil => cases h
  | cons x r ih =>
    obtain ⟨j, b⟩ := x
    unfold lookN at h
    split at h
    · rename_i e; subst e; cases h; exact List.mem_cons_self
    · exact List.mem_cons_of_mem _ (ih h)
theorem lookI_mem {α : Type} {l : List (Instr × α)} {k : Instr} {a : α} (h : lookI l k = some a) : (k, a) ∈ l := by
  induction l with
  | nil => cases h
  | cons x r ih =>
    obtain ⟨j, b⟩ := x
    unfold lookI at h
    split at h
    · rename_i e; subst e; cases h; exact List.mem_cons_self
    · exact List.mem_cons_of_mem _ (ih h)
def popN : Nat → List Value → List Value → Option (List Value × List Value)
  | 0, acc, S => some (acc, S)
  | n + 1, acc, v :: S => popN n (v :: acc) S
  | _ + 1, _, [] => none
theorem popN_spec : ∀ {n : Nat} {acc S vs S' : List Value}, popN n acc S = some (vs, S') → ∃ us, vs = us ++ acc ∧ us.length = n ∧ S = us.reverse ++ S'
  | 0, acc, S, vs, S', h => by cases h; exact ⟨[], rfl, rfl, rfl⟩
  | n + 1, acc, v :: S, vs, S', h => by
    obtain ⟨us, e1, e2, e3⟩ := popN_spec (n := n) h
    exact ⟨us ++ [v], by rw [e1]; simp, by simp [e2], by rw [e3]; simp⟩
  | n + 1, acc, [], vs, S', h => by cases h
def wsum : List Value → Nat
  | [] => 0
  | .long _ :: r => wsum r + 2
  | .double _ :: r => wsum r + 2
  | .int _ :: r => wsum r + 1
  | .ref _ :: r => wsum r + 1
  | .null :: r => wsum r + 1
  | .float _ :: r => wsum r + 1
  | _ :: r => wsum r + 2
theorem cat_le (v : Value) : v.category ≤ 2 := by rcases lv_cat v with h | h <;> omega
theorem wsum_ge : ∀ S : List Value, (S.map fun v => v.category).sum ≤ wsum S
  | [] => Nat.le_refl _
  | v :: r => by
    have ih := wsum_ge r
    have hc : wsum r + v.category ≤ wsum (v :: r) := by cases v <;> simp [wsum, Value.category]
    simp only [List.map_cons, List.sum_cons]
    omega
theorem wsum_tv {w : Wd} : ∀ S : List Value, ((S.map (ztv w)).map fun v => v.category).sum ≤ wsum S
  | S => by
    rw [List.map_map]
    have : ((fun v : Value => v.category) ∘ ztv w) = fun v => v.category := by funext v; exact ztv_cat w v
    rw [this]; exact wsum_ge S
/-- an index within n -/
def zix (i : Int32) (n : Nat) : Option Nat := if 0 ≤ i.toInt ∧ i.toInt < n then some i.toInt.toNat else none
theorem zix_in {i : Int32} {n j : Nat} (h : zix i n = some j) : vp_in i n ∧ i.toNatClampNeg = j := by
  unfold zix at h
  split at h
  · rename_i q
    cases h
    exact ⟨vp_in_iff.mpr q, rfl⟩
  · cases h
def zfit (ty : FieldType) (v : Value) : Bool := match ty, v with
  | .int, .int _ => true
  | .boolean, .int x => decide (x = 0) || decide (x = 1)
  | .object _, .ref _ => true
  | .array _, .ref _ => true
  | _, _ => false
theorem zfit_ok {w : Wd} {ty : FieldType} {v : Value} (h : zfit ty v = true) : narrow ty (ztv w v) = ztv w v ∧ fits ty (ztv w v) = true := by
  unfold zfit at h
  split at h
  · exact ⟨rfl, rfl⟩
  · rename_i x
    simp only [Bool.or_eq_true, decide_eq_true_eq] at h
    rcases h with rfl | rfl <;> exact ⟨rfl, rfl⟩
  · exact ⟨rfl, rfl⟩
  · exact ⟨rfl, rfl⟩
  · cases h
def xI (E : Env) : Instr → St → Option St
  | .iload_n k, (L, S, g) => match L[(k : Nat)]? with
    | some (some (.int x)) => some (L, .int x :: S, g)
    | _ => none
  | .iload k, (L, S, g) => match L[k]? with
    | some (some (.int x)) => some (L, .int x :: S, g)
    | _ => none
  | .aload_n k, (L, S, g) => match L[(k : Nat)]? with
    | some (some (.ref x)) => some (L, .ref x :: S, g)
    | _ => none
  | .aload k, (L, S, g) => match L[k]? with
    | some (some (.ref x)) => some (L, .ref x :: S, g)
    | _ => none
  | .lload_n k, (L, S, g) => match L[(k : Nat)]? with
    | some (some (.long x)) => some (L, .long x :: S, g)
    | _ => none
  | .lload k, (L, S, g) => match L[k]? with
    | some (some (.long x)) => some (L, .long x :: S, g)
    | _ => none
  | .dload_n k, (L, S, g) => match L[(k : Nat)]? with
    | some (some (.double x)) => some (L, .double x :: S, g)
    | _ => none
  | .dload k, (L, S, g) => match L[k]? with
    | some (some (.double x)) => some (L, .double x :: S, g)
    | _ => none
  | .iconst n, (L, S, g) => some (L, .int (Int32.ofInt n) :: S, g)
  | .bipush n, (L, S, g) => some (L, .int (Int8.ofInt n).toInt32 :: S, g)
  | .sipush n, (L, S, g) => some (L, .int (Int16.ofInt n).toInt32 :: S, g)
  | .lconst n, (L, S, g) => some (L, .long (Int64.ofNat (n : Nat)) :: S, g)
  | .dconst n, (L, S, g) => match n with
    | 0 => some (L, .double FP.dconst0 :: S, g)
    | 1 => some (L, .double FP.dconst1 :: S, g)
  | .ldc2_w k, (L, S, g) => match lookN (eK E) k with
    | some v => some (L, v :: S, g)
    | none => none
  | .istore_n k, (L, S, g) => match S with
    | .int x :: S => if (k : Nat) < L.length then some (stL (eB E) L k (.int x), S, g) else none
    | _ => none
  | .istore k, (L, S, g) => match S with
    | .int x :: S => if k < L.length then some (stL (eB E) L k (.int x), S, g) else none
    | _ => none
  | .astore_n k, (L, S, g) => match S with
    | .ref x :: S => if (k : Nat) < L.length then some (stL (eB E) L k (.ref x), S, g) else none
    | _ => none
  | .astore k, (L, S, g) => match S with
    | .ref x :: S => if k < L.length then some (stL (eB E) L k (.ref x), S, g) else none
    | _ => none
  | .lstore_n k, (L, S, g) => match eB E, S with
    | false, .long x :: S => if (k : Nat) + 1 < L.length then some (stL2 L k (.long x), S, g) else none
    | _, _ => none
  | .lstore k, (L, S, g) => match eB E, S with
    | false, .long x :: S => if k + 1 < L.length then some (stL2 L k (.long x), S, g) else none
    | _, _ => none
  | .dstore_n k, (L, S, g) => match eB E, S with
    | false, .double x :: S => if (k : Nat) + 1 < L.length then some (stL2 L k (.double x), S, g) else none
    | _, _ => none
  | .dstore k, (L, S, g) => match eB E, S with
    | false, .double x :: S => if k + 1 < L.length then some (stL2 L k (.double x), S, g) else none
    | _, _ => none
  | .iinc k n, (L, S, g) => match L[k]? with
    | some (some (.int x)) => some (stL (eB E) L k (.int (x + Int32.ofInt n)), S, g)
    | _ => none
  | .iadd, (L, S, g) => match S with
    | .int y :: .int x :: S => some (L, .int (x + y) :: S, g)
    | _ => none
  | .isub, (L, S, g) => match S with
    | .int y :: .int x :: S => some (L, .int (x - y) :: S, g)
    | _ => none
  | .imul, (L, S, g) => match S with
    | .int y :: .int x :: S => some (L, .int (x * y) :: S, g)
    | _ => none
  | .idiv, (L, S, g) => match S with
    | .int y :: .int x :: S => if y = 0 then none else some (L, .int (x / y) :: S, g)
    | _ => none
  | .irem, (L, S, g) => match S with
    | .int y :: .int x :: S => if y = 0 then none else some (L, .int (x - x / y * y) :: S, g)
    | _ => none
  | .iand, (L, S, g) => match S with
    | .int y :: .int x :: S => some (L, .int (x &&& y) :: S, g)
    | _ => none
  | .ladd, (L, S, g) => match S with
    | .long y :: .long x :: S => some (L, .long (x + y) :: S, g)
    | _ => none
  | .lsub, (L, S, g) => match S with
    | .long y :: .long x :: S => some (L, .long (x - y) :: S, g)
    | _ => none
  | .lmul, (L, S, g) => match S with
    | .long y :: .long x :: S => some (L, .long (x * y) :: S, g)
    | _ => none
  | .lshl, (L, S, g) => match S with
    | .int y :: .long x :: S => some (L, .long (x <<< (y.toInt64 &&& 63)) :: S, g)
    | _ => none
  | .i2l, (L, S, g) => match S with
    | .int x :: S => some (L, .long x.toInt64 :: S, g)
    | _ => none
  | .i2d, (L, S, g) => match S with
    | .int x :: S => some (L, .double (FP.i2d x) :: S, g)
    | _ => none
  | .d2l, (L, S, g) => match S with
    | .double x :: S => some (L, .long (FP.d2l x) :: S, g)
    | _ => none
  | .dmul, (L, S, g) => match S with
    | .double y :: .double x :: S => if FP.dmul x y &&& 0x7fffffffffffffff ≤ 0x7ff0000000000000 then some (L, .double (FP.dmul x y) :: S, g) else none
    | _ => none
  | .ddiv, (L, S, g) => match S with
    | .double y :: .double x :: S => if FP.ddiv x y &&& 0x7fffffffffffffff ≤ 0x7ff0000000000000 then some (L, .double (FP.ddiv x y) :: S, g) else none
    | _ => none
  | .dsub, (L, S, g) => match S with
    | .double y :: .double x :: S => if FP.dsub x y &&& 0x7fffffffffffffff ≤ 0x7ff0000000000000 then some (L, .double (FP.dsub x y) :: S, g) else none
    | _ => none
  | .lcmp, (L, S, g) => match S with
    | .long y :: .long x :: S => some (L, .int (lg_cmp x y) :: S, g)
    | _ => none
  | .dcmp op, (L, S, g) => match S with
    | .double y :: .double x :: S => some (L, .int (Op.cmpValue (FP.dcmp x y) op) :: S, g)
    | _ => none
  | .dup, (L, S, g) => match S with
    | .int x :: S => some (L, .int x :: .int x :: S, g)
    | .ref x :: S => some (L, .ref x :: .ref x :: S, g)
    | _ => none
  | .dup2, (L, S, g) => match S with
    | .int y :: .ref x :: S => some (L, .int y :: .ref x :: .int y :: .ref x :: S, g)
    | _ => none
  | .pop, (L, S, g) => match S with
    | .int _ :: S => some (L, S, g)
    | _ => none
  | .arraylength, (L, S, g) => match S with
    | .ref a :: S => match g.1 a with
      | some (.inl (.inl (n, _))) => some (L, .int (nI n) :: S, g)
      | some (.inl (.inr (.inl (n, _)))) => some (L, .int (nI n) :: S, g)
      | some (.inl (.inr (.inr (n, _)))) => some (L, .int (nI n) :: S, g)
      | some (.inr _) => none
      | none => match eT E a with
        | some (n, _) => some (L, .int (nI n) :: S, g)
        | none => none
    | _ => none
  | .iaload, (L, S, g) => match S with
    | .int i :: .ref a :: S => match g.1 a with
      | some (.inl (.inl (n, f))) => match zix i n with
        | some j => some (L, .int (f j) :: S, g)
        | none => none
      | some _ => none
      | none => match eT E a with
        | some (n, f) => match zix i n with
          | some j => some (L, .int (f j) :: S, g)
          | none => none
        | none => none
    | _ => none
  | .iastore, (L, S, g) => match S with
    | .int x :: .int i :: .ref a :: S => match g.1 a with
      | some (.inl (.inl (n, f))) => match zix i n with
        | some j => some (L, S, (zup g.1 a (cI n (upd f j x)), g.2))
        | none => none
      | _ => none
    | _ => none
  | .laload, (L, S, g) => match S with
    | .int i :: .ref a :: S => match g.1 a with
      | some (.inl (.inr (.inl (n, f)))) => match zix i n with
        | some j => some (L, .long (f j) :: S, g)
        | none => none
      | _ => none
    | _ => none
  | .lastore, (L, S, g) => match S with
    | .long x :: .int i :: .ref a :: S => match g.1 a with
      | some (.inl (.inr (.inl (n, f)))) => match zix i n with
        | some j => some (L, S, (zup g.1 a (cJ n (vp_updL f j x)), g.2))
        | none => none
      | _ => none
    | _ => none
  | .aaload, (L, S, g) => match S with
    | .int i :: .ref a :: S => match g.1 a with
      | some (.inl (.inr (.inr (n, f)))) => match zix i n with
        | some j => match f j with
          | some q => some (L, .ref q :: S, g)
          | none => some (L, .null :: S, g)
        | none => none
      | _ => none
    | _ => none
  | .aastore, (L, S, g) => match S with
    | .ref v :: .int i :: .ref a :: S => match g.1 a with
      | some (.inl (.inr (.inr (n, f)))) => match zix i n with
        | some j => match g.1 v with
          | some (.inr (2, _)) => some (L, S, (zup g.1 a (cR n (va_up f j (some v))), g.2))
          | _ => none
        | none => none
      | _ => none
    | _ => none
  | .aconst_null, (L, S, g) => some (L, .null :: S, g)
  | .getfield k, (L, S, g) => match S with
    | .ref a :: S => match g.1 a with
      | some (.inr (ci, fs)) => match lookN (eF E) k with
        | some (cj, j) => if ci = cj then match fs[j]? with
            | some v => some (L, v :: S, g)
            | none => none
          else none
        | none => none
      | _ => none
    | _ => none
  | .putfield k, (L, S, g) => match S with
    | v :: .ref a :: S => match g.1 a with
      | some (.inr (ci, fs)) => match lookN (eF E) k with
        | some (cj, j) => if ci = cj ∧ zfit (zty ci j) v = true ∧ j < fs.length ∧ ((((zcl[ci]?).getD ("", F_Row, 0)).2.1 j).2.2.2 = false ∨ eI E = true) then some (L, S, (zup g.1 a (cO ci (fs.set j v)), g.2))
          else none
        | none => none
      | _ => none
    | _ => none
  | .getstatic k, (L, S, g) => match lookN (eS E) k with
    | some j => some (L, .ref j :: S, g)
    | none => none
  | .invokevirtual k, (L, S, g) => match lookI (eC E) (.invokevirtual k) with
    | some (n, f) => match popN n [] S with
      | some (vs, S) => if wsum S ≤ 8 then match f vs g with
          | some (.inl o, g) => some (L, o.toList ++ S, g)
          | _ => none
        else none
      | none => none
    | none => none
  | .invokespecial k, (L, S, g) => match lookI (eC E) (.invokespecial k) with
    | some (n, f) => match popN n [] S with
      | some (vs, S) => if wsum S ≤ 8 then match f vs g with
          | some (.inl o, g) => some (L, o.toList ++ S, g)
          | _ => none
        else none
      | none => none
    | none => none
  | .invokestatic k, (L, S, g) => match lookI (eC E) (.invokestatic k) with
    | some (n, f) => match popN n [] S with
      | some (vs, S) => if wsum S ≤ 8 then match f vs g with
          | some (.inl o, g) => some (L, o.toList ++ S, g)
          | _ => none
        else none
      | none => none
    | none => none
  | _, _ => none
def runI (E : Env) : List Instr → St → Option St
  | [], st => some st
  | i :: r, st => match xI E i st with
    | some st => runI E r st
    | none => none
def zchk (cc : ByteArray) : Nat → List Instr → Option Nat
  | pc, [] => some pc
  | pc, i :: r => match decode cc pc with
    | .ok (j, n) => if j = i then zchk cc (pc + n) r else none
    | _ => none
end
section
/-! ===== the goal at a place, over a picture; the soundness of the straight instructions ===== -/
def CX (w : Wd) (p : Program) (s : State) (m : MethodId) (args : Array Value) (c : Code) (cc : ByteArray) (n : Nat) (own : String) : Prop :=
  p.tables.exec = Jvm.exec ∧ c.code = cc ∧ c.maxLocals = n ∧ s.vm.findClass own = some m.cls ∧ (∀ x ∈ lw_tbl, goodWord x = true → x.before args s = true) ∧ KK w s
def Kn (w : Wd) (b : Bool) (p : Program) (l : Launch) (e : Jvm.Env) (R : Room) (s : State) (m : MethodId) (args : Array Value) (below : List Frame) (meth : Method) (c : Code) (Q : State → Prop) (n cs ss pc : Nat) (st : St) : Prop :=
  st.1.length = n → ∀ (H : Heap) (locs : List Loc) (ls : Array Slot), LvR w b ls st.1 → RepG w st.2.2 H → va_S (zA w) s.heap H locs → W p l e R s m args below meth c H locs cs ss Q (F0 m pc ls (st.2.1.map (ztv w)))
def zfok (own : String) (q : Nat × Nat × Nat) : Bool := match zcl[q.2.1]? with
  | some r => decide (q.2.1 < 7) && (decide (q.2.2 < r.2.2) && (decide (r.1 = own) && decide (Cond.fieldLink own q.1 own (r.2.1 q.2.2).2.1 (r.2.1 q.2.2).2.2.1 ∈ lw_tbl)))
  | none => false
def zkok (own : String) (q : Nat × Value) : Bool := match q.2 with
  | .long x => decide (Cond.constantLong own q.1 x ∈ lw_tbl)
  | .double x => decide (Cond.constantDouble own q.1 x ∈ lw_tbl)
  | _ => false
def zsok (own : String) (q : Nat × Nat) : Bool := decide (q.2 < 3) && (decide (Cond.fieldLink own q.1 "CoilSlits" (zsn q.2) "[I" ∈ lw_tbl) || decide (Cond.fieldLinkNest own q.1 "CoilSlits" (zsn q.2) "[I" "CoilSlits" ∈ zN))
/-- a call, as the machine has it: from the callee's arguments on the stack to its answer there -/
def CallOk (w : Wd) (b : Bool) (p : Program) (l : Launch) (e : Jvm.Env) (R : Room) (s : State) (m : MethodId) (args : Array Value) (below : List Frame) (meth : Method) (c : Code) (Q : State → Prop) (cc : ByteArray) (n mc ms : Nat) (q : Instr × Nat × Ex) : Prop :=
  ∀ (cs ss pc : Nat) (L : List (Option Value)) (S vs : List Value) (g g' : G) (o : Option Value), cs + mc ≤ R.cells → ss + ms ≤ R.slots → decode cc pc = .ok (q.1, 3) → vs.length = q.2.1 → wsum S ≤ 8 → q.2.2 vs g = some (.inl o, g') →
    Kn w b p l e R s m args below meth c Q n (cs + mc) (ss + ms) (pc + 3) (L, o.toList ++ S, g') → Kn w b p l e R s m args below meth c Q n cs ss pc (L, vs.reverse ++ S, g)
def EnvOk (w : Wd) (b : Bool) (p : Program) (l : Launch) (e : Jvm.Env) (R : Room) (s : State) (m : MethodId) (args : Array Value) (below : List Frame) (meth : Method) (c : Code) (Q : State → Prop) (cc : ByteArray) (n : Nat) (own : String) (E : Env) : Prop :=
  eB E = b ∧ (∀ q ∈ eF E, zfok own q = true) ∧ (∀ q ∈ eK E, zkok own q = true) ∧ (∀ q ∈ eS E, zsok own q = true) ∧ (∀ k a, eT E k = some a → w.2.2.2.2 k = some a) ∧ (eI E = true → meth.name = "<init>") ∧ ∀ q ∈ eC E, CallOk w b p l e R s m args below meth c Q cc n 0 0 q
section
variable {w : Wd} {b : Bool} {p : Program} {l : Launch} {e : Jvm.Env} {R : Room} {s : State} {m : MethodId} {args : Array Value} {below : List Frame} {meth : Method} {c : Code} {Q : State → Prop} {cc : ByteArray} {n cs ss pc : Nat} {own : String} {E : Env}
variable {L : List (Option Value)} {S : List Value} {g : G} {st st' : St}
theorem RepG.one {H : Heap} {k : Nat} {c0 : Cel} (h : RepG w g H) (hk : g.1 k = some c0) : va_P w.2.2.1 zcl [(zad w k, zenc w c0)] H := by
  intro j q hq
  cases j with
  | zero => cases hq; exact (h.1 k c0 hk).2
  | succ j => cases hq
theorem RepG.put {H H1 : Heap} {k : Nat} {c0 c1 : Cel} (h : RepG w g H) (hk : g.1 k = some c0) (hz : H1.size = H.size) (ho : ∀ q : Nat, q ≠ zad w k → H1[q]? = H[q]?) (h1 : zat w k c1 H1) : RepG w (zup g.1 k c1, g.2) H1 := by
  have h4 := (h.1 k c0 hk).1
  refine ⟨fun j c2 hj => ?_, by rw [hz]; exact h.2.1, fun h0 => by rw [hz]; exact h.2.2 h0⟩
  simp only [zup] at hj
  split at hj
  · rename_i e; subst e; cases hj; exact ⟨h4, h1⟩
  · rename_i e
    obtain ⟨a1, a2⟩ := h.1 j c2 hj
    exact ⟨a1, va_at.kept a2 (ho _ (zad_ne a1 h4 e))⟩
theorem va_S.put' {H0 H H1 : Heap} {locs : List Loc} {a k : Nat} (h : va_S (zA w) H0 H locs) (hz : H1.size = H.size) (ho : ∀ q : Nat, q ≠ zad w a → H1[q]? = H[q]?) (h4 : 4 ≤ a) : va_S (zA w) H0 H1 (locs ++ [⟨zad w a, k⟩]) := h.put hz ho (zad_ge h4)
theorem CX.hx (h : CX w p s m args c cc n own) : p.tables.exec = Jvm.exec := h.1
theorem CX.hb (h : CX w p s m args c cc n own) : c.code = cc := h.2.1
theorem CX.hml (h : CX w p s m args c cc n own) : c.maxLocals = n := h.2.2.1
theorem CX.hown (h : CX w p s m args c cc n own) : s.vm.findClass own = some m.cls := h.2.2.2.1
theorem CX.hts (h : CX w p s m args c cc n own) {x : Cond} (hx : x ∈ lw_tbl) (hg : goodWord x = true) : x.before args s = true := h.2.2.2.2.1 x hx hg
theorem CX.kk (h : CX w p s m args c cc n own) : KK w s := h.2.2.2.2.2
theorem CX.hall (h : CX w p s m args c cc n own) : ∀ x ∈ lw_tbl.filter goodWord, x.before args s = true := fun x hx => h.hts (List.mem_filter.mp hx).1 (List.mem_filter.mp hx).2
theorem xs_iload_n {k0 : Fin 4} (cx : CX w p s m args c cc n own) (eo : EnvOk w b p l e R s m args below meth c Q cc n own E) (h : xI E (.iload_n k0) st = some st') (hd : decode cc pc = .ok (.iload_n k0, 1)) (k : Kn w b p l e R s m args below meth c Q n cs ss (pc + 1) st') : Kn w b p l e R s m args below meth c Q n cs ss pc st := by
  obtain ⟨L, S, g⟩ := st
  simp only [xI] at h
  split at h
  · rename_i x hl
    cases h
    exact fun hn H locs ls hL hG hS => lv_iload_n cx.hx cx.hb hd rfl (hL.2.2.1 _ _ hl) (k hn H locs ls hL hG hS)
  · cases h
theorem xs_iload {k0 : Nat} (cx : CX w p s m args c cc n own) (eo : EnvOk w b p l e R s m args below meth c Q cc n own E) (h : xI E (.iload k0) st = some st') (hd : decode cc pc = .ok (.iload k0, 2)) (k : Kn w b p l e R s m args below meth c Q n cs ss (pc + 2) st') : Kn w b p l e R s m args below meth c Q n cs ss pc st := by
  obtain ⟨L, S, g⟩ := st
  simp only [xI] at h
  split at h
  · rename_i x hl
    cases h
    exact fun hn H locs ls hL hG hS => lv_iload cx.hx cx.hb hd (hL.2.2.1 _ _ hl) (k hn H locs ls hL hG hS)
  · cases h
theorem xs_aload_n {k0 : Fin 4} (cx : CX w p s m args c cc n own) (eo : EnvOk w b p l e R s m args below meth c Q cc n own E) (h : xI E (.aload_n k0) st = some st') (hd : decode cc pc = .ok (.aload_n k0, 1)) (k : Kn w b p l e R s m args below meth c Q n cs ss (pc + 1) st') : Kn w b p l e R s m args below meth c Q n cs ss pc st := by
  obtain ⟨L, S, g⟩ := st
  simp only [xI] at h
  split at h
  · rename_i x hl
    cases h
    exact fun hn H locs ls hL hG hS => lv_aload_n cx.hx cx.hb hd rfl (hL.2.2.1 _ _ hl) (k hn H locs ls hL hG hS)
  · cases h
theorem xs_aload {k0 : Nat} (cx : CX w p s m args c cc n own) (eo : EnvOk w b p l e R s m args below meth c Q cc n own E) (h : xI E (.aload k0) st = some st') (hd : decode cc pc = .ok (.aload k0, 2)) (k : Kn w b p l e R s m args below meth c Q n cs ss (pc + 2) st') : Kn w b p l e R s m args below meth c Q n cs ss pc st := by
  obtain ⟨L, S, g⟩ := st
  simp only [xI] at h
  split at h
  · rename_i x hl
    cases h
    exact fun hn H locs ls hL hG hS => lv_aload cx.hx cx.hb hd (hL.2.2.1 _ _ hl) (k hn H locs ls hL hG hS)
  · cases h
theorem xs_lload_n {k0 : Fin 4} (cx : CX w p s m args c cc n own) (eo : EnvOk w b p l e R s m args below meth c Q cc n own E) (h : xI E (.lload_n k0) st = some st') (hd : decode cc pc = .ok (.lload_n k0, 1)) (k : Kn w b p l e R s m args below meth c Q n cs ss (pc + 1) st') : Kn w b p l e R s m args below meth c Q n cs ss pc st := by
  obtain ⟨L, S, g⟩ := st
  simp only [xI] at h
  split at h
  · rename_i x hl
    cases h
    exact fun hn H locs ls hL hG hS => lv_lload_n cx.hx cx.hb hd rfl (hL.2.2.1 _ _ hl) (k hn H locs ls hL hG hS)
  · cases h
theorem xs_lload {k0 : Nat} (cx : CX w p s m args c cc n own) (eo : EnvOk w b p l e R s m args below meth c Q cc n own E) (h : xI E (.lload k0) st = some st') (hd : decode cc pc = .ok (.lload k0, 2)) (k : Kn w b p l e R s m args below meth c Q n cs ss (pc + 2) st') : Kn w b p l e R s m args below meth c Q n cs ss pc st := by
  obtain ⟨L, S, g⟩ := st
  simp only [xI] at h
  split at h
  · rename_i x hl
    cases h
    exact fun hn H locs ls hL hG hS => lv_lload cx.hx cx.hb hd (hL.2.2.1 _ _ hl) (k hn H locs ls hL hG hS)
  · cases h
theorem xs_dload_n {k0 : Fin 4} (cx : CX w p s m args c cc n own) (eo : EnvOk w b p l e R s m args below meth c Q cc n own E) (h : xI E (.dload_n k0) st = some st') (hd : decode cc pc = .ok (.dload_n k0, 1)) (k : Kn w b p l e R s m args below meth c Q n cs ss (pc + 1) st') : Kn w b p l e R s m args below meth c Q n cs ss pc st := by
  obtain ⟨L, S, g⟩ := st
  simp only [xI] at h
  split at h
  · rename_i x hl
    cases h
    exact fun hn H locs ls hL hG hS => lv_dload_n cx.hx cx.hb hd rfl (hL.2.2.1 _ _ hl) (k hn H locs ls hL hG hS)
  · cases h
theorem xs_dload {k0 : Nat} (cx : CX w p s m args c cc n own) (eo : EnvOk w b p l e R s m args below meth c Q cc n own E) (h : xI E (.dload k0) st = some st') (hd : decode cc pc = .ok (.dload k0, 2)) (k : Kn w b p l e R s m args below meth c Q n cs ss (pc + 2) st') : Kn w b p l e R s m args below meth c Q n cs ss pc st := by
  obtain ⟨L, S, g⟩ := st
  simp only [xI] at h
  split at h
  · rename_i x hl
    cases h
    exact fun hn H locs ls hL hG hS => lv_dload cx.hx cx.hb hd (hL.2.2.1 _ _ hl) (k hn H locs ls hL hG hS)
  · cases h
theorem xs_iconst {k0 : Int} (cx : CX w p s m args c cc n own) (eo : EnvOk w b p l e R s m args below meth c Q cc n own E) (h : xI E (.iconst k0) st = some st') (hd : decode cc pc = .ok (.iconst k0, 1)) (k : Kn w b p l e R s m args below meth c Q n cs ss (pc + 1) st') : Kn w b p l e R s m args below meth c Q n cs ss pc st := by
  obtain ⟨L, S, g⟩ := st
  simp only [xI] at h
  cases h
  exact fun hn H locs ls hL hG hS => lv_iconst cx.hx cx.hb hd rfl (k hn H locs ls hL hG hS)
theorem xs_bipush {k0 : Int} (cx : CX w p s m args c cc n own) (eo : EnvOk w b p l e R s m args below meth c Q cc n own E) (h : xI E (.bipush k0) st = some st') (hd : decode cc pc = .ok (.bipush k0, 2)) (k : Kn w b p l e R s m args below meth c Q n cs ss (pc + 2) st') : Kn w b p l e R s m args below meth c Q n cs ss pc st := by
  obtain ⟨L, S, g⟩ := st
  simp only [xI] at h
  cases h
  exact fun hn H locs ls hL hG hS => lv_bipush cx.hx cx.hb hd rfl (k hn H locs ls hL hG hS)
theorem xs_sipush {k0 : Int} (cx : CX w p s m args c cc n own) (eo : EnvOk w b p l e R s m args below meth c Q cc n own E) (h : xI E (.sipush k0) st = some st') (hd : decode cc pc = .ok (.sipush k0, 3)) (k : Kn w b p l e R s m args below meth c Q n cs ss (pc + 3) st') : Kn w b p l e R s m args below meth c Q n cs ss pc st := by
  obtain ⟨L, S, g⟩ := st
  simp only [xI] at h
  cases h
  exact fun hn H locs ls hL hG hS => lv_sipush cx.hx cx.hb hd rfl (k hn H locs ls hL hG hS)
theorem xs_lconst {k0 : Fin 2} (cx : CX w p s m args c cc n own) (eo : EnvOk w b p l e R s m args below meth c Q cc n own E) (h : xI E (.lconst k0) st = some st') (hd : decode cc pc = .ok (.lconst k0, 1)) (k : Kn w b p l e R s m args below meth c Q n cs ss (pc + 1) st') : Kn w b p l e R s m args below meth c Q n cs ss pc st := by
  obtain ⟨L, S, g⟩ := st
  simp only [xI] at h
  cases h
  exact fun hn H locs ls hL hG hS => lv_lconst cx.hx cx.hb hd rfl (k hn H locs ls hL hG hS)
theorem xs_dconst {k0 : Fin 2} (cx : CX w p s m args c cc n own) (eo : EnvOk w b p l e R s m args below meth c Q cc n own E) (h : xI E (.dconst k0) st = some st') (hd : decode cc pc = .ok (.dconst k0, 1)) (k : Kn w b p l e R s m args below meth c Q n cs ss (pc + 1) st') : Kn w b p l e R s m args below meth c Q n cs ss pc st := by
  obtain ⟨L, S, g⟩ := st
  simp only [xI] at h

  split at h
  · cases h
    exact fun hn H locs ls hL hG hS => lv_dconst0 cx.hx cx.hb hd (k hn H locs ls hL hG hS)
  · cases h
    exact fun hn H locs ls hL hG hS => lv_dconst1 cx.hx cx.hb hd (k hn H locs ls hL hG hS)
theorem xs_ldc2 {k0 : Nat} (cx : CX w p s m args c cc n own) (eo : EnvOk w b p l e R s m args below meth c Q cc n own E) (h : xI E (.ldc2_w k0) st = some st') (hd : decode cc pc = .ok (.ldc2_w k0, 3)) (k : Kn w b p l e R s m args below meth c Q n cs ss (pc + 3) st') : Kn w b p l e R s m args below meth c Q n cs ss pc st := by
  obtain ⟨L, S, g⟩ := st
  simp only [xI] at h
  split at h
  · rename_i v hv
    cases h
    have hk := eo.2.2.1 _ (lookN_mem hv)
    cases v <;> simp only [zkok, decide_eq_true_eq, Bool.false_eq_true] at hk
    · exact fun hn H locs ls hL hG hS => lv_ldc2 cx.hx cx.hb cx.hown (cx.hts hk rfl) hd (k hn H locs ls hL hG hS)
    · exact fun hn H locs ls hL hG hS => lv_ldc2d cx.hx cx.hb cx.hown (cx.hts hk rfl) hd (k hn H locs ls hL hG hS)
  · cases h
theorem xs_istore_n {k0 : Fin 4} (cx : CX w p s m args c cc n own) (eo : EnvOk w b p l e R s m args below meth c Q cc n own E) (h : xI E (.istore_n k0) st = some st') (hd : decode cc pc = .ok (.istore_n k0, 1)) (k : Kn w b p l e R s m args below meth c Q n cs ss (pc + 1) st') : Kn w b p l e R s m args below meth c Q n cs ss pc st := by
  obtain ⟨L, S, g⟩ := st
  simp only [xI] at h

  split at h
  · rename_i x S
    split at h
    · rename_i hlt
      cases h
      rw [eo.1] at k
      exact fun hn H locs ls hL hG hS => lv_istore_n cx.hx cx.hb hd rfl hL.has hlt rfl (fun ls' hl' => k ((stL_len _ _ _ _).trans hn) H locs ls' (hL.st1 rfl hl') hG hS)
    · cases h
  · cases h
theorem xs_istore {k0 : Nat} (cx : CX w p s m args c cc n own) (eo : EnvOk w b p l e R s m args below meth c Q cc n own E) (h : xI E (.istore k0) st = some st') (hd : decode cc pc = .ok (.istore k0, 2)) (k : Kn w b p l e R s m args below meth c Q n cs ss (pc + 2) st') : Kn w b p l e R s m args below meth c Q n cs ss pc st := by
  obtain ⟨L, S, g⟩ := st
  simp only [xI] at h

  split at h
  · rename_i x S
    split at h
    · rename_i hlt
      cases h
      rw [eo.1] at k
      exact fun hn H locs ls hL hG hS => lv_istore cx.hx cx.hb hd hL.has hlt rfl (fun ls' hl' => k ((stL_len _ _ _ _).trans hn) H locs ls' (hL.st1 rfl hl') hG hS)
    · cases h
  · cases h
theorem xs_astore_n {k0 : Fin 4} (cx : CX w p s m args c cc n own) (eo : EnvOk w b p l e R s m args below meth c Q cc n own E) (h : xI E (.astore_n k0) st = some st') (hd : decode cc pc = .ok (.astore_n k0, 1)) (k : Kn w b p l e R s m args below meth c Q n cs ss (pc + 1) st') : Kn w b p l e R s m args below meth c Q n cs ss pc st := by
  obtain ⟨L, S, g⟩ := st
  simp only [xI] at h

  split at h
  · rename_i x S
    split at h
    · rename_i hlt
      cases h
      rw [eo.1] at k
      exact fun hn H locs ls hL hG hS => lv_astore_n cx.hx cx.hb hd rfl hL.has hlt rfl (fun ls' hl' => k ((stL_len _ _ _ _).trans hn) H locs ls' (hL.st1 rfl hl') hG hS)
    · cases h
  · cases h
theorem xs_astore {k0 : Nat} (cx : CX w p s m args c cc n own) (eo : EnvOk w b p l e R s m args below meth c Q cc n own E) (h : xI E (.astore k0) st = some st') (hd : decode cc pc = .ok (.astore k0, 2)) (k : Kn w b p l e R s m args below meth c Q n cs ss (pc + 2) st') : Kn w b p l e R s m args below meth c Q n cs ss pc st := by
  obtain ⟨L, S, g⟩ := st
  simp only [xI] at h

  split at h
  · rename_i x S
    split at h
    · rename_i hlt
      cases h
      rw [eo.1] at k
      exact fun hn H locs ls hL hG hS => lv_astore cx.hx cx.hb hd hL.has hlt rfl (fun ls' hl' => k ((stL_len _ _ _ _).trans hn) H locs ls' (hL.st1 rfl hl') hG hS)
    · cases h
  · cases h
theorem xs_lstore_n {k0 : Fin 4} (cx : CX w p s m args c cc n own) (eo : EnvOk w b p l e R s m args below meth c Q cc n own E) (h : xI E (.lstore_n k0) st = some st') (hd : decode cc pc = .ok (.lstore_n k0, 1)) (k : Kn w b p l e R s m args below meth c Q n cs ss (pc + 1) st') : Kn w b p l e R s m args below meth c Q n cs ss pc st := by
  obtain ⟨L, S, g⟩ := st
  simp only [xI] at h

  split at h
  · rename_i x S hB
    split at h
    · rename_i hlt
      cases h
      have hbf : b = false := eo.1.symm.trans hB
      subst hbf
      exact fun hn H locs ls hL hG hS => lv_lstore_n cx.hx cx.hb hd rfl hL.has hlt rfl (fun ls' hl' => k ((stL2_len _ _ _).trans hn) H locs ls' (hL.st2 hl') hG hS)
    · cases h
  · cases h
theorem xs_lstore {k0 : Nat} (cx : CX w p s m args c cc n own) (eo : EnvOk w b p l e R s m args below meth c Q cc n own E) (h : xI E (.lstore k0) st = some st') (hd : decode cc pc = .ok (.lstore k0, 2)) (k : Kn w b p l e R s m args below meth c Q n cs ss (pc + 2) st') : Kn w b p l e R s m args below meth c Q n cs ss pc st := by
  obtain ⟨L, S, g⟩ := st
  simp only [xI] at h

  split at h
  · rename_i x S hB
    split at h
    · rename_i hlt
      cases h
      have hbf : b = false := eo.1.symm.trans hB
      subst hbf
      exact fun hn H locs ls hL hG hS => lv_lstore cx.hx cx.hb hd hL.has hlt rfl (fun ls' hl' => k ((stL2_len _ _ _).trans hn) H locs ls' (hL.st2 hl') hG hS)
    · cases h
  · cases h
theorem xs_dstore_n {k0 : Fin 4} (cx : CX w p s m args c cc n own) (eo : EnvOk w b p l e R s m args below meth c Q cc n own E) (h : xI E (.dstore_n k0) st = some st') (hd : decode cc pc = .ok (.dstore_n k0, 1)) (k : Kn w b p l e R s m args below meth c Q n cs ss (pc + 1) st') : Kn w b p l e R s m args below meth c Q n cs ss pc st := by
  obtain ⟨L, S, g⟩ := st
  simp only [xI] at h

  split at h
  · rename_i x S hB
    split at h
    · rename_i hlt
      cases h
      have hbf : b = false := eo.1.symm.trans hB
      subst hbf
      exact fun hn H locs ls hL hG hS => lv_dstore_n cx.hx cx.hb hd rfl hL.has hlt rfl (fun ls' hl' => k ((stL2_len _ _ _).trans hn) H locs ls' (hL.st2 hl') hG hS)
    · cases h
  · cases h
theorem xs_dstore {k0 : Nat} (cx : CX w p s m args c cc n own) (eo : EnvOk w b p l e R s m args below meth c Q cc n own E) (h : xI E (.dstore k0) st = some st') (hd : decode cc pc = .ok (.dstore k0, 2)) (k : Kn w b p l e R s m args below meth c Q n cs ss (pc + 2) st') : Kn w b p l e R s m args below meth c Q n cs ss pc st := by
  obtain ⟨L, S, g⟩ := st
  simp only [xI] at h

  split at h
  · rename_i x S hB
    split at h
    · rename_i hlt
      cases h
      have hbf : b = false := eo.1.symm.trans hB
      subst hbf
      exact fun hn H locs ls hL hG hS => lv_dstore cx.hx cx.hb hd hL.has hlt rfl (fun ls' hl' => k ((stL2_len _ _ _).trans hn) H locs ls' (hL.st2 hl') hG hS)
    · cases h
  · cases h
theorem xs_iinc {k0 : Nat} {n0 : Int} (cx : CX w p s m args c cc n own) (eo : EnvOk w b p l e R s m args below meth c Q cc n own E) (h : xI E (.iinc k0 n0) st = some st') (hd : decode cc pc = .ok (.iinc k0 n0, 3)) (k : Kn w b p l e R s m args below meth c Q n cs ss (pc + 3) st') : Kn w b p l e R s m args below meth c Q n cs ss pc st := by
  obtain ⟨L, S, g⟩ := st
  simp only [xI] at h
  split at h
  · rename_i x hl
    cases h
    rw [eo.1] at k
    intro hn H locs ls hL hG hS
    have hh := hL.has
    have hh2 : lv_has ls L.length ((k0, Value.int x) :: lvl w L) := ⟨hh.1, hh.2.1, fun q hq => by
      rcases List.mem_cons.mp hq with rfl | hq
      · exact hL.2.2.1 _ _ hl
      · exact hh.2.2 q hq⟩
    refine lv_iinc cx.hx cx.hb hd hh2 (k := 0) rfl rfl (List.getElem?_eq_some_iff.mp hl).1 rfl (fun ls' hl' => k ((stL_len _ _ _ _).trans hn) H locs ls' (hL.st1 rfl ⟨hl'.1, hl'.2.1, fun q hq => hl'.2.2 q ?_⟩) hG hS)
    rcases List.mem_cons.mp hq with rfl | hq
    · exact List.mem_cons_self
    · exact List.mem_cons_of_mem _ (by
        rw [List.filter_cons]
        split
        · exact List.mem_cons_of_mem _ hq
        · exact hq)
  · cases h
theorem xs_iadd (cx : CX w p s m args c cc n own) (eo : EnvOk w b p l e R s m args below meth c Q cc n own E) (h : xI E (.iadd) st = some st') (hd : decode cc pc = .ok (.iadd, 1)) (k : Kn w b p l e R s m args below meth c Q n cs ss (pc + 1) st') : Kn w b p l e R s m args below meth c Q n cs ss pc st := by
  obtain ⟨L, S, g⟩ := st
  simp only [xI] at h
  split at h
  · cases h
    exact fun hn H locs ls hL hG hS => lv_iadd cx.hx cx.hb hd (k hn H locs ls hL hG hS)
  · cases h
theorem xs_isub (cx : CX w p s m args c cc n own) (eo : EnvOk w b p l e R s m args below meth c Q cc n own E) (h : xI E (.isub) st = some st') (hd : decode cc pc = .ok (.isub, 1)) (k : Kn w b p l e R s m args below meth c Q n cs ss (pc + 1) st') : Kn w b p l e R s m args below meth c Q n cs ss pc st := by
  obtain ⟨L, S, g⟩ := st
  simp only [xI] at h
  split at h
  · cases h
    exact fun hn H locs ls hL hG hS => lv_isub cx.hx cx.hb hd (k hn H locs ls hL hG hS)
  · cases h
theorem xs_imul (cx : CX w p s m args c cc n own) (eo : EnvOk w b p l e R s m args below meth c Q cc n own E) (h : xI E (.imul) st = some st') (hd : decode cc pc = .ok (.imul, 1)) (k : Kn w b p l e R s m args below meth c Q n cs ss (pc + 1) st') : Kn w b p l e R s m args below meth c Q n cs ss pc st := by
  obtain ⟨L, S, g⟩ := st
  simp only [xI] at h
  split at h
  · cases h
    exact fun hn H locs ls hL hG hS => lv_imul cx.hx cx.hb hd (k hn H locs ls hL hG hS)
  · cases h
theorem xs_iand (cx : CX w p s m args c cc n own) (eo : EnvOk w b p l e R s m args below meth c Q cc n own E) (h : xI E (.iand) st = some st') (hd : decode cc pc = .ok (.iand, 1)) (k : Kn w b p l e R s m args below meth c Q n cs ss (pc + 1) st') : Kn w b p l e R s m args below meth c Q n cs ss pc st := by
  obtain ⟨L, S, g⟩ := st
  simp only [xI] at h
  split at h
  · cases h
    exact fun hn H locs ls hL hG hS => lv_iand cx.hx cx.hb hd (k hn H locs ls hL hG hS)
  · cases h
theorem xs_ladd (cx : CX w p s m args c cc n own) (eo : EnvOk w b p l e R s m args below meth c Q cc n own E) (h : xI E (.ladd) st = some st') (hd : decode cc pc = .ok (.ladd, 1)) (k : Kn w b p l e R s m args below meth c Q n cs ss (pc + 1) st') : Kn w b p l e R s m args below meth c Q n cs ss pc st := by
  obtain ⟨L, S, g⟩ := st
  simp only [xI] at h
  split at h
  · cases h
    exact fun hn H locs ls hL hG hS => lv_ladd cx.hx cx.hb hd (k hn H locs ls hL hG hS)
  · cases h
theorem xs_lsub (cx : CX w p s m args c cc n own) (eo : EnvOk w b p l e R s m args below meth c Q cc n own E) (h : xI E (.lsub) st = some st') (hd : decode cc pc = .ok (.lsub, 1)) (k : Kn w b p l e R s m args below meth c Q n cs ss (pc + 1) st') : Kn w b p l e R s m args below meth c Q n cs ss pc st := by
  obtain ⟨L, S, g⟩ := st
  simp only [xI] at h
  split at h
  · cases h
    exact fun hn H locs ls hL hG hS => lv_lsub cx.hx cx.hb hd (k hn H locs ls hL hG hS)
  · cases h
theorem xs_lmul (cx : CX w p s m args c cc n own) (eo : EnvOk w b p l e R s m args below meth c Q cc n own E) (h : xI E (.lmul) st = some st') (hd : decode cc pc = .ok (.lmul, 1)) (k : Kn w b p l e R s m args below meth c Q n cs ss (pc + 1) st') : Kn w b p l e R s m args below meth c Q n cs ss pc st := by
  obtain ⟨L, S, g⟩ := st
  simp only [xI] at h
  split at h
  · cases h
    exact fun hn H locs ls hL hG hS => lv_lmul cx.hx cx.hb hd (k hn H locs ls hL hG hS)
  · cases h
theorem xs_idiv (cx : CX w p s m args c cc n own) (eo : EnvOk w b p l e R s m args below meth c Q cc n own E) (h : xI E (.idiv) st = some st') (hd : decode cc pc = .ok (.idiv, 1)) (k : Kn w b p l e R s m args below meth c Q n cs ss (pc + 1) st') : Kn w b p l e R s m args below meth c Q n cs ss pc st := by
  obtain ⟨L, S, g⟩ := st
  simp only [xI] at h
  split at h
  · split at h
    · cases h
    · rename_i hne
      cases h
      exact fun hn H locs ls hL hG hS => lv_idiv cx.hx cx.hb hd hne (k hn H locs ls hL hG hS)
  · cases h
theorem xs_irem (cx : CX w p s m args c cc n own) (eo : EnvOk w b p l e R s m args below meth c Q cc n own E) (h : xI E (.irem) st = some st') (hd : decode cc pc = .ok (.irem, 1)) (k : Kn w b p l e R s m args below meth c Q n cs ss (pc + 1) st') : Kn w b p l e R s m args below meth c Q n cs ss pc st := by
  obtain ⟨L, S, g⟩ := st
  simp only [xI] at h
  split at h
  · split at h
    · cases h
    · rename_i hne
      cases h
      exact fun hn H locs ls hL hG hS => lv_irem cx.hx cx.hb hd hne (k hn H locs ls hL hG hS)
  · cases h
theorem xs_dmul (cx : CX w p s m args c cc n own) (eo : EnvOk w b p l e R s m args below meth c Q cc n own E) (h : xI E (.dmul) st = some st') (hd : decode cc pc = .ok (.dmul, 1)) (k : Kn w b p l e R s m args below meth c Q n cs ss (pc + 1) st') : Kn w b p l e R s m args below meth c Q n cs ss pc st := by
  obtain ⟨L, S, g⟩ := st
  simp only [xI] at h
  split at h
  · split at h
    · rename_i hne
      cases h
      exact fun hn H locs ls hL hG hS => lv_dmul cx.hx cx.hb hd hne (k hn H locs ls hL hG hS)
    · cases h
  · cases h
theorem xs_ddiv (cx : CX w p s m args c cc n own) (eo : EnvOk w b p l e R s m args below meth c Q cc n own E) (h : xI E (.ddiv) st = some st') (hd : decode cc pc = .ok (.ddiv, 1)) (k : Kn w b p l e R s m args below meth c Q n cs ss (pc + 1) st') : Kn w b p l e R s m args below meth c Q n cs ss pc st := by
  obtain ⟨L, S, g⟩ := st
  simp only [xI] at h
  split at h
  · split at h
    · rename_i hne
      cases h
      exact fun hn H locs ls hL hG hS => lv_ddiv cx.hx cx.hb hd hne (k hn H locs ls hL hG hS)
    · cases h
  · cases h
theorem xs_dsub (cx : CX w p s m args c cc n own) (eo : EnvOk w b p l e R s m args below meth c Q cc n own E) (h : xI E (.dsub) st = some st') (hd : decode cc pc = .ok (.dsub, 1)) (k : Kn w b p l e R s m args below meth c Q n cs ss (pc + 1) st') : Kn w b p l e R s m args below meth c Q n cs ss pc st := by
  obtain ⟨L, S, g⟩ := st
  simp only [xI] at h
  split at h
  · split at h
    · rename_i hne
      cases h
      exact fun hn H locs ls hL hG hS => lv_dsub cx.hx cx.hb hd hne (k hn H locs ls hL hG hS)
    · cases h
  · cases h
theorem xs_lshl (cx : CX w p s m args c cc n own) (eo : EnvOk w b p l e R s m args below meth c Q cc n own E) (h : xI E (.lshl) st = some st') (hd : decode cc pc = .ok (.lshl, 1)) (k : Kn w b p l e R s m args below meth c Q n cs ss (pc + 1) st') : Kn w b p l e R s m args below meth c Q n cs ss pc st := by
  obtain ⟨L, S, g⟩ := st
  simp only [xI] at h
  split at h
  · cases h
    exact fun hn H locs ls hL hG hS => lv_lshl cx.hx cx.hb hd rfl (k hn H locs ls hL hG hS)
  · cases h
theorem xs_i2l (cx : CX w p s m args c cc n own) (eo : EnvOk w b p l e R s m args below meth c Q cc n own E) (h : xI E (.i2l) st = some st') (hd : decode cc pc = .ok (.i2l, 1)) (k : Kn w b p l e R s m args below meth c Q n cs ss (pc + 1) st') : Kn w b p l e R s m args below meth c Q n cs ss pc st := by
  obtain ⟨L, S, g⟩ := st
  simp only [xI] at h
  split at h
  · cases h
    exact fun hn H locs ls hL hG hS => lv_i2l cx.hx cx.hb hd rfl (k hn H locs ls hL hG hS)
  · cases h
theorem xs_i2d (cx : CX w p s m args c cc n own) (eo : EnvOk w b p l e R s m args below meth c Q cc n own E) (h : xI E (.i2d) st = some st') (hd : decode cc pc = .ok (.i2d, 1)) (k : Kn w b p l e R s m args below meth c Q n cs ss (pc + 1) st') : Kn w b p l e R s m args below meth c Q n cs ss pc st := by
  obtain ⟨L, S, g⟩ := st
  simp only [xI] at h
  split at h
  · cases h
    exact fun hn H locs ls hL hG hS => lv_i2d cx.hx cx.hb hd (k hn H locs ls hL hG hS)
  · cases h
theorem xs_d2l (cx : CX w p s m args c cc n own) (eo : EnvOk w b p l e R s m args below meth c Q cc n own E) (h : xI E (.d2l) st = some st') (hd : decode cc pc = .ok (.d2l, 1)) (k : Kn w b p l e R s m args below meth c Q n cs ss (pc + 1) st') : Kn w b p l e R s m args below meth c Q n cs ss pc st := by
  obtain ⟨L, S, g⟩ := st
  simp only [xI] at h
  split at h
  · cases h
    exact fun hn H locs ls hL hG hS => lv_d2l cx.hx cx.hb hd (k hn H locs ls hL hG hS)
  · cases h
theorem xs_lcmp (cx : CX w p s m args c cc n own) (eo : EnvOk w b p l e R s m args below meth c Q cc n own E) (h : xI E (.lcmp) st = some st') (hd : decode cc pc = .ok (.lcmp, 1)) (k : Kn w b p l e R s m args below meth c Q n cs ss (pc + 1) st') : Kn w b p l e R s m args below meth c Q n cs ss pc st := by
  obtain ⟨L, S, g⟩ := st
  simp only [xI] at h
  split at h
  · cases h
    exact fun hn H locs ls hL hG hS => W.lcmp cx.hx cx.hb hd (k hn H locs ls hL hG hS)
  · cases h
theorem xs_dcmp {k0 : CmpOp} (cx : CX w p s m args c cc n own) (eo : EnvOk w b p l e R s m args below meth c Q cc n own E) (h : xI E (.dcmp k0) st = some st') (hd : decode cc pc = .ok (.dcmp k0, 1)) (k : Kn w b p l e R s m args below meth c Q n cs ss (pc + 1) st') : Kn w b p l e R s m args below meth c Q n cs ss pc st := by
  obtain ⟨L, S, g⟩ := st
  simp only [xI] at h
  split at h
  · cases h
    exact fun hn H locs ls hL hG hS => lv_dcmp cx.hx cx.hb hd (k hn H locs ls hL hG hS)
  · cases h
theorem xs_dup (cx : CX w p s m args c cc n own) (eo : EnvOk w b p l e R s m args below meth c Q cc n own E) (h : xI E (.dup) st = some st') (hd : decode cc pc = .ok (.dup, 1)) (k : Kn w b p l e R s m args below meth c Q n cs ss (pc + 1) st') : Kn w b p l e R s m args below meth c Q n cs ss pc st := by
  obtain ⟨L, S, g⟩ := st
  simp only [xI] at h
  split at h
  · cases h
    exact fun hn H locs ls hL hG hS => lv_dup cx.hx cx.hb hd rfl (k hn H locs ls hL hG hS)
  · cases h
    exact fun hn H locs ls hL hG hS => lv_dup cx.hx cx.hb hd rfl (k hn H locs ls hL hG hS)
  · cases h
theorem xs_dup2 (cx : CX w p s m args c cc n own) (eo : EnvOk w b p l e R s m args below meth c Q cc n own E) (h : xI E (.dup2) st = some st') (hd : decode cc pc = .ok (.dup2, 1)) (k : Kn w b p l e R s m args below meth c Q n cs ss (pc + 1) st') : Kn w b p l e R s m args below meth c Q n cs ss pc st := by
  obtain ⟨L, S, g⟩ := st
  simp only [xI] at h
  split at h
  · cases h
    exact fun hn H locs ls hL hG hS => lv_dup2_11 cx.hx cx.hb hd rfl rfl (k hn H locs ls hL hG hS)
  · cases h
theorem xs_pop (cx : CX w p s m args c cc n own) (eo : EnvOk w b p l e R s m args below meth c Q cc n own E) (h : xI E (.pop) st = some st') (hd : decode cc pc = .ok (.pop, 1)) (k : Kn w b p l e R s m args below meth c Q n cs ss (pc + 1) st') : Kn w b p l e R s m args below meth c Q n cs ss pc st := by
  obtain ⟨L, S, g⟩ := st
  simp only [xI] at h
  split at h
  · cases h
    exact fun hn H locs ls hL hG hS => lv_pop cx.hx cx.hb hd rfl (k hn H locs ls hL hG hS)
  · cases h
theorem xs_aconst_null (cx : CX w p s m args c cc n own) (eo : EnvOk w b p l e R s m args below meth c Q cc n own E) (h : xI E (.aconst_null) st = some st') (hd : decode cc pc = .ok (.aconst_null, 1)) (k : Kn w b p l e R s m args below meth c Q n cs ss (pc + 1) st') : Kn w b p l e R s m args below meth c Q n cs ss pc st := by
  obtain ⟨L, S, g⟩ := st
  simp only [xI] at h
  cases h
  exact fun hn H locs ls hL hG hS => lv_null cx.hx cx.hb hd (k hn H locs ls hL hG hS)
end
end
section
/-! ===== the soundness of what reads and writes the heap, and of calls ===== -/
section
variable {w : Wd} {b : Bool} {p : Program} {l : Launch} {e : Jvm.Env} {R : Room} {s : State} {m : MethodId} {args : Array Value} {below : List Frame} {meth : Method} {c : Code} {Q : State → Prop} {cc : ByteArray} {n cs ss pc : Nat} {own : String} {E : Env}
variable {L : List (Option Value)} {S : List Value} {g : G} {st st' : St}
theorem zcl_at {ci : Nat} (h : ci < 7) : ∃ r, zcl[ci]? = some r := by
  match ci, h with
  | 0, _ => exact ⟨_, rfl⟩
  | 1, _ => exact ⟨_, rfl⟩
  | 2, _ => exact ⟨_, rfl⟩
  | 3, _ => exact ⟨_, rfl⟩
  | 4, _ => exact ⟨_, rfl⟩
  | 5, _ => exact ⟨_, rfl⟩
  | 6, _ => exact ⟨_, rfl⟩
theorem zfok_spec {own : String} {q : Nat × Nat × Nat} (h : zfok own q = true) : ∃ r : vw_C, zcl[q.2.1]? = some r ∧ q.2.1 < 7 ∧ q.2.2 < r.2.2 ∧ r.1 = own ∧ Cond.fieldLink own q.1 own (r.2.1 q.2.2).2.1 (r.2.1 q.2.2).2.2.1 ∈ lw_tbl := by
  unfold zfok at h
  split at h
  · rename_i r hr
    simp only [Bool.and_eq_true, decide_eq_true_eq] at h
    exact ⟨r, hr, h.1, h.2.1, h.2.2.1, h.2.2.2⟩
  · cases h
theorem zlay {r : vw_C} {ci : Nat} (hr : zcl[ci]? = some r) (h : ci < 7) : ∀ x ∈ u_ws r.1 r.2.1 r.2.2, x ∈ lw_tbl.filter goodWord := by
  have h1 := zlay_ok ci h
  rw [hr] at h1
  intro x hx
  refine List.mem_filter.mpr ⟨h1 x hx, ?_⟩
  obtain ⟨k, -, rfl⟩ := List.mem_map.mp hx
  unfold u_lay
  split <;> rfl
theorem ztyok {r : vw_C} {ci : Nat} (hr : zcl[ci]? = some r) (h : ci < 7) : ∀ k, k < r.2.2 → parseFieldDescriptor (r.2.1 k).2.2.1 = some (zty ci k) := by
  have h1 := zty_ok ci h
  rw [hr] at h1
  exact h1
theorem znmok {r : vw_C} {ci : Nat} (hr : zcl[ci]? = some r) (h : ci < 7) : ∀ a, a < r.2.2 → ∀ b, b < r.2.2 → a ≠ b → (r.2.1 a).2.1 ≠ (r.2.1 b).2.1 := by
  have h1 := znm_ok ci h
  rw [hr] at h1
  exact h1
theorem zdcok {r : vw_C} {ci : Nat} (hr : zcl[ci]? = some r) (h : ci < 7) : ∀ k, k < r.2.2 → (r.2.1 k).1 = r.1 := by
  have h1 := zdc_ok ci h
  rw [hr] at h1
  exact h1
theorem xs_getfield {k0 : Nat} (cx : CX w p s m args c cc n own) (eo : EnvOk w b p l e R s m args below meth c Q cc n own E) (h : xI E (.getfield k0) st = some st') (hd : decode cc pc = .ok (.getfield k0, 3)) (k : Kn w b p l e R s m args below meth c Q n cs ss (pc + 3) st') : Kn w b p l e R s m args below meth c Q n cs ss pc st := by
  obtain ⟨L, S, g⟩ := st
  simp only [xI] at h
  split at h
  · rename_i a S
    split at h
    · rename_i ci fs hM
      split at h
      · rename_i cj j hf
        split at h
        · rename_i hcj
          subst hcj
          split at h
          · rename_i v hv
            cases h
            obtain ⟨⟨C, T, N⟩, hr, h7, hj, hC, hlink⟩ := zfok_spec (eo.2.1 _ (lookN_mem hf))
            dsimp only at hr h7 hj hC hlink
            subst hC
            intro hn H locs ls hL hG hS
            refine va_get (D := w.2.2.1) (cl := zcl) (ref := C) (T := T) (C := C) (N := N) (ci := ci) cx.hx cx.hb cx.hall (zlay hr h7) cx.hown cx.kk.1 (hG.one hM) 0 rfl hr j hj (cx.hts hlink rfl) (fun x hx => ?_) (v := ztv w v) ?_ hd (k hn H locs ls hL hG hS)
            · have hdc : (T j).1 = C := zdcok hr h7 j hj
              rw [hdc] at hx; exact hx
            · rw [List.getElem?_map, hv]; rfl
          · cases h
        · cases h
      · cases h
    · cases h
  · cases h
theorem xs_getstatic {k0 : Nat} (cx : CX w p s m args c cc n own) (eo : EnvOk w b p l e R s m args below meth c Q cc n own E) (h : xI E (.getstatic k0) st = some st') (hd : decode cc pc = .ok (.getstatic k0, 3)) (k : Kn w b p l e R s m args below meth c Q n cs ss (pc + 3) st') : Kn w b p l e R s m args below meth c Q n cs ss pc st := by
  obtain ⟨L, S, g⟩ := st
  simp only [xI] at h
  split at h
  · rename_i j hj
    cases h
    have hk := eo.2.2.2.1 _ (lookN_mem hj)
    simp only [zsok, Bool.and_eq_true, Bool.or_eq_true, decide_eq_true_eq] at hk
    intro hn H locs ls hL hG hS
    rcases hk.2 with h1 | h1
    · exact va_gets cx.hx cx.hb (cx.kk.2.2.1 j hk.1) hS cx.hown (cx.hts h1 rfl) (fun _ h => h) hd (k hn H locs ls hL hG hS)
    · exact va_getsN cx.hx cx.hb (cx.kk.2.2.1 j hk.1) hS cx.hown (va_Nw.use rfl (cx.kk.2.2.2.1 _ h1)) (fun _ h => h) hd (k hn H locs ls hL hG hS)
  · cases h
theorem xs_arraylength (cx : CX w p s m args c cc n own) (eo : EnvOk w b p l e R s m args below meth c Q cc n own E) (h : xI E .arraylength st = some st') (hd : decode cc pc = .ok (.arraylength, 1)) (k : Kn w b p l e R s m args below meth c Q n cs ss (pc + 1) st') : Kn w b p l e R s m args below meth c Q n cs ss pc st := by
  obtain ⟨L, S, g⟩ := st
  simp only [xI] at h
  split at h
  · split at h
    · rename_i hM
      cases h
      exact fun hn H locs ls hL hG hS => va_alen cx.hx cx.hb cx.kk.1 (hG.one hM) 0 0 rfl rfl rfl hd (k hn H locs ls hL hG hS)
    · rename_i hM
      cases h
      exact fun hn H locs ls hL hG hS => va_alen cx.hx cx.hb cx.kk.1 (hG.one hM) 0 1 rfl rfl rfl hd (k hn H locs ls hL hG hS)
    · rename_i hM
      cases h
      exact fun hn H locs ls hL hG hS => va_alen cx.hx cx.hb cx.kk.1 (hG.one hM) 0 2 rfl rfl rfl hd (k hn H locs ls hL hG hS)
    · cases h
    · split at h
      · rename_i hT
        cases h
        intro hn H locs ls hL hG hS
        obtain ⟨-, cell, q1, q2, q3, q4, q5, q6, q7⟩ := cx.kk.2.1 _ _ (eo.2.2.2.2.1 _ _ hT)
        exact W.alen cx.hx cx.hb (by rw [hS.2.1 _ (Array.getElem?_eq_some_iff.mp q1).1 q7]; exact q1) q2 q5 rfl rfl hd (k hn H locs ls hL hG hS)
      · cases h
  · cases h
theorem xs_iaload (cx : CX w p s m args c cc n own) (eo : EnvOk w b p l e R s m args below meth c Q cc n own E) (h : xI E .iaload st = some st') (hd : decode cc pc = .ok (.iaload, 1)) (k : Kn w b p l e R s m args below meth c Q n cs ss (pc + 1) st') : Kn w b p l e R s m args below meth c Q n cs ss pc st := by
  obtain ⟨L, S, g⟩ := st
  simp only [xI] at h
  split at h
  · split at h
    · rename_i hM
      split at h
      · rename_i hi
        cases h
        obtain ⟨h1, h2⟩ := zix_in hi
        subst h2
        exact fun hn H locs ls hL hG hS => va_iald cx.hx cx.hb cx.kk.1 (hG.one hM) 0 0 rfl rfl h1 hd (k hn H locs ls hL hG hS)
      · cases h
    · cases h
    · split at h
      · rename_i hT
        split at h
        · rename_i hi
          cases h
          obtain ⟨h1, h2⟩ := zix_in hi
          subst h2
          exact fun hn H locs ls hL hG hS => va_ti cx.hx cx.hb (cx.kk.2.1 _ _ (eo.2.2.2.2.1 _ _ hT)).2 hS h1 rfl hd (k hn H locs ls hL hG hS)
        · cases h
      · cases h
  · cases h
theorem xs_laload (cx : CX w p s m args c cc n own) (eo : EnvOk w b p l e R s m args below meth c Q cc n own E) (h : xI E .laload st = some st') (hd : decode cc pc = .ok (.laload, 1)) (k : Kn w b p l e R s m args below meth c Q n cs ss (pc + 1) st') : Kn w b p l e R s m args below meth c Q n cs ss pc st := by
  obtain ⟨L, S, g⟩ := st
  simp only [xI] at h
  split at h
  · split at h
    · rename_i hM
      split at h
      · rename_i hi
        cases h
        obtain ⟨h1, h2⟩ := zix_in hi
        subst h2
        exact fun hn H locs ls hL hG hS => va_lald cx.hx cx.hb cx.kk.1 (hG.one hM) 0 1 rfl rfl h1 hd (k hn H locs ls hL hG hS)
      · cases h
    · cases h
  · cases h
theorem xs_aaload (cx : CX w p s m args c cc n own) (eo : EnvOk w b p l e R s m args below meth c Q cc n own E) (h : xI E .aaload st = some st') (hd : decode cc pc = .ok (.aaload, 1)) (k : Kn w b p l e R s m args below meth c Q n cs ss (pc + 1) st') : Kn w b p l e R s m args below meth c Q n cs ss pc st := by
  obtain ⟨L, S, g⟩ := st
  simp only [xI] at h
  split at h
  · split at h
    · rename_i f hM
      split at h
      · rename_i j hi
        obtain ⟨h1, h2⟩ := zix_in hi
        subst h2
        split at h
        · rename_i q hq
          cases h
          exact fun hn H locs ls hL hG hS => va_aldq cx.hx cx.hb cx.kk.1 (hG.one hM) 0 2 rfl rfl h1 hd (by dsimp only; rw [hq]; exact k hn H locs ls hL hG hS)
        · rename_i hq
          cases h
          exact fun hn H locs ls hL hG hS => va_aldq cx.hx cx.hb cx.kk.1 (hG.one hM) 0 2 rfl rfl h1 hd (by dsimp only; rw [hq]; exact k hn H locs ls hL hG hS)
      · cases h
    · cases h
  · cases h
theorem xs_iastore (cx : CX w p s m args c cc n own) (eo : EnvOk w b p l e R s m args below meth c Q cc n own E) (h : xI E .iastore st = some st') (hd : decode cc pc = .ok (.iastore, 1)) (k : Kn w b p l e R s m args below meth c Q n cs ss (pc + 1) st') : Kn w b p l e R s m args below meth c Q n cs ss pc st := by
  obtain ⟨L, S, g⟩ := st
  simp only [xI] at h
  split at h
  · rename_i x i a S
    split at h
    · rename_i N f hM
      split at h
      · rename_i j hi
        cases h
        obtain ⟨h1, h2⟩ := zix_in hi
        subst h2
        intro hn H locs ls hL hG hS
        obtain ⟨h4, hat⟩ := hG.1 _ _ hM
        refine W.iast cx.hx cx.hb hat ((cx.kk.1.2 0 _ rfl).1 N (fun j => .int (f j))) (fun q => by cases q) (by show ¬ (i < 0 ∨ (arrV _ _ _).slots.size ≤ _); rw [arrV_size]; exact h1) rfl rfl hd fun H1 e1 z1 o1 => ?_
        refine k hn H1 _ ls hL (hG.put hM z1 o1 ?_) (hS.put' z1 o1 h4)
        show H1[zad w a]? = some (arrV (w.2.2.2.1 0) N (fun j => .int (upd f i.toNatClampNeg x j)))
        rw [e1]
        refine congrArg some ((arrV_store _ _ _ _ _).trans (congrArg (arrV _ _) ?_))
        funext q
        by_cases hq : q = i.toNatClampNeg
        · subst hq; simp [updV, upd]
        · simp [updV, upd, hq]
      · cases h
    · cases h
  · cases h
theorem xs_lastore (cx : CX w p s m args c cc n own) (eo : EnvOk w b p l e R s m args below meth c Q cc n own E) (h : xI E .lastore st = some st') (hd : decode cc pc = .ok (.lastore, 1)) (k : Kn w b p l e R s m args below meth c Q n cs ss (pc + 1) st') : Kn w b p l e R s m args below meth c Q n cs ss pc st := by
  obtain ⟨L, S, g⟩ := st
  simp only [xI] at h
  split at h
  · rename_i x i a S
    split at h
    · rename_i N f hM
      split at h
      · rename_i j hi
        cases h
        obtain ⟨h1, h2⟩ := zix_in hi
        subst h2
        intro hn H locs ls hL hG hS
        obtain ⟨h4, hat⟩ := hG.1 _ _ hM
        refine W.last cx.hx cx.hb hat ((cx.kk.1.2 1 _ rfl).1 N (fun j => .long (f j))) (fun q => by cases q) (by show ¬ (i < 0 ∨ (arrV _ _ _).slots.size ≤ _); rw [arrV_size]; exact h1) rfl rfl hd fun H1 e1 z1 o1 => ?_
        refine k hn H1 _ ls hL (hG.put hM z1 o1 ?_) (hS.put' z1 o1 h4)
        show H1[zad w a]? = some (arrV (w.2.2.2.1 1) N (fun j => .long (vp_updL f i.toNatClampNeg x j)))
        rw [e1]
        refine congrArg some ((arrV_store _ _ _ _ _).trans (congrArg (arrV _ _) ?_))
        funext q
        by_cases hq : q = i.toNatClampNeg
        · subst hq; simp [updV, vp_updL]
        · simp [updV, vp_updL, hq]
      · cases h
    · cases h
  · cases h
theorem xs_aastore (cx : CX w p s m args c cc n own) (eo : EnvOk w b p l e R s m args below meth c Q cc n own E) (h : xI E .aastore st = some st') (hd : decode cc pc = .ok (.aastore, 1)) (k : Kn w b p l e R s m args below meth c Q n cs ss (pc + 1) st') : Kn w b p l e R s m args below meth c Q n cs ss pc st := by
  obtain ⟨L, S, g⟩ := st
  simp only [xI] at h
  split at h
  · rename_i v i a S
    split at h
    · rename_i N f hM
      split at h
      · rename_i j hi
        split at h
        · rename_i vs hV
          cases h
          obtain ⟨h1, h2⟩ := zix_in hi
          subst h2
          intro hn H locs ls hL hG hS
          obtain ⟨h4, hat⟩ := hG.1 _ _ hM
          obtain ⟨r', hr', cellV, g1, g2, g3, -⟩ := (hG.1 _ _ hV).2
          have hcls := (cx.kk.1.1 2 _ rfl).2
          obtain ⟨kA, comp, k1, k2, k3, -⟩ := (cx.kk.1.2 2 _ rfl).2
          have hcomp : comp = w.2.2.1.1 2 := Option.some.inj (k3.symm.trans hcls.1)
          subst hcomp
          obtain ⟨kC, hkC, -⟩ := hcls.2
          have hlt : i.toNatClampNeg < N := Nat.not_le.mp fun q => h1 (Or.inr q)
          have h0 : ¬ i < 0 := fun q => h1 (Or.inl q)
          refine W.aast cx.hx cx.hb hat (fun q h => by cases h) (fun h => by cases h) k1 k2 rfl hkC ⟨h0, by show _ < (arrV _ _ _).slots.size; rw [arrV_size]; exact hlt⟩ g1 (fun q h => by rw [g3] at h; cases h) (by rw [g2]; exact hkC) (by rw [g2]; exact va_assign hcls) rfl rfl hd fun H1 e1 z1 o1 => ?_
          refine k hn H1 _ ls hL (hG.put hM z1 o1 ?_) (hS.put' z1 o1 h4)
          show H1[zad w a]? = some (arrV (w.2.2.2.1 2) N (fun j => va_rf ((va_up f i.toNatClampNeg (some v) j).map (zad w))))
          rw [e1]
          refine congrArg some ((arrV_store _ _ _ _ _).trans (congrArg (arrV _ _) ?_))
          funext q
          by_cases hq : q = i.toNatClampNeg
          · subst hq; simp [updV, va_up, va_rf]
          · simp [updV, va_up, hq]
        · cases h
      · cases h
    · cases h
  · cases h
theorem xs_putfield {k0 : Nat} (cx : CX w p s m args c cc n own) (eo : EnvOk w b p l e R s m args below meth c Q cc n own E) (h : xI E (.putfield k0) st = some st') (hd : decode cc pc = .ok (.putfield k0, 3)) (k : Kn w b p l e R s m args below meth c Q n cs ss (pc + 3) st') : Kn w b p l e R s m args below meth c Q n cs ss pc st := by
  obtain ⟨L, S, g⟩ := st
  simp only [xI] at h
  split at h
  · rename_i v a S
    split at h
    · rename_i ci fs hM
      split at h
      · rename_i cj j hf
        split at h
        · rename_i hcj
          obtain ⟨hcj, hfit, hlen, hfin⟩ := hcj
          subst hcj
          cases h
          obtain ⟨⟨C, T, N⟩, hr, h7, hj, hC, hlink⟩ := zfok_spec (eo.2.1 _ (lookN_mem hf))
          dsimp only at hr h7 hj hC hlink
          subst hC
          rw [hr] at hfin
          intro hn H locs ls hL hG hS
          obtain ⟨h4, hat⟩ := hG.1 _ _ hM
          have hap := va_apart (own := C) cx.hall (zlay hr h7) (zty ci) (ztyok hr h7) (znmok hr h7) cx.kk.1 hr
          obtain ⟨r, h1, cell, q1, q2, q3, q4⟩ := hat
          have hrr : r = (C, T, N) := Option.some.inj (h1.symm.trans hr)
          subst hrr
          obtain ⟨hSl, hfc, kC, hkC, hkind⟩ := cx.kk.1.1 ci _ hr
          obtain ⟨cf, kf, fi, f, hi, hsl⟩ := hSl j hj
          have hlay := cx.hall _ (zlay hr h7 _ (u_in_lay hj))
          have hst := (u_facts hfc hkC (u_lays cx.hall (zlay hr h7) hj) hi).1
          obtain ⟨z1, z2⟩ := zfit_ok (w := w) hfit
          have hdc : (T j).1 = C := zdcok hr h7 j hj
          have hi' : s.fieldFound? C (T j).2.1 (T j).2.2.1 = some (cf, kf, fi, f) := by have hi2 := hi; dsimp only at hi2; rw [hdc] at hi2; exact hi2
          have hend : ∀ (H1 : Heap), H1[zad w a]? = some (cell.setSlot f.slot (ztv w v)) → H1.size = H.size → (∀ q : Nat, q ≠ zad w a → H1[q]? = H[q]?) → W p l e R s m args below meth c H1 (locs ++ [⟨zad w a, f.slot⟩]) cs ss Q (F0 m (pc + 3) ls (S.map (ztv w))) := by
            intro H1 e1 e2 e3
            rw [hsl] at e1
            refine k hn H1 _ ls hL (hG.put hM e2 e3 ?_) (hS.put' e2 e3 h4)
            refine ⟨_, hr, t_OB.to (V := updV (vp_V (fs.map (ztv w))) j (ztv w v)) ⟨_, e1, q2, q3, t_set q4 hap hj _⟩ (fun i _ => ?_)⟩
            rw [vp_updV_set (by simpa using hlen), List.map_set]
          unfold u_lay at hlay
          by_cases hF : (T j).2.2.2 = true
          · rw [if_pos hF] at hlay
            have hI : eI E = true := by
              rcases hfin with h0 | h0
              · exact absurd hF (by rw [show (T j).2.2.2 = false from h0]; decide)
              · exact h0
            have hcf : m.cls = cf := by
              obtain ⟨_, _, c', _, _, _, -, -, hf', -, -, -, hown2, -⟩ := Cond.laysFinal_spec hlay
              have e1 : c' = cf := by have := hi.symm.trans hf'; simp at this; exact this.1.symm
              rw [hdc] at hown2
              rw [← e1]; exact Option.some.inj (cx.hown.symm.trans hown2)
            have h6 := u_fits hfc hkC hkind (Or.inr hlay) hi (ztyok hr h7 j hj) z1 z2
            exact W.putFinK cx.hx cx.hb cx.hown (cx.hts hlink rfl) hi' hst hcf (eo.2.2.2.2.2.1 hI) (by rw [q2]; exact h6) q1 q3 (by rw [hsl]; exact k2_hasslot (q4 j hj)) rfl rfl hd hend
          · rw [if_neg hF] at hlay
            have h6 := u_store hfc hkC hkind hlay hi (ztyok hr h7 j hj) z1 z2
            exact W.putK cx.hx cx.hb (f := f) ⟨cx.hown, cx.hts hlink rfl, ⟨_, _, _, hi'⟩, hst⟩ (by rw [q2]; exact h6) q1 q3 (by rw [hsl]; exact k2_hasslot (q4 j hj)) rfl rfl hd hend
        · cases h
      · cases h
    · cases h
  · cases h
theorem xs_call {i0 : Instr} (eo : EnvOk w b p l e R s m args below meth c Q cc n own E) (hR : cs ≤ R.cells ∧ ss ≤ R.slots) (h : (match lookI (eC E) i0 with
    | some (n, f) => match popN n [] S with
      | some (vs, S) => if wsum S ≤ 8 then match f vs g with
          | some (.inl o, g) => some (L, o.toList ++ S, g)
          | _ => none
        else none
      | none => none
    | none => none) = some st') (hd : decode cc pc = .ok (i0, 3)) (k : Kn w b p l e R s m args below meth c Q n cs ss (pc + 3) st') : Kn w b p l e R s m args below meth c Q n cs ss pc (L, S, g) := by
  split at h
  · rename_i nn f hf
    split at h
    · rename_i vs S' hp
      split at h
      · rename_i h8
        split at h
        · rename_i o g' hx
          cases h
          obtain ⟨us, e1, e2, e3⟩ := popN_spec hp
          rw [List.append_nil] at e1
          subst e1
          rw [e3]
          exact eo.2.2.2.2.2.2 _ (lookI_mem hf) cs ss pc L S' vs g g' o hR.1 hR.2 hd e2 h8 hx k
        · cases h
      · cases h
    · cases h
  · cases h
end
end
section
/-! ===== blocks, conditions, branches, loops, switches, ends ===== -/
def ilen : Instr → Nat
  | .iload _ => 2
  | .aload _ => 2
  | .lload _ => 2
  | .dload _ => 2
  | .istore _ => 2
  | .astore _ => 2
  | .lstore _ => 2
  | .dstore _ => 2
  | .bipush _ => 2
  | .sipush _ => 3
  | .ldc2_w _ => 3
  | .iinc _ _ => 3
  | .getfield _ => 3
  | .putfield _ => 3
  | .getstatic _ => 3
  | .invokevirtual _ => 3
  | .invokespecial _ => 3
  | .invokestatic _ => 3
  | _ => 1
def zck (cc : ByteArray) : Nat → List Instr → Option Nat
  | pc, [] => some pc
  | pc, i :: r => if decode cc pc = .ok (i, ilen i) then zck cc (pc + ilen i) r else none
/-- how a piece of code goes on: nm: to its end; bk, ct: to the end, or the head, of the loop round it; fn: the method is left -/
abbrev Res : Type := Option (St ⊕ (St ⊕ (St ⊕ (Out × G))))
abbrev nm (st : St) : Res := some (.inl st)
abbrev bk (st : St) : Res := some (.inr (.inl st))
abbrev ct (st : St) : Res := some (.inr (.inr (.inl st)))
abbrev fn (o : Out) (g : G) : Res := some (.inr (.inr (.inr (o, g))))
abbrev Dn : Type := St → Res
abbrev Cn : Type := St → Option (Bool × St)
def blk (E : Env) (is : List Instr) : Dn := fun st => match runI E is st with
  | some st => nm st
  | none => none
def sq (a b : Dn) : Dn := fun st => match a st with
  | some (.inl st) => b st
  | some (.inr x) => some (.inr x)
  | none => none
def brk : Dn := fun st => bk st
def cnt : Dn := fun st => ct st
/-- the operands of a conditional jump: is it taken -/
def zcj (i : Instr) (S : List Value) : Option (Bool × List Value) := match i, S with
  | .if_icmp .eq _, .int y :: .int x :: S => some (decide (x = y), S)
  | .if_icmp .ne _, .int y :: .int x :: S => some (decide (¬ x = y), S)
  | .if_icmp .lt _, .int y :: .int x :: S => some (decide (x < y), S)
  | .if_icmp .ge _, .int y :: .int x :: S => some (decide (y ≤ x), S)
  | .if_icmp .gt _, .int y :: .int x :: S => some (decide (y < x), S)
  | .if_icmp .le _, .int y :: .int x :: S => some (decide (x ≤ y), S)
  | .ifCond .eq _, .int x :: S => some (decide (x = 0), S)
  | .ifCond .ne _, .int x :: S => some (decide (¬ x = 0), S)
  | .ifCond .lt _, .int x :: S => some (decide (x < 0), S)
  | .ifCond .ge _, .int x :: S => some (decide (0 ≤ x), S)
  | .ifCond .gt _, .int x :: S => some (decide (0 < x), S)
  | .ifCond .le _, .int x :: S => some (decide (x ≤ 0), S)
  | .ifnull _, .ref _ :: S => some (false, S)
  | .ifnull _, .null :: S => some (true, S)
  | _, _ => none
def zoff (i : Instr) : Int := match i with
  | .if_icmp _ o => o
  | .ifCond _ o => o
  | .ifnull o => o
  | .goto o => o
  | _ => 0
def cat (E : Env) (is : List Instr) (j : Instr) : Cn := fun st => match runI E is st with
  | some (L, S, g) => match zcj j S with
    | some (t, S) => some (t, L, S, g)
    | none => none
  | none => none
def cno (c : Cn) : Cn := fun st => match c st with
  | some (t, st) => some (!t, st)
  | none => none
def can (a b : Cn) : Cn := fun st => match a st with
  | some (true, st) => b st
  | some (false, st) => some (false, st)
  | none => none
def cor (a b : Cn) : Cn := fun st => match a st with
  | some (true, st) => some (true, st)
  | some (false, st) => b st
  | none => none
/-- forgetting locals ahead of a condition -/
def cfo (is : List Nat) (c : Cn) : Cn := fun st => c (zforget st.1 is, st.2)
def ite' (c : Cn) (a b : Dn) : Dn := fun st => match c st with
  | some (true, st) => a st
  | some (false, st) => b st
  | none => none
def lop (c : Cn) (body upd : Dn) : Nat → Dn
  | 0 => fun _ => none
  | N + 1 => fun st => match c st with
    | some (false, st) => nm st
    | some (true, st) => match body st with
      | some (.inl st) => match upd st with
        | some (.inl st) => lop c body upd N st
        | _ => none
      | some (.inr (.inl st)) => nm st
      | some (.inr (.inr (.inl st))) => match upd st with
        | some (.inl st) => lop c body upd N st
        | _ => none
      | some (.inr (.inr (.inr x))) => some (.inr (.inr (.inr x)))
      | none => none
    | none => none
/-- a switch: the first case of that number, or the default -/
def swg (x : Int32) : List (Int32 × Dn) → Dn → Dn
  | [], d => d
  | (k, a) :: r, d => if x = k then a else swg x r d
def swi (E : Env) (is : List Instr) (cs : List (Int32 × Dn)) (d : Dn) : Dn := fun st => match runI E is st with
  | some (L, .int x :: S, g) => swg x cs d (L, S, g)
  | _ => none
/-- the ends -/
def rti (E : Env) (is : List Instr) : Dn := fun st => match runI E is st with
  | some (_, [.int x], g) => fn (.inl (some (.int x))) g
  | _ => none
def rtz (E : Env) (is : List Instr) : Dn := fun st => match runI E is st with
  | some (_, [.int x], g) => if x = 0 ∨ x = 1 then fn (.inl (some (.int x))) g else none
  | _ => none
def rtl (E : Env) (is : List Instr) : Dn := fun st => match runI E is st with
  | some (_, [.long x], g) => fn (.inl (some (.long x))) g
  | _ => none
def rtd (E : Env) (is : List Instr) : Dn := fun st => match runI E is st with
  | some (_, [.double x], g) => fn (.inl (some (.double x))) g
  | _ => none
def rta (E : Env) (is : List Instr) : Dn := fun st => match runI E is st with
  | some (_, [.ref x], g) => fn (.inl (some (.ref x))) g
  | some (_, [.null], g) => fn (.inl (some .null)) g
  | _ => none
def rtv (E : Env) (is : List Instr) : Dn := fun st => match runI E is st with
  | some (_, [], g) => fn (.inl none) g
  | _ => none
/-- the locals at the entry -/
def zsl : List Value → List (Option Value)
  | [] => []
  | .long x :: r => some (.long x) :: none :: zsl r
  | .double x :: r => some (.double x) :: none :: zsl r
  | v :: r => some v :: zsl r
def zpad (n : Nat) (l : List (Option Value)) : List (Option Value) := l ++ List.replicate (n - l.length) none
/-- what a method does -/
def exm (n : Nat) (d : Dn) : Ex := fun vs g => if (zsl vs).length ≤ n then match d (zpad n (zsl vs), [], g) with
    | some (.inr (.inr (.inr x))) => some x
    | _ => none
  else none
section
variable {w : Wd} {b : Bool} {p : Program} {l : Launch} {e : Jvm.Env} {R : Room} {s : State} {m : MethodId} {args : Array Value} {below : List Frame} {meth : Method} {c : Code} {Q : State → Prop} {cc : ByteArray} {n cs ss pc : Nat} {own : String} {E : Env}
variable {L : List (Option Value)} {S : List Value} {g : G} {st st' : St}
theorem xI_sound {i : Instr} (cx : CX w p s m args c cc n own) (eo : EnvOk w b p l e R s m args below meth c Q cc n own E) (hR : cs ≤ R.cells ∧ ss ≤ R.slots) (h : xI E i st = some st') (hd : decode cc pc = .ok (i, ilen i)) (k : Kn w b p l e R s m args below meth c Q n cs ss (pc + ilen i) st') : Kn w b p l e R s m args below meth c Q n cs ss pc st := by
  cases i
  case iload_n => exact xs_iload_n cx eo h hd k
  case iload => exact xs_iload cx eo h hd k
  case aload_n => exact xs_aload_n cx eo h hd k
  case aload => exact xs_aload cx eo h hd k
  case lload_n => exact xs_lload_n cx eo h hd k
  case lload => exact xs_lload cx eo h hd k
  case dload_n => exact xs_dload_n cx eo h hd k
  case dload => exact xs_dload cx eo h hd k
  case iconst => exact xs_iconst cx eo h hd k
  case bipush => exact xs_bipush cx eo h hd k
  case sipush => exact xs_sipush cx eo h hd k
  case lconst => exact xs_lconst cx eo h hd k
  case dconst => exact xs_dconst cx eo h hd k
  case ldc2_w => exact xs_ldc2 cx eo h hd k
  case istore_n => exact xs_istore_n cx eo h hd k
  case istore => exact xs_istore cx eo h hd k
  case astore_n => exact xs_astore_n cx eo h hd k
  case astore => exact xs_astore cx eo h hd k
  case lstore_n => exact xs_lstore_n cx eo h hd k
  case lstore => exact xs_lstore cx eo h hd k
  case dstore_n => exact xs_dstore_n cx eo h hd k
  case dstore => exact xs_dstore cx eo h hd k
  case iinc => exact xs_iinc cx eo h hd k
  case iadd => exact xs_iadd cx eo h hd k
  case isub => exact xs_isub cx eo h hd k
  case imul => exact xs_imul cx eo h hd k
  case idiv => exact xs_idiv cx eo h hd k
  case irem => exact xs_irem cx eo h hd k
  case iand => exact xs_iand cx eo h hd k
  case ladd => exact xs_ladd cx eo h hd k
  case lsub => exact xs_lsub cx eo h hd k
  case lmul => exact xs_lmul cx eo h hd k
  case lshl => exact xs_lshl cx eo h hd k
  case i2l => exact xs_i2l cx eo h hd k
  case i2d => exact xs_i2d cx eo h hd k
  case d2l => exact xs_d2l cx eo h hd k
  case dmul => exact xs_dmul cx eo h hd k
  case ddiv => exact xs_ddiv cx eo h hd k
  case dsub => exact xs_dsub cx eo h hd k
  case lcmp => exact xs_lcmp cx eo h hd k
  case dcmp => exact xs_dcmp cx eo h hd k
  case dup => exact xs_dup cx eo h hd k
  case dup2 => exact xs_dup2 cx eo h hd k
  case pop => exact xs_pop cx eo h hd k
  case aconst_null => exact xs_aconst_null cx eo h hd k
  case arraylength => exact xs_arraylength cx eo h hd k
  case iaload => exact xs_iaload cx eo h hd k
  case iastore => exact xs_iastore cx eo h hd k
  case laload => exact xs_laload cx eo h hd k
  case lastore => exact xs_lastore cx eo h hd k
  case aaload => exact xs_aaload cx eo h hd k
  case aastore => exact xs_aastore cx eo h hd k
  case getfield => exact xs_getfield cx eo h hd k
  case putfield => exact xs_putfield cx eo h hd k
  case getstatic => exact xs_getstatic cx eo h hd k
  case invokevirtual => obtain ⟨L, S, g⟩ := st; exact xs_call eo hR h hd k
  case invokespecial => obtain ⟨L, S, g⟩ := st; exact xs_call eo hR h hd k
  case invokestatic => obtain ⟨L, S, g⟩ := st; exact xs_call eo hR h hd k
  all_goals (obtain ⟨L, S, g⟩ := st; cases (show (none : Option St) = some st' from h))
theorem run_sound (cx : CX w p s m args c cc n own) (eo : EnvOk w b p l e R s m args below meth c Q cc n own E) (hR : cs ≤ R.cells ∧ ss ≤ R.slots) : ∀ (is : List Instr) {pc pe : Nat} {st st' : St}, zck cc pc is = some pe → runI E is st = some st' → Kn w b p l e R s m args below meth c Q n cs ss pe st' → Kn w b p l e R s m args below meth c Q n cs ss pc st
  | [], pc, pe, st, st', hz, hr, k => by
    cases hz; cases hr; exact k
  | i :: r, pc, pe, st, st', hz, hr, k => by
    unfold zck at hz
    split at hz
    · rename_i hd
      unfold runI at hr
      split at hr
      · rename_i st1 h1
        exact xI_sound cx eo hR h1 hd (run_sound cx eo hR r hz hr k)
      · cases hr
    · cases hz
end
end
section
/-! ===== the soundness of the combinators, over any goal at places ===== -/
abbrev Kp : Type := Nat → Nat → Nat → St → Prop
def Sn (K : Kp) (F : Out → G → Prop) (kb kc : St → Prop) (c0 s0 pc : Nat) (d : Dn) (c1 s1 pe : Nat) : Prop := ∀ st, match d st with
  | some (.inl st') => K c1 s1 pe st' → K c0 s0 pc st
  | some (.inr (.inl st')) => kb st' → K c0 s0 pc st
  | some (.inr (.inr (.inl st'))) => kc st' → K c0 s0 pc st
  | some (.inr (.inr (.inr x))) => F x.1 x.2 → K c0 s0 pc st
  | none => True
def Sc (K : Kp) (c s pc : Nat) (d : Cn) (pt pf : Nat) : Prop := ∀ st, match d st with
  | some (true, st') => K c s pt st' → K c s pc st
  | some (false, st') => K c s pf st' → K c s pc st
  | none => True
section
variable {K : Kp} {F : Out → G → Prop} {kb kc : St → Prop} {c0 s0 c1 s1 c2 s2 c s pc pe pm pt pf pu px p2 : Nat}
theorem sn_blk {E : Env} {is : List Instr} (h : ∀ st st', runI E is st = some st' → K c s pe st' → K c s pc st) : Sn K F kb kc c s pc (blk E is) c s pe := by
  intro st
  unfold blk
  cases hr : runI E is st with
  | none => trivial
  | some st' => exact h st st' hr
theorem sn_sq {a b : Dn} (ha : Sn K F kb kc c0 s0 pc a c1 s1 pm) (hb : Sn K F kb kc c1 s1 pm b c2 s2 pe) : Sn K F kb kc c0 s0 pc (sq a b) c2 s2 pe := by
  intro st
  have h1 := ha st
  unfold sq
  cases hr : a st with
  | none => trivial
  | some r =>
    rw [hr] at h1
    rcases r with st' | st' | st' | x
    · dsimp only at h1 ⊢
      have h2 := hb st'
      cases hr2 : b st' with
      | none => trivial
      | some r2 =>
        rw [hr2] at h2
        rcases r2 with st2 | st2 | st2 | x2
        · exact fun k => h1 (h2 k)
        · exact fun k => h1 (h2 k)
        · exact fun k => h1 (h2 k)
        · exact fun k => h1 (h2 k)
    · exact h1
    · exact h1
    · exact h1
theorem sn_goto {d : Dn} (h : Sn K F kb kc c0 s0 pc d c1 s1 pm) (hg : ∀ st, K c1 s1 pe st → K c1 s1 pm st) : Sn K F kb kc c0 s0 pc d c1 s1 pe := by
  intro st
  have h1 := h st
  cases hr : d st with
  | none => trivial
  | some r =>
    rw [hr] at h1
    rcases r with st' | st' | st' | x
    · exact fun k => h1 (hg _ k)
    · exact h1
    · exact h1
    · exact h1
/-- code whose end isn't reached may be said to end anywhere -/
theorem sn_end {d : Dn} (h : Sn K F kb kc c0 s0 pc d c1 s1 pm) (hn : ∀ st st', d st ≠ some (.inl st')) : Sn K F kb kc c0 s0 pc d c2 s2 pe := by
  intro st
  have h1 := h st
  cases hr : d st with
  | none => trivial
  | some r =>
    rw [hr] at h1
    rcases r with st' | st' | st' | x
    · exact absurd hr (hn st st')
    · exact h1
    · exact h1
    · exact h1
theorem sn_brk (hg : ∀ st, kb st → K c s pc st) : Sn K F kb kc c s pc brk c1 s1 pe := fun st => hg st
theorem sn_cnt (hg : ∀ st, kc st → K c s pc st) : Sn K F kb kc c s pc cnt c1 s1 pe := fun st => hg st
theorem sc_no {d : Cn} (h : Sc K c s pc d pt pf) : Sc K c s pc (cno d) pf pt := by
  intro st
  have h1 := h st
  unfold cno
  cases hr : d st with
  | none => trivial
  | some r =>
    obtain ⟨t, st'⟩ := r
    rw [hr] at h1
    cases t <;> exact h1
theorem sc_an {a b : Cn} (ha : Sc K c s pc a pm pf) (hb : Sc K c s pm b pt pf) : Sc K c s pc (can a b) pt pf := by
  intro st
  have h1 := ha st
  unfold can
  cases hr : a st with
  | none => trivial
  | some r =>
    obtain ⟨t, st'⟩ := r
    rw [hr] at h1
    cases t with
    | false => exact h1
    | true =>
      dsimp only at h1 ⊢
      have h2 := hb st'
      cases hr2 : b st' with
      | none => trivial
      | some r2 =>
        obtain ⟨t2, st2⟩ := r2
        rw [hr2] at h2
        cases t2 <;> exact fun k => h1 (h2 k)
theorem sc_or {a b : Cn} (ha : Sc K c s pc a pt pm) (hb : Sc K c s pm b pt pf) : Sc K c s pc (cor a b) pt pf := by
  intro st
  have h1 := ha st
  unfold cor
  cases hr : a st with
  | none => trivial
  | some r =>
    obtain ⟨t, st'⟩ := r
    rw [hr] at h1
    cases t with
    | true => exact h1
    | false =>
      dsimp only at h1 ⊢
      have h2 := hb st'
      cases hr2 : b st' with
      | none => trivial
      | some r2 =>
        obtain ⟨t2, st2⟩ := r2
        rw [hr2] at h2
        cases t2 <;> exact fun k => h1 (h2 k)
theorem sc_fo {is : List Nat} {d : Cn} (hf : ∀ st, K c s pc (zforget st.1 is, st.2) → K c s pc st) (h : Sc K c s pc d pt pf) : Sc K c s pc (cfo is d) pt pf := by
  intro st
  have h1 := h (zforget st.1 is, st.2)
  unfold cfo
  cases hr : d (zforget st.1 is, st.2) with
  | none => trivial
  | some r =>
    obtain ⟨t, st'⟩ := r
    rw [hr] at h1
    cases t <;> exact fun k => hf _ (h1 k)
theorem sn_ite {d : Cn} {a b : Dn} (hc : Sc K c0 s0 pc d pt pf) (ha : Sn K F kb kc c0 s0 pt a c1 s1 pe) (hb : Sn K F kb kc c0 s0 pf b c1 s1 pe) : Sn K F kb kc c0 s0 pc (ite' d a b) c1 s1 pe := by
  intro st
  have h1 := hc st
  unfold ite'
  cases hr : d st with
  | none => trivial
  | some r =>
    obtain ⟨t, st'⟩ := r
    rw [hr] at h1
    cases t with
    | true =>
      dsimp only at h1 ⊢
      have h2 := ha st'
      cases hr2 : a st' with
      | none => trivial
      | some r2 =>
        rw [hr2] at h2
        rcases r2 with st2 | st2 | st2 | x2
        · exact fun k => h1 (h2 k)
        · exact fun k => h1 (h2 k)
        · exact fun k => h1 (h2 k)
        · exact fun k => h1 (h2 k)
    | false =>
      dsimp only at h1 ⊢
      have h2 := hb st'
      cases hr2 : b st' with
      | none => trivial
      | some r2 =>
        rw [hr2] at h2
        rcases r2 with st2 | st2 | st2 | x2
        · exact fun k => h1 (h2 k)
        · exact fun k => h1 (h2 k)
        · exact fun k => h1 (h2 k)
        · exact fun k => h1 (h2 k)
theorem sn_lop {d : Cn} {body upd : Dn} {kb2 kc2 : St → Prop} (hc : Sc K c s pc d pt px) (hb : Sn K F (K c s px) (K c s pu) c s pt body c s pu) (hu : Sn K F kb2 kc2 c s pu upd c s p2) (hg : ∀ st, K c s pc st → K c s p2 st) : ∀ N, Sn K F kb kc c s pc (lop d body upd N) c s px
  | 0 => fun st => trivial
  | N + 1 => by
    have ih := sn_lop hc hb hu hg N
    intro st
    have h1 := hc st
    unfold lop
    cases hr : d st with
    | none => trivial
    | some r =>
      obtain ⟨t, st'⟩ := r
      rw [hr] at h1
      cases t with
      | false => exact h1
      | true =>
        dsimp only at h1 ⊢
        have h2 := hb st'
        cases hr2 : body st' with
        | none => trivial
        | some r2 =>
          rw [hr2] at h2
          rcases r2 with st2 | st2 | st2 | x2
          · dsimp only at h2 ⊢
            have h3 := hu st2
            cases hr3 : upd st2 with
            | none => trivial
            | some r3 =>
              rw [hr3] at h3
              rcases r3 with st3 | st3 | st3 | x3
              · dsimp only at h3 ⊢
                have h4 := ih st3
                cases hr4 : lop d body upd N st3 with
                | none => trivial
                | some r4 =>
                  rw [hr4] at h4
                  rcases r4 with st4 | st4 | st4 | x4
                  · exact fun k => h1 (h2 (h3 (hg _ (h4 k))))
                  · exact fun k => h1 (h2 (h3 (hg _ (h4 k))))
                  · exact fun k => h1 (h2 (h3 (hg _ (h4 k))))
                  · exact fun k => h1 (h2 (h3 (hg _ (h4 k))))
              · trivial
              · trivial
              · trivial
          · exact fun k => h1 (h2 k)
          · dsimp only at h2 ⊢
            have h3 := hu st2
            cases hr3 : upd st2 with
            | none => trivial
            | some r3 =>
              rw [hr3] at h3
              rcases r3 with st3 | st3 | st3 | x3
              · dsimp only at h3 ⊢
                have h4 := ih st3
                cases hr4 : lop d body upd N st3 with
                | none => trivial
                | some r4 =>
                  rw [hr4] at h4
                  rcases r4 with st4 | st4 | st4 | x4
                  · exact fun k => h1 (h2 (h3 (hg _ (h4 k))))
                  · exact fun k => h1 (h2 (h3 (hg _ (h4 k))))
                  · exact fun k => h1 (h2 (h3 (hg _ (h4 k))))
                  · exact fun k => h1 (h2 (h3 (hg _ (h4 k))))
              · trivial
              · trivial
              · trivial
          · exact fun k => h1 (h2 k)
/-- a switch, case by case -/
def SwOk (K : Kp) (F : Out → G → Prop) (kb kc : St → Prop) (c0 s0 c1 s1 pe : Nat) (tgt : Int32 → Nat) (x : Int32) : List (Int32 × Dn) → Dn → Prop
  | [], d => Sn K F kb kc c0 s0 (tgt x) d c1 s1 pe
  | (k, a) :: r, d => (x = k → Sn K F kb kc c0 s0 (tgt x) a c1 s1 pe) ∧ (x ≠ k → SwOk K F kb kc c0 s0 c1 s1 pe tgt x r d)
theorem swg_ok {tgt : Int32 → Nat} {x : Int32} : ∀ {cs : List (Int32 × Dn)} {d : Dn}, SwOk K F kb kc c0 s0 c1 s1 pe tgt x cs d → Sn K F kb kc c0 s0 (tgt x) (swg x cs d) c1 s1 pe
  | [], d, h => h
  | (k, a) :: r, d, h => by
    unfold swg
    by_cases hx : x = k
    · rw [if_pos hx]; exact h.1 hx
    · rw [if_neg hx]; exact swg_ok (h.2 hx)
theorem sn_swi {E : Env} {is : List Instr} {cs : List (Int32 × Dn)} {d : Dn} (tgt : Int32 → Nat) (h : ∀ st L x S g, runI E is st = some (L, .int x :: S, g) → K c0 s0 (tgt x) (L, S, g) → K c0 s0 pc st) (hs : ∀ x, SwOk K F kb kc c0 s0 c1 s1 pe tgt x cs d) : Sn K F kb kc c0 s0 pc (swi E is cs d) c1 s1 pe := by
  intro st
  unfold swi
  cases hr : runI E is st with
  | none => trivial
  | some st' =>
    obtain ⟨L, S, g⟩ := st'
    cases S with
    | nil => trivial
    | cons v S =>
      cases v with
      | int x =>
        dsimp only
        have h2 := swg_ok (hs x) (L, S, g)
        cases hr2 : swg x cs d (L, S, g) with
        | none => trivial
        | some r2 =>
          rw [hr2] at h2
          rcases r2 with st2 | st2 | st2 | x2
          · exact fun k => h _ _ _ _ _ hr (h2 k)
          · exact fun k => h _ _ _ _ _ hr (h2 k)
          · exact fun k => h _ _ _ _ _ hr (h2 k)
          · exact fun k => h _ _ _ _ _ hr (h2 k)
      | _ => trivial
end
end
section
/-! ===== methods: contracts out of what their code does; calls ===== -/
abbrev zW : List Cond := lw_tbl.filter goodWord
theorem zW_good : GoodIn zW zW := fun x hx => ⟨hx, good_of_word (List.mem_filter.mp hx).2⟩
abbrev zPc (w : Wd) (vs : List Value) (g : G) : Array Value → State → Prop := va_Pc (vs.map (ztv w)) (fun U => KK w U ∧ RepG w g U.heap)
def zQ (w : Wd) (o : Option Value) (g : G) : Array Value → State → Outcome → State → Prop := fun _ st oc t => (oc = .returned (o.map (ztv w)) ∧ RepG w g t.heap) ∧ va_F (zA w) st t
/-- a method does f -/
def CT (w : Wd) (l : Launch) (y : MethodName) (bytes : ByteArray) (maxL : Nat) (ret : Option FieldType) (rm : Room) (f : Ex) : Prop :=
  ∀ vs g o g', f vs g = some (.inl o, g') → Met l y (Cond.code y bytes maxL ret :: zW) rm (zPc w vs g) (zQ w o g') rm.cells rm.slots (zA w)
/-- a method of an object of class ci -/
def zrv (ci : Nat) (f : Ex) : Ex := fun vs g => match vs with
  | .ref a :: As => match g.1 a with
    | some (.inr (cj, _)) => if cj = ci then f (.ref a :: As) g else none
    | _ => none
  | _ => none
theorem CT.rv {w : Wd} {l : Launch} {y : MethodName} {bytes : ByteArray} {maxL : Nat} {ret : Option FieldType} {rm : Room} {f : Ex} (ci : Nat) (h : CT w l y bytes maxL ret rm f) : CT w l y bytes maxL ret rm (zrv ci f) := by
  intro vs g o g' hf
  unfold zrv at hf
  split at hf
  · split at hf
    · split at hf
      · exact h _ _ _ _ hf
      · cases hf
    · cases hf
  · cases hf
theorem KK.same {w : Wd} {u U : State} (hvm : u.vm = U.vm) (hh : u.heap = U.heap) (h : KK w u) : KK w U :=
  ⟨va_K.moved (by rw [hvm]; exact Vm.Alike.refl _) h.1, fun k a hk => ⟨(h.2.1 k a hk).1, va_T.kept (va_T.moved (by rw [hvm]; exact Vm.Alike.refl _) (h.2.1 k a hk).2) (fun q _ _ => by rw [hh])⟩, fun k hk => va_Z.kept (va_Z.moved (by rw [hvm]; exact Vm.Alike.refl _) (h.2.2.1 k hk)) (fun q _ _ => by rw [hh]), fun x hx => va_Nw.same (by
    simp only [zN, List.mem_cons, List.not_mem_nil, or_false] at hx
    rcases hx with rfl | rfl | rfl | rfl | rfl <;> rfl) hvm (h.2.2.2.1 x hx), h.2.2.2.2.moved (by rw [hvm]; exact Vm.Alike.refl _)⟩
theorem zPc_blind {w : Wd} {vs : List Value} {g : G} : FrameBlind (zPc w vs g) := fun a U gg mk h => ⟨h.1, KK.same (u := U) (U := U.calling gg mk a) rfl rfl h.2.1, h.2.2⟩
theorem zsl_get {w : Wd} : ∀ (vs : List Value) (k i : Nat) (v : Value), (zsl vs)[i]? = some (some v) → (k + i, ztv w v) ∈ lv_args k (vs.map (ztv w))
  | [], k, i, v, h => by cases h
  | u :: r, k, i, v, h => by
    have key1 : u.category ≠ 2 → zsl (u :: r) = some u :: zsl r := fun hc => by cases u <;> first | rfl | exact absurd rfl hc
    have key2 : u.category = 2 → zsl (u :: r) = some u :: none :: zsl r := fun hc => by cases u <;> first | rfl | cases hc
    simp only [List.map_cons, lv_args, ztv_cat]
    by_cases hc : u.category = 2
    · rw [key2 hc] at h
      rw [if_pos hc]
      match i, h with
      | 0, h => cases h; exact List.mem_cons_self
      | 1, h => cases h
      | i + 2, h =>
        refine List.mem_cons_of_mem _ ?_
        have h1 := zsl_get (w := w) r (k + 2) i v h
        rwa [show k + 2 + i = k + (i + 2) by omega] at h1
    · rw [key1 hc] at h
      rw [if_neg hc]
      match i, h with
      | 0, h => cases h; exact List.mem_cons_self
      | i + 1, h =>
        refine List.mem_cons_of_mem _ ?_
        have h1 := zsl_get (w := w) r (k + 1) i v h
        rwa [show k + 1 + i = k + (i + 1) by omega] at h1
theorem zsl_len {w : Wd} : ∀ vs : List Value, (lg_sl (vs.map (ztv w))).length = (zsl vs).length
  | [] => rfl
  | u :: r => by
    have ih := zsl_len (w := w) r
    cases u <;> simp [lg_sl, zsl, ztv, Value.category] at ih ⊢ <;> omega
/-- does no argument take two words -/
def zc1 : List Value → Bool
  | [] => true
  | .long _ :: _ => false
  | .double _ :: _ => false
  | _ :: r => zc1 r
theorem zc1_get : ∀ {vs : List Value} {i : Nat} {v : Value}, zc1 vs = true → (zsl vs)[i]? = some (some v) → v.category = 1
  | [], i, v, _, h => by cases h
  | u :: r, i, v, hc, h => by
    cases u <;> first
      | (cases hc; done)
      | (match i, h with
         | 0, h => (cases h; rfl)
         | i + 1, h => exact zc1_get (vs := r) hc h)
def exb (b : Bool) (n : Nat) (d : Dn) : Ex := fun vs g => match b, zc1 vs with
  | true, false => none
  | _, _ => exm n d vs g
section
variable {w : Wd} {b : Bool} {p : Program} {l : Launch} {e : Jvm.Env} {R : Room} {s : State} {m : MethodId} {args : Array Value} {below : List Frame} {meth : Method} {c : Code} {Q : State → Prop} {cc : ByteArray} {n cs ss pc : Nat} {own : String} {E : Env}
variable {L : List (Option Value)} {S : List Value} {g g' : G} {st st' : St} {o : Option Value} {H : Heap} {locs : List Loc}
theorem zentry {vs : List Value} (hlen : (zsl vs).length ≤ n) (hb : b = true → zc1 vs = true) : LvR w b ((lg_sl (vs.map (ztv w)) ++ List.replicate (n - (lg_sl (vs.map (ztv w))).length) Slot.unset).toArray) (zpad n (zsl vs)) := by
  have h0 := lv_entry (vs.map (ztv w)) (n := n) (by rw [zsl_len]; exact hlen)
  have key : ∀ (i : Nat) (v : Value), (zpad n (zsl vs))[i]? = some (some v) → (zsl vs)[i]? = some (some v) := by
    intro i v hv
    unfold zpad at hv
    by_cases hi : i < (zsl vs).length
    · rwa [List.getElem?_append_left hi] at hv
    · rw [List.getElem?_append_right (by omega), List.getElem?_replicate] at hv
      split at hv <;> cases hv
  refine ⟨h0.2.1, ?_, fun i v hv => ?_, fun hbt i v hv => zc1_get (hb hbt) (key i v hv)⟩
  · rw [h0.1]; simp [zpad]; omega
  · have h1 := zsl_get (w := w) vs 0 i v (key i v hv)
    rw [Nat.zero_add] at h1
    exact h0.2.2 _ h1
abbrev zK (w : Wd) (b : Bool) (p : Program) (l : Launch) (e : Jvm.Env) (R : Room) (s : State) (m : MethodId) (args : Array Value) (below : List Frame) (meth : Method) (c : Code) (Q : State → Prop) (n : Nat) : Kp := Kn w b p l e R s m args below meth c Q n
/-- what is known at a method's entry -/
def MX (w : Wd) (p : Program) (s : State) (m : MethodId) (args : Array Value) (meth : Method) (c : Code) (y : MethodName) (cc : ByteArray) (n : Nat) (ret : Option FieldType) : Prop :=
  CX w p s m args c cc n y.cls ∧ meth.sig.returnType = ret ∧ meth.locks = false ∧ meth.name = y.name
theorem ct_of {y : MethodName} {ret : Option FieldType} {rm : Room} {d : Dn} {pe : Nat} (hy : plainName y.cls = true)
    (body : ∀ (p : Program) (e : Jvm.Env) (s : State) (m : MethodId) (args : Array Value) (below : List Frame) (meth : Method) (c : Code) (o : Option Value) (g' : G), MX w p s m args meth c y cc n ret →
      Sn (zK w b p l e rm s m args below meth c (MQ below (zQ w o g') args s rm.cells rm.slots (zA w)) n) (fun o1 g1 => o1 = .inl o ∧ g1 = g') (fun _ => False) (fun _ => False) 0 0 0 d rm.cells rm.slots pe) : CT w l y cc n ret rm (exb b n d) := by
  intro vs g o g' hf
  have hf2 : exm n d vs g = some (.inl o, g') ∧ (b = true → zc1 vs = true) := by
    unfold exb at hf
    split at hf
    · cases hf
    · rename_i hne
      refine ⟨hf, fun hb => ?_⟩
      cases hz : zc1 vs with
      | true => rfl
      | false => exact absurd hz (hne hb)
  obtain ⟨hf, hb1⟩ := hf2
  unfold exm at hf
  split at hf
  · rename_i hlen
    refine Met.ofW (cc := cc) (maxL := n) (ret := ret) hy rfl ?_
    intro p e s m args below meth c s₁ B hml hv
    obtain ⟨rfl, hK, hG⟩ := hv
    have hts := atoms_spec (ws := Cond.code y cc n ret :: zW) B.pre
    have hown : s.vm.findClass y.cls = some m.cls := findClass_of_methodNamed B.named
    have cx : CX w p s m (vs.map (ztv w)).toArray c cc n y.cls := ⟨B.exec, B.bytes, hml, hown, fun x hx hg => hts x (List.mem_cons_of_mem _ (List.mem_filter.mpr ⟨hx, hg⟩)), hK⟩
    have hsn := body p e s m (vs.map (ztv w)).toArray below meth c o g' ⟨cx, B.returns, B.notSynchronized, (name_of_methodNamed B.named B.method).1⟩ (zpad n (zsl vs), [], g)
    split at hf
    · rename_i x hx
      cases hf
      rw [hx] at hsn
      have k := hsn ⟨rfl, rfl⟩
      rw [lg_entry_eq]
      exact k (by simp [zpad]; omega) s.heap [] _ (zentry hlen hb1) hG va_S.rf
    · cases hf
  · cases hf
-- the ends
abbrev zQok (w : Wd) (p : Program) (l : Launch) (e : Jvm.Env) (R : Room) (s : State) (m : MethodId) (args : Array Value) (below : List Frame) (meth : Method) (c : Code) (Q : State → Prop) (mc ms : Nat) (F : Out → G → Prop) : Prop :=
  ∀ (o1 : Option Value) (g1 : G), F (.inl o1) g1 → ∀ (H : Heap) (locs : List Loc) (g : JFrame), W p l e R s m args below meth c H locs mc ms (MQ below (zQ w o1 g1) args s mc ms (zA w)) g → W p l e R s m args below meth c H locs mc ms Q g
theorem zQok_plain {mc ms : Nat} : zQok w p l e R s m args below meth c (MQ below (zQ w o g') args s mc ms (zA w)) mc ms (fun o1 g1 => o1 = .inl o ∧ g1 = g') := by
  intro o1 g1 hF H locs g k
  obtain ⟨e1, rfl⟩ := hF
  cases e1
  exact k
theorem sn_rti {F : Out → G → Prop} {kb kc : St → Prop} {is : List Instr} {p1 c1 s1 pe mc ms : Nat} (hQ : zQok w p l e R s m args below meth c Q mc ms F)
    (cx : CX w p s m args c cc n own) (hr : meth.sig.returnType = some .int) (hlk : meth.locks = false) (hrun : ∀ st st', runI E is st = some st' → zK w b p l e R s m args below meth c Q n cs ss p1 st' → zK w b p l e R s m args below meth c Q n cs ss pc st) (hd : decode cc p1 = .ok (.ireturn, 1)) (hc : cs ≤ mc) (hs : ss ≤ ms) :
    Sn (zK w b p l e R s m args below meth c Q n) F kb kc cs ss pc (rti E is) c1 s1 pe := by
  have key : ∀ (st : St) (x : Out × G), rti E is st = some (.inr (.inr (.inr x))) → F x.1 x.2 → zK w b p l e R s m args below meth c Q n cs ss pc st := by
    intro st x hx hf
    unfold rti at hx
    split at hx
    · rename_i L1 y g1 hrr
      cases hx
      refine hrun _ _ hrr (fun hn H locs ls hL hG hS => ?_)
      refine W.widen hc hs (hQ _ _ hf H locs _ ?_)
      exact W.iret cx.hx cx.hb hr (fun t ht hW => ⟨⟨rfl, by rw [ht]; exact hG⟩, hS.F ht⟩) hS.2.2 hd
    · cases hx
  intro st
  have k := key st
  cases hr : rti E is st with
  | none => trivial
  | some r =>
    rcases r with r | r | r | x
    · exfalso; unfold rti at hr; split at hr <;> (try split at hr) <;> cases hr
    · exfalso; unfold rti at hr; split at hr <;> (try split at hr) <;> cases hr
    · exfalso; unfold rti at hr; split at hr <;> (try split at hr) <;> cases hr
    · exact k x hr
theorem sn_rtz {F : Out → G → Prop} {kb kc : St → Prop} {is : List Instr} {p1 c1 s1 pe mc ms : Nat} (hQ : zQok w p l e R s m args below meth c Q mc ms F)
    (cx : CX w p s m args c cc n own) (hr : meth.sig.returnType = some .boolean) (hlk : meth.locks = false) (hrun : ∀ st st', runI E is st = some st' → zK w b p l e R s m args below meth c Q n cs ss p1 st' → zK w b p l e R s m args below meth c Q n cs ss pc st) (hd : decode cc p1 = .ok (.ireturn, 1)) (hc : cs ≤ mc) (hs : ss ≤ ms) :
    Sn (zK w b p l e R s m args below meth c Q n) F kb kc cs ss pc (rtz E is) c1 s1 pe := by
  have key : ∀ (st : St) (x : Out × G), rtz E is st = some (.inr (.inr (.inr x))) → F x.1 x.2 → zK w b p l e R s m args below meth c Q n cs ss pc st := by
    intro st x hx hf
    unfold rtz at hx
    split at hx
    · rename_i L1 y g1 hrr
      split at hx
      · rename_i h01
        cases hx
        refine hrun _ _ hrr (fun hn H locs ls hL hG hS => ?_)
        refine W.widen hc hs (hQ _ _ hf H locs _ ?_)
        exact W.zret cx.hx cx.hb hr (by rcases h01 with rfl | rfl <;> rfl) (fun t ht hW => ⟨⟨rfl, by rw [ht]; exact hG⟩, hS.F ht⟩) hS.2.2 hd
      · cases hx
    · cases hx
  intro st
  have k := key st
  cases hr : rtz E is st with
  | none => trivial
  | some r =>
    rcases r with r | r | r | x
    · exfalso; unfold rtz at hr; split at hr <;> (try split at hr) <;> cases hr
    · exfalso; unfold rtz at hr; split at hr <;> (try split at hr) <;> cases hr
    · exfalso; unfold rtz at hr; split at hr <;> (try split at hr) <;> cases hr
    · exact k x hr
theorem sn_rtl {F : Out → G → Prop} {kb kc : St → Prop} {is : List Instr} {p1 c1 s1 pe mc ms : Nat} (hQ : zQok w p l e R s m args below meth c Q mc ms F)
    (cx : CX w p s m args c cc n own) (hr : meth.sig.returnType = some .long) (hlk : meth.locks = false) (hrun : ∀ st st', runI E is st = some st' → zK w b p l e R s m args below meth c Q n cs ss p1 st' → zK w b p l e R s m args below meth c Q n cs ss pc st) (hd : decode cc p1 = .ok (.lreturn, 1)) (hc : cs ≤ mc) (hs : ss ≤ ms) :
    Sn (zK w b p l e R s m args below meth c Q n) F kb kc cs ss pc (rtl E is) c1 s1 pe := by
  have key : ∀ (st : St) (x : Out × G), rtl E is st = some (.inr (.inr (.inr x))) → F x.1 x.2 → zK w b p l e R s m args below meth c Q n cs ss pc st := by
    intro st x hx hf
    unfold rtl at hx
    split at hx
    · rename_i L1 y g1 hrr
      cases hx
      refine hrun _ _ hrr (fun hn H locs ls hL hG hS => ?_)
      refine W.widen hc hs (hQ _ _ hf H locs _ ?_)
      exact W.lret cx.hx cx.hb hr (fun t ht hW => ⟨⟨rfl, by rw [ht]; exact hG⟩, hS.F ht⟩) hS.2.2 hd
    · cases hx
  intro st
  have k := key st
  cases hr : rtl E is st with
  | none => trivial
  | some r =>
    rcases r with r | r | r | x
    · exfalso; unfold rtl at hr; split at hr <;> (try split at hr) <;> cases hr
    · exfalso; unfold rtl at hr; split at hr <;> (try split at hr) <;> cases hr
    · exfalso; unfold rtl at hr; split at hr <;> (try split at hr) <;> cases hr
    · exact k x hr
theorem sn_rtd {F : Out → G → Prop} {kb kc : St → Prop} {is : List Instr} {p1 c1 s1 pe mc ms : Nat} (hQ : zQok w p l e R s m args below meth c Q mc ms F)
    (cx : CX w p s m args c cc n own) (hr : meth.sig.returnType = some .double) (hlk : meth.locks = false) (hrun : ∀ st st', runI E is st = some st' → zK w b p l e R s m args below meth c Q n cs ss p1 st' → zK w b p l e R s m args below meth c Q n cs ss pc st) (hd : decode cc p1 = .ok (.dreturn, 1)) (hc : cs ≤ mc) (hs : ss ≤ ms) :
    Sn (zK w b p l e R s m args below meth c Q n) F kb kc cs ss pc (rtd E is) c1 s1 pe := by
  have key : ∀ (st : St) (x : Out × G), rtd E is st = some (.inr (.inr (.inr x))) → F x.1 x.2 → zK w b p l e R s m args below meth c Q n cs ss pc st := by
    intro st x hx hf
    unfold rtd at hx
    split at hx
    · rename_i L1 y g1 hrr
      cases hx
      refine hrun _ _ hrr (fun hn H locs ls hL hG hS => ?_)
      refine W.widen hc hs (hQ _ _ hf H locs _ ?_)
      exact W.dret cx.hx cx.hb hr (fun t ht hW => ⟨⟨rfl, by rw [ht]; exact hG⟩, hS.F ht⟩) hS.2.2 hd
    · cases hx
  intro st
  have k := key st
  cases hr : rtd E is st with
  | none => trivial
  | some r =>
    rcases r with r | r | r | x
    · exfalso; unfold rtd at hr; split at hr <;> (try split at hr) <;> cases hr
    · exfalso; unfold rtd at hr; split at hr <;> (try split at hr) <;> cases hr
    · exfalso; unfold rtd at hr; split at hr <;> (try split at hr) <;> cases hr
    · exact k x hr
theorem sn_rtv {F : Out → G → Prop} {kb kc : St → Prop} {is : List Instr} {p1 c1 s1 pe mc ms : Nat} (hQ : zQok w p l e R s m args below meth c Q mc ms F)
    (cx : CX w p s m args c cc n own) (hr : meth.sig.returnType = none) (hlk : meth.locks = false) (hrun : ∀ st st', runI E is st = some st' → zK w b p l e R s m args below meth c Q n cs ss p1 st' → zK w b p l e R s m args below meth c Q n cs ss pc st) (hd : decode cc p1 = .ok (.return_, 1)) (hc : cs ≤ mc) (hs : ss ≤ ms) :
    Sn (zK w b p l e R s m args below meth c Q n) F kb kc cs ss pc (rtv E is) c1 s1 pe := by
  have key : ∀ (st : St) (x : Out × G), rtv E is st = some (.inr (.inr (.inr x))) → F x.1 x.2 → zK w b p l e R s m args below meth c Q n cs ss pc st := by
    intro st x hx hf
    unfold rtv at hx
    split at hx
    · rename_i L1 g1 hrr
      cases hx
      refine hrun _ _ hrr (fun hn H locs ls hL hG hS => ?_)
      refine W.widen hc hs (hQ _ _ hf H locs _ ?_)
      exact W.vret cx.hx cx.hb hr (fun t ht hW => ⟨⟨rfl, by rw [ht]; exact hG⟩, hS.F ht⟩) hS.2.2 hd
    · cases hx
  intro st
  have k := key st
  cases hr : rtv E is st with
  | none => trivial
  | some r =>
    rcases r with r | r | r | x
    · exfalso; unfold rtv at hr; split at hr <;> (try split at hr) <;> cases hr
    · exfalso; unfold rtv at hr; split at hr <;> (try split at hr) <;> cases hr
    · exfalso; unfold rtv at hr; split at hr <;> (try split at hr) <;> cases hr
    · exact k x hr
theorem sn_rta {nmR : String} {F : Out → G → Prop} {kb kc : St → Prop} {is : List Instr} {p1 c1 s1 pe mc ms : Nat} (hQ : zQok w p l e R s m args below meth c Q mc ms F)
    (cx : CX w p s m args c cc n own) (hr : meth.sig.returnType = some (.object nmR)) (hlk : meth.locks = false) (hrun : ∀ st st', runI E is st = some st' → zK w b p l e R s m args below meth c Q n cs ss p1 st' → zK w b p l e R s m args below meth c Q n cs ss pc st) (hd : decode cc p1 = .ok (.areturn, 1)) (hc : cs ≤ mc) (hs : ss ≤ ms) :
    Sn (zK w b p l e R s m args below meth c Q n) F kb kc cs ss pc (rta E is) c1 s1 pe := by
  have key : ∀ (st : St) (x : Out × G), rta E is st = some (.inr (.inr (.inr x))) → F x.1 x.2 → zK w b p l e R s m args below meth c Q n cs ss pc st := by
    intro st x hx hf
    unfold rta at hx
    split at hx
    · rename_i L1 y g1 hrr
      cases hx
      refine hrun _ _ hrr (fun hn H locs ls hL hG hS => ?_)
      refine W.widen hc hs (hQ _ _ hf H locs _ ?_)
      exact W.aret cx.hx cx.hb hr (Or.inl ⟨_, rfl⟩) (Or.inr ⟨_, rfl⟩) (fun t ht hW => ⟨⟨rfl, by rw [ht]; exact hG⟩, hS.F ht⟩) hS.2.2 hd
    · rename_i L1 g1 hrr
      cases hx
      refine hrun _ _ hrr (fun hn H locs ls hL hG hS => ?_)
      refine W.widen hc hs (hQ _ _ hf H locs _ ?_)
      exact W.aret cx.hx cx.hb hr (Or.inl ⟨_, rfl⟩) (Or.inl rfl) (fun t ht hW => ⟨⟨rfl, by rw [ht]; exact hG⟩, hS.F ht⟩) hS.2.2 hd
    · cases hx
  intro st
  have k := key st
  cases hr : rta E is st with
  | none => trivial
  | some r =>
    rcases r with r | r | r | x
    · exfalso; unfold rta at hr; split at hr <;> (try split at hr) <;> cases hr
    · exfalso; unfold rta at hr; split at hr <;> (try split at hr) <;> cases hr
    · exfalso; unfold rta at hr; split at hr <;> (try split at hr) <;> cases hr
    · exact k x hr
end
end
section
/-! ===== jumps, switches, new cells ===== -/
def swt (x : Int32) : List (Int32 × Nat) → Nat → Nat
  | [], d => d
  | (k, p) :: r, d => if x = k then p else swt x r d
theorem swt_spec {x : Int32} : ∀ {tl : List (Int32 × Nat)} {d : Nat}, (∃ q ∈ tl, q.1 = x ∧ swt x tl d = q.2) ∨ ((∀ q ∈ tl, q.1 ≠ x) ∧ swt x tl d = d)
  | [], d => Or.inr ⟨fun q h => absurd h List.not_mem_nil, rfl⟩
  | (k, p) :: r, d => by
    unfold swt
    by_cases hx : x = k
    · exact Or.inl ⟨(k, p), List.mem_cons_self, hx.symm, by rw [if_pos hx]⟩
    · rw [if_neg hx]
      rcases swt_spec (x := x) (tl := r) (d := d) with ⟨q, h1, h2, h3⟩ | ⟨h1, h2⟩
      · exact Or.inl ⟨q, List.mem_cons_of_mem _ h1, h2, h3⟩
      · exact Or.inr ⟨fun q hq => by
          rcases List.mem_cons.mp hq with rfl | hq
          · exact fun e => hx e.symm
          · exact h1 q hq, h2⟩
def zsw (cc : ByteArray) (pc : Nat) (tl : List (Int32 × Nat)) (pd : Nat) : Bool := match decode cc pc with
  | .ok (.tableswitch d lo hi offs, _) => decide ((pc : Int) + d = (pd : Int)) && (tl.all (fun q => decide (lo ≤ q.1.toInt) && (decide (q.1.toInt ≤ hi) && match offs[(q.1.toInt - lo).toNat]? with
      | some o => decide ((pc : Int) + o = (q.2 : Int))
      | none => false)) && (List.range (hi - lo + 1).toNat).all (fun i => tl.any (fun q => decide (q.1.toInt = lo + (i : Int))) || match offs[i]? with
      | some o => decide ((pc : Int) + o = (pd : Int))
      | none => false))
  | .ok (.lookupswitch d ps, _) => decide ((pc : Int) + d = (pd : Int)) && ((ps.toList.zip (ps.toList.drop 1)).all (fun (a, next) => a.1 < next.1) && (tl.all (fun q => decide ((pc : Int) + Op.lookupswitch.offset ps.toList d q.1.toInt = (q.2 : Int))) && ps.toList.all (fun r => tl.any (fun q => decide (q.1.toInt = r.1)))))
  | _ => false
theorem zoffset_none {d v : Int} : ∀ {l : List (Int × Int)}, (∀ r ∈ l, r.1 ≠ v) → Op.lookupswitch.offset l d v = d
  | [], _ => rfl
  | (a, o) :: r, h => by
    rw [Op.lookupswitch.offset_cons, if_neg (h (a, o) List.mem_cons_self)]
    exact zoffset_none fun q hq => h q (List.mem_cons_of_mem _ hq)
def SwL (K : Kp) (F : Out → G → Prop) (kb kc : St → Prop) (c0 s0 c1 s1 pe : Nat) : List (Int32 × Nat) → List (Int32 × Dn) → Prop
  | [], [] => True
  | (k, p) :: tl, (j, a) :: cl => k = j ∧ Sn K F kb kc c0 s0 p a c1 s1 pe ∧ SwL K F kb kc c0 s0 c1 s1 pe tl cl
  | _, _ => False
theorem swl_ok {K : Kp} {F : Out → G → Prop} {kb kc : St → Prop} {c0 s0 c1 s1 pe pd : Nat} {d : Dn} {x : Int32} (hd : Sn K F kb kc c0 s0 pd d c1 s1 pe) : ∀ {tl : List (Int32 × Nat)} {cl : List (Int32 × Dn)}, SwL K F kb kc c0 s0 c1 s1 pe tl cl → Sn K F kb kc c0 s0 (swt x tl pd) (swg x cl d) c1 s1 pe
  | [], [], _ => hd
  | (k, p) :: tl, (j, a) :: cl, h => by
    obtain ⟨rfl, h2, h3⟩ := h
    unfold swt swg
    by_cases hx : x = k
    · rw [if_pos hx, if_pos hx]; exact h2
    · rw [if_neg hx, if_neg hx]; exact swl_ok hd h3
  | [], _ :: _, h => h.elim
  | _ :: _, [], h => h.elim
theorem sn_sw {K : Kp} {F : Out → G → Prop} {kb kc : St → Prop} {c0 s0 c1 s1 pe pd pc : Nat} {E : Env} {is : List Instr} {cl : List (Int32 × Dn)} {d : Dn} (tl : List (Int32 × Nat)) (h : ∀ st L x S g, runI E is st = some (L, .int x :: S, g) → K c0 s0 (swt x tl pd) (L, S, g) → K c0 s0 pc st) (hs : SwL K F kb kc c0 s0 c1 s1 pe tl cl) (hd : Sn K F kb kc c0 s0 pd d c1 s1 pe) : Sn K F kb kc c0 s0 pc (swi E is cl d) c1 s1 pe := by
  intro st
  unfold swi
  cases hr : runI E is st with
  | none => trivial
  | some st' =>
    obtain ⟨L, S, g⟩ := st'
    cases S with
    | nil => trivial
    | cons v S =>
      cases v with
      | int x =>
        dsimp only
        have h2 := swl_ok (x := x) hd hs (L, S, g)
        cases hr2 : swg x cl d (L, S, g) with
        | none => trivial
        | some r2 =>
          rw [hr2] at h2
          rcases r2 with st2 | st2 | st2 | x2
          · exact fun k => h _ _ _ _ _ hr (h2 k)
          · exact fun k => h _ _ _ _ _ hr (h2 k)
          · exact fun k => h _ _ _ _ _ hr (h2 k)
          · exact fun k => h _ _ _ _ _ hr (h2 k)
      | _ => trivial
/-- what a new object of a class holds -/
def zdf (ci : Nat) : List Value := match ci with
  | 0 => [.null]
  | 1 => [.int 0, .null]
  | 2 => [.null, .null, .null, .null, .null, .int 0, .int 0, .int 0]
  | 3 => [.null, .int 0, .int 0]
  | 4 => [.int 0, .int 0, .int 0, .int 0, .int 0]
  | 5 => [.null, .null, .null, .null, .null, .int 0]
  | _ => [.null, .null, .null, .int 0, .null, .int 0, .int 0, .int 0, .int 0, .null, .int 0]
theorem zdf_ok : ∀ ci, ci < 7 → ∀ j, j < ((zcl[ci]?).getD ("", F_Row, 0)).2.2 → defaultValue (zty ci j) = vp_V (zdf ci) j := by decide +kernel
theorem zdf_tv {w : Wd} (ci : Nat) : (zdf ci).map (ztv w) = zdf ci := by
  unfold zdf
  split <;> rfl
def newO (ci : Nat) : Dn := fun (L, S, g) => if g.2 = 0 then none else nm (L, .ref g.2 :: S, (zup g.1 g.2 (cO ci (zdf ci)), g.2 + 1))
/-- a new array: of the length on the stack, at most N -/
def newI (N : Nat) : Dn := fun (L, S, g) => if g.2 = 0 then none else match S with
  | .int x :: S => if 0 ≤ x.toInt ∧ x.toInt ≤ N then nm (L, .ref g.2 :: S, (zup g.1 g.2 (cI x.toInt.toNat (fun _ => 0)), g.2 + 1)) else none
  | _ => none
def newJ (N : Nat) : Dn := fun (L, S, g) => if g.2 = 0 then none else match S with
  | .int x :: S => if 0 ≤ x.toInt ∧ x.toInt ≤ N then nm (L, .ref g.2 :: S, (zup g.1 g.2 (cJ x.toInt.toNat (fun _ => 0)), g.2 + 1)) else none
  | _ => none
def newR (N : Nat) : Dn := fun (L, S, g) => if g.2 = 0 then none else match S with
  | .int x :: S => if 0 ≤ x.toInt ∧ x.toInt ≤ N then nm (L, .ref g.2 :: S, (zup g.1 g.2 (cR x.toInt.toNat (fun _ => none)), g.2 + 1)) else none
  | _ => none
/-- a call that may make cells -/
def calD (n : Nat) (f : Ex) : Dn := fun (L, S, g) => match popN n [] S with
  | some (vs, S) => if wsum S ≤ 8 then match f vs g with
      | some (.inl o, g) => nm (L, o.toList ++ S, g)
      | _ => none
    else none
  | none => none
/-- a condition that is known to hold; to fail -/
def ast (c : Cn) : Dn := fun st => match c st with
  | some (true, st) => nm st
  | _ => none
def asf (c : Cn) : Dn := fun st => match c st with
  | some (false, st) => nm st
  | _ => none
theorem sn_ast {K : Kp} {F : Out → G → Prop} {kb kc : St → Prop} {c0 s0 pc pt pf : Nat} {d : Cn} (h : Sc K c0 s0 pc d pt pf) : Sn K F kb kc c0 s0 pc (ast d) c0 s0 pt := by
  intro st
  have h1 := h st
  unfold ast
  cases hr : d st with
  | none => trivial
  | some r =>
    obtain ⟨t, st'⟩ := r
    rw [hr] at h1
    cases t with
    | true => exact h1
    | false => trivial
theorem sn_asf {K : Kp} {F : Out → G → Prop} {kb kc : St → Prop} {c0 s0 pc pt pf : Nat} {d : Cn} (h : Sc K c0 s0 pc d pt pf) : Sn K F kb kc c0 s0 pc (asf d) c0 s0 pf := by
  intro st
  have h1 := h st
  unfold asf
  cases hr : d st with
  | none => trivial
  | some r =>
    obtain ⟨t, st'⟩ := r
    rw [hr] at h1
    cases t with
    | false => exact h1
    | true => trivial
section
variable {w : Wd} {b : Bool} {p : Program} {l : Launch} {e : Jvm.Env} {R : Room} {s : State} {m : MethodId} {args : Array Value} {below : List Frame} {meth : Method} {c : Code} {Q : State → Prop} {cc : ByteArray} {n cs ss pc : Nat} {own : String} {E : Env}
variable {L : List (Option Value)} {S : List Value} {g g' : G} {st st' : St} {o : Option Value} {H : Heap} {locs : List Loc}
theorem zj_sound {j : Instr} {S S' : List Value} {t : Bool} {tgt : Nat} (cx : CX w p s m args c cc n own) (hd : decode cc pc = .ok (j, 3)) (ht : (pc : Int) + zoff j = (tgt : Int)) (hz : zcj j S = some (t, S'))
    (kt : t = true → zK w b p l e R s m args below meth c Q n cs ss tgt (L, S', g)) (kf : t = false → zK w b p l e R s m args below meth c Q n cs ss (pc + 3) (L, S', g)) : zK w b p l e R s m args below meth c Q n cs ss pc (L, S, g) := by
  unfold zcj at hz
  split at hz
  · cases hz
    exact fun hn H locs ls hL hG hS => lv_icmp_eq cx.hx cx.hb hd ht (fun h => kt (decide_eq_true h) hn H locs ls hL hG hS) (fun h => kf (decide_eq_false h) hn H locs ls hL hG hS)
  · cases hz
    exact fun hn H locs ls hL hG hS => lv_icmp_ne cx.hx cx.hb hd ht (fun h => kt (decide_eq_true h) hn H locs ls hL hG hS) (fun h => kf (decide_eq_false (fun q => q h)) hn H locs ls hL hG hS)
  · cases hz
    exact fun hn H locs ls hL hG hS => lv_icmp_lt cx.hx cx.hb hd ht (fun h => kt (decide_eq_true h) hn H locs ls hL hG hS) (fun h => kf (decide_eq_false h) hn H locs ls hL hG hS)
  · cases hz
    exact fun hn H locs ls hL hG hS => lv_icmp_ge cx.hx cx.hb hd ht (fun h => kt (decide_eq_true h) hn H locs ls hL hG hS) (fun h => kf (decide_eq_false h) hn H locs ls hL hG hS)
  · cases hz
    exact fun hn H locs ls hL hG hS => lv_icmp_gt cx.hx cx.hb hd ht (fun h => kt (decide_eq_true h) hn H locs ls hL hG hS) (fun h => kf (decide_eq_false h) hn H locs ls hL hG hS)
  · cases hz
    exact fun hn H locs ls hL hG hS => lv_icmp_le cx.hx cx.hb hd ht (fun h => kt (decide_eq_true h) hn H locs ls hL hG hS) (fun h => kf (decide_eq_false h) hn H locs ls hL hG hS)
  · cases hz
    exact fun hn H locs ls hL hG hS => lv_if_eq cx.hx cx.hb hd ht (fun h => kt (decide_eq_true h) hn H locs ls hL hG hS) (fun h => kf (decide_eq_false h) hn H locs ls hL hG hS)
  · cases hz
    exact fun hn H locs ls hL hG hS => lv_if_ne cx.hx cx.hb hd ht (fun h => kt (decide_eq_true h) hn H locs ls hL hG hS) (fun h => kf (decide_eq_false (fun q => q h)) hn H locs ls hL hG hS)
  · cases hz
    exact fun hn H locs ls hL hG hS => lv_if_lt cx.hx cx.hb hd ht (fun h => kt (decide_eq_true h) hn H locs ls hL hG hS) (fun h => kf (decide_eq_false h) hn H locs ls hL hG hS)
  · cases hz
    exact fun hn H locs ls hL hG hS => lv_if_ge cx.hx cx.hb hd ht (fun h => kt (decide_eq_true h) hn H locs ls hL hG hS) (fun h => kf (decide_eq_false h) hn H locs ls hL hG hS)
  · cases hz
    exact fun hn H locs ls hL hG hS => lv_if_gt cx.hx cx.hb hd ht (fun h => kt (decide_eq_true h) hn H locs ls hL hG hS) (fun h => kf (decide_eq_false h) hn H locs ls hL hG hS)
  · cases hz
    exact fun hn H locs ls hL hG hS => lv_if_le cx.hx cx.hb hd ht (fun h => kt (decide_eq_true h) hn H locs ls hL hG hS) (fun h => kf (decide_eq_false h) hn H locs ls hL hG hS)
  · cases hz
    exact fun hn H locs ls hL hG hS => lv_ifnull cx.hx cx.hb hd (kf rfl hn H locs ls hL hG hS)
  · cases hz
    exact fun hn H locs ls hL hG hS => lv_ifnullN cx.hx cx.hb hd ht (kt rfl hn H locs ls hL hG hS)
  · cases hz
theorem sc_cat {is : List Instr} {j : Instr} {p1 tgt : Nat} (cx : CX w p s m args c cc n own) (eo : EnvOk w b p l e R s m args below meth c Q cc n own E) (hR : cs ≤ R.cells ∧ ss ≤ R.slots) (hz : zck cc pc is = some p1) (hd : decode cc p1 = .ok (j, 3)) (ht : (p1 : Int) + zoff j = (tgt : Int)) : Sc (zK w b p l e R s m args below meth c Q n) cs ss pc (cat E is j) tgt (p1 + 3) := by
  intro st
  unfold cat
  cases hr : runI E is st with
  | none => trivial
  | some st' =>
    obtain ⟨L, S, g⟩ := st'
    dsimp only
    cases hj : zcj j S with
    | none => trivial
    | some r =>
      obtain ⟨t, S'⟩ := r
      cases t with
      | true => exact fun k => run_sound cx eo hR is hz hr (zj_sound cx hd ht hj (fun _ => k) (fun h => by cases h))
      | false => exact fun k => run_sound cx eo hR is hz hr (zj_sound cx hd ht hj (fun h => by cases h) (fun _ => k))
theorem k_goto {off : Int} {tgt : Nat} (cx : CX w p s m args c cc n own) (hd : decode cc pc = .ok (.goto off, 3)) (ht : (pc : Int) + off = (tgt : Int)) (st : St) (k : zK w b p l e R s m args below meth c Q n cs ss tgt st) : zK w b p l e R s m args below meth c Q n cs ss pc st :=
  fun hn H locs ls hL hG hS => lv_goto cx.hx cx.hb hd ht (k hn H locs ls hL hG hS)
theorem zforget_len : ∀ (is : List Nat) (L : List (Option Value)), (zforget L is).length = L.length
  | [], _ => rfl
  | i :: is, L => by
    show (zforget (L.set i none) is).length = _
    rw [zforget_len is]; simp
theorem k_fo {is : List Nat} (st : St) (k : zK w b p l e R s m args below meth c Q n cs ss pc (zforget st.1 is, st.2)) : zK w b p l e R s m args below meth c Q n cs ss pc st :=
  fun hn H locs ls hL hG hS => k (by rw [zforget_len]; exact hn) H locs ls (LvR.forget is hL) hG hS
theorem sw_sound {is : List Instr} {p1 pd : Nat} {tl : List (Int32 × Nat)} (cx : CX w p s m args c cc n own) (eo : EnvOk w b p l e R s m args below meth c Q cc n own E) (hR : cs ≤ R.cells ∧ ss ≤ R.slots) (hz : zck cc pc is = some p1) (hd : zsw cc p1 tl pd = true) (st : St) (L : List (Option Value)) (x : Int32) (S : List Value) (g : G) (hr : runI E is st = some (L, .int x :: S, g)) (k : zK w b p l e R s m args below meth c Q n cs ss (swt x tl pd) (L, S, g)) : zK w b p l e R s m args below meth c Q n cs ss pc st := by
  refine run_sound cx eo hR is hz hr (fun hn H locs ls hL hG hS => ?_)
  have k1 := k hn H locs ls hL hG hS
  unfold zsw at hd
  split at hd
  · rename_i d lo hi offs len hdec
    simp only [Bool.and_eq_true, decide_eq_true_eq, List.all_eq_true, List.any_eq_true, Bool.or_eq_true] at hd
    obtain ⟨h1, h2, h3⟩ := hd
    rcases swt_spec (x := x) (tl := tl) (d := pd) with ⟨q, q1, q2, q3⟩ | ⟨q1, q2⟩
    · obtain ⟨a1, a2, a3⟩ := h2 q q1
      split at a3
      · rename_i off ho
        rw [q2] at a1 a2 ho
        rw [q3] at k1
        exact lv_tableIn cx.hx cx.hb hdec (by omega) (by omega) ho (of_decide_eq_true a3) k1
      · cases a3
    · rw [q2] at k1
      by_cases hlo : x.toInt < lo
      · exact lv_tableOut cx.hx cx.hb hdec (Or.inl hlo) h1 k1
      · by_cases hhi : hi < x.toInt
        · exact lv_tableOut cx.hx cx.hb hdec (Or.inr hhi) h1 k1
        · rcases h3 (x.toInt - lo).toNat (List.mem_range.mpr (by omega)) with ⟨q, hq1, hq2⟩ | h4
          · exact absurd (Int32.toInt_inj.mp (by rw [hq2]; omega)) (q1 q hq1)
          · split at h4
            · rename_i off ho
              exact lv_tableIn cx.hx cx.hb hdec hlo hhi ho (of_decide_eq_true h4) k1
            · cases h4
  · rename_i d ps len hdec
    simp only [Bool.and_eq_true, decide_eq_true_eq] at hd
    obtain ⟨h1, h2, h3, h4⟩ := hd
    rw [List.all_eq_true] at h3 h4
    rcases swt_spec (x := x) (tl := tl) (d := pd) with ⟨q, q1, q2, q3⟩ | ⟨q1, q2⟩
    · have a3 := of_decide_eq_true (h3 q q1)
      rw [q2] at a3
      rw [q3] at k1
      exact lv_lookup cx.hx cx.hb hdec h2 rfl a3 k1
    · rw [q2] at k1
      refine lv_lookup cx.hx cx.hb hdec h2 (zoffset_none fun r hr2 e2 => ?_) h1 k1
      obtain ⟨q, hq1, hq2⟩ := List.any_eq_true.mp (h4 r hr2)
      exact q1 q hq1 (Int32.toInt_inj.mp ((of_decide_eq_true hq2).trans e2))
  · cases hd
theorem zad_succ {k : Nat} (h : 4 ≤ k) : zad w (k + 1) = zad w k + 1 := by
  unfold zad; rw [if_neg (by omega), if_neg (by omega)]; omega
theorem RepG.push {H H1 : Heap} {c1 : Cel} (h : RepG w g H) (h0 : g.2 ≠ 0) (hz : H1.size = H.size + 1) (ho : ∀ q : Nat, q < H.size → H1[q]? = H[q]?) (h1 : zat w g.2 c1 H1) : RepG w (zup g.1 g.2 c1, g.2 + 1) H1 := by
  obtain ⟨h4, hsz⟩ := h.2.2 h0
  refine ⟨fun j c2 hj => ?_, by have := h.2.1; omega, fun _ => ⟨by show 4 ≤ g.2 + 1; omega, by show H1.size = zad w (g.2 + 1); rw [hz, hsz, zad_succ h4]⟩⟩
  simp only [zup] at hj
  split at hj
  · rename_i e; subst e; cases hj; exact ⟨h4, h1⟩
  · obtain ⟨a1, a2⟩ := h.1 j c2 hj
    exact ⟨a1, va_at.kept a2 (ho _ a2.lt)⟩
theorem va_S.push' {H0 H H1 : Heap} (h : va_S (zA w) H0 H locs) (hz : H1.size = H.size + 1) (ho : ∀ q : Nat, q < H.size → H1[q]? = H[q]?) : va_S (zA w) H0 H1 locs :=
  ⟨Nat.le_trans h.1 (by omega), fun q h1 h2 => (ho q (Nat.lt_of_lt_of_le h1 h.1)).trans (h.2.1 q h1 h2), h.2.2⟩
theorem sn_newO {F : Out → G → Prop} {kb kc : St → Prop} {index ci N : Nat} {C : String} (cx : CX w p s m args c cc n own) (hd : decode cc pc = .ok (.new index, 3)) (h7 : ci < 7) (hC : ((zcl[ci]?).getD ("", F_Row, 0)).1 = C) (hN : ((zcl[ci]?).getD ("", F_Row, 0)).2.2 = N) (h1 : Cond.classLink own index C ∈ lw_tbl) (h2 : Cond.instantiable C N ∈ lw_tbl) (h3 : Cond.initialized C ∈ lw_tbl) (hc : cs + 1 ≤ R.cells) (hs : ss + N ≤ R.slots) :
    Sn (zK w b p l e R s m args below meth c Q n) F kb kc cs ss pc (newO ci) (cs + 1) (ss + N) (pc + 3) := by
  intro st
  obtain ⟨L, S, g⟩ := st
  unfold newO
  by_cases h0 : g.2 = 0
  · simp only [h0, if_true]
  · simp only [h0, if_false]
    intro k hn H locs ls hL hG hS
    obtain ⟨r, hr⟩ := zcl_at h7
    rw [hr] at hC hN
    obtain ⟨C', T, N'⟩ := r
    dsimp only [Option.getD_some] at hC hN
    subst hC; subst hN
    have hKn := cx.kk.1.1 ci _ hr
    obtain ⟨h4, hsz⟩ := hG.2.2 h0
    refine W.newcK cx.hx cx.hb cx.hown (cx.hts h1 rfl) (cx.hts h2 rfl) (cx.hts h3 rfl) rfl hd hc hs hKn.2.1 hsz fun H1 kC hkC e1 z1 o1 => ?_
    rw [← hsz] at z1 o1
    refine k hn H1 locs ls hL (hG.push h0 z1 o1 ⟨_, hr, ?_⟩) (hS.push' z1 o1)
    have hdf := zdf_ok ci h7
    rw [hr] at hdf
    have h5 := (u_born (zty ci) cx.hall (zlay hr h7) hKn hkC e1 (ztyok hr h7)).to hdf
    show t_OB (zad w g.2) _ _ _ H1 (vp_V ((zdf ci).map (ztv w)))
    rw [zdf_tv]
    exact h5
end
end
section
/-! ===== new arrays; calls ===== -/
section
variable {w : Wd} {b : Bool} {p : Program} {l : Launch} {e : Jvm.Env} {R : Room} {s : State} {m : MethodId} {args : Array Value} {below : List Frame} {meth : Method} {c : Code} {Q : State → Prop} {cc : ByteArray} {n cs ss pc : Nat} {own : String} {E : Env}
variable {L : List (Option Value)} {S : List Value} {g g' : G} {st st' : St} {o : Option Value} {H : Heap} {locs : List Loc}
theorem znneg {x : Int32} (h : 0 ≤ x.toInt) : ¬ x < 0 := fun q => by
  have q1 := Int32.lt_iff_toInt_lt.mp q
  simp at q1; omega
theorem sn_newI {F : Out → G → Prop} {kb kc : St → Prop} {N : Nat} (cx : CX w p s m args c cc n own) (hd : decode cc pc = .ok (.newarray .int, 2)) (h1 : Cond.arrayClass .int ∈ lw_tbl) (hN : N < 2 ^ 20) (hc : cs + 1 ≤ R.cells) (hs : ss + N ≤ R.slots) :
    Sn (zK w b p l e R s m args below meth c Q n) F kb kc cs ss pc (newI N) (cs + 1) (ss + N) (pc + 2) := by
  intro st
  obtain ⟨L, S, g⟩ := st
  by_cases h0 : g.2 = 0
  · unfold newI; simp only [h0, if_true]
  · cases S with
    | nil => unfold newI; simp only [h0, if_false]
    | cons v S =>
      cases v with
      | int x =>
        by_cases hx : 0 ≤ x.toInt ∧ x.toInt ≤ N
        · unfold newI; simp only [h0, if_false, hx, and_self, if_true]
          intro k hn H locs ls hL hG hS
          obtain ⟨h4, hsz⟩ := hG.2.2 h0
          refine W.widen (Nat.le_refl _) (show ss ≤ ss + (N - x.toInt.toNat) by omega) ?_
          refine va_newaK (atype := .int) (N := x.toInt.toNat) cx.hx cx.hb (cx.hts h1 rfl) rfl hd rfl (znneg hx.1) rfl (by show x.toInt.toNat * 4 ≤ _; omega) hc (by omega) hsz fun H1 cA e1 z1 o1 hAr hNm => ?_
          rw [← hsz] at z1 o1
          have hcA : w.2.2.2.1 0 = cA := Option.some.inj ((cx.kk.1.2 0 _ rfl).2.symm.trans hNm)
          have k1 := k hn H1 locs ls hL (hG.push h0 z1 o1 (show zat w g.2 (cI x.toInt.toNat (fun _ => 0)) H1 by
            show H1[zad w g.2]? = some (vp_cell (w.2.2.2.1 0) (x.toInt.toNat, .inl (fun _ => 0)))
            rw [hcA]
            exact e1)) (hS.push' z1 o1)
          rw [show ss + (N - x.toInt.toNat) + x.toInt.toNat = ss + N by omega]
          exact k1
        · unfold newI; simp only [h0, if_false, hx]
      | _ => unfold newI; simp only [h0, if_false]
theorem sn_newJ {F : Out → G → Prop} {kb kc : St → Prop} {N : Nat} (cx : CX w p s m args c cc n own) (hd : decode cc pc = .ok (.newarray .long, 2)) (h1 : Cond.arrayClass .long ∈ lw_tbl) (hN : N < 2 ^ 20) (hc : cs + 1 ≤ R.cells) (hs : ss + N ≤ R.slots) :
    Sn (zK w b p l e R s m args below meth c Q n) F kb kc cs ss pc (newJ N) (cs + 1) (ss + N) (pc + 2) := by
  intro st
  obtain ⟨L, S, g⟩ := st
  by_cases h0 : g.2 = 0
  · unfold newJ; simp only [h0, if_true]
  · cases S with
    | nil => unfold newJ; simp only [h0, if_false]
    | cons v S =>
      cases v with
      | int x =>
        by_cases hx : 0 ≤ x.toInt ∧ x.toInt ≤ N
        · unfold newJ; simp only [h0, if_false, hx, and_self, if_true]
          intro k hn H locs ls hL hG hS
          obtain ⟨h4, hsz⟩ := hG.2.2 h0
          refine W.widen (Nat.le_refl _) (show ss ≤ ss + (N - x.toInt.toNat) by omega) ?_
          refine va_newaK (atype := .long) (N := x.toInt.toNat) cx.hx cx.hb (cx.hts h1 rfl) rfl hd rfl (znneg hx.1) rfl (by show x.toInt.toNat * 8 ≤ _; omega) hc (by omega) hsz fun H1 cA e1 z1 o1 hAr hNm => ?_
          rw [← hsz] at z1 o1
          have hcA : w.2.2.2.1 1 = cA := Option.some.inj ((cx.kk.1.2 1 _ rfl).2.symm.trans hNm)
          have k1 := k hn H1 locs ls hL (hG.push h0 z1 o1 (show zat w g.2 (cJ x.toInt.toNat (fun _ => 0)) H1 by
            show H1[zad w g.2]? = some (vp_cell (w.2.2.2.1 1) (x.toInt.toNat, .inr (.inl (fun _ => 0))))
            rw [hcA]
            exact e1)) (hS.push' z1 o1)
          rw [show ss + (N - x.toInt.toNat) + x.toInt.toNat = ss + N by omega]
          exact k1
        · unfold newJ; simp only [h0, if_false, hx]
      | _ => unfold newJ; simp only [h0, if_false]
theorem sn_newR {F : Out → G → Prop} {kb kc : St → Prop} {N index : Nat} (cx : CX w p s m args c cc n own) (hd : decode cc pc = .ok (.anewarray index, 3)) (h1 : Cond.classLink own index "CoilSlits$Yard" ∈ lw_tbl) (hN : N < 2 ^ 20) (hc : cs + 1 ≤ R.cells) (hs : ss + N ≤ R.slots) :
    Sn (zK w b p l e R s m args below meth c Q n) F kb kc cs ss pc (newR N) (cs + 1) (ss + N) (pc + 3) := by
  intro st
  obtain ⟨L, S, g⟩ := st
  by_cases h0 : g.2 = 0
  · unfold newR; simp only [h0, if_true]
  · cases S with
    | nil => unfold newR; simp only [h0, if_false]
    | cons v S =>
      cases v with
      | int x =>
        by_cases hx : 0 ≤ x.toInt ∧ x.toInt ≤ N
        · unfold newR; simp only [h0, if_false, hx, and_self, if_true]
          intro k hn H locs ls hL hG hS
          obtain ⟨h4, hsz⟩ := hG.2.2 h0
          refine W.widen (Nat.le_refl _) (show ss ≤ ss + (N - x.toInt.toNat) by omega) ?_
          refine W.anew cx.hx cx.hb cx.hown (cx.hts h1 rfl) (va_AO.use cx.kk.2.2.2.2) rfl hd rfl (znneg hx.1) (by show x.toInt.toNat * 4 ≤ _; omega) hc (by show _ + x.toInt.toNat ≤ _; omega) fun cA kA comp f1 f2 f3 f4 => ?_
          generalize hH1 : H.push ({ cls := cA, slots := Array.replicate x.toNatClampNeg .null, vm := .none } : Cell) = H1
          have z1 : H1.size = H.size + 1 := by rw [← hH1, Array.size_push]
          have e1 : H1[H.size]? = some (arrV cA x.toInt.toNat (fun _ => .null)) := by rw [← hH1, Array.getElem?_push_size, ← arrV_new]; rfl
          have o1 : ∀ q : Nat, q < H.size → H1[q]? = H[q]? := fun q hq => by rw [← hH1, Array.getElem?_push, if_neg (Nat.ne_of_lt hq)]
          have hcA : w.2.2.2.1 2 = cA := by
            obtain ⟨kA', comp', -, -, -, k4⟩ := (cx.kk.1.2 2 _ rfl).2
            exact Option.some.inj (k4.symm.trans f1)
          have k1 := k hn H1 locs ls hL (hG.push h0 z1 o1 (show zat w g.2 (cR x.toInt.toNat (fun _ => none)) H1 by
            show H1[zad w g.2]? = some (vp_cell (w.2.2.2.1 2) _)
            rw [hcA, vp_cell_q, ← hsz]
            exact e1)) (hS.push' z1 o1)
          rw [hsz]
          rw [show ss + (N - x.toInt.toNat) + x.toNatClampNeg = ss + N by show ss + (N - x.toInt.toNat) + x.toInt.toNat = ss + N; omega]
          exact k1
        · unfold newR; simp only [h0, if_false, hx]
      | _ => unfold newR; simp only [h0, if_false]
theorem sn_cal {F : Out → G → Prop} {kb kc : St → Prop} {i : Instr} {nn mc ms : Nat} {f : Ex} (hc : CallOk w b p l e R s m args below meth c Q cc n mc ms (i, nn, f)) (hd : decode cc pc = .ok (i, 3)) (h1 : cs + mc ≤ R.cells) (h2 : ss + ms ≤ R.slots) :
    Sn (zK w b p l e R s m args below meth c Q n) F kb kc cs ss pc (calD nn f) (cs + mc) (ss + ms) (pc + 3) := by
  intro st
  obtain ⟨L, S, g⟩ := st
  unfold calD
  dsimp only
  cases hp : popN nn [] S with
  | none => trivial
  | some r =>
    obtain ⟨vs, S'⟩ := r
    dsimp only
    by_cases h8 : wsum S' ≤ 8
    · rw [if_pos h8]
      cases hf : f vs g with
      | none => trivial
      | some r2 =>
        obtain ⟨o, g'⟩ := r2
        cases o with
        | inr _ => trivial
        | inl o =>
          obtain ⟨us, e1, e2, e3⟩ := popN_spec hp
          rw [List.append_nil] at e1
          subst e1
          subst e3
          exact fun k => hc cs ss pc L S' vs g g' o h1 h2 hd e2 h8 hf k
    · rw [if_neg h8]; trivial
/-- behind a call -/
theorem run_then {mc ms : Nat} {args2 : Array Value} {gj : JFrame} {rest : List Value} (hr : va_Run p l e R s m args below meth c H locs cs ss mc ms gj rest (zQ w o g' args2) (zA w)) (hS : va_S (zA w) s.heap H locs)
    (kk : ∀ (H1 : Heap) (locs1 : List Loc), RepG w g' H1 → va_S (zA w) s.heap H1 locs1 → W p l e R s m args below meth c H1 locs1 (cs + mc) (ss + ms) Q { gj with pc := gj.pc + 3, stack := (o.map (ztv w)).toList ++ rest }) : W p l e R s m args below meth c H locs cs ss Q gj := by
  intro T hT X
  obtain ⟨v, st₀, t, T', L, h0, X', hL, e1, e2, ⟨⟨hv, hg⟩, hz, hk⟩, st⟩ := hr T hT X
  cases hv
  rw [h0] at hz hk
  obtain ⟨t2, a1, b1⟩ := kk T'.heap (locs ++ L) (by rw [e1]; exact hg)
    ⟨Nat.le_trans hS.1 (by rw [e1]; exact hz), fun q h1 h2 => by rw [e1, hk q (Nat.lt_of_lt_of_le h1 hS.1) h2]; exact hS.2.1 q h1 h2, fun q hq => by
      rcases List.mem_append.mp hq with h | h
      · exact hS.2.2 q h
      · exact hL q h⟩ T' rfl X'
  exact ⟨t2, st t2 a1, b1⟩
theorem zpre (cx : CX w p s m args c cc n own) {vs : List Value} (hG : RepG w g H) (hS : va_S (zA w) s.heap H locs) : ∀ U : State, U.heap = H → s.WarmedH U.vm → zPc w vs g (vs.map (ztv w)).toArray U := by
  intro U hU hW
  refine ⟨rfl, KK.warm hW (fun a h1 h2 => by rw [hU]; exact hS.2.1 a h1 h2) cx.kk, by rw [hU]; exact hG⟩
theorem zcallB (cx : CX w p s m args c cc n own) {y : MethodName} {bytes : ByteArray} {maxL idx nn : Nat} {ret : Option FieldType} {rm : Room} (hcode : Cond.code y bytes maxL ret ∈ lw_tbl) (hlink : Cond.methodLink own idx y ∈ lw_tbl) (hini : Cond.initialized y.cls ∈ lw_tbl)
    (hd : y.cls ≠ "java/lang/invoke/MethodHandle" ∧ y.cls ≠ "java/lang/invoke/VarHandle" ∧ (parseMethodDescriptor y.desc).map (fun d => d.parameters.length) = some nn) (hR : rm.frames + 1 ≤ R.frames ∧ 8 + (maxL + 11) + rm.locals ≤ R.locals) :
    CallB R s args own idx y bytes maxL ret (Cond.code y bytes maxL ret :: zW) rm rm.cells rm.slots nn :=
  callB_of nn cx.hall (fun x hx => by
    rcases List.mem_cons.mp hx with rfl | hx
    · exact ⟨List.mem_filter.mpr ⟨hcode, rfl⟩, Or.inl rfl⟩
    · exact zW_good x hx) rfl rfl rfl (cx.hts hini rfl) (cx.hts hlink rfl) hd hR
theorem call_V (cx : CX w p s m args c cc n own) {y : MethodName} {bytes : ByteArray} {maxL idx nn ci : Nat} {ret : Option FieldType} {rm : Room} {f : Ex} (hct : CT w l y bytes maxL ret rm f) (hcode : Cond.code y bytes maxL ret ∈ lw_tbl) (hlink : Cond.methodLink own idx y ∈ lw_tbl) (hini : Cond.initialized y.cls ∈ lw_tbl) (hin : Cond.instanceMethod y ∈ lw_tbl) (hsel : Cond.selects y.cls y y ∈ lw_tbl) (h7 : ci < 7) (hci : ((zcl[ci]?).getD ("", F_Row, 0)).1 = y.cls)
    (hd : y.cls ≠ "java/lang/invoke/MethodHandle" ∧ y.cls ≠ "java/lang/invoke/VarHandle" ∧ (parseMethodDescriptor y.desc).map (fun d => d.parameters.length) = some nn) (hR : rm.frames + 1 ≤ R.frames ∧ 8 + (maxL + 11) + rm.locals ≤ R.locals) :
    CallOk w b p l e R s m args below meth c Q cc n rm.cells rm.slots (.invokevirtual idx, nn + 1, zrv ci f) := by
  intro cs ss pc L S vs g g' o hc hs hdg hlen h8 hf k hn H locs ls hL hG hS
  have hf2 := hf
  dsimp only at hf2
  unfold zrv at hf2
  split at hf2
  · rename_i a As
    split at hf2
    · rename_i cj fs hM
      split at hf2
      · rename_i hcj
        subst hcj
        obtain ⟨r, hr⟩ := zcl_at h7
        rw [hr] at hci
        dsimp only [Option.getD_some] at hci
        have hrecv := va_recv cx.kk.1 (hG.one hM) (ci := cj) (q0 := 0) hr rfl
        rw [hci] at hrecv
        have hrun := va_runV (e := e) (below := below) (meth := meth) (As := As.map (ztv w)) (rest := S.map (ztv w)) (g := F0 m pc ls ((((Value.ref a :: As).reverse ++ S)).map (ztv w))) (cells := cs) (slots := ss) (locs := locs) (H := H) ⟨cx.hx, cx.hb, cx.hml, cx.hown, cx.hall⟩ (hct _ _ _ _ hf2) ⟨zcallB cx hcode hlink hini hd hR, cx.hts hin rfl, cx.hts hsel rfl⟩ ⟨zPc_blind, hrecv, zpre cx (vs := .ref a :: As) hG hS⟩ rfl (by simp at hlen ⊢; exact hlen) (by show ls.size = n; rw [hL.2.1]; exact hn) (by show List.map _ _ = _; simp [ztv]) (lv_room (Nat.le_trans (wsum_tv S) h8)) hdg ⟨hc, hs⟩
        refine run_then hrun hS fun H1 locs1 hG1 hS1 => ?_
        have k1 := k hn H1 locs1 ls hL hG1 hS1
        cases o <;> exact k1
      · cases hf2
    · cases hf2
  · cases hf2
theorem call_S (cx : CX w p s m args c cc n own) {y : MethodName} {bytes : ByteArray} {maxL idx nn : Nat} {ret : Option FieldType} {rm : Room} {f : Ex} (hct : CT w l y bytes maxL ret rm f) (hcode : Cond.code y bytes maxL ret ∈ lw_tbl) (hlink : Cond.methodLink own idx y ∈ lw_tbl) (hini : Cond.initialized y.cls ∈ lw_tbl) (hst : Cond.static y ∈ lw_tbl)
    (hd : y.cls ≠ "java/lang/invoke/MethodHandle" ∧ y.cls ≠ "java/lang/invoke/VarHandle" ∧ (parseMethodDescriptor y.desc).map (fun d => d.parameters.length) = some nn) (hR : rm.frames + 1 ≤ R.frames ∧ 8 + (maxL + 11) + rm.locals ≤ R.locals) :
    CallOk w b p l e R s m args below meth c Q cc n rm.cells rm.slots (.invokestatic idx, nn, f) := by
  intro cs ss pc L S vs g g' o hc hs hdg hlen h8 hf k hn H locs ls hL hG hS
  have hrun := va_runS (e := e) (below := below) (meth := meth) (As := vs.map (ztv w)) (rest := S.map (ztv w)) (g := F0 m pc ls ((vs.reverse ++ S).map (ztv w))) (cells := cs) (slots := ss) (locs := locs) (H := H) ⟨cx.hx, cx.hb, cx.hml, cx.hown, cx.hall⟩ (hct _ _ _ _ hf) ⟨zcallB cx hcode hlink hini hd hR, cx.hts hst rfl⟩ ⟨zPc_blind, zpre cx (vs := vs) hG hS⟩ rfl (by simp at hlen ⊢; exact hlen) (by show ls.size = n; rw [hL.2.1]; exact hn) (by show List.map _ _ = _; simp) (lv_room (Nat.le_trans (wsum_tv S) h8)) hdg ⟨hc, hs⟩
  refine run_then hrun hS fun H1 locs1 hG1 hS1 => ?_
  have k1 := k hn H1 locs1 ls hL hG1 hS1
  cases o <;> exact k1
theorem call_SN (cx : CX w p s m args c cc n own) {y : MethodName} {host : String} {bytes : ByteArray} {maxL idx nn : Nat} {ret : Option FieldType} {rm : Room} {f : Ex} (hct : CT w l y bytes maxL ret rm f) (hcode : Cond.code y bytes maxL ret ∈ lw_tbl) (hlink : Cond.methodLinkNest own idx y host ∈ zN) (hini : Cond.initialized y.cls ∈ lw_tbl) (hst : Cond.static y ∈ lw_tbl)
    (hd : y.cls ≠ "java/lang/invoke/MethodHandle" ∧ y.cls ≠ "java/lang/invoke/VarHandle" ∧ (parseMethodDescriptor y.desc).map (fun d => d.parameters.length) = some nn) (hR : rm.frames + 1 ≤ R.frames ∧ 8 + (maxL + 11) + rm.locals ≤ R.locals) :
    CallOk w b p l e R s m args below meth c Q cc n rm.cells rm.slots (.invokestatic idx, nn, f) := by
  intro cs ss pc L S vs g g' o hc hs hdg hlen h8 hf k hn H locs ls hL hG hS
  have hcb := va_cnB (ws := Cond.code y bytes maxL ret :: zW) (rm := rm) nn cx.hall (fun x hx => by
    rcases List.mem_cons.mp hx with rfl | hx
    · exact ⟨List.mem_filter.mpr ⟨hcode, rfl⟩, Or.inl rfl⟩
    · exact zW_good x hx) rfl rfl rfl (cx.kk.2.2.2.1 _ hlink) (cx.hts hini rfl) hd hR
  have hrun := va_runSN (e := e) (below := below) (meth := meth) (As := vs.map (ztv w)) (rest := S.map (ztv w)) (g := F0 m pc ls ((vs.reverse ++ S).map (ztv w))) (cells := cs) (slots := ss) (locs := locs) (H := H) ⟨cx.hx, cx.hb, cx.hml, cx.hown, cx.hall⟩ (hct _ _ _ _ hf) ⟨hcb, cx.hts hst rfl, trivial⟩ ⟨zPc_blind, zpre cx (vs := vs) hG hS⟩ rfl (by simp at hlen ⊢; exact hlen) (by show ls.size = n; rw [hL.2.1]; exact hn) (by show List.map _ _ = _; simp) (lv_room (Nat.le_trans (wsum_tv S) h8)) hdg ⟨hc, hs⟩
  refine run_then hrun hS fun H1 locs1 hG1 hS1 => ?_
  have k1 := k hn H1 locs1 ls hL hG1 hS1
  cases o <;> exact k1
/-- a constructor's receiver is a cell -/
def zri (f : Ex) : Ex := fun vs g => match vs with
  | .ref a :: As => f (.ref a :: As) g
  | _ => none
theorem call_I (cx : CX w p s m args c cc n own) {y : MethodName} {bytes : ByteArray} {maxL idx nn : Nat} {rm : Room} {f : Ex} (hct : CT w l y bytes maxL none rm f) (hy1 : y.name = "<init>") (hcode : Cond.code y bytes maxL none ∈ lw_tbl) (hlink : Cond.methodLink own idx y ∈ lw_tbl) (hini : Cond.initialized y.cls ∈ lw_tbl) (hin : Cond.instanceMethod y ∈ lw_tbl)
    (hd : y.cls ≠ "java/lang/invoke/MethodHandle" ∧ y.cls ≠ "java/lang/invoke/VarHandle" ∧ (parseMethodDescriptor y.desc).map (fun d => d.parameters.length) = some nn) (hR : rm.frames + 1 ≤ R.frames ∧ 8 + (maxL + 11) + rm.locals ≤ R.locals) :
    CallOk w b p l e R s m args below meth c Q cc n rm.cells rm.slots (.invokespecial idx, nn + 1, zri f) := by
  intro cs ss pc L S vs g g' o hc hs hdg hlen h8 hf k hn H locs ls hL hG hS
  have hf2 := hf
  dsimp only at hf2
  unfold zri at hf2
  split at hf2
  · rename_i a As
    have hrun := va_runI (e := e) (below := below) (meth := meth) (As := As.map (ztv w)) (rest := S.map (ztv w)) (g := F0 m pc ls ((((Value.ref a :: As).reverse ++ S)).map (ztv w))) (cells := cs) (slots := ss) (locs := locs) (H := H) ⟨cx.hx, cx.hb, cx.hml, cx.hown, cx.hall⟩ (hct _ _ _ _ hf2) ⟨zcallB cx hcode hlink hini hd hR, hy1, cx.hts hin rfl⟩ ⟨zPc_blind, zpre cx (vs := .ref a :: As) hG hS⟩ rfl (by simp at hlen ⊢; exact hlen) (by show ls.size = n; rw [hL.2.1]; exact hn) (by show List.map _ _ = _; simp [ztv]) (lv_room (Nat.le_trans (wsum_tv S) h8)) hdg ⟨hc, hs⟩
    refine run_then hrun hS fun H1 locs1 hG1 hS1 => ?_
    have k1 := k hn H1 locs1 ls hL hG1 hS1
    cases o <;> exact k1
  · cases hf2
theorem call_IN (cx : CX w p s m args c cc n own) {y : MethodName} {host : String} {bytes : ByteArray} {maxL idx nn : Nat} {rm : Room} {f : Ex} (hct : CT w l y bytes maxL none rm f) (hy1 : y.name = "<init>") (hcode : Cond.code y bytes maxL none ∈ lw_tbl) (hlink : Cond.methodLinkNest own idx y host ∈ zN) (hini : Cond.initialized y.cls ∈ lw_tbl) (hin : Cond.instanceMethod y ∈ lw_tbl)
    (hd : y.cls ≠ "java/lang/invoke/MethodHandle" ∧ y.cls ≠ "java/lang/invoke/VarHandle" ∧ (parseMethodDescriptor y.desc).map (fun d => d.parameters.length) = some nn) (hR : rm.frames + 1 ≤ R.frames ∧ 8 + (maxL + 11) + rm.locals ≤ R.locals) :
    CallOk w b p l e R s m args below meth c Q cc n rm.cells rm.slots (.invokespecial idx, nn + 1, zri f) := by
  intro cs ss pc L S vs g g' o hc hs hdg hlen h8 hf k hn H locs ls hL hG hS
  have hf2 := hf
  dsimp only at hf2
  unfold zri at hf2
  split at hf2
  · rename_i a As
    have hcb := va_cnB (ws := Cond.code y bytes maxL none :: zW) (rm := rm) nn cx.hall (fun x hx => by
      rcases List.mem_cons.mp hx with rfl | hx
      · exact ⟨List.mem_filter.mpr ⟨hcode, rfl⟩, Or.inl rfl⟩
      · exact zW_good x hx) rfl rfl rfl (cx.kk.2.2.2.1 _ hlink) (cx.hts hini rfl) hd hR
    have hrun := va_runIN (e := e) (below := below) (meth := meth) (As := As.map (ztv w)) (rest := S.map (ztv w)) (g := F0 m pc ls ((((Value.ref a :: As).reverse ++ S)).map (ztv w))) (cells := cs) (slots := ss) (locs := locs) (H := H) ⟨cx.hx, cx.hb, cx.hml, cx.hown, cx.hall⟩ (hct _ _ _ _ hf2) ⟨hcb, hy1, cx.hts hin rfl⟩ ⟨zPc_blind, zpre cx (vs := .ref a :: As) hG hS⟩ rfl (by simp at hlen ⊢; exact hlen) (by show ls.size = n; rw [hL.2.1]; exact hn) (by show List.map _ _ = _; simp [ztv]) (lv_room (Nat.le_trans (wsum_tv S) h8)) hdg ⟨hc, hs⟩
    refine run_then hrun hS fun H1 locs1 hG1 hS1 => ?_
    have k1 := k hn H1 locs1 ls hL hG1 hS1
    cases o <;> exact k1
  · cases hf2
end
end
section
/-! ===== what the class uses of the JDK, as calls ===== -/
def xObj : Ex := fun vs g => match vs with
  | [.ref _] => some (.inl none, g)
  | _ => none
def xMin : Ex := fun vs g => match vs with
  | [.int x, .int y] => some (.inl (some (.int (if y < x then y else x))), g)
  | _ => none
def xMax : Ex := fun vs g => match vs with
  | [.int x, .int y] => some (.inl (some (.int (if x < y then y else x))), g)
  | _ => none
def xAbs : Ex := fun vs g => match vs with
  | [.int x] => some (.inl (some (.int (if 0 ≤ x then x else 0 - x))), g)
  | _ => none
def xCopy : Ex := fun vs g => match vs with
  | [.ref a0, .int sp, .ref a, .int dp, .int n] => match g.1 a0, g.1 a with
    | some (.inl (.inl (n0, f))), some (.inl (.inl (n1, h))) => if 0 ≤ sp.toInt ∧ 0 ≤ dp.toInt ∧ 0 ≤ n.toInt ∧ sp.toInt + n.toInt ≤ n0 ∧ dp.toInt + n.toInt ≤ n1 then
        some (.inl none, (zup g.1 a (cI n1 (va_cpy f h sp.toInt.toNat dp.toInt.toNat n.toInt.toNat)), g.2))
      else none
    | _, _ => none
  | _ => none
def xRaw : Ex := fun vs g => match vs with
  | [.double x] => some (.inl (some (.long x.toInt64)), g)
  | _ => none
def yRaw : MethodName := ⟨"java/lang/Double", "doubleToRawLongBits", "(D)J"⟩
section
variable {w : Wd} {b : Bool} {p : Program} {l : Launch} {e : Jvm.Env} {R : Room} {s : State} {m : MethodId} {args : Array Value} {below : List Frame} {meth : Method} {c : Code} {Q : State → Prop} {cc : ByteArray} {n cs ss pc : Nat} {own : String} {E : Env}
variable {L : List (Option Value)} {S : List Value} {g g' : G} {st st' : St} {o : Option Value} {H : Heap} {locs : List Loc}
theorem call_obj (cx : CX w p s m args c cc n own) {idx : Nat} (hlink : Cond.methodLink own idx objectInit ∈ lw_tbl) (hin : Cond.instanceMethod objectInit ∈ lw_tbl) (hcode : Cond.code objectInit ⟨#[0xb1]⟩ 1 none ∈ lw_tbl) (hR : 1 ≤ R.frames ∧ 20 ≤ R.locals) :
    CallOk w b p l e R s m args below meth c Q cc n 0 0 (.invokespecial idx, 1, xObj) := by
  intro cs ss pc L S vs g g' o hc hs hdg hlen h8 hf k hn H locs ls hL hG hS
  dsimp only at hf
  unfold xObj at hf
  split at hf
  · rename_i a
    cases hf
    exact W.objInit (rest := S.map (ztv w)) cx.hx cx.hb cx.hown (cx.hts hlink rfl) (cx.hts hin rfl) (cx.hts hcode rfl) rfl (by rw [cx.hml]; show ls.size = n; rw [hL.2.1]; exact hn) rfl hdg hR.1 (by have h2 := wsum_tv (w := w) S; show 2 * 0 + _ + 12 ≤ _; omega) (k hn H locs ls hL hG hS)
  · cases hf
theorem call_min (cx : CX w p s m args c cc n own) {idx : Nat} (hlink : Cond.methodLink own idx Lib.Math.min.name ∈ lw_tbl) (hst : Cond.static Lib.Math.min.name ∈ lw_tbl) (hini : Cond.initialized "java/lang/Math" ∈ lw_tbl) (hcode : Cond.code Lib.Math.min.name Lib.Math.min.code 2 (some .int) ∈ lw_tbl) (hR : 1 ≤ R.frames ∧ 21 ≤ R.locals) :
    CallOk w b p l e R s m args below meth c Q cc n 0 0 (.invokestatic idx, 2, xMin) := by
  intro cs ss pc L S vs g g' o hc hs hdg hlen h8 hf k hn H locs ls hL hG hS
  dsimp only at hf
  unfold xMin at hf
  split at hf
  · rename_i x y
    cases hf
    exact va_mmin (rest := S.map (ztv w)) cx.hx cx.hb (by rw [cx.hml, hL.2.1]; exact hn.symm) cx.hown (cx.hts hlink rfl) (cx.hts hst rfl) (cx.hts hini rfl) (cx.hts hcode rfl) hR.1 (by have h2 := wsum_tv (w := w) S; omega) (by omega) (by omega) hdg (k hn H locs ls hL hG hS)
  · cases hf
theorem call_max (cx : CX w p s m args c cc n own) {idx : Nat} (hlink : Cond.methodLink own idx Lib.Math.max.name ∈ lw_tbl) (hst : Cond.static Lib.Math.max.name ∈ lw_tbl) (hini : Cond.initialized "java/lang/Math" ∈ lw_tbl) (hcode : Cond.code Lib.Math.max.name Lib.Math.max.code 2 (some .int) ∈ lw_tbl) (hR : 1 ≤ R.frames ∧ 21 ≤ R.locals) :
    CallOk w b p l e R s m args below meth c Q cc n 0 0 (.invokestatic idx, 2, xMax) := by
  intro cs ss pc L S vs g g' o hc hs hdg hlen h8 hf k hn H locs ls hL hG hS
  dsimp only at hf
  unfold xMax at hf
  split at hf
  · rename_i x y
    cases hf
    exact va_mmax (rest := S.map (ztv w)) cx.hx cx.hb (by rw [cx.hml, hL.2.1]; exact hn.symm) cx.hown (cx.hts hlink rfl) (cx.hts hst rfl) (cx.hts hini rfl) (cx.hts hcode rfl) hR.1 (by have h2 := wsum_tv (w := w) S; omega) (by omega) (by omega) hdg (k hn H locs ls hL hG hS)
  · cases hf
theorem call_abs (cx : CX w p s m args c cc n own) {idx : Nat} (hlink : Cond.methodLink own idx Lib.Math.abs.name ∈ lw_tbl) (hst : Cond.static Lib.Math.abs.name ∈ lw_tbl) (hini : Cond.initialized "java/lang/Math" ∈ lw_tbl) (hcode : Cond.code Lib.Math.abs.name Lib.Math.abs.code 1 (some .int) ∈ lw_tbl) (hR : 1 ≤ R.frames ∧ 21 ≤ R.locals) :
    CallOk w b p l e R s m args below meth c Q cc n 0 0 (.invokestatic idx, 1, xAbs) := by
  intro cs ss pc L S vs g g' o hc hs hdg hlen h8 hf k hn H locs ls hL hG hS
  dsimp only at hf
  unfold xAbs at hf
  split at hf
  · rename_i x
    cases hf
    exact va_mabs (rest := S.map (ztv w)) cx.hx cx.hb (by rw [cx.hml, hL.2.1]; exact hn.symm) cx.hown (cx.hts hlink rfl) (cx.hts hst rfl) (cx.hts hini rfl) (cx.hts hcode rfl) hR.1 (by have h2 := wsum_tv (w := w) S; omega) (by omega) (by omega) hdg (k hn H locs ls hL hG hS)
  · cases hf
theorem call_copy (cx : CX w p s m args c cc n own) {idx : Nat} (hlink : Cond.methodLink own idx arraycopyName ∈ lw_tbl) (hnat : Cond.native arraycopyName ∈ lw_tbl) (hst : Cond.static arraycopyName ∈ lw_tbl) (hini : Cond.initialized "java/lang/System" ∈ lw_tbl) (hR : 1 ≤ R.frames ∧ 60 ≤ R.locals) :
    CallOk w b p l e R s m args below meth c Q cc n 0 0 (.invokestatic idx, 5, xCopy) := by
  intro cs ss pc L S vs g g' o hc hs hdg hlen h8 hf k hn H locs ls hL hG hS
  dsimp only at hf
  unfold xCopy at hf
  split at hf
  · rename_i a0 sp a dp nn
    split at hf
    · rename_i n0 f n1 h hM0 hM1
      split at hf
      · rename_i hq
        cases hf
        obtain ⟨q1, q2, q3, q4, q5⟩ := hq
        have neg : ∀ z : Int32, 0 ≤ z.toInt → ¬ z < 0 := fun z hz hl => by
          have := Int32.lt_iff_toInt_lt.mp hl
          simp at this; omega
        have nn0 : ∀ z : Int32, z.toNatClampNeg = z.toInt.toNat := fun z => rfl
        obtain ⟨h40, hat0⟩ := hG.1 _ _ hM0
        obtain ⟨h41, hat1⟩ := hG.1 _ _ hM1
        have hnw : nativeFrameWords "java/lang/System" "arraycopy" 5 + 11 ≤ 52 := by decide +kernel
        -- the cells, and the step
        intro T hT X
        have hc0 : H[zad w a0]? = some (vp_cell (w.2.2.2.1 0) (n0, .inl f)) := hat0
        have hc1 : H[zad w a]? = some (vp_cell (w.2.2.2.1 0) (n1, .inl h)) := hat1
        obtain ⟨-, k0, hk0, cm0, hkk0⟩ := (cx.kk.1.2 0 _ rfl).1 n0 (fun j => .int (f j))
        obtain ⟨-, k1, hk1, cm1, hkk1⟩ := (cx.kk.1.2 0 _ rfl).1 n1 (fun j => .int (h j))
        have h4 : sp.toNatClampNeg + nn.toNatClampNeg ≤ n0 := by rw [nn0, nn0]; omega
        obtain ⟨vm', X', step⟩ := X.arraycopy cx.hx cx.hown (cx.hts hlink rfl) (cx.hts hnat rfl) (cx.hts hst rfl) (cx.hts hini rfl) (src := zad w a0) (dst := zad w a) (cs := vp_cell (w.2.2.2.1 0) (n0, .inl f)) (cd := vp_cell (w.2.2.2.1 0) (n1, .inl h)) (srcPos := sp) (destPos := dp) (n := nn) (by rw [hT]; exact hc0) (by rw [hT]; exact hc1)
          (fun _ h => by cases h) (fun _ h => by cases h) (fun h => by cases h) (fun h => by cases h) hk0 hk1 hkk0 hkk1 (by simp [refKind]) (neg sp q1) (neg dp q2) (neg nn q3)
          (by show ¬ _ > ((arrV _ n0 (fun j => .int (f j))).slots.size : Int); rw [arrV_size]; omega)
          (by show ¬ _ > ((arrV _ n1 (fun j => .int (h j))).slots.size : Int); rw [arrV_size]; omega)
          (fun vm₁ _ i hi => by
            have e : (vp_cell (w.2.2.2.1 0) (n0, .inl f)).slots.getD (sp.toNatClampNeg + i) .null = .int (f (sp.toNatClampNeg + i)) := by
              show (arrV _ n0 (fun j => .int (f j))).slots.getD _ _ = _
              rw [Array.getD_eq_getD_getElem?, arrV_read _ _ (by omega)]
              rfl
            refine ⟨?_, ?_⟩
            · rw [e]; rfl
            · rw [e]; exact trivial)
          (g := F0 m pc ls (.int nn :: .int dp :: .ref (zad w a) :: .int sp :: .ref (zad w a0) :: S.map (ztv w))) rfl (by rw [cx.hml]; show ls.size = n; rw [hL.2.1]; exact hn) (rest := S.map (ztv w)) rfl (by rw [cx.hb]; exact hdg) hR.1 (by have h2 := wsum_tv (w := w) S; show 2 * 0 + _ + _ ≤ _; omega)
        have e1 : copied (vp_cell (w.2.2.2.1 0) (n0, .inl f)) (vp_cell (w.2.2.2.1 0) (n1, .inl h)) sp dp nn = vp_cell (w.2.2.2.1 0) (n1, .inl (va_cpy f h sp.toNatClampNeg dp.toNatClampNeg nn.toNatClampNeg)) := va_copied (fun z => .int z) _ _ f h h4
        rw [e1] at X' step
        have hl : zad w a < H.size := (Array.getElem?_eq_some_iff.mp hc1).1
        have hheap : ((T.setVm vm').setCell (zad w a) (vp_cell (w.2.2.2.1 0) (n1, .inl (va_cpy f h sp.toNatClampNeg dp.toNatClampNeg nn.toNatClampNeg)))).heap = H.setIfInBounds (zad w a) (vp_cell (w.2.2.2.1 0) (n1, .inl (va_cpy f h sp.toNatClampNeg dp.toNatClampNeg nn.toNatClampNeg))) := by rw [← hT]; rfl
        have oq : ∀ q : Nat, q ≠ zad w a → (H.setIfInBounds (zad w a) (vp_cell (w.2.2.2.1 0) (n1, .inl (va_cpy f h sp.toNatClampNeg dp.toNatClampNeg nn.toNatClampNeg))))[q]? = H[q]? := fun q hq => by simp [Array.getElem?_setIfInBounds, Ne.symm hq]
        obtain ⟨t, a1, b1⟩ := k hn _ _ ls hL (hG.put (c1 := cI n1 (va_cpy f h sp.toInt.toNat dp.toInt.toNat nn.toInt.toNat)) hM1 (by simp) oq (show (H.setIfInBounds (zad w a) _)[zad w a]? = some _ by simp [Array.getElem?_setIfInBounds, hl]; try rfl)) ⟨by simp; exact hS.1, fun q g1 g2 => by
            rw [oq q (fun e => g2 (by rw [e]; exact zad_ge h41))]
            exact hS.2.1 q g1 g2, fun q hq => by
            rcases List.mem_append.mp hq with h | h
            · exact hS.2.2 q h
            · obtain ⟨z, -, hz⟩ := List.mem_map.mp h
              rw [← hz]
              exact zad_ge h41⟩ _ hheap X'
        exact ⟨t, step t a1, b1⟩
      · cases hf
    · cases hf
  · cases hf
theorem call_raw (cx : CX w p s m args c cc n own) {idx : Nat} (hlink : Cond.methodLink own idx yRaw ∈ lw_tbl) (hnat : Cond.native yRaw ∈ lw_tbl) (hst : Cond.static yRaw ∈ lw_tbl) (hini : Cond.initialized "java/lang/Double" ∈ lw_tbl) (hR : 1 ≤ R.frames ∧ 60 ≤ R.locals) :
    CallOk w b p l e R s m args below meth c Q cc n 0 0 (.invokestatic idx, 1, xRaw) := by
  intro cs ss pc L S vs g g' o hc hs hdg hlen h8 hf k hn H locs ls hL hG hS
  dsimp only at hf
  unfold xRaw at hf
  split at hf
  · rename_i x
    cases hf
    intro T hT X
    have hnw : nativeFrameWords "java/lang/Double" "doubleToRawLongBits" 2 + 11 ≤ 52 := by decide +kernel
    obtain ⟨r, kS, methS, hnS, hmS, hkS, N⟩ := NativeOf.of_static (cx.hts hnat rfl) (cx.hts hst rfl) (ps := [.double]) (ret := some .long) (by decide +kernel)
    have hinitS : kS.init = .initialized := Cond.initialized_spec (findClass_of_methodNamed hnS) hkS (cx.hts hini rfl)
    obtain ⟨vm', X', step⟩ := X.invokestatic cx.hx cx.hown (cx.hts hlink rfl) hnS hmS N.static hkS hinitS (by decide) (g := F0 m pc ls (.double x :: S.map (ztv w))) rfl (argsL := [.double x]) (rest := S.map (ztv w)) (by rw [N.sig]; rfl) rfl (by rw [cx.hb]; exact hdg)
    obtain ⟨t, a1, b1⟩ := k hn H locs ls hL hG hS (T.setVm vm') hT X'
    refine ⟨t, step t fun acts => ?_, b1⟩
    obtain ⟨kS', N'⟩ := N.alike X'.warmed.alike
    exact Steps.doubleToRawLongBitsOf (g := F0 m pc ls (S.map (ztv w))) (ig := .invokestatic idx) (len := 3) p X'.here acts N' x (X'.notFull (g := F0 m pc ls (S.map (ztv w))) (by show ls.size = _; rw [cx.hml, hL.2.1]; exact hn) (vars := nativeFrameWords "java/lang/Double" "doubleToRawLongBits" 2) hR.1 (by have h2 := wsum_tv (w := w) S; show 2 * 0 + ((S.map (ztv w)).map fun v => v.category).sum + _ ≤ _; omega)) (by rw [cx.hb]; exact hdg) a1
  · cases hf
end
end
section
/-! ===== what a method's proof uses ===== -/
theorem tb_mem {x : Cond} (k : Nat) (h : tables_1[k]? = some x) : x ∈ lw_tbl := List.mem_append_right _ (List.mem_of_getElem? h)
theorem tb_priv (k : Nat) {y : MethodName} {n : Nat} (h : lw_privs[k]? = some (y, n)) : Cond.selects y.cls y y ∈ lw_tbl := List.mem_append_left _ (List.mem_map.mpr ⟨(y, n), List.mem_of_getElem? h, rfl⟩)
def zST : Nat → Option (Nat × (Nat → Int32))
  | 0 => some (4, fun j => match j with
    | 0 => 20
    | 1 => 1
    | 2 => 1
    | _ => 0)
  | 1 => some (4, fun j => match j with
    | 0 => 1
    | _ => 0)
  | 2 => some (4, fun j => match j with
    | 0 => 100
    | 1 => 5
    | 2 => 9
    | _ => 2)
  | _ => none
def zWok (w : Wd) : Prop := ∀ k a, zST k = some a → w.2.2.2.2 k = some a
/-- enough for any loop of the system -/
def zFU : Nat := 5000
def zres (r : Res) : Option (Out × G) := match r with
  | some (.inr (.inr (.inr x))) => some x
  | _ => none
def MC (w : Wd) (b : Bool) (p : Program) (l : Launch) (e : Jvm.Env) (R : Room) (s : State) (m : MethodId) (args : Array Value) (below : List Frame) (meth : Method) (c : Code) (Q : State → Prop) (cc : ByteArray) (n : Nat) (own : String) (E : Env) (mc ms : Nat) (F : Out → G → Prop) (ret : Option FieldType) : Prop :=
  CX w p s m args c cc n own ∧ EnvOk w b p l e R s m args below meth c Q cc n own E ∧ zQok w p l e R s m args below meth c Q mc ms F ∧ meth.sig.returnType = ret ∧ meth.locks = false
section
variable {w : Wd} {b : Bool} {p : Program} {l : Launch} {e : Jvm.Env} {R : Room} {s : State} {m : MethodId} {args : Array Value} {below : List Frame} {meth : Method} {c : Code} {Q : State → Prop} {cc : ByteArray} {n cs ss pc : Nat} {own : String} {E : Env}
variable {mc ms pe p1 c1 s1 tgt : Nat} {F : Out → G → Prop} {ret : Option FieldType} {kb kc : St → Prop} {is : List Instr}
theorem zz : 0 ≤ R.cells ∧ 0 ≤ R.slots := ⟨Nat.zero_le _, Nat.zero_le _⟩
theorem m_blk (h : MC w b p l e R s m args below meth c Q cc n own E mc ms F ret) (hR : cs ≤ R.cells ∧ ss ≤ R.slots) (hz : zck cc pc is = some pe) : Sn (zK w b p l e R s m args below meth c Q n) F kb kc cs ss pc (blk E is) cs ss pe :=
  sn_blk fun _ _ hr k => run_sound h.1 h.2.1 hR is hz hr k
theorem m_cat {j : Instr} (h : MC w b p l e R s m args below meth c Q cc n own E mc ms F ret) (hR : cs ≤ R.cells ∧ ss ≤ R.slots) (hz : zck cc pc is = some p1) (hd : decode cc p1 = .ok (j, 3)) (ht : (p1 : Int) + zoff j = (tgt : Int)) : Sc (zK w b p l e R s m args below meth c Q n) cs ss pc (cat E is j) tgt (p1 + 3) := sc_cat h.1 h.2.1 hR hz hd ht
theorem m_goto {off : Int} (h : MC w b p l e R s m args below meth c Q cc n own E mc ms F ret) (hd : decode cc pc = .ok (.goto off, 3)) (ht : (pc : Int) + off = (tgt : Int)) (st : St) (k : zK w b p l e R s m args below meth c Q n cs ss tgt st) : zK w b p l e R s m args below meth c Q n cs ss pc st := k_goto h.1 hd ht st k
theorem m_rti (h : MC w b p l e R s m args below meth c Q cc n own E mc ms F (some .int)) (hR : cs ≤ R.cells ∧ ss ≤ R.slots) (hz : zck cc pc is = some p1) (hd : decode cc p1 = .ok (.ireturn, 1)) (hc : cs ≤ mc) (hs : ss ≤ ms) : Sn (zK w b p l e R s m args below meth c Q n) F kb kc cs ss pc (rti E is) c1 s1 pe :=
  sn_rti h.2.2.1 h.1 h.2.2.2.1 h.2.2.2.2 (fun _ _ hr k => run_sound h.1 h.2.1 hR is hz hr k) hd hc hs
theorem m_rtz (h : MC w b p l e R s m args below meth c Q cc n own E mc ms F (some .boolean)) (hR : cs ≤ R.cells ∧ ss ≤ R.slots) (hz : zck cc pc is = some p1) (hd : decode cc p1 = .ok (.ireturn, 1)) (hc : cs ≤ mc) (hs : ss ≤ ms) : Sn (zK w b p l e R s m args below meth c Q n) F kb kc cs ss pc (rtz E is) c1 s1 pe :=
  sn_rtz h.2.2.1 h.1 h.2.2.2.1 h.2.2.2.2 (fun _ _ hr k => run_sound h.1 h.2.1 hR is hz hr k) hd hc hs
theorem m_rtl (h : MC w b p l e R s m args below meth c Q cc n own E mc ms F (some .long)) (hR : cs ≤ R.cells ∧ ss ≤ R.slots) (hz : zck cc pc is = some p1) (hd : decode cc p1 = .ok (.lreturn, 1)) (hc : cs ≤ mc) (hs : ss ≤ ms) : Sn (zK w b p l e R s m args below meth c Q n) F kb kc cs ss pc (rtl E is) c1 s1 pe :=
  sn_rtl h.2.2.1 h.1 h.2.2.2.1 h.2.2.2.2 (fun _ _ hr k => run_sound h.1 h.2.1 hR is hz hr k) hd hc hs
theorem m_rtd (h : MC w b p l e R s m args below meth c Q cc n own E mc ms F (some .double)) (hR : cs ≤ R.cells ∧ ss ≤ R.slots) (hz : zck cc pc is = some p1) (hd : decode cc p1 = .ok (.dreturn, 1)) (hc : cs ≤ mc) (hs : ss ≤ ms) : Sn (zK w b p l e R s m args below meth c Q n) F kb kc cs ss pc (rtd E is) c1 s1 pe :=
  sn_rtd h.2.2.1 h.1 h.2.2.2.1 h.2.2.2.2 (fun _ _ hr k => run_sound h.1 h.2.1 hR is hz hr k) hd hc hs
theorem m_rta {nmR : String} (h : MC w b p l e R s m args below meth c Q cc n own E mc ms F (some (.object nmR))) (hR : cs ≤ R.cells ∧ ss ≤ R.slots) (hz : zck cc pc is = some p1) (hd : decode cc p1 = .ok (.areturn, 1)) (hc : cs ≤ mc) (hs : ss ≤ ms) : Sn (zK w b p l e R s m args below meth c Q n) F kb kc cs ss pc (rta E is) c1 s1 pe :=
  sn_rta h.2.2.1 h.1 h.2.2.2.1 h.2.2.2.2 (fun _ _ hr k => run_sound h.1 h.2.1 hR is hz hr k) hd hc hs
theorem m_rtv (h : MC w b p l e R s m args below meth c Q cc n own E mc ms F none) (hR : cs ≤ R.cells ∧ ss ≤ R.slots) (hz : zck cc pc is = some p1) (hd : decode cc p1 = .ok (.return_, 1)) (hc : cs ≤ mc) (hs : ss ≤ ms) : Sn (zK w b p l e R s m args below meth c Q n) F kb kc cs ss pc (rtv E is) c1 s1 pe :=
  sn_rtv h.2.2.1 h.1 h.2.2.2.1 h.2.2.2.2 (fun _ _ hr k => run_sound h.1 h.2.1 hR is hz hr k) hd hc hs
theorem m_sw {cl : List (Int32 × Dn)} {d : Dn} {pd : Nat} (h : MC w b p l e R s m args below meth c Q cc n own E mc ms F ret) (hR : cs ≤ R.cells ∧ ss ≤ R.slots) (tl : List (Int32 × Nat)) (hz : zck cc pc is = some p1) (hd : zsw cc p1 tl pd = true) (hs : SwL (zK w b p l e R s m args below meth c Q n) F kb kc cs ss c1 s1 pe tl cl) (hdf : Sn (zK w b p l e R s m args below meth c Q n) F kb kc cs ss pd d c1 s1 pe) : Sn (zK w b p l e R s m args below meth c Q n) F kb kc cs ss pc (swi E is cl d) c1 s1 pe :=
  sn_sw tl (fun st L x S g hr k => sw_sound h.1 h.2.1 hR hz hd st L x S g hr k) hs hdf
theorem m_fo {f : List Nat} (st : St) (k : zK w b p l e R s m args below meth c Q n cs ss pc (zforget st.1 f, st.2)) : zK w b p l e R s m args below meth c Q n cs ss pc st := k_fo st k
theorem swl_nil {K : Kp} {c0 s0 : Nat} : SwL K F kb kc c0 s0 c1 s1 pe [] [] := trivial
theorem swl_cons {K : Kp} {c0 s0 pk : Nat} {k : Int32} {tl : List (Int32 × Nat)} {cl : List (Int32 × Dn)} {a : Dn} (h1 : Sn K F kb kc c0 s0 pk a c1 s1 pe) (h2 : SwL K F kb kc c0 s0 c1 s1 pe tl cl) : SwL K F kb kc c0 s0 c1 s1 pe ((k, pk) :: tl) ((k, a) :: cl) := ⟨rfl, h1, h2⟩
theorem ct_plain {y : MethodName} {rm : Room} {d : Dn} (hy : plainName y.cls = true)
    (heo : ∀ (p : Program) (e : Jvm.Env) (s : State) (m : MethodId) (args : Array Value) (below : List Frame) (meth : Method) (c : Code) (Q : State → Prop), CX w p s m args c cc n y.cls → meth.name = y.name → EnvOk w b p l e rm s m args below meth c Q cc n y.cls E)
    (body : ∀ (p : Program) (e : Jvm.Env) (s : State) (m : MethodId) (args : Array Value) (below : List Frame) (meth : Method) (c : Code) (Q : State → Prop) (F : Out → G → Prop), MC w b p l e rm s m args below meth c Q cc n y.cls E rm.cells rm.slots F ret → Sn (zK w b p l e rm s m args below meth c Q n) F (fun _ => False) (fun _ => False) 0 0 0 d rm.cells rm.slots pe) : CT w l y cc n ret rm (exb b n d) :=
  ct_of hy fun p e s m args below meth c o g' hm => body p e s m args below meth c _ _ ⟨hm.1, heo p e s m args below meth c _ hm.1 hm.2.2.2, zQok_plain, hm.2.1, hm.2.2.1⟩
end
/-- a method's entry, its locals laid out -/
theorem q_of {b : Bool} {n : Nat} {d : Dn} {vs : List Value} {g : G} (L : List (Option Value)) (h : zpad n (zsl vs) = L) (hl : (zsl vs).length ≤ n) (hb : b = false ∨ zc1 vs = true) : exb b n d vs g = zres (d (L, [], g)) := by
  have h1 : exb b n d vs g = exm n d vs g := by
    unfold exb
    rcases hb with rfl | hb
    · rfl
    · rw [hb]; cases b <;> rfl
  rw [h1, exm, if_pos hl, h]
  rfl
theorem q_ofV {b : Bool} {n ci : Nat} {d : Dn} {a : Nat} {As : List Value} {M : Hp} {nx : Nat} {fs : List Value} (L : List (Option Value)) (hM : M a = some (cO ci fs)) (h : zpad n (zsl (.ref a :: As)) = L) (hl : (zsl (.ref a :: As)).length ≤ n) (hb : b = false ∨ zc1 (.ref a :: As) = true) : zrv ci (exb b n d) (.ref a :: As) (M, nx) = zres (d (L, [], (M, nx))) := by
  show (match M a with | some (.inr (cj, _)) => if cj = ci then exb b n d (.ref a :: As) (M, nx) else none | _ => none) = _
  rw [hM]
  show (if ci = ci then exb b n d (.ref a :: As) (M, nx) else none) = _
  rw [if_pos rfl]
  exact q_of L h hl hb
theorem q_ofI {b : Bool} {n : Nat} {d : Dn} {a : Nat} {As : List Value} {g : G} (L : List (Option Value)) (h : zpad n (zsl (.ref a :: As)) = L) (hl : (zsl (.ref a :: As)).length ≤ n) (hb : b = false ∨ zc1 (.ref a :: As) = true) : zri (exb b n d) (.ref a :: As) g = zres (d (L, [], g)) := q_of L h hl hb
end
section
/-! names and codes of the methods -/
def y_Hist_stateAt : MethodName := ⟨"CoilSlits$History", "stateAt", "(I)LCoilSlits$Yard;"⟩
abbrev b_Hist_stateAt : ByteArray := prog_4_method_5_code
def y_Grid_copyFrom : MethodName := ⟨"CoilSlits$Grid", "copyFrom", "(LCoilSlits$Grid;)V"⟩
abbrev b_Grid_copyFrom : ByteArray := prog_3_method_5_code
def y_Row_copyFrom : MethodName := ⟨"CoilSlits$Row", "copyFrom", "(LCoilSlits$Row;)V"⟩
abbrev b_Row_copyFrom : ByteArray := prog_5_method_5_code
def y_Yard_copyFrom : MethodName := ⟨"CoilSlits$Yard", "copyFrom", "(LCoilSlits$Yard;)V"⟩
abbrev b_Yard_copyFrom : ByteArray := prog_6_method_2_code
def y_Hist_save : MethodName := ⟨"CoilSlits$History", "save", "(LCoilSlits$Yard;)V"⟩
abbrev b_Hist_save : ByteArray := prog_4_method_3_code
def y_Grid_get : MethodName := ⟨"CoilSlits$Grid", "get", "(II)I"⟩
abbrev b_Grid_get : ByteArray := prog_3_method_2_code
def y_Yard_dearestBehind : MethodName := ⟨"CoilSlits$Yard", "dearestBehind", "(II)I"⟩
abbrev b_Yard_dearestBehind : ByteArray := prog_6_method_44_code
def y_Row_get : MethodName := ⟨"CoilSlits$Row", "get", "(I)I"⟩
abbrev b_Row_get : ByteArray := prog_5_method_2_code
def y_Yard_widthTaken : MethodName := ⟨"CoilSlits$Yard", "widthTaken", "(I)I"⟩
abbrev b_Yard_widthTaken : ByteArray := prog_6_method_35_code
def y_Yard_mismatch : MethodName := ⟨"CoilSlits$Yard", "mismatch", "(III)I"⟩
abbrev b_Yard_mismatch : ByteArray := prog_6_method_37_code
def y_Yard_coilsAbove : MethodName := ⟨"CoilSlits$Yard", "coilsAbove", "(I)I"⟩
abbrev b_Yard_coilsAbove : ByteArray := prog_6_method_14_code
def y_Yard_canDig : MethodName := ⟨"CoilSlits$Yard", "canDig", "(I)Z"⟩
abbrev b_Yard_canDig : ByteArray := prog_6_method_22_code
def y_Yard_stripsIn : MethodName := ⟨"CoilSlits$Yard", "stripsIn", "(II)I"⟩
abbrev b_Yard_stripsIn : ByteArray := prog_6_method_36_code
def y_Yard_worthByRule : MethodName := ⟨"CoilSlits$Yard", "worthByRule", "(III)I"⟩
abbrev b_Yard_worthByRule : ByteArray := prog_6_method_40_code
def y_Yard_choose : MethodName := ⟨"CoilSlits$Yard", "choose", "(I)I"⟩
abbrev b_Yard_choose : ByteArray := prog_6_method_39_code
def y_Slit_stackOf : MethodName := ⟨"CoilSlits", "stackOf", "(I)I"⟩
abbrev b_Slit_stackOf : ByteArray := prog_1_method_32_code
def y_Yard_emptiestBeside : MethodName := ⟨"CoilSlits$Yard", "emptiestBeside", "(I)I"⟩
abbrev b_Yard_emptiestBeside : ByteArray := prog_6_method_24_code
def y_Grid_copyRow : MethodName := ⟨"CoilSlits$Grid", "copyRow", "(II)V"⟩
abbrev b_Grid_copyRow : ByteArray := prog_3_method_4_code
def y_Grid_put : MethodName := ⟨"CoilSlits$Grid", "put", "(III)V"⟩
abbrev b_Grid_put : ByteArray := prog_3_method_3_code
def y_Row_add : MethodName := ⟨"CoilSlits$Row", "add", "(II)V"⟩
abbrev b_Row_add : ByteArray := prog_5_method_4_code
def y_Yard_moveTop : MethodName := ⟨"CoilSlits$Yard", "moveTop", "(II)I"⟩
abbrev b_Yard_moveTop : ByteArray := prog_6_method_20_code
def y_Yard_digOut : MethodName := ⟨"CoilSlits$Yard", "digOut", "(I)I"⟩
abbrev b_Yard_digOut : ByteArray := prog_6_method_23_code
def y_Yard_takeTop : MethodName := ⟨"CoilSlits$Yard", "takeTop", "(I)V"⟩
abbrev b_Yard_takeTop : ByteArray := prog_6_method_19_code
def y_Yard_putOnTop : MethodName := ⟨"CoilSlits$Yard", "putOnTop", "(IIIII)I"⟩
abbrev b_Yard_putOnTop : ByteArray := prog_6_method_18_code
def y_Yard_cutTop : MethodName := ⟨"CoilSlits$Yard", "cutTop", "(II)I"⟩
abbrev b_Yard_cutTop : ByteArray := prog_6_method_41_code
def y_Yard_dropOrder : MethodName := ⟨"CoilSlits$Yard", "dropOrder", "(I)V"⟩
abbrev b_Yard_dropOrder : ByteArray := prog_6_method_29_code
def y_Yard_dropIfDone : MethodName := ⟨"CoilSlits$Yard", "dropIfDone", "(I)V"⟩
abbrev b_Yard_dropIfDone : ByteArray := prog_6_method_30_code
def y_Yard_fulfil : MethodName := ⟨"CoilSlits$Yard", "fulfil", "(I)I"⟩
abbrev b_Yard_fulfil : ByteArray := prog_6_method_42_code
def y_Yard_fulfilEach : MethodName := ⟨"CoilSlits$Yard", "fulfilEach", "()I"⟩
abbrev b_Yard_fulfilEach : ByteArray := prog_6_method_43_code
def y_Slit_serveAll : MethodName := ⟨"CoilSlits", "serveAll", "()I"⟩
abbrev b_Slit_serveAll : ByteArray := prog_1_method_10_code
def y_Slit_clearBuffer : MethodName := ⟨"CoilSlits", "clearBuffer", "()I"⟩
abbrev b_Slit_clearBuffer : ByteArray := prog_1_method_13_code
def y_Read_restart : MethodName := ⟨"CoilSlits$CoilReader", "restart", "()V"⟩
abbrev b_Read_restart : ByteArray := prog_2_method_2_code
def y_Read_expects : MethodName := ⟨"CoilSlits$CoilReader", "expects", "(I)Z"⟩
abbrev b_Read_expects : ByteArray := prog_2_method_9_code
def y_Read_beginsPart : MethodName := ⟨"CoilSlits$CoilReader", "beginsPart", "(I)Z"⟩
abbrev b_Read_beginsPart : ByteArray := prog_2_method_10_code
def y_Read_widens : MethodName := ⟨"CoilSlits$CoilReader", "widens", "(I)Z"⟩
abbrev b_Read_widens : ByteArray := prog_2_method_11_code
def y_Slit_within : MethodName := ⟨"CoilSlits", "within", "(III)Z"⟩
abbrev b_Slit_within : ByteArray := prog_1_method_29_code
def y_Read_takesGrade : MethodName := ⟨"CoilSlits$CoilReader", "takesGrade", "(I)Z"⟩
abbrev b_Read_takesGrade : ByteArray := prog_2_method_12_code
def y_Read_takesQuality : MethodName := ⟨"CoilSlits$CoilReader", "takesQuality", "(I)Z"⟩
abbrev b_Read_takesQuality : ByteArray := prog_2_method_13_code
def y_Slit_isStack : MethodName := ⟨"CoilSlits", "isStack", "(I)Z"⟩
abbrev b_Slit_isStack : ByteArray := prog_1_method_30_code
def y_Read_takesStack : MethodName := ⟨"CoilSlits$CoilReader", "takesStack", "(I)Z"⟩
abbrev b_Read_takesStack : ByteArray := prog_2_method_14_code
def y_Read_goesOn : MethodName := ⟨"CoilSlits$CoilReader", "goesOn", "(I)Z"⟩
abbrev b_Read_goesOn : ByteArray := prog_2_method_15_code
def y_Read_accepts : MethodName := ⟨"CoilSlits$CoilReader", "accepts", "(I)Z"⟩
abbrev b_Read_accepts : ByteArray := prog_2_method_8_code
def y_Slit_readBuffer : MethodName := ⟨"CoilSlits", "readBuffer", "()I"⟩
abbrev b_Slit_readBuffer : ByteArray := prog_1_method_38_code
def y_Slit_firstError : MethodName := ⟨"CoilSlits", "firstError", "()I"⟩
abbrev b_Slit_firstError : ByteArray := prog_1_method_14_code
def y_Row_put : MethodName := ⟨"CoilSlits$Row", "put", "(II)V"⟩
abbrev b_Row_put : ByteArray := prog_5_method_3_code
def y_Yard_changeSetting : MethodName := ⟨"CoilSlits$Yard", "changeSetting", "(II)V"⟩
abbrev b_Yard_changeSetting : ByteArray := prog_6_method_5_code
def y_Slit_beginTrial : MethodName := ⟨"CoilSlits", "beginTrial", "(I)V"⟩
abbrev b_Slit_beginTrial : ByteArray := prog_1_method_35_code
def y_Yard_tally : MethodName := ⟨"CoilSlits$Yard", "tally", "(I)I"⟩
abbrev b_Yard_tally : ByteArray := prog_6_method_3_code
def y_Slit_bestRule : MethodName := ⟨"CoilSlits", "bestRule", "()I"⟩
abbrev b_Slit_bestRule : ByteArray := prog_1_method_25_code
def y_Yard_widerThanTop : MethodName := ⟨"CoilSlits$Yard", "widerThanTop", "(I)I"⟩
abbrev b_Yard_widerThanTop : ByteArray := prog_6_method_15_code
def y_Yard_heightOf : MethodName := ⟨"CoilSlits$Yard", "heightOf", "(I)I"⟩
abbrev b_Yard_heightOf : ByteArray := prog_6_method_6_code
def y_Yard_hasRoom : MethodName := ⟨"CoilSlits$Yard", "hasRoom", "(I)Z"⟩
abbrev b_Yard_hasRoom : ByteArray := prog_6_method_7_code
def y_Slit_bestStack : MethodName := ⟨"CoilSlits", "bestStack", "()I"⟩
abbrev b_Slit_bestStack : ByteArray := prog_1_method_26_code
def y_Slit_used : MethodName := ⟨"CoilSlits", "used", "()D"⟩
abbrev b_Slit_used : ByteArray := prog_1_method_27_code
def y_Yard_coilCount : MethodName := ⟨"CoilSlits$Yard", "coilCount", "()I"⟩
abbrev b_Yard_coilCount : ByteArray := prog_6_method_11_code
def y_Yard_sumOfCoils : MethodName := ⟨"CoilSlits$Yard", "sumOfCoils", "(I)I"⟩
abbrev b_Yard_sumOfCoils : ByteArray := prog_6_method_12_code
def y_Yard_orderCount : MethodName := ⟨"CoilSlits$Yard", "orderCount", "()I"⟩
abbrev b_Yard_orderCount : ByteArray := prog_6_method_25_code
def y_Hist_kept : MethodName := ⟨"CoilSlits$History", "kept", "()I"⟩
abbrev b_Hist_kept : ByteArray := prog_4_method_2_code
def y_Slit_counted : MethodName := ⟨"CoilSlits", "counted", "(I)I"⟩
abbrev b_Slit_counted : ByteArray := prog_1_method_33_code
def y_Slit_hashed : MethodName := ⟨"CoilSlits", "hashed", "(JJ)J"⟩
abbrev b_Slit_hashed : ByteArray := prog_1_method_40_code
def y_Yard_settingNow : MethodName := ⟨"CoilSlits$Yard", "settingNow", "(I)I"⟩
abbrev b_Yard_settingNow : ByteArray := prog_6_method_4_code
def y_Yard_numberAt : MethodName := ⟨"CoilSlits$Yard", "numberAt", "(I)I"⟩
abbrev b_Yard_numberAt : ByteArray := prog_6_method_9_code
def y_Yard_coilProperty : MethodName := ⟨"CoilSlits$Yard", "coilProperty", "(II)I"⟩
abbrev b_Yard_coilProperty : ByteArray := prog_6_method_13_code
def y_Slit_hashedPlace : MethodName := ⟨"CoilSlits", "hashedPlace", "(JI)J"⟩
abbrev b_Slit_hashedPlace : ByteArray := prog_1_method_41_code
def y_Yard_suits : MethodName := ⟨"CoilSlits$Yard", "suits", "(III)Z"⟩
abbrev b_Yard_suits : ByteArray := prog_6_method_34_code
def y_Yard_coilsSuiting : MethodName := ⟨"CoilSlits$Yard", "coilsSuiting", "(I)I"⟩
abbrev b_Yard_coilsSuiting : ByteArray := prog_6_method_32_code
def y_Yard_stripsFitting : MethodName := ⟨"CoilSlits$Yard", "stripsFitting", "(I)I"⟩
abbrev b_Yard_stripsFitting : ByteArray := prog_6_method_33_code
def y_Yard_orderProperty : MethodName := ⟨"CoilSlits$Yard", "orderProperty", "(II)I"⟩
abbrev b_Yard_orderProperty : ByteArray := prog_6_method_31_code
def y_Slit_numberOfChoice : MethodName := ⟨"CoilSlits", "numberOfChoice", "(I)I"⟩
abbrev b_Slit_numberOfChoice : ByteArray := prog_1_method_34_code
def y_Slit_gained : MethodName := ⟨"CoilSlits", "gained", "(I)I"⟩
abbrev b_Slit_gained : ByteArray := prog_1_method_37_code
def y_Slit_gainOfTrial : MethodName := ⟨"CoilSlits", "gainOfTrial", "(I)I"⟩
abbrev b_Slit_gainOfTrial : ByteArray := prog_1_method_36_code
def y_Slit_hashedOrder : MethodName := ⟨"CoilSlits", "hashedOrder", "(JI)J"⟩
abbrev b_Slit_hashedOrder : ByteArray := prog_1_method_42_code
def y_Slit_bitsOf : MethodName := ⟨"CoilSlits", "bitsOf", "(D)J"⟩
abbrev b_Slit_bitsOf : ByteArray := prog_1_method_43_code
def y_Slit_digest : MethodName := ⟨"CoilSlits", "digest", "()J"⟩
abbrev b_Slit_digest : ByteArray := prog_1_method_28_code
def y_Slit_isSetting : MethodName := ⟨"CoilSlits", "isSetting", "(I)Z"⟩
abbrev b_Slit_isSetting : ByteArray := prog_1_method_31_code
def y_Read_stack : MethodName := ⟨"CoilSlits$CoilReader", "stack", "()I"⟩
abbrev b_Read_stack : ByteArray := prog_2_method_7_code
def y_Yard_emptiest : MethodName := ⟨"CoilSlits$Yard", "emptiest", "()I"⟩
abbrev b_Yard_emptiest : ByteArray := prog_6_method_16_code
def y_Read_width : MethodName := ⟨"CoilSlits$CoilReader", "width", "()I"⟩
abbrev b_Read_width : ByteArray := prog_2_method_4_code
def y_Read_grade : MethodName := ⟨"CoilSlits$CoilReader", "grade", "()I"⟩
abbrev b_Read_grade : ByteArray := prog_2_method_5_code
def y_Read_quality : MethodName := ⟨"CoilSlits$CoilReader", "quality", "()I"⟩
abbrev b_Read_quality : ByteArray := prog_2_method_6_code
def y_Yard_bringIn : MethodName := ⟨"CoilSlits$Yard", "bringIn", "(IIII)I"⟩
abbrev b_Yard_bringIn : ByteArray := prog_6_method_17_code
def y_Slit_bringInBuffer : MethodName := ⟨"CoilSlits", "bringInBuffer", "()I"⟩
abbrev b_Slit_bringInBuffer : ByteArray := prog_1_method_39_code
def y_Mod_thrown : MethodName := ⟨"CoilSlitsModel", "thrown", "()I"⟩
abbrev b_Mod_thrown : ByteArray := prog_8_method_2_code
def y_Mod_fails : MethodName := ⟨"CoilSlitsModel", "fails", "(I)I"⟩
abbrev b_Mod_fails : ByteArray := prog_8_method_3_code
def y_Mod_in : MethodName := ⟨"CoilSlitsModel", "in", "(III)Z"⟩
abbrev b_Mod_in : ByteArray := prog_8_method_4_code
def y_Mod_isStack : MethodName := ⟨"CoilSlitsModel", "isStack", "(I)Z"⟩
abbrev b_Mod_isStack : ByteArray := prog_8_method_5_code
def y_Mod_of : MethodName := ⟨"CoilSlitsModel", "of", "([III)I"⟩
abbrev b_Mod_of : ByteArray := prog_8_method_6_code
def y_Mod_by : MethodName := ⟨"CoilSlitsModel", "by", "([III)I"⟩
abbrev b_Mod_by : ByteArray := prog_8_method_7_code
def y_Mod_saves : MethodName := ⟨"CoilSlitsModel", "saves", "()V"⟩
abbrev b_Mod_saves : ByteArray := prog_8_method_8_code
def y_Mod_undo : MethodName := ⟨"CoilSlitsModel", "undo", "()I"⟩
abbrev b_Mod_undo : ByteArray := prog_8_method_9_code
def y_Mod_tries : MethodName := ⟨"CoilSlitsModel", "tries", "()V"⟩
abbrev b_Mod_tries : ByteArray := prog_8_method_10_code
def y_Mod_isAt : MethodName := ⟨"CoilSlitsModel", "isAt", "([II)Z"⟩
abbrev b_Mod_isAt : ByteArray := prog_8_method_11_code
def y_Mod_placeOf : MethodName := ⟨"CoilSlitsModel", "placeOf", "([II)I"⟩
abbrev b_Mod_placeOf : ByteArray := prog_8_method_12_code
def y_Mod_above : MethodName := ⟨"CoilSlitsModel", "above", "([II)I"⟩
abbrev b_Mod_above : ByteArray := prog_8_method_13_code
def y_Mod_orderAt : MethodName := ⟨"CoilSlitsModel", "orderAt", "([II)I"⟩
abbrev b_Mod_orderAt : ByteArray := prog_8_method_14_code
def y_Mod_far : MethodName := ⟨"CoilSlitsModel", "far", "(II)I"⟩
abbrev b_Mod_far : ByteArray := prog_8_method_15_code
def y_Mod_lays : MethodName := ⟨"CoilSlitsModel", "lays", "([IIIIIII)V"⟩
abbrev b_Mod_lays : ByteArray := prog_8_method_16_code
def y_Mod_topOf : MethodName := ⟨"CoilSlitsModel", "topOf", "([II)I"⟩
abbrev b_Mod_topOf : ByteArray := prog_8_method_17_code
def y_Mod_moves : MethodName := ⟨"CoilSlitsModel", "moves", "([III)I"⟩
abbrev b_Mod_moves : ByteArray := prog_8_method_18_code
def y_Mod_canDig : MethodName := ⟨"CoilSlitsModel", "canDig", "([II)Z"⟩
abbrev b_Mod_canDig : ByteArray := prog_8_method_19_code
def y_Mod_nearest : MethodName := ⟨"CoilSlitsModel", "nearest", "([II)I"⟩
abbrev b_Mod_nearest : ByteArray := prog_8_method_20_code
def y_Mod_digs : MethodName := ⟨"CoilSlitsModel", "digs", "([II)I"⟩
abbrev b_Mod_digs : ByteArray := prog_8_method_21_code
def y_Mod_fits : MethodName := ⟨"CoilSlitsModel", "fits", "([III)I"⟩
abbrev b_Mod_fits : ByteArray := prog_8_method_22_code
def y_Mod_reason : MethodName := ⟨"CoilSlitsModel", "reason", "([III)I"⟩
abbrev b_Mod_reason : ByteArray := prog_8_method_23_code
def y_Mod_cuts : MethodName := ⟨"CoilSlitsModel", "cuts", "([III)I"⟩
abbrev b_Mod_cuts : ByteArray := prog_8_method_24_code
def y_Mod_restOf : MethodName := ⟨"CoilSlitsModel", "restOf", "([III)I"⟩
abbrev b_Mod_restOf : ByteArray := prog_8_method_25_code
def y_Mod_chosen : MethodName := ⟨"CoilSlitsModel", "chosen", "([II)I"⟩
abbrev b_Mod_chosen : ByteArray := prog_8_method_26_code
def y_Mod_orderGoes : MethodName := ⟨"CoilSlitsModel", "orderGoes", "([II)V"⟩
abbrev b_Mod_orderGoes : ByteArray := prog_8_method_27_code
def y_Mod_slits : MethodName := ⟨"CoilSlitsModel", "slits", "([III)I"⟩
abbrev b_Mod_slits : ByteArray := prog_8_method_28_code
def y_Mod_serves : MethodName := ⟨"CoilSlitsModel", "serves", "([II)I"⟩
abbrev b_Mod_serves : ByteArray := prog_8_method_29_code
def y_Mod_nextOrder : MethodName := ⟨"CoilSlitsModel", "nextOrder", "([III)I"⟩
abbrev b_Mod_nextOrder : ByteArray := prog_8_method_30_code
def y_Mod_servesAll : MethodName := ⟨"CoilSlitsModel", "servesAll", "([I)I"⟩
abbrev b_Mod_servesAll : ByteArray := prog_8_method_31_code
def y_Mod_comes : MethodName := ⟨"CoilSlitsModel", "comes", "(IIII)I"⟩
abbrev b_Mod_comes : ByteArray := prog_8_method_32_code
def y_Mod_receive : MethodName := ⟨"CoilSlitsModel", "receive", "(IIII)I"⟩
abbrev b_Mod_receive : ByteArray := prog_8_method_33_code
def y_Mod_move : MethodName := ⟨"CoilSlitsModel", "move", "(II)I"⟩
abbrev b_Mod_move : ByteArray := prog_8_method_34_code
def y_Mod_mayDig : MethodName := ⟨"CoilSlitsModel", "mayDig", "(I)I"⟩
abbrev b_Mod_mayDig : ByteArray := prog_8_method_35_code
def y_Mod_dig : MethodName := ⟨"CoilSlitsModel", "dig", "(I)I"⟩
abbrev b_Mod_dig : ByteArray := prog_8_method_36_code
def y_Mod_sendAway : MethodName := ⟨"CoilSlitsModel", "sendAway", "(I)I"⟩
abbrev b_Mod_sendAway : ByteArray := prog_8_method_37_code
def y_Mod_order : MethodName := ⟨"CoilSlitsModel", "order", "(IIIII)I"⟩
abbrev b_Mod_order : ByteArray := prog_8_method_38_code
def y_Mod_cancel : MethodName := ⟨"CoilSlitsModel", "cancel", "(I)I"⟩
abbrev b_Mod_cancel : ByteArray := prog_8_method_39_code
def y_Mod_slit : MethodName := ⟨"CoilSlitsModel", "slit", "(II)I"⟩
abbrev b_Mod_slit : ByteArray := prog_8_method_40_code
def y_Mod_serve : MethodName := ⟨"CoilSlitsModel", "serve", "(I)I"⟩
abbrev b_Mod_serve : ByteArray := prog_8_method_41_code
def y_Mod_serveAll : MethodName := ⟨"CoilSlitsModel", "serveAll", "()I"⟩
abbrev b_Mod_serveAll : ByteArray := prog_8_method_42_code
def y_Mod_isFor : MethodName := ⟨"CoilSlitsModel", "isFor", "(II)Z"⟩
abbrev b_Mod_isFor : ByteArray := prog_8_method_43_code
def y_Mod_set : MethodName := ⟨"CoilSlitsModel", "set", "(II)I"⟩
abbrev b_Mod_set : ByteArray := prog_8_method_44_code
def y_Mod_append : MethodName := ⟨"CoilSlitsModel", "append", "(I)I"⟩
abbrev b_Mod_append : ByteArray := prog_8_method_45_code
def y_Mod_clearBuffer : MethodName := ⟨"CoilSlitsModel", "clearBuffer", "()I"⟩
abbrev b_Mod_clearBuffer : ByteArray := prog_8_method_46_code
def y_Mod_isNext : MethodName := ⟨"CoilSlitsModel", "isNext", "(II)Z"⟩
abbrev b_Mod_isNext : ByteArray := prog_8_method_47_code
def y_Mod_stops : MethodName := ⟨"CoilSlitsModel", "stops", "()Z"⟩
abbrev b_Mod_stops : ByteArray := prog_8_method_48_code
def y_Mod_isFigure : MethodName := ⟨"CoilSlitsModel", "isFigure", "(II)Z"⟩
abbrev b_Mod_isFigure : ByteArray := prog_8_method_49_code
def y_Mod_isWidth : MethodName := ⟨"CoilSlitsModel", "isWidth", "()Z"⟩
abbrev b_Mod_isWidth : ByteArray := prog_8_method_50_code
def y_Mod_isPart : MethodName := ⟨"CoilSlitsModel", "isPart", "()Z"⟩
abbrev b_Mod_isPart : ByteArray := prog_8_method_51_code
def y_Mod_isText : MethodName := ⟨"CoilSlitsModel", "isText", "()Z"⟩
abbrev b_Mod_isText : ByteArray := prog_8_method_52_code
def y_Mod_firstError : MethodName := ⟨"CoilSlitsModel", "firstError", "()I"⟩
abbrev b_Mod_firstError : ByteArray := prog_8_method_53_code
def y_Mod_lowest : MethodName := ⟨"CoilSlitsModel", "lowest", "()I"⟩
abbrev b_Mod_lowest : ByteArray := prog_8_method_54_code
def y_Mod_receiveAll : MethodName := ⟨"CoilSlitsModel", "receiveAll", "()I"⟩
abbrev b_Mod_receiveAll : ByteArray := prog_8_method_55_code
def y_Mod_coilAt : MethodName := ⟨"CoilSlitsModel", "coilAt", "(I)I"⟩
abbrev b_Mod_coilAt : ByteArray := prog_8_method_56_code
def y_Mod_at : MethodName := ⟨"CoilSlitsModel", "at", "(II)I"⟩
abbrev b_Mod_at : ByteArray := prog_8_method_57_code
def y_Mod_ofCoil : MethodName := ⟨"CoilSlitsModel", "ofCoil", "(II)I"⟩
abbrev b_Mod_ofCoil : ByteArray := prog_8_method_58_code
def y_Mod_coil : MethodName := ⟨"CoilSlitsModel", "coil", "(II)I"⟩
abbrev b_Mod_coil : ByteArray := prog_8_method_59_code
def y_Mod_ofOrder : MethodName := ⟨"CoilSlitsModel", "ofOrder", "(II)I"⟩
abbrev b_Mod_ofOrder : ByteArray := prog_8_method_60_code
def y_Mod_orderOf : MethodName := ⟨"CoilSlitsModel", "orderOf", "(II)I"⟩
abbrev b_Mod_orderOf : ByteArray := prog_8_method_61_code
def y_Mod_whyNot : MethodName := ⟨"CoilSlitsModel", "whyNot", "(II)I"⟩
abbrev b_Mod_whyNot : ByteArray := prog_8_method_62_code
def y_Mod_ofCoils : MethodName := ⟨"CoilSlitsModel", "ofCoils", "(I)I"⟩
abbrev b_Mod_ofCoils : ByteArray := prog_8_method_63_code
def y_Mod_counted : MethodName := ⟨"CoilSlitsModel", "counted", "(I)I"⟩
abbrev b_Mod_counted : ByteArray := prog_8_method_64_code
def y_Mod_count : MethodName := ⟨"CoilSlitsModel", "count", "(I)I"⟩
abbrev b_Mod_count : ByteArray := prog_8_method_65_code
def y_Mod_setting : MethodName := ⟨"CoilSlitsModel", "setting", "(I)I"⟩
abbrev b_Mod_setting : ByteArray := prog_8_method_66_code
def y_Mod_choiceFor : MethodName := ⟨"CoilSlitsModel", "choiceFor", "(I)I"⟩
abbrev b_Mod_choiceFor : ByteArray := prog_8_method_67_code
def y_Mod_choice : MethodName := ⟨"CoilSlitsModel", "choice", "(I)I"⟩
abbrev b_Mod_choice : ByteArray := prog_8_method_68_code
def y_Mod_byServing : MethodName := ⟨"CoilSlitsModel", "byServing", "(III)I"⟩
abbrev b_Mod_byServing : ByteArray := prog_8_method_69_code
def y_Mod_ifServed : MethodName := ⟨"CoilSlitsModel", "ifServed", "(III)I"⟩
abbrev b_Mod_ifServed : ByteArray := prog_8_method_70_code
def y_Mod_best : MethodName := ⟨"CoilSlitsModel", "best", "()I"⟩
abbrev b_Mod_best : ByteArray := prog_8_method_71_code
def y_Mod_bestRule : MethodName := ⟨"CoilSlitsModel", "bestRule", "()I"⟩
abbrev b_Mod_bestRule : ByteArray := prog_8_method_72_code
def y_Mod_wider : MethodName := ⟨"CoilSlitsModel", "wider", "(I)I"⟩
abbrev b_Mod_wider : ByteArray := prog_8_method_73_code
def y_Mod_bestPlace : MethodName := ⟨"CoilSlitsModel", "bestPlace", "()I"⟩
abbrev b_Mod_bestPlace : ByteArray := prog_8_method_74_code
def y_Mod_bestStack : MethodName := ⟨"CoilSlitsModel", "bestStack", "()I"⟩
abbrev b_Mod_bestStack : ByteArray := prog_8_method_75_code
def y_Mod_share : MethodName := ⟨"CoilSlitsModel", "share", "()D"⟩
abbrev b_Mod_share : ByteArray := prog_8_method_76_code
def y_Mod_used : MethodName := ⟨"CoilSlitsModel", "used", "()D"⟩
abbrev b_Mod_used : ByteArray := prog_8_method_77_code
def y_Dbl_isNaN : MethodName := ⟨"java/lang/Double", "isNaN", "(D)Z"⟩
abbrev b_Dbl_isNaN : ByteArray := prog_9_method_6_code
def y_Dbl_doubleToLongBits : MethodName := ⟨"java/lang/Double", "doubleToLongBits", "(D)J"⟩
abbrev b_Dbl_doubleToLongBits : ByteArray := prog_9_method_23_code
def y_Mod_digest : MethodName := ⟨"CoilSlitsModel", "digest", "()J"⟩
abbrev b_Mod_digest : ByteArray := prog_8_method_78_code
def y_Read_isComplete : MethodName := ⟨"CoilSlits$CoilReader", "isComplete", "()Z"⟩
abbrev b_Read_isComplete : ByteArray := prog_2_method_3_code
def y_Hist_restore : MethodName := ⟨"CoilSlits$History", "restore", "(LCoilSlits$Yard;)V"⟩
abbrev b_Hist_restore : ByteArray := prog_4_method_4_code
def y_Yard_hasSeen : MethodName := ⟨"CoilSlits$Yard", "hasSeen", "(I)Z"⟩
abbrev b_Yard_hasSeen : ByteArray := prog_6_method_8_code
def y_Yard_placeOf : MethodName := ⟨"CoilSlits$Yard", "placeOf", "(I)I"⟩
abbrev b_Yard_placeOf : ByteArray := prog_6_method_10_code
def y_Yard_sendTop : MethodName := ⟨"CoilSlits$Yard", "sendTop", "(I)I"⟩
abbrev b_Yard_sendTop : ByteArray := prog_6_method_21_code
def y_Yard_orderColumn : MethodName := ⟨"CoilSlits$Yard", "orderColumn", "(II)I"⟩
abbrev b_Yard_orderColumn : ByteArray := prog_6_method_26_code
def y_Yard_indexOfOrder : MethodName := ⟨"CoilSlits$Yard", "indexOfOrder", "(I)I"⟩
abbrev b_Yard_indexOfOrder : ByteArray := prog_6_method_27_code
def y_Yard_takeOrder : MethodName := ⟨"CoilSlits$Yard", "takeOrder", "(IIIII)I"⟩
abbrev b_Yard_takeOrder : ByteArray := prog_6_method_28_code
def y_Yard_reasonAgainst : MethodName := ⟨"CoilSlits$Yard", "reasonAgainst", "(II)I"⟩
abbrev b_Yard_reasonAgainst : ByteArray := prog_6_method_38_code
def y_Row_init : MethodName := ⟨"CoilSlits$Row", "<init>", "(I)V"⟩
abbrev b_Row_init : ByteArray := prog_5_method_1_code
def y_Grid_init : MethodName := ⟨"CoilSlits$Grid", "<init>", "(II)V"⟩
abbrev b_Grid_init : ByteArray := prog_3_method_1_code
def y_Yard_init : MethodName := ⟨"CoilSlits$Yard", "<init>", "()V"⟩
abbrev b_Yard_init : ByteArray := prog_6_method_1_code
def y_Hist_init : MethodName := ⟨"CoilSlits$History", "<init>", "()V"⟩
abbrev b_Hist_init : ByteArray := prog_4_method_1_code
def y_Read_init : MethodName := ⟨"CoilSlits$CoilReader", "<init>", "()V"⟩
abbrev b_Read_init : ByteArray := prog_2_method_1_code
def y_Slit_init : MethodName := ⟨"CoilSlits", "<init>", "()V"⟩
abbrev b_Slit_init : ByteArray := prog_1_method_1_code
def y_Mod_init : MethodName := ⟨"CoilSlitsModel", "<init>", "()V"⟩
abbrev b_Mod_init : ByteArray := prog_8_method_1_code
/-! the words of the tables, by their places -/
theorem tw_1 : Cond.initialized "CoilSlits" ∈ lw_tbl := tb_mem 1 (by decide +kernel)
theorem tw_2 : Cond.initialized "CoilSlits$Yard" ∈ lw_tbl := tb_mem 2 (by decide +kernel)
theorem tw_3 : Cond.initialized "CoilSlits$Grid" ∈ lw_tbl := tb_mem 3 (by decide +kernel)
theorem tw_4 : Cond.initialized "java/lang/Math" ∈ lw_tbl := tb_mem 4 (by decide +kernel)
theorem tw_5 : Cond.initialized "CoilSlits$Row" ∈ lw_tbl := tb_mem 5 (by decide +kernel)
theorem tw_6 : Cond.initialized "CoilSlits$History" ∈ lw_tbl := tb_mem 6 (by decide +kernel)
theorem tw_7 : Cond.initialized "CoilSlits$CoilReader" ∈ lw_tbl := tb_mem 7 (by decide +kernel)
theorem tw_8 : Cond.initialized "CoilSlitsModel" ∈ lw_tbl := tb_mem 8 (by decide +kernel)
theorem tw_15 : Cond.initialized "java/lang/System" ∈ lw_tbl := tb_mem 15 (by decide +kernel)
theorem tw_16 : Cond.initialized "java/lang/Double" ∈ lw_tbl := tb_mem 16 (by decide +kernel)
theorem tw_22 : Cond.methodLink "CoilSlits" 3 objectInit ∈ lw_tbl := tb_mem 22 (by decide +kernel)
theorem tw_23 : Cond.instanceMethod objectInit ∈ lw_tbl := tb_mem 23 (by decide +kernel)
set_option maxRecDepth 100000 in
theorem tw_24 : Cond.code objectInit ⟨#[0xb1]⟩ 1 none ∈ lw_tbl := tb_mem 24 rfl
theorem tw_25 : Cond.classLink "CoilSlits" 9 "CoilSlits$Yard" ∈ lw_tbl := tb_mem 25 (by decide +kernel)
theorem tw_26 : Cond.instantiable "CoilSlits$Yard" 8 ∈ lw_tbl := tb_mem 26 (by decide +kernel)
theorem tw_27 : Cond.methodLink "CoilSlits" 11 y_Yard_init ∈ lw_tbl := tb_mem 27 (by decide +kernel)
theorem tw_28 : Cond.instanceMethod y_Yard_init ∈ lw_tbl := tb_mem 28 (by decide +kernel)
set_option maxRecDepth 100000 in
theorem tw_29 : Cond.code y_Yard_init b_Yard_init 2 none ∈ lw_tbl := tb_mem 29 rfl
theorem tw_30 : Cond.methodLink "CoilSlits$Yard" 3 objectInit ∈ lw_tbl := tb_mem 30 (by decide +kernel)
theorem tw_31 : Cond.classLink "CoilSlits$Yard" 9 "CoilSlits$Grid" ∈ lw_tbl := tb_mem 31 (by decide +kernel)
theorem tw_32 : Cond.instantiable "CoilSlits$Grid" 2 ∈ lw_tbl := tb_mem 32 (by decide +kernel)
theorem tw_33 : Cond.methodLink "CoilSlits$Yard" 11 y_Grid_init ∈ lw_tbl := tb_mem 33 (by decide +kernel)
theorem tw_34 : Cond.instanceMethod y_Grid_init ∈ lw_tbl := tb_mem 34 (by decide +kernel)
set_option maxRecDepth 100000 in
theorem tw_35 : Cond.code y_Grid_init b_Grid_init 3 none ∈ lw_tbl := tb_mem 35 rfl
theorem tw_36 : Cond.methodLink "CoilSlits$Grid" 1 objectInit ∈ lw_tbl := tb_mem 36 (by decide +kernel)
theorem tw_37 : Cond.methodLink "CoilSlits$Grid" 7 Lib.Math.max.name ∈ lw_tbl := tb_mem 37 (by decide +kernel)
theorem tw_38 : Cond.static Lib.Math.max.name ∈ lw_tbl := tb_mem 38 (by decide +kernel)
set_option maxRecDepth 100000 in
theorem tw_xMax : Cond.code Lib.Math.max.name Lib.Math.max.code 2 (some .int) ∈ lw_tbl := tb_mem 39 rfl
theorem tw_47 : Cond.arrayClass .int ∈ lw_tbl := tb_mem 47 (by decide +kernel)
theorem tw_48 : Cond.classLink "CoilSlits$Yard" 20 "CoilSlits$Row" ∈ lw_tbl := tb_mem 48 (by decide +kernel)
theorem tw_49 : Cond.instantiable "CoilSlits$Row" 1 ∈ lw_tbl := tb_mem 49 (by decide +kernel)
theorem tw_50 : Cond.methodLink "CoilSlits$Yard" 22 y_Row_init ∈ lw_tbl := tb_mem 50 (by decide +kernel)
theorem tw_51 : Cond.instanceMethod y_Row_init ∈ lw_tbl := tb_mem 51 (by decide +kernel)
set_option maxRecDepth 100000 in
theorem tw_52 : Cond.code y_Row_init b_Row_init 2 none ∈ lw_tbl := tb_mem 52 rfl
theorem tw_53 : Cond.methodLink "CoilSlits$Row" 1 objectInit ∈ lw_tbl := tb_mem 53 (by decide +kernel)
theorem tw_54 : Cond.methodLink "CoilSlits$Row" 7 Lib.Math.max.name ∈ lw_tbl := tb_mem 54 (by decide +kernel)
theorem tw_59 : Cond.methodLink "CoilSlits$Yard" 38 y_Grid_put ∈ lw_tbl := tb_mem 59 (by decide +kernel)
theorem tw_60 : Cond.instanceMethod y_Grid_put ∈ lw_tbl := tb_mem 60 (by decide +kernel)
theorem tw_61 : Cond.selects y_Grid_put.cls y_Grid_put y_Grid_put ∈ lw_tbl := tb_mem 61 (by decide +kernel)
set_option maxRecDepth 100000 in
theorem tw_62 : Cond.code y_Grid_put b_Grid_put 6 none ∈ lw_tbl := tb_mem 62 rfl
theorem tw_65 : Cond.methodLink "CoilSlits$Yard" 46 y_Row_put ∈ lw_tbl := tb_mem 65 (by decide +kernel)
theorem tw_66 : Cond.instanceMethod y_Row_put ∈ lw_tbl := tb_mem 66 (by decide +kernel)
theorem tw_67 : Cond.selects y_Row_put.cls y_Row_put y_Row_put ∈ lw_tbl := tb_mem 67 (by decide +kernel)
set_option maxRecDepth 100000 in
theorem tw_68 : Cond.code y_Row_put b_Row_put 3 none ∈ lw_tbl := tb_mem 68 rfl
theorem tw_94 : Cond.classLink "CoilSlits" 19 "CoilSlits$History" ∈ lw_tbl := tb_mem 94 (by decide +kernel)
theorem tw_95 : Cond.instantiable "CoilSlits$History" 3 ∈ lw_tbl := tb_mem 95 (by decide +kernel)
theorem tw_96 : Cond.methodLink "CoilSlits" 21 y_Hist_init ∈ lw_tbl := tb_mem 96 (by decide +kernel)
theorem tw_97 : Cond.instanceMethod y_Hist_init ∈ lw_tbl := tb_mem 97 (by decide +kernel)
set_option maxRecDepth 100000 in
theorem tw_98 : Cond.code y_Hist_init b_Hist_init 2 none ∈ lw_tbl := tb_mem 98 rfl
theorem tw_99 : Cond.methodLink "CoilSlits$History" 3 objectInit ∈ lw_tbl := tb_mem 99 (by decide +kernel)
theorem tw_100 : Cond.classLink "CoilSlits$History" 9 "CoilSlits$Yard" ∈ lw_tbl := tb_mem 100 (by decide +kernel)
theorem tw_102 : Cond.methodLink "CoilSlits$History" 17 y_Yard_init ∈ lw_tbl := tb_mem 102 (by decide +kernel)
theorem tw_113 : Cond.classLink "CoilSlits" 26 "CoilSlits$Row" ∈ lw_tbl := tb_mem 113 (by decide +kernel)
theorem tw_114 : Cond.methodLink "CoilSlits" 28 y_Row_init ∈ lw_tbl := tb_mem 114 (by decide +kernel)
theorem tw_115 : Cond.classLink "CoilSlits" 35 "CoilSlits$CoilReader" ∈ lw_tbl := tb_mem 115 (by decide +kernel)
theorem tw_116 : Cond.instantiable "CoilSlits$CoilReader" 5 ∈ lw_tbl := tb_mem 116 (by decide +kernel)
theorem tw_118 : Cond.instanceMethod y_Read_init ∈ lw_tbl := tb_mem 118 (by decide +kernel)
set_option maxRecDepth 100000 in
theorem tw_119 : Cond.code y_Read_init b_Read_init 1 none ∈ lw_tbl := tb_mem 119 rfl
theorem tw_120 : Cond.methodLink "CoilSlits$CoilReader" 3 objectInit ∈ lw_tbl := tb_mem 120 (by decide +kernel)
theorem tw_160 : Cond.methodLink "CoilSlits" 70 y_Hist_save ∈ lw_tbl := tb_mem 160 (by decide +kernel)
theorem tw_161 : Cond.instanceMethod y_Hist_save ∈ lw_tbl := tb_mem 161 (by decide +kernel)
theorem tw_162 : Cond.selects y_Hist_save.cls y_Hist_save y_Hist_save ∈ lw_tbl := tb_mem 162 (by decide +kernel)
set_option maxRecDepth 100000 in
theorem tw_163 : Cond.code y_Hist_save b_Hist_save 3 none ∈ lw_tbl := tb_mem 163 rfl
theorem tw_164 : Cond.methodLink "CoilSlits$History" 25 y_Hist_stateAt ∈ lw_tbl := tb_mem 164 (by decide +kernel)
theorem tw_166 : Cond.instanceMethod y_Hist_stateAt ∈ lw_tbl := tb_mem 166 (by decide +kernel)
set_option maxRecDepth 100000 in
theorem tw_167 : Cond.code y_Hist_stateAt b_Hist_stateAt 2 (some (.object "CoilSlits$Yard")) ∈ lw_tbl := tb_mem 167 rfl
theorem tw_168 : Cond.methodLink "CoilSlits$History" 29 y_Yard_copyFrom ∈ lw_tbl := tb_mem 168 (by decide +kernel)
theorem tw_169 : Cond.instanceMethod y_Yard_copyFrom ∈ lw_tbl := tb_mem 169 (by decide +kernel)
theorem tw_170 : Cond.selects y_Yard_copyFrom.cls y_Yard_copyFrom y_Yard_copyFrom ∈ lw_tbl := tb_mem 170 (by decide +kernel)
set_option maxRecDepth 100000 in
theorem tw_171 : Cond.code y_Yard_copyFrom b_Yard_copyFrom 2 none ∈ lw_tbl := tb_mem 171 rfl
theorem tw_172 : Cond.methodLink "CoilSlits$Yard" 48 y_Grid_copyFrom ∈ lw_tbl := tb_mem 172 (by decide +kernel)
theorem tw_173 : Cond.instanceMethod y_Grid_copyFrom ∈ lw_tbl := tb_mem 173 (by decide +kernel)
theorem tw_174 : Cond.selects y_Grid_copyFrom.cls y_Grid_copyFrom y_Grid_copyFrom ∈ lw_tbl := tb_mem 174 (by decide +kernel)
set_option maxRecDepth 100000 in
theorem tw_175 : Cond.code y_Grid_copyFrom b_Grid_copyFrom 3 none ∈ lw_tbl := tb_mem 175 rfl
theorem tw_176 : Cond.methodLink "CoilSlits$Grid" 29 Lib.Math.min.name ∈ lw_tbl := tb_mem 176 (by decide +kernel)
theorem tw_177 : Cond.static Lib.Math.min.name ∈ lw_tbl := tb_mem 177 (by decide +kernel)
set_option maxRecDepth 100000 in
theorem tw_xMin : Cond.code Lib.Math.min.name Lib.Math.min.code 2 (some .int) ∈ lw_tbl := tb_mem 178 rfl
theorem tw_179 : Cond.methodLink "CoilSlits$Grid" 23 arraycopyName ∈ lw_tbl := tb_mem 179 (by decide +kernel)
theorem tw_180 : Cond.static arraycopyName ∈ lw_tbl := tb_mem 180 (by decide +kernel)
theorem tw_181 : Cond.native arraycopyName ∈ lw_tbl := tb_mem 181 (by decide +kernel)
theorem tw_182 : Cond.methodLink "CoilSlits$Yard" 52 y_Row_copyFrom ∈ lw_tbl := tb_mem 182 (by decide +kernel)
theorem tw_183 : Cond.instanceMethod y_Row_copyFrom ∈ lw_tbl := tb_mem 183 (by decide +kernel)
theorem tw_184 : Cond.selects y_Row_copyFrom.cls y_Row_copyFrom y_Row_copyFrom ∈ lw_tbl := tb_mem 184 (by decide +kernel)
set_option maxRecDepth 100000 in
theorem tw_185 : Cond.code y_Row_copyFrom b_Row_copyFrom 3 none ∈ lw_tbl := tb_mem 185 rfl
theorem tw_186 : Cond.methodLink "CoilSlits$Row" 19 Lib.Math.min.name ∈ lw_tbl := tb_mem 186 (by decide +kernel)
theorem tw_187 : Cond.methodLink "CoilSlits$Row" 22 arraycopyName ∈ lw_tbl := tb_mem 187 (by decide +kernel)
theorem tw_188 : Cond.methodLink "CoilSlits$History" 33 Lib.Math.min.name ∈ lw_tbl := tb_mem 188 (by decide +kernel)
theorem tw_189 : Cond.methodLink "CoilSlits" 148 y_Yard_fulfilEach ∈ lw_tbl := tb_mem 189 (by decide +kernel)
theorem tw_190 : Cond.instanceMethod y_Yard_fulfilEach ∈ lw_tbl := tb_mem 190 (by decide +kernel)
theorem tw_191 : Cond.selects y_Yard_fulfilEach.cls y_Yard_fulfilEach y_Yard_fulfilEach ∈ lw_tbl := tb_mem 191 (by decide +kernel)
set_option maxRecDepth 100000 in
theorem tw_192 : Cond.code y_Yard_fulfilEach b_Yard_fulfilEach 6 (some .int) ∈ lw_tbl := tb_mem 192 rfl
theorem tw_193 : Cond.methodLink "CoilSlits$Yard" 150 y_Yard_dearestBehind ∈ lw_tbl := tb_mem 193 (by decide +kernel)
theorem tw_195 : Cond.instanceMethod y_Yard_dearestBehind ∈ lw_tbl := tb_mem 195 (by decide +kernel)
set_option maxRecDepth 100000 in
theorem tw_196 : Cond.code y_Yard_dearestBehind b_Yard_dearestBehind 7 (some .int) ∈ lw_tbl := tb_mem 196 rfl
theorem tw_197 : Cond.methodLink "CoilSlits$Yard" 69 y_Grid_get ∈ lw_tbl := tb_mem 197 (by decide +kernel)
theorem tw_198 : Cond.instanceMethod y_Grid_get ∈ lw_tbl := tb_mem 198 (by decide +kernel)
theorem tw_199 : Cond.selects y_Grid_get.cls y_Grid_get y_Grid_get ∈ lw_tbl := tb_mem 199 (by decide +kernel)
set_option maxRecDepth 100000 in
theorem tw_200 : Cond.code y_Grid_get b_Grid_get 5 (some .int) ∈ lw_tbl := tb_mem 200 rfl
theorem tw_201 : Cond.methodLink "CoilSlits$Yard" 153 y_Yard_fulfil ∈ lw_tbl := tb_mem 201 (by decide +kernel)
theorem tw_202 : Cond.instanceMethod y_Yard_fulfil ∈ lw_tbl := tb_mem 202 (by decide +kernel)
theorem tw_203 : Cond.selects y_Yard_fulfil.cls y_Yard_fulfil y_Yard_fulfil ∈ lw_tbl := tb_mem 203 (by decide +kernel)
set_option maxRecDepth 100000 in
theorem tw_204 : Cond.code y_Yard_fulfil b_Yard_fulfil 6 (some .int) ∈ lw_tbl := tb_mem 204 rfl
theorem tw_205 : Cond.methodLink "CoilSlits$Yard" 138 y_Yard_choose ∈ lw_tbl := tb_mem 205 (by decide +kernel)
theorem tw_206 : Cond.instanceMethod y_Yard_choose ∈ lw_tbl := tb_mem 206 (by decide +kernel)
theorem tw_207 : Cond.selects y_Yard_choose.cls y_Yard_choose y_Yard_choose ∈ lw_tbl := tb_mem 207 (by decide +kernel)
set_option maxRecDepth 100000 in
theorem tw_208 : Cond.code y_Yard_choose b_Yard_choose 8 (some .int) ∈ lw_tbl := tb_mem 208 rfl
theorem tw_209 : Cond.methodLink "CoilSlits$Yard" 111 y_Yard_widthTaken ∈ lw_tbl := tb_mem 209 (by decide +kernel)
theorem tw_211 : Cond.instanceMethod y_Yard_widthTaken ∈ lw_tbl := tb_mem 211 (by decide +kernel)
set_option maxRecDepth 100000 in
theorem tw_212 : Cond.code y_Yard_widthTaken b_Yard_widthTaken 2 (some .int) ∈ lw_tbl := tb_mem 212 rfl
theorem tw_213 : Cond.methodLink "CoilSlits$Yard" 65 y_Row_get ∈ lw_tbl := tb_mem 213 (by decide +kernel)
theorem tw_214 : Cond.instanceMethod y_Row_get ∈ lw_tbl := tb_mem 214 (by decide +kernel)
theorem tw_215 : Cond.selects y_Row_get.cls y_Row_get y_Row_get ∈ lw_tbl := tb_mem 215 (by decide +kernel)
set_option maxRecDepth 100000 in
theorem tw_216 : Cond.code y_Row_get b_Row_get 2 (some .int) ∈ lw_tbl := tb_mem 216 rfl
theorem tw_217 : Cond.methodLink "CoilSlits$Yard" 121 y_Yard_mismatch ∈ lw_tbl := tb_mem 217 (by decide +kernel)
theorem tw_219 : Cond.instanceMethod y_Yard_mismatch ∈ lw_tbl := tb_mem 219 (by decide +kernel)
set_option maxRecDepth 100000 in
theorem tw_220 : Cond.code y_Yard_mismatch b_Yard_mismatch 4 (some .int) ∈ lw_tbl := tb_mem 220 rfl
theorem tw_221 : Cond.methodLink "CoilSlits$Yard" 125 y_Yard_canDig ∈ lw_tbl := tb_mem 221 (by decide +kernel)
theorem tw_222 : Cond.instanceMethod y_Yard_canDig ∈ lw_tbl := tb_mem 222 (by decide +kernel)
theorem tw_223 : Cond.selects y_Yard_canDig.cls y_Yard_canDig y_Yard_canDig ∈ lw_tbl := tb_mem 223 (by decide +kernel)
set_option maxRecDepth 100000 in
theorem tw_224 : Cond.code y_Yard_canDig b_Yard_canDig 5 (some .boolean) ∈ lw_tbl := tb_mem 224 rfl
theorem tw_225 : Cond.methodLink "CoilSlits$Yard" 75 y_Yard_coilsAbove ∈ lw_tbl := tb_mem 225 (by decide +kernel)
theorem tw_226 : Cond.instanceMethod y_Yard_coilsAbove ∈ lw_tbl := tb_mem 226 (by decide +kernel)
theorem tw_227 : Cond.selects y_Yard_coilsAbove.cls y_Yard_coilsAbove y_Yard_coilsAbove ∈ lw_tbl := tb_mem 227 (by decide +kernel)
set_option maxRecDepth 100000 in
theorem tw_228 : Cond.code y_Yard_coilsAbove b_Yard_coilsAbove 2 (some .int) ∈ lw_tbl := tb_mem 228 rfl
theorem tw_229 : Cond.methodLink "CoilSlits$Yard" 129 y_Yard_worthByRule ∈ lw_tbl := tb_mem 229 (by decide +kernel)
theorem tw_231 : Cond.instanceMethod y_Yard_worthByRule ∈ lw_tbl := tb_mem 231 (by decide +kernel)
set_option maxRecDepth 100000 in
theorem tw_232 : Cond.code y_Yard_worthByRule b_Yard_worthByRule 5 (some .int) ∈ lw_tbl := tb_mem 232 rfl
theorem tw_233 : Cond.methodLink "CoilSlits$Yard" 118 y_Yard_stripsIn ∈ lw_tbl := tb_mem 233 (by decide +kernel)
theorem tw_234 : Cond.static y_Yard_stripsIn ∈ lw_tbl := tb_mem 234 (by decide +kernel)
set_option maxRecDepth 100000 in
theorem tw_235 : Cond.code y_Yard_stripsIn b_Yard_stripsIn 2 (some .int) ∈ lw_tbl := tb_mem 235 rfl
theorem tw_236 : Cond.methodLink "CoilSlits$Yard" 132 Lib.Math.min.name ∈ lw_tbl := tb_mem 236 (by decide +kernel)
theorem tw_237 : Cond.methodLink "CoilSlits$Yard" 141 y_Yard_digOut ∈ lw_tbl := tb_mem 237 (by decide +kernel)
theorem tw_238 : Cond.instanceMethod y_Yard_digOut ∈ lw_tbl := tb_mem 238 (by decide +kernel)
theorem tw_239 : Cond.selects y_Yard_digOut.cls y_Yard_digOut y_Yard_digOut ∈ lw_tbl := tb_mem 239 (by decide +kernel)
set_option maxRecDepth 100000 in
theorem tw_240 : Cond.code y_Yard_digOut b_Yard_digOut 5 (some .int) ∈ lw_tbl := tb_mem 240 rfl
theorem tw_242 : Cond.static y_Slit_stackOf ∈ lw_tbl := tb_mem 242 (by decide +kernel)
set_option maxRecDepth 100000 in
theorem tw_243 : Cond.code y_Slit_stackOf b_Slit_stackOf 1 (some .int) ∈ lw_tbl := tb_mem 243 rfl
theorem tw_244 : Cond.methodLink "CoilSlits$Yard" 96 y_Yard_emptiestBeside ∈ lw_tbl := tb_mem 244 (by decide +kernel)
theorem tw_246 : Cond.instanceMethod y_Yard_emptiestBeside ∈ lw_tbl := tb_mem 246 (by decide +kernel)
set_option maxRecDepth 100000 in
theorem tw_247 : Cond.code y_Yard_emptiestBeside b_Yard_emptiestBeside 7 (some .int) ∈ lw_tbl := tb_mem 247 rfl
theorem tw_248 : Cond.methodLink "CoilSlits$Yard" 88 Lib.Math.abs.name ∈ lw_tbl := tb_mem 248 (by decide +kernel)
theorem tw_249 : Cond.static Lib.Math.abs.name ∈ lw_tbl := tb_mem 249 (by decide +kernel)
set_option maxRecDepth 100000 in
theorem tw_xAbs : Cond.code Lib.Math.abs.name Lib.Math.abs.code 1 (some .int) ∈ lw_tbl := tb_mem 250 rfl
theorem tw_251 : Cond.methodLink "CoilSlits$Yard" 99 y_Yard_moveTop ∈ lw_tbl := tb_mem 251 (by decide +kernel)
theorem tw_252 : Cond.instanceMethod y_Yard_moveTop ∈ lw_tbl := tb_mem 252 (by decide +kernel)
theorem tw_253 : Cond.selects y_Yard_moveTop.cls y_Yard_moveTop y_Yard_moveTop ∈ lw_tbl := tb_mem 253 (by decide +kernel)
set_option maxRecDepth 100000 in
theorem tw_254 : Cond.code y_Yard_moveTop b_Yard_moveTop 5 (some .int) ∈ lw_tbl := tb_mem 254 rfl
theorem tw_255 : Cond.methodLink "CoilSlits$Yard" 85 y_Grid_copyRow ∈ lw_tbl := tb_mem 255 (by decide +kernel)
theorem tw_256 : Cond.instanceMethod y_Grid_copyRow ∈ lw_tbl := tb_mem 256 (by decide +kernel)
theorem tw_257 : Cond.selects y_Grid_copyRow.cls y_Grid_copyRow y_Grid_copyRow ∈ lw_tbl := tb_mem 257 (by decide +kernel)
set_option maxRecDepth 100000 in
theorem tw_258 : Cond.code y_Grid_copyRow b_Grid_copyRow 6 none ∈ lw_tbl := tb_mem 258 rfl
theorem tw_259 : Cond.methodLink "CoilSlits$Yard" 78 y_Row_add ∈ lw_tbl := tb_mem 259 (by decide +kernel)
theorem tw_260 : Cond.instanceMethod y_Row_add ∈ lw_tbl := tb_mem 260 (by decide +kernel)
theorem tw_261 : Cond.selects y_Row_add.cls y_Row_add y_Row_add ∈ lw_tbl := tb_mem 261 (by decide +kernel)
set_option maxRecDepth 100000 in
theorem tw_262 : Cond.code y_Row_add b_Row_add 3 none ∈ lw_tbl := tb_mem 262 rfl
theorem tw_263 : Cond.methodLink "CoilSlits$Yard" 144 y_Yard_cutTop ∈ lw_tbl := tb_mem 263 (by decide +kernel)
theorem tw_264 : Cond.instanceMethod y_Yard_cutTop ∈ lw_tbl := tb_mem 264 (by decide +kernel)
theorem tw_265 : Cond.selects y_Yard_cutTop.cls y_Yard_cutTop y_Yard_cutTop ∈ lw_tbl := tb_mem 265 (by decide +kernel)
set_option maxRecDepth 100000 in
theorem tw_266 : Cond.code y_Yard_cutTop b_Yard_cutTop 11 (some .int) ∈ lw_tbl := tb_mem 266 rfl
theorem tw_267 : Cond.methodLink "CoilSlits$Yard" 93 y_Yard_takeTop ∈ lw_tbl := tb_mem 267 (by decide +kernel)
theorem tw_269 : Cond.instanceMethod y_Yard_takeTop ∈ lw_tbl := tb_mem 269 (by decide +kernel)
set_option maxRecDepth 100000 in
theorem tw_270 : Cond.code y_Yard_takeTop b_Yard_takeTop 2 none ∈ lw_tbl := tb_mem 270 rfl
theorem tw_271 : Cond.methodLink "CoilSlits$Yard" 135 Lib.Math.max.name ∈ lw_tbl := tb_mem 271 (by decide +kernel)
theorem tw_272 : Cond.methodLink "CoilSlits$Yard" 81 y_Yard_putOnTop ∈ lw_tbl := tb_mem 272 (by decide +kernel)
theorem tw_274 : Cond.instanceMethod y_Yard_putOnTop ∈ lw_tbl := tb_mem 274 (by decide +kernel)
set_option maxRecDepth 100000 in
theorem tw_275 : Cond.code y_Yard_putOnTop b_Yard_putOnTop 8 (some .int) ∈ lw_tbl := tb_mem 275 rfl
theorem tw_276 : Cond.methodLink "CoilSlits$Yard" 147 y_Yard_dropIfDone ∈ lw_tbl := tb_mem 276 (by decide +kernel)
theorem tw_277 : Cond.instanceMethod y_Yard_dropIfDone ∈ lw_tbl := tb_mem 277 (by decide +kernel)
theorem tw_278 : Cond.selects y_Yard_dropIfDone.cls y_Yard_dropIfDone y_Yard_dropIfDone ∈ lw_tbl := tb_mem 278 (by decide +kernel)
set_option maxRecDepth 100000 in
theorem tw_279 : Cond.code y_Yard_dropIfDone b_Yard_dropIfDone 2 none ∈ lw_tbl := tb_mem 279 rfl
theorem tw_280 : Cond.methodLink "CoilSlits$Yard" 102 y_Yard_dropOrder ∈ lw_tbl := tb_mem 280 (by decide +kernel)
theorem tw_281 : Cond.instanceMethod y_Yard_dropOrder ∈ lw_tbl := tb_mem 281 (by decide +kernel)
theorem tw_282 : Cond.selects y_Yard_dropOrder.cls y_Yard_dropOrder y_Yard_dropOrder ∈ lw_tbl := tb_mem 282 (by decide +kernel)
set_option maxRecDepth 100000 in
theorem tw_283 : Cond.code y_Yard_dropOrder b_Yard_dropOrder 3 none ∈ lw_tbl := tb_mem 283 rfl
theorem tw_292 : Cond.methodLink "CoilSlits" 183 y_Slit_readBuffer ∈ lw_tbl := tb_mem 292 (by decide +kernel)
theorem tw_294 : Cond.instanceMethod y_Slit_readBuffer ∈ lw_tbl := tb_mem 294 (by decide +kernel)
set_option maxRecDepth 100000 in
theorem tw_295 : Cond.code y_Slit_readBuffer b_Slit_readBuffer 2 (some .int) ∈ lw_tbl := tb_mem 295 rfl
theorem tw_296 : Cond.methodLink "CoilSlits" 290 y_Read_restart ∈ lw_tbl := tb_mem 296 (by decide +kernel)
theorem tw_297 : Cond.instanceMethod y_Read_restart ∈ lw_tbl := tb_mem 297 (by decide +kernel)
theorem tw_298 : Cond.selects y_Read_restart.cls y_Read_restart y_Read_restart ∈ lw_tbl := tb_mem 298 (by decide +kernel)
set_option maxRecDepth 100000 in
theorem tw_299 : Cond.code y_Read_restart b_Read_restart 1 none ∈ lw_tbl := tb_mem 299 rfl
theorem tw_300 : Cond.methodLink "CoilSlits" 272 y_Row_get ∈ lw_tbl := tb_mem 300 (by decide +kernel)
theorem tw_301 : Cond.methodLink "CoilSlits" 293 y_Read_accepts ∈ lw_tbl := tb_mem 301 (by decide +kernel)
theorem tw_302 : Cond.instanceMethod y_Read_accepts ∈ lw_tbl := tb_mem 302 (by decide +kernel)
theorem tw_303 : Cond.selects y_Read_accepts.cls y_Read_accepts y_Read_accepts ∈ lw_tbl := tb_mem 303 (by decide +kernel)
set_option maxRecDepth 100000 in
theorem tw_304 : Cond.code y_Read_accepts b_Read_accepts 3 (some .boolean) ∈ lw_tbl := tb_mem 304 rfl
theorem tw_305 : Cond.methodLink "CoilSlits$CoilReader" 27 y_Read_beginsPart ∈ lw_tbl := tb_mem 305 (by decide +kernel)
theorem tw_307 : Cond.instanceMethod y_Read_beginsPart ∈ lw_tbl := tb_mem 307 (by decide +kernel)
set_option maxRecDepth 100000 in
theorem tw_308 : Cond.code y_Read_beginsPart b_Read_beginsPart 2 (some .boolean) ∈ lw_tbl := tb_mem 308 rfl
theorem tw_309 : Cond.methodLink "CoilSlits$CoilReader" 31 y_Read_expects ∈ lw_tbl := tb_mem 309 (by decide +kernel)
theorem tw_311 : Cond.instanceMethod y_Read_expects ∈ lw_tbl := tb_mem 311 (by decide +kernel)
set_option maxRecDepth 100000 in
theorem tw_312 : Cond.code y_Read_expects b_Read_expects 2 (some .boolean) ∈ lw_tbl := tb_mem 312 rfl
theorem tw_313 : Cond.methodLink "CoilSlits$CoilReader" 34 y_Read_widens ∈ lw_tbl := tb_mem 313 (by decide +kernel)
theorem tw_315 : Cond.instanceMethod y_Read_widens ∈ lw_tbl := tb_mem 315 (by decide +kernel)
set_option maxRecDepth 100000 in
theorem tw_316 : Cond.code y_Read_widens b_Read_widens 3 (some .boolean) ∈ lw_tbl := tb_mem 316 rfl
theorem tw_318 : Cond.static y_Slit_within ∈ lw_tbl := tb_mem 318 (by decide +kernel)
set_option maxRecDepth 100000 in
theorem tw_319 : Cond.code y_Slit_within b_Slit_within 3 (some .boolean) ∈ lw_tbl := tb_mem 319 rfl
theorem tw_320 : Cond.methodLink "CoilSlits$CoilReader" 41 y_Read_takesGrade ∈ lw_tbl := tb_mem 320 (by decide +kernel)
theorem tw_322 : Cond.instanceMethod y_Read_takesGrade ∈ lw_tbl := tb_mem 322 (by decide +kernel)
set_option maxRecDepth 100000 in
theorem tw_323 : Cond.code y_Read_takesGrade b_Read_takesGrade 2 (some .boolean) ∈ lw_tbl := tb_mem 323 rfl
theorem tw_324 : Cond.methodLink "CoilSlits$CoilReader" 44 y_Read_takesQuality ∈ lw_tbl := tb_mem 324 (by decide +kernel)
theorem tw_326 : Cond.instanceMethod y_Read_takesQuality ∈ lw_tbl := tb_mem 326 (by decide +kernel)
set_option maxRecDepth 100000 in
theorem tw_327 : Cond.code y_Read_takesQuality b_Read_takesQuality 2 (some .boolean) ∈ lw_tbl := tb_mem 327 rfl
theorem tw_329 : Cond.static y_Slit_isStack ∈ lw_tbl := tb_mem 329 (by decide +kernel)
set_option maxRecDepth 100000 in
theorem tw_330 : Cond.code y_Slit_isStack b_Slit_isStack 1 (some .boolean) ∈ lw_tbl := tb_mem 330 rfl
theorem tw_331 : Cond.methodLink "CoilSlits" 53 y_Slit_within ∈ lw_tbl := tb_mem 331 (by decide +kernel)
theorem tw_332 : Cond.methodLink "CoilSlits$CoilReader" 50 y_Read_takesStack ∈ lw_tbl := tb_mem 332 (by decide +kernel)
theorem tw_334 : Cond.instanceMethod y_Read_takesStack ∈ lw_tbl := tb_mem 334 (by decide +kernel)
set_option maxRecDepth 100000 in
theorem tw_335 : Cond.code y_Read_takesStack b_Read_takesStack 2 (some .boolean) ∈ lw_tbl := tb_mem 335 rfl
theorem tw_336 : Cond.methodLink "CoilSlits$CoilReader" 53 y_Read_goesOn ∈ lw_tbl := tb_mem 336 (by decide +kernel)
theorem tw_338 : Cond.instanceMethod y_Read_goesOn ∈ lw_tbl := tb_mem 338 (by decide +kernel)
set_option maxRecDepth 100000 in
theorem tw_339 : Cond.code y_Read_goesOn b_Read_goesOn 2 (some .boolean) ∈ lw_tbl := tb_mem 339 rfl
theorem tw_341 : Cond.instanceMethod y_Slit_bestRule ∈ lw_tbl := tb_mem 341 (by decide +kernel)
theorem tw_342 : Cond.selects y_Slit_bestRule.cls y_Slit_bestRule y_Slit_bestRule ∈ lw_tbl := tb_mem 342 (by decide +kernel)
set_option maxRecDepth 100000 in
theorem tw_343 : Cond.code y_Slit_bestRule b_Slit_bestRule 10 (some .int) ∈ lw_tbl := tb_mem 343 rfl
theorem tw_344 : Cond.methodLink "CoilSlits" 233 y_Slit_beginTrial ∈ lw_tbl := tb_mem 344 (by decide +kernel)
theorem tw_346 : Cond.instanceMethod y_Slit_beginTrial ∈ lw_tbl := tb_mem 346 (by decide +kernel)
set_option maxRecDepth 100000 in
theorem tw_347 : Cond.code y_Slit_beginTrial b_Slit_beginTrial 2 none ∈ lw_tbl := tb_mem 347 rfl
theorem tw_348 : Cond.methodLink "CoilSlits" 284 y_Yard_copyFrom ∈ lw_tbl := tb_mem 348 (by decide +kernel)
theorem tw_349 : Cond.methodLink "CoilSlits" 168 y_Yard_changeSetting ∈ lw_tbl := tb_mem 349 (by decide +kernel)
theorem tw_350 : Cond.instanceMethod y_Yard_changeSetting ∈ lw_tbl := tb_mem 350 (by decide +kernel)
theorem tw_351 : Cond.selects y_Yard_changeSetting.cls y_Yard_changeSetting y_Yard_changeSetting ∈ lw_tbl := tb_mem 351 (by decide +kernel)
set_option maxRecDepth 100000 in
theorem tw_352 : Cond.code y_Yard_changeSetting b_Yard_changeSetting 3 none ∈ lw_tbl := tb_mem 352 rfl
theorem tw_353 : Cond.methodLink "CoilSlits" 239 y_Yard_tally ∈ lw_tbl := tb_mem 353 (by decide +kernel)
theorem tw_354 : Cond.instanceMethod y_Yard_tally ∈ lw_tbl := tb_mem 354 (by decide +kernel)
theorem tw_355 : Cond.selects y_Yard_tally.cls y_Yard_tally y_Yard_tally ∈ lw_tbl := tb_mem 355 (by decide +kernel)
set_option maxRecDepth 100000 in
theorem tw_356 : Cond.code y_Yard_tally b_Yard_tally 2 (some .int) ∈ lw_tbl := tb_mem 356 rfl
theorem tw_358 : Cond.instanceMethod y_Slit_bestStack ∈ lw_tbl := tb_mem 358 (by decide +kernel)
theorem tw_359 : Cond.selects y_Slit_bestStack.cls y_Slit_bestStack y_Slit_bestStack ∈ lw_tbl := tb_mem 359 (by decide +kernel)
set_option maxRecDepth 100000 in
theorem tw_360 : Cond.code y_Slit_bestStack b_Slit_bestStack 7 (some .int) ∈ lw_tbl := tb_mem 360 rfl
theorem tw_361 : Cond.methodLink "CoilSlits" 242 y_Yard_widerThanTop ∈ lw_tbl := tb_mem 361 (by decide +kernel)
theorem tw_362 : Cond.instanceMethod y_Yard_widerThanTop ∈ lw_tbl := tb_mem 362 (by decide +kernel)
theorem tw_363 : Cond.selects y_Yard_widerThanTop.cls y_Yard_widerThanTop y_Yard_widerThanTop ∈ lw_tbl := tb_mem 363 (by decide +kernel)
set_option maxRecDepth 100000 in
theorem tw_364 : Cond.code y_Yard_widerThanTop b_Yard_widerThanTop 6 (some .int) ∈ lw_tbl := tb_mem 364 rfl
theorem tw_365 : Cond.methodLink "CoilSlits" 80 y_Yard_heightOf ∈ lw_tbl := tb_mem 365 (by decide +kernel)
theorem tw_366 : Cond.instanceMethod y_Yard_heightOf ∈ lw_tbl := tb_mem 366 (by decide +kernel)
theorem tw_367 : Cond.selects y_Yard_heightOf.cls y_Yard_heightOf y_Yard_heightOf ∈ lw_tbl := tb_mem 367 (by decide +kernel)
set_option maxRecDepth 100000 in
theorem tw_368 : Cond.code y_Yard_heightOf b_Yard_heightOf 2 (some .int) ∈ lw_tbl := tb_mem 368 rfl
theorem tw_369 : Cond.methodLink "CoilSlits" 62 y_Yard_hasRoom ∈ lw_tbl := tb_mem 369 (by decide +kernel)
theorem tw_370 : Cond.instanceMethod y_Yard_hasRoom ∈ lw_tbl := tb_mem 370 (by decide +kernel)
theorem tw_371 : Cond.selects y_Yard_hasRoom.cls y_Yard_hasRoom y_Yard_hasRoom ∈ lw_tbl := tb_mem 371 (by decide +kernel)
set_option maxRecDepth 100000 in
theorem tw_372 : Cond.code y_Yard_hasRoom b_Yard_hasRoom 2 (some .boolean) ∈ lw_tbl := tb_mem 372 rfl
theorem tw_374 : Cond.instanceMethod y_Slit_used ∈ lw_tbl := tb_mem 374 (by decide +kernel)
theorem tw_375 : Cond.selects y_Slit_used.cls y_Slit_used y_Slit_used ∈ lw_tbl := tb_mem 375 (by decide +kernel)
set_option maxRecDepth 100000 in
theorem tw_376 : Cond.code y_Slit_used b_Slit_used 3 (some .double) ∈ lw_tbl := tb_mem 376 rfl
theorem tw_382 : Cond.methodLink "CoilSlits" 225 y_Slit_counted ∈ lw_tbl := tb_mem 382 (by decide +kernel)
theorem tw_384 : Cond.instanceMethod y_Slit_counted ∈ lw_tbl := tb_mem 384 (by decide +kernel)
set_option maxRecDepth 100000 in
theorem tw_385 : Cond.code y_Slit_counted b_Slit_counted 2 (some .int) ∈ lw_tbl := tb_mem 385 rfl
theorem tw_386 : Cond.methodLink "CoilSlits" 275 y_Yard_coilCount ∈ lw_tbl := tb_mem 386 (by decide +kernel)
theorem tw_387 : Cond.instanceMethod y_Yard_coilCount ∈ lw_tbl := tb_mem 387 (by decide +kernel)
theorem tw_388 : Cond.selects y_Yard_coilCount.cls y_Yard_coilCount y_Yard_coilCount ∈ lw_tbl := tb_mem 388 (by decide +kernel)
set_option maxRecDepth 100000 in
theorem tw_389 : Cond.code y_Yard_coilCount b_Yard_coilCount 3 (some .int) ∈ lw_tbl := tb_mem 389 rfl
theorem tw_390 : Cond.methodLink "CoilSlits" 278 y_Yard_sumOfCoils ∈ lw_tbl := tb_mem 390 (by decide +kernel)
theorem tw_391 : Cond.instanceMethod y_Yard_sumOfCoils ∈ lw_tbl := tb_mem 391 (by decide +kernel)
theorem tw_392 : Cond.selects y_Yard_sumOfCoils.cls y_Yard_sumOfCoils y_Yard_sumOfCoils ∈ lw_tbl := tb_mem 392 (by decide +kernel)
set_option maxRecDepth 100000 in
theorem tw_393 : Cond.code y_Yard_sumOfCoils b_Yard_sumOfCoils 4 (some .int) ∈ lw_tbl := tb_mem 393 rfl
theorem tw_394 : Cond.methodLink "CoilSlits" 111 y_Yard_orderCount ∈ lw_tbl := tb_mem 394 (by decide +kernel)
theorem tw_395 : Cond.instanceMethod y_Yard_orderCount ∈ lw_tbl := tb_mem 395 (by decide +kernel)
theorem tw_396 : Cond.selects y_Yard_orderCount.cls y_Yard_orderCount y_Yard_orderCount ∈ lw_tbl := tb_mem 396 (by decide +kernel)
set_option maxRecDepth 100000 in
theorem tw_397 : Cond.code y_Yard_orderCount b_Yard_orderCount 1 (some .int) ∈ lw_tbl := tb_mem 397 rfl
theorem tw_398 : Cond.methodLink "CoilSlits" 195 y_Hist_kept ∈ lw_tbl := tb_mem 398 (by decide +kernel)
theorem tw_399 : Cond.instanceMethod y_Hist_kept ∈ lw_tbl := tb_mem 399 (by decide +kernel)
theorem tw_400 : Cond.selects y_Hist_kept.cls y_Hist_kept y_Hist_kept ∈ lw_tbl := tb_mem 400 (by decide +kernel)
set_option maxRecDepth 100000 in
theorem tw_401 : Cond.code y_Hist_kept b_Hist_kept 1 (some .int) ∈ lw_tbl := tb_mem 401 rfl
theorem tw_402 : Cond.methodLink "CoilSlits" 247 y_Slit_hashed ∈ lw_tbl := tb_mem 402 (by decide +kernel)
theorem tw_403 : Cond.static y_Slit_hashed ∈ lw_tbl := tb_mem 403 (by decide +kernel)
set_option maxRecDepth 100000 in
theorem tw_404 : Cond.code y_Slit_hashed b_Slit_hashed 4 (some .long) ∈ lw_tbl := tb_mem 404 rfl
theorem tw_406 : Cond.methodLink "CoilSlits" 165 y_Yard_settingNow ∈ lw_tbl := tb_mem 406 (by decide +kernel)
theorem tw_407 : Cond.instanceMethod y_Yard_settingNow ∈ lw_tbl := tb_mem 407 (by decide +kernel)
theorem tw_408 : Cond.selects y_Yard_settingNow.cls y_Yard_settingNow y_Yard_settingNow ∈ lw_tbl := tb_mem 408 (by decide +kernel)
set_option maxRecDepth 100000 in
theorem tw_409 : Cond.code y_Yard_settingNow b_Yard_settingNow 2 (some .int) ∈ lw_tbl := tb_mem 409 rfl
theorem tw_410 : Cond.methodLink "CoilSlits" 251 y_Slit_hashedPlace ∈ lw_tbl := tb_mem 410 (by decide +kernel)
theorem tw_412 : Cond.instanceMethod y_Slit_hashedPlace ∈ lw_tbl := tb_mem 412 (by decide +kernel)
set_option maxRecDepth 100000 in
theorem tw_413 : Cond.code y_Slit_hashedPlace b_Slit_hashedPlace 8 (some .long) ∈ lw_tbl := tb_mem 413 rfl
theorem tw_414 : Cond.methodLink "CoilSlits" 205 y_Yard_numberAt ∈ lw_tbl := tb_mem 414 (by decide +kernel)
theorem tw_415 : Cond.instanceMethod y_Yard_numberAt ∈ lw_tbl := tb_mem 415 (by decide +kernel)
theorem tw_416 : Cond.selects y_Yard_numberAt.cls y_Yard_numberAt y_Yard_numberAt ∈ lw_tbl := tb_mem 416 (by decide +kernel)
set_option maxRecDepth 100000 in
theorem tw_417 : Cond.code y_Yard_numberAt b_Yard_numberAt 2 (some .int) ∈ lw_tbl := tb_mem 417 rfl
theorem tw_418 : Cond.methodLink "CoilSlits" 215 y_Yard_coilProperty ∈ lw_tbl := tb_mem 418 (by decide +kernel)
theorem tw_419 : Cond.instanceMethod y_Yard_coilProperty ∈ lw_tbl := tb_mem 419 (by decide +kernel)
theorem tw_420 : Cond.selects y_Yard_coilProperty.cls y_Yard_coilProperty y_Yard_coilProperty ∈ lw_tbl := tb_mem 420 (by decide +kernel)
set_option maxRecDepth 100000 in
theorem tw_421 : Cond.code y_Yard_coilProperty b_Yard_coilProperty 3 (some .int) ∈ lw_tbl := tb_mem 421 rfl
theorem tw_422 : Cond.methodLink "CoilSlits" 255 y_Slit_hashedOrder ∈ lw_tbl := tb_mem 422 (by decide +kernel)
theorem tw_424 : Cond.instanceMethod y_Slit_hashedOrder ∈ lw_tbl := tb_mem 424 (by decide +kernel)
set_option maxRecDepth 100000 in
theorem tw_425 : Cond.code y_Slit_hashedOrder b_Slit_hashedOrder 8 (some .long) ∈ lw_tbl := tb_mem 425 rfl
theorem tw_426 : Cond.methodLink "CoilSlits" 220 y_Yard_orderProperty ∈ lw_tbl := tb_mem 426 (by decide +kernel)
theorem tw_427 : Cond.instanceMethod y_Yard_orderProperty ∈ lw_tbl := tb_mem 427 (by decide +kernel)
theorem tw_428 : Cond.selects y_Yard_orderProperty.cls y_Yard_orderProperty y_Yard_orderProperty ∈ lw_tbl := tb_mem 428 (by decide +kernel)
set_option maxRecDepth 100000 in
theorem tw_429 : Cond.code y_Yard_orderProperty b_Yard_orderProperty 3 (some .int) ∈ lw_tbl := tb_mem 429 rfl
theorem tw_430 : Cond.methodLink "CoilSlits$Yard" 105 y_Yard_coilsSuiting ∈ lw_tbl := tb_mem 430 (by decide +kernel)
theorem tw_432 : Cond.instanceMethod y_Yard_coilsSuiting ∈ lw_tbl := tb_mem 432 (by decide +kernel)
set_option maxRecDepth 100000 in
theorem tw_433 : Cond.code y_Yard_coilsSuiting b_Yard_coilsSuiting 5 (some .int) ∈ lw_tbl := tb_mem 433 rfl
theorem tw_434 : Cond.methodLink "CoilSlits$Yard" 114 y_Yard_suits ∈ lw_tbl := tb_mem 434 (by decide +kernel)
theorem tw_436 : Cond.instanceMethod y_Yard_suits ∈ lw_tbl := tb_mem 436 (by decide +kernel)
set_option maxRecDepth 100000 in
theorem tw_437 : Cond.code y_Yard_suits b_Yard_suits 4 (some .boolean) ∈ lw_tbl := tb_mem 437 rfl
theorem tw_438 : Cond.methodLink "CoilSlits$Yard" 108 y_Yard_stripsFitting ∈ lw_tbl := tb_mem 438 (by decide +kernel)
theorem tw_440 : Cond.instanceMethod y_Yard_stripsFitting ∈ lw_tbl := tb_mem 440 (by decide +kernel)
set_option maxRecDepth 100000 in
theorem tw_441 : Cond.code y_Yard_stripsFitting b_Yard_stripsFitting 5 (some .int) ∈ lw_tbl := tb_mem 441 rfl
theorem tw_442 : Cond.methodLink "CoilSlits" 228 y_Slit_numberOfChoice ∈ lw_tbl := tb_mem 442 (by decide +kernel)
theorem tw_444 : Cond.instanceMethod y_Slit_numberOfChoice ∈ lw_tbl := tb_mem 444 (by decide +kernel)
set_option maxRecDepth 100000 in
theorem tw_445 : Cond.code y_Slit_numberOfChoice b_Slit_numberOfChoice 3 (some .int) ∈ lw_tbl := tb_mem 445 rfl
theorem tw_446 : Cond.methodLink "CoilSlits" 281 y_Yard_choose ∈ lw_tbl := tb_mem 446 (by decide +kernel)
theorem tw_447 : Cond.methodLink "CoilSlits" 145 y_Yard_fulfil ∈ lw_tbl := tb_mem 447 (by decide +kernel)
theorem tw_448 : Cond.methodLink "CoilSlits" 236 y_Slit_gainOfTrial ∈ lw_tbl := tb_mem 448 (by decide +kernel)
theorem tw_450 : Cond.instanceMethod y_Slit_gainOfTrial ∈ lw_tbl := tb_mem 450 (by decide +kernel)
set_option maxRecDepth 100000 in
theorem tw_451 : Cond.code y_Slit_gainOfTrial b_Slit_gainOfTrial 2 (some .int) ∈ lw_tbl := tb_mem 451 rfl
theorem tw_452 : Cond.methodLink "CoilSlits" 287 y_Slit_gained ∈ lw_tbl := tb_mem 452 (by decide +kernel)
theorem tw_454 : Cond.instanceMethod y_Slit_gained ∈ lw_tbl := tb_mem 454 (by decide +kernel)
set_option maxRecDepth 100000 in
theorem tw_455 : Cond.code y_Slit_gained b_Slit_gained 2 (some .int) ∈ lw_tbl := tb_mem 455 rfl
theorem tw_456 : Cond.methodLink "CoilSlits" 258 y_Slit_bestRule ∈ lw_tbl := tb_mem 456 (by decide +kernel)
theorem tw_457 : Cond.methodLink "CoilSlits" 261 y_Slit_bestStack ∈ lw_tbl := tb_mem 457 (by decide +kernel)
theorem tw_458 : Cond.methodLink "CoilSlits" 264 y_Slit_used ∈ lw_tbl := tb_mem 458 (by decide +kernel)
theorem tw_459 : Cond.methodLink "CoilSlits" 268 y_Slit_bitsOf ∈ lw_tbl := tb_mem 459 (by decide +kernel)
theorem tw_460 : Cond.static y_Slit_bitsOf ∈ lw_tbl := tb_mem 460 (by decide +kernel)
set_option maxRecDepth 100000 in
theorem tw_461 : Cond.code y_Slit_bitsOf b_Slit_bitsOf 8 (some .long) ∈ lw_tbl := tb_mem 461 rfl
theorem tw_576 : Cond.methodLink "CoilSlits" 74 y_Yard_bringIn ∈ lw_tbl := tb_mem 576 (by decide +kernel)
theorem tw_577 : Cond.instanceMethod y_Yard_bringIn ∈ lw_tbl := tb_mem 577 (by decide +kernel)
theorem tw_578 : Cond.selects y_Yard_bringIn.cls y_Yard_bringIn y_Yard_bringIn ∈ lw_tbl := tb_mem 578 (by decide +kernel)
set_option maxRecDepth 100000 in
theorem tw_579 : Cond.code y_Yard_bringIn b_Yard_bringIn 5 (some .int) ∈ lw_tbl := tb_mem 579 rfl
theorem tw_711 : Cond.methodLink "CoilSlits" 296 y_Read_stack ∈ lw_tbl := tb_mem 711 (by decide +kernel)
theorem tw_712 : Cond.instanceMethod y_Read_stack ∈ lw_tbl := tb_mem 712 (by decide +kernel)
theorem tw_713 : Cond.selects y_Read_stack.cls y_Read_stack y_Read_stack ∈ lw_tbl := tb_mem 713 (by decide +kernel)
set_option maxRecDepth 100000 in
theorem tw_714 : Cond.code y_Read_stack b_Read_stack 1 (some .int) ∈ lw_tbl := tb_mem 714 rfl
theorem tw_715 : Cond.methodLink "CoilSlits" 299 y_Yard_emptiest ∈ lw_tbl := tb_mem 715 (by decide +kernel)
theorem tw_716 : Cond.instanceMethod y_Yard_emptiest ∈ lw_tbl := tb_mem 716 (by decide +kernel)
theorem tw_717 : Cond.selects y_Yard_emptiest.cls y_Yard_emptiest y_Yard_emptiest ∈ lw_tbl := tb_mem 717 (by decide +kernel)
set_option maxRecDepth 100000 in
theorem tw_718 : Cond.code y_Yard_emptiest b_Yard_emptiest 3 (some .int) ∈ lw_tbl := tb_mem 718 rfl
theorem tw_719 : Cond.methodLink "CoilSlits" 302 y_Read_width ∈ lw_tbl := tb_mem 719 (by decide +kernel)
theorem tw_720 : Cond.instanceMethod y_Read_width ∈ lw_tbl := tb_mem 720 (by decide +kernel)
theorem tw_721 : Cond.selects y_Read_width.cls y_Read_width y_Read_width ∈ lw_tbl := tb_mem 721 (by decide +kernel)
set_option maxRecDepth 100000 in
theorem tw_722 : Cond.code y_Read_width b_Read_width 1 (some .int) ∈ lw_tbl := tb_mem 722 rfl
theorem tw_723 : Cond.methodLink "CoilSlits" 305 y_Read_grade ∈ lw_tbl := tb_mem 723 (by decide +kernel)
theorem tw_724 : Cond.instanceMethod y_Read_grade ∈ lw_tbl := tb_mem 724 (by decide +kernel)
theorem tw_725 : Cond.selects y_Read_grade.cls y_Read_grade y_Read_grade ∈ lw_tbl := tb_mem 725 (by decide +kernel)
set_option maxRecDepth 100000 in
theorem tw_726 : Cond.code y_Read_grade b_Read_grade 1 (some .int) ∈ lw_tbl := tb_mem 726 rfl
theorem tw_727 : Cond.methodLink "CoilSlits" 308 y_Read_quality ∈ lw_tbl := tb_mem 727 (by decide +kernel)
theorem tw_728 : Cond.instanceMethod y_Read_quality ∈ lw_tbl := tb_mem 728 (by decide +kernel)
theorem tw_729 : Cond.selects y_Read_quality.cls y_Read_quality y_Read_quality ∈ lw_tbl := tb_mem 729 (by decide +kernel)
set_option maxRecDepth 100000 in
theorem tw_730 : Cond.code y_Read_quality b_Read_quality 1 (some .int) ∈ lw_tbl := tb_mem 730 rfl
theorem tw_743 : Cond.methodLink "CoilSlits$History" 39 Lib.Math.max.name ∈ lw_tbl := tb_mem 743 (by decide +kernel)
theorem tw_815 : Cond.methodLink "CoilSlitsModel" 1 objectInit ∈ lw_tbl := tb_mem 815 (by decide +kernel)
theorem tw_858 : Cond.methodLink "CoilSlitsModel" 36 y_Mod_fails ∈ lw_tbl := tb_mem 858 (by decide +kernel)
theorem tw_860 : Cond.instanceMethod y_Mod_fails ∈ lw_tbl := tb_mem 860 (by decide +kernel)
set_option maxRecDepth 100000 in
theorem tw_861 : Cond.code y_Mod_fails b_Mod_fails 2 (some .int) ∈ lw_tbl := tb_mem 861 rfl
theorem tw_866 : Cond.methodLink "CoilSlitsModel" 109 y_Mod_isStack ∈ lw_tbl := tb_mem 866 (by decide +kernel)
theorem tw_867 : Cond.static y_Mod_isStack ∈ lw_tbl := tb_mem 867 (by decide +kernel)
set_option maxRecDepth 100000 in
theorem tw_868 : Cond.code y_Mod_isStack b_Mod_isStack 1 (some .boolean) ∈ lw_tbl := tb_mem 868 rfl
theorem tw_869 : Cond.methodLink "CoilSlitsModel" 29 y_Mod_in ∈ lw_tbl := tb_mem 869 (by decide +kernel)
theorem tw_870 : Cond.static y_Mod_in ∈ lw_tbl := tb_mem 870 (by decide +kernel)
set_option maxRecDepth 100000 in
theorem tw_871 : Cond.code y_Mod_in b_Mod_in 3 (some .boolean) ∈ lw_tbl := tb_mem 871 rfl
theorem tw_872 : Cond.methodLink "CoilSlitsModel" 113 y_Mod_saves ∈ lw_tbl := tb_mem 872 (by decide +kernel)
theorem tw_874 : Cond.instanceMethod y_Mod_saves ∈ lw_tbl := tb_mem 874 (by decide +kernel)
set_option maxRecDepth 100000 in
theorem tw_875 : Cond.code y_Mod_saves b_Mod_saves 2 none ∈ lw_tbl := tb_mem 875 rfl
theorem tw_876 : Cond.methodLink "CoilSlitsModel" 116 y_Mod_comes ∈ lw_tbl := tb_mem 876 (by decide +kernel)
theorem tw_878 : Cond.instanceMethod y_Mod_comes ∈ lw_tbl := tb_mem 878 (by decide +kernel)
set_option maxRecDepth 100000 in
theorem tw_879 : Cond.code y_Mod_comes b_Mod_comes 5 (some .int) ∈ lw_tbl := tb_mem 879 rfl
theorem tw_880 : Cond.methodLink "CoilSlitsModel" 55 y_Mod_lays ∈ lw_tbl := tb_mem 880 (by decide +kernel)
theorem tw_881 : Cond.static y_Mod_lays ∈ lw_tbl := tb_mem 881 (by decide +kernel)
set_option maxRecDepth 100000 in
theorem tw_882 : Cond.code y_Mod_lays b_Mod_lays 8 none ∈ lw_tbl := tb_mem 882 rfl
theorem tw_887 : Cond.methodLink "CoilSlitsModel" 69 y_Mod_moves ∈ lw_tbl := tb_mem 887 (by decide +kernel)
theorem tw_888 : Cond.static y_Mod_moves ∈ lw_tbl := tb_mem 888 (by decide +kernel)
set_option maxRecDepth 100000 in
theorem tw_889 : Cond.code y_Mod_moves b_Mod_moves 5 (some .int) ∈ lw_tbl := tb_mem 889 rfl
theorem tw_890 : Cond.methodLink "CoilSlitsModel" 51 y_Mod_topOf ∈ lw_tbl := tb_mem 890 (by decide +kernel)
theorem tw_891 : Cond.static y_Mod_topOf ∈ lw_tbl := tb_mem 891 (by decide +kernel)
set_option maxRecDepth 100000 in
theorem tw_892 : Cond.code y_Mod_topOf b_Mod_topOf 2 (some .int) ∈ lw_tbl := tb_mem 892 rfl
theorem tw_893 : Cond.methodLink "CoilSlitsModel" 44 y_Mod_of ∈ lw_tbl := tb_mem 893 (by decide +kernel)
theorem tw_894 : Cond.static y_Mod_of ∈ lw_tbl := tb_mem 894 (by decide +kernel)
set_option maxRecDepth 100000 in
theorem tw_895 : Cond.code y_Mod_of b_Mod_of 3 (some .int) ∈ lw_tbl := tb_mem 895 rfl
theorem tw_896 : Cond.methodLink "CoilSlitsModel" 59 y_Mod_far ∈ lw_tbl := tb_mem 896 (by decide +kernel)
theorem tw_897 : Cond.static y_Mod_far ∈ lw_tbl := tb_mem 897 (by decide +kernel)
set_option maxRecDepth 100000 in
theorem tw_898 : Cond.code y_Mod_far b_Mod_far 2 (some .int) ∈ lw_tbl := tb_mem 898 rfl
theorem tw_903 : Cond.methodLink "CoilSlitsModel" 120 y_Mod_placeOf ∈ lw_tbl := tb_mem 903 (by decide +kernel)
theorem tw_904 : Cond.static y_Mod_placeOf ∈ lw_tbl := tb_mem 904 (by decide +kernel)
set_option maxRecDepth 100000 in
theorem tw_905 : Cond.code y_Mod_placeOf b_Mod_placeOf 3 (some .int) ∈ lw_tbl := tb_mem 905 rfl
theorem tw_906 : Cond.methodLink "CoilSlitsModel" 40 y_Mod_isAt ∈ lw_tbl := tb_mem 906 (by decide +kernel)
theorem tw_907 : Cond.static y_Mod_isAt ∈ lw_tbl := tb_mem 907 (by decide +kernel)
set_option maxRecDepth 100000 in
theorem tw_908 : Cond.code y_Mod_isAt b_Mod_isAt 2 (some .boolean) ∈ lw_tbl := tb_mem 908 rfl
theorem tw_909 : Cond.methodLink "CoilSlitsModel" 123 y_Mod_mayDig ∈ lw_tbl := tb_mem 909 (by decide +kernel)
theorem tw_911 : Cond.instanceMethod y_Mod_mayDig ∈ lw_tbl := tb_mem 911 (by decide +kernel)
set_option maxRecDepth 100000 in
theorem tw_912 : Cond.code y_Mod_mayDig b_Mod_mayDig 2 (some .int) ∈ lw_tbl := tb_mem 912 rfl
theorem tw_913 : Cond.methodLink "CoilSlitsModel" 75 y_Mod_canDig ∈ lw_tbl := tb_mem 913 (by decide +kernel)
theorem tw_914 : Cond.static y_Mod_canDig ∈ lw_tbl := tb_mem 914 (by decide +kernel)
set_option maxRecDepth 100000 in
theorem tw_915 : Cond.code y_Mod_canDig b_Mod_canDig 4 (some .boolean) ∈ lw_tbl := tb_mem 915 rfl
theorem tw_916 : Cond.methodLink "CoilSlitsModel" 63 y_Mod_above ∈ lw_tbl := tb_mem 916 (by decide +kernel)
theorem tw_917 : Cond.static y_Mod_above ∈ lw_tbl := tb_mem 917 (by decide +kernel)
set_option maxRecDepth 100000 in
theorem tw_918 : Cond.code y_Mod_above b_Mod_above 2 (some .int) ∈ lw_tbl := tb_mem 918 rfl
theorem tw_919 : Cond.methodLink "CoilSlitsModel" 87 y_Mod_digs ∈ lw_tbl := tb_mem 919 (by decide +kernel)
theorem tw_920 : Cond.static y_Mod_digs ∈ lw_tbl := tb_mem 920 (by decide +kernel)
set_option maxRecDepth 100000 in
theorem tw_921 : Cond.code y_Mod_digs b_Mod_digs 4 (some .int) ∈ lw_tbl := tb_mem 921 rfl
theorem tw_922 : Cond.methodLink "CoilSlitsModel" 66 y_Mod_nearest ∈ lw_tbl := tb_mem 922 (by decide +kernel)
theorem tw_923 : Cond.static y_Mod_nearest ∈ lw_tbl := tb_mem 923 (by decide +kernel)
set_option maxRecDepth 100000 in
theorem tw_924 : Cond.code y_Mod_nearest b_Mod_nearest 6 (some .int) ∈ lw_tbl := tb_mem 924 rfl
theorem tw_937 : Cond.methodLink "CoilSlitsModel" 94 y_Mod_orderAt ∈ lw_tbl := tb_mem 937 (by decide +kernel)
theorem tw_938 : Cond.static y_Mod_orderAt ∈ lw_tbl := tb_mem 938 (by decide +kernel)
set_option maxRecDepth 100000 in
theorem tw_939 : Cond.code y_Mod_orderAt b_Mod_orderAt 3 (some .int) ∈ lw_tbl := tb_mem 939 rfl
theorem tw_940 : Cond.methodLink "CoilSlitsModel" 48 y_Mod_by ∈ lw_tbl := tb_mem 940 (by decide +kernel)
theorem tw_941 : Cond.static y_Mod_by ∈ lw_tbl := tb_mem 941 (by decide +kernel)
set_option maxRecDepth 100000 in
theorem tw_942 : Cond.code y_Mod_by b_Mod_by 3 (some .int) ∈ lw_tbl := tb_mem 942 rfl
theorem tw_943 : Cond.methodLink "CoilSlitsModel" 90 y_Mod_orderGoes ∈ lw_tbl := tb_mem 943 (by decide +kernel)
theorem tw_944 : Cond.static y_Mod_orderGoes ∈ lw_tbl := tb_mem 944 (by decide +kernel)
set_option maxRecDepth 100000 in
theorem tw_945 : Cond.code y_Mod_orderGoes b_Mod_orderGoes 3 none ∈ lw_tbl := tb_mem 945 rfl
theorem tw_950 : Cond.methodLink "CoilSlitsModel" 81 y_Mod_reason ∈ lw_tbl := tb_mem 950 (by decide +kernel)
theorem tw_951 : Cond.static y_Mod_reason ∈ lw_tbl := tb_mem 951 (by decide +kernel)
set_option maxRecDepth 100000 in
theorem tw_952 : Cond.code y_Mod_reason b_Mod_reason 3 (some .int) ∈ lw_tbl := tb_mem 952 rfl
theorem tw_953 : Cond.methodLink "CoilSlitsModel" 72 y_Mod_fits ∈ lw_tbl := tb_mem 953 (by decide +kernel)
theorem tw_954 : Cond.static y_Mod_fits ∈ lw_tbl := tb_mem 954 (by decide +kernel)
set_option maxRecDepth 100000 in
theorem tw_955 : Cond.code y_Mod_fits b_Mod_fits 3 (some .int) ∈ lw_tbl := tb_mem 955 rfl
theorem tw_956 : Cond.methodLink "CoilSlitsModel" 100 y_Mod_slits ∈ lw_tbl := tb_mem 956 (by decide +kernel)
theorem tw_957 : Cond.static y_Mod_slits ∈ lw_tbl := tb_mem 957 (by decide +kernel)
set_option maxRecDepth 100000 in
theorem tw_958 : Cond.code y_Mod_slits b_Mod_slits 6 (some .int) ∈ lw_tbl := tb_mem 958 rfl
theorem tw_959 : Cond.methodLink "CoilSlitsModel" 78 y_Mod_cuts ∈ lw_tbl := tb_mem 959 (by decide +kernel)
theorem tw_960 : Cond.static y_Mod_cuts ∈ lw_tbl := tb_mem 960 (by decide +kernel)
set_option maxRecDepth 100000 in
theorem tw_961 : Cond.code y_Mod_cuts b_Mod_cuts 4 (some .int) ∈ lw_tbl := tb_mem 961 rfl
theorem tw_962 : Cond.methodLink "CoilSlitsModel" 84 y_Mod_restOf ∈ lw_tbl := tb_mem 962 (by decide +kernel)
theorem tw_963 : Cond.static y_Mod_restOf ∈ lw_tbl := tb_mem 963 (by decide +kernel)
set_option maxRecDepth 100000 in
theorem tw_964 : Cond.code y_Mod_restOf b_Mod_restOf 3 (some .int) ∈ lw_tbl := tb_mem 964 rfl
theorem tw_969 : Cond.methodLink "CoilSlitsModel" 106 y_Mod_serves ∈ lw_tbl := tb_mem 969 (by decide +kernel)
theorem tw_970 : Cond.static y_Mod_serves ∈ lw_tbl := tb_mem 970 (by decide +kernel)
set_option maxRecDepth 100000 in
theorem tw_971 : Cond.code y_Mod_serves b_Mod_serves 5 (some .int) ∈ lw_tbl := tb_mem 971 rfl
theorem tw_972 : Cond.methodLink "CoilSlitsModel" 97 y_Mod_chosen ∈ lw_tbl := tb_mem 972 (by decide +kernel)
theorem tw_973 : Cond.static y_Mod_chosen ∈ lw_tbl := tb_mem 973 (by decide +kernel)
set_option maxRecDepth 100000 in
theorem tw_974 : Cond.code y_Mod_chosen b_Mod_chosen 7 (some .int) ∈ lw_tbl := tb_mem 974 rfl
theorem tw_979 : Cond.methodLink "CoilSlitsModel" 126 y_Mod_servesAll ∈ lw_tbl := tb_mem 979 (by decide +kernel)
theorem tw_980 : Cond.static y_Mod_servesAll ∈ lw_tbl := tb_mem 980 (by decide +kernel)
set_option maxRecDepth 100000 in
theorem tw_981 : Cond.code y_Mod_servesAll b_Mod_servesAll 5 (some .int) ∈ lw_tbl := tb_mem 981 rfl
theorem tw_982 : Cond.methodLink "CoilSlitsModel" 103 y_Mod_nextOrder ∈ lw_tbl := tb_mem 982 (by decide +kernel)
theorem tw_983 : Cond.static y_Mod_nextOrder ∈ lw_tbl := tb_mem 983 (by decide +kernel)
set_option maxRecDepth 100000 in
theorem tw_984 : Cond.code y_Mod_nextOrder b_Mod_nextOrder 6 (some .int) ∈ lw_tbl := tb_mem 984 rfl
theorem tw_989 : Cond.methodLink "CoilSlitsModel" 130 y_Mod_isFor ∈ lw_tbl := tb_mem 989 (by decide +kernel)
theorem tw_990 : Cond.static y_Mod_isFor ∈ lw_tbl := tb_mem 990 (by decide +kernel)
set_option maxRecDepth 100000 in
theorem tw_991 : Cond.code y_Mod_isFor b_Mod_isFor 2 (some .boolean) ∈ lw_tbl := tb_mem 991 rfl
theorem tw_1004 : Cond.methodLink "CoilSlitsModel" 163 y_Mod_isText ∈ lw_tbl := tb_mem 1004 (by decide +kernel)
theorem tw_1006 : Cond.instanceMethod y_Mod_isText ∈ lw_tbl := tb_mem 1006 (by decide +kernel)
set_option maxRecDepth 100000 in
theorem tw_1007 : Cond.code y_Mod_isText b_Mod_isText 2 (some .boolean) ∈ lw_tbl := tb_mem 1007 rfl
theorem tw_1008 : Cond.methodLink "CoilSlitsModel" 160 y_Mod_isPart ∈ lw_tbl := tb_mem 1008 (by decide +kernel)
theorem tw_1010 : Cond.instanceMethod y_Mod_isPart ∈ lw_tbl := tb_mem 1010 (by decide +kernel)
set_option maxRecDepth 100000 in
theorem tw_1011 : Cond.code y_Mod_isPart b_Mod_isPart 1 (some .boolean) ∈ lw_tbl := tb_mem 1011 rfl
theorem tw_1012 : Cond.methodLink "CoilSlitsModel" 154 y_Mod_isWidth ∈ lw_tbl := tb_mem 1012 (by decide +kernel)
theorem tw_1014 : Cond.instanceMethod y_Mod_isWidth ∈ lw_tbl := tb_mem 1014 (by decide +kernel)
set_option maxRecDepth 100000 in
theorem tw_1015 : Cond.code y_Mod_isWidth b_Mod_isWidth 2 (some .boolean) ∈ lw_tbl := tb_mem 1015 rfl
theorem tw_1016 : Cond.methodLink "CoilSlitsModel" 144 y_Mod_isNext ∈ lw_tbl := tb_mem 1016 (by decide +kernel)
theorem tw_1018 : Cond.instanceMethod y_Mod_isNext ∈ lw_tbl := tb_mem 1018 (by decide +kernel)
set_option maxRecDepth 100000 in
theorem tw_1019 : Cond.code y_Mod_isNext b_Mod_isNext 3 (some .boolean) ∈ lw_tbl := tb_mem 1019 rfl
theorem tw_1020 : Cond.methodLink "CoilSlitsModel" 147 y_Mod_stops ∈ lw_tbl := tb_mem 1020 (by decide +kernel)
theorem tw_1022 : Cond.instanceMethod y_Mod_stops ∈ lw_tbl := tb_mem 1022 (by decide +kernel)
set_option maxRecDepth 100000 in
theorem tw_1023 : Cond.code y_Mod_stops b_Mod_stops 1 (some .boolean) ∈ lw_tbl := tb_mem 1023 rfl
theorem tw_1024 : Cond.methodLink "CoilSlitsModel" 157 y_Mod_isFigure ∈ lw_tbl := tb_mem 1024 (by decide +kernel)
theorem tw_1026 : Cond.instanceMethod y_Mod_isFigure ∈ lw_tbl := tb_mem 1026 (by decide +kernel)
set_option maxRecDepth 100000 in
theorem tw_1027 : Cond.code y_Mod_isFigure b_Mod_isFigure 3 (some .boolean) ∈ lw_tbl := tb_mem 1027 rfl
theorem tw_1032 : Cond.methodLink "CoilSlitsModel" 166 y_Mod_lowest ∈ lw_tbl := tb_mem 1032 (by decide +kernel)
theorem tw_1034 : Cond.instanceMethod y_Mod_lowest ∈ lw_tbl := tb_mem 1034 (by decide +kernel)
set_option maxRecDepth 100000 in
theorem tw_1035 : Cond.code y_Mod_lowest b_Mod_lowest 3 (some .int) ∈ lw_tbl := tb_mem 1035 rfl
theorem tw_1040 : Cond.methodLink "CoilSlitsModel" 170 y_Mod_coilAt ∈ lw_tbl := tb_mem 1040 (by decide +kernel)
theorem tw_1042 : Cond.instanceMethod y_Mod_coilAt ∈ lw_tbl := tb_mem 1042 (by decide +kernel)
set_option maxRecDepth 100000 in
theorem tw_1043 : Cond.code y_Mod_coilAt b_Mod_coilAt 2 (some .int) ∈ lw_tbl := tb_mem 1043 rfl
theorem tw_1048 : Cond.methodLink "CoilSlitsModel" 173 y_Mod_ofCoil ∈ lw_tbl := tb_mem 1048 (by decide +kernel)
theorem tw_1050 : Cond.instanceMethod y_Mod_ofCoil ∈ lw_tbl := tb_mem 1050 (by decide +kernel)
set_option maxRecDepth 100000 in
theorem tw_1051 : Cond.code y_Mod_ofCoil b_Mod_ofCoil 3 (some .int) ∈ lw_tbl := tb_mem 1051 rfl
theorem tw_1056 : Cond.methodLink "CoilSlitsModel" 176 y_Mod_ofOrder ∈ lw_tbl := tb_mem 1056 (by decide +kernel)
theorem tw_1058 : Cond.instanceMethod y_Mod_ofOrder ∈ lw_tbl := tb_mem 1058 (by decide +kernel)
set_option maxRecDepth 100000 in
theorem tw_1059 : Cond.code y_Mod_ofOrder b_Mod_ofOrder 5 (some .int) ∈ lw_tbl := tb_mem 1059 rfl
theorem tw_1068 : Cond.methodLink "CoilSlitsModel" 182 y_Mod_counted ∈ lw_tbl := tb_mem 1068 (by decide +kernel)
theorem tw_1070 : Cond.instanceMethod y_Mod_counted ∈ lw_tbl := tb_mem 1070 (by decide +kernel)
set_option maxRecDepth 100000 in
theorem tw_1071 : Cond.code y_Mod_counted b_Mod_counted 2 (some .int) ∈ lw_tbl := tb_mem 1071 rfl
theorem tw_1072 : Cond.methodLink "CoilSlitsModel" 179 y_Mod_ofCoils ∈ lw_tbl := tb_mem 1072 (by decide +kernel)
theorem tw_1074 : Cond.instanceMethod y_Mod_ofCoils ∈ lw_tbl := tb_mem 1074 (by decide +kernel)
set_option maxRecDepth 100000 in
theorem tw_1075 : Cond.code y_Mod_ofCoils b_Mod_ofCoils 4 (some .int) ∈ lw_tbl := tb_mem 1075 rfl
theorem tw_1084 : Cond.methodLink "CoilSlitsModel" 185 y_Mod_choiceFor ∈ lw_tbl := tb_mem 1084 (by decide +kernel)
theorem tw_1086 : Cond.instanceMethod y_Mod_choiceFor ∈ lw_tbl := tb_mem 1086 (by decide +kernel)
set_option maxRecDepth 100000 in
theorem tw_1087 : Cond.code y_Mod_choiceFor b_Mod_choiceFor 3 (some .int) ∈ lw_tbl := tb_mem 1087 rfl
theorem tw_1092 : Cond.methodLink "CoilSlitsModel" 191 y_Mod_byServing ∈ lw_tbl := tb_mem 1092 (by decide +kernel)
theorem tw_1094 : Cond.instanceMethod y_Mod_byServing ∈ lw_tbl := tb_mem 1094 (by decide +kernel)
set_option maxRecDepth 100000 in
theorem tw_1095 : Cond.code y_Mod_byServing b_Mod_byServing 5 (some .int) ∈ lw_tbl := tb_mem 1095 rfl
theorem tw_1096 : Cond.methodLink "CoilSlitsModel" 188 y_Mod_tries ∈ lw_tbl := tb_mem 1096 (by decide +kernel)
theorem tw_1098 : Cond.instanceMethod y_Mod_tries ∈ lw_tbl := tb_mem 1098 (by decide +kernel)
set_option maxRecDepth 100000 in
theorem tw_1099 : Cond.code y_Mod_tries b_Mod_tries 2 none ∈ lw_tbl := tb_mem 1099 rfl
theorem tw_1104 : Cond.methodLink "CoilSlitsModel" 195 y_Mod_best ∈ lw_tbl := tb_mem 1104 (by decide +kernel)
theorem tw_1106 : Cond.instanceMethod y_Mod_best ∈ lw_tbl := tb_mem 1106 (by decide +kernel)
set_option maxRecDepth 100000 in
theorem tw_1107 : Cond.code y_Mod_best b_Mod_best 7 (some .int) ∈ lw_tbl := tb_mem 1107 rfl
theorem tw_1112 : Cond.methodLink "CoilSlitsModel" 201 y_Mod_bestPlace ∈ lw_tbl := tb_mem 1112 (by decide +kernel)
theorem tw_1114 : Cond.instanceMethod y_Mod_bestPlace ∈ lw_tbl := tb_mem 1114 (by decide +kernel)
set_option maxRecDepth 100000 in
theorem tw_1115 : Cond.code y_Mod_bestPlace b_Mod_bestPlace 5 (some .int) ∈ lw_tbl := tb_mem 1115 rfl
theorem tw_1116 : Cond.methodLink "CoilSlitsModel" 198 y_Mod_wider ∈ lw_tbl := tb_mem 1116 (by decide +kernel)
theorem tw_1118 : Cond.instanceMethod y_Mod_wider ∈ lw_tbl := tb_mem 1118 (by decide +kernel)
set_option maxRecDepth 100000 in
theorem tw_1119 : Cond.code y_Mod_wider b_Mod_wider 4 (some .int) ∈ lw_tbl := tb_mem 1119 rfl
theorem tw_1124 : Cond.methodLink "CoilSlitsModel" 204 y_Mod_share ∈ lw_tbl := tb_mem 1124 (by decide +kernel)
theorem tw_1126 : Cond.instanceMethod y_Mod_share ∈ lw_tbl := tb_mem 1126 (by decide +kernel)
set_option maxRecDepth 100000 in
theorem tw_1127 : Cond.code y_Mod_share b_Mod_share 2 (some .double) ∈ lw_tbl := tb_mem 1127 rfl
theorem tw_1134 : Cond.methodLink "CoilSlitsModel" 212 y_Dbl_doubleToLongBits ∈ lw_tbl := tb_mem 1134 (by decide +kernel)
theorem tw_1135 : Cond.static y_Dbl_doubleToLongBits ∈ lw_tbl := tb_mem 1135 (by decide +kernel)
set_option maxRecDepth 100000 in
theorem tw_1136 : Cond.code y_Dbl_doubleToLongBits b_Dbl_doubleToLongBits 2 (some .long) ∈ lw_tbl := tb_mem 1136 rfl
theorem tw_1137 : Cond.methodLink "java/lang/Double" 122 y_Dbl_isNaN ∈ lw_tbl := tb_mem 1137 (by decide +kernel)
theorem tw_1138 : Cond.static y_Dbl_isNaN ∈ lw_tbl := tb_mem 1138 (by decide +kernel)
set_option maxRecDepth 100000 in
theorem tw_1139 : Cond.code y_Dbl_isNaN b_Dbl_isNaN 2 (some .boolean) ∈ lw_tbl := tb_mem 1139 rfl
theorem tw_1140 : Cond.methodLink "java/lang/Double" 134 yRaw ∈ lw_tbl := tb_mem 1140 (by decide +kernel)
theorem tw_1141 : Cond.static yRaw ∈ lw_tbl := tb_mem 1141 (by decide +kernel)
theorem tw_1142 : Cond.native yRaw ∈ lw_tbl := tb_mem 1142 (by decide +kernel)
theorem tp_0 : Cond.selects y_Hist_stateAt.cls y_Hist_stateAt y_Hist_stateAt ∈ lw_tbl := tb_priv 0 (y := y_Hist_stateAt) rfl
theorem tp_1 : Cond.selects y_Yard_dearestBehind.cls y_Yard_dearestBehind y_Yard_dearestBehind ∈ lw_tbl := tb_priv 1 (y := y_Yard_dearestBehind) rfl
theorem tp_2 : Cond.selects y_Yard_widthTaken.cls y_Yard_widthTaken y_Yard_widthTaken ∈ lw_tbl := tb_priv 2 (y := y_Yard_widthTaken) rfl
theorem tp_3 : Cond.selects y_Yard_mismatch.cls y_Yard_mismatch y_Yard_mismatch ∈ lw_tbl := tb_priv 3 (y := y_Yard_mismatch) rfl
theorem tp_4 : Cond.selects y_Yard_worthByRule.cls y_Yard_worthByRule y_Yard_worthByRule ∈ lw_tbl := tb_priv 4 (y := y_Yard_worthByRule) rfl
theorem tp_5 : Cond.selects y_Yard_emptiestBeside.cls y_Yard_emptiestBeside y_Yard_emptiestBeside ∈ lw_tbl := tb_priv 5 (y := y_Yard_emptiestBeside) rfl
theorem tp_6 : Cond.selects y_Yard_takeTop.cls y_Yard_takeTop y_Yard_takeTop ∈ lw_tbl := tb_priv 6 (y := y_Yard_takeTop) rfl
theorem tp_7 : Cond.selects y_Yard_putOnTop.cls y_Yard_putOnTop y_Yard_putOnTop ∈ lw_tbl := tb_priv 7 (y := y_Yard_putOnTop) rfl
theorem tp_8 : Cond.selects y_Slit_readBuffer.cls y_Slit_readBuffer y_Slit_readBuffer ∈ lw_tbl := tb_priv 8 (y := y_Slit_readBuffer) rfl
theorem tp_9 : Cond.selects y_Read_beginsPart.cls y_Read_beginsPart y_Read_beginsPart ∈ lw_tbl := tb_priv 9 (y := y_Read_beginsPart) rfl
theorem tp_10 : Cond.selects y_Read_expects.cls y_Read_expects y_Read_expects ∈ lw_tbl := tb_priv 10 (y := y_Read_expects) rfl
theorem tp_11 : Cond.selects y_Read_widens.cls y_Read_widens y_Read_widens ∈ lw_tbl := tb_priv 11 (y := y_Read_widens) rfl
theorem tp_12 : Cond.selects y_Read_takesGrade.cls y_Read_takesGrade y_Read_takesGrade ∈ lw_tbl := tb_priv 12 (y := y_Read_takesGrade) rfl
theorem tp_13 : Cond.selects y_Read_takesQuality.cls y_Read_takesQuality y_Read_takesQuality ∈ lw_tbl := tb_priv 13 (y := y_Read_takesQuality) rfl
theorem tp_14 : Cond.selects y_Read_takesStack.cls y_Read_takesStack y_Read_takesStack ∈ lw_tbl := tb_priv 14 (y := y_Read_takesStack) rfl
theorem tp_15 : Cond.selects y_Read_goesOn.cls y_Read_goesOn y_Read_goesOn ∈ lw_tbl := tb_priv 15 (y := y_Read_goesOn) rfl
theorem tp_16 : Cond.selects y_Slit_beginTrial.cls y_Slit_beginTrial y_Slit_beginTrial ∈ lw_tbl := tb_priv 16 (y := y_Slit_beginTrial) rfl
theorem tp_17 : Cond.selects y_Slit_counted.cls y_Slit_counted y_Slit_counted ∈ lw_tbl := tb_priv 17 (y := y_Slit_counted) rfl
theorem tp_18 : Cond.selects y_Slit_hashedPlace.cls y_Slit_hashedPlace y_Slit_hashedPlace ∈ lw_tbl := tb_priv 18 (y := y_Slit_hashedPlace) rfl
theorem tp_19 : Cond.selects y_Slit_hashedOrder.cls y_Slit_hashedOrder y_Slit_hashedOrder ∈ lw_tbl := tb_priv 19 (y := y_Slit_hashedOrder) rfl
theorem tp_20 : Cond.selects y_Yard_coilsSuiting.cls y_Yard_coilsSuiting y_Yard_coilsSuiting ∈ lw_tbl := tb_priv 20 (y := y_Yard_coilsSuiting) rfl
theorem tp_21 : Cond.selects y_Yard_suits.cls y_Yard_suits y_Yard_suits ∈ lw_tbl := tb_priv 21 (y := y_Yard_suits) rfl
theorem tp_22 : Cond.selects y_Yard_stripsFitting.cls y_Yard_stripsFitting y_Yard_stripsFitting ∈ lw_tbl := tb_priv 22 (y := y_Yard_stripsFitting) rfl
theorem tp_23 : Cond.selects y_Slit_numberOfChoice.cls y_Slit_numberOfChoice y_Slit_numberOfChoice ∈ lw_tbl := tb_priv 23 (y := y_Slit_numberOfChoice) rfl
theorem tp_24 : Cond.selects y_Slit_gainOfTrial.cls y_Slit_gainOfTrial y_Slit_gainOfTrial ∈ lw_tbl := tb_priv 24 (y := y_Slit_gainOfTrial) rfl
theorem tp_25 : Cond.selects y_Slit_gained.cls y_Slit_gained y_Slit_gained ∈ lw_tbl := tb_priv 25 (y := y_Slit_gained) rfl
theorem tp_28 : Cond.selects y_Mod_fails.cls y_Mod_fails y_Mod_fails ∈ lw_tbl := tb_priv 28 (y := y_Mod_fails) rfl
theorem tp_29 : Cond.selects y_Mod_saves.cls y_Mod_saves y_Mod_saves ∈ lw_tbl := tb_priv 29 (y := y_Mod_saves) rfl
theorem tp_30 : Cond.selects y_Mod_comes.cls y_Mod_comes y_Mod_comes ∈ lw_tbl := tb_priv 30 (y := y_Mod_comes) rfl
theorem tp_31 : Cond.selects y_Mod_mayDig.cls y_Mod_mayDig y_Mod_mayDig ∈ lw_tbl := tb_priv 31 (y := y_Mod_mayDig) rfl
theorem tp_32 : Cond.selects y_Mod_isText.cls y_Mod_isText y_Mod_isText ∈ lw_tbl := tb_priv 32 (y := y_Mod_isText) rfl
theorem tp_33 : Cond.selects y_Mod_isPart.cls y_Mod_isPart y_Mod_isPart ∈ lw_tbl := tb_priv 33 (y := y_Mod_isPart) rfl
theorem tp_34 : Cond.selects y_Mod_isWidth.cls y_Mod_isWidth y_Mod_isWidth ∈ lw_tbl := tb_priv 34 (y := y_Mod_isWidth) rfl
theorem tp_35 : Cond.selects y_Mod_isNext.cls y_Mod_isNext y_Mod_isNext ∈ lw_tbl := tb_priv 35 (y := y_Mod_isNext) rfl
theorem tp_36 : Cond.selects y_Mod_stops.cls y_Mod_stops y_Mod_stops ∈ lw_tbl := tb_priv 36 (y := y_Mod_stops) rfl
theorem tp_37 : Cond.selects y_Mod_isFigure.cls y_Mod_isFigure y_Mod_isFigure ∈ lw_tbl := tb_priv 37 (y := y_Mod_isFigure) rfl
theorem tp_38 : Cond.selects y_Mod_lowest.cls y_Mod_lowest y_Mod_lowest ∈ lw_tbl := tb_priv 38 (y := y_Mod_lowest) rfl
theorem tp_39 : Cond.selects y_Mod_coilAt.cls y_Mod_coilAt y_Mod_coilAt ∈ lw_tbl := tb_priv 39 (y := y_Mod_coilAt) rfl
theorem tp_40 : Cond.selects y_Mod_ofCoil.cls y_Mod_ofCoil y_Mod_ofCoil ∈ lw_tbl := tb_priv 40 (y := y_Mod_ofCoil) rfl
theorem tp_41 : Cond.selects y_Mod_ofOrder.cls y_Mod_ofOrder y_Mod_ofOrder ∈ lw_tbl := tb_priv 41 (y := y_Mod_ofOrder) rfl
theorem tp_42 : Cond.selects y_Mod_counted.cls y_Mod_counted y_Mod_counted ∈ lw_tbl := tb_priv 42 (y := y_Mod_counted) rfl
theorem tp_43 : Cond.selects y_Mod_ofCoils.cls y_Mod_ofCoils y_Mod_ofCoils ∈ lw_tbl := tb_priv 43 (y := y_Mod_ofCoils) rfl
theorem tp_44 : Cond.selects y_Mod_choiceFor.cls y_Mod_choiceFor y_Mod_choiceFor ∈ lw_tbl := tb_priv 44 (y := y_Mod_choiceFor) rfl
theorem tp_45 : Cond.selects y_Mod_byServing.cls y_Mod_byServing y_Mod_byServing ∈ lw_tbl := tb_priv 45 (y := y_Mod_byServing) rfl
theorem tp_46 : Cond.selects y_Mod_tries.cls y_Mod_tries y_Mod_tries ∈ lw_tbl := tb_priv 46 (y := y_Mod_tries) rfl
theorem tp_47 : Cond.selects y_Mod_best.cls y_Mod_best y_Mod_best ∈ lw_tbl := tb_priv 47 (y := y_Mod_best) rfl
theorem tp_48 : Cond.selects y_Mod_bestPlace.cls y_Mod_bestPlace y_Mod_bestPlace ∈ lw_tbl := tb_priv 48 (y := y_Mod_bestPlace) rfl
theorem tp_49 : Cond.selects y_Mod_wider.cls y_Mod_wider y_Mod_wider ∈ lw_tbl := tb_priv 49 (y := y_Mod_wider) rfl
theorem tp_50 : Cond.selects y_Mod_share.cls y_Mod_share y_Mod_share ∈ lw_tbl := tb_priv 50 (y := y_Mod_share) rfl
end
section
/-! ===== methods that throw; what is known for throwing ===== -/
def zIO : String := "java/lang/IndexOutOfBoundsException"
def zIA : String := "java/lang/IllegalArgumentException"
def zIS : String := "java/lang/IllegalStateException"
def zEx : List String := ["java/lang/IndexOutOfBoundsException", "java/lang/IllegalArgumentException", "java/lang/IllegalStateException"]
def zTx : List (Nat × String) := [(48, "no such stack"), (59, "width, grade or quality out of range"), (67, "no room in the stack"), (78, "both stacks are the same"), (84, "no coil to move, or no room for it"), (93, "no such coil in the yard"), (98, "the coil cannot be dug out"), (109, "an argument is out of range"), (115, "no more orders can be taken"), (124, "no such order"), (132, "no such order, or no such coil in the yard"), (137, "the coil does not suit, or cannot be dug out"), (154, "no such setting"), (163, "the value is out of range"), (172, "the character code is out of range"), (178, "the buffer is full"), (190, "the buffer is not complete coils as a text"), (198, "no state is saved"), (203, "the height is out of range"), (211, "no coil has had this number"), (213, "no such property of a coil"), (218, "no such place, or no such property of an order"), (223, "nothing of this kind is counted"), (231, "rule or what is out of range")]
def zDc : List Cond := [.declares (Bundle.initS "java/lang/RuntimeException"), .declares (Bundle.initS "java/lang/Exception"), .declares (Bundle.initS Bundle.tN)]
def KX (w : Wd) (U : State) : Prop := (∀ q ∈ zTx, ∃ sa : Nat, vk_R "CoilSlits" q.1 q.2 sa U) ∧ vx_Zq Bundle.tN "UNASSIGNED_STACK" Bundle.steD (zA w) U U.heap ∧ vx_Zq Bundle.tN "SUPPRESSED_SENTINEL" Bundle.listD (zA w) U U.heap ∧ (∀ E ∈ zEx, va_Nw (.castable E E) U) ∧ (∀ E ∈ zEx, ∀ T ∈ zEx, E ≠ T → va_Nc E T U) ∧ ∀ x ∈ zDc, va_Nw x U
theorem zDc_warm {s U : State} (hW : s.WarmedH U.vm) (h : ∀ x ∈ zDc, va_Nw x s) : ∀ x ∈ zDc, va_Nw x U := by
  intro x hx
  have h1 := h x hx
  simp only [zDc, List.mem_cons, List.not_mem_nil, or_false] at hx
  rcases hx with rfl | rfl | rfl
  · exact va_Nw.warmD hW h1
  · exact va_Nw.warmD hW h1
  · exact va_Nw.warmD hW h1
theorem KX.warm {w : Wd} {u U : State} (hW : u.WarmedH U.vm) (hq : ∀ a : Nat, a < u.heap.size → ¬ zA w a → U.heap[a]? = u.heap[a]?) (h : KX w u) : KX w U :=
  ⟨fun q hq1 => by obtain ⟨sa, h1⟩ := h.1 q hq1; exact ⟨sa, vk_R.warm hW h1⟩, vx_Zq.kept (vx_Zq.moved hW.alike h.2.1) hq, vx_Zq.kept (vx_Zq.moved hW.alike h.2.2.1) hq, fun E hE => va_Nw.warmC hW (h.2.2.2.1 E hE), fun E hE T hT hne => va_Nc.moved hW.alike (h.2.2.2.2.1 E hE T hT hne), zDc_warm hW h.2.2.2.2.2⟩
theorem KX.same {w : Wd} {u U : State} (hvm : u.vm = U.vm) (hh : u.heap = U.heap) (h : KX w u) : KX w U :=
  ⟨fun q hq1 => by obtain ⟨sa, h1⟩ := h.1 q hq1; exact ⟨sa, vk_R.same hvm.symm h1⟩, vx_Zq.kept (vx_Zq.moved (by rw [hvm]; exact Vm.Alike.refl _) h.2.1) (fun q _ _ => by rw [hh]), vx_Zq.kept (vx_Zq.moved (by rw [hvm]; exact Vm.Alike.refl _) h.2.2.1) (fun q _ _ => by rw [hh]), fun E hE => va_Nw.same rfl hvm (h.2.2.2.1 E hE), fun E hE T hT hne => va_Nc.moved (by rw [hvm]; exact Vm.Alike.refl _) (h.2.2.2.2.1 E hE T hT hne), fun x hx => va_Nw.same (by
    simp only [zDc, List.mem_cons, List.not_mem_nil, or_false] at hx
    rcases hx with rfl | rfl | rfl <;> rfl) hvm (h.2.2.2.2.2 x hx)⟩
abbrev zPX (w : Wd) (vs : List Value) (g : G) : Array Value → State → Prop := va_Pc (vs.map (ztv w)) (fun U => (KK w U ∧ KX w U) ∧ RepG w g U.heap)
def zXC (w : Wd) (E : String) (g : G) : String → State → State → Prop := fun E' st t => E' = E ∧ RepG w g t.heap ∧ va_F (zA w) st t
/-- a method does f, which may throw -/
def CTX (w : Wd) (l : Launch) (y : MethodName) (bytes : ByteArray) (maxL : Nat) (ret : Option FieldType) (rm : Room) (f : Ex) : Prop :=
  ∀ vs g r, f vs g = some r → vx_Met l y (Cond.code y bytes maxL ret :: zW) rm (zPX w vs g) (fun a st oc t => ∃ o, r.1 = .inl o ∧ zQ w o r.2 a st oc t) (fun E st t => r.1 = .inr E ∧ zXC w E r.2 E st t) rm.cells rm.slots (zA w)
/-- a method with handlers does f, and doesn't throw -/
def CTW (w : Wd) (l : Launch) (y : MethodName) (bytes : ByteArray) (maxL : Nat) (ret : Option FieldType) (hh : List (Nat × Nat × Nat × Nat)) (rm : Room) (f : Ex) : Prop :=
  ∀ vs g o g', f vs g = some (.inl o, g') → Met l y (Cond.codeWith y bytes maxL ret hh :: zW) rm (zPX w vs g) (zQ w o g') rm.cells rm.slots (zA w)
theorem zPX_blind {w : Wd} {vs : List Value} {g : G} : FrameBlind (zPX w vs g) := fun a U gg mk h => ⟨h.1, ⟨KK.same (u := U) (U := U.calling gg mk a) rfl rfl h.2.1.1, KX.same (u := U) (U := U.calling gg mk a) rfl rfl h.2.1.2⟩, h.2.2⟩
def thw (E : String) : Dn := fun (_, S, g) => match S with
  | [] => fn (.inr E) (g.1, 0)
  | _ => none
theorem zat_all : ∀ x ∈ vx_atS "CoilSlits" 50 "java/lang/IndexOutOfBoundsException" ["java/lang/RuntimeException", "java/lang/Exception"], x ∈ lw_tbl ∧ vx_ot x = true ∧ (goodWord x = true ∨ x = Cond.castable "java/lang/IndexOutOfBoundsException" "java/lang/IndexOutOfBoundsException" ∨ x ∈ zDc) := by decide +kernel
theorem zat_all2 : ∀ x ∈ vx_atS "CoilSlits" 61 "java/lang/IllegalArgumentException" ["java/lang/RuntimeException", "java/lang/Exception"], x ∈ lw_tbl ∧ vx_ot x = true ∧ (goodWord x = true ∨ x = Cond.castable "java/lang/IllegalArgumentException" "java/lang/IllegalArgumentException" ∨ x ∈ zDc) := by decide +kernel
theorem zat_all3 : ∀ x ∈ vx_atS "CoilSlits" 69 "java/lang/IllegalStateException" ["java/lang/RuntimeException", "java/lang/Exception"], x ∈ lw_tbl ∧ vx_ot x = true ∧ (goodWord x = true ∨ x = Cond.castable "java/lang/IllegalStateException" "java/lang/IllegalStateException" ∨ x ∈ zDc) := by decide +kernel
section
variable {w : Wd} {b : Bool} {p : Program} {l : Launch} {e : Jvm.Env} {R : Room} {s : State} {m : MethodId} {args : Array Value} {below : List Frame} {meth : Method} {c : Code} {Q : State → Prop} {cc : ByteArray} {n cs ss pc : Nat} {own : String} {E : Env}
variable {L : List (Option Value)} {S : List Value} {g g' : G} {st st' : St} {o : Option Value} {H : Heap} {locs : List Loc}
variable {mc ms pe p1 c1 s1 tgt : Nat} {F : Out → G → Prop} {ret : Option FieldType} {kb kc : St → Prop} {is : List Instr}
theorem W.mono {Q1 Q2 : State → Prop} (h : ∀ t, Q1 t → Q2 t) {gj : JFrame} (k : W p l e R s m args below meth c H locs cs ss Q1 gj) : W p l e R s m args below meth c H locs cs ss Q2 gj := fun T hT X => by
  obtain ⟨t, a1, b1⟩ := k T hT X
  exact ⟨t, a1, h t b1⟩
abbrev zTok (w : Wd) (p : Program) (l : Launch) (e : Jvm.Env) (R : Room) (s : State) (m : MethodId) (args : Array Value) (below : List Frame) (meth : Method) (c : Code) (Q : State → Prop) (mc ms : Nat) (F : Out → G → Prop) : Prop :=
  ∀ (E : String) (g1 : G), F (.inr E) g1 → ∀ (H : Heap) (locs : List Loc) (cs ss : Nat) (gj : JFrame), W p l e R s m args below meth c H locs cs ss (vx_MQ below (fun _ _ _ _ => False) (zXC w E g1) args s mc ms (zA w)) gj → W p l e R s m args below meth c H locs cs ss Q gj
def MX2 (w : Wd) (p : Program) (l : Launch) (e : Jvm.Env) (R : Room) (s : State) (m : MethodId) (args : Array Value) (below : List Frame) (meth : Method) (c : Code) (Q : State → Prop) (mc ms : Nat) (F : Out → G → Prop) : Prop :=
  KX w s ∧ (∀ x ∈ c.exceptionTable.toList, False) ∧ l.stackTraces = false ∧ zTok w p l e R s m args below meth c Q mc ms F
theorem ctx_of {y : MethodName} {rm : Room} {d : Dn} (hl : l.stackTraces = false) (hy : plainName y.cls = true)
    (heo : ∀ (p : Program) (e : Jvm.Env) (s : State) (m : MethodId) (args : Array Value) (below : List Frame) (meth : Method) (c : Code) (Q : State → Prop), CX w p s m args c cc n y.cls → meth.name = y.name → EnvOk w b p l e rm s m args below meth c Q cc n y.cls E)
    (body : ∀ (p : Program) (e : Jvm.Env) (s : State) (m : MethodId) (args : Array Value) (below : List Frame) (meth : Method) (c : Code) (Q : State → Prop) (F : Out → G → Prop), MC w b p l e rm s m args below meth c Q cc n y.cls E rm.cells rm.slots F ret → MX2 w p l e rm s m args below meth c Q rm.cells rm.slots F → Sn (zK w b p l e rm s m args below meth c Q n) F (fun _ => False) (fun _ => False) 0 0 0 d rm.cells rm.slots pe) : CTX w l y cc n ret rm (exb b n d) := by
  intro vs g r hf
  have hf2 : exm n d vs g = some r ∧ (b = true → zc1 vs = true) := by
    unfold exb at hf
    split at hf
    · cases hf
    · rename_i hne
      refine ⟨hf, fun hb => ?_⟩
      cases hz : zc1 vs with
      | true => rfl
      | false => exact absurd hz (hne hb)
  obtain ⟨hf, hb1⟩ := hf2
  unfold exm at hf
  split at hf
  · rename_i hlen
    refine vx_ofW (cc := cc) (maxL := n) (ret := ret) hy rfl ?_
    intro p e s m args below meth c s₁ B hml hex hv
    obtain ⟨rfl, ⟨hK, hKX⟩, hG⟩ := hv
    have hts := atoms_spec (ws := Cond.code y cc n ret :: zW) B.pre
    have hown : s.vm.findClass y.cls = some m.cls := findClass_of_methodNamed B.named
    have cx : CX w p s m (vs.map (ztv w)).toArray c cc n y.cls := ⟨B.exec, B.bytes, hml, hown, fun x hx hg => hts x (List.mem_cons_of_mem _ (List.mem_filter.mpr ⟨hx, hg⟩)), hK⟩
    have hsn := body p e s m (vs.map (ztv w)).toArray below meth c (vx_MQ below (fun a st oc t => ∃ o, r.1 = .inl o ∧ zQ w o r.2 a st oc t) (fun E st t => r.1 = .inr E ∧ zXC w E r.2 E st t) (vs.map (ztv w)).toArray s rm.cells rm.slots (zA w)) (fun o1 g1 => (o1, g1) = r)
      ⟨cx, heo p e s m _ below meth c _ cx (name_of_methodNamed B.named B.method).1, fun o1 g1 hF H locs gj k => vx_ret (W.mono (fun t ht => by
          obtain ⟨oc, h1, h2, h3, h4⟩ := ht
          refine ⟨oc, h1, h2, ⟨o1, by rw [← hF], ?_⟩, h4⟩
          rw [← hF]; exact h3) k), B.returns, B.notSynchronized⟩
      ⟨hKX, hex, hl, fun E g1 hF H locs cs ss gj k => W.mono (fun t ht => by
          obtain ⟨oc, h1, h2, h3⟩ := ht
          refine ⟨oc, h1, h2, ?_⟩
          rcases h3 with ⟨h4, -⟩ | ⟨q, h5, E', ce, L, h6, h7⟩
          · exact h4.elim
          · refine Or.inr ⟨q, h5, E', ce, L, ?_, h7⟩
            obtain ⟨rfl, h8, h9⟩ := h6
            exact ⟨by rw [← hF], rfl, by rw [← hF]; exact h8, h9⟩) k⟩ (zpad n (zsl vs), [], g)
    split at hf
    · rename_i x hx
      cases hf
      rw [hx] at hsn
      have k := hsn rfl
      rw [lg_entry_eq]
      exact k (by simp [zpad]; omega) s.heap [] _ (zentry hlen hb1) hG va_S.rf
    · cases hf
  · cases hf
theorem m_thw {X text : String} {ik is ic : Nat} (h : MC w b p l e R s m args below meth c Q cc n "CoilSlits" E mc ms F ret) (hx : MX2 w p l e R s m args below meth c Q mc ms F)
    (hcls : Bundle.fit X = true) (hk : Cond.classLink "CoilSlits" ik X ∈ lw_tbl) (hini : Cond.initialized X ∈ lw_tbl) (hstr : (is, text) ∈ zTx) (hX : X ∈ zEx)
    (hat : ∀ x ∈ vx_atS "CoilSlits" ic X ["java/lang/RuntimeException", "java/lang/Exception"], x ∈ lw_tbl ∧ vx_ot x = true ∧ (goodWord x = true ∨ x = Cond.castable X X ∨ x ∈ zDc))
    (d0 : decode cc pc = .ok (.new ik, 3)) (d3 : decode cc (pc + 3) = .ok (.dup, 1)) (d4 : decode cc (pc + 4) = .ok (.ldc is, 2)) (d6 : decode cc (pc + 6) = .ok (.invokespecial ic, 3)) (d9 : decode cc (pc + 9) = .ok (.athrow, 1))
    (hR : 5 < R.frames ∧ 82 ≤ R.locals ∧ cs + 1 ≤ R.cells ∧ ss + 6 ≤ R.slots) (hc : cs + 1 ≤ mc) (hs : ss + 6 ≤ ms) : Sn (zK w b p l e R s m args below meth c Q n) F kb kc cs ss pc (thw X) c1 s1 pe := by
  intro st
  obtain ⟨L, S, g⟩ := st
  cases S with
  | cons v S => trivial
  | nil =>
    intro hF
    obtain ⟨cx, -, -, -, hlk⟩ := h
    obtain ⟨hKX, hex, hl, htk⟩ := hx
    obtain ⟨sa, hsa⟩ := hKX.1 _ hstr
    intro hn H locs ls hL hG hS
    refine htk X (g.1, 0) hF H locs cs ss _ ?_
    refine vx_throwS (names := ["java/lang/RuntimeException", "java/lang/Exception"]) (sa := sa) (A := zA w) cx.hx cx.hb hl cx.hown hcls (by decide +kernel) (cx.hts hk rfl) (cx.hts hini rfl) hsa (fun x hx1 => ?_) (fun x hx1 => ?_) hKX.2.1 hKX.2.2.1 hS (by rw [cx.hml, hL.2.1]; exact hn) d0 d3 d4 d6 d9 (fun x hx1 => (hex x hx1).elim) (by show 2 + 3 < _; omega) (by show 0 + (13 * (2 + 1) + 43) ≤ _; omega) hR.2.2.1 hR.2.2.2 hlk (fun t ha hz ho => ?_) hS.2.2 hc hs
    · obtain ⟨h1, h2, h3⟩ := hat x hx1
      rcases h3 with h3 | rfl | h3
      · exact cx.hts h1 h3
      · exact va_Nw.use rfl (hKX.2.2.2.1 X hX)
      · refine va_Nw.use ?_ (hKX.2.2.2.2.2 x h3)
        simp only [zDc, List.mem_cons, List.not_mem_nil, or_false] at h3
        rcases h3 with rfl | rfl | rfl <;> rfl
    · rcases List.mem_cons.mp hx1 with rfl | hx1
      · rfl
      · rcases List.mem_cons.mp hx1 with rfl | hx1
        · rfl
        · exact (hat x hx1).2.1
    · refine ⟨rfl, ⟨fun k c0 hk0 => ?_, Nat.le_trans hG.2.1 hz, fun h0 => absurd rfl h0⟩, Nat.le_trans hS.1 hz, fun q h1 h2 => (ho q (Nat.lt_of_lt_of_le h1 hS.1)).trans (hS.2.1 q h1 h2)⟩
      obtain ⟨a1, a2⟩ := hG.1 k c0 hk0
      exact ⟨a1, va_at.kept a2 (ho _ a2.lt)⟩
theorem CTX.rv {y : MethodName} {rm : Room} {f : Ex} (ci : Nat) (h : CTX w l y cc n ret rm f) : CTX w l y cc n ret rm (zrv ci f) := by
  intro vs g r hf
  unfold zrv at hf
  split at hf
  · split at hf
    · split at hf
      · exact h _ _ _ hf
      · cases hf
    · cases hf
  · cases hf
theorem Met_ofWH {y : MethodName} {ws ws' : List Cond} {rm : Room} {Pc : Array Value → State → Prop} {Qc : Array Value → State → Outcome → State → Prop} {free : Addr → Prop} {maxL : Nat} {hh : List (Nat × Nat × Nat × Nat)}
    (hy : plainName y.cls = true) (hw : ws = Cond.codeWith y cc maxL ret hh :: ws')
    (body : ∀ p e s m args below meth c s₁, BodyLoose p l y (headSpec ws rm) cc maxL ret e s m args below meth c s₁ → c.maxLocals = maxL → Pc args s →
      W p l e (headSpec ws rm).room s m args below meth c s.heap [] 0 0 (MQ below Qc args s mc ms free) (entryFrame m args maxL)) : Met l y ws rm Pc Qc mc ms free := by
  refine MetFree.of_bodyS (code := cc) (maxLocals := maxL) (ret := ret) hy ?_ ?_
  · intro args s m h hn
    obtain ⟨m9, meth, c, hn9, h1, h2, h3, h4, -, h5, h6, -⟩ := Cond.codeWith_spec (atoms_spec (ws := ws) h _ (by rw [hw]; exact List.mem_cons_self))
    cases hn.symm.trans hn9
    exact ⟨meth, c, h1, h2, h3, h4, h5, h6⟩
  · intro p e s m args below meth c s₁ B hml hP _
    have hh0 : s₁.heap = s.heap := by rw [B.state]; rfl
    obtain ⟨t, a1, o, b1, b2, b3⟩ := body p e s m args below meth c s₁ B hml hP s₁ hh0 (Stand.of_body B)
    exact ⟨t, o, a1, b1, b2, b3.1, b3.2⟩
/-- handlers: class, its place in the pool, the handler's place, the length of its store, the answer -/
abbrev Hd : Type := String × Nat × Nat × Nat × Int
def zhh (p5 : Nat) (hs : List Hd) : List (Nat × Nat × Nat × Nat) := hs.map (fun h : Hd => (0, p5, h.2.2.1, h.2.1))
def lookH (E : String) : List Hd → Option Int
  | [] => none
  | (T, _, _, _, k) :: r => if T = E then some k else lookH E r
theorem lookH_split {E : String} {k : Int} : ∀ {hs : List Hd}, lookH E hs = some k → ∃ pre cp hp ln suf, hs = pre ++ (E, cp, hp, ln, k) :: suf ∧ ∀ z ∈ pre, z.1 ≠ E
  | [], h => by cases h
  | (T, cp, hp, ln, k') :: r, h => by
    unfold lookH at h
    split at h
    · rename_i e
      cases h; subst e
      exact ⟨[], cp, hp, ln, r, rfl, fun z hz => absurd hz List.not_mem_nil⟩
    · rename_i hne
      obtain ⟨pre, cp', hp', ln', suf, e1, e2⟩ := lookH_split h
      exact ⟨(T, cp, hp, ln, k') :: pre, cp', hp', ln', suf, by rw [e1]; rfl, fun z hz => by
        rcases List.mem_cons.mp hz with rfl | hz
        · exact hne
        · exact e2 z hz⟩
/-- the whole of a method that catches: the row's place, the call of f, the store of its answer; or the handler's number -/
def xwrap (E : Env) (n : Nat) (pre : List Instr) (nn : Nat) (f : Ex) (hs : List Hd) : Ex := fun vs g => if (zsl vs).length ≤ n ∧ zc1 vs = true then match runI E pre (zpad n (zsl vs), [], g) with
    | some (L, S, g) => match popN nn [] S with
      | some (us, [.int i, .ref a]) => match f us g with
        | some (.inl (some (.int r)), g) => match runI E [.i2l, .lastore] (L, [.int r, .int i, .ref a], g) with
          | some (_, [], g) => some (.inl (some (.int 0)), g)
          | _ => none
        | some (.inr X, g) => match lookH X hs with
          | some k => some (.inl (some (.int (Int32.ofInt k))), g)
          | none => none
        | _ => none
      | _ => none
    | none => none
  else none
/-- a handler: it stores the exception, and answers a number -/
def zhd (cc : ByteArray) (h : Hd) : Bool := match decode cc h.2.2.1 with
  | .ok (.astore k, len) => decide (len = 2) && (decide (h.2.2.2.1 = k) && (decide (decode cc (h.2.2.1 + 2) = .ok (.iconst h.2.2.2.2, 1)) && decide (decode cc (h.2.2.1 + 3) = .ok (.ireturn, 1))))
  | .ok (.astore_n k, len) => decide (len = 1) && (decide (h.2.2.2.1 = (k : Nat)) && (decide (decode cc (h.2.2.1 + 1) = .ok (.iconst h.2.2.2.2, 1)) && decide (decode cc (h.2.2.1 + 2) = .ok (.ireturn, 1))))
  | _ => false
theorem hd_sound {ls : Array Slot} {q : Nat} {h : Hd} (cx : CX w p s m args c cc n own) (hlk : meth.locks = false) (hr : meth.sig.returnType = some .int) (hlv : LvR w true ls L) (hn : L.length = n) (hz : zhd cc h = true) (hk : h.2.2.2.1 < n) (hG : RepG w g' H) (hS : va_S (zA w) s.heap H locs) (hcs : cs = mc) (hss : ss = ms) :
    W p l e R s m args below meth c H locs cs ss (MQ below (zQ w (some (.int (Int32.ofInt h.2.2.2.2))) g') args s mc ms (zA w)) (F0 m h.2.2.1 ls [.ref q]) := by
  subst hcs; subst hss
  obtain ⟨T, cp, hp, kk, kv⟩ := h
  dsimp only at hz hk ⊢
  unfold zhd at hz
  dsimp only at hz
  split at hz
  · rename_i k len hd
    simp only [Bool.and_eq_true, decide_eq_true_eq] at hz
    obtain ⟨rfl, rfl, h3, h4⟩ := hz
    refine lv_astore cx.hx cx.hb hd hlv.has (by rw [hn]; exact hk) rfl (fun ls' hl' => ?_)
    refine lv_iconst cx.hx cx.hb h3 rfl ?_
    exact W.iret cx.hx cx.hb hr (fun t ht hW => ⟨⟨rfl, by rw [ht]; exact hG⟩, hS.F ht⟩) hS.2.2 h4
  · rename_i k len hd
    simp only [Bool.and_eq_true, decide_eq_true_eq] at hz
    obtain ⟨rfl, rfl, h3, h4⟩ := hz
    refine lv_astore_n cx.hx cx.hb hd rfl hlv.has (by rw [hn]; exact hk) rfl (fun ls' hl' => ?_)
    refine lv_iconst cx.hx cx.hb h3 rfl ?_
    exact W.iret cx.hx cx.hb hr (fun t ht hW => ⟨⟨rfl, by rw [ht]; exact hG⟩, hS.F ht⟩) hS.2.2 h4
  · cases hz
theorem ct_wrap {y yM : MethodName} {bM : ByteArray} {nM nn idx pc0 p5 pend : Nat} {off : Int} {retM : Option FieldType} {rm rmM : Room} {f : Ex} {hs : List Hd} {pre : List Instr} {ci : Nat} (hy : plainName y.cls = true) (hmc : rm.cells = rmM.cells) (hms : rm.slots = rmM.slots)
    (hM : CTX w l yM bM nM retM rmM f) (hown : y.cls = "CoilSlitsLaw")
    (hE : E = (true, [], [], [], [], fun _ => none, false))
    (hz : zck cc 0 pre = some pc0) (hd : decode cc pc0 = .ok (.invokevirtual idx, 3)) (hz2 : zck cc (pc0 + 3) [.i2l, .lastore] = some p5) (hgo : decode cc p5 = .ok (.goto off, 3)) (ht : (p5 : Int) + off = (pend : Int)) (he0 : decode cc pend = .ok (.iconst 0, 1)) (he1 : decode cc (pend + 1) = .ok (.ireturn, 1))
    (hcov : pc0 < p5)
    (hhs : ∀ h ∈ hs, zhd cc h = true ∧ h.2.2.2.1 < n ∧ h.1 ∈ zEx ∧ h.2.1 ≠ 0 ∧ Cond.classLink "CoilSlitsLaw" h.2.1 h.1 ∈ lw_tbl)
    (hcode : Cond.code yM bM nM retM ∈ lw_tbl) (hlink : Cond.methodLink "CoilSlitsLaw" idx yM ∈ lw_tbl) (hini : Cond.initialized yM.cls ∈ lw_tbl) (hin : Cond.instanceMethod yM ∈ lw_tbl) (hsel : Cond.selects yM.cls yM yM ∈ lw_tbl) (h7 : ci < 7) (hci : ((zcl[ci]?).getD ("", F_Row, 0)).1 = yM.cls)
    (hdd : yM.cls ≠ "java/lang/invoke/MethodHandle" ∧ yM.cls ≠ "java/lang/invoke/VarHandle" ∧ (parseMethodDescriptor yM.desc).map (fun d => d.parameters.length) = some nn) (hR : rmM.frames + 1 ≤ rm.frames ∧ 8 + (nM + 11) + rmM.locals ≤ rm.locals) :
    CTW w l y cc n (some .int) (zhh p5 hs) rm (xwrap E n pre (nn + 1) (zrv ci f) hs) := by
  intro vs g o g' hf
  unfold xwrap at hf
  split at hf
  · rename_i hlz
    obtain ⟨hlen, hz1⟩ := hlz
    refine Met_ofWH (cc := cc) (maxL := n) (ret := some .int) hy rfl ?_
    intro p e s m args below meth c s₁ B hml hv
    obtain ⟨rfl, ⟨hK, hKX⟩, hG⟩ := hv
    have hts := atoms_spec (ws := Cond.codeWith y cc n (some .int) (zhh p5 hs) :: zW) B.pre
    have hown2 : s.vm.findClass y.cls = some m.cls := findClass_of_methodNamed B.named
    rw [hown] at hown2
    have cx : CX w p s m (vs.map (ztv w)).toArray c cc n "CoilSlitsLaw" := ⟨B.exec, B.bytes, hml, hown2, fun x hx hg => hts x (List.mem_cons_of_mem _ (List.mem_filter.mpr ⟨hx, hg⟩)), hK⟩
    have htab := vx_table (x := y) B (hts _ List.mem_cons_self)
    have eo : ∀ Q, EnvOk w true p l e (headSpec (Cond.codeWith y cc n (some .int) (zhh p5 hs) :: zW) rm).room s m (vs.map (ztv w)).toArray below meth c Q cc n "CoilSlitsLaw" E := fun Q => by
      subst hE
      exact ⟨rfl, fun q h => absurd h List.not_mem_nil, fun q h => absurd h List.not_mem_nil, fun q h => absurd h List.not_mem_nil, (fun k a h => nomatch h), (fun h => nomatch h), fun q h => absurd h List.not_mem_nil⟩
    have hR0 : 0 ≤ (headSpec (Cond.codeWith y cc n (some .int) (zhh p5 hs) :: zW) rm).room.cells ∧ 0 ≤ (headSpec (Cond.codeWith y cc n (some .int) (zhh p5 hs) :: zW) rm).room.slots := ⟨Nat.zero_le _, Nat.zero_le _⟩
    have hlk := B.notSynchronized
    have hrt := B.returns
    have hstart : Kn w true p l e (headSpec (Cond.codeWith y cc n (some .int) (zhh p5 hs) :: zW) rm).room s m (vs.map (ztv w)).toArray below meth c (MQ below (zQ w o g') (vs.map (ztv w)).toArray s rm.cells rm.slots (zA w)) n 0 0 0 (zpad n (zsl vs), [], g) := by
      split at hf
      · rename_i L S g1 hrun
        refine run_sound cx (eo _) hR0 pre hz hrun ?_
        split at hf
        · rename_i us i a hp
          obtain ⟨us', e1, e2, e3⟩ := popN_spec hp
          rw [List.append_nil] at e1
          subst e1; subst e3
          intro hn H locs ls hL hG1 hS
          -- the call
          obtain ⟨rcv, fs, As, rfl, hM1⟩ : ∃ rcv fs As, us = .ref rcv :: As ∧ g1.1 rcv = some (.inr (ci, fs)) := by
            have hne : zrv ci f us g1 ≠ none := by intro h0; rw [h0] at hf; cases hf
            unfold zrv at hne
            split at hne
            · rename_i a1 As
              split at hne
              · rename_i cj fs hM1
                split at hne
                · rename_i hcj; subst hcj; exact ⟨a1, fs, As, rfl, hM1⟩
                · exact absurd rfl hne
              · exact absurd rfl hne
            · exact absurd rfl hne
          obtain ⟨r, hr⟩ := zcl_at h7
          rw [hr] at hci
          dsimp only [Option.getD_some] at hci
          have hrecv := va_recv cx.kk.1 (hG1.one hM1) (ci := ci) (q0 := 0) hr rfl
          rw [hci] at hrecv
          obtain ⟨res, hres⟩ : ∃ res, zrv ci f (.ref rcv :: As) g1 = some res := by
            cases hq : zrv ci f (.ref rcv :: As) g1 with
            | none => rw [hq] at hf; cases hf
            | some res => exact ⟨res, rfl⟩
          have hres2 : f (.ref rcv :: As) g1 = some res := by
            have h0 := hres
            unfold zrv at h0
            dsimp only at h0
            rw [hM1] at h0
            dsimp only at h0
            rw [if_pos rfl] at h0
            exact h0
          have hcall := vx_runV (e := e) (below := below) (meth := meth) (As := As.map (ztv w)) (rest := [.int i, .ref (zad w a)]) (g := F0 m pc0 ls ((((Value.ref rcv :: As).reverse ++ ([.int i, .ref a] : List Value))).map (ztv w))) (cells := 0) (slots := 0) (locs := locs) (H := H) ⟨cx.hx, cx.hb, cx.hml, cx.hown, cx.hall⟩ (hM _ _ _ hres2) ⟨zcallB cx hcode hlink hini hdd hR, cx.hts hin rfl, cx.hts hsel rfl⟩
            ⟨zPX_blind, hrecv, fun U hU hW => ⟨rfl, ⟨KK.warm hW (fun a h1 h2 => by rw [hU]; exact hS.2.1 a h1 h2) cx.kk, KX.warm hW (fun a h1 h2 => by rw [hU]; exact hS.2.1 a h1 h2) hKX⟩, by rw [hU]; exact hG1⟩⟩ rfl (by simp at e2 ⊢; omega) (by show ls.size = n; rw [hL.2.1]; exact hn) (by show List.map _ _ = _; simp [ztv]) (by show 2 * 0 + 2 ≤ 8; omega) hd ⟨by show 0 + rmM.cells ≤ rm.cells; omega, by show 0 + rmM.slots ≤ rm.slots; omega⟩
          intro T hT X
          rcases hcall T hT X with ⟨v, st₀, t, T', LL, h0, X', hLL, e4, e5, ⟨o2, ho2, ⟨hv2, hg2⟩, hF2⟩, st⟩ | ⟨q, st₀, t, T', LL, E2, ce, h0, X', hLL, e4, e5, ⟨ho2, hE2, hg2, hF2⟩, hce, hcv, hcl, st⟩
          · -- it returned
            cases hv2
            obtain ⟨r1, r2⟩ := res
            dsimp only at ho2
            subst ho2
            rw [hres] at hf
            obtain ⟨k1, k2, k3⟩ := vx_keep h0 e4 hS (fun q _ h => h) (fun q h => h) hLL hF2
            rw [Nat.zero_add, Nat.zero_add, ← hmc, ← hms] at X'
            cases o2 with
            | none => cases hf
            | some v2 =>
              cases v2 with
              | int r3 =>
                dsimp only at hf
                cases hr3 : runI E [.i2l, .lastore] (L, [.int r3, .int i, .ref a], r2) with
                | none => rw [hr3] at hf; cases hf
                | some st3 =>
                  obtain ⟨L3, S3, g3⟩ := st3
                  rw [hr3] at hf
                  cases S3 with
                  | cons v3 S3 => cases hf
                  | nil =>
                    cases hf
                    have kfin : Kn w true p l e (headSpec (Cond.codeWith y cc n (some .int) (zhh p5 hs) :: zW) rm).room s m (vs.map (ztv w)).toArray below meth c (MQ below (zQ w (some (.int 0)) g') (vs.map (ztv w)).toArray s rm.cells rm.slots (zA w)) n rm.cells rm.slots p5 (L3, [], g') := by
                      intro hn H locs ls hL hG hS
                      refine lv_goto cx.hx cx.hb hgo ht ?_
                      refine lv_iconst (v := 0) cx.hx cx.hb he0 rfl ?_
                      exact W.iret cx.hx cx.hb hrt (fun t ht hW => ⟨⟨rfl, by rw [ht]; exact hG⟩, hS.F ht⟩) hS.2.2 he1
                    have k4 := run_sound (cs := rm.cells) (ss := rm.slots) cx (eo _) ⟨Nat.le_refl _, Nat.le_refl _⟩ _ hz2 hr3 kfin hn T'.heap (locs ++ LL) ls hL (by rw [e4]; exact hg2) k3 T' rfl X'
                    obtain ⟨t2, a1, b1⟩ := k4
                    exact ⟨t2, st t2 a1, b1⟩
              | _ => cases hf
          · -- it threw
            obtain ⟨r1, r2⟩ := res
            dsimp only at ho2
            subst ho2
            rw [hres] at hf
            obtain ⟨k1, k2, k3⟩ := vx_keep h0 e4 hS (fun q _ h => h) (fun q h => h) hLL hF2
            rw [Nat.zero_add, Nat.zero_add, ← hmc, ← hms] at X'
            dsimp only at hf
            cases hk : lookH E2 hs with
            | none => rw [hk] at hf; cases hf
            | some kv =>
              rw [hk] at hf
              cases hf
              obtain ⟨pre2, cp, hp2, ln, suf, e6, e7⟩ := lookH_split hk
              have hmem : ((E2, cp, hp2, ln, kv) : Hd) ∈ hs := by rw [e6]; exact List.mem_append_right _ List.mem_cons_self
              obtain ⟨q1, q2, q3, q4, q5⟩ := hhs _ hmem
              have kw : vx_W p l e (headSpec (Cond.codeWith y cc n (some .int) (zhh p5 hs) :: zW) rm).room s m (vs.map (ztv w)).toArray below meth c T'.heap (locs ++ LL) rm.cells rm.slots (MQ below (zQ w (some (.int (Int32.ofInt kv))) g') (vs.map (ztv w)).toArray s rm.cells rm.slots (zA w)) (F0 m pc0 ls [.int i, .ref (zad w a)]) q := by
                refine vx_catch (E := E2) (name := E2) (ce := ce) cx.hown (tableOf (zhh p5 pre2)) ⟨0, p5, hp2, cp⟩ (tableOf (zhh p5 suf)) (by rw [htab, e6]; simp [tableOf, zhh]) (fun z hz1 => ?_) (by simp [covers, hcov]) q4 (cx.hts q5 rfl) (va_Nw.use rfl (hKX.2.2.2.1 E2 q3)) (by rw [e4]; exact hce) hcv hcl ?_
                · right
                  simp only [tableOf, zhh, List.map_map, List.mem_map] at hz1
                  obtain ⟨h1, h2, rfl⟩ := hz1
                  have hm1 : h1 ∈ hs := by rw [e6]; exact List.mem_append_left _ h2
                  obtain ⟨w1, w2, w3, w4, w5⟩ := hhs _ hm1
                  exact ⟨w4, h1.1, cx.hts w5 rfl, hKX.2.2.2.2.1 E2 q3 h1.1 w3 (Ne.symm (e7 h1 h2))⟩
                · exact hd_sound (h := (E2, cp, hp2, ln, kv)) cx hlk hrt hL hn q1 q2 (by rw [e4]; exact hg2) k3 rfl rfl
              obtain ⟨t2, a1, b1⟩ := kw T' rfl X'
              exact ⟨t2, st.trans a1, b1⟩
        · cases hf
      · cases hf
    rw [lg_entry_eq]
    exact hstart (by simp [zpad]; omega) s.heap [] _ (zentry hlen (fun _ => hz1)) hG va_S.rf
  · cases hf
end
end
