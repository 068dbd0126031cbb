section
-- ===== PART A: goes FIRST, ahead of the names: the tables' words, and 'selects' of the private methods out of them =====
/-- a private method of a class that the tables say can be made, by its rows of tables_1 -/
def lw_okq (q : MethodName × Nat) : Prop := (q.1.cls ≠ "java/lang/invoke/MethodHandle" ∧ q.1.cls ≠ "java/lang/invoke/VarHandle") ∧ Cond.instantiable q.1.cls q.2 ∈ tables_1 ∧ Cond.privateMethod q.1 ∈ tables_1 ∧ Cond.instanceMethod q.1 ∈ tables_1
theorem lw_p0 : lw_okq (⟨"CoilSlits$History", "stateAt", "(I)LCoilSlits$Yard;"⟩, 3) := ⟨⟨by decide +kernel, by decide +kernel⟩, List.mem_of_getElem? (i := 95) (by decide +kernel), List.mem_of_getElem? (i := 165) (by decide +kernel), List.mem_of_getElem? (i := 166) (by decide +kernel)⟩
theorem lw_p1 : lw_okq (⟨"CoilSlits$Yard", "dearestBehind", "(II)I"⟩, 8) := ⟨⟨by decide +kernel, by decide +kernel⟩, List.mem_of_getElem? (i := 26) (by decide +kernel), List.mem_of_getElem? (i := 194) (by decide +kernel), List.mem_of_getElem? (i := 195) (by decide +kernel)⟩
theorem lw_p2 : lw_okq (⟨"CoilSlits$Yard", "widthTaken", "(I)I"⟩, 8) := ⟨⟨by decide +kernel, by decide +kernel⟩, List.mem_of_getElem? (i := 26) (by decide +kernel), List.mem_of_getElem? (i := 210) (by decide +kernel), List.mem_of_getElem? (i := 211) (by decide +kernel)⟩
theorem lw_p3 : lw_okq (⟨"CoilSlits$Yard", "mismatch", "(III)I"⟩, 8) := ⟨⟨by decide +kernel, by decide +kernel⟩, List.mem_of_getElem? (i := 26) (by decide +kernel), List.mem_of_getElem? (i := 218) (by decide +kernel), List.mem_of_getElem? (i := 219) (by decide +kernel)⟩
theorem lw_p4 : lw_okq (⟨"CoilSlits$Yard", "worthByRule", "(III)I"⟩, 8) := ⟨⟨by decide +kernel, by decide +kernel⟩, List.mem_of_getElem? (i := 26) (by decide +kernel), List.mem_of_getElem? (i := 230) (by decide +kernel), List.mem_of_getElem? (i := 231) (by decide +kernel)⟩
theorem lw_p5 : lw_okq (⟨"CoilSlits$Yard", "emptiestBeside", "(I)I"⟩, 8) := ⟨⟨by decide +kernel, by decide +kernel⟩, List.mem_of_getElem? (i := 26) (by decide +kernel), List.mem_of_getElem? (i := 245) (by decide +kernel), List.mem_of_getElem? (i := 246) (by decide +kernel)⟩
theorem lw_p6 : lw_okq (⟨"CoilSlits$Yard", "takeTop", "(I)V"⟩, 8) := ⟨⟨by decide +kernel, by decide +kernel⟩, List.mem_of_getElem? (i := 26) (by decide +kernel), List.mem_of_getElem? (i := 268) (by decide +kernel), List.mem_of_getElem? (i := 269) (by decide +kernel)⟩
theorem lw_p7 : lw_okq (⟨"CoilSlits$Yard", "putOnTop", "(IIIII)I"⟩, 8) := ⟨⟨by decide +kernel, by decide +kernel⟩, List.mem_of_getElem? (i := 26) (by decide +kernel), List.mem_of_getElem? (i := 273) (by decide +kernel), List.mem_of_getElem? (i := 274) (by decide +kernel)⟩
theorem lw_p8 : lw_okq (⟨"CoilSlits", "readBuffer", "()I"⟩, 6) := ⟨⟨by decide +kernel, by decide +kernel⟩, List.mem_of_getElem? (i := 18) (by decide +kernel), List.mem_of_getElem? (i := 293) (by decide +kernel), List.mem_of_getElem? (i := 294) (by decide +kernel)⟩
theorem lw_p9 : lw_okq (⟨"CoilSlits$CoilReader", "beginsPart", "(I)Z"⟩, 5) := ⟨⟨by decide +kernel, by decide +kernel⟩, List.mem_of_getElem? (i := 116) (by decide +kernel), List.mem_of_getElem? (i := 306) (by decide +kernel), List.mem_of_getElem? (i := 307) (by decide +kernel)⟩
theorem lw_p10 : lw_okq (⟨"CoilSlits$CoilReader", "expects", "(I)Z"⟩, 5) := ⟨⟨by decide +kernel, by decide +kernel⟩, List.mem_of_getElem? (i := 116) (by decide +kernel), List.mem_of_getElem? (i := 310) (by decide +kernel), List.mem_of_getElem? (i := 311) (by decide +kernel)⟩
theorem lw_p11 : lw_okq (⟨"CoilSlits$CoilReader", "widens", "(I)Z"⟩, 5) := ⟨⟨by decide +kernel, by decide +kernel⟩, List.mem_of_getElem? (i := 116) (by decide +kernel), List.mem_of_getElem? (i := 314) (by decide +kernel), List.mem_of_getElem? (i := 315) (by decide +kernel)⟩
theorem lw_p12 : lw_okq (⟨"CoilSlits$CoilReader", "takesGrade", "(I)Z"⟩, 5) := ⟨⟨by decide +kernel, by decide +kernel⟩, List.mem_of_getElem? (i := 116) (by decide +kernel), List.mem_of_getElem? (i := 321) (by decide +kernel), List.mem_of_getElem? (i := 322) (by decide +kernel)⟩
theorem lw_p13 : lw_okq (⟨"CoilSlits$CoilReader", "takesQuality", "(I)Z"⟩, 5) := ⟨⟨by decide +kernel, by decide +kernel⟩, List.mem_of_getElem? (i := 116) (by decide +kernel), List.mem_of_getElem? (i := 325) (by decide +kernel), List.mem_of_getElem? (i := 326) (by decide +kernel)⟩
theorem lw_p14 : lw_okq (⟨"CoilSlits$CoilReader", "takesStack", "(I)Z"⟩, 5) := ⟨⟨by decide +kernel, by decide +kernel⟩, List.mem_of_getElem? (i := 116) (by decide +kernel), List.mem_of_getElem? (i := 333) (by decide +kernel), List.mem_of_getElem? (i := 334) (by decide +kernel)⟩
theorem lw_p15 : lw_okq (⟨"CoilSlits$CoilReader", "goesOn", "(I)Z"⟩, 5) := ⟨⟨by decide +kernel, by decide +kernel⟩, List.mem_of_getElem? (i := 116) (by decide +kernel), List.mem_of_getElem? (i := 337) (by decide +kernel), List.mem_of_getElem? (i := 338) (by decide +kernel)⟩
def lw_privs_1 : List (MethodName × Nat) := [(⟨"CoilSlits$History", "stateAt", "(I)LCoilSlits$Yard;"⟩, 3), (⟨"CoilSlits$Yard", "dearestBehind", "(II)I"⟩, 8), (⟨"CoilSlits$Yard", "widthTaken", "(I)I"⟩, 8), (⟨"CoilSlits$Yard", "mismatch", "(III)I"⟩, 8), (⟨"CoilSlits$Yard", "worthByRule", "(III)I"⟩, 8), (⟨"CoilSlits$Yard", "emptiestBeside", "(I)I"⟩, 8), (⟨"CoilSlits$Yard", "takeTop", "(I)V"⟩, 8), (⟨"CoilSlits$Yard", "putOnTop", "(IIIII)I"⟩, 8), (⟨"CoilSlits", "readBuffer", "()I"⟩, 6), (⟨"CoilSlits$CoilReader", "beginsPart", "(I)Z"⟩, 5), (⟨"CoilSlits$CoilReader", "expects", "(I)Z"⟩, 5), (⟨"CoilSlits$CoilReader", "widens", "(I)Z"⟩, 5), (⟨"CoilSlits$CoilReader", "takesGrade", "(I)Z"⟩, 5), (⟨"CoilSlits$CoilReader", "takesQuality", "(I)Z"⟩, 5), (⟨"CoilSlits$CoilReader", "takesStack", "(I)Z"⟩, 5), (⟨"CoilSlits$CoilReader", "goesOn", "(I)Z"⟩, 5)]
theorem lw_r1 : ∀ q ∈ lw_privs_1, lw_okq q := List.forall_mem_cons.mpr ⟨lw_p0, List.forall_mem_cons.mpr ⟨lw_p1, List.forall_mem_cons.mpr ⟨lw_p2, List.forall_mem_cons.mpr ⟨lw_p3, List.forall_mem_cons.mpr ⟨lw_p4, List.forall_mem_cons.mpr ⟨lw_p5, List.forall_mem_cons.mpr ⟨lw_p6, List.forall_mem_cons.mpr ⟨lw_p7, List.forall_mem_cons.mpr ⟨lw_p8, List.forall_mem_cons.mpr ⟨lw_p9, List.forall_mem_cons.mpr ⟨lw_p10, List.forall_mem_cons.mpr ⟨lw_p11, List.forall_mem_cons.mpr ⟨lw_p12, List.forall_mem_cons.mpr ⟨lw_p13, List.forall_mem_cons.mpr ⟨lw_p14, List.forall_mem_cons.mpr ⟨lw_p15, fun _ h => absurd h List.not_mem_nil⟩⟩⟩⟩⟩⟩⟩⟩⟩⟩⟩⟩⟩⟩⟩⟩
theorem lw_p16 : lw_okq (⟨"CoilSlits", "beginTrial", "(I)V"⟩, 6) := ⟨⟨by decide +kernel, by decide +kernel⟩, List.mem_of_getElem? (i := 18) (by decide +kernel), List.mem_of_getElem? (i := 345) (by decide +kernel), List.mem_of_getElem? (i := 346) (by decide +kernel)⟩
theorem lw_p17 : lw_okq (⟨"CoilSlits", "counted", "(I)I"⟩, 6) := ⟨⟨by decide +kernel, by decide +kernel⟩, List.mem_of_getElem? (i := 18) (by decide +kernel), List.mem_of_getElem? (i := 383) (by decide +kernel), List.mem_of_getElem? (i := 384) (by decide +kernel)⟩
theorem lw_p18 : lw_okq (⟨"CoilSlits", "hashedPlace", "(JI)J"⟩, 6) := ⟨⟨by decide +kernel, by decide +kernel⟩, List.mem_of_getElem? (i := 18) (by decide +kernel), List.mem_of_getElem? (i := 411) (by decide +kernel), List.mem_of_getElem? (i := 412) (by decide +kernel)⟩
theorem lw_p19 : lw_okq (⟨"CoilSlits", "hashedOrder", "(JI)J"⟩, 6) := ⟨⟨by decide +kernel, by decide +kernel⟩, List.mem_of_getElem? (i := 18) (by decide +kernel), List.mem_of_getElem? (i := 423) (by decide +kernel), List.mem_of_getElem? (i := 424) (by decide +kernel)⟩
theorem lw_p20 : lw_okq (⟨"CoilSlits$Yard", "coilsSuiting", "(I)I"⟩, 8) := ⟨⟨by decide +kernel, by decide +kernel⟩, List.mem_of_getElem? (i := 26) (by decide +kernel), List.mem_of_getElem? (i := 431) (by decide +kernel), List.mem_of_getElem? (i := 432) (by decide +kernel)⟩
theorem lw_p21 : lw_okq (⟨"CoilSlits$Yard", "suits", "(III)Z"⟩, 8) := ⟨⟨by decide +kernel, by decide +kernel⟩, List.mem_of_getElem? (i := 26) (by decide +kernel), List.mem_of_getElem? (i := 435) (by decide +kernel), List.mem_of_getElem? (i := 436) (by decide +kernel)⟩
theorem lw_p22 : lw_okq (⟨"CoilSlits$Yard", "stripsFitting", "(I)I"⟩, 8) := ⟨⟨by decide +kernel, by decide +kernel⟩, List.mem_of_getElem? (i := 26) (by decide +kernel), List.mem_of_getElem? (i := 439) (by decide +kernel), List.mem_of_getElem? (i := 440) (by decide +kernel)⟩
theorem lw_p23 : lw_okq (⟨"CoilSlits", "numberOfChoice", "(I)I"⟩, 6) := ⟨⟨by decide +kernel, by decide +kernel⟩, List.mem_of_getElem? (i := 18) (by decide +kernel), List.mem_of_getElem? (i := 443) (by decide +kernel), List.mem_of_getElem? (i := 444) (by decide +kernel)⟩
theorem lw_p24 : lw_okq (⟨"CoilSlits", "gainOfTrial", "(I)I"⟩, 6) := ⟨⟨by decide +kernel, by decide +kernel⟩, List.mem_of_getElem? (i := 18) (by decide +kernel), List.mem_of_getElem? (i := 449) (by decide +kernel), List.mem_of_getElem? (i := 450) (by decide +kernel)⟩
theorem lw_p25 : lw_okq (⟨"CoilSlits", "gained", "(I)I"⟩, 6) := ⟨⟨by decide +kernel, by decide +kernel⟩, List.mem_of_getElem? (i := 18) (by decide +kernel), List.mem_of_getElem? (i := 453) (by decide +kernel), List.mem_of_getElem? (i := 454) (by decide +kernel)⟩
theorem lw_p26 : lw_okq (⟨"java/lang/Throwable", "fillInStackTrace", "(I)Ljava/lang/Throwable;"⟩, 6) := ⟨⟨by decide +kernel, by decide +kernel⟩, List.mem_of_getElem? (i := 515) (by decide +kernel), List.mem_of_getElem? (i := 513) (by decide +kernel), List.mem_of_getElem? (i := 514) (by decide +kernel)⟩
theorem lw_p27 : lw_okq (⟨"CoilSlits", "bringInBuffer", "()I"⟩, 6) := ⟨⟨by decide +kernel, by decide +kernel⟩, List.mem_of_getElem? (i := 18) (by decide +kernel), List.mem_of_getElem? (i := 708) (by decide +kernel), List.mem_of_getElem? (i := 709) (by decide +kernel)⟩
theorem lw_p28 : lw_okq (⟨"CoilSlitsModel", "fails", "(I)I"⟩, 11) := ⟨⟨by decide +kernel, by decide +kernel⟩, List.mem_of_getElem? (i := 811) (by decide +kernel), List.mem_of_getElem? (i := 859) (by decide +kernel), List.mem_of_getElem? (i := 860) (by decide +kernel)⟩
theorem lw_p29 : lw_okq (⟨"CoilSlitsModel", "saves", "()V"⟩, 11) := ⟨⟨by decide +kernel, by decide +kernel⟩, List.mem_of_getElem? (i := 811) (by decide +kernel), List.mem_of_getElem? (i := 873) (by decide +kernel), List.mem_of_getElem? (i := 874) (by decide +kernel)⟩
theorem lw_p30 : lw_okq (⟨"CoilSlitsModel", "comes", "(IIII)I"⟩, 11) := ⟨⟨by decide +kernel, by decide +kernel⟩, List.mem_of_getElem? (i := 811) (by decide +kernel), List.mem_of_getElem? (i := 877) (by decide +kernel), List.mem_of_getElem? (i := 878) (by decide +kernel)⟩
theorem lw_p31 : lw_okq (⟨"CoilSlitsModel", "mayDig", "(I)I"⟩, 11) := ⟨⟨by decide +kernel, by decide +kernel⟩, List.mem_of_getElem? (i := 811) (by decide +kernel), List.mem_of_getElem? (i := 910) (by decide +kernel), List.mem_of_getElem? (i := 911) (by decide +kernel)⟩
def lw_privs_2 : List (MethodName × Nat) := [(⟨"CoilSlits", "beginTrial", "(I)V"⟩, 6), (⟨"CoilSlits", "counted", "(I)I"⟩, 6), (⟨"CoilSlits", "hashedPlace", "(JI)J"⟩, 6), (⟨"CoilSlits", "hashedOrder", "(JI)J"⟩, 6), (⟨"CoilSlits$Yard", "coilsSuiting", "(I)I"⟩, 8), (⟨"CoilSlits$Yard", "suits", "(III)Z"⟩, 8), (⟨"CoilSlits$Yard", "stripsFitting", "(I)I"⟩, 8), (⟨"CoilSlits", "numberOfChoice", "(I)I"⟩, 6), (⟨"CoilSlits", "gainOfTrial", "(I)I"⟩, 6), (⟨"CoilSlits", "gained", "(I)I"⟩, 6), (⟨"java/lang/Throwable", "fillInStackTrace", "(I)Ljava/lang/Throwable;"⟩, 6), (⟨"CoilSlits", "bringInBuffer", "()I"⟩, 6), (⟨"CoilSlitsModel", "fails", "(I)I"⟩, 11), (⟨"CoilSlitsModel", "saves", "()V"⟩, 11), (⟨"CoilSlitsModel", "comes", "(IIII)I"⟩, 11), (⟨"CoilSlitsModel", "mayDig", "(I)I"⟩, 11)]
theorem lw_r2 : ∀ q ∈ lw_privs_2, lw_okq q := List.forall_mem_cons.mpr ⟨lw_p16, List.forall_mem_cons.mpr ⟨lw_p17, List.forall_mem_cons.mpr ⟨lw_p18, List.forall_mem_cons.mpr ⟨lw_p19, List.forall_mem_cons.mpr ⟨lw_p20, List.forall_mem_cons.mpr ⟨lw_p21, List.forall_mem_cons.mpr ⟨lw_p22, List.forall_mem_cons.mpr ⟨lw_p23, List.forall_mem_cons.mpr ⟨lw_p24, List.forall_mem_cons.mpr ⟨lw_p25, List.forall_mem_cons.mpr ⟨lw_p26, List.forall_mem_cons.mpr ⟨lw_p27, List.forall_mem_cons.mpr ⟨lw_p28, List.forall_mem_cons.mpr ⟨lw_p29, List.forall_mem_cons.mpr ⟨lw_p30, List.forall_mem_cons.mpr ⟨lw_p31, fun _ h => absurd h List.not_mem_nil⟩⟩⟩⟩⟩⟩⟩⟩⟩⟩⟩⟩⟩⟩⟩⟩
theorem lw_p32 : lw_okq (⟨"CoilSlitsModel", "isText", "()Z"⟩, 11) := ⟨⟨by decide +kernel, by decide +kernel⟩, List.mem_of_getElem? (i := 811) (by decide +kernel), List.mem_of_getElem? (i := 1005) (by decide +kernel), List.mem_of_getElem? (i := 1006) (by decide +kernel)⟩
theorem lw_p33 : lw_okq (⟨"CoilSlitsModel", "isPart", "()Z"⟩, 11) := ⟨⟨by decide +kernel, by decide +kernel⟩, List.mem_of_getElem? (i := 811) (by decide +kernel), List.mem_of_getElem? (i := 1009) (by decide +kernel), List.mem_of_getElem? (i := 1010) (by decide +kernel)⟩
theorem lw_p34 : lw_okq (⟨"CoilSlitsModel", "isWidth", "()Z"⟩, 11) := ⟨⟨by decide +kernel, by decide +kernel⟩, List.mem_of_getElem? (i := 811) (by decide +kernel), List.mem_of_getElem? (i := 1013) (by decide +kernel), List.mem_of_getElem? (i := 1014) (by decide +kernel)⟩
theorem lw_p35 : lw_okq (⟨"CoilSlitsModel", "isNext", "(II)Z"⟩, 11) := ⟨⟨by decide +kernel, by decide +kernel⟩, List.mem_of_getElem? (i := 811) (by decide +kernel), List.mem_of_getElem? (i := 1017) (by decide +kernel), List.mem_of_getElem? (i := 1018) (by decide +kernel)⟩
theorem lw_p36 : lw_okq (⟨"CoilSlitsModel", "stops", "()Z"⟩, 11) := ⟨⟨by decide +kernel, by decide +kernel⟩, List.mem_of_getElem? (i := 811) (by decide +kernel), List.mem_of_getElem? (i := 1021) (by decide +kernel), List.mem_of_getElem? (i := 1022) (by decide +kernel)⟩
theorem lw_p37 : lw_okq (⟨"CoilSlitsModel", "isFigure", "(II)Z"⟩, 11) := ⟨⟨by decide +kernel, by decide +kernel⟩, List.mem_of_getElem? (i := 811) (by decide +kernel), List.mem_of_getElem? (i := 1025) (by decide +kernel), List.mem_of_getElem? (i := 1026) (by decide +kernel)⟩
theorem lw_p38 : lw_okq (⟨"CoilSlitsModel", "lowest", "()I"⟩, 11) := ⟨⟨by decide +kernel, by decide +kernel⟩, List.mem_of_getElem? (i := 811) (by decide +kernel), List.mem_of_getElem? (i := 1033) (by decide +kernel), List.mem_of_getElem? (i := 1034) (by decide +kernel)⟩
theorem lw_p39 : lw_okq (⟨"CoilSlitsModel", "coilAt", "(I)I"⟩, 11) := ⟨⟨by decide +kernel, by decide +kernel⟩, List.mem_of_getElem? (i := 811) (by decide +kernel), List.mem_of_getElem? (i := 1041) (by decide +kernel), List.mem_of_getElem? (i := 1042) (by decide +kernel)⟩
theorem lw_p40 : lw_okq (⟨"CoilSlitsModel", "ofCoil", "(II)I"⟩, 11) := ⟨⟨by decide +kernel, by decide +kernel⟩, List.mem_of_getElem? (i := 811) (by decide +kernel), List.mem_of_getElem? (i := 1049) (by decide +kernel), List.mem_of_getElem? (i := 1050) (by decide +kernel)⟩
theorem lw_p41 : lw_okq (⟨"CoilSlitsModel", "ofOrder", "(II)I"⟩, 11) := ⟨⟨by decide +kernel, by decide +kernel⟩, List.mem_of_getElem? (i := 811) (by decide +kernel), List.mem_of_getElem? (i := 1057) (by decide +kernel), List.mem_of_getElem? (i := 1058) (by decide +kernel)⟩
theorem lw_p42 : lw_okq (⟨"CoilSlitsModel", "counted", "(I)I"⟩, 11) := ⟨⟨by decide +kernel, by decide +kernel⟩, List.mem_of_getElem? (i := 811) (by decide +kernel), List.mem_of_getElem? (i := 1069) (by decide +kernel), List.mem_of_getElem? (i := 1070) (by decide +kernel)⟩
theorem lw_p43 : lw_okq (⟨"CoilSlitsModel", "ofCoils", "(I)I"⟩, 11) := ⟨⟨by decide +kernel, by decide +kernel⟩, List.mem_of_getElem? (i := 811) (by decide +kernel), List.mem_of_getElem? (i := 1073) (by decide +kernel), List.mem_of_getElem? (i := 1074) (by decide +kernel)⟩
theorem lw_p44 : lw_okq (⟨"CoilSlitsModel", "choiceFor", "(I)I"⟩, 11) := ⟨⟨by decide +kernel, by decide +kernel⟩, List.mem_of_getElem? (i := 811) (by decide +kernel), List.mem_of_getElem? (i := 1085) (by decide +kernel), List.mem_of_getElem? (i := 1086) (by decide +kernel)⟩
theorem lw_p45 : lw_okq (⟨"CoilSlitsModel", "byServing", "(III)I"⟩, 11) := ⟨⟨by decide +kernel, by decide +kernel⟩, List.mem_of_getElem? (i := 811) (by decide +kernel), List.mem_of_getElem? (i := 1093) (by decide +kernel), List.mem_of_getElem? (i := 1094) (by decide +kernel)⟩
theorem lw_p46 : lw_okq (⟨"CoilSlitsModel", "tries", "()V"⟩, 11) := ⟨⟨by decide +kernel, by decide +kernel⟩, List.mem_of_getElem? (i := 811) (by decide +kernel), List.mem_of_getElem? (i := 1097) (by decide +kernel), List.mem_of_getElem? (i := 1098) (by decide +kernel)⟩
theorem lw_p47 : lw_okq (⟨"CoilSlitsModel", "best", "()I"⟩, 11) := ⟨⟨by decide +kernel, by decide +kernel⟩, List.mem_of_getElem? (i := 811) (by decide +kernel), List.mem_of_getElem? (i := 1105) (by decide +kernel), List.mem_of_getElem? (i := 1106) (by decide +kernel)⟩
def lw_privs_3 : List (MethodName × Nat) := [(⟨"CoilSlitsModel", "isText", "()Z"⟩, 11), (⟨"CoilSlitsModel", "isPart", "()Z"⟩, 11), (⟨"CoilSlitsModel", "isWidth", "()Z"⟩, 11), (⟨"CoilSlitsModel", "isNext", "(II)Z"⟩, 11), (⟨"CoilSlitsModel", "stops", "()Z"⟩, 11), (⟨"CoilSlitsModel", "isFigure", "(II)Z"⟩, 11), (⟨"CoilSlitsModel", "lowest", "()I"⟩, 11), (⟨"CoilSlitsModel", "coilAt", "(I)I"⟩, 11), (⟨"CoilSlitsModel", "ofCoil", "(II)I"⟩, 11), (⟨"CoilSlitsModel", "ofOrder", "(II)I"⟩, 11), (⟨"CoilSlitsModel", "counted", "(I)I"⟩, 11), (⟨"CoilSlitsModel", "ofCoils", "(I)I"⟩, 11), (⟨"CoilSlitsModel", "choiceFor", "(I)I"⟩, 11), (⟨"CoilSlitsModel", "byServing", "(III)I"⟩, 11), (⟨"CoilSlitsModel", "tries", "()V"⟩, 11), (⟨"CoilSlitsModel", "best", "()I"⟩, 11)]
theorem lw_r3 : ∀ q ∈ lw_privs_3, lw_okq q := List.forall_mem_cons.mpr ⟨lw_p32, List.forall_mem_cons.mpr ⟨lw_p33, List.forall_mem_cons.mpr ⟨lw_p34, List.forall_mem_cons.mpr ⟨lw_p35, List.forall_mem_cons.mpr ⟨lw_p36, List.forall_mem_cons.mpr ⟨lw_p37, List.forall_mem_cons.mpr ⟨lw_p38, List.forall_mem_cons.mpr ⟨lw_p39, List.forall_mem_cons.mpr ⟨lw_p40, List.forall_mem_cons.mpr ⟨lw_p41, List.forall_mem_cons.mpr ⟨lw_p42, List.forall_mem_cons.mpr ⟨lw_p43, List.forall_mem_cons.mpr ⟨lw_p44, List.forall_mem_cons.mpr ⟨lw_p45, List.forall_mem_cons.mpr ⟨lw_p46, List.forall_mem_cons.mpr ⟨lw_p47, fun _ h => absurd h List.not_mem_nil⟩⟩⟩⟩⟩⟩⟩⟩⟩⟩⟩⟩⟩⟩⟩⟩
theorem lw_p48 : lw_okq (⟨"CoilSlitsModel", "bestPlace", "()I"⟩, 11) := ⟨⟨by decide +kernel, by decide +kernel⟩, List.mem_of_getElem? (i := 811) (by decide +kernel), List.mem_of_getElem? (i := 1113) (by decide +kernel), List.mem_of_getElem? (i := 1114) (by decide +kernel)⟩
theorem lw_p49 : lw_okq (⟨"CoilSlitsModel", "wider", "(I)I"⟩, 11) := ⟨⟨by decide +kernel, by decide +kernel⟩, List.mem_of_getElem? (i := 811) (by decide +kernel), List.mem_of_getElem? (i := 1117) (by decide +kernel), List.mem_of_getElem? (i := 1118) (by decide +kernel)⟩
theorem lw_p50 : lw_okq (⟨"CoilSlitsModel", "share", "()D"⟩, 11) := ⟨⟨by decide +kernel, by decide +kernel⟩, List.mem_of_getElem? (i := 811) (by decide +kernel), List.mem_of_getElem? (i := 1125) (by decide +kernel), List.mem_of_getElem? (i := 1126) (by decide +kernel)⟩
def lw_privs_4 : List (MethodName × Nat) := [(⟨"CoilSlitsModel", "bestPlace", "()I"⟩, 11), (⟨"CoilSlitsModel", "wider", "(I)I"⟩, 11), (⟨"CoilSlitsModel", "share", "()D"⟩, 11)]
theorem lw_r4 : ∀ q ∈ lw_privs_4, lw_okq q := List.forall_mem_cons.mpr ⟨lw_p48, List.forall_mem_cons.mpr ⟨lw_p49, List.forall_mem_cons.mpr ⟨lw_p50, fun _ h => absurd h List.not_mem_nil⟩⟩⟩
def lw_privs : List (MethodName × Nat) := lw_privs_1 ++ (lw_privs_2 ++ (lw_privs_3 ++ (lw_privs_4)))
def lw_tbl : List Cond := k2_sels lw_privs ++ tables_1
theorem lw_privs_ok : ∀ q ∈ lw_privs, lw_okq q := by
  show ∀ q ∈ lw_privs_1 ++ (lw_privs_2 ++ (lw_privs_3 ++ (lw_privs_4))), lw_okq q
  exact List.forall_mem_append.mpr ⟨lw_r1, List.forall_mem_append.mpr ⟨lw_r2, List.forall_mem_append.mpr ⟨lw_r3, lw_r4⟩⟩⟩
/-- the streams that the claim lets the run draw from -/
abbrev lw_cs : List Choice := [Jvm.Choice.named "NaN.bits"]
theorem lw_bits : nanBits ∈ lw_cs := by first | decide | exact List.mem_cons_self | simp [lw_cs, nanBits]
end
section
/-! ===== a small machine of pictures: states are (locals, stack, heap picture); its soundness over the kit's W ===== -/
-- the classes whose objects the pictures hold
def F_Row : u_T := fun k => match k with
  | _ => ("CoilSlits$Row", "cells", "[I", true)
def t_Row : Nat → FieldType := fun k => match k with
  | _ => .array .int
def F_Grid : u_T := fun k => match k with
  | 0 => ("CoilSlits$Grid", "columns", "I", true)
  | _ => ("CoilSlits$Grid", "cells", "[I", true)
def t_Grid : Nat → FieldType := fun k => match k with
  | 0 => .int
  | _ => .array .int
def F_Yard : u_T := fun k => match k with
  | 0 => ("CoilSlits$Yard", "coils", "LCoilSlits$Grid;", true)
  | 1 => ("CoilSlits$Yard", "heights", "LCoilSlits$Row;", true)
  | 2 => ("CoilSlits$Yard", "orders", "LCoilSlits$Grid;", true)
  | 3 => ("CoilSlits$Yard", "settings", "LCoilSlits$Row;", true)
  | 4 => ("CoilSlits$Yard", "tallies", "LCoilSlits$Row;", true)
  | 5 => ("CoilSlits$Yard", "orderCount", "I", false)
  | 6 => ("CoilSlits$Yard", "nextCoil", "I", false)
  | _ => ("CoilSlits$Yard", "nextOrder", "I", false)
def t_Yard : Nat → FieldType := fun k => match k with
  | 0 => .object "CoilSlits$Grid"
  | 1 => .object "CoilSlits$Row"
  | 2 => .object "CoilSlits$Grid"
  | 3 => .object "CoilSlits$Row"
  | 4 => .object "CoilSlits$Row"
  | _ => .int
def F_History : u_T := fun k => match k with
  | 0 => ("CoilSlits$History", "states", "[LCoilSlits$Yard;", true)
  | 1 => ("CoilSlits$History", "next", "I", false)
  | _ => ("CoilSlits$History", "kept", "I", false)
def t_History : Nat → FieldType := fun k => match k with
  | 0 => .array (.object "CoilSlits$Yard")
  | _ => .int
def F_Reader : u_T := fun k => match k with
  | 0 => ("CoilSlits$CoilReader", "expected", "I", false)
  | 1 => ("CoilSlits$CoilReader", "width", "I", false)
  | 2 => ("CoilSlits$CoilReader", "grade", "I", false)
  | 3 => ("CoilSlits$CoilReader", "quality", "I", false)
  | _ => ("CoilSlits$CoilReader", "stack", "I", false)
def t_Reader : Nat → FieldType := fun _ => .int
def F_Slits : u_T := fun k => match k with
  | 0 => ("CoilSlits", "yard", "LCoilSlits$Yard;", true)
  | 1 => ("CoilSlits", "trial", "LCoilSlits$Yard;", true)
  | 2 => ("CoilSlits", "history", "LCoilSlits$History;", true)
  | 3 => ("CoilSlits", "buffer", "LCoilSlits$Row;", true)
  | 4 => ("CoilSlits", "reader", "LCoilSlits$CoilReader;", true)
  | _ => ("CoilSlits", "length", "I", false)
def t_Slits : Nat → FieldType := fun k => match k with
  | 0 => .object "CoilSlits$Yard"
  | 1 => .object "CoilSlits$Yard"
  | 2 => .object "CoilSlits$History"
  | 3 => .object "CoilSlits$Row"
  | 4 => .object "CoilSlits$CoilReader"
  | _ => .int
def F_Model : u_T := fun k => match k with
  | 0 => ("CoilSlitsModel", "now", "[I", true)
  | 1 => ("CoilSlitsModel", "then", "[I", true)
  | 2 => ("CoilSlitsModel", "past", "[I", true)
  | 3 => ("CoilSlitsModel", "kept", "I", false)
  | 4 => ("CoilSlitsModel", "text", "[I", true)
  | 5 => ("CoilSlitsModel", "typed", "I", false)
  | 6 => ("CoilSlitsModel", "thrown", "I", false)
  | 7 => ("CoilSlitsModel", "at", "I", false)
  | 8 => ("CoilSlitsModel", "isFault", "Z", false)
  | 9 => ("CoilSlitsModel", "told", "[I", true)
  | _ => ("CoilSlitsModel", "tolds", "I", false)
def t_Model : Nat → FieldType := fun k => match k with
  | 0 => .array .int
  | 1 => .array .int
  | 2 => .array .int
  | 3 => .int
  | 4 => .array .int
  | 5 => .int
  | 6 => .int
  | 7 => .int
  | 8 => .boolean
  | 9 => .array .int
  | _ => .int
abbrev zcl : List vw_C := [("CoilSlits$Row", F_Row, 1), ("CoilSlits$Grid", F_Grid, 2), ("CoilSlits$Yard", F_Yard, 8), ("CoilSlits$History", F_History, 3), ("CoilSlits$CoilReader", F_Reader, 5), ("CoilSlits", F_Slits, 6), ("CoilSlitsModel", F_Model, 11)]
def zty (ci : Nat) : Nat → FieldType := match ci with
  | 0 => t_Row
  | 1 => t_Grid
  | 2 => t_Yard
  | 3 => t_History
  | 4 => t_Reader
  | 5 => t_Slits
  | _ => t_Model
theorem zty_ok : ∀ ci, ci < 7 → ∀ k, k < ((zcl[ci]?).getD ("", F_Row, 0)).2.2 → parseFieldDescriptor (((zcl[ci]?).getD ("", F_Row, 0)).2.1 k).2.2.1 = some (zty ci k) := by decide +kernel
theorem znm_ok : ∀ ci, ci < 7 → ∀ a, a < ((zcl[ci]?).getD ("", F_Row, 0)).2.2 → ∀ b, b < ((zcl[ci]?).getD ("", F_Row, 0)).2.2 → a ≠ b → (((zcl[ci]?).getD ("", F_Row, 0)).2.1 a).2.1 ≠ (((zcl[ci]?).getD ("", F_Row, 0)).2.1 b).2.1 := by decide +kernel
theorem zdc_ok : ∀ ci, ci < 7 → ∀ k, k < ((zcl[ci]?).getD ("", F_Row, 0)).2.2 → (((zcl[ci]?).getD ("", F_Row, 0)).2.1 k).1 = ((zcl[ci]?).getD ("", F_Row, 0)).1 := by decide +kernel
theorem zlay_ok : ∀ ci, ci < 7 → ∀ w ∈ u_ws ((zcl[ci]?).getD ("", F_Row, 0)).1 ((zcl[ci]?).getD ("", F_Row, 0)).2.1 ((zcl[ci]?).getD ("", F_Row, 0)).2.2, w ∈ lw_tbl := by decide +kernel
end
section
/-! ===== pictures of the heap; locals; the goal at a place ===== -/
/-- base address; addresses of the static arrays (0, 1, 2) and of the script (3); class ids and slots; ids of the array classes; what the static arrays hold -/
abbrev Wd : Type := Nat × (Nat → Nat) × va_G × (Nat → ClassId) × (Nat → Option (Nat × (Nat → Int32)))
def zad (w : Wd) (k : Nat) : Nat := if k < 4 then w.2.1 k else w.1 + (k - 4)
def ztv (w : Wd) : Value → Value
  | .ref k => .ref (zad w k)
  | v => v
theorem zad_ge {w : Wd} {k : Nat} (h : 4 ≤ k) : w.1 ≤ zad w k := by
  unfold zad; rw [if_neg (by omega)]; omega
theorem zad_ne {w : Wd} {k j : Nat} (h : 4 ≤ k) (hj : 4 ≤ j) (hkj : k ≠ j) : zad w k ≠ zad w j := by
  unfold zad; rw [if_neg (by omega), if_neg (by omega)]; omega
theorem ztv_cat (w : Wd) (v : Value) : (ztv w v).category = v.category := by cases v <;> rfl
abbrev Cel : Type := ((Nat × (Nat → Int32)) ⊕ (Nat × (Nat → Int64)) ⊕ (Nat × (Nat → Option Nat))) ⊕ (Nat × List Value)
abbrev cI (n : Nat) (f : Nat → Int32) : Cel := .inl (.inl (n, f))
abbrev cJ (n : Nat) (f : Nat → Int64) : Cel := .inl (.inr (.inl (n, f)))
abbrev cR (n : Nat) (f : Nat → Option Nat) : Cel := .inl (.inr (.inr (n, f)))
abbrev cO (ci : Nat) (fs : List Value) : Cel := .inr (ci, fs)
abbrev Hp : Type := Nat → Option Cel
/-- the picture, and the place of the next cell (0: it isn't known) -/
abbrev G : Type := Hp × Nat
abbrev St : Type := List (Option Value) × List Value × G
abbrev Out : Type := Option Value ⊕ String
abbrev Ex : Type := List Value → G → Option (Out × G)
def zup (M : Hp) (k : Nat) (c : Cel) : Hp := fun q => if q = k then some c else M q
def zenc (w : Wd) (c : Cel) : va_E := match c with
  | .inl (.inl a) => .inl (w.2.2.2.1 0, a.1, .inl a.2)
  | .inl (.inr (.inl a)) => .inl (w.2.2.2.1 1, a.1, .inr (.inl a.2))
  | .inl (.inr (.inr a)) => .inl (w.2.2.2.1 2, a.1, .inr (.inr (.inr (.inr (fun j => (a.2 j).map (zad w))))))
  | .inr o => .inr (o.1, o.2.map (ztv w))
def zat (w : Wd) (k : Nat) (c : Cel) (H : Heap) : Prop := va_at w.2.2.1 zcl (zad w k, zenc w c) H
def RepG (w : Wd) (g : G) (H : Heap) : Prop := (∀ k c, g.1 k = some c → 4 ≤ k ∧ zat w k c H) ∧ w.1 ≤ H.size ∧ (g.2 ≠ 0 → 4 ≤ g.2 ∧ H.size = zad w g.2)
abbrev zA (w : Wd) : Nat → Prop := fun q => w.1 ≤ q
abbrev ztys (w : Wd) : List (ClassId × FieldType) := [(w.2.2.2.1 0, .int), (w.2.2.2.1 1, .long), (w.2.2.2.1 2, .object "CoilSlits$Yard")]
def zsn (k : Nat) : String := match k with
  | 0 => "FIRST_SETTINGS"
  | 1 => "LEAST_SETTINGS"
  | _ => "MOST_SETTINGS"
/-- links between nest mates: these words aren't kept by every step, but by warming -/
def zN : List Cond := [.fieldLinkNest "CoilSlits$Yard" 42 "CoilSlits" "FIRST_SETTINGS" "[I" "CoilSlits", .methodLinkNest "CoilSlits" 37 ⟨"CoilSlits$CoilReader", "<init>", "()V"⟩ "CoilSlits", .methodLinkNest "CoilSlits$Yard" 72 ⟨"CoilSlits", "stackOf", "(I)I"⟩ "CoilSlits", .methodLinkNest "CoilSlits$CoilReader" 37 ⟨"CoilSlits", "within", "(III)Z"⟩ "CoilSlits", .methodLinkNest "CoilSlits$CoilReader" 47 ⟨"CoilSlits", "isStack", "(I)Z"⟩ "CoilSlits"]
/-- what the tables and the statics say: of any state of the run -/
def KK (w : Wd) (U : State) : Prop := va_K w.2.2.1 zcl (ztys w) U ∧ (∀ k a, w.2.2.2.2 k = some a → k < 4 ∧ va_T .int (zad w k) a.1 (fun j => .int (a.2 j)) (zA w) U U.heap) ∧ (∀ k, k < 3 → va_Z "CoilSlits" (zsn k) "[I" (.ref (zad w k)) (zA w) U U.heap) ∧ (∀ x ∈ zN, va_Nw x U) ∧ va_AO "CoilSlits$Yard" U
theorem zN_warm {s U : State} (hW : s.WarmedH U.vm) (h : ∀ x ∈ zN, va_Nw x s) : ∀ x ∈ zN, va_Nw x U := by
  intro x hx
  have h1 := h x hx
  simp only [zN, List.mem_cons, List.not_mem_nil, or_false] at hx
  rcases hx with rfl | rfl | rfl | rfl | rfl
  · exact va_Nw.warmF hW h1
  · exact va_Nw.warmM hW h1
  · exact va_Nw.warmM hW h1
  · exact va_Nw.warmM hW h1
  · exact va_Nw.warmM hW h1
theorem KK.warm {w : Wd} {u U : State} (hW : u.WarmedH U.vm) (hq : ∀ a : Nat, a < u.heap.size → ¬ zA w a → U.heap[a]? = u.heap[a]?) (h : KK w u) : KK w U :=
  ⟨va_K.moved hW.alike h.1, fun k a hk => ⟨(h.2.1 k a hk).1, va_T.kept (va_T.moved hW.alike (h.2.1 k a hk).2) hq⟩, fun k hk => va_Z.kept (va_Z.moved hW.alike (h.2.2.1 k hk)) hq, zN_warm hW h.2.2.2.1, h.2.2.2.2.moved hW.alike⟩
/-- the locals: b says that none is of two words -/
def LvR (w : Wd) (b : Bool) (ls : Array Slot) (L : List (Option Value)) : Prop := lv_wf ls ∧ ls.size = L.length ∧ (∀ (i : Nat) (v : Value), L[i]? = some (some v) → ls[i]? = some (.val (ztv w v))) ∧ (b = true → ∀ (i : Nat) (v : Value), L[i]? = some (some v) → v.category = 1)
def lvl (w : Wd) (L : List (Option Value)) : List (Nat × Value) := (List.range L.length).filterMap (fun i => ((L[i]?).join).map (fun v => (i, ztv w v)))
theorem lvl_mem {w : Wd} {L : List (Option Value)} {i : Nat} {u : Value} : (i, u) ∈ lvl w L ↔ ∃ v, L[i]? = some (some v) ∧ u = ztv w v := by
  simp only [lvl, List.mem_filterMap, List.mem_range, Option.map_eq_some_iff, Option.join_eq_some_iff]
  constructor
  · rintro ⟨a, _, v, hv, he⟩
    cases he
    exact ⟨v, hv, rfl⟩
  · rintro ⟨v, hv, rfl⟩
    exact ⟨i, (List.getElem?_eq_some_iff.mp hv).1, v, hv, rfl⟩
theorem LvR.has {w : Wd} {b : Bool} {ls : Array Slot} {L : List (Option Value)} (h : LvR w b ls L) : lv_has ls L.length (lvl w L) :=
  ⟨h.2.1, h.1, fun q hq => by
    obtain ⟨i, u⟩ := q
    obtain ⟨v, hv, rfl⟩ := lvl_mem.mp hq
    exact h.2.2.1 i v hv⟩
def zcat2 (x : Option (Option Value)) : Bool := match x with
  | some (some (.long _)) => true
  | some (some (.double _)) => true
  | _ => false
/-- a store of one word, where no local is of two words; and where one may be -/
def stL (b : Bool) (L : List (Option Value)) (i : Nat) (v : Value) : List (Option Value) := match b with
  | true => L.set i (some v)
  | false => match i with
    | 0 => L.set 0 (some v)
    | j + 1 => match zcat2 L[j]? with
      | true => (L.set j none).set (j + 1) (some v)
      | false => L.set (j + 1) (some v)
def stL2 (L : List (Option Value)) (i : Nat) (v : Value) : List (Option Value) := match i with
  | 0 => (L.set 0 (some v)).set 1 none
  | j + 1 => match zcat2 L[j]? with
    | true => ((L.set j none).set (j + 1) (some v)).set (j + 2) none
    | false => (L.set (j + 1) (some v)).set (j + 2) none
theorem zcat2_iff {v : Value} : zcat2 (some (some v)) = true ↔ v.category = 2 := by cases v <;> simp [zcat2, Value.category]
theorem stL_len (b : Bool) (L : List (Option Value)) (i : Nat) (v : Value) : (stL b L i v).length = L.length := by
  unfold stL; repeat' split
  all_goals simp
theorem stL2_len (L : List (Option Value)) (i : Nat) (v : Value) : (stL2 L i v).length = L.length := by
  unfold stL2; repeat' split
  all_goals simp
theorem stL_get {b : Bool} {L : List (Option Value)} {i j : Nat} {v u : Value} (h : (stL b L i v)[j]? = some (some u)) : (j = i ∧ u = v) ∨ (j ≠ i ∧ L[j]? = some (some u) ∧ (b = false → j + 1 = i → u.category ≠ 2)) := by
  by_cases hji : j = i
  · subst hji
    left; refine ⟨rfl, ?_⟩
    unfold stL at h
    split at h
    · rw [List.getElem?_set] at h; simp at h; exact h.2.symm
    · split at h
      · rw [List.getElem?_set] at h; simp at h; exact h.2.symm
      · split at h
        · rw [List.getElem?_set] at h; simp at h; exact h.2.symm
        · rw [List.getElem?_set] at h; simp at h; exact h.2.symm
  · right; refine ⟨hji, ?_⟩
    unfold stL at h
    split at h
    · rw [List.getElem?_set_ne (Ne.symm hji)] at h
      exact ⟨h, fun hb => by cases hb⟩
    · split at h
      · rw [List.getElem?_set_ne (Ne.symm hji)] at h
        exact ⟨h, fun _ e => by omega⟩
      · rename_i k
        split at h
        · rename_i hz
          rw [List.getElem?_set_ne (Ne.symm hji)] at h
          by_cases hjk : j = k
          · subst hjk
            rw [List.getElem?_set] at h; simp at h
          · rw [List.getElem?_set_ne (Ne.symm hjk)] at h
            exact ⟨h, fun _ e => by omega⟩
        · rename_i hz
          rw [List.getElem?_set_ne (Ne.symm hji)] at h
          refine ⟨h, fun _ e => ?_⟩
          have hjk : j = k := by omega
          subst hjk
          rw [h] at hz
          intro h2
          rw [zcat2_iff.mpr h2] at hz
          cases hz
theorem stL2_get {L : List (Option Value)} {i j : Nat} {v u : Value} (h : (stL2 L i v)[j]? = some (some u)) : (j = i ∧ u = v) ∨ (j ≠ i ∧ j ≠ i + 1 ∧ L[j]? = some (some u) ∧ (j + 1 = i → u.category ≠ 2)) := by
  by_cases hj1 : j = i + 1
  · exfalso
    subst hj1
    unfold stL2 at h
    split at h
    · rw [List.getElem?_set] at h; simp at h
    · split at h
      · rw [List.getElem?_set] at h; simp at h
      · rw [List.getElem?_set] at h; simp at h
  by_cases hji : j = i
  · subst hji
    left; refine ⟨rfl, ?_⟩
    unfold stL2 at h
    split at h
    · rw [List.getElem?_set_ne (by omega), List.getElem?_set] at h; simp at h; exact h.2.symm
    · split at h
      · rw [List.getElem?_set_ne (by omega), List.getElem?_set] at h; simp at h; exact h.2.symm
      · rw [List.getElem?_set_ne (by omega), List.getElem?_set] at h; simp at h; exact h.2.symm
  · right; refine ⟨hji, hj1, ?_⟩
    unfold stL2 at h
    split at h
    · rw [List.getElem?_set_ne (by omega), List.getElem?_set_ne (Ne.symm hji)] at h
      exact ⟨h, fun e => by omega⟩
    · rename_i k
      split at h
      · rename_i hz
        rw [List.getElem?_set_ne (by omega), List.getElem?_set_ne (Ne.symm hji)] at h
        by_cases hjk : j = k
        · subst hjk
          rw [List.getElem?_set] at h; simp at h
        · rw [List.getElem?_set_ne (Ne.symm hjk)] at h
          exact ⟨h, fun e => by omega⟩
      · rename_i hz
        rw [List.getElem?_set_ne (by omega), List.getElem?_set_ne (Ne.symm hji)] at h
        refine ⟨h, fun e => ?_⟩
        have hjk : j = k := by omega
        subst hjk
        rw [h] at hz
        intro h2
        rw [zcat2_iff.mpr h2] at hz
        cases hz
theorem LvR.st1 {w : Wd} {b : Bool} {ls ls' : Array Slot} {L : List (Option Value)} {i : Nat} {v : Value} (h : LvR w b ls L) (hc : v.category = 1)
    (h' : lv_has ls' L.length ((i, ztv w v) :: (lvl w L).filter (fun q => !(q.1 == i) && !(q.1 + 1 == i && q.2.category == 2)))) : LvR w b ls' (stL b L i v) := by
  obtain ⟨e1, e2, e3⟩ := h'
  refine ⟨e2, by rw [e1, stL_len], fun j u hj => ?_, fun hb j u hj => ?_⟩
  · rcases stL_get hj with ⟨rfl, rfl⟩ | ⟨hne, hL, hk⟩
    · exact e3 (j, ztv w u) List.mem_cons_self
    · refine e3 (j, ztv w u) (List.mem_cons_of_mem _ (List.mem_filter.mpr ⟨lvl_mem.mpr ⟨u, hL, rfl⟩, ?_⟩))
      simp only [Bool.and_eq_true, Bool.not_eq_true', beq_eq_false_iff_ne, ne_eq, Bool.and_eq_false_iff, ztv_cat]
      refine ⟨hne, ?_⟩
      by_cases he : j + 1 = i
      · right
        cases b with
        | true => rw [h.2.2.2 rfl j u hL]; decide
        | false => exact hk rfl he
      · exact Or.inl he
  · rcases stL_get hj with ⟨rfl, rfl⟩ | ⟨hne, hL, hk⟩
    · exact hc
    · exact h.2.2.2 hb j u hL
theorem LvR.st2 {w : Wd} {ls ls' : Array Slot} {L : List (Option Value)} {i : Nat} {v : Value} (h : LvR w false ls L)
    (h' : lv_has ls' L.length ((i, ztv w v) :: (lvl w L).filter (fun q => !(q.1 == i) && (!(q.1 == i + 1) && !(q.1 + 1 == i && q.2.category == 2))))) : LvR w false ls' (stL2 L i v) := by
  obtain ⟨e1, e2, e3⟩ := h'
  refine ⟨e2, by rw [e1, stL2_len], fun j u hj => ?_, fun hb => by cases hb⟩
  rcases stL2_get hj with ⟨rfl, rfl⟩ | ⟨hne, hne2, hL, hk⟩
  · exact e3 (j, ztv w u) List.mem_cons_self
  · refine e3 (j, ztv w u) (List.mem_cons_of_mem _ (List.mem_filter.mpr ⟨lvl_mem.mpr ⟨u, hL, rfl⟩, ?_⟩))
    simp only [Bool.and_eq_true, Bool.not_eq_true', beq_eq_false_iff_ne, ne_eq, Bool.and_eq_false_iff, ztv_cat]
    refine ⟨hne, hne2, ?_⟩
    by_cases he : j + 1 = i
    · exact Or.inr (hk he)
    · exact Or.inl he
/-- forgetting locals -/
def zforget (L : List (Option Value)) : List Nat → List (Option Value)
  | [] => L
  | i :: is => zforget (L.set i none) is
theorem LvR.set_none {w : Wd} {b : Bool} {ls : Array Slot} {L : List (Option Value)} (i : Nat) (h : LvR w b ls L) : LvR w b ls (L.set i none) := by
  have key : ∀ (j : Nat) (u : Value), (L.set i none)[j]? = some (some u) → L[j]? = some (some u) := by
    intro j u hj
    by_cases hij : i = j
    · subst hij; rw [List.getElem?_set] at hj; simp at hj
    · rw [List.getElem?_set_ne hij] at hj; exact hj
  exact ⟨h.1, by rw [h.2.1]; simp, fun j u hj => h.2.2.1 j u (key j u hj), fun hb j u hj => h.2.2.2 hb j u (key j u hj)⟩
theorem LvR.forget {w : Wd} {b : Bool} {ls : Array Slot} : ∀ (is : List Nat) {L : List (Option Value)}, LvR w b ls L → LvR w b ls (zforget L is)
  | [], _, h => h
  | i :: is, _, h => LvR.forget is (h.set_none i)
end
section
/-! ===== straight instructions: what they do to a picture ===== -/
/-- no local of two words; fields (index, class, place); calls (instruction, arguments with the receiver, what it does); constants; statics (index, place); the static arrays; may final fields be set -/
abbrev Env : Type := Bool × List (Nat × Nat × Nat) × List (Instr × Nat × Ex) × List (Nat × Value) × List (Nat × Nat) × (Nat → Option (Nat × (Nat → Int32))) × Bool
def eB (E : Env) : Bool := E.1
def eF (E : Env) : List (Nat × Nat × Nat) := E.2.1
def eC (E : Env) : List (Instr × Nat × Ex) := E.2.2.1
def eK (E : Env) : List (Nat × Value) := E.2.2.2.1
def eS (E : Env) : List (Nat × Nat) := E.2.2.2.2.1
def eT (E : Env) : Nat → Option (Nat × (Nat → Int32)) := E.2.2.2.2.2.1
def eI (E : Env) : Bool := E.2.2.2.2.2.2
def lookN {α : Type} (l : List (Nat × α)) (k : Nat) : Option α := match l with
  | [] => none
  | (j, a) :: r => if j = k then some a else lookN r k
def lookI {α : Type} (l : List (Instr × α)) (k : Instr) : Option α := match l with
  | [] => none
  | (j, a) :: r => if j = k then some a else lookI r k
theorem lookN_mem {α : Type} {l : List (Nat × α)} {k : Nat} {a : α} (h : lookN l k = some a) : (k, a) ∈ l := by
  induction l with
  | nil => cases h
  | cons x r ih =>
    obtain ⟨j, b⟩ := x
    unfold lookN at h
    split at h
    · rename_i e; subst e; cases h; exact List.mem_cons_self
    · exact List.mem_cons_of_mem _ (ih h)
theorem lookI_mem {α : Type} {l : List (Instr × α)} {k : Instr} {a : α} (h : lookI l k = some a) : (k, a) ∈ l := by
  induction l with
  | nil => cases h
  | cons x r ih =>
    obtain ⟨j, b⟩ := x
    unfold lookI at h
    split at h
    · rename_i e; subst e; cases h; exact List.mem_cons_self
    · exact List.mem_cons_of_mem _ (ih h)
def popN : Nat → List Value → List Value → Option (List Value × List Value)
  | 0, acc, S => some (acc, S)
  | n + 1, acc, v :: S => popN n (v :: acc) S
  | _ + 1, _, [] => none
theorem popN_spec : ∀ {n : Nat} {acc S vs S' : List Value}, popN n acc S = some (vs, S') → ∃ us, vs = us ++ acc ∧ us.length = n ∧ S = us.reverse ++ S'
  | 0, acc, S, vs, S', h => by cases h; exact ⟨[], rfl, rfl, rfl⟩
  | n + 1, acc, v :: S, vs, S', h => by
    obtain ⟨us, e1, e2, e3⟩ := popN_spec (n := n) h
    exact ⟨us ++ [v], by rw [e1]; simp, by simp [e2], by rw [e3]; simp⟩
  | n + 1, acc, [], vs, S', h => by cases h
def wsum : List Value → Nat
  | [] => 0
  | .long _ :: r => wsum r + 2
  | .double _ :: r => wsum r + 2
  | .int _ :: r => wsum r + 1
  | .ref _ :: r => wsum r + 1
  | .null :: r => wsum r + 1
  | .float _ :: r => wsum r + 1
  | _ :: r => wsum r + 2
theorem cat_le (v : Value) : v.category ≤ 2 := by rcases lv_cat v with h | h <;> omega
theorem wsum_ge : ∀ S : List Value, (S.map fun v => v.category).sum ≤ wsum S
  | [] => Nat.le_refl _
  | v :: r => by
    have ih := wsum_ge r
    have hc : wsum r + v.category ≤ wsum (v :: r) := by cases v <;> simp [wsum, Value.category]
    simp only [List.map_cons, List.sum_cons]
    omega
theorem wsum_tv {w : Wd} : ∀ S : List Value, ((S.map (ztv w)).map fun v => v.category).sum ≤ wsum S
  | S => by
    rw [List.map_map]
    have : ((fun v : Value => v.category) ∘ ztv w) = fun v => v.category := by funext v; exact ztv_cat w v
    rw [this]; exact wsum_ge S
/-- an index within n -/
def zix (i : Int32) (n : Nat) : Option Nat := if 0 ≤ i.toInt ∧ i.toInt < n then some i.toInt.toNat else none
theorem zix_in {i : Int32} {n j : Nat} (h : zix i n = some j) : vp_in i n ∧ i.toNatClampNeg = j := by
  unfold zix at h
  split at h
  · rename_i q
    cases h
    exact ⟨vp_in_iff.mpr q, rfl⟩
  · cases h
def zfit (ty : FieldType) (v : Value) : Bool := match ty, v with
  | .int, .int _ => true
  | .boolean, .int x => decide (x = 0) || decide (x = 1)
  | .object _, .ref _ => true
  | .array _, .ref _ => true
  | _, _ => false
theorem zfit_ok {w : Wd} {ty : FieldType} {v : Value} (h : zfit ty v = true) : narrow ty (ztv w v) = ztv w v ∧ fits ty (ztv w v) = true := by
  unfold zfit at h
  split at h
  · exact ⟨rfl, rfl⟩
  · rename_i x
    simp only [Bool.or_eq_true, decide_eq_true_eq] at h
    rcases h with rfl | rfl <;> exact ⟨rfl, rfl⟩
  · exact ⟨rfl, rfl⟩
  · exact ⟨rfl, rfl⟩
  · cases h
def xI (E : Env) : Instr → St → Option St
  | .iload_n k, (L, S, g) => match L[(k : Nat)]? with
    | some (some (.int x)) => some (L, .int x :: S, g)
    | _ => none
  | .iload k, (L, S, g) => match L[k]? with
    | some (some (.int x)) => some (L, .int x :: S, g)
    | _ => none
  | .aload_n k, (L, S, g) => match L[(k : Nat)]? with
    | some (some (.ref x)) => some (L, .ref x :: S, g)
    | _ => none
  | .aload k, (L, S, g) => match L[k]? with
    | some (some (.ref x)) => some (L, .ref x :: S, g)
    | _ => none
  | .lload_n k, (L, S, g) => match L[(k : Nat)]? with
    | some (some (.long x)) => some (L, .long x :: S, g)
    | _ => none
  | .lload k, (L, S, g) => match L[k]? with
    | some (some (.long x)) => some (L, .long x :: S, g)
    | _ => none
  | .dload_n k, (L, S, g) => match L[(k : Nat)]? with
    | some (some (.double x)) => some (L, .double x :: S, g)
    | _ => none
  | .dload k, (L, S, g) => match L[k]? with
    | some (some (.double x)) => some (L, .double x :: S, g)
    | _ => none
  | .iconst n, (L, S, g) => some (L, .int (Int32.ofInt n) :: S, g)
  | .bipush n, (L, S, g) => some (L, .int (Int8.ofInt n).toInt32 :: S, g)
  | .sipush n, (L, S, g) => some (L, .int (Int16.ofInt n).toInt32 :: S, g)
  | .lconst n, (L, S, g) => some (L, .long (Int64.ofNat (n : Nat)) :: S, g)
  | .dconst n, (L, S, g) => match n with
    | 0 => some (L, .double FP.dconst0 :: S, g)
    | 1 => some (L, .double FP.dconst1 :: S, g)
  | .ldc2_w k, (L, S, g) => match lookN (eK E) k with
    | some v => some (L, v :: S, g)
    | none => none
  | .istore_n k, (L, S, g) => match S with
    | .int x :: S => if (k : Nat) < L.length then some (stL (eB E) L k (.int x), S, g) else none
    | _ => none
  | .istore k, (L, S, g) => match S with
    | .int x :: S => if k < L.length then some (stL (eB E) L k (.int x), S, g) else none
    | _ => none
  | .astore_n k, (L, S, g) => match S with
    | .ref x :: S => if (k : Nat) < L.length then some (stL (eB E) L k (.ref x), S, g) else none
    | _ => none
  | .astore k, (L, S, g) => match S with
    | .ref x :: S => if k < L.length then some (stL (eB E) L k (.ref x), S, g) else none
    | _ => none
  | .lstore_n k, (L, S, g) => match eB E, S with
    | false, .long x :: S => if (k : Nat) + 1 < L.length then some (stL2 L k (.long x), S, g) else none
    | _, _ => none
  | .lstore k, (L, S, g) => match eB E, S with
    | false, .long x :: S => if k + 1 < L.length then some (stL2 L k (.long x), S, g) else none
    | _, _ => none
  | .dstore_n k, (L, S, g) => match eB E, S with
    | false, .double x :: S => if (k : Nat) + 1 < L.length then some (stL2 L k (.double x), S, g) else none
    | _, _ => none
  | .dstore k, (L, S, g) => match eB E, S with
    | false, .double x :: S => if k + 1 < L.length then some (stL2 L k (.double x), S, g) else none
    | _, _ => none
  | .iinc k n, (L, S, g) => match L[k]? with
    | some (some (.int x)) => some (stL (eB E) L k (.int (x + Int32.ofInt n)), S, g)
    | _ => none
  | .iadd, (L, S, g) => match S with
    | .int y :: .int x :: S => some (L, .int (x + y) :: S, g)
    | _ => none
  | .isub, (L, S, g) => match S with
    | .int y :: .int x :: S => some (L, .int (x - y) :: S, g)
    | _ => none
  | .imul, (L, S, g) => match S with
    | .int y :: .int x :: S => some (L, .int (x * y) :: S, g)
    | _ => none
  | .idiv, (L, S, g) => match S with
    | .int y :: .int x :: S => if y = 0 then none else some (L, .int (x / y) :: S, g)
    | _ => none
  | .irem, (L, S, g) => match S with
    | .int y :: .int x :: S => if y = 0 then none else some (L, .int (x - x / y * y) :: S, g)
    | _ => none
  | .iand, (L, S, g) => match S with
    | .int y :: .int x :: S => some (L, .int (x &&& y) :: S, g)
    | _ => none
  | .ladd, (L, S, g) => match S with
    | .long y :: .long x :: S => some (L, .long (x + y) :: S, g)
    | _ => none
  | .lsub, (L, S, g) => match S with
    | .long y :: .long x :: S => some (L, .long (x - y) :: S, g)
    | _ => none
  | .lmul, (L, S, g) => match S with
    | .long y :: .long x :: S => some (L, .long (x * y) :: S, g)
    | _ => none
  | .lshl, (L, S, g) => match S with
    | .int y :: .long x :: S => some (L, .long (x <<< (y.toInt64 &&& 63)) :: S, g)
    | _ => none
  | .i2l, (L, S, g) => match S with
    | .int x :: S => some (L, .long x.toInt64 :: S, g)
    | _ => none
  | .i2d, (L, S, g) => match S with
    | .int x :: S => some (L, .double (FP.i2d x) :: S, g)
    | _ => none
  | .d2l, (L, S, g) => match S with
    | .double x :: S => some (L, .long (FP.d2l x) :: S, g)
    | _ => none
  | .dmul, (L, S, g) => match S with
    | .double y :: .double x :: S => if FP.dmul x y &&& 0x7fffffffffffffff ≤ 0x7ff0000000000000 then some (L, .double (FP.dmul x y) :: S, g) else none
    | _ => none
  | .ddiv, (L, S, g) => match S with
    | .double y :: .double x :: S => if FP.ddiv x y &&& 0x7fffffffffffffff ≤ 0x7ff0000000000000 then some (L, .double (FP.ddiv x y) :: S, g) else none
    | _ => none
  | .dsub, (L, S, g) => match S with
    | .double y :: .double x :: S => if FP.dsub x y &&& 0x7fffffffffffffff ≤ 0x7ff0000000000000 then some (L, .double (FP.dsub x y) :: S, g) else none
    | _ => none
  | .lcmp, (L, S, g) => match S with
    | .long y :: .long x :: S => some (L, .int (lg_cmp x y) :: S, g)
    | _ => none
  | .dcmp op, (L, S, g) => match S with
    | .double y :: .double x :: S => some (L, .int (Op.cmpValue (FP.dcmp x y) op) :: S, g)
    | _ => none
  | .dup, (L, S, g) => match S with
    | .int x :: S => some (L, .int x :: .int x :: S, g)
    | .ref x :: S => some (L, .ref x :: .ref x :: S, g)
    | _ => none
  | .dup2, (L, S, g) => match S with
    | .int y :: .ref x :: S => some (L, .int y :: .ref x :: .int y :: .ref x :: S, g)
    | _ => none
  | .pop, (L, S, g) => match S with
    | .int _ :: S => some (L, S, g)
    | _ => none
  | .arraylength, (L, S, g) => match S with
    | .ref a :: S => match g.1 a with
      | some (.inl (.inl (n, _))) => some (L, .int (nI n) :: S, g)
      | some (.inl (.inr (.inl (n, _)))) => some (L, .int (nI n) :: S, g)
      | some (.inl (.inr (.inr (n, _)))) => some (L, .int (nI n) :: S, g)
      | some (.inr _) => none
      | none => match eT E a with
        | some (n, _) => some (L, .int (nI n) :: S, g)
        | none => none
    | _ => none
  | .iaload, (L, S, g) => match S with
    | .int i :: .ref a :: S => match g.1 a with
      | some (.inl (.inl (n, f))) => match zix i n with
        | some j => some (L, .int (f j) :: S, g)
        | none => none
      | some _ => none
      | none => match eT E a with
        | some (n, f) => match zix i n with
          | some j => some (L, .int (f j) :: S, g)
          | none => none
        | none => none
    | _ => none
  | .iastore, (L, S, g) => match S with
    | .int x :: .int i :: .ref a :: S => match g.1 a with
      | some (.inl (.inl (n, f))) => match zix i n with
        | some j => some (L, S, (zup g.1 a (cI n (upd f j x)), g.2))
        | none => none
      | _ => none
    | _ => none
  | .laload, (L, S, g) => match S with
    | .int i :: .ref a :: S => match g.1 a with
      | some (.inl (.inr (.inl (n, f)))) => match zix i n with
        | some j => some (L, .long (f j) :: S, g)
        | none => none
      | _ => none
    | _ => none
  | .lastore, (L, S, g) => match S with
    | .long x :: .int i :: .ref a :: S => match g.1 a with
      | some (.inl (.inr (.inl (n, f)))) => match zix i n with
        | some j => some (L, S, (zup g.1 a (cJ n (vp_updL f j x)), g.2))
        | none => none
      | _ => none
    | _ => none
  | .aaload, (L, S, g) => match S with
    | .int i :: .ref a :: S => match g.1 a with
      | some (.inl (.inr (.inr (n, f)))) => match zix i n with
        | some j => match f j with
          | some q => some (L, .ref q :: S, g)
          | none => some (L, .null :: S, g)
        | none => none
      | _ => none
    | _ => none
  | .aastore, (L, S, g) => match S with
    | .ref v :: .int i :: .ref a :: S => match g.1 a with
      | some (.inl (.inr (.inr (n, f)))) => match zix i n with
        | some j => match g.1 v with
          | some (.inr (2, _)) => some (L, S, (zup g.1 a (cR n (va_up f j (some v))), g.2))
          | _ => none
        | none => none
      | _ => none
    | _ => none
  | .aconst_null, (L, S, g) => some (L, .null :: S, g)
  | .getfield k, (L, S, g) => match S with
    | .ref a :: S => match g.1 a with
      | some (.inr (ci, fs)) => match lookN (eF E) k with
        | some (cj, j) => if ci = cj then match fs[j]? with
            | some v => some (L, v :: S, g)
            | none => none
          else none
        | none => none
      | _ => none
    | _ => none
  | .putfield k, (L, S, g) => match S with
    | v :: .ref a :: S => match g.1 a with
      | some (.inr (ci, fs)) => match lookN (eF E) k with
        | some (cj, j) => if ci = cj ∧ zfit (zty ci j) v = true ∧ j < fs.length ∧ ((((zcl[ci]?).getD ("", F_Row, 0)).2.1 j).2.2.2 = false ∨ eI E = true) then some (L, S, (zup g.1 a (cO ci (fs.set j v)), g.2))
          else none
        | none => none
      | _ => none
    | _ => none
  | .getstatic k, (L, S, g) => match lookN (eS E) k with
    | some j => some (L, .ref j :: S, g)
    | none => none
  | .invokevirtual k, (L, S, g) => match lookI (eC E) (.invokevirtual k) with
    | some (n, f) => match popN n [] S with
      | some (vs, S) => if wsum S ≤ 8 then match f vs g with
          | some (.inl o, g) => some (L, o.toList ++ S, g)
          | _ => none
        else none
      | none => none
    | none => none
  | .invokespecial k, (L, S, g) => match lookI (eC E) (.invokespecial k) with
    | some (n, f) => match popN n [] S with
      | some (vs, S) => if wsum S ≤ 8 then match f vs g with
          | some (.inl o, g) => some (L, o.toList ++ S, g)
          | _ => none
        else none
      | none => none
    | none => none
  | .invokestatic k, (L, S, g) => match lookI (eC E) (.invokestatic k) with
    | some (n, f) => match popN n [] S with
      | some (vs, S) => if wsum S ≤ 8 then match f vs g with
          | some (.inl o, g) => some (L, o.toList ++ S, g)
          | _ => none
        else none
      | none => none
    | none => none
  | _, _ => none
def runI (E : Env) : List Instr → St → Option St
  | [], st => some st
  | i :: r, st => match xI E i st with
    | some st => runI E r st
    | none => none
def zchk (cc : ByteArray) : Nat → List Instr → Option Nat
  | pc, [] => some pc
  | pc, i :: r => match decode cc pc with
    | .ok (j, n) => if j = i then zchk cc (pc + n) r else none
    | _ => none
end
section
/-! ===== the goal at a place, over a picture; the soundness of the straight instructions ===== -/
def CX (w : Wd) (p : Program) (s : State) (m : MethodId) (args : Array Value) (c : Code) (cc : ByteArray) (n : Nat) (own : String) : Prop :=
  p.tables.exec = Jvm.exec ∧ c.code = cc ∧ c.maxLocals = n ∧ s.vm.findClass own = some m.cls ∧ (∀ x ∈ lw_tbl, goodWord x = true → x.before args s = true) ∧ KK w s
def Kn (w : Wd) (b : Bool) (p : Program) (l : Launch) (e : Jvm.Env) (R : Room) (s : State) (m : MethodId) (args : Array Value) (below : List Frame) (meth : Method) (c : Code) (Q : State → Prop) (n cs ss pc : Nat) (st : St) : Prop :=
  st.1.length = n → ∀ (H : Heap) (locs : List Loc) (ls : Array Slot), LvR w b ls st.1 → RepG w st.2.2 H → va_S (zA w) s.heap H locs → W p l e R s m args below meth c H locs cs ss Q (F0 m pc ls (st.2.1.map (ztv w)))
def zfok (own : String) (q : Nat × Nat × Nat) : Bool := match zcl[q.2.1]? with
  | some r => decide (q.2.1 < 7) && (decide (q.2.2 < r.2.2) && (decide (r.1 = own) && decide (Cond.fieldLink own q.1 own (r.2.1 q.2.2).2.1 (r.2.1 q.2.2).2.2.1 ∈ lw_tbl)))
  | none => false
def zkok (own : String) (q : Nat × Value) : Bool := match q.2 with
  | .long x => decide (Cond.constantLong own q.1 x ∈ lw_tbl)
  | .double x => decide (Cond.constantDouble own q.1 x ∈ lw_tbl)
  | _ => false
def zsok (own : String) (q : Nat × Nat) : Bool := decide (q.2 < 3) && (decide (Cond.fieldLink own q.1 "CoilSlits" (zsn q.2) "[I" ∈ lw_tbl) || decide (Cond.fieldLinkNest own q.1 "CoilSlits" (zsn q.2) "[I" "CoilSlits" ∈ zN))
/-- a call, as the machine has it: from the callee's arguments on the stack to its answer there -/
def CallOk (w : Wd) (b : Bool) (p : Program) (l : Launch) (e : Jvm.Env) (R : Room) (s : State) (m : MethodId) (args : Array Value) (below : List Frame) (meth : Method) (c : Code) (Q : State → Prop) (cc : ByteArray) (n mc ms : Nat) (q : Instr × Nat × Ex) : Prop :=
  ∀ (cs ss pc : Nat) (L : List (Option Value)) (S vs : List Value) (g g' : G) (o : Option Value), cs + mc ≤ R.cells → ss + ms ≤ R.slots → decode cc pc = .ok (q.1, 3) → vs.length = q.2.1 → wsum S ≤ 8 → q.2.2 vs g = some (.inl o, g') →
    Kn w b p l e R s m args below meth c Q n (cs + mc) (ss + ms) (pc + 3) (L, o.toList ++ S, g') → Kn w b p l e R s m args below meth c Q n cs ss pc (L, vs.reverse ++ S, g)
def EnvOk (w : Wd) (b : Bool) (p : Program) (l : Launch) (e : Jvm.Env) (R : Room) (s : State) (m : MethodId) (args : Array Value) (below : List Frame) (meth : Method) (c : Code) (Q : State → Prop) (cc : ByteArray) (n : Nat) (own : String) (E : Env) : Prop :=
  eB E = b ∧ (∀ q ∈ eF E, zfok own q = true) ∧ (∀ q ∈ eK E, zkok own q = true) ∧ (∀ q ∈ eS E, zsok own q = true) ∧ (∀ k a, eT E k = some a → w.2.2.2.2 k = some a) ∧ (eI E = true → meth.name = "<init>") ∧ ∀ q ∈ eC E, CallOk w b p l e R s m args below meth c Q cc n 0 0 q
section
variable {w : Wd} {b : Bool} {p : Program} {l : Launch} {e : Jvm.Env} {R : Room} {s : State} {m : MethodId} {args : Array Value} {below : List Frame} {meth : Method} {c : Code} {Q : State → Prop} {cc : ByteArray} {n cs ss pc : Nat} {own : String} {E : Env}
variable {L : List (Option Value)} {S : List Value} {g : G} {st st' : St}
theorem RepG.one {H : Heap} {k : Nat} {c0 : Cel} (h : RepG w g H) (hk : g.1 k = some c0) : va_P w.2.2.1 zcl [(zad w k, zenc w c0)] H := by
  intro j q hq
  cases j with
  | zero => cases hq; exact (h.1 k c0 hk).2
  | succ j => cases hq
theorem RepG.put {H H1 : Heap} {k : Nat} {c0 c1 : Cel} (h : RepG w g H) (hk : g.1 k = some c0) (hz : H1.size = H.size) (ho : ∀ q : Nat, q ≠ zad w k → H1[q]? = H[q]?) (h1 : zat w k c1 H1) : RepG w (zup g.1 k c1, g.2) H1 := by
  have h4 := (h.1 k c0 hk).1
  refine ⟨fun j c2 hj => ?_, by rw [hz]; exact h.2.1, fun h0 => by rw [hz]; exact h.2.2 h0⟩
  simp only [zup] at hj
  split at hj
  · rename_i e; subst e; cases hj; exact ⟨h4, h1⟩
  · rename_i e
    obtain ⟨a1, a2⟩ := h.1 j c2 hj
    exact ⟨a1, va_at.kept a2 (ho _ (zad_ne a1 h4 e))⟩
theorem va_S.put' {H0 H H1 : Heap} {locs : List Loc} {a k : Nat} (h : va_S (zA w) H0 H locs) (hz : H1.size = H.size) (ho : ∀ q : Nat, q ≠ zad w a → H1[q]? = H[q]?) (h4 : 4 ≤ a) : va_S (zA w) H0 H1 (locs ++ [⟨zad w a, k⟩]) := h.put hz ho (zad_ge h4)
theorem CX.hx (h : CX w p s m args c cc n own) : p.tables.exec = Jvm.exec := h.1
theorem CX.hb (h : CX w p s m args c cc n own) : c.code = cc := h.2.1
theorem CX.hml (h : CX w p s m args c cc n own) : c.maxLocals = n := h.2.2.1
theorem CX.hown (h : CX w p s m args c cc n own) : s.vm.findClass own = some m.cls := h.2.2.2.1
theorem CX.hts (h : CX w p s m args c cc n own) {x : Cond} (hx : x ∈ lw_tbl) (hg : goodWord x = true) : x.before args s = true := h.2.2.2.2.1 x hx hg
theorem CX.kk (h : CX w p s m args c cc n own) : KK w s := h.2.2.2.2.2
theorem CX.hall (h : CX w p s m args c cc n own) : ∀ x ∈ lw_tbl.filter goodWord, x.before args s = true := fun x hx => h.hts (List.mem_filter.mp hx).1 (List.mem_filter.mp hx).2
theorem xs_iload_n {k0 : Fin 4} (cx : CX w p s m args c cc n own) (eo : EnvOk w b p l e R s m args below meth c Q cc n own E) (h : xI E (.iload_n k0) st = some st') (hd : decode cc pc = .ok (.iload_n k0, 1)) (k : Kn w b p l e R s m args below meth c Q n cs ss (pc + 1) st') : Kn w b p l e R s m args below meth c Q n cs ss pc st := by
  obtain ⟨L, S, g⟩ := st
  simp only [xI] at h
  split at h
  · rename_i x hl
    cases h
    exact fun hn H locs ls hL hG hS => lv_iload_n cx.hx cx.hb hd rfl (hL.2.2.1 _ _ hl) (k hn H locs ls hL hG hS)
  · cases h
theorem xs_iload {k0 : Nat} (cx : CX w p s m args c cc n own) (eo : EnvOk w b p l e R s m args below meth c Q cc n own E) (h : xI E (.iload k0) st = some st') (hd : decode cc pc = .ok (.iload k0, 2)) (k : Kn w b p l e R s m args below meth c Q n cs ss (pc + 2) st') : Kn w b p l e R s m args below meth c Q n cs ss pc st := by
  obtain ⟨L, S, g⟩ := st
  simp only [xI] at h
  split at h
  · rename_i x hl
    cases h
    exact fun hn H locs ls hL hG hS => lv_iload cx.hx cx.hb hd (hL.2.2.1 _ _ hl) (k hn H locs ls hL hG hS)
  · cases h
theorem xs_aload_n {k0 : Fin 4} (cx : CX w p s m args c cc n own) (eo : EnvOk w b p l e R s m args below meth c Q cc n own E) (h : xI E (.aload_n k0) st = some st') (hd : decode cc pc = .ok (.aload_n k0, 1)) (k : Kn w b p l e R s m args below meth c Q n cs ss (pc + 1) st') : Kn w b p l e R s m args below meth c Q n cs ss pc st := by
  obtain ⟨L, S, g⟩ := st
  simp only [xI] at h
  split at h
  · rename_i x hl
    cases h
    exact fun hn H locs ls hL hG hS => lv_aload_n cx.hx cx.hb hd rfl (hL.2.2.1 _ _ hl) (k hn H locs ls hL hG hS)
  · cases h
theorem xs_aload {k0 : Nat} (cx : CX w p s m args c cc n own) (eo : EnvOk w b p l e R s m args below meth c Q cc n own E) (h : xI E (.aload k0) st = some st') (hd : decode cc pc = .ok (.aload k0, 2)) (k : Kn w b p l e R s m args below meth c Q n cs ss (pc + 2) st') : Kn w b p l e R s m args below meth c Q n cs ss pc st := by
  obtain ⟨L, S, g⟩ := st
  simp only [xI] at h
  split at h
  · rename_i x hl
    cases h
    exact fun hn H locs ls hL hG hS => lv_aload cx.hx cx.hb hd (hL.2.2.1 _ _ hl) (k hn H locs ls hL hG hS)
  · cases h
theorem xs_lload_n {k0 : Fin 4} (cx : CX w p s m args c cc n own) (eo : EnvOk w b p l e R s m args below meth c Q cc n own E) (h : xI E (.lload_n k0) st = some st') (hd : decode cc pc = .ok (.lload_n k0, 1)) (k : Kn w b p l e R s m args below meth c Q n cs ss (pc + 1) st') : Kn w b p l e R s m args below meth c Q n cs ss pc st := by
  obtain ⟨L, S, g⟩ := st
  simp only [xI] at h
  split at h
  · rename_i x hl
    cases h
    exact fun hn H locs ls hL hG hS => lv_lload_n cx.hx cx.hb hd rfl (hL.2.2.1 _ _ hl) (k hn H locs ls hL hG hS)
  · cases h
theorem xs_lload {k0 : Nat} (cx : CX w p s m args c cc n own) (eo : EnvOk w b p l e R s m args below meth c Q cc n own E) (h : xI E (.lload k0) st = some st') (hd : decode cc pc = .ok (.lload k0, 2)) (k : Kn w b p l e R s m args below meth c Q n cs ss (pc + 2) st') : Kn w b p l e R s m args below meth c Q n cs ss pc st := by
  obtain ⟨L, S, g⟩ := st
  simp only [xI] at h
  split at h
  · rename_i x hl
    cases h
    exact fun hn H locs ls hL hG hS => lv_lload cx.hx cx.hb hd (hL.2.2.1 _ _ hl) (k hn H locs ls hL hG hS)
  · cases h
theorem xs_dload_n {k0 : Fin 4} (cx : CX w p s m args c cc n own) (eo : EnvOk w b p l e R s m args below meth c Q cc n own E) (h : xI E (.dload_n k0) st = some st') (hd : decode cc pc = .ok (.dload_n k0, 1)) (k : Kn w b p l e R s m args below meth c Q n cs ss (pc + 1) st') : Kn w b p l e R s m args below meth c Q n cs ss pc st := by
  obtain ⟨L, S, g⟩ := st
  simp only [xI] at h
  split at h
  · rename_i x hl
    cases h
    exact fun hn H locs ls hL hG hS => lv_dload_n cx.hx cx.hb hd rfl (hL.2.2.1 _ _ hl) (k hn H locs ls hL hG hS)
  · cases h
theorem xs_dload {k0 : Nat} (cx : CX w p s m args c cc n own) (eo : EnvOk w b p l e R s m args below meth c Q cc n own E) (h : xI E (.dload k0) st = some st') (hd : decode cc pc = .ok (.dload k0, 2)) (k : Kn w b p l e R s m args below meth c Q n cs ss (pc + 2) st') : Kn w b p l e R s m args below meth c Q n cs ss pc st := by
  obtain ⟨L, S, g⟩ := st
  simp only [xI] at h
  split at h
  · rename_i x hl
    cases h
    exact fun hn H locs ls hL hG hS => lv_dload cx.hx cx.hb hd (hL.2.2.1 _ _ hl) (k hn H locs ls hL hG hS)
  · cases h
theorem xs_iconst {k0 : Int} (cx : CX w p s m args c cc n own) (eo : EnvOk w b p l e R s m args below meth c Q cc n own E) (h : xI E (.iconst k0) st = some st') (hd : decode cc pc = .ok (.iconst k0, 1)) (k : Kn w b p l e R s m args below meth c Q n cs ss (pc + 1) st') : Kn w b p l e R s m args below meth c Q n cs ss pc st := by
  obtain ⟨L, S, g⟩ := st
  simp only [xI] at h
  cases h
  exact fun hn H locs ls hL hG hS => lv_iconst cx.hx cx.hb hd rfl (k hn H locs ls hL hG hS)
theorem xs_bipush {k0 : Int} (cx : CX w p s m args c cc n own) (eo : EnvOk w b p l e R s m args below meth c Q cc n own E) (h : xI E (.bipush k0) st = some st') (hd : decode cc pc = .ok (.bipush k0, 2)) (k : Kn w b p l e R s m args below meth c Q n cs ss (pc + 2) st') : Kn w b p l e R s m args below meth c Q n cs ss pc st := by
  obtain ⟨L, S, g⟩ := st
  simp only [xI] at h
  cases h
  exact fun hn H locs ls hL hG hS => lv_bipush cx.hx cx.hb hd rfl (k hn H locs ls hL hG hS)
theorem xs_sipush {k0 : Int} (cx : CX w p s m args c cc n own) (eo : EnvOk w b p l e R s m args below meth c Q cc n own E) (h : xI E (.sipush k0) st = some st') (hd : decode cc pc = .ok (.sipush k0, 3)) (k : Kn w b p l e R s m args below meth c Q n cs ss (pc + 3) st') : Kn w b p l e R s m args below meth c Q n cs ss pc st := by
  obtain ⟨L, S, g⟩ := st
  simp only [xI] at h
  cases h
  exact fun hn H locs ls hL hG hS => lv_sipush cx.hx cx.hb hd rfl (k hn H locs ls hL hG hS)
theorem xs_lconst {k0 : Fin 2} (cx : CX w p s m args c cc n own) (eo : EnvOk w b p l e R s m args below meth c Q cc n own E) (h : xI E (.lconst k0) st = some st') (hd : decode cc pc = .ok (.lconst k0, 1)) (k : Kn w b p l e R s m args below meth c Q n cs ss (pc + 1) st') : Kn w b p l e R s m args below meth c Q n cs ss pc st := by
  obtain ⟨L, S, g⟩ := st
  simp only [xI] at h
  cases h
  exact fun hn H locs ls hL hG hS => lv_lconst cx.hx cx.hb hd rfl (k hn H locs ls hL hG hS)
theorem xs_dconst {k0 : Fin 2} (cx : CX w p s m args c cc n own) (eo : EnvOk w b p l e R s m args below meth c Q cc n own E) (h : xI E (.dconst k0) st = some st') (hd : decode cc pc = .ok (.dconst k0, 1)) (k : Kn w b p l e R s m args below meth c Q n cs ss (pc + 1) st') : Kn w b p l e R s m args below meth c Q n cs ss pc st := by
  obtain ⟨L, S, g⟩ := st
  simp only [xI] at h

  split at h
  · cases h
    exact fun hn H locs ls hL hG hS => lv_dconst0 cx.hx cx.hb hd (k hn H locs ls hL hG hS)
  · cases h
    exact fun hn H locs ls hL hG hS => lv_dconst1 cx.hx cx.hb hd (k hn H locs ls hL hG hS)
theorem xs_ldc2 {k0 : Nat} (cx : CX w p s m args c cc n own) (eo : EnvOk w b p l e R s m args below meth c Q cc n own E) (h : xI E (.ldc2_w k0) st = some st') (hd : decode cc pc = .ok (.ldc2_w k0, 3)) (k : Kn w b p l e R s m args below meth c Q n cs ss (pc + 3) st') : Kn w b p l e R s m args below meth c Q n cs ss pc st := by
  obtain ⟨L, S, g⟩ := st
  simp only [xI] at h
  split at h
  · rename_i v hv
    cases h
    have hk := eo.2.2.1 _ (lookN_mem hv)
    cases v <;> simp only [zkok, decide_eq_true_eq, Bool.false_eq_true] at hk
    · exact fun hn H locs ls hL hG hS => lv_ldc2 cx.hx cx.hb cx.hown (cx.hts hk rfl) hd (k hn H locs ls hL hG hS)
    · exact fun hn H locs ls hL hG hS => lv_ldc2d cx.hx cx.hb cx.hown (cx.hts hk rfl) hd (k hn H locs ls hL hG hS)
  · cases h
theorem xs_istore_n {k0 : Fin 4} (cx : CX w p s m args c cc n own) (eo : EnvOk w b p l e R s m args below meth c Q cc n own E) (h : xI E (.istore_n k0) st = some st') (hd : decode cc pc = .ok (.istore_n k0, 1)) (k : Kn w b p l e R s m args below meth c Q n cs ss (pc + 1) st') : Kn w b p l e R s m args below meth c Q n cs ss pc st := by
  obtain ⟨L, S, g⟩ := st
  simp only [xI] at h

  split at h
  · rename_i x S
    split at h
    · rename_i hlt
      cases h
      rw [eo.1] at k
      exact fun hn H locs ls hL hG hS => lv_istore_n cx.hx cx.hb hd rfl hL.has hlt rfl (fun ls' hl' => k ((stL_len _ _ _ _).trans hn) H locs ls' (hL.st1 rfl hl') hG hS)
    · cases h
  · cases h
theorem xs_istore {k0 : Nat} (cx : CX w p s m args c cc n own) (eo : EnvOk w b p l e R s m args below meth c Q cc n own E) (h : xI E (.istore k0) st = some st') (hd : decode cc pc = .ok (.istore k0, 2)) (k : Kn w b p l e R s m args below meth c Q n cs ss (pc + 2) st') : Kn w b p l e R s m args below meth c Q n cs ss pc st := by
  obtain ⟨L, S, g⟩ := st
  simp only [xI] at h

  split at h
  · rename_i x S
    split at h
    · rename_i hlt
      cases h
      rw [eo.1] at k
      exact fun hn H locs ls hL hG hS => lv_istore cx.hx cx.hb hd hL.has hlt rfl (fun ls' hl' => k ((stL_len _ _ _ _).trans hn) H locs ls' (hL.st1 rfl hl') hG hS)
    · cases h
  · cases h
theorem xs_astore_n {k0 : Fin 4} (cx : CX w p s m args c cc n own) (eo : EnvOk w b p l e R s m args below meth c Q cc n own E) (h : xI E (.astore_n k0) st = some st') (hd : decode cc pc = .ok (.astore_n k0, 1)) (k : Kn w b p l e R s m args below meth c Q n cs ss (pc + 1) st') : Kn w b p l e R s m args below meth c Q n cs ss pc st := by
  obtain ⟨L, S, g⟩ := st
  simp only [xI] at h

  split at h
  · rename_i x S
    split at h
    · rename_i hlt
      cases h
      rw [eo.1] at k
      exact fun hn H locs ls hL hG hS => lv_astore_n cx.hx cx.hb hd rfl hL.has hlt rfl (fun ls' hl' => k ((stL_len _ _ _ _).trans hn) H locs ls' (hL.st1 rfl hl') hG hS)
    · cases h
  · cases h
theorem xs_astore {k0 : Nat} (cx : CX w p s m args c cc n own) (eo : EnvOk w b p l e R s m args below meth c Q cc n own E) (h : xI E (.astore k0) st = some st') (hd : decode cc pc = .ok (.astore k0, 2)) (k : Kn w b p l e R s m args below meth c Q n cs ss (pc + 2) st') : Kn w b p l e R s m args below meth c Q n cs ss pc st := by
  obtain ⟨L, S, g⟩ := st
  simp only [xI] at h

  split at h
  · rename_i x S
    split at h
    · rename_i hlt
      cases h
      rw [eo.1] at k
      exact fun hn H locs ls hL hG hS => lv_astore cx.hx cx.hb hd hL.has hlt rfl (fun ls' hl' => k ((stL_len _ _ _ _).trans hn) H locs ls' (hL.st1 rfl hl') hG hS)
    · cases h
  · cases h
theorem xs_lstore_n {k0 : Fin 4} (cx : CX w p s m args c cc n own) (eo : EnvOk w b p l e R s m args below meth c Q cc n own E) (h : xI E (.lstore_n k0) st = some st') (hd : decode cc pc = .ok (.lstore_n k0, 1)) (k : Kn w b p l e R s m args below meth c Q n cs ss (pc + 1) st') : Kn w b p l e R s m args below meth c Q n cs ss pc st := by
  obtain ⟨L, S, g⟩ := st
  simp only [xI] at h

  split at h
  · rename_i x S hB
    split at h
    · rename_i hlt
      cases h
      have hbf : b = false := eo.1.symm.trans hB
      subst hbf
      exact fun hn H locs ls hL hG hS => lv_lstore_n cx.hx cx.hb hd rfl hL.has hlt rfl (fun ls' hl' => k ((stL2_len _ _ _).trans hn) H locs ls' (hL.st2 hl') hG hS)
    · cases h
  · cases h
theorem xs_lstore {k0 : Nat} (cx : CX w p s m args c cc n own) (eo : EnvOk w b p l e R s m args below meth c Q cc n own E) (h : xI E (.lstore k0) st = some st') (hd : decode cc pc = .ok (.lstore k0, 2)) (k : Kn w b p l e R s m args below meth c Q n cs ss (pc + 2) st') : Kn w b p l e R s m args below meth c Q n cs ss pc st := by
  obtain ⟨L, S, g⟩ := st
  simp only [xI] at h

  split at h
  · rename_i x S hB
    split at h
    · rename_i hlt
      cases h
      have hbf : b = false := eo.1.symm.trans hB
      subst hbf
      exact fun hn H locs ls hL hG hS => lv_lstore cx.hx cx.hb hd hL.has hlt rfl (fun ls' hl' => k ((stL2_len _ _ _).trans hn) H locs ls' (hL.st2 hl') hG hS)
    · cases h
  · cases h
theorem xs_dstore_n {k0 : Fin 4} (cx : CX w p s m args c cc n own) (eo : EnvOk w b p l e R s m args below meth c Q cc n own E) (h : xI E (.dstore_n k0) st = some st') (hd : decode cc pc = .ok (.dstore_n k0, 1)) (k : Kn w b p l e R s m args below meth c Q n cs ss (pc + 1) st') : Kn w b p l e R s m args below meth c Q n cs ss pc st := by
  obtain ⟨L, S, g⟩ := st
  simp only [xI] at h

  split at h
  · rename_i x S hB
    split at h
    · rename_i hlt
      cases h
      have hbf : b = false := eo.1.symm.trans hB
      subst hbf
      exact fun hn H locs ls hL hG hS => lv_dstore_n cx.hx cx.hb hd rfl hL.has hlt rfl (fun ls' hl' => k ((stL2_len _ _ _).trans hn) H locs ls' (hL.st2 hl') hG hS)
    · cases h
  · cases h
theorem xs_dstore {k0 : Nat} (cx : CX w p s m args c cc n own) (eo : EnvOk w b p l e R s m args below meth c Q cc n own E) (h : xI E (.dstore k0) st = some st') (hd : decode cc pc = .ok (.dstore k0, 2)) (k : Kn w b p l e R s m args below meth c Q n cs ss (pc + 2) st') : Kn w b p l e R s m args below meth c Q n cs ss pc st := by
  obtain ⟨L, S, g⟩ := st
  simp only [xI] at h

  split at h
  · rename_i x S hB
    split at h
    · rename_i hlt
      cases h
      have hbf : b = false := eo.1.symm.trans hB
      subst hbf
      exact fun hn H locs ls hL hG hS => lv_dstore cx.hx cx.hb hd hL.has hlt rfl (fun ls' hl' => k ((stL2_len _ _ _).trans hn) H locs ls' (hL.st2 hl') hG hS)
    · cases h
  · cases h
theorem xs_iinc {k0 : Nat} {n0 : Int} (cx : CX w p s m args c cc n own) (eo : EnvOk w b p l e R s m args below meth c Q cc n own E) (h : xI E (.iinc k0 n0) st = some st') (hd : decode cc pc = .ok (.iinc k0 n0, 3)) (k : Kn w b p l e R s m args below meth c Q n cs ss (pc + 3) st') : Kn w b p l e R s m args below meth c Q n cs ss pc st := by
  obtain ⟨L, S, g⟩ := st
  simp only [xI] at h
  split at h
  · rename_i x hl
    cases h
    rw [eo.1] at k
    intro hn H locs ls hL hG hS
    have hh := hL.has
    have hh2 : lv_has ls L.length ((k0, Value.int x) :: lvl w L) := ⟨hh.1, hh.2.1, fun q hq => by
      rcases List.mem_cons.mp hq with rfl | hq
      · exact hL.2.2.1 _ _ hl
      · exact hh.2.2 q hq⟩
    refine lv_iinc cx.hx cx.hb hd hh2 (k := 0) rfl rfl (List.getElem?_eq_some_iff.mp hl).1 rfl (fun ls' hl' => k ((stL_len _ _ _ _).trans hn) H locs ls' (hL.st1 rfl ⟨hl'.1, hl'.2.1, fun q hq => hl'.2.2 q ?_⟩) hG hS)
    rcases List.mem_cons.mp hq with rfl | hq
    · exact List.mem_cons_self
    · exact List.mem_cons_of_mem _ (by
        rw [List.filter_cons]
        split
        · exact List.mem_cons_of_mem _ hq
        · exact hq)
  · cases h
theorem xs_iadd (cx : CX w p s m args c cc n own) (eo : EnvOk w b p l e R s m args below meth c Q cc n own E) (h : xI E (.iadd) st = some st') (hd : decode cc pc = .ok (.iadd, 1)) (k : Kn w b p l e R s m args below meth c Q n cs ss (pc + 1) st') : Kn w b p l e R s m args below meth c Q n cs ss pc st := by
  obtain ⟨L, S, g⟩ := st
  simp only [xI] at h
  split at h
  · cases h
    exact fun hn H locs ls hL hG hS => lv_iadd cx.hx cx.hb hd (k hn H locs ls hL hG hS)
  · cases h
theorem xs_isub (cx : CX w p s m args c cc n own) (eo : EnvOk w b p l e R s m args below meth c Q cc n own E) (h : xI E (.isub) st = some st') (hd : decode cc pc = .ok (.isub, 1)) (k : Kn w b p l e R s m args below meth c Q n cs ss (pc + 1) st') : Kn w b p l e R s m args below meth c Q n cs ss pc st := by
  obtain ⟨L, S, g⟩ := st
  simp only [xI] at h
  split at h
  · cases h
    exact fun hn H locs ls hL hG hS => lv_isub cx.hx cx.hb hd (k hn H locs ls hL hG hS)
  · cases h
theorem xs_imul (cx : CX w p s m args c cc n own) (eo : EnvOk w b p l e R s m args below meth c Q cc n own E) (h : xI E (.imul) st = some st') (hd : decode cc pc = .ok (.imul, 1)) (k : Kn w b p l e R s m args below meth c Q n cs ss (pc + 1) st') : Kn w b p l e R s m args below meth c Q n cs ss pc st := by
  obtain ⟨L, S, g⟩ := st
  simp only [xI] at h
  split at h
  · cases h
    exact fun hn H locs ls hL hG hS => lv_imul cx.hx cx.hb hd (k hn H locs ls hL hG hS)
  · cases h
theorem xs_iand (cx : CX w p s m args c cc n own) (eo : EnvOk w b p l e R s m args below meth c Q cc n own E) (h : xI E (.iand) st = some st') (hd : decode cc pc = .ok (.iand, 1)) (k : Kn w b p l e R s m args below meth c Q n cs ss (pc + 1) st') : Kn w b p l e R s m args below meth c Q n cs ss pc st := by
  obtain ⟨L, S, g⟩ := st
  simp only [xI] at h
  split at h
  · cases h
    exact fun hn H locs ls hL hG hS => lv_iand cx.hx cx.hb hd (k hn H locs ls hL hG hS)
  · cases h
theorem xs_ladd (cx : CX w p s m args c cc n own) (eo : EnvOk w b p l e R s m args below meth c Q cc n own E) (h : xI E (.ladd) st = some st') (hd : decode cc pc = .ok (.ladd, 1)) (k : Kn w b p l e R s m args below meth c Q n cs ss (pc + 1) st') : Kn w b p l e R s m args below meth c Q n cs ss pc st := by
  obtain ⟨L, S, g⟩ := st
  simp only [xI] at h
  split at h
  · cases h
    exact fun hn H locs ls hL hG hS => lv_ladd cx.hx cx.hb hd (k hn H locs ls hL hG hS)
  · cases h
theorem xs_lsub (cx : CX w p s m args c cc n own) (eo : EnvOk w b p l e R s m args below meth c Q cc n own E) (h : xI E (.lsub) st = some st') (hd : decode cc pc = .ok (.lsub, 1)) (k : Kn w b p l e R s m args below meth c Q n cs ss (pc + 1) st') : Kn w b p l e R s m args below meth c Q n cs ss pc st := by
  obtain ⟨L, S, g⟩ := st
  simp only [xI] at h
  split at h
  · cases h
    exact fun hn H locs ls hL hG hS => lv_lsub cx.hx cx.hb hd (k hn H locs ls hL hG hS)
  · cases h
theorem xs_lmul (cx : CX w p s m args c cc n own) (eo : EnvOk w b p l e R s m args below meth c Q cc n own E) (h : xI E (.lmul) st = some st') (hd : decode cc pc = .ok (.lmul, 1)) (k : Kn w b p l e R s m args below meth c Q n cs ss (pc + 1) st') : Kn w b p l e R s m args below meth c Q n cs ss pc st := by
  obtain ⟨L, S, g⟩ := st
  simp only [xI] at h
  split at h
  · cases h
    exact fun hn H locs ls hL hG hS => lv_lmul cx.hx cx.hb hd (k hn H locs ls hL hG hS)
  · cases h
theorem xs_idiv (cx : CX w p s m args c cc n own) (eo : EnvOk w b p l e R s m args below meth c Q cc n own E) (h : xI E (.idiv) st = some st') (hd : decode cc pc = .ok (.idiv, 1)) (k : Kn w b p l e R s m args below meth c Q n cs ss (pc + 1) st') : Kn w b p l e R s m args below meth c Q n cs ss pc st := by
  obtain ⟨L, S, g⟩ := st
  simp only [xI] at h
  split at h
  · split at h
    · cases h
    · rename_i hne
      cases h
      exact fun hn H locs ls hL hG hS => lv_idiv cx.hx cx.hb hd hne (k hn H locs ls hL hG hS)
  · cases h
theorem xs_irem (cx : CX w p s m args c cc n own) (eo : EnvOk w b p l e R s m args below meth c Q cc n own E) (h : xI E (.irem) st = some st') (hd : decode cc pc = .ok (.irem, 1)) (k : Kn w b p l e R s m args below meth c Q n cs ss (pc + 1) st') : Kn w b p l e R s m args below meth c Q n cs ss pc st := by
  obtain ⟨L, S, g⟩ := st
  simp only [xI] at h
  split at h
  · split at h
    · cases h
    · rename_i hne
      cases h
      exact fun hn H locs ls hL hG hS => lv_irem cx.hx cx.hb hd hne (k hn H locs ls hL hG hS)
  · cases h
theorem xs_dmul (cx : CX w p s m args c cc n own) (eo : EnvOk w b p l e R s m args below meth c Q cc n own E) (h : xI E (.dmul) st = some st') (hd : decode cc pc = .ok (.dmul, 1)) (k : Kn w b p l e R s m args below meth c Q n cs ss (pc + 1) st') : Kn w b p l e R s m args below meth c Q n cs ss pc st := by
  obtain ⟨L, S, g⟩ := st
  simp only [xI] at h
  split at h
  · split at h
    · rename_i hne
      cases h
      exact fun hn H locs ls hL hG hS => lv_dmul cx.hx cx.hb hd hne (k hn H locs ls hL hG hS)
    · cases h
  · cases h
theorem xs_ddiv (cx : CX w p s m args c cc n own) (eo : EnvOk w b p l e R s m args below meth c Q cc n own E) (h : xI E (.ddiv) st = some st') (hd : decode cc pc = .ok (.ddiv, 1)) (k : Kn w b p l e R s m args below meth c Q n cs ss (pc + 1) st') : Kn w b p l e R s m args below meth c Q n cs ss pc st := by
  obtain ⟨L, S, g⟩ := st
  simp only [xI] at h
  split at h
  · split at h
    · rename_i hne
      cases h
      exact fun hn H locs ls hL hG hS => lv_ddiv cx.hx cx.hb hd hne (k hn H locs ls hL hG hS)
    · cases h
  · cases h
theorem xs_dsub (cx : CX w p s m args c cc n own) (eo : EnvOk w b p l e R s m args below meth c Q cc n own E) (h : xI E (.dsub) st = some st') (hd : decode cc pc = .ok (.dsub, 1)) (k : Kn w b p l e R s m args below meth c Q n cs ss (pc + 1) st') : Kn w b p l e R s m args below meth c Q n cs ss pc st := by
  obtain ⟨L, S, g⟩ := st
  simp only [xI] at h
  split at h
  · split at h
    · rename_i hne
      cases h
      exact fun hn H locs ls hL hG hS => lv_dsub cx.hx cx.hb hd hne (k hn H locs ls hL hG hS)
    · cases h
  · cases h
theorem xs_lshl (cx : CX w p s m args c cc n own) (eo : EnvOk w b p l e R s m args below meth c Q cc n own E) (h : xI E (.lshl) st = some st') (hd : decode cc pc = .ok (.lshl, 1)) (k : Kn w b p l e R s m args below meth c Q n cs ss (pc + 1) st') : Kn w b p l e R s m args below meth c Q n cs ss pc st := by
  obtain ⟨L, S, g⟩ := st
  simp only [xI] at h
  split at h
  · cases h
    exact fun hn H locs ls hL hG hS => lv_lshl cx.hx cx.hb hd rfl (k hn H locs ls hL hG hS)
  · cases h
theorem xs_i2l (cx : CX w p s m args c cc n own) (eo : EnvOk w b p l e R s m args below meth c Q cc n own E) (h : xI E (.i2l) st = some st') (hd : decode cc pc = .ok (.i2l, 1)) (k : Kn w b p l e R s m args below meth c Q n cs ss (pc + 1) st') : Kn w b p l e R s m args below meth c Q n cs ss pc st := by
  obtain ⟨L, S, g⟩ := st
  simp only [xI] at h
  split at h
  · cases h
    exact fun hn H locs ls hL hG hS => lv_i2l cx.hx cx.hb hd rfl (k hn H locs ls hL hG hS)
  · cases h
theorem xs_i2d (cx : CX w p s m args c cc n own) (eo : EnvOk w b p l e R s m args below meth c Q cc n own E) (h : xI E (.i2d) st = some st') (hd : decode cc pc = .ok (.i2d, 1)) (k : Kn w b p l e R s m args below meth c Q n cs ss (pc + 1) st') : Kn w b p l e R s m args below meth c Q n cs ss pc st := by
  obtain ⟨L, S, g⟩ := st
  simp only [xI] at h
  split at h
  · cases h
    exact fun hn H locs ls hL hG hS => lv_i2d cx.hx cx.hb hd (k hn H locs ls hL hG hS)
  · cases h
theorem xs_d2l (cx : CX w p s m args c cc n own) (eo : EnvOk w b p l e R s m args below meth c Q cc n own E) (h : xI E (.d2l) st = some st') (hd : decode cc pc = .ok (.d2l, 1)) (k : Kn w b p l e R s m args below meth c Q n cs ss (pc + 1) st') : Kn w b p l e R s m args below meth c Q n cs ss pc st := by
  obtain ⟨L, S, g⟩ := st
  simp only [xI] at h
  split at h
  · cases h
    exact fun hn H locs ls hL hG hS => lv_d2l cx.hx cx.hb hd (k hn H locs ls hL hG hS)
  · cases h
theorem xs_lcmp (cx : CX w p s m args c cc n own) (eo : EnvOk w b p l e R s m args below meth c Q cc n own E) (h : xI E (.lcmp) st = some st') (hd : decode cc pc = .ok (.lcmp, 1)) (k : Kn w b p l e R s m args below meth c Q n cs ss (pc + 1) st') : Kn w b p l e R s m args below meth c Q n cs ss pc st := by
  obtain ⟨L, S, g⟩ := st
  simp only [xI] at h
  split at h
  · cases h
    exact fun hn H locs ls hL hG hS => W.lcmp cx.hx cx.hb hd (k hn H locs ls hL hG hS)
  · cases h
theorem xs_dcmp {k0 : CmpOp} (cx : CX w p s m args c cc n own) (eo : EnvOk w b p l e R s m args below meth c Q cc n own E) (h : xI E (.dcmp k0) st = some st') (hd : decode cc pc = .ok (.dcmp k0, 1)) (k : Kn w b p l e R s m args below meth c Q n cs ss (pc + 1) st') : Kn w b p l e R s m args below meth c Q n cs ss pc st := by
  obtain ⟨L, S, g⟩ := st
  simp only [xI] at h
  split at h
  · cases h
    exact fun hn H locs ls hL hG hS => lv_dcmp cx.hx cx.hb hd (k hn H locs ls hL hG hS)
  · cases h
theorem xs_dup (cx : CX w p s m args c cc n own) (eo : EnvOk w b p l e R s m args below meth c Q cc n own E) (h : xI E (.dup) st = some st') (hd : decode cc pc = .ok (.dup, 1)) (k : Kn w b p l e R s m args below meth c Q n cs ss (pc + 1) st') : Kn w b p l e R s m args below meth c Q n cs ss pc st := by
  obtain ⟨L, S, g⟩ := st
  simp only [xI] at h
  split at h
  · cases h
    exact fun hn H locs ls hL hG hS => lv_dup cx.hx cx.hb hd rfl (k hn H locs ls hL hG hS)
  · cases h
    exact fun hn H locs ls hL hG hS => lv_dup cx.hx cx.hb hd rfl (k hn H locs ls hL hG hS)
  · cases h
theorem xs_dup2 (cx : CX w p s m args c cc n own) (eo : EnvOk w b p l e R s m args below meth c Q cc n own E) (h : xI E (.dup2) st = some st') (hd : decode cc pc = .ok (.dup2, 1)) (k : Kn w b p l e R s m args below meth c Q n cs ss (pc + 1) st') : Kn w b p l e R s m args below meth c Q n cs ss pc st := by
  obtain ⟨L, S, g⟩ := st
  simp only [xI] at h
  split at h
  · cases h
    exact fun hn H locs ls hL hG hS => lv_dup2_11 cx.hx cx.hb hd rfl rfl (k hn H locs ls hL hG hS)
  · cases h
theorem xs_pop (cx : CX w p s m args c cc n own) (eo : EnvOk w b p l e R s m args below meth c Q cc n own E) (h : xI E (.pop) st = some st') (hd : decode cc pc = .ok (.pop, 1)) (k : Kn w b p l e R s m args below meth c Q n cs ss (pc + 1) st') : Kn w b p l e R s m args below meth c Q n cs ss pc st := by
  obtain ⟨L, S, g⟩ := st
  simp only [xI] at h
  split at h
  · cases h
    exact fun hn H locs ls hL hG hS => lv_pop cx.hx cx.hb hd rfl (k hn H locs ls hL hG hS)
  · cases h
theorem xs_aconst_null (cx : CX w p s m args c cc n own) (eo : EnvOk w b p l e R s m args below meth c Q cc n own E) (h : xI E (.aconst_null) st = some st') (hd : decode cc pc = .ok (.aconst_null, 1)) (k : Kn w b p l e R s m args below meth c Q n cs ss (pc + 1) st') : Kn w b p l e R s m args below meth c Q n cs ss pc st := by
  obtain ⟨L, S, g⟩ := st
  simp only [xI] at h
  cases h
  exact fun hn H locs ls hL hG hS => lv_null cx.hx cx.hb hd (k hn H locs ls hL hG hS)
end
end
section
/-! ===== the soundness of what reads and writes the heap, and of calls ===== -/
section
variable {w : Wd} {b : Bool} {p : Program} {l : Launch} {e : Jvm.Env} {R : Room} {s : State} {m : MethodId} {args : Array Value} {below : List Frame} {meth : Method} {c : Code} {Q : State → Prop} {cc : ByteArray} {n cs ss pc : Nat} {own : String} {E : Env}
variable {L : List (Option Value)} {S : List Value} {g : G} {st st' : St}
theorem zcl_at {ci : Nat} (h : ci < 7) : ∃ r, zcl[ci]? = some r := by
  match ci, h with
  | 0, _ => exact ⟨_, rfl⟩
  | 1, _ => exact ⟨_, rfl⟩
  | 2, _ => exact ⟨_, rfl⟩
  | 3, _ => exact ⟨_, rfl⟩
  | 4, _ => exact ⟨_, rfl⟩
  | 5, _ => exact ⟨_, rfl⟩
  | 6, _ => exact ⟨_, rfl⟩
theorem zfok_spec {own : String} {q : Nat × Nat × Nat} (h : zfok own q = true) : ∃ r : vw_C, zcl[q.2.1]? = some r ∧ q.2.1 < 7 ∧ q.2.2 < r.2.2 ∧ r.1 = own ∧ Cond.fieldLink own q.1 own (r.2.1 q.2.2).2.1 (r.2.1 q.2.2).2.2.1 ∈ lw_tbl := by
  unfold zfok at h
  split at h
  · rename_i r hr
    simp only [Bool.and_eq_true, decide_eq_true_eq] at h
    exact ⟨r, hr, h.1, h.2.1, h.2.2.1, h.2.2.2⟩
  · cases h
theorem zlay {r : vw_C} {ci : Nat} (hr : zcl[ci]? = some r) (h : ci < 7) : ∀ x ∈ u_ws r.1 r.2.1 r.2.2, x ∈ lw_tbl.filter goodWord := by
  have h1 := zlay_ok ci h
  rw [hr] at h1
  intro x hx
  refine List.mem_filter.mpr ⟨h1 x hx, ?_⟩
  obtain ⟨k, -, rfl⟩ := List.mem_map.mp hx
  unfold u_lay
  split <;> rfl
theorem ztyok {r : vw_C} {ci : Nat} (hr : zcl[ci]? = some r) (h : ci < 7) : ∀ k, k < r.2.2 → parseFieldDescriptor (r.2.1 k).2.2.1 = some (zty ci k) := by
  have h1 := zty_ok ci h
  rw [hr] at h1
  exact h1
theorem znmok {r : vw_C} {ci : Nat} (hr : zcl[ci]? = some r) (h : ci < 7) : ∀ a, a < r.2.2 → ∀ b, b < r.2.2 → a ≠ b → (r.2.1 a).2.1 ≠ (r.2.1 b).2.1 := by
  have h1 := znm_ok ci h
  rw [hr] at h1
  exact h1
theorem zdcok {r : vw_C} {ci : Nat} (hr : zcl[ci]? = some r) (h : ci < 7) : ∀ k, k < r.2.2 → (r.2.1 k).1 = r.1 := by
  have h1 := zdc_ok ci h
  rw [hr] at h1
  exact h1
theorem xs_getfield {k0 : Nat} (cx : CX w p s m args c cc n own) (eo : EnvOk w b p l e R s m args below meth c Q cc n own E) (h : xI E (.getfield k0) st = some st') (hd : decode cc pc = .ok (.getfield k0, 3)) (k : Kn w b p l e R s m args below meth c Q n cs ss (pc + 3) st') : Kn w b p l e R s m args below meth c Q n cs ss pc st := by
  obtain ⟨L, S, g⟩ := st
  simp only [xI] at h
  split at h
  · rename_i a S
    split at h
    · rename_i ci fs hM
      split at h
      · rename_i cj j hf
        split at h
        · rename_i hcj
          subst hcj
          split at h
          · rename_i v hv
            cases h
            obtain ⟨⟨C, T, N⟩, hr, h7, hj, hC, hlink⟩ := zfok_spec (eo.2.1 _ (lookN_mem hf))
            dsimp only at hr h7 hj hC hlink
            subst hC
            intro hn H locs ls hL hG hS
            refine va_get (D := w.2.2.1) (cl := zcl) (ref := C) (T := T) (C := C) (N := N) (ci := ci) cx.hx cx.hb cx.hall (zlay hr h7) cx.hown cx.kk.1 (hG.one hM) 0 rfl hr j hj (cx.hts hlink rfl) (fun x hx => ?_) (v := ztv w v) ?_ hd (k hn H locs ls hL hG hS)
            · have hdc : (T j).1 = C := zdcok hr h7 j hj
              rw [hdc] at hx; exact hx
            · rw [List.getElem?_map, hv]; rfl
          · cases h
        · cases h
      · cases h
    · cases h
  · cases h
theorem xs_getstatic {k0 : Nat} (cx : CX w p s m args c cc n own) (eo : EnvOk w b p l e R s m args below meth c Q cc n own E) (h : xI E (.getstatic k0) st = some st') (hd : decode cc pc = .ok (.getstatic k0, 3)) (k : Kn w b p l e R s m args below meth c Q n cs ss (pc + 3) st') : Kn w b p l e R s m args below meth c Q n cs ss pc st := by
  obtain ⟨L, S, g⟩ := st
  simp only [xI] at h
  split at h
  · rename_i j hj
    cases h
    have hk := eo.2.2.2.1 _ (lookN_mem hj)
    simp only [zsok, Bool.and_eq_true, Bool.or_eq_true, decide_eq_true_eq] at hk
    intro hn H locs ls hL hG hS
    rcases hk.2 with h1 | h1
    · exact va_gets cx.hx cx.hb (cx.kk.2.2.1 j hk.1) hS cx.hown (cx.hts h1 rfl) (fun _ h => h) hd (k hn H locs ls hL hG hS)
    · exact va_getsN cx.hx cx.hb (cx.kk.2.2.1 j hk.1) hS cx.hown (va_Nw.use rfl (cx.kk.2.2.2.1 _ h1)) (fun _ h => h) hd (k hn H locs ls hL hG hS)
  · cases h
theorem xs_arraylength (cx : CX w p s m args c cc n own) (eo : EnvOk w b p l e R s m args below meth c Q cc n own E) (h : xI E .arraylength st = some st') (hd : decode cc pc = .ok (.arraylength, 1)) (k : Kn w b p l e R s m args below meth c Q n cs ss (pc + 1) st') : Kn w b p l e R s m args below meth c Q n cs ss pc st := by
  obtain ⟨L, S, g⟩ := st
  simp only [xI] at h
  split at h
  · split at h
    · rename_i hM
      cases h
      exact fun hn H locs ls hL hG hS => va_alen cx.hx cx.hb cx.kk.1 (hG.one hM) 0 0 rfl rfl rfl hd (k hn H locs ls hL hG hS)
    · rename_i hM
      cases h
      exact fun hn H locs ls hL hG hS => va_alen cx.hx cx.hb cx.kk.1 (hG.one hM) 0 1 rfl rfl rfl hd (k hn H locs ls hL hG hS)
    · rename_i hM
      cases h
      exact fun hn H locs ls hL hG hS => va_alen cx.hx cx.hb cx.kk.1 (hG.one hM) 0 2 rfl rfl rfl hd (k hn H locs ls hL hG hS)
    · cases h
    · split at h
      · rename_i hT
        cases h
        intro hn H locs ls hL hG hS
        obtain ⟨-, cell, q1, q2, q3, q4, q5, q6, q7⟩ := cx.kk.2.1 _ _ (eo.2.2.2.2.1 _ _ hT)
        exact W.alen cx.hx cx.hb (by rw [hS.2.1 _ (Array.getElem?_eq_some_iff.mp q1).1 q7]; exact q1) q2 q5 rfl rfl hd (k hn H locs ls hL hG hS)
      · cases h
  · cases h
theorem xs_iaload (cx : CX w p s m args c cc n own) (eo : EnvOk w b p l e R s m args below meth c Q cc n own E) (h : xI E .iaload st = some st') (hd : decode cc pc = .ok (.iaload, 1)) (k : Kn w b p l e R s m args below meth c Q n cs ss (pc + 1) st') : Kn w b p l e R s m args below meth c Q n cs ss pc st := by
  obtain ⟨L, S, g⟩ := st
  simp only [xI] at h
  split at h
  · split at h
    · rename_i hM
      split at h
      · rename_i hi
        cases h
        obtain ⟨h1, h2⟩ := zix_in hi
        subst h2
        exact fun hn H locs ls hL hG hS => va_iald cx.hx cx.hb cx.kk.1 (hG.one hM) 0 0 rfl rfl h1 hd (k hn H locs ls hL hG hS)
      · cases h
    · cases h
    · split at h
      · rename_i hT
        split at h
        · rename_i hi
          cases h
          obtain ⟨h1, h2⟩ := zix_in hi
          subst h2
          exact fun hn H locs ls hL hG hS => va_ti cx.hx cx.hb (cx.kk.2.1 _ _ (eo.2.2.2.2.1 _ _ hT)).2 hS h1 rfl hd (k hn H locs ls hL hG hS)
        · cases h
      · cases h
  · cases h
theorem xs_laload (cx : CX w p s m args c cc n own) (eo : EnvOk w b p l e R s m args below meth c Q cc n own E) (h : xI E .laload st = some st') (hd : decode cc pc = .ok (.laload, 1)) (k : Kn w b p l e R s m args below meth c Q n cs ss (pc + 1) st') : Kn w b p l e R s m args below meth c Q n cs ss pc st := by
  obtain ⟨L, S, g⟩ := st
  simp only [xI] at h
  split at h
  · split at h
    · rename_i hM
      split at h
      · rename_i hi
        cases h
        obtain ⟨h1, h2⟩ := zix_in hi
        subst h2
        exact fun hn H locs ls hL hG hS => va_lald cx.hx cx.hb cx.kk.1 (hG.one hM) 0 1 rfl rfl h1 hd (k hn H locs ls hL hG hS)
      · cases h
    · cases h
  · cases h
theorem xs_aaload (cx : CX w p s m args c cc n own) (eo : EnvOk w b p l e R s m args below meth c Q cc n own E) (h : xI E .aaload st = some st') (hd : decode cc pc = .ok (.aaload, 1)) (k : Kn w b p l e R s m args below meth c Q n cs ss (pc + 1) st') : Kn w b p l e R s m args below meth c Q n cs ss pc st := by
  obtain ⟨L, S, g⟩ := st
  simp only [xI] at h
  split at h
  · split at h
    · rename_i f hM
      split at h
      · rename_i j hi
        obtain ⟨h1, h2⟩ := zix_in hi
        subst h2
        split at h
        · rename_i q hq
          cases h
          exact fun hn H locs ls hL hG hS => va_aldq cx.hx cx.hb cx.kk.1 (hG.one hM) 0 2 rfl rfl h1 hd (by dsimp only; rw [hq]; exact k hn H locs ls hL hG hS)
        · rename_i hq
          cases h
          exact fun hn H locs ls hL hG hS => va_aldq cx.hx cx.hb cx.kk.1 (hG.one hM) 0 2 rfl rfl h1 hd (by dsimp only; rw [hq]; exact k hn H locs ls hL hG hS)
      · cases h
    · cases h
  · cases h
theorem xs_iastore (cx : CX w p s m args c cc n own) (eo : EnvOk w b p l e R s m args below meth c Q cc n own E) (h : xI E .iastore st = some st') (hd : decode cc pc = .ok (.iastore, 1)) (k : Kn w b p l e R s m args below meth c Q n cs ss (pc + 1) st') : Kn w b p l e R s m args below meth c Q n cs ss pc st := by
  obtain ⟨L, S, g⟩ := st
  simp only [xI] at h
  split at h
  · rename_i x i a S
    split at h
    · rename_i N f hM
      split at h
      · rename_i j hi
        cases h
        obtain ⟨h1, h2⟩ := zix_in hi
        subst h2
        intro hn H locs ls hL hG hS
        obtain ⟨h4, hat⟩ := hG.1 _ _ hM
        refine W.iast cx.hx cx.hb hat ((cx.kk.1.2 0 _ rfl).1 N (fun j => .int (f j))) (fun q => by cases q) (by show ¬ (i < 0 ∨ (arrV _ _ _).slots.size ≤ _); rw [arrV_size]; exact h1) rfl rfl hd fun H1 e1 z1 o1 => ?_
        refine k hn H1 _ ls hL (hG.put hM z1 o1 ?_) (hS.put' z1 o1 h4)
        show H1[zad w a]? = some (arrV (w.2.2.2.1 0) N (fun j => .int (upd f i.toNatClampNeg x j)))
        rw [e1]
        refine congrArg some ((arrV_store _ _ _ _ _).trans (congrArg (arrV _ _) ?_))
        funext q
        by_cases hq : q = i.toNatClampNeg
        · subst hq; simp [updV, upd]
        · simp [updV, upd, hq]
      · cases h
    · cases h
  · cases h
theorem xs_lastore (cx : CX w p s m args c cc n own) (eo : EnvOk w b p l e R s m args below meth c Q cc n own E) (h : xI E .lastore st = some st') (hd : decode cc pc = .ok (.lastore, 1)) (k : Kn w b p l e R s m args below meth c Q n cs ss (pc + 1) st') : Kn w b p l e R s m args below meth c Q n cs ss pc st := by
  obtain ⟨L, S, g⟩ := st
  simp only [xI] at h
  split at h
  · rename_i x i a S
    split at h
    · rename_i N f hM
      split at h
      · rename_i j hi
        cases h
        obtain ⟨h1, h2⟩ := zix_in hi
        subst h2
        intro hn H locs ls hL hG hS
        obtain ⟨h4, hat⟩ := hG.1 _ _ hM
        refine W.last cx.hx cx.hb hat ((cx.kk.1.2 1 _ rfl).1 N (fun j => .long (f j))) (fun q => by cases q) (by show ¬ (i < 0 ∨ (arrV _ _ _).slots.size ≤ _); rw [arrV_size]; exact h1) rfl rfl hd fun H1 e1 z1 o1 => ?_
        refine k hn H1 _ ls hL (hG.put hM z1 o1 ?_) (hS.put' z1 o1 h4)
        show H1[zad w a]? = some (arrV (w.2.2.2.1 1) N (fun j => .long (vp_updL f i.toNatClampNeg x j)))
        rw [e1]
        refine congrArg some ((arrV_store _ _ _ _ _).trans (congrArg (arrV _ _) ?_))
        funext q
        by_cases hq : q = i.toNatClampNeg
        · subst hq; simp [updV, vp_updL]
        · simp [updV, vp_updL, hq]
      · cases h
    · cases h
  · cases h
theorem xs_aastore (cx : CX w p s m args c cc n own) (eo : EnvOk w b p l e R s m args below meth c Q cc n own E) (h : xI E .aastore st = some st') (hd : decode cc pc = .ok (.aastore, 1)) (k : Kn w b p l e R s m args below meth c Q n cs ss (pc + 1) st') : Kn w b p l e R s m args below meth c Q n cs ss pc st := by
  obtain ⟨L, S, g⟩ := st
  simp only [xI] at h
  split at h
  · rename_i v i a S
    split at h
    · rename_i N f hM
      split at h
      · rename_i j hi
        split at h
        · rename_i vs hV
          cases h
          obtain ⟨h1, h2⟩ := zix_in hi
          subst h2
          intro hn H locs ls hL hG hS
          obtain ⟨h4, hat⟩ := hG.1 _ _ hM
          obtain ⟨r', hr', cellV, g1, g2, g3, -⟩ := (hG.1 _ _ hV).2
          have hcls := (cx.kk.1.1 2 _ rfl).2
          obtain ⟨kA, comp, k1, k2, k3, -⟩ := (cx.kk.1.2 2 _ rfl).2
          have hcomp : comp = w.2.2.1.1 2 := Option.some.inj (k3.symm.trans hcls.1)
          subst hcomp
          obtain ⟨kC, hkC, -⟩ := hcls.2
          have hlt : i.toNatClampNeg < N := Nat.not_le.mp fun q => h1 (Or.inr q)
          have h0 : ¬ i < 0 := fun q => h1 (Or.inl q)
          refine W.aast cx.hx cx.hb hat (fun q h => by cases h) (fun h => by cases h) k1 k2 rfl hkC ⟨h0, by show _ < (arrV _ _ _).slots.size; rw [arrV_size]; exact hlt⟩ g1 (fun q h => by rw [g3] at h; cases h) (by rw [g2]; exact hkC) (by rw [g2]; exact va_assign hcls) rfl rfl hd fun H1 e1 z1 o1 => ?_
          refine k hn H1 _ ls hL (hG.put hM z1 o1 ?_) (hS.put' z1 o1 h4)
          show H1[zad w a]? = some (arrV (w.2.2.2.1 2) N (fun j => va_rf ((va_up f i.toNatClampNeg (some v) j).map (zad w))))
          rw [e1]
          refine congrArg some ((arrV_store _ _ _ _ _).trans (congrArg (arrV _ _) ?_))
          funext q
          by_cases hq : q = i.toNatClampNeg
          · subst hq; simp [updV, va_up, va_rf]
          · simp [updV, va_up, hq]
        · cases h
      · cases h
    · cases h
  · cases h
theorem xs_putfield {k0 : Nat} (cx : CX w p s m args c cc n own) (eo : EnvOk w b p l e R s m args below meth c Q cc n own E) (h : xI E (.putfield k0) st = some st') (hd : decode cc pc = .ok (.putfield k0, 3)) (k : Kn w b p l e R s m args below meth c Q n cs ss (pc + 3) st') : Kn w b p l e R s m args below meth c Q n cs ss pc st := by
  obtain ⟨L, S, g⟩ := st
  simp only [xI] at h
  split at h
  · rename_i v a S
    split at h
    · rename_i ci fs hM
      split at h
      · rename_i cj j hf
        split at h
        · rename_i hcj
          obtain ⟨hcj, hfit, hlen, hfin⟩ := hcj
          subst hcj
          cases h
          obtain ⟨⟨C, T, N⟩, hr, h7, hj, hC, hlink⟩ := zfok_spec (eo.2.1 _ (lookN_mem hf))
          dsimp only at hr h7 hj hC hlink
          subst hC
          rw [hr] at hfin
          intro hn H locs ls hL hG hS
          obtain ⟨h4, hat⟩ := hG.1 _ _ hM
          have hap := va_apart (own := C) cx.hall (zlay hr h7) (zty ci) (ztyok hr h7) (znmok hr h7) cx.kk.1 hr
          obtain ⟨r, h1, cell, q1, q2, q3, q4⟩ := hat
          have hrr : r = (C, T, N) := Option.some.inj (h1.symm.trans hr)
          subst hrr
          obtain ⟨hSl, hfc, kC, hkC, hkind⟩ := cx.kk.1.1 ci _ hr
          obtain ⟨cf, kf, fi, f, hi, hsl⟩ := hSl j hj
          have hlay := cx.hall _ (zlay hr h7 _ (u_in_lay hj))
          have hst := (u_facts hfc hkC (u_lays cx.hall (zlay hr h7) hj) hi).1
          obtain ⟨z1, z2⟩ := zfit_ok (w := w) hfit
          have hdc : (T j).1 = C := zdcok hr h7 j hj
          have hi' : s.fieldFound? C (T j).2.1 (T j).2.2.1 = some (cf, kf, fi, f) := by have hi2 := hi; dsimp only at hi2; rw [hdc] at hi2; exact hi2
          have hend : ∀ (H1 : Heap), H1[zad w a]? = some (cell.setSlot f.slot (ztv w v)) → H1.size = H.size → (∀ q : Nat, q ≠ zad w a → H1[q]? = H[q]?) → W p l e R s m args below meth c H1 (locs ++ [⟨zad w a, f.slot⟩]) cs ss Q (F0 m (pc + 3) ls (S.map (ztv w))) := by
            intro H1 e1 e2 e3
            rw [hsl] at e1
            refine k hn H1 _ ls hL (hG.put hM e2 e3 ?_) (hS.put' e2 e3 h4)
            refine ⟨_, hr, t_OB.to (V := updV (vp_V (fs.map (ztv w))) j (ztv w v)) ⟨_, e1, q2, q3, t_set q4 hap hj _⟩ (fun i _ => ?_)⟩
            rw [vp_updV_set (by simpa using hlen), List.map_set]
          unfold u_lay at hlay
          by_cases hF : (T j).2.2.2 = true
          · rw [if_pos hF] at hlay
            have hI : eI E = true := by
              rcases hfin with h0 | h0
              · exact absurd hF (by rw [show (T j).2.2.2 = false from h0]; decide)
              · exact h0
            have hcf : m.cls = cf := by
              obtain ⟨_, _, c', _, _, _, -, -, hf', -, -, -, hown2, -⟩ := Cond.laysFinal_spec hlay
              have e1 : c' = cf := by have := hi.symm.trans hf'; simp at this; exact this.1.symm
              rw [hdc] at hown2
              rw [← e1]; exact Option.some.inj (cx.hown.symm.trans hown2)
            have h6 := u_fits hfc hkC hkind (Or.inr hlay) hi (ztyok hr h7 j hj) z1 z2
            exact W.putFinK cx.hx cx.hb cx.hown (cx.hts hlink rfl) hi' hst hcf (eo.2.2.2.2.2.1 hI) (by rw [q2]; exact h6) q1 q3 (by rw [hsl]; exact k2_hasslot (q4 j hj)) rfl rfl hd hend
          · rw [if_neg hF] at hlay
            have h6 := u_store hfc hkC hkind hlay hi (ztyok hr h7 j hj) z1 z2
            exact W.putK cx.hx cx.hb (f := f) ⟨cx.hown, cx.hts hlink rfl, ⟨_, _, _, hi'⟩, hst⟩ (by rw [q2]; exact h6) q1 q3 (by rw [hsl]; exact k2_hasslot (q4 j hj)) rfl rfl hd hend
        · cases h
      · cases h
    · cases h
  · cases h
theorem xs_call {i0 : Instr} (eo : EnvOk w b p l e R s m args below meth c Q cc n own E) (hR : cs ≤ R.cells ∧ ss ≤ R.slots) (h : (match lookI (eC E) i0 with
    | some (n, f) => match popN n [] S with
      | some (vs, S) => if wsum S ≤ 8 then match f vs g with
          | some (.inl o, g) => some (L, o.toList ++ S, g)
          | _ => none
        else none
      | none => none
    | none => none) = some st') (hd : decode cc pc = .ok (i0, 3)) (k : Kn w b p l e R s m args below meth c Q n cs ss (pc + 3) st') : Kn w b p l e R s m args below meth c Q n cs ss pc (L, S, g) := by
  split at h
  · rename_i nn f hf
    split at h
    · rename_i vs S' hp
      split at h
      · rename_i h8
        split at h
        · rename_i o g' hx
          cases h
          obtain ⟨us, e1, e2, e3⟩ := popN_spec hp
          rw [List.append_nil] at e1
          subst e1
          rw [e3]
          exact eo.2.2.2.2.2.2 _ (lookI_mem hf) cs ss pc L S' vs g g' o hR.1 hR.2 hd e2 h8 hx k
        · cases h
      · cases h
    · cases h
  · cases h
end
end
section
/-! ===== blocks, conditions, branches, loops, switches, ends ===== -/
def ilen : Instr → Nat
  | .iload _ => 2
  | .aload _ => 2
  | .lload _ => 2
  | .dload _ => 2
  | .istore _ => 2
  | .astore _ => 2
  | .lstore _ => 2
  | .dstore _ => 2
  | .bipush _ => 2
  | .sipush _ => 3
  | .ldc2_w _ => 3
  | .iinc _ _ => 3
  | .getfield _ => 3
  | .putfield _ => 3
  | .getstatic _ => 3
  | .invokevirtual _ => 3
  | .invokespecial _ => 3
  | .invokestatic _ => 3
  | _ => 1
def zck (cc : ByteArray) : Nat → List Instr → Option Nat
  | pc, [] => some pc
  | pc, i :: r => if decode cc pc = .ok (i, ilen i) then zck cc (pc + ilen i) r else none
/-- how a piece of code goes on: nm: to its end; bk, ct: to the end, or the head, of the loop round it; fn: the method is left -/
abbrev Res : Type := Option (St ⊕ (St ⊕ (St ⊕ (Out × G))))
abbrev nm (st : St) : Res := some (.inl st)
abbrev bk (st : St) : Res := some (.inr (.inl st))
abbrev ct (st : St) : Res := some (.inr (.inr (.inl st)))
abbrev fn (o : Out) (g : G) : Res := some (.inr (.inr (.inr (o, g))))
abbrev Dn : Type := St → Res
abbrev Cn : Type := St → Option (Bool × St)
def blk (E : Env) (is : List Instr) : Dn := fun st => match runI E is st with
  | some st => nm st
  | none => none
def sq (a b : Dn) : Dn := fun st => match a st with
  | some (.inl st) => b st
  | some (.inr x) => some (.inr x)
  | none => none
def brk : Dn := fun st => bk st
def cnt : Dn := fun st => ct st
/-- the operands of a conditional jump: is it taken -/
def zcj (i : Instr) (S : List Value) : Option (Bool × List Value) := match i, S with
  | .if_icmp .eq _, .int y :: .int x :: S => some (decide (x = y), S)
  | .if_icmp .ne _, .int y :: .int x :: S => some (decide (¬ x = y), S)
  | .if_icmp .lt _, .int y :: .int x :: S => some (decide (x < y), S)
  | .if_icmp .ge _, .int y :: .int x :: S => some (decide (y ≤ x), S)
  | .if_icmp .gt _, .int y :: .int x :: S => some (decide (y < x), S)
  | .if_icmp .le _, .int y :: .int x :: S => some (decide (x ≤ y), S)
  | .ifCond .eq _, .int x :: S => some (decide (x = 0), S)
  | .ifCond .ne _, .int x :: S => some (decide (¬ x = 0), S)
  | .ifCond .lt _, .int x :: S => some (decide (x < 0), S)
  | .ifCond .ge _, .int x :: S => some (decide (0 ≤ x), S)
  | .ifCond .gt _, .int x :: S => some (decide (0 < x), S)
  | .ifCond .le _, .int x :: S => some (decide (x ≤ 0), S)
  | .ifnull _, .ref _ :: S => some (false, S)
  | .ifnull _, .null :: S => some (true, S)
  | _, _ => none
def zoff (i : Instr) : Int := match i with
  | .if_icmp _ o => o
  | .ifCond _ o => o
  | .ifnull o => o
  | .goto o => o
  | _ => 0
def cat (E : Env) (is : List Instr) (j : Instr) : Cn := fun st => match runI E is st with
  | some (L, S, g) => match zcj j S with
    | some (t, S) => some (t, L, S, g)
    | none => none
  | none => none
def cno (c : Cn) : Cn := fun st => match c st with
  | some (t, st) => some (!t, st)
  | none => none
def can (a b : Cn) : Cn := fun st => match a st with
  | some (true, st) => b st
  | some (false, st) => some (false, st)
  | none => none
def cor (a b : Cn) : Cn := fun st => match a st with
  | some (true, st) => some (true, st)
  | some (false, st) => b st
  | none => none
/-- forgetting locals ahead of a condition -/
def cfo (is : List Nat) (c : Cn) : Cn := fun st => c (zforget st.1 is, st.2)
def ite' (c : Cn) (a b : Dn) : Dn := fun st => match c st with
  | some (true, st) => a st
  | some (false, st) => b st
  | none => none
def lop (c : Cn) (body upd : Dn) : Nat → Dn
  | 0 => fun _ => none
  | N + 1 => fun st => match c st with
    | some (false, st) => nm st
    | some (true, st) => match body st with
      | some (.inl st) => match upd st with
        | some (.inl st) => lop c body upd N st
        | _ => none
      | some (.inr (.inl st)) => nm st
      | some (.inr (.inr (.inl st))) => match upd st with
        | some (.inl st) => lop c body upd N st
        | _ => none
      | some (.inr (.inr (.inr x))) => some (.inr (.inr (.inr x)))
      | none => none
    | none => none
/-- a switch: the first case of that number, or the default -/
def swg (x : Int32) : List (Int32 × Dn) → Dn → Dn
  | [], d => d
  | (k, a) :: r, d => if x = k then a else swg x r d
def swi (E : Env) (is : List Instr) (cs : List (Int32 × Dn)) (d : Dn) : Dn := fun st => match runI E is st with
  | some (L, .int x :: S, g) => swg x cs d (L, S, g)
  | _ => none
/-- the ends -/
def rti (E : Env) (is : List Instr) : Dn := fun st => match runI E is st with
  | some (_, [.int x], g) => fn (.inl (some (.int x))) g
  | _ => none
def rtz (E : Env) (is : List Instr) : Dn := fun st => match runI E is st with
  | some (_, [.int x], g) => if x = 0 ∨ x = 1 then fn (.inl (some (.int x))) g else none
  | _ => none
def rtl (E : Env) (is : List Instr) : Dn := fun st => match runI E is st with
  | some (_, [.long x], g) => fn (.inl (some (.long x))) g
  | _ => none
def rtd (E : Env) (is : List Instr) : Dn := fun st => match runI E is st with
  | some (_, [.double x], g) => fn (.inl (some (.double x))) g
  | _ => none
def rta (E : Env) (is : List Instr) : Dn := fun st => match runI E is st with
  | some (_, [.ref x], g) => fn (.inl (some (.ref x))) g
  | some (_, [.null], g) => fn (.inl (some .null)) g
  | _ => none
def rtv (E : Env) (is : List Instr) : Dn := fun st => match runI E is st with
  | some (_, [], g) => fn (.inl none) g
  | _ => none
/-- the locals at the entry -/
def zsl : List Value → List (Option Value)
  | [] => []
  | .long x :: r => some (.long x) :: none :: zsl r
  | .double x :: r => some (.double x) :: none :: zsl r
  | v :: r => some v :: zsl r
def zpad (n : Nat) (l : List (Option Value)) : List (Option Value) := l ++ List.replicate (n - l.length) none
/-- what a method does -/
def exm (n : Nat) (d : Dn) : Ex := fun vs g => if (zsl vs).length ≤ n then match d (zpad n (zsl vs), [], g) with
    | some (.inr (.inr (.inr x))) => some x
    | _ => none
  else none
section
variable {w : Wd} {b : Bool} {p : Program} {l : Launch} {e : Jvm.Env} {R : Room} {s : State} {m : MethodId} {args : Array Value} {below : List Frame} {meth : Method} {c : Code} {Q : State → Prop} {cc : ByteArray} {n cs ss pc : Nat} {own : String} {E : Env}
variable {L : List (Option Value)} {S : List Value} {g : G} {st st' : St}
theorem xI_sound {i : Instr} (cx : CX w p s m args c cc n own) (eo : EnvOk w b p l e R s m args below meth c Q cc n own E) (hR : cs ≤ R.cells ∧ ss ≤ R.slots) (h : xI E i st = some st') (hd : decode cc pc = .ok (i, ilen i)) (k : Kn w b p l e R s m args below meth c Q n cs ss (pc + ilen i) st') : Kn w b p l e R s m args below meth c Q n cs ss pc st := by
  cases i
  case iload_n => exact xs_iload_n cx eo h hd k
  case iload => exact xs_iload cx eo h hd k
  case aload_n => exact xs_aload_n cx eo h hd k
  case aload => exact xs_aload cx eo h hd k
  case lload_n => exact xs_lload_n cx eo h hd k
  case lload => exact xs_lload cx eo h hd k
  case dload_n => exact xs_dload_n cx eo h hd k
  case dload => exact xs_dload cx eo h hd k
  case iconst => exact xs_iconst cx eo h hd k
  case bipush => exact xs_bipush cx eo h hd k
  case sipush => exact xs_sipush cx eo h hd k
  case lconst => exact xs_lconst cx eo h hd k
  case dconst => exact xs_dconst cx eo h hd k
  case ldc2_w => exact xs_ldc2 cx eo h hd k
  case istore_n => exact xs_istore_n cx eo h hd k
  case istore => exact xs_istore cx eo h hd k
  case astore_n => exact xs_astore_n cx eo h hd k
  case astore => exact xs_astore cx eo h hd k
  case lstore_n => exact xs_lstore_n cx eo h hd k
  case lstore => exact xs_lstore cx eo h hd k
  case dstore_n => exact xs_dstore_n cx eo h hd k
  case dstore => exact xs_dstore cx eo h hd k
  case iinc => exact xs_iinc cx eo h hd k
  case iadd => exact xs_iadd cx eo h hd k
  case isub => exact xs_isub cx eo h hd k
  case imul => exact xs_imul cx eo h hd k
  case idiv => exact xs_idiv cx eo h hd k
  case irem => exact xs_irem cx eo h hd k
  case iand => exact xs_iand cx eo h hd k
  case ladd => exact xs_ladd cx eo h hd k
  case lsub => exact xs_lsub cx eo h hd k
  case lmul => exact xs_lmul cx eo h hd k
  case lshl => exact xs_lshl cx eo h hd k
  case i2l => exact xs_i2l cx eo h hd k
  case i2d => exact xs_i2d cx eo h hd k
  case d2l => exact xs_d2l cx eo h hd k
  case dmul => exact xs_dmul cx eo h hd k
  case ddiv => exact xs_ddiv cx eo h hd k
  case dsub => exact xs_dsub cx eo h hd k
  case lcmp => exact xs_lcmp cx eo h hd k
  case dcmp => exact xs_dcmp cx eo h hd k
  case dup => exact xs_dup cx eo h hd k
  case dup2 => exact xs_dup2 cx eo h hd k
  case pop => exact xs_pop cx eo h hd k
  case aconst_null => exact xs_aconst_null cx eo h hd k
  case arraylength => exact xs_arraylength cx eo h hd k
  case iaload => exact xs_iaload cx eo h hd k
  case iastore => exact xs_iastore cx eo h hd k
  case laload => exact xs_laload cx eo h hd k
  case lastore => exact xs_lastore cx eo h hd k
  case aaload => exact xs_aaload cx eo h hd k
  case aastore => exact xs_aastore cx eo h hd k
  case getfield => exact xs_getfield cx eo h hd k
  case putfield => exact xs_putfield cx eo h hd k
  case getstatic => exact xs_getstatic cx eo h hd k
  case invokevirtual => obtain ⟨L, S, g⟩ := st; exact xs_call eo hR h hd k
  case invokespecial => obtain ⟨L, S, g⟩ := st; exact xs_call eo hR h hd k
  case invokestatic => obtain ⟨L, S, g⟩ := st; exact xs_call eo hR h hd k
  all_goals (obtain ⟨L, S, g⟩ := st; cases (show (none : Option St) = some st' from h))
theorem run_sound (cx : CX w p s m args c cc n own) (eo : EnvOk w b p l e R s m args below meth c Q cc n own E) (hR : cs ≤ R.cells ∧ ss ≤ R.slots) : ∀ (is : List Instr) {pc pe : Nat} {st st' : St}, zck cc pc is = some pe → runI E is st = some st' → Kn w b p l e R s m args below meth c Q n cs ss pe st' → Kn w b p l e R s m args below meth c Q n cs ss pc st
  | [], pc, pe, st, st', hz, hr, k => by
    cases hz; cases hr; exact k
  | i :: r, pc, pe, st, st', hz, hr, k => by
    unfold zck at hz
    split at hz
    · rename_i hd
      unfold runI at hr
      split at hr
      · rename_i st1 h1
        exact xI_sound cx eo hR h1 hd (run_sound cx eo hR r hz hr k)
      · cases hr
    · cases hz
end
end
section
/-! ===== the soundness of the combinators, over any goal at places ===== -/
abbrev Kp : Type := Nat → Nat → Nat → St → Prop
def Sn (K : Kp) (F : Out → G → Prop) (kb kc : St → Prop) (c0 s0 pc : Nat) (d : Dn) (c1 s1 pe : Nat) : Prop := ∀ st, match d st with
  | some (.inl st') => K c1 s1 pe st' → K c0 s0 pc st
  | some (.inr (.inl st')) => kb st' → K c0 s0 pc st
  | some (.inr (.inr (.inl st'))) => kc st' → K c0 s0 pc st
  | some (.inr (.inr (.inr x))) => F x.1 x.2 → K c0 s0 pc st
  | none => True
def Sc (K : Kp) (c s pc : Nat) (d : Cn) (pt pf : Nat) : Prop := ∀ st, match d st with
  | some (true, st') => K c s pt st' → K c s pc st
  | some (false, st') => K c s pf st' → K c s pc st
  | none => True
section
variable {K : Kp} {F : Out → G → Prop} {kb kc : St → Prop} {c0 s0 c1 s1 c2 s2 c s pc pe pm pt pf pu px p2 : Nat}
theorem sn_blk {E : Env} {is : List Instr} (h : ∀ st st', runI E is st = some st' → K c s pe st' → K c s pc st) : Sn K F kb kc c s pc (blk E is) c s pe := by
  intro st
  unfold blk
  cases hr : runI E is st with
  | none => trivial
  | some st' => exact h st st' hr
theorem sn_sq {a b : Dn} (ha : Sn K F kb kc c0 s0 pc a c1 s1 pm) (hb : Sn K F kb kc c1 s1 pm b c2 s2 pe) : Sn K F kb kc c0 s0 pc (sq a b) c2 s2 pe := by
  intro st
  have h1 := ha st
  unfold sq
  cases hr : a st with
  | none => trivial
  | some r =>
    rw [hr] at h1
    rcases r with st' | st' | st' | x
    · dsimp only at h1 ⊢
      have h2 := hb st'
      cases hr2 : b st' with
      | none => trivial
      | some r2 =>
        rw [hr2] at h2
        rcases r2 with st2 | st2 | st2 | x2
        · exact fun k => h1 (h2 k)
        · exact fun k => h1 (h2 k)
        · exact fun k => h1 (h2 k)
        · exact fun k => h1 (h2 k)
    · exact h1
    · exact h1
    · exact h1
theorem sn_goto {d : Dn} (h : Sn K F kb kc c0 s0 pc d c1 s1 pm) (hg : ∀ st, K c1 s1 pe st → K c1 s1 pm st) : Sn K F kb kc c0 s0 pc d c1 s1 pe := by
  intro st
  have h1 := h st
  cases hr : d st with
  | none => trivial
  | some r =>
    rw [hr] at h1
    rcases r with st' | st' | st' | x
    · exact fun k => h1 (hg _ k)
    · exact h1
    · exact h1
    · exact h1
/-- code whose end isn't reached may be said to end anywhere -/
theorem sn_end {d : Dn} (h : Sn K F kb kc c0 s0 pc d c1 s1 pm) (hn : ∀ st st', d st ≠ some (.inl st')) : Sn K F kb kc c0 s0 pc d c2 s2 pe := by
  intro st
  have h1 := h st
  cases hr : d st with
  | none => trivial
  | some r =>
    rw [hr] at h1
    rcases r with st' | st' | st' | x
    · exact absurd hr (hn st st')
    · exact h1
    · exact h1
    · exact h1
theorem sn_brk (hg : ∀ st, kb st → K c s pc st) : Sn K F kb kc c s pc brk c1 s1 pe := fun st => hg st
theorem sn_cnt (hg : ∀ st, kc st → K c s pc st) : Sn K F kb kc c s pc cnt c1 s1 pe := fun st => hg st
theorem sc_no {d : Cn} (h : Sc K c s pc d pt pf) : Sc K c s pc (cno d) pf pt := by
  intro st
  have h1 := h st
  unfold cno
  cases hr : d st with
  | none => trivial
  | some r =>
    obtain ⟨t, st'⟩ := r
    rw [hr] at h1
    cases t <;> exact h1
theorem sc_an {a b : Cn} (ha : Sc K c s pc a pm pf) (hb : Sc K c s pm b pt pf) : Sc K c s pc (can a b) pt pf := by
  intro st
  have h1 := ha st
  unfold can
  cases hr : a st with
  | none => trivial
  | some r =>
    obtain ⟨t, st'⟩ := r
    rw [hr] at h1
    cases t with
    | false => exact h1
    | true =>
      dsimp only at h1 ⊢
      have h2 := hb st'
      cases hr2 : b st' with
      | none => trivial
      | some r2 =>
        obtain ⟨t2, st2⟩ := r2
        rw [hr2] at h2
        cases t2 <;> exact fun k => h1 (h2 k)
theorem sc_or {a b : Cn} (ha : Sc K c s pc a pt pm) (hb : Sc K c s pm b pt pf) : Sc K c s pc (cor a b) pt pf := by
  intro st
  have h1 := ha st
  unfold cor
  cases hr : a st with
  | none => trivial
  | some r =>
    obtain ⟨t, st'⟩ := r
    rw [hr] at h1
    cases t with
    | true => exact h1
    | false =>
      dsimp only at h1 ⊢
      have h2 := hb st'
      cases hr2 : b st' with
      | none => trivial
      | some r2 =>
        obtain ⟨t2, st2⟩ := r2
        rw [hr2] at h2
        cases t2 <;> exact fun k => h1 (h2 k)
theorem sc_fo {is : List Nat} {d : Cn} (hf : ∀ st, K c s pc (zforget st.1 is, st.2) → K c s pc st) (h : Sc K c s pc d pt pf) : Sc K c s pc (cfo is d) pt pf := by
  intro st
  have h1 := h (zforget st.1 is, st.2)
  unfold cfo
  cases hr : d (zforget st.1 is, st.2) with
  | none => trivial
  | some r =>
    obtain ⟨t, st'⟩ := r
    rw [hr] at h1
    cases t <;> exact fun k => hf _ (h1 k)
theorem sn_ite {d : Cn} {a b : Dn} (hc : Sc K c0 s0 pc d pt pf) (ha : Sn K F kb kc c0 s0 pt a c1 s1 pe) (hb : Sn K F kb kc c0 s0 pf b c1 s1 pe) : Sn K F kb kc c0 s0 pc (ite' d a b) c1 s1 pe := by
  intro st
  have h1 := hc st
  unfold ite'
  cases hr : d st with
  | none => trivial
  | some r =>
    obtain ⟨t, st'⟩ := r
    rw [hr] at h1
    cases t with
    | true =>
      dsimp only at h1 ⊢
      have h2 := ha st'
      cases hr2 : a st' with
      | none => trivial
      | some r2 =>
        rw [hr2] at h2
        rcases r2 with st2 | st2 | st2 | x2
        · exact fun k => h1 (h2 k)
        · exact fun k => h1 (h2 k)
        · exact fun k => h1 (h2 k)
        · exact fun k => h1 (h2 k)
    | false =>
      dsimp only at h1 ⊢
      have h2 := hb st'
      cases hr2 : b st' with
      | none => trivial
      | some r2 =>
        rw [hr2] at h2
        rcases r2 with st2 | st2 | st2 | x2
        · exact fun k => h1 (h2 k)
        · exact fun k => h1 (h2 k)
        · exact fun k => h1 (h2 k)
        · exact fun k => h1 (h2 k)
theorem sn_lop {d : Cn} {body upd : Dn} {kb2 kc2 : St → Prop} (hc : Sc K c s pc d pt px) (hb : Sn K F (K c s px) (K c s pu) c s pt body c s pu) (hu : Sn K F kb2 kc2 c s pu upd c s p2) (hg : ∀ st, K c s pc st → K c s p2 st) : ∀ N, Sn K F kb kc c s pc (lop d body upd N) c s px
  | 0 => fun st => trivial
  | N + 1 => by
    have ih := sn_lop hc hb hu hg N
    intro st
    have h1 := hc st
    unfold lop
    cases hr : d st with
    | none => trivial
    | some r =>
      obtain ⟨t, st'⟩ := r
      rw [hr] at h1
      cases t with
      | false => exact h1
      | true =>
        dsimp only at h1 ⊢
        have h2 := hb st'
        cases hr2 : body st' with
        | none => trivial
        | some r2 =>
          rw [hr2] at h2
          rcases r2 with st2 | st2 | st2 | x2
          · dsimp only at h2 ⊢
            have h3 := hu st2
            cases hr3 : upd st2 with
            | none => trivial
            | some r3 =>
              rw [hr3] at h3
              rcases r3 with st3 | st3 | st3 | x3
              · dsimp only at h3 ⊢
                have h4 := ih st3
                cases hr4 : lop d body upd N st3 with
                | none => trivial
                | some r4 =>
                  rw [hr4] at h4
                  rcases r4 with st4 | st4 | st4 | x4
                  · exact fun k => h1 (h2 (h3 (hg _ (h4 k))))
                  · exact fun k => h1 (h2 (h3 (hg _ (h4 k))))
                  · exact fun k => h1 (h2 (h3 (hg _ (h4 k))))
                  · exact fun k => h1 (h2 (h3 (hg _ (h4 k))))
              · trivial
              · trivial
              · trivial
          · exact fun k => h1 (h2 k)
          · dsimp only at h2 ⊢
            have h3 := hu st2
            cases hr3 : upd st2 with
            | none => trivial
            | some r3 =>
              rw [hr3] at h3
              rcases r3 with st3 | st3 | st3 | x3
              · dsimp only at h3 ⊢
                have h4 := ih st3
                cases hr4 : lop d body upd N st3 with
                | none => trivial
                | some r4 =>
                  rw [hr4] at h4
                  rcases r4 with st4 | st4 | st4 | x4
                  · exact fun k => h1 (h2 (h3 (hg _ (h4 k))))
                  · exact fun k => h1 (h2 (h3 (hg _ (h4 k))))
                  · exact fun k => h1 (h2 (h3 (hg _ (h4 k))))
                  · exact fun k => h1 (h2 (h3 (hg _ (h4 k))))
              · trivial
              · trivial
              · trivial
          · exact fun k => h1 (h2 k)
/-- a switch, case by case -/
def SwOk (K : Kp) (F : Out → G → Prop) (kb kc : St → Prop) (c0 s0 c1 s1 pe : Nat) (tgt : Int32 → Nat) (x : Int32) : List (Int32 × Dn) → Dn → Prop
  | [], d => Sn K F kb kc c0 s0 (tgt x) d c1 s1 pe
  | (k, a) :: r, d => (x = k → Sn K F kb kc c0 s0 (tgt x) a c1 s1 pe) ∧ (x ≠ k → SwOk K F kb kc c0 s0 c1 s1 pe tgt x r d)
theorem swg_ok {tgt : Int32 → Nat} {x : Int32} : ∀ {cs : List (Int32 × Dn)} {d : Dn}, SwOk K F kb kc c0 s0 c1 s1 pe tgt x cs d → Sn K F kb kc c0 s0 (tgt x) (swg x cs d) c1 s1 pe
  | [], d, h => h
  | (k, a) :: r, d, h => by
    unfold swg
    by_cases hx : x = k
    · rw [if_pos hx]; exact h.1 hx
    · rw [if_neg hx]; exact swg_ok (h.2 hx)
theorem sn_swi {E : Env} {is : List Instr} {cs : List (Int32 × Dn)} {d : Dn} (tgt : Int32 → Nat) (h : ∀ st L x S g, runI E is st = some (L, .int x :: S, g) → K c0 s0 (tgt x) (L, S, g) → K c0 s0 pc st) (hs : ∀ x, SwOk K F kb kc c0 s0 c1 s1 pe tgt x cs d) : Sn K F kb kc c0 s0 pc (swi E is cs d) c1 s1 pe := by
  intro st
  unfold swi
  cases hr : runI E is st with
  | none => trivial
  | some st' =>
    obtain ⟨L, S, g⟩ := st'
    cases S with
    | nil => trivial
    | cons v S =>
      cases v with
      | int x =>
        dsimp only
        have h2 := swg_ok (hs x) (L, S, g)
        cases hr2 : swg x cs d (L, S, g) with
        | none => trivial
        | some r2 =>
          rw [hr2] at h2
          rcases r2 with st2 | st2 | st2 | x2
          · exact fun k => h _ _ _ _ _ hr (h2 k)
          · exact fun k => h _ _ _ _ _ hr (h2 k)
          · exact fun k => h _ _ _ _ _ hr (h2 k)
          · exact fun k => h _ _ _ _ _ hr (h2 k)
      | _ => trivial
end
end
section
/-! ===== methods: contracts out of what their code does; calls ===== -/
abbrev zW : List Cond := lw_tbl.filter goodWord
theorem zW_good : GoodIn zW zW := fun x hx => ⟨hx, good_of_word (List.mem_filter.mp hx).2⟩
abbrev zPc (w : Wd) (vs : List Value) (g : G) : Array Value → State → Prop := va_Pc (vs.map (ztv w)) (fun U => KK w U ∧ RepG w g U.heap)
def zQ (w : Wd) (o : Option Value) (g : G) : Array Value → State → Outcome → State → Prop := fun _ st oc t => (oc = .returned (o.map (ztv w)) ∧ RepG w g t.heap) ∧ va_F (zA w) st t
/-- a method does f -/
def CT (w : Wd) (l : Launch) (y : MethodName) (bytes : ByteArray) (maxL : Nat) (ret : Option FieldType) (rm : Room) (f : Ex) : Prop :=
  ∀ vs g o g', f vs g = some (.inl o, g') → Met l y (Cond.code y bytes maxL ret :: zW) rm (zPc w vs g) (zQ w o g') rm.cells rm.slots (zA w)
/-- a method of an object of class ci -/
def zrv (ci : Nat) (f : Ex) : Ex := fun vs g => match vs with
  | .ref a :: As => match g.1 a with
    | some (.inr (cj, _)) => if cj = ci then f (.ref a :: As) g else none
    | _ => none
  | _ => none
theorem CT.rv {w : Wd} {l : Launch} {y : MethodName} {bytes : ByteArray} {maxL : Nat} {ret : Option FieldType} {rm : Room} {f : Ex} (ci : Nat) (h : CT w l y bytes maxL ret rm f) : CT w l y bytes maxL ret rm (zrv ci f) := by
  intro vs g o g' hf
  unfold zrv at hf
  split at hf
  · split at hf
    · split at hf
      · exact h _ _ _ _ hf
      · cases hf
    · cases hf
  · cases hf
theorem KK.same {w : Wd} {u U : State} (hvm : u.vm = U.vm) (hh : u.heap = U.heap) (h : KK w u) : KK w U :=
  ⟨va_K.moved (by rw [hvm]; exact Vm.Alike.refl _) h.1, fun k a hk => ⟨(h.2.1 k a hk).1, va_T.kept (va_T.moved (by rw [hvm]; exact Vm.Alike.refl _) (h.2.1 k a hk).2) (fun q _ _ => by rw [hh])⟩, fun k hk => va_Z.kept (va_Z.moved (by rw [hvm]; exact Vm.Alike.refl _) (h.2.2.1 k hk)) (fun q _ _ => by rw [hh]), fun x hx => va_Nw.same (by
    simp only [zN, List.mem_cons, List.not_mem_nil, or_false] at hx
    rcases hx with rfl | rfl | rfl | rfl | rfl <;> rfl) hvm (h.2.2.2.1 x hx), h.2.2.2.2.moved (by rw [hvm]; exact Vm.Alike.refl _)⟩
theorem zPc_blind {w : Wd} {vs : List Value} {g : G} : FrameBlind (zPc w vs g) := fun a U gg mk h => ⟨h.1, KK.same (u := U) (U := U.calling gg mk a) rfl rfl h.2.1, h.2.2⟩
theorem zsl_get {w : Wd} : ∀ (vs : List Value) (k i : Nat) (v : Value), (zsl vs)[i]? = some (some v) → (k + i, ztv w v) ∈ lv_args k (vs.map (ztv w))
  | [], k, i, v, h => by cases h
  | u :: r, k, i, v, h => by
    have key1 : u.category ≠ 2 → zsl (u :: r) = some u :: zsl r := fun hc => by cases u <;> first | rfl | exact absurd rfl hc
    have key2 : u.category = 2 → zsl (u :: r) = some u :: none :: zsl r := fun hc => by cases u <;> first | rfl | cases hc
    simp only [List.map_cons, lv_args, ztv_cat]
    by_cases hc : u.category = 2
    · rw [key2 hc] at h
      rw [if_pos hc]
      match i, h with
      | 0, h => cases h; exact List.mem_cons_self
      | 1, h => cases h
      | i + 2, h =>
        refine List.mem_cons_of_mem _ ?_
        have h1 := zsl_get (w := w) r (k + 2) i v h
        rwa [show k + 2 + i = k + (i + 2) by omega] at h1
    · rw [key1 hc] at h
      rw [if_neg hc]
      match i, h with
      | 0, h => cases h; exact List.mem_cons_self
      | i + 1, h =>
        refine List.mem_cons_of_mem _ ?_
        have h1 := zsl_get (w := w) r (k + 1) i v h
        rwa [show k + 1 + i = k + (i + 1) by omega] at h1
theorem zsl_len {w : Wd} : ∀ vs : List Value, (lg_sl (vs.map (ztv w))).length = (zsl vs).length
  | [] => rfl
  | u :: r => by
    have ih := zsl_len (w := w) r
    cases u <;> simp [lg_sl, zsl, ztv, Value.category] at ih ⊢ <;> omega
/-- does no argument take two words -/
def zc1 : List Value → Bool
  | [] => true
  | .long _ :: _ => false
  | .double _ :: _ => false
  | _ :: r => zc1 r
theorem zc1_get : ∀ {vs : List Value} {i : Nat} {v : Value}, zc1 vs = true → (zsl vs)[i]? = some (some v) → v.category = 1
  | [], i, v, _, h => by cases h
  | u :: r, i, v, hc, h => by
    cases u <;> first
      | (cases hc; done)
      | (match i, h with
         | 0, h => (cases h; rfl)
         | i + 1, h => exact zc1_get (vs := r) hc h)
def exb (b : Bool) (n : Nat) (d : Dn) : Ex := fun vs g => match b, zc1 vs with
  | true, false => none
  | _, _ => exm n d vs g
section
variable {w : Wd} {b : Bool} {p : Program} {l : Launch} {e : Jvm.Env} {R : Room} {s : State} {m : MethodId} {args : Array Value} {below : List Frame} {meth : Method} {c : Code} {Q : State → Prop} {cc : ByteArray} {n cs ss pc : Nat} {own : String} {E : Env}
variable {L : List (Option Value)} {S : List Value} {g g' : G} {st st' : St} {o : Option Value} {H : Heap} {locs : List Loc}
theorem zentry {vs : List Value} (hlen : (zsl vs).length ≤ n) (hb : b = true → zc1 vs = true) : LvR w b ((lg_sl (vs.map (ztv w)) ++ List.replicate (n - (lg_sl (vs.map (ztv w))).length) Slot.unset).toArray) (zpad n (zsl vs)) := by
  have h0 := lv_entry (vs.map (ztv w)) (n := n) (by rw [zsl_len]; exact hlen)
  have key : ∀ (i : Nat) (v : Value), (zpad n (zsl vs))[i]? = some (some v) → (zsl vs)[i]? = some (some v) := by
    intro i v hv
    unfold zpad at hv
    by_cases hi : i < (zsl vs).length
    · rwa [List.getElem?_append_left hi] at hv
    · rw [List.getElem?_append_right (by omega), List.getElem?_replicate] at hv
      split at hv <;> cases hv
  refine ⟨h0.2.1, ?_, fun i v hv => ?_, fun hbt i v hv => zc1_get (hb hbt) (key i v hv)⟩
  · rw [h0.1]; simp [zpad]; omega
  · have h1 := zsl_get (w := w) vs 0 i v (key i v hv)
    rw [Nat.zero_add] at h1
    exact h0.2.2 _ h1
abbrev zK (w : Wd) (b : Bool) (p : Program) (l : Launch) (e : Jvm.Env) (R : Room) (s : State) (m : MethodId) (args : Array Value) (below : List Frame) (meth : Method) (c : Code) (Q : State → Prop) (n : Nat) : Kp := Kn w b p l e R s m args below meth c Q n
/-- what is known at a method's entry -/
def MX (w : Wd) (p : Program) (s : State) (m : MethodId) (args : Array Value) (meth : Method) (c : Code) (y : MethodName) (cc : ByteArray) (n : Nat) (ret : Option FieldType) : Prop :=
  CX w p s m args c cc n y.cls ∧ meth.sig.returnType = ret ∧ meth.locks = false ∧ meth.name = y.name
theorem ct_of {y : MethodName} {ret : Option FieldType} {rm : Room} {d : Dn} {pe : Nat} (hy : plainName y.cls = true)
    (body : ∀ (p : Program) (e : Jvm.Env) (s : State) (m : MethodId) (args : Array Value) (below : List Frame) (meth : Method) (c : Code) (o : Option Value) (g' : G), MX w p s m args meth c y cc n ret →
      Sn (zK w b p l e rm s m args below meth c (MQ below (zQ w o g') args s rm.cells rm.slots (zA w)) n) (fun o1 g1 => o1 = .inl o ∧ g1 = g') (fun _ => False) (fun _ => False) 0 0 0 d rm.cells rm.slots pe) : CT w l y cc n ret rm (exb b n d) := by
  intro vs g o g' hf
  have hf2 : exm n d vs g = some (.inl o, g') ∧ (b = true → zc1 vs = true) := by
    unfold exb at hf
    split at hf
    · cases hf
    · rename_i hne
      refine ⟨hf, fun hb => ?_⟩
      cases hz : zc1 vs with
      | true => rfl
      | false => exact absurd hz (hne hb)
  obtain ⟨hf, hb1⟩ := hf2
  unfold exm at hf
  split at hf
  · rename_i hlen
    refine Met.ofW (cc := cc) (maxL := n) (ret := ret) hy rfl ?_
    intro p e s m args below meth c s₁ B hml hv
    obtain ⟨rfl, hK, hG⟩ := hv
    have hts := atoms_spec (ws := Cond.code y cc n ret :: zW) B.pre
    have hown : s.vm.findClass y.cls = some m.cls := findClass_of_methodNamed B.named
    have cx : CX w p s m (vs.map (ztv w)).toArray c cc n y.cls := ⟨B.exec, B.bytes, hml, hown, fun x hx hg => hts x (List.mem_cons_of_mem _ (List.mem_filter.mpr ⟨hx, hg⟩)), hK⟩
    have hsn := body p e s m (vs.map (ztv w)).toArray below meth c o g' ⟨cx, B.returns, B.notSynchronized, (name_of_methodNamed B.named B.method).1⟩ (zpad n (zsl vs), [], g)
    split at hf
    · rename_i x hx
      cases hf
      rw [hx] at hsn
      have k := hsn ⟨rfl, rfl⟩
      rw [lg_entry_eq]
      exact k (by simp [zpad]; omega) s.heap [] _ (zentry hlen hb1) hG va_S.rf
    · cases hf
  · cases hf
-- the ends
abbrev zQok (w : Wd) (p : Program) (l : Launch) (e : Jvm.Env) (R : Room) (s : State) (m : MethodId) (args : Array Value) (below : List Frame) (meth : Method) (c : Code) (Q : State → Prop) (mc ms : Nat) (F : Out → G → Prop) : Prop :=
  ∀ (o1 : Option Value) (g1 : G), F (.inl o1) g1 → ∀ (H : Heap) (locs : List Loc) (g : JFrame), W p l e R s m args below meth c H locs mc ms (MQ below (zQ w o1 g1) args s mc ms (zA w)) g → W p l e R s m args below meth c H locs mc ms Q g
theorem zQok_plain {mc ms : Nat} : zQok w p l e R s m args below meth c (MQ below (zQ w o g') args s mc ms (zA w)) mc ms (fun o1 g1 => o1 = .inl o ∧ g1 = g') := by
  intro o1 g1 hF H locs g k
  obtain ⟨e1, rfl⟩ := hF
  cases e1
  exact k
theorem sn_rti {F : Out → G → Prop} {kb kc : St → Prop} {is : List Instr} {p1 c1 s1 pe mc ms : Nat} (hQ : zQok w p l e R s m args below meth c Q mc ms F)
    (cx : CX w p s m args c cc n own) (hr : meth.sig.returnType = some .int) (hlk : meth.locks = false) (hrun : ∀ st st', runI E is st = some st' → zK w b p l e R s m args below meth c Q n cs ss p1 st' → zK w b p l e R s m args below meth c Q n cs ss pc st) (hd : decode cc p1 = .ok (.ireturn, 1)) (hc : cs ≤ mc) (hs : ss ≤ ms) :
    Sn (zK w b p l e R s m args below meth c Q n) F kb kc cs ss pc (rti E is) c1 s1 pe := by
  have key : ∀ (st : St) (x : Out × G), rti E is st = some (.inr (.inr (.inr x))) → F x.1 x.2 → zK w b p l e R s m args below meth c Q n cs ss pc st := by
    intro st x hx hf
    unfold rti at hx
    split at hx
    · rename_i L1 y g1 hrr
      cases hx
      refine hrun _ _ hrr (fun hn H locs ls hL hG hS => ?_)
      refine W.widen hc hs (hQ _ _ hf H locs _ ?_)
      exact W.iret cx.hx cx.hb hr (fun t ht hW => ⟨⟨rfl, by rw [ht]; exact hG⟩, hS.F ht⟩) hS.2.2 hd
    · cases hx
  intro st
  have k := key st
  cases hr : rti E is st with
  | none => trivial
  | some r =>
    rcases r with r | r | r | x
    · exfalso; unfold rti at hr; split at hr <;> (try split at hr) <;> cases hr
    · exfalso; unfold rti at hr; split at hr <;> (try split at hr) <;> cases hr
    · exfalso; unfold rti at hr; split at hr <;> (try split at hr) <;> cases hr
    · exact k x hr
theorem sn_rtz {F : Out → G → Prop} {kb kc : St → Prop} {is : List Instr} {p1 c1 s1 pe mc ms : Nat} (hQ : zQok w p l e R s m args below meth c Q mc ms F)
    (cx : CX w p s m args c cc n own) (hr : meth.sig.returnType = some .boolean) (hlk : meth.locks = false) (hrun : ∀ st st', runI E is st = some st' → zK w b p l e R s m args below meth c Q n cs ss p1 st' → zK w b p l e R s m args below meth c Q n cs ss pc st) (hd : decode cc p1 = .ok (.ireturn, 1)) (hc : cs ≤ mc) (hs : ss ≤ ms) :
    Sn (zK w b p l e R s m args below meth c Q n) F kb kc cs ss pc (rtz E is) c1 s1 pe := by
  have key : ∀ (st : St) (x : Out × G), rtz E is st = some (.inr (.inr (.inr x))) → F x.1 x.2 → zK w b p l e R s m args below meth c Q n cs ss pc st := by
    intro st x hx hf
    unfold rtz at hx
    split at hx
    · rename_i L1 y g1 hrr
      split at hx
      · rename_i h01
        cases hx
        refine hrun _ _ hrr (fun hn H locs ls hL hG hS => ?_)
        refine W.widen hc hs (hQ _ _ hf H locs _ ?_)
        exact W.zret cx.hx cx.hb hr (by rcases h01 with rfl | rfl <;> rfl) (fun t ht hW => ⟨⟨rfl, by rw [ht]; exact hG⟩, hS.F ht⟩) hS.2.2 hd
      · cases hx
    · cases hx
  intro st
  have k := key st
  cases hr : rtz E is st with
  | none => trivial
  | some r =>
    rcases r with r | r | r | x
    · exfalso; unfold rtz at hr; split at hr <;> (try split at hr) <;> cases hr
    · exfalso; unfold rtz at hr; split at hr <;> (try split at hr) <;> cases hr
    · exfalso; unfold rtz at hr; split at hr <;> (try split at hr) <;> cases hr
    · exact k x hr
theorem sn_rtl {F : Out → G → Prop} {kb kc : St → Prop} {is : List Instr} {p1 c1 s1 pe mc ms : Nat} (hQ : zQok w p l e R s m args below meth c Q mc ms F)
    (cx : CX w p s m args c cc n own) (hr : meth.sig.returnType = some .long) (hlk : meth.locks = false) (hrun : ∀ st st', runI E is st = some st' → zK w b p l e R s m args below meth c Q n cs ss p1 st' → zK w b p l e R s m args below meth c Q n cs ss pc st) (hd : decode cc p1 = .ok (.lreturn, 1)) (hc : cs ≤ mc) (hs : ss ≤ ms) :
    Sn (zK w b p l e R s m args below meth c Q n) F kb kc cs ss pc (rtl E is) c1 s1 pe := by
  have key : ∀ (st : St) (x : Out × G), rtl E is st = some (.inr (.inr (.inr x))) → F x.1 x.2 → zK w b p l e R s m args below meth c Q n cs ss pc st := by
    intro st x hx hf
    unfold rtl at hx
    split at hx
    · rename_i L1 y g1 hrr
      cases hx
      refine hrun _ _ hrr (fun hn H locs ls hL hG hS => ?_)
      refine W.widen hc hs (hQ _ _ hf H locs _ ?_)
      exact W.lret cx.hx cx.hb hr (fun t ht hW => ⟨⟨rfl, by rw [ht]; exact hG⟩, hS.F ht⟩) hS.2.2 hd
    · cases hx
  intro st
  have k := key st
  cases hr : rtl E is st with
  | none => trivial
  | some r =>
    rcases r with r | r | r | x
    · exfalso; unfold rtl at hr; split at hr <;> (try split at hr) <;> cases hr
    · exfalso; unfold rtl at hr; split at hr <;> (try split at hr) <;> cases hr
    · exfalso; unfold rtl at hr; split at hr <;> (try split at hr) <;> cases hr
    · exact k x hr
theorem sn_rtd {F : Out → G → Prop} {kb kc : St → Prop} {is : List Instr} {p1 c1 s1 pe mc ms : Nat} (hQ : zQok w p l e R s m args below meth c Q mc ms F)
    (cx : CX w p s m args c cc n own) (hr : meth.sig.returnType = some .double) (hlk : meth.locks = false) (hrun : ∀ st st', runI E is st = some st' → zK w b p l e R s m args below meth c Q n cs ss p1 st' → zK w b p l e R s m args below meth c Q n cs ss pc st) (hd : decode cc p1 = .ok (.dreturn, 1)) (hc : cs ≤ mc) (hs : ss ≤ ms) :
    Sn (zK w b p l e R s m args below meth c Q n) F kb kc cs ss pc (rtd E is) c1 s1 pe := by
  have key : ∀ (st : St) (x : Out × G), rtd E is st = some (.inr (.inr (.inr x))) → F x.1 x.2 → zK w b p l e R s m args below meth c Q n cs ss pc st := by
    intro st x hx hf
    unfold rtd at hx
    split at hx
    · rename_i L1 y g1 hrr
      cases hx
      refine hrun _ _ hrr (fun hn H locs ls hL hG hS => ?_)
      refine W.widen hc hs (hQ _ _ hf H locs _ ?_)
      exact W.dret cx.hx cx.hb hr (fun t ht hW => ⟨⟨rfl, by rw [ht]; exact hG⟩, hS.F ht⟩) hS.2.2 hd
    · cases hx
  intro st
  have k := key st
  cases hr : rtd E is st with
  | none => trivial
  | some r =>
    rcases r with r | r | r | x
    · exfalso; unfold rtd at hr; split at hr <;> (try split at hr) <;> cases hr
    · exfalso; unfold rtd at hr; split at hr <;> (try split at hr) <;> cases hr
    · exfalso; unfold rtd at hr; split at hr <;> (try split at hr) <;> cases hr
    · exact k x hr
theorem sn_rtv {F : Out → G → Prop} {kb kc : St → Prop} {is : List Instr} {p1 c1 s1 pe mc ms : Nat} (hQ : zQok w p l e R s m args below meth c Q mc ms F)
    (cx : CX w p s m args c cc n own) (hr : meth.sig.returnType = none) (hlk : meth.locks = false) (hrun : ∀ st st', runI E is st = some st' → zK w b p l e R s m args below meth c Q n cs ss p1 st' → zK w b p l e R s m args below meth c Q n cs ss pc st) (hd : decode cc p1 = .ok (.return_, 1)) (hc : cs ≤ mc) (hs : ss ≤ ms) :
    Sn (zK w b p l e R s m args below meth c Q n) F kb kc cs ss pc (rtv E is) c1 s1 pe := by
  have key : ∀ (st : St) (x : Out × G), rtv E is st = some (.inr (.inr (.inr x))) → F x.1 x.2 → zK w b p l e R s m args below meth c Q n cs ss pc st := by
    intro st x hx hf
    unfold rtv at hx
    split at hx
    · rename_i L1 g1 hrr
      cases hx
      refine hrun _ _ hrr (fun hn H locs ls hL hG hS => ?_)
      refine W.widen hc hs (hQ _ _ hf H locs _ ?_)
      exact W.vret cx.hx cx.hb hr (fun t ht hW => ⟨⟨rfl, by rw [ht]; exact hG⟩, hS.F ht⟩) hS.2.2 hd
    · cases hx
  intro st
  have k := key st
  cases hr : rtv E is st with
  | none => trivial
  | some r =>
    rcases r with r | r | r | x
    · exfalso; unfold rtv at hr; split at hr <;> (try split at hr) <;> cases hr
    · exfalso; unfold rtv at hr; split at hr <;> (try split at hr) <;> cases hr
    · exfalso; unfold rtv at hr; split at hr <;> (try split at hr) <;> cases hr
    · exact k x hr
theorem sn_rta {nmR : String} {F : Out → G → Prop} {kb kc : St → Prop} {is : List Instr} {p1 c1 s1 pe mc ms : Nat} (hQ : zQok w p l e R s m args below meth c Q mc ms F)
    (cx : CX w p s m args c cc n own) (hr : meth.sig.returnType = some (.object nmR)) (hlk : meth.locks = false) (hrun : ∀ st st', runI E is st = some st' → zK w b p l e R s m args below meth c Q n cs ss p1 st' → zK w b p l e R s m args below meth c Q n cs ss pc st) (hd : decode cc p1 = .ok (.areturn, 1)) (hc : cs ≤ mc) (hs : ss ≤ ms) :
    Sn (zK w b p l e R s m args below meth c Q n) F kb kc cs ss pc (rta E is) c1 s1 pe := by
  have key : ∀ (st : St) (x : Out × G), rta E is st = some (.inr (.inr (.inr x))) → F x.1 x.2 → zK w b p l e R s m args below meth c Q n cs ss pc st := by
    intro st x hx hf
    unfold rta at hx
    split at hx
    · rename_i L1 y g1 hrr
      cases hx
      refine hrun _ _ hrr (fun hn H locs ls hL hG hS => ?_)
      refine W.widen hc hs (hQ _ _ hf H locs _ ?_)
      exact W.aret cx.hx cx.hb hr (Or.inl ⟨_, rfl⟩) (Or.inr ⟨_, rfl⟩) (fun t ht hW => ⟨⟨rfl, by rw [ht]; exact hG⟩, hS.F ht⟩) hS.2.2 hd
    · rename_i L1 g1 hrr
      cases hx
      refine hrun _ _ hrr (fun hn H locs ls hL hG hS => ?_)
      refine W.widen hc hs (hQ _ _ hf H locs _ ?_)
      exact W.aret cx.hx cx.hb hr (Or.inl ⟨_, rfl⟩) (Or.inl rfl) (fun t ht hW => ⟨⟨rfl, by rw [ht]; exact hG⟩, hS.F ht⟩) hS.2.2 hd
    · cases hx
  intro st
  have k := key st
  cases hr : rta E is st with
  | none => trivial
  | some r =>
    rcases r with r | r | r | x
    · exfalso; unfold rta at hr; split at hr <;> (try split at hr) <;> cases hr
    · exfalso; unfold rta at hr; split at hr <;> (try split at hr) <;> cases hr
    · exfalso; unfold rta at hr; split at hr <;> (try split at hr) <;> cases hr
    · exact k x hr
end
end
section
/-! ===== jumps, switches, new cells ===== -/
def swt (x : Int32) : List (Int32 × Nat) → Nat → Nat
  | [], d => d
  | (k, p) :: r, d => if x = k then p else swt x r d
theorem swt_spec {x : Int32} : ∀ {tl : List (Int32 × Nat)} {d : Nat}, (∃ q ∈ tl, q.1 = x ∧ swt x tl d = q.2) ∨ ((∀ q ∈ tl, q.1 ≠ x) ∧ swt x tl d = d)
  | [], d => Or.inr ⟨fun q h => absurd h List.not_mem_nil, rfl⟩
  | (k, p) :: r, d => by
    unfold swt
    by_cases hx : x = k
    · exact Or.inl ⟨(k, p), List.mem_cons_self, hx.symm, by rw [if_pos hx]⟩
    · rw [if_neg hx]
      rcases swt_spec (x := x) (tl := r) (d := d) with ⟨q, h1, h2, h3⟩ | ⟨h1, h2⟩
      · exact Or.inl ⟨q, List.mem_cons_of_mem _ h1, h2, h3⟩
      · exact Or.inr ⟨fun q hq => by
          rcases List.mem_cons.mp hq with rfl | hq
          · exact fun e => hx e.symm
          · exact h1 q hq, h2⟩
def zsw (cc : ByteArray) (pc : Nat) (tl : List (Int32 × Nat)) (pd : Nat) : Bool := match decode cc pc with
  | .ok (.tableswitch d lo hi offs, _) => decide ((pc : Int) + d = (pd : Int)) && (tl.all (fun q => decide (lo ≤ q.1.toInt) && (decide (q.1.toInt ≤ hi) && match offs[(q.1.toInt - lo).toNat]? with
      | some o => decide ((pc : Int) + o = (q.2 : Int))
      | none => false)) && (List.range (hi - lo + 1).toNat).all (fun i => tl.any (fun q => decide (q.1.toInt = lo + (i : Int))) || match offs[i]? with
      | some o => decide ((pc : Int) + o = (pd : Int))
      | none => false))
  | .ok (.lookupswitch d ps, _) => decide ((pc : Int) + d = (pd : Int)) && ((ps.toList.zip (ps.toList.drop 1)).all (fun (a, next) => a.1 < next.1) && (tl.all (fun q => decide ((pc : Int) + Op.lookupswitch.offset ps.toList d q.1.toInt = (q.2 : Int))) && ps.toList.all (fun r => tl.any (fun q => decide (q.1.toInt = r.1)))))
  | _ => false
theorem zoffset_none {d v : Int} : ∀ {l : List (Int × Int)}, (∀ r ∈ l, r.1 ≠ v) → Op.lookupswitch.offset l d v = d
  | [], _ => rfl
  | (a, o) :: r, h => by
    rw [Op.lookupswitch.offset_cons, if_neg (h (a, o) List.mem_cons_self)]
    exact zoffset_none fun q hq => h q (List.mem_cons_of_mem _ hq)
def SwL (K : Kp) (F : Out → G → Prop) (kb kc : St → Prop) (c0 s0 c1 s1 pe : Nat) : List (Int32 × Nat) → List (Int32 × Dn) → Prop
  | [], [] => True
  | (k, p) :: tl, (j, a) :: cl => k = j ∧ Sn K F kb kc c0 s0 p a c1 s1 pe ∧ SwL K F kb kc c0 s0 c1 s1 pe tl cl
  | _, _ => False
theorem swl_ok {K : Kp} {F : Out → G → Prop} {kb kc : St → Prop} {c0 s0 c1 s1 pe pd : Nat} {d : Dn} {x : Int32} (hd : Sn K F kb kc c0 s0 pd d c1 s1 pe) : ∀ {tl : List (Int32 × Nat)} {cl : List (Int32 × Dn)}, SwL K F kb kc c0 s0 c1 s1 pe tl cl → Sn K F kb kc c0 s0 (swt x tl pd) (swg x cl d) c1 s1 pe
  | [], [], _ => hd
  | (k, p) :: tl, (j, a) :: cl, h => by
    obtain ⟨rfl, h2, h3⟩ := h
    unfold swt swg
    by_cases hx : x = k
    · rw [if_pos hx, if_pos hx]; exact h2
    · rw [if_neg hx, if_neg hx]; exact swl_ok hd h3
  | [], _ :: _, h => h.elim
  | _ :: _, [], h => h.elim
theorem sn_sw {K : Kp} {F : Out → G → Prop} {kb kc : St → Prop} {c0 s0 c1 s1 pe pd pc : Nat} {E : Env} {is : List Instr} {cl : List (Int32 × Dn)} {d : Dn} (tl : List (Int32 × Nat)) (h : ∀ st L x S g, runI E is st = some (L, .int x :: S, g) → K c0 s0 (swt x tl pd) (L, S, g) → K c0 s0 pc st) (hs : SwL K F kb kc c0 s0 c1 s1 pe tl cl) (hd : Sn K F kb kc c0 s0 pd d c1 s1 pe) : Sn K F kb kc c0 s0 pc (swi E is cl d) c1 s1 pe := by
  intro st
  unfold swi
  cases hr : runI E is st with
  | none => trivial
  | some st' =>
    obtain ⟨L, S, g⟩ := st'
    cases S with
    | nil => trivial
    | cons v S =>
      cases v with
      | int x =>
        dsimp only
        have h2 := swl_ok (x := x) hd hs (L, S, g)
        cases hr2 : swg x cl d (L, S, g) with
        | none => trivial
        | some r2 =>
          rw [hr2] at h2
          rcases r2 with st2 | st2 | st2 | x2
          · exact fun k => h _ _ _ _ _ hr (h2 k)
          · exact fun k => h _ _ _ _ _ hr (h2 k)
          · exact fun k => h _ _ _ _ _ hr (h2 k)
          · exact fun k => h _ _ _ _ _ hr (h2 k)
      | _ => trivial
/-- what a new object of a class holds -/
def zdf (ci : Nat) : List Value := match ci with
  | 0 => [.null]
  | 1 => [.int 0, .null]
  | 2 => [.null, .null, .null, .null, .null, .int 0, .int 0, .int 0]
  | 3 => [.null, .int 0, .int 0]
  | 4 => [.int 0, .int 0, .int 0, .int 0, .int 0]
  | 5 => [.null, .null, .null, .null, .null, .int 0]
  | _ => [.null, .null, .null, .int 0, .null, .int 0, .int 0, .int 0, .int 0, .null, .int 0]
theorem zdf_ok : ∀ ci, ci < 7 → ∀ j, j < ((zcl[ci]?).getD ("", F_Row, 0)).2.2 → defaultValue (zty ci j) = vp_V (zdf ci) j := by decide +kernel
theorem zdf_tv {w : Wd} (ci : Nat) : (zdf ci).map (ztv w) = zdf ci := by
  unfold zdf
  split <;> rfl
def newO (ci : Nat) : Dn := fun (L, S, g) => if g.2 = 0 then none else nm (L, .ref g.2 :: S, (zup g.1 g.2 (cO ci (zdf ci)), g.2 + 1))
def newI (N : Nat) : Dn := fun (L, S, g) => if g.2 = 0 then none else match S with
  | .int x :: S => if x = nI N then nm (L, .ref g.2 :: S, (zup g.1 g.2 (cI N (fun _ => 0)), g.2 + 1)) else none
  | _ => none
def newJ (N : Nat) : Dn := fun (L, S, g) => if g.2 = 0 then none else match S with
  | .int x :: S => if x = nI N then nm (L, .ref g.2 :: S, (zup g.1 g.2 (cJ N (fun _ => 0)), g.2 + 1)) else none
  | _ => none
def newR (N : Nat) : Dn := fun (L, S, g) => if g.2 = 0 then none else match S with
  | .int x :: S => if x = nI N then nm (L, .ref g.2 :: S, (zup g.1 g.2 (cR N (fun _ => none)), g.2 + 1)) else none
  | _ => none
section
variable {w : Wd} {b : Bool} {p : Program} {l : Launch} {e : Jvm.Env} {R : Room} {s : State} {m : MethodId} {args : Array Value} {below : List Frame} {meth : Method} {c : Code} {Q : State → Prop} {cc : ByteArray} {n cs ss pc : Nat} {own : String} {E : Env}
variable {L : List (Option Value)} {S : List Value} {g g' : G} {st st' : St} {o : Option Value} {H : Heap} {locs : List Loc}
theorem zj_sound {j : Instr} {S S' : List Value} {t : Bool} {tgt : Nat} (cx : CX w p s m args c cc n own) (hd : decode cc pc = .ok (j, 3)) (ht : (pc : Int) + zoff j = (tgt : Int)) (hz : zcj j S = some (t, S'))
    (kt : t = true → zK w b p l e R s m args below meth c Q n cs ss tgt (L, S', g)) (kf : t = false → zK w b p l e R s m args below meth c Q n cs ss (pc + 3) (L, S', g)) : zK w b p l e R s m args below meth c Q n cs ss pc (L, S, g) := by
  unfold zcj at hz
  split at hz
  · cases hz
    exact fun hn H locs ls hL hG hS => lv_icmp_eq cx.hx cx.hb hd ht (fun h => kt (decide_eq_true h) hn H locs ls hL hG hS) (fun h => kf (decide_eq_false h) hn H locs ls hL hG hS)
  · cases hz
    exact fun hn H locs ls hL hG hS => lv_icmp_ne cx.hx cx.hb hd ht (fun h => kt (decide_eq_true h) hn H locs ls hL hG hS) (fun h => kf (decide_eq_false (fun q => q h)) hn H locs ls hL hG hS)
  · cases hz
    exact fun hn H locs ls hL hG hS => lv_icmp_lt cx.hx cx.hb hd ht (fun h => kt (decide_eq_true h) hn H locs ls hL hG hS) (fun h => kf (decide_eq_false h) hn H locs ls hL hG hS)
  · cases hz
    exact fun hn H locs ls hL hG hS => lv_icmp_ge cx.hx cx.hb hd ht (fun h => kt (decide_eq_true h) hn H locs ls hL hG hS) (fun h => kf (decide_eq_false h) hn H locs ls hL hG hS)
  · cases hz
    exact fun hn H locs ls hL hG hS => lv_icmp_gt cx.hx cx.hb hd ht (fun h => kt (decide_eq_true h) hn H locs ls hL hG hS) (fun h => kf (decide_eq_false h) hn H locs ls hL hG hS)
  · cases hz
    exact fun hn H locs ls hL hG hS => lv_icmp_le cx.hx cx.hb hd ht (fun h => kt (decide_eq_true h) hn H locs ls hL hG hS) (fun h => kf (decide_eq_false h) hn H locs ls hL hG hS)
  · cases hz
    exact fun hn H locs ls hL hG hS => lv_if_eq cx.hx cx.hb hd ht (fun h => kt (decide_eq_true h) hn H locs ls hL hG hS) (fun h => kf (decide_eq_false h) hn H locs ls hL hG hS)
  · cases hz
    exact fun hn H locs ls hL hG hS => lv_if_ne cx.hx cx.hb hd ht (fun h => kt (decide_eq_true h) hn H locs ls hL hG hS) (fun h => kf (decide_eq_false (fun q => q h)) hn H locs ls hL hG hS)
  · cases hz
    exact fun hn H locs ls hL hG hS => lv_if_lt cx.hx cx.hb hd ht (fun h => kt (decide_eq_true h) hn H locs ls hL hG hS) (fun h => kf (decide_eq_false h) hn H locs ls hL hG hS)
  · cases hz
    exact fun hn H locs ls hL hG hS => lv_if_ge cx.hx cx.hb hd ht (fun h => kt (decide_eq_true h) hn H locs ls hL hG hS) (fun h => kf (decide_eq_false h) hn H locs ls hL hG hS)
  · cases hz
    exact fun hn H locs ls hL hG hS => lv_if_gt cx.hx cx.hb hd ht (fun h => kt (decide_eq_true h) hn H locs ls hL hG hS) (fun h => kf (decide_eq_false h) hn H locs ls hL hG hS)
  · cases hz
    exact fun hn H locs ls hL hG hS => lv_if_le cx.hx cx.hb hd ht (fun h => kt (decide_eq_true h) hn H locs ls hL hG hS) (fun h => kf (decide_eq_false h) hn H locs ls hL hG hS)
  · cases hz
    exact fun hn H locs ls hL hG hS => lv_ifnull cx.hx cx.hb hd (kf rfl hn H locs ls hL hG hS)
  · cases hz
    exact fun hn H locs ls hL hG hS => lv_ifnullN cx.hx cx.hb hd ht (kt rfl hn H locs ls hL hG hS)
  · cases hz
theorem sc_cat {is : List Instr} {j : Instr} {p1 tgt : Nat} (cx : CX w p s m args c cc n own) (eo : EnvOk w b p l e R s m args below meth c Q cc n own E) (hR : cs ≤ R.cells ∧ ss ≤ R.slots) (hz : zck cc pc is = some p1) (hd : decode cc p1 = .ok (j, 3)) (ht : (p1 : Int) + zoff j = (tgt : Int)) : Sc (zK w b p l e R s m args below meth c Q n) cs ss pc (cat E is j) tgt (p1 + 3) := by
  intro st
  unfold cat
  cases hr : runI E is st with
  | none => trivial
  | some st' =>
    obtain ⟨L, S, g⟩ := st'
    dsimp only
    cases hj : zcj j S with
    | none => trivial
    | some r =>
      obtain ⟨t, S'⟩ := r
      cases t with
      | true => exact fun k => run_sound cx eo hR is hz hr (zj_sound cx hd ht hj (fun _ => k) (fun h => by cases h))
      | false => exact fun k => run_sound cx eo hR is hz hr (zj_sound cx hd ht hj (fun h => by cases h) (fun _ => k))
theorem k_goto {off : Int} {tgt : Nat} (cx : CX w p s m args c cc n own) (hd : decode cc pc = .ok (.goto off, 3)) (ht : (pc : Int) + off = (tgt : Int)) (st : St) (k : zK w b p l e R s m args below meth c Q n cs ss tgt st) : zK w b p l e R s m args below meth c Q n cs ss pc st :=
  fun hn H locs ls hL hG hS => lv_goto cx.hx cx.hb hd ht (k hn H locs ls hL hG hS)
theorem zforget_len : ∀ (is : List Nat) (L : List (Option Value)), (zforget L is).length = L.length
  | [], _ => rfl
  | i :: is, L => by
    show (zforget (L.set i none) is).length = _
    rw [zforget_len is]; simp
theorem k_fo {is : List Nat} (st : St) (k : zK w b p l e R s m args below meth c Q n cs ss pc (zforget st.1 is, st.2)) : zK w b p l e R s m args below meth c Q n cs ss pc st :=
  fun hn H locs ls hL hG hS => k (by rw [zforget_len]; exact hn) H locs ls (LvR.forget is hL) hG hS
theorem sw_sound {is : List Instr} {p1 pd : Nat} {tl : List (Int32 × Nat)} (cx : CX w p s m args c cc n own) (eo : EnvOk w b p l e R s m args below meth c Q cc n own E) (hR : cs ≤ R.cells ∧ ss ≤ R.slots) (hz : zck cc pc is = some p1) (hd : zsw cc p1 tl pd = true) (st : St) (L : List (Option Value)) (x : Int32) (S : List Value) (g : G) (hr : runI E is st = some (L, .int x :: S, g)) (k : zK w b p l e R s m args below meth c Q n cs ss (swt x tl pd) (L, S, g)) : zK w b p l e R s m args below meth c Q n cs ss pc st := by
  refine run_sound cx eo hR is hz hr (fun hn H locs ls hL hG hS => ?_)
  have k1 := k hn H locs ls hL hG hS
  unfold zsw at hd
  split at hd
  · rename_i d lo hi offs len hdec
    simp only [Bool.and_eq_true, decide_eq_true_eq, List.all_eq_true, List.any_eq_true, Bool.or_eq_true] at hd
    obtain ⟨h1, h2, h3⟩ := hd
    rcases swt_spec (x := x) (tl := tl) (d := pd) with ⟨q, q1, q2, q3⟩ | ⟨q1, q2⟩
    · obtain ⟨a1, a2, a3⟩ := h2 q q1
      split at a3
      · rename_i off ho
        rw [q2] at a1 a2 ho
        rw [q3] at k1
        exact lv_tableIn cx.hx cx.hb hdec (by omega) (by omega) ho (of_decide_eq_true a3) k1
      · cases a3
    · rw [q2] at k1
      by_cases hlo : x.toInt < lo
      · exact lv_tableOut cx.hx cx.hb hdec (Or.inl hlo) h1 k1
      · by_cases hhi : hi < x.toInt
        · exact lv_tableOut cx.hx cx.hb hdec (Or.inr hhi) h1 k1
        · rcases h3 (x.toInt - lo).toNat (List.mem_range.mpr (by omega)) with ⟨q, hq1, hq2⟩ | h4
          · exact absurd (Int32.toInt_inj.mp (by rw [hq2]; omega)) (q1 q hq1)
          · split at h4
            · rename_i off ho
              exact lv_tableIn cx.hx cx.hb hdec hlo hhi ho (of_decide_eq_true h4) k1
            · cases h4
  · rename_i d ps len hdec
    simp only [Bool.and_eq_true, decide_eq_true_eq] at hd
    obtain ⟨h1, h2, h3, h4⟩ := hd
    rw [List.all_eq_true] at h3 h4
    rcases swt_spec (x := x) (tl := tl) (d := pd) with ⟨q, q1, q2, q3⟩ | ⟨q1, q2⟩
    · have a3 := of_decide_eq_true (h3 q q1)
      rw [q2] at a3
      rw [q3] at k1
      exact lv_lookup cx.hx cx.hb hdec h2 rfl a3 k1
    · rw [q2] at k1
      refine lv_lookup cx.hx cx.hb hdec h2 (zoffset_none fun r hr2 e2 => ?_) h1 k1
      obtain ⟨q, hq1, hq2⟩ := List.any_eq_true.mp (h4 r hr2)
      exact q1 q hq1 (Int32.toInt_inj.mp ((of_decide_eq_true hq2).trans e2))
  · cases hd
theorem zad_succ {k : Nat} (h : 4 ≤ k) : zad w (k + 1) = zad w k + 1 := by
  unfold zad; rw [if_neg (by omega), if_neg (by omega)]; omega
theorem RepG.push {H H1 : Heap} {c1 : Cel} (h : RepG w g H) (h0 : g.2 ≠ 0) (hz : H1.size = H.size + 1) (ho : ∀ q : Nat, q < H.size → H1[q]? = H[q]?) (h1 : zat w g.2 c1 H1) : RepG w (zup g.1 g.2 c1, g.2 + 1) H1 := by
  obtain ⟨h4, hsz⟩ := h.2.2 h0
  refine ⟨fun j c2 hj => ?_, by have := h.2.1; omega, fun _ => ⟨by show 4 ≤ g.2 + 1; omega, by show H1.size = zad w (g.2 + 1); rw [hz, hsz, zad_succ h4]⟩⟩
  simp only [zup] at hj
  split at hj
  · rename_i e; subst e; cases hj; exact ⟨h4, h1⟩
  · obtain ⟨a1, a2⟩ := h.1 j c2 hj
    exact ⟨a1, va_at.kept a2 (ho _ a2.lt)⟩
theorem va_S.push' {H0 H H1 : Heap} (h : va_S (zA w) H0 H locs) (hz : H1.size = H.size + 1) (ho : ∀ q : Nat, q < H.size → H1[q]? = H[q]?) : va_S (zA w) H0 H1 locs :=
  ⟨Nat.le_trans h.1 (by omega), fun q h1 h2 => (ho q (Nat.lt_of_lt_of_le h1 h.1)).trans (h.2.1 q h1 h2), h.2.2⟩
theorem sn_newO {F : Out → G → Prop} {kb kc : St → Prop} {index ci N : Nat} {C : String} (cx : CX w p s m args c cc n own) (hd : decode cc pc = .ok (.new index, 3)) (h7 : ci < 7) (hC : ((zcl[ci]?).getD ("", F_Row, 0)).1 = C) (hN : ((zcl[ci]?).getD ("", F_Row, 0)).2.2 = N) (h1 : Cond.classLink own index C ∈ lw_tbl) (h2 : Cond.instantiable C N ∈ lw_tbl) (h3 : Cond.initialized C ∈ lw_tbl) (hc : cs + 1 ≤ R.cells) (hs : ss + N ≤ R.slots) :
    Sn (zK w b p l e R s m args below meth c Q n) F kb kc cs ss pc (newO ci) (cs + 1) (ss + N) (pc + 3) := by
  intro st
  obtain ⟨L, S, g⟩ := st
  unfold newO
  by_cases h0 : g.2 = 0
  · simp only [h0, if_true]
  · simp only [h0, if_false]
    intro k hn H locs ls hL hG hS
    obtain ⟨r, hr⟩ := zcl_at h7
    rw [hr] at hC hN
    obtain ⟨C', T, N'⟩ := r
    dsimp only [Option.getD_some] at hC hN
    subst hC; subst hN
    have hKn := cx.kk.1.1 ci _ hr
    obtain ⟨h4, hsz⟩ := hG.2.2 h0
    refine W.newcK cx.hx cx.hb cx.hown (cx.hts h1 rfl) (cx.hts h2 rfl) (cx.hts h3 rfl) rfl hd hc hs hKn.2.1 hsz fun H1 kC hkC e1 z1 o1 => ?_
    rw [← hsz] at z1 o1
    refine k hn H1 locs ls hL (hG.push h0 z1 o1 ⟨_, hr, ?_⟩) (hS.push' z1 o1)
    have hdf := zdf_ok ci h7
    rw [hr] at hdf
    have h5 := (u_born (zty ci) cx.hall (zlay hr h7) hKn hkC e1 (ztyok hr h7)).to hdf
    show t_OB (zad w g.2) _ _ _ H1 (vp_V ((zdf ci).map (ztv w)))
    rw [zdf_tv]
    exact h5
end
end
section
/-! ===== new arrays; calls ===== -/
section
variable {w : Wd} {b : Bool} {p : Program} {l : Launch} {e : Jvm.Env} {R : Room} {s : State} {m : MethodId} {args : Array Value} {below : List Frame} {meth : Method} {c : Code} {Q : State → Prop} {cc : ByteArray} {n cs ss pc : Nat} {own : String} {E : Env}
variable {L : List (Option Value)} {S : List Value} {g g' : G} {st st' : St} {o : Option Value} {H : Heap} {locs : List Loc}
theorem nI_nn {N : Nat} (h : N < 2 ^ 31) : ¬ nI N < 0 := nI_pos h
theorem sn_newI {F : Out → G → Prop} {kb kc : St → Prop} {N : Nat} (cx : CX w p s m args c cc n own) (hd : decode cc pc = .ok (.newarray .int, 2)) (h1 : Cond.arrayClass .int ∈ lw_tbl) (hN : N < 2 ^ 20) (hc : cs + 1 ≤ R.cells) (hs : ss + N ≤ R.slots) :
    Sn (zK w b p l e R s m args below meth c Q n) F kb kc cs ss pc (newI N) (cs + 1) (ss + N) (pc + 2) := by
  intro st
  obtain ⟨L, S, g⟩ := st
  by_cases h0 : g.2 = 0
  · unfold newI; simp only [h0, if_true]
  · cases S with
    | nil => unfold newI; simp only [h0, if_false]
    | cons v S =>
      cases v with
      | int x =>
        by_cases hx : x = nI N
        · subst hx
          unfold newI; simp only [h0, if_false, if_true]
          intro k hn H locs ls hL hG hS
          obtain ⟨h4, hsz⟩ := hG.2.2 h0
          refine va_newaK (atype := .int) cx.hx cx.hb (cx.hts h1 rfl) rfl hd rfl (nI_nn (by omega)) (nI_clamp (by omega)) (by show N * 4 ≤ _; omega) hc hs hsz fun H1 cA e1 z1 o1 hAr hNm => ?_
          rw [← hsz] at z1 o1
          refine k hn H1 locs ls hL (hG.push h0 z1 o1 ?_) (hS.push' z1 o1)
          have hcA : w.2.2.2.1 0 = cA := Option.some.inj ((cx.kk.1.2 0 _ rfl).2.symm.trans hNm)
          show H1[zad w g.2]? = some (vp_cell (w.2.2.2.1 0) (N, .inl (fun _ => 0)))
          rw [hcA]
          exact e1
        · unfold newI; simp only [h0, if_false, hx]
      | _ => unfold newI; simp only [h0, if_false]
theorem sn_newJ {F : Out → G → Prop} {kb kc : St → Prop} {N : Nat} (cx : CX w p s m args c cc n own) (hd : decode cc pc = .ok (.newarray .long, 2)) (h1 : Cond.arrayClass .long ∈ lw_tbl) (hN : N < 2 ^ 20) (hc : cs + 1 ≤ R.cells) (hs : ss + N ≤ R.slots) :
    Sn (zK w b p l e R s m args below meth c Q n) F kb kc cs ss pc (newJ N) (cs + 1) (ss + N) (pc + 2) := by
  intro st
  obtain ⟨L, S, g⟩ := st
  by_cases h0 : g.2 = 0
  · unfold newJ; simp only [h0, if_true]
  · cases S with
    | nil => unfold newJ; simp only [h0, if_false]
    | cons v S =>
      cases v with
      | int x =>
        by_cases hx : x = nI N
        · subst hx
          unfold newJ; simp only [h0, if_false, if_true]
          intro k hn H locs ls hL hG hS
          obtain ⟨h4, hsz⟩ := hG.2.2 h0
          refine va_newaK (atype := .long) cx.hx cx.hb (cx.hts h1 rfl) rfl hd rfl (nI_nn (by omega)) (nI_clamp (by omega)) (by show N * 8 ≤ _; omega) hc hs hsz fun H1 cA e1 z1 o1 hAr hNm => ?_
          rw [← hsz] at z1 o1
          refine k hn H1 locs ls hL (hG.push h0 z1 o1 ?_) (hS.push' z1 o1)
          have hcA : w.2.2.2.1 1 = cA := Option.some.inj ((cx.kk.1.2 1 _ rfl).2.symm.trans hNm)
          show H1[zad w g.2]? = some (vp_cell (w.2.2.2.1 1) (N, .inr (.inl (fun _ => 0))))
          rw [hcA]
          exact e1
        · unfold newJ; simp only [h0, if_false, hx]
      | _ => unfold newJ; simp only [h0, if_false]
theorem sn_newR {F : Out → G → Prop} {kb kc : St → Prop} {N index : Nat} (cx : CX w p s m args c cc n own) (hd : decode cc pc = .ok (.anewarray index, 3)) (h1 : Cond.classLink own index "CoilSlits$Yard" ∈ lw_tbl) (hN : N < 2 ^ 20) (hc : cs + 1 ≤ R.cells) (hs : ss + N ≤ R.slots) :
    Sn (zK w b p l e R s m args below meth c Q n) F kb kc cs ss pc (newR N) (cs + 1) (ss + N) (pc + 3) := by
  intro st
  obtain ⟨L, S, g⟩ := st
  by_cases h0 : g.2 = 0
  · unfold newR; simp only [h0, if_true]
  · cases S with
    | nil => unfold newR; simp only [h0, if_false]
    | cons v S =>
      cases v with
      | int x =>
        by_cases hx : x = nI N
        · subst hx
          unfold newR; simp only [h0, if_false, if_true]
          intro k hn H locs ls hL hG hS
          obtain ⟨h4, hsz⟩ := hG.2.2 h0
          refine W.anew cx.hx cx.hb cx.hown (cx.hts h1 rfl) (va_AO.use cx.kk.2.2.2.2) rfl hd rfl (nI_nn (by omega)) (by rw [nI_clamp (by omega)]; omega) hc (by rw [nI_clamp (by omega)]; exact hs) fun cA kA comp f1 f2 f3 f4 => ?_
          generalize hH1 : H.push ({ cls := cA, slots := Array.replicate (nI N).toNatClampNeg .null, vm := .none } : Cell) = H1
          have z1 : H1.size = H.size + 1 := by rw [← hH1, Array.size_push]
          have e1 : H1[H.size]? = some (arrV cA N (fun _ => .null)) := by rw [← hH1, Array.getElem?_push_size, ← arrV_new, nI_clamp (by omega)]
          have o1 : ∀ q : Nat, q < H.size → H1[q]? = H[q]? := fun q hq => by rw [← hH1, Array.getElem?_push, if_neg (Nat.ne_of_lt hq)]
          have hcA : w.2.2.2.1 2 = cA := by
            obtain ⟨kA', comp', -, -, -, k4⟩ := (cx.kk.1.2 2 _ rfl).2
            exact Option.some.inj (k4.symm.trans f1)
          have k1 := k hn H1 locs ls hL (hG.push h0 z1 o1 (show zat w g.2 (cR N (fun _ => none)) H1 by
            show H1[zad w g.2]? = some (vp_cell (w.2.2.2.1 2) _)
            rw [hcA, vp_cell_q, ← hsz]
            exact e1)) (hS.push' z1 o1)
          rw [nI_clamp (by omega), hsz]
          exact k1
        · unfold newR; simp only [h0, if_false, hx]
      | _ => unfold newR; simp only [h0, if_false]
/-- behind a call -/
theorem run_then {mc ms : Nat} {args2 : Array Value} {gj : JFrame} {rest : List Value} (hr : va_Run p l e R s m args below meth c H locs cs ss mc ms gj rest (zQ w o g' args2) (zA w)) (hS : va_S (zA w) s.heap H locs)
    (kk : ∀ (H1 : Heap) (locs1 : List Loc), RepG w g' H1 → va_S (zA w) s.heap H1 locs1 → W p l e R s m args below meth c H1 locs1 (cs + mc) (ss + ms) Q { gj with pc := gj.pc + 3, stack := (o.map (ztv w)).toList ++ rest }) : W p l e R s m args below meth c H locs cs ss Q gj := by
  intro T hT X
  obtain ⟨v, st₀, t, T', L, h0, X', hL, e1, e2, ⟨⟨hv, hg⟩, hz, hk⟩, st⟩ := hr T hT X
  cases hv
  rw [h0] at hz hk
  obtain ⟨t2, a1, b1⟩ := kk T'.heap (locs ++ L) (by rw [e1]; exact hg)
    ⟨Nat.le_trans hS.1 (by rw [e1]; exact hz), fun q h1 h2 => by rw [e1, hk q (Nat.lt_of_lt_of_le h1 hS.1) h2]; exact hS.2.1 q h1 h2, fun q hq => by
      rcases List.mem_append.mp hq with h | h
      · exact hS.2.2 q h
      · exact hL q h⟩ T' rfl X'
  exact ⟨t2, st t2 a1, b1⟩
theorem zpre (cx : CX w p s m args c cc n own) {vs : List Value} (hG : RepG w g H) (hS : va_S (zA w) s.heap H locs) : ∀ U : State, U.heap = H → s.WarmedH U.vm → zPc w vs g (vs.map (ztv w)).toArray U := by
  intro U hU hW
  refine ⟨rfl, KK.warm hW (fun a h1 h2 => by rw [hU]; exact hS.2.1 a h1 h2) cx.kk, by rw [hU]; exact hG⟩
theorem zcallB (cx : CX w p s m args c cc n own) {y : MethodName} {bytes : ByteArray} {maxL idx nn : Nat} {ret : Option FieldType} {rm : Room} (hcode : Cond.code y bytes maxL ret ∈ lw_tbl) (hlink : Cond.methodLink own idx y ∈ lw_tbl) (hini : Cond.initialized y.cls ∈ lw_tbl)
    (hd : y.cls ≠ "java/lang/invoke/MethodHandle" ∧ y.cls ≠ "java/lang/invoke/VarHandle" ∧ (parseMethodDescriptor y.desc).map (fun d => d.parameters.length) = some nn) (hR : rm.frames + 1 ≤ R.frames ∧ 8 + (maxL + 11) + rm.locals ≤ R.locals) :
    CallB R s args own idx y bytes maxL ret (Cond.code y bytes maxL ret :: zW) rm rm.cells rm.slots nn :=
  callB_of nn cx.hall (fun x hx => by
    rcases List.mem_cons.mp hx with rfl | hx
    · exact ⟨List.mem_filter.mpr ⟨hcode, rfl⟩, Or.inl rfl⟩
    · exact zW_good x hx) rfl rfl rfl (cx.hts hini rfl) (cx.hts hlink rfl) hd hR
theorem call_V (cx : CX w p s m args c cc n own) {y : MethodName} {bytes : ByteArray} {maxL idx nn ci : Nat} {ret : Option FieldType} {rm : Room} {f : Ex} (hct : CT w l y bytes maxL ret rm f) (hcode : Cond.code y bytes maxL ret ∈ lw_tbl) (hlink : Cond.methodLink own idx y ∈ lw_tbl) (hini : Cond.initialized y.cls ∈ lw_tbl) (hin : Cond.instanceMethod y ∈ lw_tbl) (hsel : Cond.selects y.cls y y ∈ lw_tbl) (h7 : ci < 7) (hci : ((zcl[ci]?).getD ("", F_Row, 0)).1 = y.cls)
    (hd : y.cls ≠ "java/lang/invoke/MethodHandle" ∧ y.cls ≠ "java/lang/invoke/VarHandle" ∧ (parseMethodDescriptor y.desc).map (fun d => d.parameters.length) = some nn) (hR : rm.frames + 1 ≤ R.frames ∧ 8 + (maxL + 11) + rm.locals ≤ R.locals) :
    CallOk w b p l e R s m args below meth c Q cc n rm.cells rm.slots (.invokevirtual idx, nn + 1, zrv ci f) := by
  intro cs ss pc L S vs g g' o hc hs hdg hlen h8 hf k hn H locs ls hL hG hS
  have hf2 := hf
  dsimp only at hf2
  unfold zrv at hf2
  split at hf2
  · rename_i a As
    split at hf2
    · rename_i cj fs hM
      split at hf2
      · rename_i hcj
        subst hcj
        obtain ⟨r, hr⟩ := zcl_at h7
        rw [hr] at hci
        dsimp only [Option.getD_some] at hci
        have hrecv := va_recv cx.kk.1 (hG.one hM) (ci := cj) (q0 := 0) hr rfl
        rw [hci] at hrecv
        have hrun := va_runV (e := e) (below := below) (meth := meth) (As := As.map (ztv w)) (rest := S.map (ztv w)) (g := F0 m pc ls ((((Value.ref a :: As).reverse ++ S)).map (ztv w))) (cells := cs) (slots := ss) (locs := locs) (H := H) ⟨cx.hx, cx.hb, cx.hml, cx.hown, cx.hall⟩ (hct _ _ _ _ hf2) ⟨zcallB cx hcode hlink hini hd hR, cx.hts hin rfl, cx.hts hsel rfl⟩ ⟨zPc_blind, hrecv, zpre cx (vs := .ref a :: As) hG hS⟩ rfl (by simp at hlen ⊢; exact hlen) (by show ls.size = n; rw [hL.2.1]; exact hn) (by show List.map _ _ = _; simp [ztv]) (lv_room (Nat.le_trans (wsum_tv S) h8)) hdg ⟨hc, hs⟩
        refine run_then hrun hS fun H1 locs1 hG1 hS1 => ?_
        have k1 := k hn H1 locs1 ls hL hG1 hS1
        cases o <;> exact k1
      · cases hf2
    · cases hf2
  · cases hf2
theorem call_S (cx : CX w p s m args c cc n own) {y : MethodName} {bytes : ByteArray} {maxL idx nn : Nat} {ret : Option FieldType} {rm : Room} {f : Ex} (hct : CT w l y bytes maxL ret rm f) (hcode : Cond.code y bytes maxL ret ∈ lw_tbl) (hlink : Cond.methodLink own idx y ∈ lw_tbl) (hini : Cond.initialized y.cls ∈ lw_tbl) (hst : Cond.static y ∈ lw_tbl)
    (hd : y.cls ≠ "java/lang/invoke/MethodHandle" ∧ y.cls ≠ "java/lang/invoke/VarHandle" ∧ (parseMethodDescriptor y.desc).map (fun d => d.parameters.length) = some nn) (hR : rm.frames + 1 ≤ R.frames ∧ 8 + (maxL + 11) + rm.locals ≤ R.locals) :
    CallOk w b p l e R s m args below meth c Q cc n rm.cells rm.slots (.invokestatic idx, nn, f) := by
  intro cs ss pc L S vs g g' o hc hs hdg hlen h8 hf k hn H locs ls hL hG hS
  have hrun := va_runS (e := e) (below := below) (meth := meth) (As := vs.map (ztv w)) (rest := S.map (ztv w)) (g := F0 m pc ls ((vs.reverse ++ S).map (ztv w))) (cells := cs) (slots := ss) (locs := locs) (H := H) ⟨cx.hx, cx.hb, cx.hml, cx.hown, cx.hall⟩ (hct _ _ _ _ hf) ⟨zcallB cx hcode hlink hini hd hR, cx.hts hst rfl⟩ ⟨zPc_blind, zpre cx (vs := vs) hG hS⟩ rfl (by simp at hlen ⊢; exact hlen) (by show ls.size = n; rw [hL.2.1]; exact hn) (by show List.map _ _ = _; simp) (lv_room (Nat.le_trans (wsum_tv S) h8)) hdg ⟨hc, hs⟩
  refine run_then hrun hS fun H1 locs1 hG1 hS1 => ?_
  have k1 := k hn H1 locs1 ls hL hG1 hS1
  cases o <;> exact k1
theorem call_SN (cx : CX w p s m args c cc n own) {y : MethodName} {host : String} {bytes : ByteArray} {maxL idx nn : Nat} {ret : Option FieldType} {rm : Room} {f : Ex} (hct : CT w l y bytes maxL ret rm f) (hcode : Cond.code y bytes maxL ret ∈ lw_tbl) (hlink : Cond.methodLinkNest own idx y host ∈ zN) (hini : Cond.initialized y.cls ∈ lw_tbl) (hst : Cond.static y ∈ lw_tbl)
    (hd : y.cls ≠ "java/lang/invoke/MethodHandle" ∧ y.cls ≠ "java/lang/invoke/VarHandle" ∧ (parseMethodDescriptor y.desc).map (fun d => d.parameters.length) = some nn) (hR : rm.frames + 1 ≤ R.frames ∧ 8 + (maxL + 11) + rm.locals ≤ R.locals) :
    CallOk w b p l e R s m args below meth c Q cc n rm.cells rm.slots (.invokestatic idx, nn, f) := by
  intro cs ss pc L S vs g g' o hc hs hdg hlen h8 hf k hn H locs ls hL hG hS
  have hcb := va_cnB (ws := Cond.code y bytes maxL ret :: zW) (rm := rm) nn cx.hall (fun x hx => by
    rcases List.mem_cons.mp hx with rfl | hx
    · exact ⟨List.mem_filter.mpr ⟨hcode, rfl⟩, Or.inl rfl⟩
    · exact zW_good x hx) rfl rfl rfl (cx.kk.2.2.2.1 _ hlink) (cx.hts hini rfl) hd hR
  have hrun := va_runSN (e := e) (below := below) (meth := meth) (As := vs.map (ztv w)) (rest := S.map (ztv w)) (g := F0 m pc ls ((vs.reverse ++ S).map (ztv w))) (cells := cs) (slots := ss) (locs := locs) (H := H) ⟨cx.hx, cx.hb, cx.hml, cx.hown, cx.hall⟩ (hct _ _ _ _ hf) ⟨hcb, cx.hts hst rfl, trivial⟩ ⟨zPc_blind, zpre cx (vs := vs) hG hS⟩ rfl (by simp at hlen ⊢; exact hlen) (by show ls.size = n; rw [hL.2.1]; exact hn) (by show List.map _ _ = _; simp) (lv_room (Nat.le_trans (wsum_tv S) h8)) hdg ⟨hc, hs⟩
  refine run_then hrun hS fun H1 locs1 hG1 hS1 => ?_
  have k1 := k hn H1 locs1 ls hL hG1 hS1
  cases o <;> exact k1
/-- a constructor's receiver is a cell -/
def zri (f : Ex) : Ex := fun vs g => match vs with
  | .ref a :: As => f (.ref a :: As) g
  | _ => none
theorem call_I (cx : CX w p s m args c cc n own) {y : MethodName} {bytes : ByteArray} {maxL idx nn : Nat} {rm : Room} {f : Ex} (hct : CT w l y bytes maxL none rm f) (hy1 : y.name = "<init>") (hcode : Cond.code y bytes maxL none ∈ lw_tbl) (hlink : Cond.methodLink own idx y ∈ lw_tbl) (hini : Cond.initialized y.cls ∈ lw_tbl) (hin : Cond.instanceMethod y ∈ lw_tbl)
    (hd : y.cls ≠ "java/lang/invoke/MethodHandle" ∧ y.cls ≠ "java/lang/invoke/VarHandle" ∧ (parseMethodDescriptor y.desc).map (fun d => d.parameters.length) = some nn) (hR : rm.frames + 1 ≤ R.frames ∧ 8 + (maxL + 11) + rm.locals ≤ R.locals) :
    CallOk w b p l e R s m args below meth c Q cc n rm.cells rm.slots (.invokespecial idx, nn + 1, zri f) := by
  intro cs ss pc L S vs g g' o hc hs hdg hlen h8 hf k hn H locs ls hL hG hS
  have hf2 := hf
  dsimp only at hf2
  unfold zri at hf2
  split at hf2
  · rename_i a As
    have hrun := va_runI (e := e) (below := below) (meth := meth) (As := As.map (ztv w)) (rest := S.map (ztv w)) (g := F0 m pc ls ((((Value.ref a :: As).reverse ++ S)).map (ztv w))) (cells := cs) (slots := ss) (locs := locs) (H := H) ⟨cx.hx, cx.hb, cx.hml, cx.hown, cx.hall⟩ (hct _ _ _ _ hf2) ⟨zcallB cx hcode hlink hini hd hR, hy1, cx.hts hin rfl⟩ ⟨zPc_blind, zpre cx (vs := .ref a :: As) hG hS⟩ rfl (by simp at hlen ⊢; exact hlen) (by show ls.size = n; rw [hL.2.1]; exact hn) (by show List.map _ _ = _; simp [ztv]) (lv_room (Nat.le_trans (wsum_tv S) h8)) hdg ⟨hc, hs⟩
    refine run_then hrun hS fun H1 locs1 hG1 hS1 => ?_
    have k1 := k hn H1 locs1 ls hL hG1 hS1
    cases o <;> exact k1
  · cases hf2
theorem call_IN (cx : CX w p s m args c cc n own) {y : MethodName} {host : String} {bytes : ByteArray} {maxL idx nn : Nat} {rm : Room} {f : Ex} (hct : CT w l y bytes maxL none rm f) (hy1 : y.name = "<init>") (hcode : Cond.code y bytes maxL none ∈ lw_tbl) (hlink : Cond.methodLinkNest own idx y host ∈ zN) (hini : Cond.initialized y.cls ∈ lw_tbl) (hin : Cond.instanceMethod y ∈ lw_tbl)
    (hd : y.cls ≠ "java/lang/invoke/MethodHandle" ∧ y.cls ≠ "java/lang/invoke/VarHandle" ∧ (parseMethodDescriptor y.desc).map (fun d => d.parameters.length) = some nn) (hR : rm.frames + 1 ≤ R.frames ∧ 8 + (maxL + 11) + rm.locals ≤ R.locals) :
    CallOk w b p l e R s m args below meth c Q cc n rm.cells rm.slots (.invokespecial idx, nn + 1, zri f) := by
  intro cs ss pc L S vs g g' o hc hs hdg hlen h8 hf k hn H locs ls hL hG hS
  have hf2 := hf
  dsimp only at hf2
  unfold zri at hf2
  split at hf2
  · rename_i a As
    have hcb := va_cnB (ws := Cond.code y bytes maxL none :: zW) (rm := rm) nn cx.hall (fun x hx => by
      rcases List.mem_cons.mp hx with rfl | hx
      · exact ⟨List.mem_filter.mpr ⟨hcode, rfl⟩, Or.inl rfl⟩
      · exact zW_good x hx) rfl rfl rfl (cx.kk.2.2.2.1 _ hlink) (cx.hts hini rfl) hd hR
    have hrun := va_runIN (e := e) (below := below) (meth := meth) (As := As.map (ztv w)) (rest := S.map (ztv w)) (g := F0 m pc ls ((((Value.ref a :: As).reverse ++ S)).map (ztv w))) (cells := cs) (slots := ss) (locs := locs) (H := H) ⟨cx.hx, cx.hb, cx.hml, cx.hown, cx.hall⟩ (hct _ _ _ _ hf2) ⟨hcb, hy1, cx.hts hin rfl⟩ ⟨zPc_blind, zpre cx (vs := .ref a :: As) hG hS⟩ rfl (by simp at hlen ⊢; exact hlen) (by show ls.size = n; rw [hL.2.1]; exact hn) (by show List.map _ _ = _; simp [ztv]) (lv_room (Nat.le_trans (wsum_tv S) h8)) hdg ⟨hc, hs⟩
    refine run_then hrun hS fun H1 locs1 hG1 hS1 => ?_
    have k1 := k hn H1 locs1 ls hL hG1 hS1
    cases o <;> exact k1
  · cases hf2
end
end
section
/-! ===== what the class uses of the JDK, as calls ===== -/
def xObj : Ex := fun vs g => match vs with
  | [.ref _] => some (.inl none, g)
  | _ => none
def xMin : Ex := fun vs g => match vs with
  | [.int x, .int y] => some (.inl (some (.int (if y < x then y else x))), g)
  | _ => none
def xMax : Ex := fun vs g => match vs with
  | [.int x, .int y] => some (.inl (some (.int (if x < y then y else x))), g)
  | _ => none
def xAbs : Ex := fun vs g => match vs with
  | [.int x] => some (.inl (some (.int (if 0 ≤ x then x else 0 - x))), g)
  | _ => none
def xCopy : Ex := fun vs g => match vs with
  | [.ref a0, .int sp, .ref a, .int dp, .int n] => match g.1 a0, g.1 a with
    | some (.inl (.inl (n0, f))), some (.inl (.inl (n1, h))) => if 0 ≤ sp.toInt ∧ 0 ≤ dp.toInt ∧ 0 ≤ n.toInt ∧ sp.toInt + n.toInt ≤ n0 ∧ dp.toInt + n.toInt ≤ n1 then
        some (.inl none, (zup g.1 a (cI n1 (va_cpy f h sp.toInt.toNat dp.toInt.toNat n.toInt.toNat)), g.2))
      else none
    | _, _ => none
  | _ => none
def xRaw : Ex := fun vs g => match vs with
  | [.double x] => some (.inl (some (.long x.toInt64)), g)
  | _ => none
def yRaw : MethodName := ⟨"java/lang/Double", "doubleToRawLongBits", "(D)J"⟩
section
variable {w : Wd} {b : Bool} {p : Program} {l : Launch} {e : Jvm.Env} {R : Room} {s : State} {m : MethodId} {args : Array Value} {below : List Frame} {meth : Method} {c : Code} {Q : State → Prop} {cc : ByteArray} {n cs ss pc : Nat} {own : String} {E : Env}
variable {L : List (Option Value)} {S : List Value} {g g' : G} {st st' : St} {o : Option Value} {H : Heap} {locs : List Loc}
theorem call_obj (cx : CX w p s m args c cc n own) {idx : Nat} (hlink : Cond.methodLink own idx objectInit ∈ lw_tbl) (hin : Cond.instanceMethod objectInit ∈ lw_tbl) (hcode : Cond.code objectInit ⟨#[0xb1]⟩ 1 none ∈ lw_tbl) (hR : 1 ≤ R.frames ∧ 20 ≤ R.locals) :
    CallOk w b p l e R s m args below meth c Q cc n 0 0 (.invokespecial idx, 1, xObj) := by
  intro cs ss pc L S vs g g' o hc hs hdg hlen h8 hf k hn H locs ls hL hG hS
  dsimp only at hf
  unfold xObj at hf
  split at hf
  · rename_i a
    cases hf
    exact W.objInit (rest := S.map (ztv w)) cx.hx cx.hb cx.hown (cx.hts hlink rfl) (cx.hts hin rfl) (cx.hts hcode rfl) rfl (by rw [cx.hml]; show ls.size = n; rw [hL.2.1]; exact hn) rfl hdg hR.1 (by have h2 := wsum_tv (w := w) S; show 2 * 0 + _ + 12 ≤ _; omega) (k hn H locs ls hL hG hS)
  · cases hf
theorem call_min (cx : CX w p s m args c cc n own) {idx : Nat} (hlink : Cond.methodLink own idx Lib.Math.min.name ∈ lw_tbl) (hst : Cond.static Lib.Math.min.name ∈ lw_tbl) (hini : Cond.initialized "java/lang/Math" ∈ lw_tbl) (hcode : Cond.code Lib.Math.min.name Lib.Math.min.code 2 (some .int) ∈ lw_tbl) (hR : 1 ≤ R.frames ∧ 21 ≤ R.locals) :
    CallOk w b p l e R s m args below meth c Q cc n 0 0 (.invokestatic idx, 2, xMin) := by
  intro cs ss pc L S vs g g' o hc hs hdg hlen h8 hf k hn H locs ls hL hG hS
  dsimp only at hf
  unfold xMin at hf
  split at hf
  · rename_i x y
    cases hf
    exact va_mmin (rest := S.map (ztv w)) cx.hx cx.hb (by rw [cx.hml, hL.2.1]; exact hn.symm) cx.hown (cx.hts hlink rfl) (cx.hts hst rfl) (cx.hts hini rfl) (cx.hts hcode rfl) hR.1 (by have h2 := wsum_tv (w := w) S; omega) (by omega) (by omega) hdg (k hn H locs ls hL hG hS)
  · cases hf
theorem call_max (cx : CX w p s m args c cc n own) {idx : Nat} (hlink : Cond.methodLink own idx Lib.Math.max.name ∈ lw_tbl) (hst : Cond.static Lib.Math.max.name ∈ lw_tbl) (hini : Cond.initialized "java/lang/Math" ∈ lw_tbl) (hcode : Cond.code Lib.Math.max.name Lib.Math.max.code 2 (some .int) ∈ lw_tbl) (hR : 1 ≤ R.frames ∧ 21 ≤ R.locals) :
    CallOk w b p l e R s m args below meth c Q cc n 0 0 (.invokestatic idx, 2, xMax) := by
  intro cs ss pc L S vs g g' o hc hs hdg hlen h8 hf k hn H locs ls hL hG hS
  dsimp only at hf
  unfold xMax at hf
  split at hf
  · rename_i x y
    cases hf
    exact va_mmax (rest := S.map (ztv w)) cx.hx cx.hb (by rw [cx.hml, hL.2.1]; exact hn.symm) cx.hown (cx.hts hlink rfl) (cx.hts hst rfl) (cx.hts hini rfl) (cx.hts hcode rfl) hR.1 (by have h2 := wsum_tv (w := w) S; omega) (by omega) (by omega) hdg (k hn H locs ls hL hG hS)
  · cases hf
theorem call_abs (cx : CX w p s m args c cc n own) {idx : Nat} (hlink : Cond.methodLink own idx Lib.Math.abs.name ∈ lw_tbl) (hst : Cond.static Lib.Math.abs.name ∈ lw_tbl) (hini : Cond.initialized "java/lang/Math" ∈ lw_tbl) (hcode : Cond.code Lib.Math.abs.name Lib.Math.abs.code 1 (some .int) ∈ lw_tbl) (hR : 1 ≤ R.frames ∧ 21 ≤ R.locals) :
    CallOk w b p l e R s m args below meth c Q cc n 0 0 (.invokestatic idx, 1, xAbs) := by
  intro cs ss pc L S vs g g' o hc hs hdg hlen h8 hf k hn H locs ls hL hG hS
  dsimp only at hf
  unfold xAbs at hf
  split at hf
  · rename_i x
    cases hf
    exact va_mabs (rest := S.map (ztv w)) cx.hx cx.hb (by rw [cx.hml, hL.2.1]; exact hn.symm) cx.hown (cx.hts hlink rfl) (cx.hts hst rfl) (cx.hts hini rfl) (cx.hts hcode rfl) hR.1 (by have h2 := wsum_tv (w := w) S; omega) (by omega) (by omega) hdg (k hn H locs ls hL hG hS)
  · cases hf
theorem call_copy (cx : CX w p s m args c cc n own) {idx : Nat} (hlink : Cond.methodLink own idx arraycopyName ∈ lw_tbl) (hnat : Cond.native arraycopyName ∈ lw_tbl) (hst : Cond.static arraycopyName ∈ lw_tbl) (hini : Cond.initialized "java/lang/System" ∈ lw_tbl) (hR : 1 ≤ R.frames ∧ 60 ≤ R.locals) :
    CallOk w b p l e R s m args below meth c Q cc n 0 0 (.invokestatic idx, 5, xCopy) := by
  intro cs ss pc L S vs g g' o hc hs hdg hlen h8 hf k hn H locs ls hL hG hS
  dsimp only at hf
  unfold xCopy at hf
  split at hf
  · rename_i a0 sp a dp nn
    split at hf
    · rename_i n0 f n1 h hM0 hM1
      split at hf
      · rename_i hq
        cases hf
        obtain ⟨q1, q2, q3, q4, q5⟩ := hq
        have neg : ∀ z : Int32, 0 ≤ z.toInt → ¬ z < 0 := fun z hz hl => by
          have := Int32.lt_iff_toInt_lt.mp hl
          simp at this; omega
        have nn0 : ∀ z : Int32, z.toNatClampNeg = z.toInt.toNat := fun z => rfl
        obtain ⟨h40, hat0⟩ := hG.1 _ _ hM0
        obtain ⟨h41, hat1⟩ := hG.1 _ _ hM1
        have hnw : nativeFrameWords "java/lang/System" "arraycopy" 5 + 11 ≤ 52 := by decide +kernel
        -- the cells, and the step
        intro T hT X
        have hc0 : H[zad w a0]? = some (vp_cell (w.2.2.2.1 0) (n0, .inl f)) := hat0
        have hc1 : H[zad w a]? = some (vp_cell (w.2.2.2.1 0) (n1, .inl h)) := hat1
        obtain ⟨-, k0, hk0, cm0, hkk0⟩ := (cx.kk.1.2 0 _ rfl).1 n0 (fun j => .int (f j))
        obtain ⟨-, k1, hk1, cm1, hkk1⟩ := (cx.kk.1.2 0 _ rfl).1 n1 (fun j => .int (h j))
        have h4 : sp.toNatClampNeg + nn.toNatClampNeg ≤ n0 := by rw [nn0, nn0]; omega
        obtain ⟨vm', X', step⟩ := X.arraycopy cx.hx cx.hown (cx.hts hlink rfl) (cx.hts hnat rfl) (cx.hts hst rfl) (cx.hts hini rfl) (src := zad w a0) (dst := zad w a) (cs := vp_cell (w.2.2.2.1 0) (n0, .inl f)) (cd := vp_cell (w.2.2.2.1 0) (n1, .inl h)) (srcPos := sp) (destPos := dp) (n := nn) (by rw [hT]; exact hc0) (by rw [hT]; exact hc1)
          (fun _ h => by cases h) (fun _ h => by cases h) (fun h => by cases h) (fun h => by cases h) hk0 hk1 hkk0 hkk1 (by simp [refKind]) (neg sp q1) (neg dp q2) (neg nn q3)
          (by show ¬ _ > ((arrV _ n0 (fun j => .int (f j))).slots.size : Int); rw [arrV_size]; omega)
          (by show ¬ _ > ((arrV _ n1 (fun j => .int (h j))).slots.size : Int); rw [arrV_size]; omega)
          (fun vm₁ _ i hi => by
            have e : (vp_cell (w.2.2.2.1 0) (n0, .inl f)).slots.getD (sp.toNatClampNeg + i) .null = .int (f (sp.toNatClampNeg + i)) := by
              show (arrV _ n0 (fun j => .int (f j))).slots.getD _ _ = _
              rw [Array.getD_eq_getD_getElem?, arrV_read _ _ (by omega)]
              rfl
            refine ⟨?_, ?_⟩
            · rw [e]; rfl
            · rw [e]; exact trivial)
          (g := F0 m pc ls (.int nn :: .int dp :: .ref (zad w a) :: .int sp :: .ref (zad w a0) :: S.map (ztv w))) rfl (by rw [cx.hml]; show ls.size = n; rw [hL.2.1]; exact hn) (rest := S.map (ztv w)) rfl (by rw [cx.hb]; exact hdg) hR.1 (by have h2 := wsum_tv (w := w) S; show 2 * 0 + _ + _ ≤ _; omega)
        have e1 : copied (vp_cell (w.2.2.2.1 0) (n0, .inl f)) (vp_cell (w.2.2.2.1 0) (n1, .inl h)) sp dp nn = vp_cell (w.2.2.2.1 0) (n1, .inl (va_cpy f h sp.toNatClampNeg dp.toNatClampNeg nn.toNatClampNeg)) := va_copied (fun z => .int z) _ _ f h h4
        rw [e1] at X' step
        have hl : zad w a < H.size := (Array.getElem?_eq_some_iff.mp hc1).1
        have hheap : ((T.setVm vm').setCell (zad w a) (vp_cell (w.2.2.2.1 0) (n1, .inl (va_cpy f h sp.toNatClampNeg dp.toNatClampNeg nn.toNatClampNeg)))).heap = H.setIfInBounds (zad w a) (vp_cell (w.2.2.2.1 0) (n1, .inl (va_cpy f h sp.toNatClampNeg dp.toNatClampNeg nn.toNatClampNeg))) := by rw [← hT]; rfl
        have oq : ∀ q : Nat, q ≠ zad w a → (H.setIfInBounds (zad w a) (vp_cell (w.2.2.2.1 0) (n1, .inl (va_cpy f h sp.toNatClampNeg dp.toNatClampNeg nn.toNatClampNeg))))[q]? = H[q]? := fun q hq => by simp [Array.getElem?_setIfInBounds, Ne.symm hq]
        obtain ⟨t, a1, b1⟩ := k hn _ _ ls hL (hG.put (c1 := cI n1 (va_cpy f h sp.toInt.toNat dp.toInt.toNat nn.toInt.toNat)) hM1 (by simp) oq (show (H.setIfInBounds (zad w a) _)[zad w a]? = some _ by simp [Array.getElem?_setIfInBounds, hl]; try rfl)) ⟨by simp; exact hS.1, fun q g1 g2 => by
            rw [oq q (fun e => g2 (by rw [e]; exact zad_ge h41))]
            exact hS.2.1 q g1 g2, fun q hq => by
            rcases List.mem_append.mp hq with h | h
            · exact hS.2.2 q h
            · obtain ⟨z, -, hz⟩ := List.mem_map.mp h
              rw [← hz]
              exact zad_ge h41⟩ _ hheap X'
        exact ⟨t, step t a1, b1⟩
      · cases hf
    · cases hf
  · cases hf
theorem call_raw (cx : CX w p s m args c cc n own) {idx : Nat} (hlink : Cond.methodLink own idx yRaw ∈ lw_tbl) (hnat : Cond.native yRaw ∈ lw_tbl) (hst : Cond.static yRaw ∈ lw_tbl) (hini : Cond.initialized "java/lang/Double" ∈ lw_tbl) (hR : 1 ≤ R.frames ∧ 60 ≤ R.locals) :
    CallOk w b p l e R s m args below meth c Q cc n 0 0 (.invokestatic idx, 1, xRaw) := by
  intro cs ss pc L S vs g g' o hc hs hdg hlen h8 hf k hn H locs ls hL hG hS
  dsimp only at hf
  unfold xRaw at hf
  split at hf
  · rename_i x
    cases hf
    intro T hT X
    have hnw : nativeFrameWords "java/lang/Double" "doubleToRawLongBits" 2 + 11 ≤ 52 := by decide +kernel
    obtain ⟨r, kS, methS, hnS, hmS, hkS, N⟩ := NativeOf.of_static (cx.hts hnat rfl) (cx.hts hst rfl) (ps := [.double]) (ret := some .long) (by decide +kernel)
    have hinitS : kS.init = .initialized := Cond.initialized_spec (findClass_of_methodNamed hnS) hkS (cx.hts hini rfl)
    obtain ⟨vm', X', step⟩ := X.invokestatic cx.hx cx.hown (cx.hts hlink rfl) hnS hmS N.static hkS hinitS (by decide) (g := F0 m pc ls (.double x :: S.map (ztv w))) rfl (argsL := [.double x]) (rest := S.map (ztv w)) (by rw [N.sig]; rfl) rfl (by rw [cx.hb]; exact hdg)
    obtain ⟨t, a1, b1⟩ := k hn H locs ls hL hG hS (T.setVm vm') hT X'
    refine ⟨t, step t fun acts => ?_, b1⟩
    obtain ⟨kS', N'⟩ := N.alike X'.warmed.alike
    exact Steps.doubleToRawLongBitsOf (g := F0 m pc ls (S.map (ztv w))) (ig := .invokestatic idx) (len := 3) p X'.here acts N' x (X'.notFull (g := F0 m pc ls (S.map (ztv w))) (by show ls.size = _; rw [cx.hml, hL.2.1]; exact hn) (vars := nativeFrameWords "java/lang/Double" "doubleToRawLongBits" 2) hR.1 (by have h2 := wsum_tv (w := w) S; show 2 * 0 + ((S.map (ztv w)).map fun v => v.category).sum + _ ≤ _; omega)) (by rw [cx.hb]; exact hdg) a1
  · cases hf
end
end
section
/-! ===== what a method's proof uses ===== -/
theorem tb_mem {x : Cond} (k : Nat) (h : tables_1[k]? = some x) : x ∈ lw_tbl := List.mem_append_right _ (List.mem_of_getElem? h)
theorem tb_priv (k : Nat) {y : MethodName} {n : Nat} (h : lw_privs[k]? = some (y, n)) : Cond.selects y.cls y y ∈ lw_tbl := List.mem_append_left _ (List.mem_map.mpr ⟨(y, n), List.mem_of_getElem? h, rfl⟩)
def zST : Nat → Option (Nat × (Nat → Int32))
  | 0 => some (4, fun j => match j with
    | 0 => 20
    | 1 => 1
    | 2 => 1
    | _ => 0)
  | 1 => some (4, fun j => match j with
    | 0 => 1
    | _ => 0)
  | 2 => some (4, fun j => match j with
    | 0 => 100
    | 1 => 5
    | 2 => 9
    | _ => 2)
  | _ => none
def zWok (w : Wd) : Prop := ∀ k a, zST k = some a → w.2.2.2.2 k = some a
/-- enough for any loop of the system -/
def zFU : Nat := 5000
def zres (r : Res) : Option (Out × G) := match r with
  | some (.inr (.inr (.inr x))) => some x
  | _ => none
def MC (w : Wd) (b : Bool) (p : Program) (l : Launch) (e : Jvm.Env) (R : Room) (s : State) (m : MethodId) (args : Array Value) (below : List Frame) (meth : Method) (c : Code) (Q : State → Prop) (cc : ByteArray) (n : Nat) (own : String) (E : Env) (mc ms : Nat) (F : Out → G → Prop) (ret : Option FieldType) : Prop :=
  CX w p s m args c cc n own ∧ EnvOk w b p l e R s m args below meth c Q cc n own E ∧ zQok w p l e R s m args below meth c Q mc ms F ∧ meth.sig.returnType = ret ∧ meth.locks = false
section
variable {w : Wd} {b : Bool} {p : Program} {l : Launch} {e : Jvm.Env} {R : Room} {s : State} {m : MethodId} {args : Array Value} {below : List Frame} {meth : Method} {c : Code} {Q : State → Prop} {cc : ByteArray} {n cs ss pc : Nat} {own : String} {E : Env}
variable {mc ms pe p1 c1 s1 tgt : Nat} {F : Out → G → Prop} {ret : Option FieldType} {kb kc : St → Prop} {is : List Instr}
theorem zz : 0 ≤ R.cells ∧ 0 ≤ R.slots := ⟨Nat.zero_le _, Nat.zero_le _⟩
theorem m_blk (h : MC w b p l e R s m args below meth c Q cc n own E mc ms F ret) (hR : cs ≤ R.cells ∧ ss ≤ R.slots) (hz : zck cc pc is = some pe) : Sn (zK w b p l e R s m args below meth c Q n) F kb kc cs ss pc (blk E is) cs ss pe :=
  sn_blk fun _ _ hr k => run_sound h.1 h.2.1 hR is hz hr k
theorem m_cat {j : Instr} (h : MC w b p l e R s m args below meth c Q cc n own E mc ms F ret) (hR : cs ≤ R.cells ∧ ss ≤ R.slots) (hz : zck cc pc is = some p1) (hd : decode cc p1 = .ok (j, 3)) (ht : (p1 : Int) + zoff j = (tgt : Int)) : Sc (zK w b p l e R s m args below meth c Q n) cs ss pc (cat E is j) tgt (p1 + 3) := sc_cat h.1 h.2.1 hR hz hd ht
theorem m_goto {off : Int} (h : MC w b p l e R s m args below meth c Q cc n own E mc ms F ret) (hd : decode cc pc = .ok (.goto off, 3)) (ht : (pc : Int) + off = (tgt : Int)) (st : St) (k : zK w b p l e R s m args below meth c Q n cs ss tgt st) : zK w b p l e R s m args below meth c Q n cs ss pc st := k_goto h.1 hd ht st k
theorem m_rti (h : MC w b p l e R s m args below meth c Q cc n own E mc ms F (some .int)) (hR : cs ≤ R.cells ∧ ss ≤ R.slots) (hz : zck cc pc is = some p1) (hd : decode cc p1 = .ok (.ireturn, 1)) (hc : cs ≤ mc) (hs : ss ≤ ms) : Sn (zK w b p l e R s m args below meth c Q n) F kb kc cs ss pc (rti E is) c1 s1 pe :=
  sn_rti h.2.2.1 h.1 h.2.2.2.1 h.2.2.2.2 (fun _ _ hr k => run_sound h.1 h.2.1 hR is hz hr k) hd hc hs
theorem m_rtz (h : MC w b p l e R s m args below meth c Q cc n own E mc ms F (some .boolean)) (hR : cs ≤ R.cells ∧ ss ≤ R.slots) (hz : zck cc pc is = some p1) (hd : decode cc p1 = .ok (.ireturn, 1)) (hc : cs ≤ mc) (hs : ss ≤ ms) : Sn (zK w b p l e R s m args below meth c Q n) F kb kc cs ss pc (rtz E is) c1 s1 pe :=
  sn_rtz h.2.2.1 h.1 h.2.2.2.1 h.2.2.2.2 (fun _ _ hr k => run_sound h.1 h.2.1 hR is hz hr k) hd hc hs
theorem m_rtl (h : MC w b p l e R s m args below meth c Q cc n own E mc ms F (some .long)) (hR : cs ≤ R.cells ∧ ss ≤ R.slots) (hz : zck cc pc is = some p1) (hd : decode cc p1 = .ok (.lreturn, 1)) (hc : cs ≤ mc) (hs : ss ≤ ms) : Sn (zK w b p l e R s m args below meth c Q n) F kb kc cs ss pc (rtl E is) c1 s1 pe :=
  sn_rtl h.2.2.1 h.1 h.2.2.2.1 h.2.2.2.2 (fun _ _ hr k => run_sound h.1 h.2.1 hR is hz hr k) hd hc hs
theorem m_rtd (h : MC w b p l e R s m args below meth c Q cc n own E mc ms F (some .double)) (hR : cs ≤ R.cells ∧ ss ≤ R.slots) (hz : zck cc pc is = some p1) (hd : decode cc p1 = .ok (.dreturn, 1)) (hc : cs ≤ mc) (hs : ss ≤ ms) : Sn (zK w b p l e R s m args below meth c Q n) F kb kc cs ss pc (rtd E is) c1 s1 pe :=
  sn_rtd h.2.2.1 h.1 h.2.2.2.1 h.2.2.2.2 (fun _ _ hr k => run_sound h.1 h.2.1 hR is hz hr k) hd hc hs
theorem m_rta {nmR : String} (h : MC w b p l e R s m args below meth c Q cc n own E mc ms F (some (.object nmR))) (hR : cs ≤ R.cells ∧ ss ≤ R.slots) (hz : zck cc pc is = some p1) (hd : decode cc p1 = .ok (.areturn, 1)) (hc : cs ≤ mc) (hs : ss ≤ ms) : Sn (zK w b p l e R s m args below meth c Q n) F kb kc cs ss pc (rta E is) c1 s1 pe :=
  sn_rta h.2.2.1 h.1 h.2.2.2.1 h.2.2.2.2 (fun _ _ hr k => run_sound h.1 h.2.1 hR is hz hr k) hd hc hs
theorem m_rtv (h : MC w b p l e R s m args below meth c Q cc n own E mc ms F none) (hR : cs ≤ R.cells ∧ ss ≤ R.slots) (hz : zck cc pc is = some p1) (hd : decode cc p1 = .ok (.return_, 1)) (hc : cs ≤ mc) (hs : ss ≤ ms) : Sn (zK w b p l e R s m args below meth c Q n) F kb kc cs ss pc (rtv E is) c1 s1 pe :=
  sn_rtv h.2.2.1 h.1 h.2.2.2.1 h.2.2.2.2 (fun _ _ hr k => run_sound h.1 h.2.1 hR is hz hr k) hd hc hs
theorem m_sw {cl : List (Int32 × Dn)} {d : Dn} {pd : Nat} (h : MC w b p l e R s m args below meth c Q cc n own E mc ms F ret) (hR : cs ≤ R.cells ∧ ss ≤ R.slots) (tl : List (Int32 × Nat)) (hz : zck cc pc is = some p1) (hd : zsw cc p1 tl pd = true) (hs : SwL (zK w b p l e R s m args below meth c Q n) F kb kc cs ss c1 s1 pe tl cl) (hdf : Sn (zK w b p l e R s m args below meth c Q n) F kb kc cs ss pd d c1 s1 pe) : Sn (zK w b p l e R s m args below meth c Q n) F kb kc cs ss pc (swi E is cl d) c1 s1 pe :=
  sn_sw tl (fun st L x S g hr k => sw_sound h.1 h.2.1 hR hz hd st L x S g hr k) hs hdf
theorem m_fo {f : List Nat} (st : St) (k : zK w b p l e R s m args below meth c Q n cs ss pc (zforget st.1 f, st.2)) : zK w b p l e R s m args below meth c Q n cs ss pc st := k_fo st k
theorem swl_nil {K : Kp} {c0 s0 : Nat} : SwL K F kb kc c0 s0 c1 s1 pe [] [] := trivial
theorem swl_cons {K : Kp} {c0 s0 pk : Nat} {k : Int32} {tl : List (Int32 × Nat)} {cl : List (Int32 × Dn)} {a : Dn} (h1 : Sn K F kb kc c0 s0 pk a c1 s1 pe) (h2 : SwL K F kb kc c0 s0 c1 s1 pe tl cl) : SwL K F kb kc c0 s0 c1 s1 pe ((k, pk) :: tl) ((k, a) :: cl) := ⟨rfl, h1, h2⟩
theorem ct_plain {y : MethodName} {rm : Room} {d : Dn} (hy : plainName y.cls = true)
    (heo : ∀ (p : Program) (e : Jvm.Env) (s : State) (m : MethodId) (args : Array Value) (below : List Frame) (meth : Method) (c : Code) (Q : State → Prop), CX w p s m args c cc n y.cls → meth.name = y.name → EnvOk w b p l e rm s m args below meth c Q cc n y.cls E)
    (body : ∀ (p : Program) (e : Jvm.Env) (s : State) (m : MethodId) (args : Array Value) (below : List Frame) (meth : Method) (c : Code) (Q : State → Prop) (F : Out → G → Prop), MC w b p l e rm s m args below meth c Q cc n y.cls E rm.cells rm.slots F ret → Sn (zK w b p l e rm s m args below meth c Q n) F (fun _ => False) (fun _ => False) 0 0 0 d rm.cells rm.slots pe) : CT w l y cc n ret rm (exb b n d) :=
  ct_of hy fun p e s m args below meth c o g' hm => body p e s m args below meth c _ _ ⟨hm.1, heo p e s m args below meth c _ hm.1 hm.2.2.2, zQok_plain, hm.2.1, hm.2.2.1⟩
end
/-- a method's entry, its locals laid out -/
theorem q_of {b : Bool} {n : Nat} {d : Dn} {vs : List Value} {g : G} (L : List (Option Value)) (h : zpad n (zsl vs) = L) (hl : (zsl vs).length ≤ n) (hb : b = false ∨ zc1 vs = true) : exb b n d vs g = zres (d (L, [], g)) := by
  have h1 : exb b n d vs g = exm n d vs g := by
    unfold exb
    rcases hb with rfl | hb
    · rfl
    · rw [hb]; cases b <;> rfl
  rw [h1, exm, if_pos hl, h]
  rfl
theorem q_ofV {b : Bool} {n ci : Nat} {d : Dn} {a : Nat} {As : List Value} {M : Hp} {nx : Nat} {fs : List Value} (L : List (Option Value)) (hM : M a = some (cO ci fs)) (h : zpad n (zsl (.ref a :: As)) = L) (hl : (zsl (.ref a :: As)).length ≤ n) (hb : b = false ∨ zc1 (.ref a :: As) = true) : zrv ci (exb b n d) (.ref a :: As) (M, nx) = zres (d (L, [], (M, nx))) := by
  show (match M a with | some (.inr (cj, _)) => if cj = ci then exb b n d (.ref a :: As) (M, nx) else none | _ => none) = _
  rw [hM]
  show (if ci = ci then exb b n d (.ref a :: As) (M, nx) else none) = _
  rw [if_pos rfl]
  exact q_of L h hl hb
end
section
/-! names and codes of the methods -/
def y_Hist_stateAt : MethodName := ⟨"CoilSlits$History", "stateAt", "(I)LCoilSlits$Yard;"⟩
abbrev b_Hist_stateAt : ByteArray := prog_4_method_5_code
def y_Grid_copyFrom : MethodName := ⟨"CoilSlits$Grid", "copyFrom", "(LCoilSlits$Grid;)V"⟩
abbrev b_Grid_copyFrom : ByteArray := prog_3_method_5_code
def y_Row_copyFrom : MethodName := ⟨"CoilSlits$Row", "copyFrom", "(LCoilSlits$Row;)V"⟩
abbrev b_Row_copyFrom : ByteArray := prog_5_method_5_code
def y_Yard_copyFrom : MethodName := ⟨"CoilSlits$Yard", "copyFrom", "(LCoilSlits$Yard;)V"⟩
abbrev b_Yard_copyFrom : ByteArray := prog_6_method_2_code
def y_Hist_save : MethodName := ⟨"CoilSlits$History", "save", "(LCoilSlits$Yard;)V"⟩
abbrev b_Hist_save : ByteArray := prog_4_method_3_code
def y_Grid_get : MethodName := ⟨"CoilSlits$Grid", "get", "(II)I"⟩
abbrev b_Grid_get : ByteArray := prog_3_method_2_code
def y_Yard_dearestBehind : MethodName := ⟨"CoilSlits$Yard", "dearestBehind", "(II)I"⟩
abbrev b_Yard_dearestBehind : ByteArray := prog_6_method_44_code
def y_Row_get : MethodName := ⟨"CoilSlits$Row", "get", "(I)I"⟩
abbrev b_Row_get : ByteArray := prog_5_method_2_code
def y_Yard_widthTaken : MethodName := ⟨"CoilSlits$Yard", "widthTaken", "(I)I"⟩
abbrev b_Yard_widthTaken : ByteArray := prog_6_method_35_code
def y_Yard_mismatch : MethodName := ⟨"CoilSlits$Yard", "mismatch", "(III)I"⟩
abbrev b_Yard_mismatch : ByteArray := prog_6_method_37_code
def y_Yard_coilsAbove : MethodName := ⟨"CoilSlits$Yard", "coilsAbove", "(I)I"⟩
abbrev b_Yard_coilsAbove : ByteArray := prog_6_method_14_code
def y_Yard_canDig : MethodName := ⟨"CoilSlits$Yard", "canDig", "(I)Z"⟩
abbrev b_Yard_canDig : ByteArray := prog_6_method_22_code
def y_Yard_stripsIn : MethodName := ⟨"CoilSlits$Yard", "stripsIn", "(II)I"⟩
abbrev b_Yard_stripsIn : ByteArray := prog_6_method_36_code
def y_Yard_worthByRule : MethodName := ⟨"CoilSlits$Yard", "worthByRule", "(III)I"⟩
abbrev b_Yard_worthByRule : ByteArray := prog_6_method_40_code
def y_Yard_choose : MethodName := ⟨"CoilSlits$Yard", "choose", "(I)I"⟩
abbrev b_Yard_choose : ByteArray := prog_6_method_39_code
def y_Slit_stackOf : MethodName := ⟨"CoilSlits", "stackOf", "(I)I"⟩
abbrev b_Slit_stackOf : ByteArray := prog_1_method_32_code
def y_Yard_emptiestBeside : MethodName := ⟨"CoilSlits$Yard", "emptiestBeside", "(I)I"⟩
abbrev b_Yard_emptiestBeside : ByteArray := prog_6_method_24_code
def y_Grid_copyRow : MethodName := ⟨"CoilSlits$Grid", "copyRow", "(II)V"⟩
abbrev b_Grid_copyRow : ByteArray := prog_3_method_4_code
def y_Grid_put : MethodName := ⟨"CoilSlits$Grid", "put", "(III)V"⟩
abbrev b_Grid_put : ByteArray := prog_3_method_3_code
def y_Row_add : MethodName := ⟨"CoilSlits$Row", "add", "(II)V"⟩
abbrev b_Row_add : ByteArray := prog_5_method_4_code
def y_Yard_moveTop : MethodName := ⟨"CoilSlits$Yard", "moveTop", "(II)I"⟩
abbrev b_Yard_moveTop : ByteArray := prog_6_method_20_code
def y_Yard_digOut : MethodName := ⟨"CoilSlits$Yard", "digOut", "(I)I"⟩
abbrev b_Yard_digOut : ByteArray := prog_6_method_23_code
def y_Yard_takeTop : MethodName := ⟨"CoilSlits$Yard", "takeTop", "(I)V"⟩
abbrev b_Yard_takeTop : ByteArray := prog_6_method_19_code
def y_Yard_putOnTop : MethodName := ⟨"CoilSlits$Yard", "putOnTop", "(IIIII)I"⟩
abbrev b_Yard_putOnTop : ByteArray := prog_6_method_18_code
def y_Yard_cutTop : MethodName := ⟨"CoilSlits$Yard", "cutTop", "(II)I"⟩
abbrev b_Yard_cutTop : ByteArray := prog_6_method_41_code
def y_Yard_dropOrder : MethodName := ⟨"CoilSlits$Yard", "dropOrder", "(I)V"⟩
abbrev b_Yard_dropOrder : ByteArray := prog_6_method_29_code
def y_Yard_dropIfDone : MethodName := ⟨"CoilSlits$Yard", "dropIfDone", "(I)V"⟩
abbrev b_Yard_dropIfDone : ByteArray := prog_6_method_30_code
def y_Yard_fulfil : MethodName := ⟨"CoilSlits$Yard", "fulfil", "(I)I"⟩
abbrev b_Yard_fulfil : ByteArray := prog_6_method_42_code
def y_Yard_fulfilEach : MethodName := ⟨"CoilSlits$Yard", "fulfilEach", "()I"⟩
abbrev b_Yard_fulfilEach : ByteArray := prog_6_method_43_code
def y_Slit_serveAll : MethodName := ⟨"CoilSlits", "serveAll", "()I"⟩
abbrev b_Slit_serveAll : ByteArray := prog_1_method_10_code
def y_Slit_clearBuffer : MethodName := ⟨"CoilSlits", "clearBuffer", "()I"⟩
abbrev b_Slit_clearBuffer : ByteArray := prog_1_method_13_code
def y_Read_restart : MethodName := ⟨"CoilSlits$CoilReader", "restart", "()V"⟩
abbrev b_Read_restart : ByteArray := prog_2_method_2_code
def y_Read_expects : MethodName := ⟨"CoilSlits$CoilReader", "expects", "(I)Z"⟩
abbrev b_Read_expects : ByteArray := prog_2_method_9_code
def y_Read_beginsPart : MethodName := ⟨"CoilSlits$CoilReader", "beginsPart", "(I)Z"⟩
abbrev b_Read_beginsPart : ByteArray := prog_2_method_10_code
def y_Read_widens : MethodName := ⟨"CoilSlits$CoilReader", "widens", "(I)Z"⟩
abbrev b_Read_widens : ByteArray := prog_2_method_11_code
def y_Slit_within : MethodName := ⟨"CoilSlits", "within", "(III)Z"⟩
abbrev b_Slit_within : ByteArray := prog_1_method_29_code
def y_Read_takesGrade : MethodName := ⟨"CoilSlits$CoilReader", "takesGrade", "(I)Z"⟩
abbrev b_Read_takesGrade : ByteArray := prog_2_method_12_code
def y_Read_takesQuality : MethodName := ⟨"CoilSlits$CoilReader", "takesQuality", "(I)Z"⟩
abbrev b_Read_takesQuality : ByteArray := prog_2_method_13_code
def y_Slit_isStack : MethodName := ⟨"CoilSlits", "isStack", "(I)Z"⟩
abbrev b_Slit_isStack : ByteArray := prog_1_method_30_code
def y_Read_takesStack : MethodName := ⟨"CoilSlits$CoilReader", "takesStack", "(I)Z"⟩
abbrev b_Read_takesStack : ByteArray := prog_2_method_14_code
def y_Read_goesOn : MethodName := ⟨"CoilSlits$CoilReader", "goesOn", "(I)Z"⟩
abbrev b_Read_goesOn : ByteArray := prog_2_method_15_code
def y_Read_accepts : MethodName := ⟨"CoilSlits$CoilReader", "accepts", "(I)Z"⟩
abbrev b_Read_accepts : ByteArray := prog_2_method_8_code
def y_Slit_readBuffer : MethodName := ⟨"CoilSlits", "readBuffer", "()I"⟩
abbrev b_Slit_readBuffer : ByteArray := prog_1_method_38_code
def y_Slit_firstError : MethodName := ⟨"CoilSlits", "firstError", "()I"⟩
abbrev b_Slit_firstError : ByteArray := prog_1_method_14_code
def y_Row_put : MethodName := ⟨"CoilSlits$Row", "put", "(II)V"⟩
abbrev b_Row_put : ByteArray := prog_5_method_3_code
def y_Yard_changeSetting : MethodName := ⟨"CoilSlits$Yard", "changeSetting", "(II)V"⟩
abbrev b_Yard_changeSetting : ByteArray := prog_6_method_5_code
def y_Slit_beginTrial : MethodName := ⟨"CoilSlits", "beginTrial", "(I)V"⟩
abbrev b_Slit_beginTrial : ByteArray := prog_1_method_35_code
def y_Yard_tally : MethodName := ⟨"CoilSlits$Yard", "tally", "(I)I"⟩
abbrev b_Yard_tally : ByteArray := prog_6_method_3_code
def y_Slit_bestRule : MethodName := ⟨"CoilSlits", "bestRule", "()I"⟩
abbrev b_Slit_bestRule : ByteArray := prog_1_method_25_code
def y_Yard_widerThanTop : MethodName := ⟨"CoilSlits$Yard", "widerThanTop", "(I)I"⟩
abbrev b_Yard_widerThanTop : ByteArray := prog_6_method_15_code
def y_Yard_heightOf : MethodName := ⟨"CoilSlits$Yard", "heightOf", "(I)I"⟩
abbrev b_Yard_heightOf : ByteArray := prog_6_method_6_code
def y_Yard_hasRoom : MethodName := ⟨"CoilSlits$Yard", "hasRoom", "(I)Z"⟩
abbrev b_Yard_hasRoom : ByteArray := prog_6_method_7_code
def y_Slit_bestStack : MethodName := ⟨"CoilSlits", "bestStack", "()I"⟩
abbrev b_Slit_bestStack : ByteArray := prog_1_method_26_code
def y_Slit_used : MethodName := ⟨"CoilSlits", "used", "()D"⟩
abbrev b_Slit_used : ByteArray := prog_1_method_27_code
def y_Yard_coilCount : MethodName := ⟨"CoilSlits$Yard", "coilCount", "()I"⟩
abbrev b_Yard_coilCount : ByteArray := prog_6_method_11_code
def y_Yard_sumOfCoils : MethodName := ⟨"CoilSlits$Yard", "sumOfCoils", "(I)I"⟩
abbrev b_Yard_sumOfCoils : ByteArray := prog_6_method_12_code
def y_Yard_orderCount : MethodName := ⟨"CoilSlits$Yard", "orderCount", "()I"⟩
abbrev b_Yard_orderCount : ByteArray := prog_6_method_25_code
def y_Hist_kept : MethodName := ⟨"CoilSlits$History", "kept", "()I"⟩
abbrev b_Hist_kept : ByteArray := prog_4_method_2_code
def y_Slit_counted : MethodName := ⟨"CoilSlits", "counted", "(I)I"⟩
abbrev b_Slit_counted : ByteArray := prog_1_method_33_code
def y_Slit_hashed : MethodName := ⟨"CoilSlits", "hashed", "(JJ)J"⟩
abbrev b_Slit_hashed : ByteArray := prog_1_method_40_code
def y_Yard_settingNow : MethodName := ⟨"CoilSlits$Yard", "settingNow", "(I)I"⟩
abbrev b_Yard_settingNow : ByteArray := prog_6_method_4_code
def y_Yard_numberAt : MethodName := ⟨"CoilSlits$Yard", "numberAt", "(I)I"⟩
abbrev b_Yard_numberAt : ByteArray := prog_6_method_9_code
def y_Yard_coilProperty : MethodName := ⟨"CoilSlits$Yard", "coilProperty", "(II)I"⟩
abbrev b_Yard_coilProperty : ByteArray := prog_6_method_13_code
def y_Slit_hashedPlace : MethodName := ⟨"CoilSlits", "hashedPlace", "(JI)J"⟩
abbrev b_Slit_hashedPlace : ByteArray := prog_1_method_41_code
def y_Yard_suits : MethodName := ⟨"CoilSlits$Yard", "suits", "(III)Z"⟩
abbrev b_Yard_suits : ByteArray := prog_6_method_34_code
def y_Yard_coilsSuiting : MethodName := ⟨"CoilSlits$Yard", "coilsSuiting", "(I)I"⟩
abbrev b_Yard_coilsSuiting : ByteArray := prog_6_method_32_code
def y_Yard_stripsFitting : MethodName := ⟨"CoilSlits$Yard", "stripsFitting", "(I)I"⟩
abbrev b_Yard_stripsFitting : ByteArray := prog_6_method_33_code
def y_Yard_orderProperty : MethodName := ⟨"CoilSlits$Yard", "orderProperty", "(II)I"⟩
abbrev b_Yard_orderProperty : ByteArray := prog_6_method_31_code
def y_Slit_numberOfChoice : MethodName := ⟨"CoilSlits", "numberOfChoice", "(I)I"⟩
abbrev b_Slit_numberOfChoice : ByteArray := prog_1_method_34_code
def y_Slit_gained : MethodName := ⟨"CoilSlits", "gained", "(I)I"⟩
abbrev b_Slit_gained : ByteArray := prog_1_method_37_code
def y_Slit_gainOfTrial : MethodName := ⟨"CoilSlits", "gainOfTrial", "(I)I"⟩
abbrev b_Slit_gainOfTrial : ByteArray := prog_1_method_36_code
def y_Slit_hashedOrder : MethodName := ⟨"CoilSlits", "hashedOrder", "(JI)J"⟩
abbrev b_Slit_hashedOrder : ByteArray := prog_1_method_42_code
def y_Slit_bitsOf : MethodName := ⟨"CoilSlits", "bitsOf", "(D)J"⟩
abbrev b_Slit_bitsOf : ByteArray := prog_1_method_43_code
def y_Slit_digest : MethodName := ⟨"CoilSlits", "digest", "()J"⟩
abbrev b_Slit_digest : ByteArray := prog_1_method_28_code
def y_Slit_isSetting : MethodName := ⟨"CoilSlits", "isSetting", "(I)Z"⟩
abbrev b_Slit_isSetting : ByteArray := prog_1_method_31_code
def y_Read_stack : MethodName := ⟨"CoilSlits$CoilReader", "stack", "()I"⟩
abbrev b_Read_stack : ByteArray := prog_2_method_7_code
def y_Yard_emptiest : MethodName := ⟨"CoilSlits$Yard", "emptiest", "()I"⟩
abbrev b_Yard_emptiest : ByteArray := prog_6_method_16_code
def y_Read_width : MethodName := ⟨"CoilSlits$CoilReader", "width", "()I"⟩
abbrev b_Read_width : ByteArray := prog_2_method_4_code
def y_Read_grade : MethodName := ⟨"CoilSlits$CoilReader", "grade", "()I"⟩
abbrev b_Read_grade : ByteArray := prog_2_method_5_code
def y_Read_quality : MethodName := ⟨"CoilSlits$CoilReader", "quality", "()I"⟩
abbrev b_Read_quality : ByteArray := prog_2_method_6_code
def y_Yard_bringIn : MethodName := ⟨"CoilSlits$Yard", "bringIn", "(IIII)I"⟩
abbrev b_Yard_bringIn : ByteArray := prog_6_method_17_code
def y_Slit_bringInBuffer : MethodName := ⟨"CoilSlits", "bringInBuffer", "()I"⟩
abbrev b_Slit_bringInBuffer : ByteArray := prog_1_method_39_code
def y_Mod_thrown : MethodName := ⟨"CoilSlitsModel", "thrown", "()I"⟩
abbrev b_Mod_thrown : ByteArray := prog_8_method_2_code
def y_Mod_fails : MethodName := ⟨"CoilSlitsModel", "fails", "(I)I"⟩
abbrev b_Mod_fails : ByteArray := prog_8_method_3_code
def y_Mod_in : MethodName := ⟨"CoilSlitsModel", "in", "(III)Z"⟩
abbrev b_Mod_in : ByteArray := prog_8_method_4_code
def y_Mod_isStack : MethodName := ⟨"CoilSlitsModel", "isStack", "(I)Z"⟩
abbrev b_Mod_isStack : ByteArray := prog_8_method_5_code
def y_Mod_of : MethodName := ⟨"CoilSlitsModel", "of", "([III)I"⟩
abbrev b_Mod_of : ByteArray := prog_8_method_6_code
def y_Mod_by : MethodName := ⟨"CoilSlitsModel", "by", "([III)I"⟩
abbrev b_Mod_by : ByteArray := prog_8_method_7_code
def y_Mod_saves : MethodName := ⟨"CoilSlitsModel", "saves", "()V"⟩
abbrev b_Mod_saves : ByteArray := prog_8_method_8_code
def y_Mod_undo : MethodName := ⟨"CoilSlitsModel", "undo", "()I"⟩
abbrev b_Mod_undo : ByteArray := prog_8_method_9_code
def y_Mod_tries : MethodName := ⟨"CoilSlitsModel", "tries", "()V"⟩
abbrev b_Mod_tries : ByteArray := prog_8_method_10_code
def y_Mod_isAt : MethodName := ⟨"CoilSlitsModel", "isAt", "([II)Z"⟩
abbrev b_Mod_isAt : ByteArray := prog_8_method_11_code
def y_Mod_placeOf : MethodName := ⟨"CoilSlitsModel", "placeOf", "([II)I"⟩
abbrev b_Mod_placeOf : ByteArray := prog_8_method_12_code
def y_Mod_above : MethodName := ⟨"CoilSlitsModel", "above", "([II)I"⟩
abbrev b_Mod_above : ByteArray := prog_8_method_13_code
def y_Mod_orderAt : MethodName := ⟨"CoilSlitsModel", "orderAt", "([II)I"⟩
abbrev b_Mod_orderAt : ByteArray := prog_8_method_14_code
def y_Mod_far : MethodName := ⟨"CoilSlitsModel", "far", "(II)I"⟩
abbrev b_Mod_far : ByteArray := prog_8_method_15_code
def y_Mod_lays : MethodName := ⟨"CoilSlitsModel", "lays", "([IIIIIII)V"⟩
abbrev b_Mod_lays : ByteArray := prog_8_method_16_code
def y_Mod_topOf : MethodName := ⟨"CoilSlitsModel", "topOf", "([II)I"⟩
abbrev b_Mod_topOf : ByteArray := prog_8_method_17_code
def y_Mod_moves : MethodName := ⟨"CoilSlitsModel", "moves", "([III)I"⟩
abbrev b_Mod_moves : ByteArray := prog_8_method_18_code
def y_Mod_canDig : MethodName := ⟨"CoilSlitsModel", "canDig", "([II)Z"⟩
abbrev b_Mod_canDig : ByteArray := prog_8_method_19_code
def y_Mod_nearest : MethodName := ⟨"CoilSlitsModel", "nearest", "([II)I"⟩
abbrev b_Mod_nearest : ByteArray := prog_8_method_20_code
def y_Mod_digs : MethodName := ⟨"CoilSlitsModel", "digs", "([II)I"⟩
abbrev b_Mod_digs : ByteArray := prog_8_method_21_code
def y_Mod_fits : MethodName := ⟨"CoilSlitsModel", "fits", "([III)I"⟩
abbrev b_Mod_fits : ByteArray := prog_8_method_22_code
def y_Mod_reason : MethodName := ⟨"CoilSlitsModel", "reason", "([III)I"⟩
abbrev b_Mod_reason : ByteArray := prog_8_method_23_code
def y_Mod_cuts : MethodName := ⟨"CoilSlitsModel", "cuts", "([III)I"⟩
abbrev b_Mod_cuts : ByteArray := prog_8_method_24_code
def y_Mod_restOf : MethodName := ⟨"CoilSlitsModel", "restOf", "([III)I"⟩
abbrev b_Mod_restOf : ByteArray := prog_8_method_25_code
def y_Mod_chosen : MethodName := ⟨"CoilSlitsModel", "chosen", "([II)I"⟩
abbrev b_Mod_chosen : ByteArray := prog_8_method_26_code
def y_Mod_orderGoes : MethodName := ⟨"CoilSlitsModel", "orderGoes", "([II)V"⟩
abbrev b_Mod_orderGoes : ByteArray := prog_8_method_27_code
def y_Mod_slits : MethodName := ⟨"CoilSlitsModel", "slits", "([III)I"⟩
abbrev b_Mod_slits : ByteArray := prog_8_method_28_code
def y_Mod_serves : MethodName := ⟨"CoilSlitsModel", "serves", "([II)I"⟩
abbrev b_Mod_serves : ByteArray := prog_8_method_29_code
def y_Mod_nextOrder : MethodName := ⟨"CoilSlitsModel", "nextOrder", "([III)I"⟩
abbrev b_Mod_nextOrder : ByteArray := prog_8_method_30_code
def y_Mod_servesAll : MethodName := ⟨"CoilSlitsModel", "servesAll", "([I)I"⟩
abbrev b_Mod_servesAll : ByteArray := prog_8_method_31_code
def y_Mod_comes : MethodName := ⟨"CoilSlitsModel", "comes", "(IIII)I"⟩
abbrev b_Mod_comes : ByteArray := prog_8_method_32_code
def y_Mod_receive : MethodName := ⟨"CoilSlitsModel", "receive", "(IIII)I"⟩
abbrev b_Mod_receive : ByteArray := prog_8_method_33_code
def y_Mod_move : MethodName := ⟨"CoilSlitsModel", "move", "(II)I"⟩
abbrev b_Mod_move : ByteArray := prog_8_method_34_code
def y_Mod_mayDig : MethodName := ⟨"CoilSlitsModel", "mayDig", "(I)I"⟩
abbrev b_Mod_mayDig : ByteArray := prog_8_method_35_code
def y_Mod_dig : MethodName := ⟨"CoilSlitsModel", "dig", "(I)I"⟩
abbrev b_Mod_dig : ByteArray := prog_8_method_36_code
def y_Mod_sendAway : MethodName := ⟨"CoilSlitsModel", "sendAway", "(I)I"⟩
abbrev b_Mod_sendAway : ByteArray := prog_8_method_37_code
def y_Mod_order : MethodName := ⟨"CoilSlitsModel", "order", "(IIIII)I"⟩
abbrev b_Mod_order : ByteArray := prog_8_method_38_code
def y_Mod_cancel : MethodName := ⟨"CoilSlitsModel", "cancel", "(I)I"⟩
abbrev b_Mod_cancel : ByteArray := prog_8_method_39_code
def y_Mod_slit : MethodName := ⟨"CoilSlitsModel", "slit", "(II)I"⟩
abbrev b_Mod_slit : ByteArray := prog_8_method_40_code
def y_Mod_serve : MethodName := ⟨"CoilSlitsModel", "serve", "(I)I"⟩
abbrev b_Mod_serve : ByteArray := prog_8_method_41_code
def y_Mod_serveAll : MethodName := ⟨"CoilSlitsModel", "serveAll", "()I"⟩
abbrev b_Mod_serveAll : ByteArray := prog_8_method_42_code
def y_Mod_isFor : MethodName := ⟨"CoilSlitsModel", "isFor", "(II)Z"⟩
abbrev b_Mod_isFor : ByteArray := prog_8_method_43_code
def y_Mod_set : MethodName := ⟨"CoilSlitsModel", "set", "(II)I"⟩
abbrev b_Mod_set : ByteArray := prog_8_method_44_code
def y_Mod_append : MethodName := ⟨"CoilSlitsModel", "append", "(I)I"⟩
abbrev b_Mod_append : ByteArray := prog_8_method_45_code
def y_Mod_clearBuffer : MethodName := ⟨"CoilSlitsModel", "clearBuffer", "()I"⟩
abbrev b_Mod_clearBuffer : ByteArray := prog_8_method_46_code
def y_Mod_isNext : MethodName := ⟨"CoilSlitsModel", "isNext", "(II)Z"⟩
abbrev b_Mod_isNext : ByteArray := prog_8_method_47_code
def y_Mod_stops : MethodName := ⟨"CoilSlitsModel", "stops", "()Z"⟩
abbrev b_Mod_stops : ByteArray := prog_8_method_48_code
def y_Mod_isFigure : MethodName := ⟨"CoilSlitsModel", "isFigure", "(II)Z"⟩
abbrev b_Mod_isFigure : ByteArray := prog_8_method_49_code
def y_Mod_isWidth : MethodName := ⟨"CoilSlitsModel", "isWidth", "()Z"⟩
abbrev b_Mod_isWidth : ByteArray := prog_8_method_50_code
def y_Mod_isPart : MethodName := ⟨"CoilSlitsModel", "isPart", "()Z"⟩
abbrev b_Mod_isPart : ByteArray := prog_8_method_51_code
def y_Mod_isText : MethodName := ⟨"CoilSlitsModel", "isText", "()Z"⟩
abbrev b_Mod_isText : ByteArray := prog_8_method_52_code
def y_Mod_firstError : MethodName := ⟨"CoilSlitsModel", "firstError", "()I"⟩
abbrev b_Mod_firstError : ByteArray := prog_8_method_53_code
def y_Mod_lowest : MethodName := ⟨"CoilSlitsModel", "lowest", "()I"⟩
abbrev b_Mod_lowest : ByteArray := prog_8_method_54_code
def y_Mod_receiveAll : MethodName := ⟨"CoilSlitsModel", "receiveAll", "()I"⟩
abbrev b_Mod_receiveAll : ByteArray := prog_8_method_55_code
def y_Mod_coilAt : MethodName := ⟨"CoilSlitsModel", "coilAt", "(I)I"⟩
abbrev b_Mod_coilAt : ByteArray := prog_8_method_56_code
def y_Mod_at : MethodName := ⟨"CoilSlitsModel", "at", "(II)I"⟩
abbrev b_Mod_at : ByteArray := prog_8_method_57_code
def y_Mod_ofCoil : MethodName := ⟨"CoilSlitsModel", "ofCoil", "(II)I"⟩
abbrev b_Mod_ofCoil : ByteArray := prog_8_method_58_code
def y_Mod_coil : MethodName := ⟨"CoilSlitsModel", "coil", "(II)I"⟩
abbrev b_Mod_coil : ByteArray := prog_8_method_59_code
def y_Mod_ofOrder : MethodName := ⟨"CoilSlitsModel", "ofOrder", "(II)I"⟩
abbrev b_Mod_ofOrder : ByteArray := prog_8_method_60_code
def y_Mod_orderOf : MethodName := ⟨"CoilSlitsModel", "orderOf", "(II)I"⟩
abbrev b_Mod_orderOf : ByteArray := prog_8_method_61_code
def y_Mod_whyNot : MethodName := ⟨"CoilSlitsModel", "whyNot", "(II)I"⟩
abbrev b_Mod_whyNot : ByteArray := prog_8_method_62_code
def y_Mod_ofCoils : MethodName := ⟨"CoilSlitsModel", "ofCoils", "(I)I"⟩
abbrev b_Mod_ofCoils : ByteArray := prog_8_method_63_code
def y_Mod_counted : MethodName := ⟨"CoilSlitsModel", "counted", "(I)I"⟩
abbrev b_Mod_counted : ByteArray := prog_8_method_64_code
def y_Mod_count : MethodName := ⟨"CoilSlitsModel", "count", "(I)I"⟩
abbrev b_Mod_count : ByteArray := prog_8_method_65_code
def y_Mod_setting : MethodName := ⟨"CoilSlitsModel", "setting", "(I)I"⟩
abbrev b_Mod_setting : ByteArray := prog_8_method_66_code
def y_Mod_choiceFor : MethodName := ⟨"CoilSlitsModel", "choiceFor", "(I)I"⟩
abbrev b_Mod_choiceFor : ByteArray := prog_8_method_67_code
def y_Mod_choice : MethodName := ⟨"CoilSlitsModel", "choice", "(I)I"⟩
abbrev b_Mod_choice : ByteArray := prog_8_method_68_code
def y_Mod_byServing : MethodName := ⟨"CoilSlitsModel", "byServing", "(III)I"⟩
abbrev b_Mod_byServing : ByteArray := prog_8_method_69_code
def y_Mod_ifServed : MethodName := ⟨"CoilSlitsModel", "ifServed", "(III)I"⟩
abbrev b_Mod_ifServed : ByteArray := prog_8_method_70_code
def y_Mod_best : MethodName := ⟨"CoilSlitsModel", "best", "()I"⟩
abbrev b_Mod_best : ByteArray := prog_8_method_71_code
def y_Mod_bestRule : MethodName := ⟨"CoilSlitsModel", "bestRule", "()I"⟩
abbrev b_Mod_bestRule : ByteArray := prog_8_method_72_code
def y_Mod_wider : MethodName := ⟨"CoilSlitsModel", "wider", "(I)I"⟩
abbrev b_Mod_wider : ByteArray := prog_8_method_73_code
def y_Mod_bestPlace : MethodName := ⟨"CoilSlitsModel", "bestPlace", "()I"⟩
abbrev b_Mod_bestPlace : ByteArray := prog_8_method_74_code
def y_Mod_bestStack : MethodName := ⟨"CoilSlitsModel", "bestStack", "()I"⟩
abbrev b_Mod_bestStack : ByteArray := prog_8_method_75_code
def y_Mod_share : MethodName := ⟨"CoilSlitsModel", "share", "()D"⟩
abbrev b_Mod_share : ByteArray := prog_8_method_76_code
def y_Mod_used : MethodName := ⟨"CoilSlitsModel", "used", "()D"⟩
abbrev b_Mod_used : ByteArray := prog_8_method_77_code
def y_Dbl_isNaN : MethodName := ⟨"java/lang/Double", "isNaN", "(D)Z"⟩
abbrev b_Dbl_isNaN : ByteArray := prog_9_method_6_code
def y_Dbl_doubleToLongBits : MethodName := ⟨"java/lang/Double", "doubleToLongBits", "(D)J"⟩
abbrev b_Dbl_doubleToLongBits : ByteArray := prog_9_method_23_code
def y_Mod_digest : MethodName := ⟨"CoilSlitsModel", "digest", "()J"⟩
abbrev b_Mod_digest : ByteArray := prog_8_method_78_code
def y_Read_isComplete : MethodName := ⟨"CoilSlits$CoilReader", "isComplete", "()Z"⟩
abbrev b_Read_isComplete : ByteArray := prog_2_method_3_code
def y_Hist_restore : MethodName := ⟨"CoilSlits$History", "restore", "(LCoilSlits$Yard;)V"⟩
abbrev b_Hist_restore : ByteArray := prog_4_method_4_code
def y_Yard_hasSeen : MethodName := ⟨"CoilSlits$Yard", "hasSeen", "(I)Z"⟩
abbrev b_Yard_hasSeen : ByteArray := prog_6_method_8_code
def y_Yard_placeOf : MethodName := ⟨"CoilSlits$Yard", "placeOf", "(I)I"⟩
abbrev b_Yard_placeOf : ByteArray := prog_6_method_10_code
def y_Yard_sendTop : MethodName := ⟨"CoilSlits$Yard", "sendTop", "(I)I"⟩
abbrev b_Yard_sendTop : ByteArray := prog_6_method_21_code
def y_Yard_orderColumn : MethodName := ⟨"CoilSlits$Yard", "orderColumn", "(II)I"⟩
abbrev b_Yard_orderColumn : ByteArray := prog_6_method_26_code
def y_Yard_indexOfOrder : MethodName := ⟨"CoilSlits$Yard", "indexOfOrder", "(I)I"⟩
abbrev b_Yard_indexOfOrder : ByteArray := prog_6_method_27_code
def y_Yard_takeOrder : MethodName := ⟨"CoilSlits$Yard", "takeOrder", "(IIIII)I"⟩
abbrev b_Yard_takeOrder : ByteArray := prog_6_method_28_code
def y_Yard_reasonAgainst : MethodName := ⟨"CoilSlits$Yard", "reasonAgainst", "(II)I"⟩
abbrev b_Yard_reasonAgainst : ByteArray := prog_6_method_38_code
/-! the words of the tables, by their places -/
theorem tw_1 : Cond.initialized "CoilSlits" ∈ lw_tbl := tb_mem 1 (by decide +kernel)
theorem tw_2 : Cond.initialized "CoilSlits$Yard" ∈ lw_tbl := tb_mem 2 (by decide +kernel)
theorem tw_3 : Cond.initialized "CoilSlits$Grid" ∈ lw_tbl := tb_mem 3 (by decide +kernel)
theorem tw_4 : Cond.initialized "java/lang/Math" ∈ lw_tbl := tb_mem 4 (by decide +kernel)
theorem tw_5 : Cond.initialized "CoilSlits$Row" ∈ lw_tbl := tb_mem 5 (by decide +kernel)
theorem tw_6 : Cond.initialized "CoilSlits$History" ∈ lw_tbl := tb_mem 6 (by decide +kernel)
theorem tw_7 : Cond.initialized "CoilSlits$CoilReader" ∈ lw_tbl := tb_mem 7 (by decide +kernel)
theorem tw_8 : Cond.initialized "CoilSlitsModel" ∈ lw_tbl := tb_mem 8 (by decide +kernel)
theorem tw_15 : Cond.initialized "java/lang/System" ∈ lw_tbl := tb_mem 15 (by decide +kernel)
theorem tw_16 : Cond.initialized "java/lang/Double" ∈ lw_tbl := tb_mem 16 (by decide +kernel)
theorem tw_38 : Cond.static Lib.Math.max.name ∈ lw_tbl := tb_mem 38 (by decide +kernel)
set_option maxRecDepth 100000 in
theorem tw_xMax : Cond.code Lib.Math.max.name Lib.Math.max.code 2 (some .int) ∈ lw_tbl := tb_mem 39 rfl
theorem tw_59 : Cond.methodLink "CoilSlits$Yard" 38 y_Grid_put ∈ lw_tbl := tb_mem 59 (by decide +kernel)
theorem tw_60 : Cond.instanceMethod y_Grid_put ∈ lw_tbl := tb_mem 60 (by decide +kernel)
theorem tw_61 : Cond.selects y_Grid_put.cls y_Grid_put y_Grid_put ∈ lw_tbl := tb_mem 61 (by decide +kernel)
set_option maxRecDepth 100000 in
theorem tw_62 : Cond.code y_Grid_put b_Grid_put 6 none ∈ lw_tbl := tb_mem 62 rfl
theorem tw_65 : Cond.methodLink "CoilSlits$Yard" 46 y_Row_put ∈ lw_tbl := tb_mem 65 (by decide +kernel)
theorem tw_66 : Cond.instanceMethod y_Row_put ∈ lw_tbl := tb_mem 66 (by decide +kernel)
theorem tw_67 : Cond.selects y_Row_put.cls y_Row_put y_Row_put ∈ lw_tbl := tb_mem 67 (by decide +kernel)
set_option maxRecDepth 100000 in
theorem tw_68 : Cond.code y_Row_put b_Row_put 3 none ∈ lw_tbl := tb_mem 68 rfl
theorem tw_160 : Cond.methodLink "CoilSlits" 70 y_Hist_save ∈ lw_tbl := tb_mem 160 (by decide +kernel)
theorem tw_161 : Cond.instanceMethod y_Hist_save ∈ lw_tbl := tb_mem 161 (by decide +kernel)
theorem tw_162 : Cond.selects y_Hist_save.cls y_Hist_save y_Hist_save ∈ lw_tbl := tb_mem 162 (by decide +kernel)
set_option maxRecDepth 100000 in
theorem tw_163 : Cond.code y_Hist_save b_Hist_save 3 none ∈ lw_tbl := tb_mem 163 rfl
theorem tw_164 : Cond.methodLink "CoilSlits$History" 25 y_Hist_stateAt ∈ lw_tbl := tb_mem 164 (by decide +kernel)
theorem tw_166 : Cond.instanceMethod y_Hist_stateAt ∈ lw_tbl := tb_mem 166 (by decide +kernel)
set_option maxRecDepth 100000 in
theorem tw_167 : Cond.code y_Hist_stateAt b_Hist_stateAt 2 (some (.object "CoilSlits$Yard")) ∈ lw_tbl := tb_mem 167 rfl
theorem tw_168 : Cond.methodLink "CoilSlits$History" 29 y_Yard_copyFrom ∈ lw_tbl := tb_mem 168 (by decide +kernel)
theorem tw_169 : Cond.instanceMethod y_Yard_copyFrom ∈ lw_tbl := tb_mem 169 (by decide +kernel)
theorem tw_170 : Cond.selects y_Yard_copyFrom.cls y_Yard_copyFrom y_Yard_copyFrom ∈ lw_tbl := tb_mem 170 (by decide +kernel)
set_option maxRecDepth 100000 in
theorem tw_171 : Cond.code y_Yard_copyFrom b_Yard_copyFrom 2 none ∈ lw_tbl := tb_mem 171 rfl
theorem tw_172 : Cond.methodLink "CoilSlits$Yard" 48 y_Grid_copyFrom ∈ lw_tbl := tb_mem 172 (by decide +kernel)
theorem tw_173 : Cond.instanceMethod y_Grid_copyFrom ∈ lw_tbl := tb_mem 173 (by decide +kernel)
theorem tw_174 : Cond.selects y_Grid_copyFrom.cls y_Grid_copyFrom y_Grid_copyFrom ∈ lw_tbl := tb_mem 174 (by decide +kernel)
set_option maxRecDepth 100000 in
theorem tw_175 : Cond.code y_Grid_copyFrom b_Grid_copyFrom 3 none ∈ lw_tbl := tb_mem 175 rfl
theorem tw_176 : Cond.methodLink "CoilSlits$Grid" 29 Lib.Math.min.name ∈ lw_tbl := tb_mem 176 (by decide +kernel)
theorem tw_177 : Cond.static Lib.Math.min.name ∈ lw_tbl := tb_mem 177 (by decide +kernel)
set_option maxRecDepth 100000 in
theorem tw_xMin : Cond.code Lib.Math.min.name Lib.Math.min.code 2 (some .int) ∈ lw_tbl := tb_mem 178 rfl
theorem tw_179 : Cond.methodLink "CoilSlits$Grid" 23 arraycopyName ∈ lw_tbl := tb_mem 179 (by decide +kernel)
theorem tw_180 : Cond.static arraycopyName ∈ lw_tbl := tb_mem 180 (by decide +kernel)
theorem tw_181 : Cond.native arraycopyName ∈ lw_tbl := tb_mem 181 (by decide +kernel)
theorem tw_182 : Cond.methodLink "CoilSlits$Yard" 52 y_Row_copyFrom ∈ lw_tbl := tb_mem 182 (by decide +kernel)
theorem tw_183 : Cond.instanceMethod y_Row_copyFrom ∈ lw_tbl := tb_mem 183 (by decide +kernel)
theorem tw_184 : Cond.selects y_Row_copyFrom.cls y_Row_copyFrom y_Row_copyFrom ∈ lw_tbl := tb_mem 184 (by decide +kernel)
set_option maxRecDepth 100000 in
theorem tw_185 : Cond.code y_Row_copyFrom b_Row_copyFrom 3 none ∈ lw_tbl := tb_mem 185 rfl
theorem tw_186 : Cond.methodLink "CoilSlits$Row" 19 Lib.Math.min.name ∈ lw_tbl := tb_mem 186 (by decide +kernel)
theorem tw_187 : Cond.methodLink "CoilSlits$Row" 22 arraycopyName ∈ lw_tbl := tb_mem 187 (by decide +kernel)
theorem tw_188 : Cond.methodLink "CoilSlits$History" 33 Lib.Math.min.name ∈ lw_tbl := tb_mem 188 (by decide +kernel)
theorem tw_189 : Cond.methodLink "CoilSlits" 148 y_Yard_fulfilEach ∈ lw_tbl := tb_mem 189 (by decide +kernel)
theorem tw_190 : Cond.instanceMethod y_Yard_fulfilEach ∈ lw_tbl := tb_mem 190 (by decide +kernel)
theorem tw_191 : Cond.selects y_Yard_fulfilEach.cls y_Yard_fulfilEach y_Yard_fulfilEach ∈ lw_tbl := tb_mem 191 (by decide +kernel)
set_option maxRecDepth 100000 in
theorem tw_192 : Cond.code y_Yard_fulfilEach b_Yard_fulfilEach 6 (some .int) ∈ lw_tbl := tb_mem 192 rfl
theorem tw_193 : Cond.methodLink "CoilSlits$Yard" 150 y_Yard_dearestBehind ∈ lw_tbl := tb_mem 193 (by decide +kernel)
theorem tw_195 : Cond.instanceMethod y_Yard_dearestBehind ∈ lw_tbl := tb_mem 195 (by decide +kernel)
set_option maxRecDepth 100000 in
theorem tw_196 : Cond.code y_Yard_dearestBehind b_Yard_dearestBehind 7 (some .int) ∈ lw_tbl := tb_mem 196 rfl
theorem tw_197 : Cond.methodLink "CoilSlits$Yard" 69 y_Grid_get ∈ lw_tbl := tb_mem 197 (by decide +kernel)
theorem tw_198 : Cond.instanceMethod y_Grid_get ∈ lw_tbl := tb_mem 198 (by decide +kernel)
theorem tw_199 : Cond.selects y_Grid_get.cls y_Grid_get y_Grid_get ∈ lw_tbl := tb_mem 199 (by decide +kernel)
set_option maxRecDepth 100000 in
theorem tw_200 : Cond.code y_Grid_get b_Grid_get 5 (some .int) ∈ lw_tbl := tb_mem 200 rfl
theorem tw_201 : Cond.methodLink "CoilSlits$Yard" 153 y_Yard_fulfil ∈ lw_tbl := tb_mem 201 (by decide +kernel)
theorem tw_202 : Cond.instanceMethod y_Yard_fulfil ∈ lw_tbl := tb_mem 202 (by decide +kernel)
theorem tw_203 : Cond.selects y_Yard_fulfil.cls y_Yard_fulfil y_Yard_fulfil ∈ lw_tbl := tb_mem 203 (by decide +kernel)
set_option maxRecDepth 100000 in
theorem tw_204 : Cond.code y_Yard_fulfil b_Yard_fulfil 6 (some .int) ∈ lw_tbl := tb_mem 204 rfl
theorem tw_205 : Cond.methodLink "CoilSlits$Yard" 138 y_Yard_choose ∈ lw_tbl := tb_mem 205 (by decide +kernel)
theorem tw_206 : Cond.instanceMethod y_Yard_choose ∈ lw_tbl := tb_mem 206 (by decide +kernel)
theorem tw_207 : Cond.selects y_Yard_choose.cls y_Yard_choose y_Yard_choose ∈ lw_tbl := tb_mem 207 (by decide +kernel)
set_option maxRecDepth 100000 in
theorem tw_208 : Cond.code y_Yard_choose b_Yard_choose 8 (some .int) ∈ lw_tbl := tb_mem 208 rfl
theorem tw_209 : Cond.methodLink "CoilSlits$Yard" 111 y_Yard_widthTaken ∈ lw_tbl := tb_mem 209 (by decide +kernel)
theorem tw_211 : Cond.instanceMethod y_Yard_widthTaken ∈ lw_tbl := tb_mem 211 (by decide +kernel)
set_option maxRecDepth 100000 in
theorem tw_212 : Cond.code y_Yard_widthTaken b_Yard_widthTaken 2 (some .int) ∈ lw_tbl := tb_mem 212 rfl
theorem tw_213 : Cond.methodLink "CoilSlits$Yard" 65 y_Row_get ∈ lw_tbl := tb_mem 213 (by decide +kernel)
theorem tw_214 : Cond.instanceMethod y_Row_get ∈ lw_tbl := tb_mem 214 (by decide +kernel)
theorem tw_215 : Cond.selects y_Row_get.cls y_Row_get y_Row_get ∈ lw_tbl := tb_mem 215 (by decide +kernel)
set_option maxRecDepth 100000 in
theorem tw_216 : Cond.code y_Row_get b_Row_get 2 (some .int) ∈ lw_tbl := tb_mem 216 rfl
theorem tw_217 : Cond.methodLink "CoilSlits$Yard" 121 y_Yard_mismatch ∈ lw_tbl := tb_mem 217 (by decide +kernel)
theorem tw_219 : Cond.instanceMethod y_Yard_mismatch ∈ lw_tbl := tb_mem 219 (by decide +kernel)
set_option maxRecDepth 100000 in
theorem tw_220 : Cond.code y_Yard_mismatch b_Yard_mismatch 4 (some .int) ∈ lw_tbl := tb_mem 220 rfl
theorem tw_221 : Cond.methodLink "CoilSlits$Yard" 125 y_Yard_canDig ∈ lw_tbl := tb_mem 221 (by decide +kernel)
theorem tw_222 : Cond.instanceMethod y_Yard_canDig ∈ lw_tbl := tb_mem 222 (by decide +kernel)
theorem tw_223 : Cond.selects y_Yard_canDig.cls y_Yard_canDig y_Yard_canDig ∈ lw_tbl := tb_mem 223 (by decide +kernel)
set_option maxRecDepth 100000 in
theorem tw_224 : Cond.code y_Yard_canDig b_Yard_canDig 5 (some .boolean) ∈ lw_tbl := tb_mem 224 rfl
theorem tw_225 : Cond.methodLink "CoilSlits$Yard" 75 y_Yard_coilsAbove ∈ lw_tbl := tb_mem 225 (by decide +kernel)
theorem tw_226 : Cond.instanceMethod y_Yard_coilsAbove ∈ lw_tbl := tb_mem 226 (by decide +kernel)
theorem tw_227 : Cond.selects y_Yard_coilsAbove.cls y_Yard_coilsAbove y_Yard_coilsAbove ∈ lw_tbl := tb_mem 227 (by decide +kernel)
set_option maxRecDepth 100000 in
theorem tw_228 : Cond.code y_Yard_coilsAbove b_Yard_coilsAbove 2 (some .int) ∈ lw_tbl := tb_mem 228 rfl
theorem tw_229 : Cond.methodLink "CoilSlits$Yard" 129 y_Yard_worthByRule ∈ lw_tbl := tb_mem 229 (by decide +kernel)
theorem tw_231 : Cond.instanceMethod y_Yard_worthByRule ∈ lw_tbl := tb_mem 231 (by decide +kernel)
set_option maxRecDepth 100000 in
theorem tw_232 : Cond.code y_Yard_worthByRule b_Yard_worthByRule 5 (some .int) ∈ lw_tbl := tb_mem 232 rfl
theorem tw_233 : Cond.methodLink "CoilSlits$Yard" 118 y_Yard_stripsIn ∈ lw_tbl := tb_mem 233 (by decide +kernel)
theorem tw_234 : Cond.static y_Yard_stripsIn ∈ lw_tbl := tb_mem 234 (by decide +kernel)
set_option maxRecDepth 100000 in
theorem tw_235 : Cond.code y_Yard_stripsIn b_Yard_stripsIn 2 (some .int) ∈ lw_tbl := tb_mem 235 rfl
theorem tw_236 : Cond.methodLink "CoilSlits$Yard" 132 Lib.Math.min.name ∈ lw_tbl := tb_mem 236 (by decide +kernel)
theorem tw_237 : Cond.methodLink "CoilSlits$Yard" 141 y_Yard_digOut ∈ lw_tbl := tb_mem 237 (by decide +kernel)
theorem tw_238 : Cond.instanceMethod y_Yard_digOut ∈ lw_tbl := tb_mem 238 (by decide +kernel)
theorem tw_239 : Cond.selects y_Yard_digOut.cls y_Yard_digOut y_Yard_digOut ∈ lw_tbl := tb_mem 239 (by decide +kernel)
set_option maxRecDepth 100000 in
theorem tw_240 : Cond.code y_Yard_digOut b_Yard_digOut 5 (some .int) ∈ lw_tbl := tb_mem 240 rfl
theorem tw_242 : Cond.static y_Slit_stackOf ∈ lw_tbl := tb_mem 242 (by decide +kernel)
set_option maxRecDepth 100000 in
theorem tw_243 : Cond.code y_Slit_stackOf b_Slit_stackOf 1 (some .int) ∈ lw_tbl := tb_mem 243 rfl
theorem tw_244 : Cond.methodLink "CoilSlits$Yard" 96 y_Yard_emptiestBeside ∈ lw_tbl := tb_mem 244 (by decide +kernel)
theorem tw_246 : Cond.instanceMethod y_Yard_emptiestBeside ∈ lw_tbl := tb_mem 246 (by decide +kernel)
set_option maxRecDepth 100000 in
theorem tw_247 : Cond.code y_Yard_emptiestBeside b_Yard_emptiestBeside 7 (some .int) ∈ lw_tbl := tb_mem 247 rfl
theorem tw_248 : Cond.methodLink "CoilSlits$Yard" 88 Lib.Math.abs.name ∈ lw_tbl := tb_mem 248 (by decide +kernel)
theorem tw_249 : Cond.static Lib.Math.abs.name ∈ lw_tbl := tb_mem 249 (by decide +kernel)
set_option maxRecDepth 100000 in
theorem tw_xAbs : Cond.code Lib.Math.abs.name Lib.Math.abs.code 1 (some .int) ∈ lw_tbl := tb_mem 250 rfl
theorem tw_251 : Cond.methodLink "CoilSlits$Yard" 99 y_Yard_moveTop ∈ lw_tbl := tb_mem 251 (by decide +kernel)
theorem tw_252 : Cond.instanceMethod y_Yard_moveTop ∈ lw_tbl := tb_mem 252 (by decide +kernel)
theorem tw_253 : Cond.selects y_Yard_moveTop.cls y_Yard_moveTop y_Yard_moveTop ∈ lw_tbl := tb_mem 253 (by decide +kernel)
set_option maxRecDepth 100000 in
theorem tw_254 : Cond.code y_Yard_moveTop b_Yard_moveTop 5 (some .int) ∈ lw_tbl := tb_mem 254 rfl
theorem tw_255 : Cond.methodLink "CoilSlits$Yard" 85 y_Grid_copyRow ∈ lw_tbl := tb_mem 255 (by decide +kernel)
theorem tw_256 : Cond.instanceMethod y_Grid_copyRow ∈ lw_tbl := tb_mem 256 (by decide +kernel)
theorem tw_257 : Cond.selects y_Grid_copyRow.cls y_Grid_copyRow y_Grid_copyRow ∈ lw_tbl := tb_mem 257 (by decide +kernel)
set_option maxRecDepth 100000 in
theorem tw_258 : Cond.code y_Grid_copyRow b_Grid_copyRow 6 none ∈ lw_tbl := tb_mem 258 rfl
theorem tw_259 : Cond.methodLink "CoilSlits$Yard" 78 y_Row_add ∈ lw_tbl := tb_mem 259 (by decide +kernel)
theorem tw_260 : Cond.instanceMethod y_Row_add ∈ lw_tbl := tb_mem 260 (by decide +kernel)
theorem tw_261 : Cond.selects y_Row_add.cls y_Row_add y_Row_add ∈ lw_tbl := tb_mem 261 (by decide +kernel)
set_option maxRecDepth 100000 in
theorem tw_262 : Cond.code y_Row_add b_Row_add 3 none ∈ lw_tbl := tb_mem 262 rfl
theorem tw_263 : Cond.methodLink "CoilSlits$Yard" 144 y_Yard_cutTop ∈ lw_tbl := tb_mem 263 (by decide +kernel)
theorem tw_264 : Cond.instanceMethod y_Yard_cutTop ∈ lw_tbl := tb_mem 264 (by decide +kernel)
theorem tw_265 : Cond.selects y_Yard_cutTop.cls y_Yard_cutTop y_Yard_cutTop ∈ lw_tbl := tb_mem 265 (by decide +kernel)
set_option maxRecDepth 100000 in
theorem tw_266 : Cond.code y_Yard_cutTop b_Yard_cutTop 11 (some .int) ∈ lw_tbl := tb_mem 266 rfl
theorem tw_267 : Cond.methodLink "CoilSlits$Yard" 93 y_Yard_takeTop ∈ lw_tbl := tb_mem 267 (by decide +kernel)
theorem tw_269 : Cond.instanceMethod y_Yard_takeTop ∈ lw_tbl := tb_mem 269 (by decide +kernel)
set_option maxRecDepth 100000 in
theorem tw_270 : Cond.code y_Yard_takeTop b_Yard_takeTop 2 none ∈ lw_tbl := tb_mem 270 rfl
theorem tw_271 : Cond.methodLink "CoilSlits$Yard" 135 Lib.Math.max.name ∈ lw_tbl := tb_mem 271 (by decide +kernel)
theorem tw_272 : Cond.methodLink "CoilSlits$Yard" 81 y_Yard_putOnTop ∈ lw_tbl := tb_mem 272 (by decide +kernel)
theorem tw_274 : Cond.instanceMethod y_Yard_putOnTop ∈ lw_tbl := tb_mem 274 (by decide +kernel)
set_option maxRecDepth 100000 in
theorem tw_275 : Cond.code y_Yard_putOnTop b_Yard_putOnTop 8 (some .int) ∈ lw_tbl := tb_mem 275 rfl
theorem tw_276 : Cond.methodLink "CoilSlits$Yard" 147 y_Yard_dropIfDone ∈ lw_tbl := tb_mem 276 (by decide +kernel)
theorem tw_277 : Cond.instanceMethod y_Yard_dropIfDone ∈ lw_tbl := tb_mem 277 (by decide +kernel)
theorem tw_278 : Cond.selects y_Yard_dropIfDone.cls y_Yard_dropIfDone y_Yard_dropIfDone ∈ lw_tbl := tb_mem 278 (by decide +kernel)
set_option maxRecDepth 100000 in
theorem tw_279 : Cond.code y_Yard_dropIfDone b_Yard_dropIfDone 2 none ∈ lw_tbl := tb_mem 279 rfl
theorem tw_280 : Cond.methodLink "CoilSlits$Yard" 102 y_Yard_dropOrder ∈ lw_tbl := tb_mem 280 (by decide +kernel)
theorem tw_281 : Cond.instanceMethod y_Yard_dropOrder ∈ lw_tbl := tb_mem 281 (by decide +kernel)
theorem tw_282 : Cond.selects y_Yard_dropOrder.cls y_Yard_dropOrder y_Yard_dropOrder ∈ lw_tbl := tb_mem 282 (by decide +kernel)
set_option maxRecDepth 100000 in
theorem tw_283 : Cond.code y_Yard_dropOrder b_Yard_dropOrder 3 none ∈ lw_tbl := tb_mem 283 rfl
theorem tw_292 : Cond.methodLink "CoilSlits" 183 y_Slit_readBuffer ∈ lw_tbl := tb_mem 292 (by decide +kernel)
theorem tw_294 : Cond.instanceMethod y_Slit_readBuffer ∈ lw_tbl := tb_mem 294 (by decide +kernel)
set_option maxRecDepth 100000 in
theorem tw_295 : Cond.code y_Slit_readBuffer b_Slit_readBuffer 2 (some .int) ∈ lw_tbl := tb_mem 295 rfl
theorem tw_296 : Cond.methodLink "CoilSlits" 290 y_Read_restart ∈ lw_tbl := tb_mem 296 (by decide +kernel)
theorem tw_297 : Cond.instanceMethod y_Read_restart ∈ lw_tbl := tb_mem 297 (by decide +kernel)
theorem tw_298 : Cond.selects y_Read_restart.cls y_Read_restart y_Read_restart ∈ lw_tbl := tb_mem 298 (by decide +kernel)
set_option maxRecDepth 100000 in
theorem tw_299 : Cond.code y_Read_restart b_Read_restart 1 none ∈ lw_tbl := tb_mem 299 rfl
theorem tw_300 : Cond.methodLink "CoilSlits" 272 y_Row_get ∈ lw_tbl := tb_mem 300 (by decide +kernel)
theorem tw_301 : Cond.methodLink "CoilSlits" 293 y_Read_accepts ∈ lw_tbl := tb_mem 301 (by decide +kernel)
theorem tw_302 : Cond.instanceMethod y_Read_accepts ∈ lw_tbl := tb_mem 302 (by decide +kernel)
theorem tw_303 : Cond.selects y_Read_accepts.cls y_Read_accepts y_Read_accepts ∈ lw_tbl := tb_mem 303 (by decide +kernel)
set_option maxRecDepth 100000 in
theorem tw_304 : Cond.code y_Read_accepts b_Read_accepts 3 (some .boolean) ∈ lw_tbl := tb_mem 304 rfl
theorem tw_305 : Cond.methodLink "CoilSlits$CoilReader" 27 y_Read_beginsPart ∈ lw_tbl := tb_mem 305 (by decide +kernel)
theorem tw_307 : Cond.instanceMethod y_Read_beginsPart ∈ lw_tbl := tb_mem 307 (by decide +kernel)
set_option maxRecDepth 100000 in
theorem tw_308 : Cond.code y_Read_beginsPart b_Read_beginsPart 2 (some .boolean) ∈ lw_tbl := tb_mem 308 rfl
theorem tw_309 : Cond.methodLink "CoilSlits$CoilReader" 31 y_Read_expects ∈ lw_tbl := tb_mem 309 (by decide +kernel)
theorem tw_311 : Cond.instanceMethod y_Read_expects ∈ lw_tbl := tb_mem 311 (by decide +kernel)
set_option maxRecDepth 100000 in
theorem tw_312 : Cond.code y_Read_expects b_Read_expects 2 (some .boolean) ∈ lw_tbl := tb_mem 312 rfl
theorem tw_313 : Cond.methodLink "CoilSlits$CoilReader" 34 y_Read_widens ∈ lw_tbl := tb_mem 313 (by decide +kernel)
theorem tw_315 : Cond.instanceMethod y_Read_widens ∈ lw_tbl := tb_mem 315 (by decide +kernel)
set_option maxRecDepth 100000 in
theorem tw_316 : Cond.code y_Read_widens b_Read_widens 3 (some .boolean) ∈ lw_tbl := tb_mem 316 rfl
theorem tw_318 : Cond.static y_Slit_within ∈ lw_tbl := tb_mem 318 (by decide +kernel)
set_option maxRecDepth 100000 in
theorem tw_319 : Cond.code y_Slit_within b_Slit_within 3 (some .boolean) ∈ lw_tbl := tb_mem 319 rfl
theorem tw_320 : Cond.methodLink "CoilSlits$CoilReader" 41 y_Read_takesGrade ∈ lw_tbl := tb_mem 320 (by decide +kernel)
theorem tw_322 : Cond.instanceMethod y_Read_takesGrade ∈ lw_tbl := tb_mem 322 (by decide +kernel)
set_option maxRecDepth 100000 in
theorem tw_323 : Cond.code y_Read_takesGrade b_Read_takesGrade 2 (some .boolean) ∈ lw_tbl := tb_mem 323 rfl
theorem tw_324 : Cond.methodLink "CoilSlits$CoilReader" 44 y_Read_takesQuality ∈ lw_tbl := tb_mem 324 (by decide +kernel)
theorem tw_326 : Cond.instanceMethod y_Read_takesQuality ∈ lw_tbl := tb_mem 326 (by decide +kernel)
set_option maxRecDepth 100000 in
theorem tw_327 : Cond.code y_Read_takesQuality b_Read_takesQuality 2 (some .boolean) ∈ lw_tbl := tb_mem 327 rfl
theorem tw_329 : Cond.static y_Slit_isStack ∈ lw_tbl := tb_mem 329 (by decide +kernel)
set_option maxRecDepth 100000 in
theorem tw_330 : Cond.code y_Slit_isStack b_Slit_isStack 1 (some .boolean) ∈ lw_tbl := tb_mem 330 rfl
theorem tw_331 : Cond.methodLink "CoilSlits" 53 y_Slit_within ∈ lw_tbl := tb_mem 331 (by decide +kernel)
theorem tw_332 : Cond.methodLink "CoilSlits$CoilReader" 50 y_Read_takesStack ∈ lw_tbl := tb_mem 332 (by decide +kernel)
theorem tw_334 : Cond.instanceMethod y_Read_takesStack ∈ lw_tbl := tb_mem 334 (by decide +kernel)
set_option maxRecDepth 100000 in
theorem tw_335 : Cond.code y_Read_takesStack b_Read_takesStack 2 (some .boolean) ∈ lw_tbl := tb_mem 335 rfl
theorem tw_336 : Cond.methodLink "CoilSlits$CoilReader" 53 y_Read_goesOn ∈ lw_tbl := tb_mem 336 (by decide +kernel)
theorem tw_338 : Cond.instanceMethod y_Read_goesOn ∈ lw_tbl := tb_mem 338 (by decide +kernel)
set_option maxRecDepth 100000 in
theorem tw_339 : Cond.code y_Read_goesOn b_Read_goesOn 2 (some .boolean) ∈ lw_tbl := tb_mem 339 rfl
theorem tw_341 : Cond.instanceMethod y_Slit_bestRule ∈ lw_tbl := tb_mem 341 (by decide +kernel)
theorem tw_342 : Cond.selects y_Slit_bestRule.cls y_Slit_bestRule y_Slit_bestRule ∈ lw_tbl := tb_mem 342 (by decide +kernel)
set_option maxRecDepth 100000 in
theorem tw_343 : Cond.code y_Slit_bestRule b_Slit_bestRule 10 (some .int) ∈ lw_tbl := tb_mem 343 rfl
theorem tw_344 : Cond.methodLink "CoilSlits" 233 y_Slit_beginTrial ∈ lw_tbl := tb_mem 344 (by decide +kernel)
theorem tw_346 : Cond.instanceMethod y_Slit_beginTrial ∈ lw_tbl := tb_mem 346 (by decide +kernel)
set_option maxRecDepth 100000 in
theorem tw_347 : Cond.code y_Slit_beginTrial b_Slit_beginTrial 2 none ∈ lw_tbl := tb_mem 347 rfl
theorem tw_348 : Cond.methodLink "CoilSlits" 284 y_Yard_copyFrom ∈ lw_tbl := tb_mem 348 (by decide +kernel)
theorem tw_349 : Cond.methodLink "CoilSlits" 168 y_Yard_changeSetting ∈ lw_tbl := tb_mem 349 (by decide +kernel)
theorem tw_350 : Cond.instanceMethod y_Yard_changeSetting ∈ lw_tbl := tb_mem 350 (by decide +kernel)
theorem tw_351 : Cond.selects y_Yard_changeSetting.cls y_Yard_changeSetting y_Yard_changeSetting ∈ lw_tbl := tb_mem 351 (by decide +kernel)
set_option maxRecDepth 100000 in
theorem tw_352 : Cond.code y_Yard_changeSetting b_Yard_changeSetting 3 none ∈ lw_tbl := tb_mem 352 rfl
theorem tw_353 : Cond.methodLink "CoilSlits" 239 y_Yard_tally ∈ lw_tbl := tb_mem 353 (by decide +kernel)
theorem tw_354 : Cond.instanceMethod y_Yard_tally ∈ lw_tbl := tb_mem 354 (by decide +kernel)
theorem tw_355 : Cond.selects y_Yard_tally.cls y_Yard_tally y_Yard_tally ∈ lw_tbl := tb_mem 355 (by decide +kernel)
set_option maxRecDepth 100000 in
theorem tw_356 : Cond.code y_Yard_tally b_Yard_tally 2 (some .int) ∈ lw_tbl := tb_mem 356 rfl
theorem tw_358 : Cond.instanceMethod y_Slit_bestStack ∈ lw_tbl := tb_mem 358 (by decide +kernel)
theorem tw_359 : Cond.selects y_Slit_bestStack.cls y_Slit_bestStack y_Slit_bestStack ∈ lw_tbl := tb_mem 359 (by decide +kernel)
set_option maxRecDepth 100000 in
theorem tw_360 : Cond.code y_Slit_bestStack b_Slit_bestStack 7 (some .int) ∈ lw_tbl := tb_mem 360 rfl
theorem tw_361 : Cond.methodLink "CoilSlits" 242 y_Yard_widerThanTop ∈ lw_tbl := tb_mem 361 (by decide +kernel)
theorem tw_362 : Cond.instanceMethod y_Yard_widerThanTop ∈ lw_tbl := tb_mem 362 (by decide +kernel)
theorem tw_363 : Cond.selects y_Yard_widerThanTop.cls y_Yard_widerThanTop y_Yard_widerThanTop ∈ lw_tbl := tb_mem 363 (by decide +kernel)
set_option maxRecDepth 100000 in
theorem tw_364 : Cond.code y_Yard_widerThanTop b_Yard_widerThanTop 6 (some .int) ∈ lw_tbl := tb_mem 364 rfl
theorem tw_365 : Cond.methodLink "CoilSlits" 80 y_Yard_heightOf ∈ lw_tbl := tb_mem 365 (by decide +kernel)
theorem tw_366 : Cond.instanceMethod y_Yard_heightOf ∈ lw_tbl := tb_mem 366 (by decide +kernel)
theorem tw_367 : Cond.selects y_Yard_heightOf.cls y_Yard_heightOf y_Yard_heightOf ∈ lw_tbl := tb_mem 367 (by decide +kernel)
set_option maxRecDepth 100000 in
theorem tw_368 : Cond.code y_Yard_heightOf b_Yard_heightOf 2 (some .int) ∈ lw_tbl := tb_mem 368 rfl
theorem tw_369 : Cond.methodLink "CoilSlits" 62 y_Yard_hasRoom ∈ lw_tbl := tb_mem 369 (by decide +kernel)
theorem tw_370 : Cond.instanceMethod y_Yard_hasRoom ∈ lw_tbl := tb_mem 370 (by decide +kernel)
theorem tw_371 : Cond.selects y_Yard_hasRoom.cls y_Yard_hasRoom y_Yard_hasRoom ∈ lw_tbl := tb_mem 371 (by decide +kernel)
set_option maxRecDepth 100000 in
theorem tw_372 : Cond.code y_Yard_hasRoom b_Yard_hasRoom 2 (some .boolean) ∈ lw_tbl := tb_mem 372 rfl
theorem tw_374 : Cond.instanceMethod y_Slit_used ∈ lw_tbl := tb_mem 374 (by decide +kernel)
theorem tw_375 : Cond.selects y_Slit_used.cls y_Slit_used y_Slit_used ∈ lw_tbl := tb_mem 375 (by decide +kernel)
set_option maxRecDepth 100000 in
theorem tw_376 : Cond.code y_Slit_used b_Slit_used 3 (some .double) ∈ lw_tbl := tb_mem 376 rfl
theorem tw_382 : Cond.methodLink "CoilSlits" 225 y_Slit_counted ∈ lw_tbl := tb_mem 382 (by decide +kernel)
theorem tw_384 : Cond.instanceMethod y_Slit_counted ∈ lw_tbl := tb_mem 384 (by decide +kernel)
set_option maxRecDepth 100000 in
theorem tw_385 : Cond.code y_Slit_counted b_Slit_counted 2 (some .int) ∈ lw_tbl := tb_mem 385 rfl
theorem tw_386 : Cond.methodLink "CoilSlits" 275 y_Yard_coilCount ∈ lw_tbl := tb_mem 386 (by decide +kernel)
theorem tw_387 : Cond.instanceMethod y_Yard_coilCount ∈ lw_tbl := tb_mem 387 (by decide +kernel)
theorem tw_388 : Cond.selects y_Yard_coilCount.cls y_Yard_coilCount y_Yard_coilCount ∈ lw_tbl := tb_mem 388 (by decide +kernel)
set_option maxRecDepth 100000 in
theorem tw_389 : Cond.code y_Yard_coilCount b_Yard_coilCount 3 (some .int) ∈ lw_tbl := tb_mem 389 rfl
theorem tw_390 : Cond.methodLink "CoilSlits" 278 y_Yard_sumOfCoils ∈ lw_tbl := tb_mem 390 (by decide +kernel)
theorem tw_391 : Cond.instanceMethod y_Yard_sumOfCoils ∈ lw_tbl := tb_mem 391 (by decide +kernel)
theorem tw_392 : Cond.selects y_Yard_sumOfCoils.cls y_Yard_sumOfCoils y_Yard_sumOfCoils ∈ lw_tbl := tb_mem 392 (by decide +kernel)
set_option maxRecDepth 100000 in
theorem tw_393 : Cond.code y_Yard_sumOfCoils b_Yard_sumOfCoils 4 (some .int) ∈ lw_tbl := tb_mem 393 rfl
theorem tw_394 : Cond.methodLink "CoilSlits" 111 y_Yard_orderCount ∈ lw_tbl := tb_mem 394 (by decide +kernel)
theorem tw_395 : Cond.instanceMethod y_Yard_orderCount ∈ lw_tbl := tb_mem 395 (by decide +kernel)
theorem tw_396 : Cond.selects y_Yard_orderCount.cls y_Yard_orderCount y_Yard_orderCount ∈ lw_tbl := tb_mem 396 (by decide +kernel)
set_option maxRecDepth 100000 in
theorem tw_397 : Cond.code y_Yard_orderCount b_Yard_orderCount 1 (some .int) ∈ lw_tbl := tb_mem 397 rfl
theorem tw_398 : Cond.methodLink "CoilSlits" 195 y_Hist_kept ∈ lw_tbl := tb_mem 398 (by decide +kernel)
theorem tw_399 : Cond.instanceMethod y_Hist_kept ∈ lw_tbl := tb_mem 399 (by decide +kernel)
theorem tw_400 : Cond.selects y_Hist_kept.cls y_Hist_kept y_Hist_kept ∈ lw_tbl := tb_mem 400 (by decide +kernel)
set_option maxRecDepth 100000 in
theorem tw_401 : Cond.code y_Hist_kept b_Hist_kept 1 (some .int) ∈ lw_tbl := tb_mem 401 rfl
theorem tw_402 : Cond.methodLink "CoilSlits" 247 y_Slit_hashed ∈ lw_tbl := tb_mem 402 (by decide +kernel)
theorem tw_403 : Cond.static y_Slit_hashed ∈ lw_tbl := tb_mem 403 (by decide +kernel)
set_option maxRecDepth 100000 in
theorem tw_404 : Cond.code y_Slit_hashed b_Slit_hashed 4 (some .long) ∈ lw_tbl := tb_mem 404 rfl
theorem tw_406 : Cond.methodLink "CoilSlits" 165 y_Yard_settingNow ∈ lw_tbl := tb_mem 406 (by decide +kernel)
theorem tw_407 : Cond.instanceMethod y_Yard_settingNow ∈ lw_tbl := tb_mem 407 (by decide +kernel)
theorem tw_408 : Cond.selects y_Yard_settingNow.cls y_Yard_settingNow y_Yard_settingNow ∈ lw_tbl := tb_mem 408 (by decide +kernel)
set_option maxRecDepth 100000 in
theorem tw_409 : Cond.code y_Yard_settingNow b_Yard_settingNow 2 (some .int) ∈ lw_tbl := tb_mem 409 rfl
theorem tw_410 : Cond.methodLink "CoilSlits" 251 y_Slit_hashedPlace ∈ lw_tbl := tb_mem 410 (by decide +kernel)
theorem tw_412 : Cond.instanceMethod y_Slit_hashedPlace ∈ lw_tbl := tb_mem 412 (by decide +kernel)
set_option maxRecDepth 100000 in
theorem tw_413 : Cond.code y_Slit_hashedPlace b_Slit_hashedPlace 8 (some .long) ∈ lw_tbl := tb_mem 413 rfl
theorem tw_414 : Cond.methodLink "CoilSlits" 205 y_Yard_numberAt ∈ lw_tbl := tb_mem 414 (by decide +kernel)
theorem tw_415 : Cond.instanceMethod y_Yard_numberAt ∈ lw_tbl := tb_mem 415 (by decide +kernel)
theorem tw_416 : Cond.selects y_Yard_numberAt.cls y_Yard_numberAt y_Yard_numberAt ∈ lw_tbl := tb_mem 416 (by decide +kernel)
set_option maxRecDepth 100000 in
theorem tw_417 : Cond.code y_Yard_numberAt b_Yard_numberAt 2 (some .int) ∈ lw_tbl := tb_mem 417 rfl
theorem tw_418 : Cond.methodLink "CoilSlits" 215 y_Yard_coilProperty ∈ lw_tbl := tb_mem 418 (by decide +kernel)
theorem tw_419 : Cond.instanceMethod y_Yard_coilProperty ∈ lw_tbl := tb_mem 419 (by decide +kernel)
theorem tw_420 : Cond.selects y_Yard_coilProperty.cls y_Yard_coilProperty y_Yard_coilProperty ∈ lw_tbl := tb_mem 420 (by decide +kernel)
set_option maxRecDepth 100000 in
theorem tw_421 : Cond.code y_Yard_coilProperty b_Yard_coilProperty 3 (some .int) ∈ lw_tbl := tb_mem 421 rfl
theorem tw_422 : Cond.methodLink "CoilSlits" 255 y_Slit_hashedOrder ∈ lw_tbl := tb_mem 422 (by decide +kernel)
theorem tw_424 : Cond.instanceMethod y_Slit_hashedOrder ∈ lw_tbl := tb_mem 424 (by decide +kernel)
set_option maxRecDepth 100000 in
theorem tw_425 : Cond.code y_Slit_hashedOrder b_Slit_hashedOrder 8 (some .long) ∈ lw_tbl := tb_mem 425 rfl
theorem tw_426 : Cond.methodLink "CoilSlits" 220 y_Yard_orderProperty ∈ lw_tbl := tb_mem 426 (by decide +kernel)
theorem tw_427 : Cond.instanceMethod y_Yard_orderProperty ∈ lw_tbl := tb_mem 427 (by decide +kernel)
theorem tw_428 : Cond.selects y_Yard_orderProperty.cls y_Yard_orderProperty y_Yard_orderProperty ∈ lw_tbl := tb_mem 428 (by decide +kernel)
set_option maxRecDepth 100000 in
theorem tw_429 : Cond.code y_Yard_orderProperty b_Yard_orderProperty 3 (some .int) ∈ lw_tbl := tb_mem 429 rfl
theorem tw_430 : Cond.methodLink "CoilSlits$Yard" 105 y_Yard_coilsSuiting ∈ lw_tbl := tb_mem 430 (by decide +kernel)
theorem tw_432 : Cond.instanceMethod y_Yard_coilsSuiting ∈ lw_tbl := tb_mem 432 (by decide +kernel)
set_option maxRecDepth 100000 in
theorem tw_433 : Cond.code y_Yard_coilsSuiting b_Yard_coilsSuiting 5 (some .int) ∈ lw_tbl := tb_mem 433 rfl
theorem tw_434 : Cond.methodLink "CoilSlits$Yard" 114 y_Yard_suits ∈ lw_tbl := tb_mem 434 (by decide +kernel)
theorem tw_436 : Cond.instanceMethod y_Yard_suits ∈ lw_tbl := tb_mem 436 (by decide +kernel)
set_option maxRecDepth 100000 in
theorem tw_437 : Cond.code y_Yard_suits b_Yard_suits 4 (some .boolean) ∈ lw_tbl := tb_mem 437 rfl
theorem tw_438 : Cond.methodLink "CoilSlits$Yard" 108 y_Yard_stripsFitting ∈ lw_tbl := tb_mem 438 (by decide +kernel)
theorem tw_440 : Cond.instanceMethod y_Yard_stripsFitting ∈ lw_tbl := tb_mem 440 (by decide +kernel)
set_option maxRecDepth 100000 in
theorem tw_441 : Cond.code y_Yard_stripsFitting b_Yard_stripsFitting 5 (some .int) ∈ lw_tbl := tb_mem 441 rfl
theorem tw_442 : Cond.methodLink "CoilSlits" 228 y_Slit_numberOfChoice ∈ lw_tbl := tb_mem 442 (by decide +kernel)
theorem tw_444 : Cond.instanceMethod y_Slit_numberOfChoice ∈ lw_tbl := tb_mem 444 (by decide +kernel)
set_option maxRecDepth 100000 in
theorem tw_445 : Cond.code y_Slit_numberOfChoice b_Slit_numberOfChoice 3 (some .int) ∈ lw_tbl := tb_mem 445 rfl
theorem tw_446 : Cond.methodLink "CoilSlits" 281 y_Yard_choose ∈ lw_tbl := tb_mem 446 (by decide +kernel)
theorem tw_447 : Cond.methodLink "CoilSlits" 145 y_Yard_fulfil ∈ lw_tbl := tb_mem 447 (by decide +kernel)
theorem tw_448 : Cond.methodLink "CoilSlits" 236 y_Slit_gainOfTrial ∈ lw_tbl := tb_mem 448 (by decide +kernel)
theorem tw_450 : Cond.instanceMethod y_Slit_gainOfTrial ∈ lw_tbl := tb_mem 450 (by decide +kernel)
set_option maxRecDepth 100000 in
theorem tw_451 : Cond.code y_Slit_gainOfTrial b_Slit_gainOfTrial 2 (some .int) ∈ lw_tbl := tb_mem 451 rfl
theorem tw_452 : Cond.methodLink "CoilSlits" 287 y_Slit_gained ∈ lw_tbl := tb_mem 452 (by decide +kernel)
theorem tw_454 : Cond.instanceMethod y_Slit_gained ∈ lw_tbl := tb_mem 454 (by decide +kernel)
set_option maxRecDepth 100000 in
theorem tw_455 : Cond.code y_Slit_gained b_Slit_gained 2 (some .int) ∈ lw_tbl := tb_mem 455 rfl
theorem tw_456 : Cond.methodLink "CoilSlits" 258 y_Slit_bestRule ∈ lw_tbl := tb_mem 456 (by decide +kernel)
theorem tw_457 : Cond.methodLink "CoilSlits" 261 y_Slit_bestStack ∈ lw_tbl := tb_mem 457 (by decide +kernel)
theorem tw_458 : Cond.methodLink "CoilSlits" 264 y_Slit_used ∈ lw_tbl := tb_mem 458 (by decide +kernel)
theorem tw_459 : Cond.methodLink "CoilSlits" 268 y_Slit_bitsOf ∈ lw_tbl := tb_mem 459 (by decide +kernel)
theorem tw_460 : Cond.static y_Slit_bitsOf ∈ lw_tbl := tb_mem 460 (by decide +kernel)
set_option maxRecDepth 100000 in
theorem tw_461 : Cond.code y_Slit_bitsOf b_Slit_bitsOf 8 (some .long) ∈ lw_tbl := tb_mem 461 rfl
theorem tw_576 : Cond.methodLink "CoilSlits" 74 y_Yard_bringIn ∈ lw_tbl := tb_mem 576 (by decide +kernel)
theorem tw_577 : Cond.instanceMethod y_Yard_bringIn ∈ lw_tbl := tb_mem 577 (by decide +kernel)
theorem tw_578 : Cond.selects y_Yard_bringIn.cls y_Yard_bringIn y_Yard_bringIn ∈ lw_tbl := tb_mem 578 (by decide +kernel)
set_option maxRecDepth 100000 in
theorem tw_579 : Cond.code y_Yard_bringIn b_Yard_bringIn 5 (some .int) ∈ lw_tbl := tb_mem 579 rfl
theorem tw_711 : Cond.methodLink "CoilSlits" 296 y_Read_stack ∈ lw_tbl := tb_mem 711 (by decide +kernel)
theorem tw_712 : Cond.instanceMethod y_Read_stack ∈ lw_tbl := tb_mem 712 (by decide +kernel)
theorem tw_713 : Cond.selects y_Read_stack.cls y_Read_stack y_Read_stack ∈ lw_tbl := tb_mem 713 (by decide +kernel)
set_option maxRecDepth 100000 in
theorem tw_714 : Cond.code y_Read_stack b_Read_stack 1 (some .int) ∈ lw_tbl := tb_mem 714 rfl
theorem tw_715 : Cond.methodLink "CoilSlits" 299 y_Yard_emptiest ∈ lw_tbl := tb_mem 715 (by decide +kernel)
theorem tw_716 : Cond.instanceMethod y_Yard_emptiest ∈ lw_tbl := tb_mem 716 (by decide +kernel)
theorem tw_717 : Cond.selects y_Yard_emptiest.cls y_Yard_emptiest y_Yard_emptiest ∈ lw_tbl := tb_mem 717 (by decide +kernel)
set_option maxRecDepth 100000 in
theorem tw_718 : Cond.code y_Yard_emptiest b_Yard_emptiest 3 (some .int) ∈ lw_tbl := tb_mem 718 rfl
theorem tw_719 : Cond.methodLink "CoilSlits" 302 y_Read_width ∈ lw_tbl := tb_mem 719 (by decide +kernel)
theorem tw_720 : Cond.instanceMethod y_Read_width ∈ lw_tbl := tb_mem 720 (by decide +kernel)
theorem tw_721 : Cond.selects y_Read_width.cls y_Read_width y_Read_width ∈ lw_tbl := tb_mem 721 (by decide +kernel)
set_option maxRecDepth 100000 in
theorem tw_722 : Cond.code y_Read_width b_Read_width 1 (some .int) ∈ lw_tbl := tb_mem 722 rfl
theorem tw_723 : Cond.methodLink "CoilSlits" 305 y_Read_grade ∈ lw_tbl := tb_mem 723 (by decide +kernel)
theorem tw_724 : Cond.instanceMethod y_Read_grade ∈ lw_tbl := tb_mem 724 (by decide +kernel)
theorem tw_725 : Cond.selects y_Read_grade.cls y_Read_grade y_Read_grade ∈ lw_tbl := tb_mem 725 (by decide +kernel)
set_option maxRecDepth 100000 in
theorem tw_726 : Cond.code y_Read_grade b_Read_grade 1 (some .int) ∈ lw_tbl := tb_mem 726 rfl
theorem tw_727 : Cond.methodLink "CoilSlits" 308 y_Read_quality ∈ lw_tbl := tb_mem 727 (by decide +kernel)
theorem tw_728 : Cond.instanceMethod y_Read_quality ∈ lw_tbl := tb_mem 728 (by decide +kernel)
theorem tw_729 : Cond.selects y_Read_quality.cls y_Read_quality y_Read_quality ∈ lw_tbl := tb_mem 729 (by decide +kernel)
set_option maxRecDepth 100000 in
theorem tw_730 : Cond.code y_Read_quality b_Read_quality 1 (some .int) ∈ lw_tbl := tb_mem 730 rfl
theorem tw_743 : Cond.methodLink "CoilSlits$History" 39 Lib.Math.max.name ∈ lw_tbl := tb_mem 743 (by decide +kernel)
theorem tw_858 : Cond.methodLink "CoilSlitsModel" 36 y_Mod_fails ∈ lw_tbl := tb_mem 858 (by decide +kernel)
theorem tw_860 : Cond.instanceMethod y_Mod_fails ∈ lw_tbl := tb_mem 860 (by decide +kernel)
set_option maxRecDepth 100000 in
theorem tw_861 : Cond.code y_Mod_fails b_Mod_fails 2 (some .int) ∈ lw_tbl := tb_mem 861 rfl
theorem tw_866 : Cond.methodLink "CoilSlitsModel" 109 y_Mod_isStack ∈ lw_tbl := tb_mem 866 (by decide +kernel)
theorem tw_867 : Cond.static y_Mod_isStack ∈ lw_tbl := tb_mem 867 (by decide +kernel)
set_option maxRecDepth 100000 in
theorem tw_868 : Cond.code y_Mod_isStack b_Mod_isStack 1 (some .boolean) ∈ lw_tbl := tb_mem 868 rfl
theorem tw_869 : Cond.methodLink "CoilSlitsModel" 29 y_Mod_in ∈ lw_tbl := tb_mem 869 (by decide +kernel)
theorem tw_870 : Cond.static y_Mod_in ∈ lw_tbl := tb_mem 870 (by decide +kernel)
set_option maxRecDepth 100000 in
theorem tw_871 : Cond.code y_Mod_in b_Mod_in 3 (some .boolean) ∈ lw_tbl := tb_mem 871 rfl
theorem tw_872 : Cond.methodLink "CoilSlitsModel" 113 y_Mod_saves ∈ lw_tbl := tb_mem 872 (by decide +kernel)
theorem tw_874 : Cond.instanceMethod y_Mod_saves ∈ lw_tbl := tb_mem 874 (by decide +kernel)
set_option maxRecDepth 100000 in
theorem tw_875 : Cond.code y_Mod_saves b_Mod_saves 2 none ∈ lw_tbl := tb_mem 875 rfl
theorem tw_876 : Cond.methodLink "CoilSlitsModel" 116 y_Mod_comes ∈ lw_tbl := tb_mem 876 (by decide +kernel)
theorem tw_878 : Cond.instanceMethod y_Mod_comes ∈ lw_tbl := tb_mem 878 (by decide +kernel)
set_option maxRecDepth 100000 in
theorem tw_879 : Cond.code y_Mod_comes b_Mod_comes 5 (some .int) ∈ lw_tbl := tb_mem 879 rfl
theorem tw_880 : Cond.methodLink "CoilSlitsModel" 55 y_Mod_lays ∈ lw_tbl := tb_mem 880 (by decide +kernel)
theorem tw_881 : Cond.static y_Mod_lays ∈ lw_tbl := tb_mem 881 (by decide +kernel)
set_option maxRecDepth 100000 in
theorem tw_882 : Cond.code y_Mod_lays b_Mod_lays 8 none ∈ lw_tbl := tb_mem 882 rfl
theorem tw_887 : Cond.methodLink "CoilSlitsModel" 69 y_Mod_moves ∈ lw_tbl := tb_mem 887 (by decide +kernel)
theorem tw_888 : Cond.static y_Mod_moves ∈ lw_tbl := tb_mem 888 (by decide +kernel)
set_option maxRecDepth 100000 in
theorem tw_889 : Cond.code y_Mod_moves b_Mod_moves 5 (some .int) ∈ lw_tbl := tb_mem 889 rfl
theorem tw_890 : Cond.methodLink "CoilSlitsModel" 51 y_Mod_topOf ∈ lw_tbl := tb_mem 890 (by decide +kernel)
theorem tw_891 : Cond.static y_Mod_topOf ∈ lw_tbl := tb_mem 891 (by decide +kernel)
set_option maxRecDepth 100000 in
theorem tw_892 : Cond.code y_Mod_topOf b_Mod_topOf 2 (some .int) ∈ lw_tbl := tb_mem 892 rfl
theorem tw_893 : Cond.methodLink "CoilSlitsModel" 44 y_Mod_of ∈ lw_tbl := tb_mem 893 (by decide +kernel)
theorem tw_894 : Cond.static y_Mod_of ∈ lw_tbl := tb_mem 894 (by decide +kernel)
set_option maxRecDepth 100000 in
theorem tw_895 : Cond.code y_Mod_of b_Mod_of 3 (some .int) ∈ lw_tbl := tb_mem 895 rfl
theorem tw_896 : Cond.methodLink "CoilSlitsModel" 59 y_Mod_far ∈ lw_tbl := tb_mem 896 (by decide +kernel)
theorem tw_897 : Cond.static y_Mod_far ∈ lw_tbl := tb_mem 897 (by decide +kernel)
set_option maxRecDepth 100000 in
theorem tw_898 : Cond.code y_Mod_far b_Mod_far 2 (some .int) ∈ lw_tbl := tb_mem 898 rfl
theorem tw_903 : Cond.methodLink "CoilSlitsModel" 120 y_Mod_placeOf ∈ lw_tbl := tb_mem 903 (by decide +kernel)
theorem tw_904 : Cond.static y_Mod_placeOf ∈ lw_tbl := tb_mem 904 (by decide +kernel)
set_option maxRecDepth 100000 in
theorem tw_905 : Cond.code y_Mod_placeOf b_Mod_placeOf 3 (some .int) ∈ lw_tbl := tb_mem 905 rfl
theorem tw_906 : Cond.methodLink "CoilSlitsModel" 40 y_Mod_isAt ∈ lw_tbl := tb_mem 906 (by decide +kernel)
theorem tw_907 : Cond.static y_Mod_isAt ∈ lw_tbl := tb_mem 907 (by decide +kernel)
set_option maxRecDepth 100000 in
theorem tw_908 : Cond.code y_Mod_isAt b_Mod_isAt 2 (some .boolean) ∈ lw_tbl := tb_mem 908 rfl
theorem tw_909 : Cond.methodLink "CoilSlitsModel" 123 y_Mod_mayDig ∈ lw_tbl := tb_mem 909 (by decide +kernel)
theorem tw_911 : Cond.instanceMethod y_Mod_mayDig ∈ lw_tbl := tb_mem 911 (by decide +kernel)
set_option maxRecDepth 100000 in
theorem tw_912 : Cond.code y_Mod_mayDig b_Mod_mayDig 2 (some .int) ∈ lw_tbl := tb_mem 912 rfl
theorem tw_913 : Cond.methodLink "CoilSlitsModel" 75 y_Mod_canDig ∈ lw_tbl := tb_mem 913 (by decide +kernel)
theorem tw_914 : Cond.static y_Mod_canDig ∈ lw_tbl := tb_mem 914 (by decide +kernel)
set_option maxRecDepth 100000 in
theorem tw_915 : Cond.code y_Mod_canDig b_Mod_canDig 4 (some .boolean) ∈ lw_tbl := tb_mem 915 rfl
theorem tw_916 : Cond.methodLink "CoilSlitsModel" 63 y_Mod_above ∈ lw_tbl := tb_mem 916 (by decide +kernel)
theorem tw_917 : Cond.static y_Mod_above ∈ lw_tbl := tb_mem 917 (by decide +kernel)
set_option maxRecDepth 100000 in
theorem tw_918 : Cond.code y_Mod_above b_Mod_above 2 (some .int) ∈ lw_tbl := tb_mem 918 rfl
theorem tw_919 : Cond.methodLink "CoilSlitsModel" 87 y_Mod_digs ∈ lw_tbl := tb_mem 919 (by decide +kernel)
theorem tw_920 : Cond.static y_Mod_digs ∈ lw_tbl := tb_mem 920 (by decide +kernel)
set_option maxRecDepth 100000 in
theorem tw_921 : Cond.code y_Mod_digs b_Mod_digs 4 (some .int) ∈ lw_tbl := tb_mem 921 rfl
theorem tw_922 : Cond.methodLink "CoilSlitsModel" 66 y_Mod_nearest ∈ lw_tbl := tb_mem 922 (by decide +kernel)
theorem tw_923 : Cond.static y_Mod_nearest ∈ lw_tbl := tb_mem 923 (by decide +kernel)
set_option maxRecDepth 100000 in
theorem tw_924 : Cond.code y_Mod_nearest b_Mod_nearest 6 (some .int) ∈ lw_tbl := tb_mem 924 rfl
theorem tw_937 : Cond.methodLink "CoilSlitsModel" 94 y_Mod_orderAt ∈ lw_tbl := tb_mem 937 (by decide +kernel)
theorem tw_938 : Cond.static y_Mod_orderAt ∈ lw_tbl := tb_mem 938 (by decide +kernel)
set_option maxRecDepth 100000 in
theorem tw_939 : Cond.code y_Mod_orderAt b_Mod_orderAt 3 (some .int) ∈ lw_tbl := tb_mem 939 rfl
theorem tw_940 : Cond.methodLink "CoilSlitsModel" 48 y_Mod_by ∈ lw_tbl := tb_mem 940 (by decide +kernel)
theorem tw_941 : Cond.static y_Mod_by ∈ lw_tbl := tb_mem 941 (by decide +kernel)
set_option maxRecDepth 100000 in
theorem tw_942 : Cond.code y_Mod_by b_Mod_by 3 (some .int) ∈ lw_tbl := tb_mem 942 rfl
theorem tw_943 : Cond.methodLink "CoilSlitsModel" 90 y_Mod_orderGoes ∈ lw_tbl := tb_mem 943 (by decide +kernel)
theorem tw_944 : Cond.static y_Mod_orderGoes ∈ lw_tbl := tb_mem 944 (by decide +kernel)
set_option maxRecDepth 100000 in
theorem tw_945 : Cond.code y_Mod_orderGoes b_Mod_orderGoes 3 none ∈ lw_tbl := tb_mem 945 rfl
theorem tw_950 : Cond.methodLink "CoilSlitsModel" 81 y_Mod_reason ∈ lw_tbl := tb_mem 950 (by decide +kernel)
theorem tw_951 : Cond.static y_Mod_reason ∈ lw_tbl := tb_mem 951 (by decide +kernel)
set_option maxRecDepth 100000 in
theorem tw_952 : Cond.code y_Mod_reason b_Mod_reason 3 (some .int) ∈ lw_tbl := tb_mem 952 rfl
theorem tw_953 : Cond.methodLink "CoilSlitsModel" 72 y_Mod_fits ∈ lw_tbl := tb_mem 953 (by decide +kernel)
theorem tw_954 : Cond.static y_Mod_fits ∈ lw_tbl := tb_mem 954 (by decide +kernel)
set_option maxRecDepth 100000 in
theorem tw_955 : Cond.code y_Mod_fits b_Mod_fits 3 (some .int) ∈ lw_tbl := tb_mem 955 rfl
theorem tw_956 : Cond.methodLink "CoilSlitsModel" 100 y_Mod_slits ∈ lw_tbl := tb_mem 956 (by decide +kernel)
theorem tw_957 : Cond.static y_Mod_slits ∈ lw_tbl := tb_mem 957 (by decide +kernel)
set_option maxRecDepth 100000 in
theorem tw_958 : Cond.code y_Mod_slits b_Mod_slits 6 (some .int) ∈ lw_tbl := tb_mem 958 rfl
theorem tw_959 : Cond.methodLink "CoilSlitsModel" 78 y_Mod_cuts ∈ lw_tbl := tb_mem 959 (by decide +kernel)
theorem tw_960 : Cond.static y_Mod_cuts ∈ lw_tbl := tb_mem 960 (by decide +kernel)
set_option maxRecDepth 100000 in
theorem tw_961 : Cond.code y_Mod_cuts b_Mod_cuts 4 (some .int) ∈ lw_tbl := tb_mem 961 rfl
theorem tw_962 : Cond.methodLink "CoilSlitsModel" 84 y_Mod_restOf ∈ lw_tbl := tb_mem 962 (by decide +kernel)
theorem tw_963 : Cond.static y_Mod_restOf ∈ lw_tbl := tb_mem 963 (by decide +kernel)
set_option maxRecDepth 100000 in
theorem tw_964 : Cond.code y_Mod_restOf b_Mod_restOf 3 (some .int) ∈ lw_tbl := tb_mem 964 rfl
theorem tw_969 : Cond.methodLink "CoilSlitsModel" 106 y_Mod_serves ∈ lw_tbl := tb_mem 969 (by decide +kernel)
theorem tw_970 : Cond.static y_Mod_serves ∈ lw_tbl := tb_mem 970 (by decide +kernel)
set_option maxRecDepth 100000 in
theorem tw_971 : Cond.code y_Mod_serves b_Mod_serves 5 (some .int) ∈ lw_tbl := tb_mem 971 rfl
theorem tw_972 : Cond.methodLink "CoilSlitsModel" 97 y_Mod_chosen ∈ lw_tbl := tb_mem 972 (by decide +kernel)
theorem tw_973 : Cond.static y_Mod_chosen ∈ lw_tbl := tb_mem 973 (by decide +kernel)
set_option maxRecDepth 100000 in
theorem tw_974 : Cond.code y_Mod_chosen b_Mod_chosen 7 (some .int) ∈ lw_tbl := tb_mem 974 rfl
theorem tw_979 : Cond.methodLink "CoilSlitsModel" 126 y_Mod_servesAll ∈ lw_tbl := tb_mem 979 (by decide +kernel)
theorem tw_980 : Cond.static y_Mod_servesAll ∈ lw_tbl := tb_mem 980 (by decide +kernel)
set_option maxRecDepth 100000 in
theorem tw_981 : Cond.code y_Mod_servesAll b_Mod_servesAll 5 (some .int) ∈ lw_tbl := tb_mem 981 rfl
theorem tw_982 : Cond.methodLink "CoilSlitsModel" 103 y_Mod_nextOrder ∈ lw_tbl := tb_mem 982 (by decide +kernel)
theorem tw_983 : Cond.static y_Mod_nextOrder ∈ lw_tbl := tb_mem 983 (by decide +kernel)
set_option maxRecDepth 100000 in
theorem tw_984 : Cond.code y_Mod_nextOrder b_Mod_nextOrder 6 (some .int) ∈ lw_tbl := tb_mem 984 rfl
theorem tw_989 : Cond.methodLink "CoilSlitsModel" 130 y_Mod_isFor ∈ lw_tbl := tb_mem 989 (by decide +kernel)
theorem tw_990 : Cond.static y_Mod_isFor ∈ lw_tbl := tb_mem 990 (by decide +kernel)
set_option maxRecDepth 100000 in
theorem tw_991 : Cond.code y_Mod_isFor b_Mod_isFor 2 (some .boolean) ∈ lw_tbl := tb_mem 991 rfl
theorem tw_1004 : Cond.methodLink "CoilSlitsModel" 163 y_Mod_isText ∈ lw_tbl := tb_mem 1004 (by decide +kernel)
theorem tw_1006 : Cond.instanceMethod y_Mod_isText ∈ lw_tbl := tb_mem 1006 (by decide +kernel)
set_option maxRecDepth 100000 in
theorem tw_1007 : Cond.code y_Mod_isText b_Mod_isText 2 (some .boolean) ∈ lw_tbl := tb_mem 1007 rfl
theorem tw_1008 : Cond.methodLink "CoilSlitsModel" 160 y_Mod_isPart ∈ lw_tbl := tb_mem 1008 (by decide +kernel)
theorem tw_1010 : Cond.instanceMethod y_Mod_isPart ∈ lw_tbl := tb_mem 1010 (by decide +kernel)
set_option maxRecDepth 100000 in
theorem tw_1011 : Cond.code y_Mod_isPart b_Mod_isPart 1 (some .boolean) ∈ lw_tbl := tb_mem 1011 rfl
theorem tw_1012 : Cond.methodLink "CoilSlitsModel" 154 y_Mod_isWidth ∈ lw_tbl := tb_mem 1012 (by decide +kernel)
theorem tw_1014 : Cond.instanceMethod y_Mod_isWidth ∈ lw_tbl := tb_mem 1014 (by decide +kernel)
set_option maxRecDepth 100000 in
theorem tw_1015 : Cond.code y_Mod_isWidth b_Mod_isWidth 2 (some .boolean) ∈ lw_tbl := tb_mem 1015 rfl
theorem tw_1016 : Cond.methodLink "CoilSlitsModel" 144 y_Mod_isNext ∈ lw_tbl := tb_mem 1016 (by decide +kernel)
theorem tw_1018 : Cond.instanceMethod y_Mod_isNext ∈ lw_tbl := tb_mem 1018 (by decide +kernel)
set_option maxRecDepth 100000 in
theorem tw_1019 : Cond.code y_Mod_isNext b_Mod_isNext 3 (some .boolean) ∈ lw_tbl := tb_mem 1019 rfl
theorem tw_1020 : Cond.methodLink "CoilSlitsModel" 147 y_Mod_stops ∈ lw_tbl := tb_mem 1020 (by decide +kernel)
theorem tw_1022 : Cond.instanceMethod y_Mod_stops ∈ lw_tbl := tb_mem 1022 (by decide +kernel)
set_option maxRecDepth 100000 in
theorem tw_1023 : Cond.code y_Mod_stops b_Mod_stops 1 (some .boolean) ∈ lw_tbl := tb_mem 1023 rfl
theorem tw_1024 : Cond.methodLink "CoilSlitsModel" 157 y_Mod_isFigure ∈ lw_tbl := tb_mem 1024 (by decide +kernel)
theorem tw_1026 : Cond.instanceMethod y_Mod_isFigure ∈ lw_tbl := tb_mem 1026 (by decide +kernel)
set_option maxRecDepth 100000 in
theorem tw_1027 : Cond.code y_Mod_isFigure b_Mod_isFigure 3 (some .boolean) ∈ lw_tbl := tb_mem 1027 rfl
theorem tw_1032 : Cond.methodLink "CoilSlitsModel" 166 y_Mod_lowest ∈ lw_tbl := tb_mem 1032 (by decide +kernel)
theorem tw_1034 : Cond.instanceMethod y_Mod_lowest ∈ lw_tbl := tb_mem 1034 (by decide +kernel)
set_option maxRecDepth 100000 in
theorem tw_1035 : Cond.code y_Mod_lowest b_Mod_lowest 3 (some .int) ∈ lw_tbl := tb_mem 1035 rfl
theorem tw_1040 : Cond.methodLink "CoilSlitsModel" 170 y_Mod_coilAt ∈ lw_tbl := tb_mem 1040 (by decide +kernel)
theorem tw_1042 : Cond.instanceMethod y_Mod_coilAt ∈ lw_tbl := tb_mem 1042 (by decide +kernel)
set_option maxRecDepth 100000 in
theorem tw_1043 : Cond.code y_Mod_coilAt b_Mod_coilAt 2 (some .int) ∈ lw_tbl := tb_mem 1043 rfl
theorem tw_1048 : Cond.methodLink "CoilSlitsModel" 173 y_Mod_ofCoil ∈ lw_tbl := tb_mem 1048 (by decide +kernel)
theorem tw_1050 : Cond.instanceMethod y_Mod_ofCoil ∈ lw_tbl := tb_mem 1050 (by decide +kernel)
set_option maxRecDepth 100000 in
theorem tw_1051 : Cond.code y_Mod_ofCoil b_Mod_ofCoil 3 (some .int) ∈ lw_tbl := tb_mem 1051 rfl
theorem tw_1056 : Cond.methodLink "CoilSlitsModel" 176 y_Mod_ofOrder ∈ lw_tbl := tb_mem 1056 (by decide +kernel)
theorem tw_1058 : Cond.instanceMethod y_Mod_ofOrder ∈ lw_tbl := tb_mem 1058 (by decide +kernel)
set_option maxRecDepth 100000 in
theorem tw_1059 : Cond.code y_Mod_ofOrder b_Mod_ofOrder 5 (some .int) ∈ lw_tbl := tb_mem 1059 rfl
theorem tw_1068 : Cond.methodLink "CoilSlitsModel" 182 y_Mod_counted ∈ lw_tbl := tb_mem 1068 (by decide +kernel)
theorem tw_1070 : Cond.instanceMethod y_Mod_counted ∈ lw_tbl := tb_mem 1070 (by decide +kernel)
set_option maxRecDepth 100000 in
theorem tw_1071 : Cond.code y_Mod_counted b_Mod_counted 2 (some .int) ∈ lw_tbl := tb_mem 1071 rfl
theorem tw_1072 : Cond.methodLink "CoilSlitsModel" 179 y_Mod_ofCoils ∈ lw_tbl := tb_mem 1072 (by decide +kernel)
theorem tw_1074 : Cond.instanceMethod y_Mod_ofCoils ∈ lw_tbl := tb_mem 1074 (by decide +kernel)
set_option maxRecDepth 100000 in
theorem tw_1075 : Cond.code y_Mod_ofCoils b_Mod_ofCoils 4 (some .int) ∈ lw_tbl := tb_mem 1075 rfl
theorem tw_1084 : Cond.methodLink "CoilSlitsModel" 185 y_Mod_choiceFor ∈ lw_tbl := tb_mem 1084 (by decide +kernel)
theorem tw_1086 : Cond.instanceMethod y_Mod_choiceFor ∈ lw_tbl := tb_mem 1086 (by decide +kernel)
set_option maxRecDepth 100000 in
theorem tw_1087 : Cond.code y_Mod_choiceFor b_Mod_choiceFor 3 (some .int) ∈ lw_tbl := tb_mem 1087 rfl
theorem tw_1092 : Cond.methodLink "CoilSlitsModel" 191 y_Mod_byServing ∈ lw_tbl := tb_mem 1092 (by decide +kernel)
theorem tw_1094 : Cond.instanceMethod y_Mod_byServing ∈ lw_tbl := tb_mem 1094 (by decide +kernel)
set_option maxRecDepth 100000 in
theorem tw_1095 : Cond.code y_Mod_byServing b_Mod_byServing 5 (some .int) ∈ lw_tbl := tb_mem 1095 rfl
theorem tw_1096 : Cond.methodLink "CoilSlitsModel" 188 y_Mod_tries ∈ lw_tbl := tb_mem 1096 (by decide +kernel)
theorem tw_1098 : Cond.instanceMethod y_Mod_tries ∈ lw_tbl := tb_mem 1098 (by decide +kernel)
set_option maxRecDepth 100000 in
theorem tw_1099 : Cond.code y_Mod_tries b_Mod_tries 2 none ∈ lw_tbl := tb_mem 1099 rfl
theorem tw_1104 : Cond.methodLink "CoilSlitsModel" 195 y_Mod_best ∈ lw_tbl := tb_mem 1104 (by decide +kernel)
theorem tw_1106 : Cond.instanceMethod y_Mod_best ∈ lw_tbl := tb_mem 1106 (by decide +kernel)
set_option maxRecDepth 100000 in
theorem tw_1107 : Cond.code y_Mod_best b_Mod_best 7 (some .int) ∈ lw_tbl := tb_mem 1107 rfl
theorem tw_1112 : Cond.methodLink "CoilSlitsModel" 201 y_Mod_bestPlace ∈ lw_tbl := tb_mem 1112 (by decide +kernel)
theorem tw_1114 : Cond.instanceMethod y_Mod_bestPlace ∈ lw_tbl := tb_mem 1114 (by decide +kernel)
set_option maxRecDepth 100000 in
theorem tw_1115 : Cond.code y_Mod_bestPlace b_Mod_bestPlace 5 (some .int) ∈ lw_tbl := tb_mem 1115 rfl
theorem tw_1116 : Cond.methodLink "CoilSlitsModel" 198 y_Mod_wider ∈ lw_tbl := tb_mem 1116 (by decide +kernel)
theorem tw_1118 : Cond.instanceMethod y_Mod_wider ∈ lw_tbl := tb_mem 1118 (by decide +kernel)
set_option maxRecDepth 100000 in
theorem tw_1119 : Cond.code y_Mod_wider b_Mod_wider 4 (some .int) ∈ lw_tbl := tb_mem 1119 rfl
theorem tw_1124 : Cond.methodLink "CoilSlitsModel" 204 y_Mod_share ∈ lw_tbl := tb_mem 1124 (by decide +kernel)
theorem tw_1126 : Cond.instanceMethod y_Mod_share ∈ lw_tbl := tb_mem 1126 (by decide +kernel)
set_option maxRecDepth 100000 in
theorem tw_1127 : Cond.code y_Mod_share b_Mod_share 2 (some .double) ∈ lw_tbl := tb_mem 1127 rfl
theorem tw_1134 : Cond.methodLink "CoilSlitsModel" 212 y_Dbl_doubleToLongBits ∈ lw_tbl := tb_mem 1134 (by decide +kernel)
theorem tw_1135 : Cond.static y_Dbl_doubleToLongBits ∈ lw_tbl := tb_mem 1135 (by decide +kernel)
set_option maxRecDepth 100000 in
theorem tw_1136 : Cond.code y_Dbl_doubleToLongBits b_Dbl_doubleToLongBits 2 (some .long) ∈ lw_tbl := tb_mem 1136 rfl
theorem tw_1137 : Cond.methodLink "java/lang/Double" 122 y_Dbl_isNaN ∈ lw_tbl := tb_mem 1137 (by decide +kernel)
theorem tw_1138 : Cond.static y_Dbl_isNaN ∈ lw_tbl := tb_mem 1138 (by decide +kernel)
set_option maxRecDepth 100000 in
theorem tw_1139 : Cond.code y_Dbl_isNaN b_Dbl_isNaN 2 (some .boolean) ∈ lw_tbl := tb_mem 1139 rfl
theorem tw_1140 : Cond.methodLink "java/lang/Double" 134 yRaw ∈ lw_tbl := tb_mem 1140 (by decide +kernel)
theorem tw_1141 : Cond.static yRaw ∈ lw_tbl := tb_mem 1141 (by decide +kernel)
theorem tw_1142 : Cond.native yRaw ∈ lw_tbl := tb_mem 1142 (by decide +kernel)
theorem tp_0 : Cond.selects y_Hist_stateAt.cls y_Hist_stateAt y_Hist_stateAt ∈ lw_tbl := tb_priv 0 (y := y_Hist_stateAt) rfl
theorem tp_1 : Cond.selects y_Yard_dearestBehind.cls y_Yard_dearestBehind y_Yard_dearestBehind ∈ lw_tbl := tb_priv 1 (y := y_Yard_dearestBehind) rfl
theorem tp_2 : Cond.selects y_Yard_widthTaken.cls y_Yard_widthTaken y_Yard_widthTaken ∈ lw_tbl := tb_priv 2 (y := y_Yard_widthTaken) rfl
theorem tp_3 : Cond.selects y_Yard_mismatch.cls y_Yard_mismatch y_Yard_mismatch ∈ lw_tbl := tb_priv 3 (y := y_Yard_mismatch) rfl
theorem tp_4 : Cond.selects y_Yard_worthByRule.cls y_Yard_worthByRule y_Yard_worthByRule ∈ lw_tbl := tb_priv 4 (y := y_Yard_worthByRule) rfl
theorem tp_5 : Cond.selects y_Yard_emptiestBeside.cls y_Yard_emptiestBeside y_Yard_emptiestBeside ∈ lw_tbl := tb_priv 5 (y := y_Yard_emptiestBeside) rfl
theorem tp_6 : Cond.selects y_Yard_takeTop.cls y_Yard_takeTop y_Yard_takeTop ∈ lw_tbl := tb_priv 6 (y := y_Yard_takeTop) rfl
theorem tp_7 : Cond.selects y_Yard_putOnTop.cls y_Yard_putOnTop y_Yard_putOnTop ∈ lw_tbl := tb_priv 7 (y := y_Yard_putOnTop) rfl
theorem tp_8 : Cond.selects y_Slit_readBuffer.cls y_Slit_readBuffer y_Slit_readBuffer ∈ lw_tbl := tb_priv 8 (y := y_Slit_readBuffer) rfl
theorem tp_9 : Cond.selects y_Read_beginsPart.cls y_Read_beginsPart y_Read_beginsPart ∈ lw_tbl := tb_priv 9 (y := y_Read_beginsPart) rfl
theorem tp_10 : Cond.selects y_Read_expects.cls y_Read_expects y_Read_expects ∈ lw_tbl := tb_priv 10 (y := y_Read_expects) rfl
theorem tp_11 : Cond.selects y_Read_widens.cls y_Read_widens y_Read_widens ∈ lw_tbl := tb_priv 11 (y := y_Read_widens) rfl
theorem tp_12 : Cond.selects y_Read_takesGrade.cls y_Read_takesGrade y_Read_takesGrade ∈ lw_tbl := tb_priv 12 (y := y_Read_takesGrade) rfl
theorem tp_13 : Cond.selects y_Read_takesQuality.cls y_Read_takesQuality y_Read_takesQuality ∈ lw_tbl := tb_priv 13 (y := y_Read_takesQuality) rfl
theorem tp_14 : Cond.selects y_Read_takesStack.cls y_Read_takesStack y_Read_takesStack ∈ lw_tbl := tb_priv 14 (y := y_Read_takesStack) rfl
theorem tp_15 : Cond.selects y_Read_goesOn.cls y_Read_goesOn y_Read_goesOn ∈ lw_tbl := tb_priv 15 (y := y_Read_goesOn) rfl
theorem tp_16 : Cond.selects y_Slit_beginTrial.cls y_Slit_beginTrial y_Slit_beginTrial ∈ lw_tbl := tb_priv 16 (y := y_Slit_beginTrial) rfl
theorem tp_17 : Cond.selects y_Slit_counted.cls y_Slit_counted y_Slit_counted ∈ lw_tbl := tb_priv 17 (y := y_Slit_counted) rfl
theorem tp_18 : Cond.selects y_Slit_hashedPlace.cls y_Slit_hashedPlace y_Slit_hashedPlace ∈ lw_tbl := tb_priv 18 (y := y_Slit_hashedPlace) rfl
theorem tp_19 : Cond.selects y_Slit_hashedOrder.cls y_Slit_hashedOrder y_Slit_hashedOrder ∈ lw_tbl := tb_priv 19 (y := y_Slit_hashedOrder) rfl
theorem tp_20 : Cond.selects y_Yard_coilsSuiting.cls y_Yard_coilsSuiting y_Yard_coilsSuiting ∈ lw_tbl := tb_priv 20 (y := y_Yard_coilsSuiting) rfl
theorem tp_21 : Cond.selects y_Yard_suits.cls y_Yard_suits y_Yard_suits ∈ lw_tbl := tb_priv 21 (y := y_Yard_suits) rfl
theorem tp_22 : Cond.selects y_Yard_stripsFitting.cls y_Yard_stripsFitting y_Yard_stripsFitting ∈ lw_tbl := tb_priv 22 (y := y_Yard_stripsFitting) rfl
theorem tp_23 : Cond.selects y_Slit_numberOfChoice.cls y_Slit_numberOfChoice y_Slit_numberOfChoice ∈ lw_tbl := tb_priv 23 (y := y_Slit_numberOfChoice) rfl
theorem tp_24 : Cond.selects y_Slit_gainOfTrial.cls y_Slit_gainOfTrial y_Slit_gainOfTrial ∈ lw_tbl := tb_priv 24 (y := y_Slit_gainOfTrial) rfl
theorem tp_25 : Cond.selects y_Slit_gained.cls y_Slit_gained y_Slit_gained ∈ lw_tbl := tb_priv 25 (y := y_Slit_gained) rfl
theorem tp_28 : Cond.selects y_Mod_fails.cls y_Mod_fails y_Mod_fails ∈ lw_tbl := tb_priv 28 (y := y_Mod_fails) rfl
theorem tp_29 : Cond.selects y_Mod_saves.cls y_Mod_saves y_Mod_saves ∈ lw_tbl := tb_priv 29 (y := y_Mod_saves) rfl
theorem tp_30 : Cond.selects y_Mod_comes.cls y_Mod_comes y_Mod_comes ∈ lw_tbl := tb_priv 30 (y := y_Mod_comes) rfl
theorem tp_31 : Cond.selects y_Mod_mayDig.cls y_Mod_mayDig y_Mod_mayDig ∈ lw_tbl := tb_priv 31 (y := y_Mod_mayDig) rfl
theorem tp_32 : Cond.selects y_Mod_isText.cls y_Mod_isText y_Mod_isText ∈ lw_tbl := tb_priv 32 (y := y_Mod_isText) rfl
theorem tp_33 : Cond.selects y_Mod_isPart.cls y_Mod_isPart y_Mod_isPart ∈ lw_tbl := tb_priv 33 (y := y_Mod_isPart) rfl
theorem tp_34 : Cond.selects y_Mod_isWidth.cls y_Mod_isWidth y_Mod_isWidth ∈ lw_tbl := tb_priv 34 (y := y_Mod_isWidth) rfl
theorem tp_35 : Cond.selects y_Mod_isNext.cls y_Mod_isNext y_Mod_isNext ∈ lw_tbl := tb_priv 35 (y := y_Mod_isNext) rfl
theorem tp_36 : Cond.selects y_Mod_stops.cls y_Mod_stops y_Mod_stops ∈ lw_tbl := tb_priv 36 (y := y_Mod_stops) rfl
theorem tp_37 : Cond.selects y_Mod_isFigure.cls y_Mod_isFigure y_Mod_isFigure ∈ lw_tbl := tb_priv 37 (y := y_Mod_isFigure) rfl
theorem tp_38 : Cond.selects y_Mod_lowest.cls y_Mod_lowest y_Mod_lowest ∈ lw_tbl := tb_priv 38 (y := y_Mod_lowest) rfl
theorem tp_39 : Cond.selects y_Mod_coilAt.cls y_Mod_coilAt y_Mod_coilAt ∈ lw_tbl := tb_priv 39 (y := y_Mod_coilAt) rfl
theorem tp_40 : Cond.selects y_Mod_ofCoil.cls y_Mod_ofCoil y_Mod_ofCoil ∈ lw_tbl := tb_priv 40 (y := y_Mod_ofCoil) rfl
theorem tp_41 : Cond.selects y_Mod_ofOrder.cls y_Mod_ofOrder y_Mod_ofOrder ∈ lw_tbl := tb_priv 41 (y := y_Mod_ofOrder) rfl
theorem tp_42 : Cond.selects y_Mod_counted.cls y_Mod_counted y_Mod_counted ∈ lw_tbl := tb_priv 42 (y := y_Mod_counted) rfl
theorem tp_43 : Cond.selects y_Mod_ofCoils.cls y_Mod_ofCoils y_Mod_ofCoils ∈ lw_tbl := tb_priv 43 (y := y_Mod_ofCoils) rfl
theorem tp_44 : Cond.selects y_Mod_choiceFor.cls y_Mod_choiceFor y_Mod_choiceFor ∈ lw_tbl := tb_priv 44 (y := y_Mod_choiceFor) rfl
theorem tp_45 : Cond.selects y_Mod_byServing.cls y_Mod_byServing y_Mod_byServing ∈ lw_tbl := tb_priv 45 (y := y_Mod_byServing) rfl
theorem tp_46 : Cond.selects y_Mod_tries.cls y_Mod_tries y_Mod_tries ∈ lw_tbl := tb_priv 46 (y := y_Mod_tries) rfl
theorem tp_47 : Cond.selects y_Mod_best.cls y_Mod_best y_Mod_best ∈ lw_tbl := tb_priv 47 (y := y_Mod_best) rfl
theorem tp_48 : Cond.selects y_Mod_bestPlace.cls y_Mod_bestPlace y_Mod_bestPlace ∈ lw_tbl := tb_priv 48 (y := y_Mod_bestPlace) rfl
theorem tp_49 : Cond.selects y_Mod_wider.cls y_Mod_wider y_Mod_wider ∈ lw_tbl := tb_priv 49 (y := y_Mod_wider) rfl
theorem tp_50 : Cond.selects y_Mod_share.cls y_Mod_share y_Mod_share ∈ lw_tbl := tb_priv 50 (y := y_Mod_share) rfl
end
section
section
variable {w : Wd} {p : Program} {l : Launch} {e : Jvm.Env} {s : State} {m : MethodId} {args : Array Value} {below : List Frame} {meth : Method} {c : Code} {Q : State → Prop} {F : Out → G → Prop} {R : Room}
-- CoilSlits$Grid.copyFrom
def E_Grid_copyFrom : Env := (true, [(19, 1, 1)], [(.invokestatic 29, 2, xMin), (.invokestatic 23, 5, xCopy)], [], [], zST, false)
def d_Grid_copyFrom : Dn := (rtv E_Grid_copyFrom [.aload_n 0, .getfield 19, .arraylength, .aload_n 1, .getfield 19, .arraylength, .invokestatic 29, .istore_n 2, .aload_n 1, .getfield 19, .iconst 0, .aload_n 0, .getfield 19, .iconst 0, .iload_n 2, .invokestatic 23])
def x_Grid_copyFrom : Ex := zrv 1 (exb true 3 d_Grid_copyFrom)
abbrev r_Grid_copyFrom : Room := ({ frames := 1, cells := 0, slots := 0, locals := 60 } : Room)
theorem eo_Grid_copyFrom (hw : zWok w) (cx : CX w p s m args c b_Grid_copyFrom 3 "CoilSlits$Grid") : EnvOk w true p l e r_Grid_copyFrom s m args below meth c Q b_Grid_copyFrom 3 "CoilSlits$Grid" E_Grid_copyFrom :=
  ⟨rfl, by decide +kernel, by decide +kernel, by decide +kernel, hw, fun h => absurd h (by decide),
  List.forall_mem_cons.mpr ⟨call_min cx tw_176 tw_177 tw_4 tw_xMin ⟨Nat.le_of_ble_eq_true rfl, Nat.le_of_ble_eq_true rfl⟩, List.forall_mem_cons.mpr ⟨call_copy cx tw_179 tw_181 tw_180 tw_15 ⟨Nat.le_of_ble_eq_true rfl, Nat.le_of_ble_eq_true rfl⟩, fun q hq => absurd hq List.not_mem_nil⟩⟩⟩
theorem sn_Grid_copyFrom (h : MC w true p l e R s m args below meth c Q b_Grid_copyFrom 3 "CoilSlits$Grid" E_Grid_copyFrom 0 0 F none) : Sn (zK w true p l e R s m args below meth c Q 3) F (fun _ => False) (fun _ => False) 0 0 0 d_Grid_copyFrom 0 0 0 := by
  unfold d_Grid_copyFrom
  exact (m_rtv h zz (p1 := 28) (by decide +kernel) (by decide +kernel) (Nat.zero_le _) (Nat.zero_le _))
theorem ct_Grid_copyFrom (w : Wd) (l : Launch) (hw : zWok w) : CT w l y_Grid_copyFrom b_Grid_copyFrom 3 none r_Grid_copyFrom (exb true 3 d_Grid_copyFrom) :=
  ct_plain (by decide +kernel) (fun p e s m args below meth c Q cx hnm => eo_Grid_copyFrom hw cx) (fun p e s m args below meth c Q F h => sn_Grid_copyFrom h)
theorem q_Grid_copyFrom {a : Nat} {fs : List Value} {M : Hp} {nx : Nat} (x0 : Nat) (h : M a = some (cO 1 fs)) : x_Grid_copyFrom [.ref a, .ref x0] (M, nx) = zres (d_Grid_copyFrom ([some (.ref a), some (.ref x0), none], [], (M, nx))) := q_ofV [some (.ref a), some (.ref x0), none] h rfl (Nat.le_of_ble_eq_true rfl) (Or.inr rfl)
theorem lc_Grid_copyFrom_29 : lookI (eC E_Grid_copyFrom) (.invokestatic 29) = some (2, xMin) := rfl
theorem lc_Grid_copyFrom_23 : lookI (eC E_Grid_copyFrom) (.invokestatic 23) = some (5, xCopy) := rfl
theorem lf_Grid_copyFrom_19 : lookN (eF E_Grid_copyFrom) 19 = some (1, 1) := rfl
theorem lb_Grid_copyFrom : eB E_Grid_copyFrom = true := rfl
theorem lt_Grid_copyFrom : eT E_Grid_copyFrom = zST := rfl
-- CoilSlits$Row.copyFrom
def E_Row_copyFrom : Env := (true, [(13, 0, 0)], [(.invokestatic 19, 2, xMin), (.invokestatic 22, 5, xCopy)], [], [], zST, false)
def d_Row_copyFrom : Dn := (rtv E_Row_copyFrom [.aload_n 0, .getfield 13, .arraylength, .aload_n 1, .getfield 13, .arraylength, .invokestatic 19, .istore_n 2, .aload_n 1, .getfield 13, .iconst 0, .aload_n 0, .getfield 13, .iconst 0, .iload_n 2, .invokestatic 22])
def x_Row_copyFrom : Ex := zrv 0 (exb true 3 d_Row_copyFrom)
abbrev r_Row_copyFrom : Room := ({ frames := 1, cells := 0, slots := 0, locals := 60 } : Room)
theorem eo_Row_copyFrom (hw : zWok w) (cx : CX w p s m args c b_Row_copyFrom 3 "CoilSlits$Row") : EnvOk w true p l e r_Row_copyFrom s m args below meth c Q b_Row_copyFrom 3 "CoilSlits$Row" E_Row_copyFrom :=
  ⟨rfl, by decide +kernel, by decide +kernel, by decide +kernel, hw, fun h => absurd h (by decide),
  List.forall_mem_cons.mpr ⟨call_min cx tw_186 tw_177 tw_4 tw_xMin ⟨Nat.le_of_ble_eq_true rfl, Nat.le_of_ble_eq_true rfl⟩, List.forall_mem_cons.mpr ⟨call_copy cx tw_187 tw_181 tw_180 tw_15 ⟨Nat.le_of_ble_eq_true rfl, Nat.le_of_ble_eq_true rfl⟩, fun q hq => absurd hq List.not_mem_nil⟩⟩⟩
theorem sn_Row_copyFrom (h : MC w true p l e R s m args below meth c Q b_Row_copyFrom 3 "CoilSlits$Row" E_Row_copyFrom 0 0 F none) : Sn (zK w true p l e R s m args below meth c Q 3) F (fun _ => False) (fun _ => False) 0 0 0 d_Row_copyFrom 0 0 0 := by
  unfold d_Row_copyFrom
  exact (m_rtv h zz (p1 := 28) (by decide +kernel) (by decide +kernel) (Nat.zero_le _) (Nat.zero_le _))
theorem ct_Row_copyFrom (w : Wd) (l : Launch) (hw : zWok w) : CT w l y_Row_copyFrom b_Row_copyFrom 3 none r_Row_copyFrom (exb true 3 d_Row_copyFrom) :=
  ct_plain (by decide +kernel) (fun p e s m args below meth c Q cx hnm => eo_Row_copyFrom hw cx) (fun p e s m args below meth c Q F h => sn_Row_copyFrom h)
theorem q_Row_copyFrom {a : Nat} {fs : List Value} {M : Hp} {nx : Nat} (x0 : Nat) (h : M a = some (cO 0 fs)) : x_Row_copyFrom [.ref a, .ref x0] (M, nx) = zres (d_Row_copyFrom ([some (.ref a), some (.ref x0), none], [], (M, nx))) := q_ofV [some (.ref a), some (.ref x0), none] h rfl (Nat.le_of_ble_eq_true rfl) (Or.inr rfl)
theorem lc_Row_copyFrom_19 : lookI (eC E_Row_copyFrom) (.invokestatic 19) = some (2, xMin) := rfl
theorem lc_Row_copyFrom_22 : lookI (eC E_Row_copyFrom) (.invokestatic 22) = some (5, xCopy) := rfl
theorem lf_Row_copyFrom_13 : lookN (eF E_Row_copyFrom) 13 = some (0, 0) := rfl
theorem lb_Row_copyFrom : eB E_Row_copyFrom = true := rfl
theorem lt_Row_copyFrom : eT E_Row_copyFrom = zST := rfl
-- CoilSlits$Grid.get
def E_Grid_get : Env := (true, [(13, 1, 0), (19, 1, 1)], [], [], [], zST, false)
def d_Grid_get : Dn := (sq (blk E_Grid_get [.iload_n 1, .aload_n 0, .getfield 13, .imul, .iload_n 2, .iadd, .istore_n 3])
  (sq (ite' (can (cno (cat E_Grid_get [.iload_n 2] (.ifCond .lt 15))) (cno (cat E_Grid_get [.iload_n 2, .aload_n 0, .getfield 13] (.if_icmp .ge 7))))
  (blk E_Grid_get [.iconst 1])
  (blk E_Grid_get [.iconst 0]))
  (sq (blk E_Grid_get [.istore 4])
  (sq (ite' (can (cno (cat E_Grid_get [.iload 4] (.ifCond .eq 25))) (can (cno (cat E_Grid_get [.iload_n 3] (.ifCond .lt 21))) (cno (cat E_Grid_get [.iload_n 3, .aload_n 0, .getfield 19, .arraylength] (.if_icmp .ge 12)))))
  (blk E_Grid_get [.aload_n 0, .getfield 19, .iload_n 3, .iaload])
  (blk E_Grid_get [.iconst 0]))
  (rti E_Grid_get [])))))
def x_Grid_get : Ex := zrv 1 (exb true 5 d_Grid_get)
abbrev r_Grid_get : Room := ({ frames := 0, cells := 0, slots := 0, locals := 0 } : Room)
theorem eo_Grid_get (hw : zWok w) (cx : CX w p s m args c b_Grid_get 5 "CoilSlits$Grid") : EnvOk w true p l e r_Grid_get s m args below meth c Q b_Grid_get 5 "CoilSlits$Grid" E_Grid_get :=
  ⟨rfl, by decide +kernel, by decide +kernel, by decide +kernel, hw, fun h => absurd h (by decide),
  fun q hq => absurd hq List.not_mem_nil⟩
theorem sn_Grid_get (h : MC w true p l e R s m args below meth c Q b_Grid_get 5 "CoilSlits$Grid" E_Grid_get 0 0 F (some .int)) : Sn (zK w true p l e R s m args below meth c Q 5) F (fun _ => False) (fun _ => False) 0 0 0 d_Grid_get 0 0 0 := by
  unfold d_Grid_get
  exact (sn_sq (pm := 9) (m_blk h zz (by decide +kernel))
  (sn_sq (pm := 26) (sn_ite (pt := 21) (pf := 25) (sc_an (pm := 13) (sc_no (m_cat h zz (p1 := 10) (tgt := 25) (by decide +kernel) (by decide +kernel) (by decide))) (sc_no (m_cat h zz (p1 := 18) (tgt := 25) (by decide +kernel) (by decide +kernel) (by decide))))
  (sn_goto (pm := 22) (m_blk h zz (by decide +kernel)) (m_goto h (off := 4) (by decide +kernel) (by decide)))
  (m_blk h zz (by decide +kernel)))
  (sn_sq (pm := 28) (m_blk h zz (by decide +kernel))
  (sn_sq (pm := 56) (sn_ite (pt := 46) (pf := 55) (sc_an (pm := 33) (sc_no (m_cat h zz (p1 := 30) (tgt := 55) (by decide +kernel) (by decide +kernel) (by decide))) (sc_an (pm := 37) (sc_no (m_cat h zz (p1 := 34) (tgt := 55) (by decide +kernel) (by decide +kernel) (by decide))) (sc_no (m_cat h zz (p1 := 43) (tgt := 55) (by decide +kernel) (by decide +kernel) (by decide)))))
  (sn_goto (pm := 52) (m_blk h zz (by decide +kernel)) (m_goto h (off := 4) (by decide +kernel) (by decide)))
  (m_blk h zz (by decide +kernel)))
  (m_rti h zz (p1 := 56) (by decide +kernel) (by decide +kernel) (Nat.zero_le _) (Nat.zero_le _))))))
theorem ct_Grid_get (w : Wd) (l : Launch) (hw : zWok w) : CT w l y_Grid_get b_Grid_get 5 (some .int) r_Grid_get (exb true 5 d_Grid_get) :=
  ct_plain (by decide +kernel) (fun p e s m args below meth c Q cx hnm => eo_Grid_get hw cx) (fun p e s m args below meth c Q F h => sn_Grid_get h)
theorem q_Grid_get {a : Nat} {fs : List Value} {M : Hp} {nx : Nat} (x0 : Int32) (x1 : Int32) (h : M a = some (cO 1 fs)) : x_Grid_get [.ref a, .int x0, .int x1] (M, nx) = zres (d_Grid_get ([some (.ref a), some (.int x0), some (.int x1), none, none], [], (M, nx))) := q_ofV [some (.ref a), some (.int x0), some (.int x1), none, none] h rfl (Nat.le_of_ble_eq_true rfl) (Or.inr rfl)
theorem lf_Grid_get_13 : lookN (eF E_Grid_get) 13 = some (1, 0) := rfl
theorem lf_Grid_get_19 : lookN (eF E_Grid_get) 19 = some (1, 1) := rfl
theorem lb_Grid_get : eB E_Grid_get = true := rfl
theorem lt_Grid_get : eT E_Grid_get = zST := rfl
-- CoilSlits$Row.get
def E_Row_get : Env := (true, [(13, 0, 0)], [], [], [], zST, false)
def d_Row_get : Dn := (sq (ite' (can (cno (cat E_Row_get [.iload_n 1] (.ifCond .lt 21))) (cno (cat E_Row_get [.iload_n 1, .aload_n 0, .getfield 13, .arraylength] (.if_icmp .ge 12))))
  (blk E_Row_get [.aload_n 0, .getfield 13, .iload_n 1, .iaload])
  (blk E_Row_get [.iconst 0]))
  (rti E_Row_get []))
def x_Row_get : Ex := zrv 0 (exb true 2 d_Row_get)
abbrev r_Row_get : Room := ({ frames := 0, cells := 0, slots := 0, locals := 0 } : Room)
theorem eo_Row_get (hw : zWok w) (cx : CX w p s m args c b_Row_get 2 "CoilSlits$Row") : EnvOk w true p l e r_Row_get s m args below meth c Q b_Row_get 2 "CoilSlits$Row" E_Row_get :=
  ⟨rfl, by decide +kernel, by decide +kernel, by decide +kernel, hw, fun h => absurd h (by decide),
  fun q hq => absurd hq List.not_mem_nil⟩
theorem sn_Row_get (h : MC w true p l e R s m args below meth c Q b_Row_get 2 "CoilSlits$Row" E_Row_get 0 0 F (some .int)) : Sn (zK w true p l e R s m args below meth c Q 2) F (fun _ => False) (fun _ => False) 0 0 0 d_Row_get 0 0 0 := by
  unfold d_Row_get
  exact (sn_sq (pm := 23) (sn_ite (pt := 13) (pf := 22) (sc_an (pm := 4) (sc_no (m_cat h zz (p1 := 1) (tgt := 22) (by decide +kernel) (by decide +kernel) (by decide))) (sc_no (m_cat h zz (p1 := 10) (tgt := 22) (by decide +kernel) (by decide +kernel) (by decide))))
  (sn_goto (pm := 19) (m_blk h zz (by decide +kernel)) (m_goto h (off := 4) (by decide +kernel) (by decide)))
  (m_blk h zz (by decide +kernel)))
  (m_rti h zz (p1 := 23) (by decide +kernel) (by decide +kernel) (Nat.zero_le _) (Nat.zero_le _)))
theorem ct_Row_get (w : Wd) (l : Launch) (hw : zWok w) : CT w l y_Row_get b_Row_get 2 (some .int) r_Row_get (exb true 2 d_Row_get) :=
  ct_plain (by decide +kernel) (fun p e s m args below meth c Q cx hnm => eo_Row_get hw cx) (fun p e s m args below meth c Q F h => sn_Row_get h)
theorem q_Row_get {a : Nat} {fs : List Value} {M : Hp} {nx : Nat} (x0 : Int32) (h : M a = some (cO 0 fs)) : x_Row_get [.ref a, .int x0] (M, nx) = zres (d_Row_get ([some (.ref a), some (.int x0)], [], (M, nx))) := q_ofV [some (.ref a), some (.int x0)] h rfl (Nat.le_of_ble_eq_true rfl) (Or.inr rfl)
theorem lf_Row_get_13 : lookN (eF E_Row_get) 13 = some (0, 0) := rfl
theorem lb_Row_get : eB E_Row_get = true := rfl
theorem lt_Row_get : eT E_Row_get = zST := rfl
-- CoilSlits$Grid.copyRow
def E_Grid_copyRow : Env := (true, [(13, 1, 0), (19, 1, 1)], [(.invokestatic 23, 5, xCopy)], [], [], zST, false)
def d_Grid_copyRow : Dn := (sq (blk E_Grid_copyRow [.iload_n 1, .aload_n 0, .getfield 13, .imul, .istore_n 3, .iload_n 2, .aload_n 0, .getfield 13, .imul, .istore 4, .aload_n 0, .getfield 19, .arraylength, .aload_n 0, .getfield 13, .isub, .istore 5])
  (sq (ite' (can (cno (cat E_Grid_copyRow [.iload_n 3] (.ifCond .lt 39))) (can (cno (cat E_Grid_copyRow [.iload_n 3, .iload 5] (.if_icmp .gt 33))) (can (cno (cat E_Grid_copyRow [.iload 4] (.ifCond .lt 28))) (cno (cat E_Grid_copyRow [.iload 4, .iload 5] (.if_icmp .gt 21))))))
  (blk E_Grid_copyRow [.aload_n 0, .getfield 19, .iload_n 3, .aload_n 0, .getfield 19, .iload 4, .aload_n 0, .getfield 13, .invokestatic 23])
  (blk E_Grid_copyRow []))
  (rtv E_Grid_copyRow [])))
def x_Grid_copyRow : Ex := zrv 1 (exb true 6 d_Grid_copyRow)
abbrev r_Grid_copyRow : Room := ({ frames := 1, cells := 0, slots := 0, locals := 60 } : Room)
theorem eo_Grid_copyRow (hw : zWok w) (cx : CX w p s m args c b_Grid_copyRow 6 "CoilSlits$Grid") : EnvOk w true p l e r_Grid_copyRow s m args below meth c Q b_Grid_copyRow 6 "CoilSlits$Grid" E_Grid_copyRow :=
  ⟨rfl, by decide +kernel, by decide +kernel, by decide +kernel, hw, fun h => absurd h (by decide),
  List.forall_mem_cons.mpr ⟨call_copy cx tw_179 tw_181 tw_180 tw_15 ⟨Nat.le_of_ble_eq_true rfl, Nat.le_of_ble_eq_true rfl⟩, fun q hq => absurd hq List.not_mem_nil⟩⟩
theorem sn_Grid_copyRow (h : MC w true p l e R s m args below meth c Q b_Grid_copyRow 6 "CoilSlits$Grid" E_Grid_copyRow 0 0 F none) : Sn (zK w true p l e R s m args below meth c Q 6) F (fun _ => False) (fun _ => False) 0 0 0 d_Grid_copyRow 0 0 0 := by
  unfold d_Grid_copyRow
  exact (sn_sq (pm := 27) (m_blk h zz (by decide +kernel))
  (sn_sq (pm := 67) (sn_ite (pt := 49) (pf := 67) (sc_an (pm := 31) (sc_no (m_cat h zz (p1 := 28) (tgt := 67) (by decide +kernel) (by decide +kernel) (by decide))) (sc_an (pm := 37) (sc_no (m_cat h zz (p1 := 34) (tgt := 67) (by decide +kernel) (by decide +kernel) (by decide))) (sc_an (pm := 42) (sc_no (m_cat h zz (p1 := 39) (tgt := 67) (by decide +kernel) (by decide +kernel) (by decide))) (sc_no (m_cat h zz (p1 := 46) (tgt := 67) (by decide +kernel) (by decide +kernel) (by decide))))))
  (m_blk h zz (by decide +kernel))
  (m_blk h zz rfl))
  (m_rtv h zz (p1 := 67) (by decide +kernel) (by decide +kernel) (Nat.zero_le _) (Nat.zero_le _))))
theorem ct_Grid_copyRow (w : Wd) (l : Launch) (hw : zWok w) : CT w l y_Grid_copyRow b_Grid_copyRow 6 none r_Grid_copyRow (exb true 6 d_Grid_copyRow) :=
  ct_plain (by decide +kernel) (fun p e s m args below meth c Q cx hnm => eo_Grid_copyRow hw cx) (fun p e s m args below meth c Q F h => sn_Grid_copyRow h)
theorem q_Grid_copyRow {a : Nat} {fs : List Value} {M : Hp} {nx : Nat} (x0 : Int32) (x1 : Int32) (h : M a = some (cO 1 fs)) : x_Grid_copyRow [.ref a, .int x0, .int x1] (M, nx) = zres (d_Grid_copyRow ([some (.ref a), some (.int x0), some (.int x1), none, none, none], [], (M, nx))) := q_ofV [some (.ref a), some (.int x0), some (.int x1), none, none, none] h rfl (Nat.le_of_ble_eq_true rfl) (Or.inr rfl)
theorem lc_Grid_copyRow_23 : lookI (eC E_Grid_copyRow) (.invokestatic 23) = some (5, xCopy) := rfl
theorem lf_Grid_copyRow_13 : lookN (eF E_Grid_copyRow) 13 = some (1, 0) := rfl
theorem lf_Grid_copyRow_19 : lookN (eF E_Grid_copyRow) 19 = some (1, 1) := rfl
theorem lb_Grid_copyRow : eB E_Grid_copyRow = true := rfl
theorem lt_Grid_copyRow : eT E_Grid_copyRow = zST := rfl
-- CoilSlits$Grid.put
def E_Grid_put : Env := (true, [(13, 1, 0), (19, 1, 1)], [], [], [], zST, false)
def d_Grid_put : Dn := (sq (blk E_Grid_put [.iload_n 1, .aload_n 0, .getfield 13, .imul, .iload_n 2, .iadd, .istore 4])
  (sq (ite' (can (cno (cat E_Grid_put [.iload_n 2] (.ifCond .lt 15))) (cno (cat E_Grid_put [.iload_n 2, .aload_n 0, .getfield 13] (.if_icmp .ge 7))))
  (blk E_Grid_put [.iconst 1])
  (blk E_Grid_put [.iconst 0]))
  (sq (blk E_Grid_put [.istore 5])
  (sq (ite' (can (cno (cat E_Grid_put [.iload 5] (.ifCond .eq 26))) (can (cno (cat E_Grid_put [.iload 4] (.ifCond .lt 21))) (cno (cat E_Grid_put [.iload 4, .aload_n 0, .getfield 19, .arraylength] (.if_icmp .ge 11)))))
  (blk E_Grid_put [.aload_n 0, .getfield 19, .iload 4, .iload_n 3, .iastore])
  (blk E_Grid_put []))
  (rtv E_Grid_put [])))))
def x_Grid_put : Ex := zrv 1 (exb true 6 d_Grid_put)
abbrev r_Grid_put : Room := ({ frames := 0, cells := 0, slots := 0, locals := 0 } : Room)
theorem eo_Grid_put (hw : zWok w) (cx : CX w p s m args c b_Grid_put 6 "CoilSlits$Grid") : EnvOk w true p l e r_Grid_put s m args below meth c Q b_Grid_put 6 "CoilSlits$Grid" E_Grid_put :=
  ⟨rfl, by decide +kernel, by decide +kernel, by decide +kernel, hw, fun h => absurd h (by decide),
  fun q hq => absurd hq List.not_mem_nil⟩
theorem sn_Grid_put (h : MC w true p l e R s m args below meth c Q b_Grid_put 6 "CoilSlits$Grid" E_Grid_put 0 0 F none) : Sn (zK w true p l e R s m args below meth c Q 6) F (fun _ => False) (fun _ => False) 0 0 0 d_Grid_put 0 0 0 := by
  unfold d_Grid_put
  exact (sn_sq (pm := 10) (m_blk h zz (by decide +kernel))
  (sn_sq (pm := 27) (sn_ite (pt := 22) (pf := 26) (sc_an (pm := 14) (sc_no (m_cat h zz (p1 := 11) (tgt := 26) (by decide +kernel) (by decide +kernel) (by decide))) (sc_no (m_cat h zz (p1 := 19) (tgt := 26) (by decide +kernel) (by decide +kernel) (by decide))))
  (sn_goto (pm := 23) (m_blk h zz (by decide +kernel)) (m_goto h (off := 4) (by decide +kernel) (by decide)))
  (m_blk h zz (by decide +kernel)))
  (sn_sq (pm := 29) (m_blk h zz (by decide +kernel))
  (sn_sq (pm := 57) (sn_ite (pt := 49) (pf := 57) (sc_an (pm := 34) (sc_no (m_cat h zz (p1 := 31) (tgt := 57) (by decide +kernel) (by decide +kernel) (by decide))) (sc_an (pm := 39) (sc_no (m_cat h zz (p1 := 36) (tgt := 57) (by decide +kernel) (by decide +kernel) (by decide))) (sc_no (m_cat h zz (p1 := 46) (tgt := 57) (by decide +kernel) (by decide +kernel) (by decide)))))
  (m_blk h zz (by decide +kernel))
  (m_blk h zz rfl))
  (m_rtv h zz (p1 := 57) (by decide +kernel) (by decide +kernel) (Nat.zero_le _) (Nat.zero_le _))))))
theorem ct_Grid_put (w : Wd) (l : Launch) (hw : zWok w) : CT w l y_Grid_put b_Grid_put 6 none r_Grid_put (exb true 6 d_Grid_put) :=
  ct_plain (by decide +kernel) (fun p e s m args below meth c Q cx hnm => eo_Grid_put hw cx) (fun p e s m args below meth c Q F h => sn_Grid_put h)
theorem q_Grid_put {a : Nat} {fs : List Value} {M : Hp} {nx : Nat} (x0 : Int32) (x1 : Int32) (x2 : Int32) (h : M a = some (cO 1 fs)) : x_Grid_put [.ref a, .int x0, .int x1, .int x2] (M, nx) = zres (d_Grid_put ([some (.ref a), some (.int x0), some (.int x1), some (.int x2), none, none], [], (M, nx))) := q_ofV [some (.ref a), some (.int x0), some (.int x1), some (.int x2), none, none] h rfl (Nat.le_of_ble_eq_true rfl) (Or.inr rfl)
theorem lf_Grid_put_13 : lookN (eF E_Grid_put) 13 = some (1, 0) := rfl
theorem lf_Grid_put_19 : lookN (eF E_Grid_put) 19 = some (1, 1) := rfl
theorem lb_Grid_put : eB E_Grid_put = true := rfl
theorem lt_Grid_put : eT E_Grid_put = zST := rfl
-- CoilSlits$Row.add
def E_Row_add : Env := (true, [(13, 0, 0)], [], [], [], zST, false)
def d_Row_add : Dn := (sq (ite' (can (cno (cat E_Row_add [.iload_n 1] (.ifCond .lt 22))) (cno (cat E_Row_add [.iload_n 1, .aload_n 0, .getfield 13, .arraylength] (.if_icmp .ge 13))))
  (blk E_Row_add [.aload_n 0, .getfield 13, .iload_n 1, .dup2, .iaload, .iload_n 2, .iadd, .iastore])
  (blk E_Row_add []))
  (rtv E_Row_add []))
def x_Row_add : Ex := zrv 0 (exb true 3 d_Row_add)
abbrev r_Row_add : Room := ({ frames := 0, cells := 0, slots := 0, locals := 0 } : Room)
theorem eo_Row_add (hw : zWok w) (cx : CX w p s m args c b_Row_add 3 "CoilSlits$Row") : EnvOk w true p l e r_Row_add s m args below meth c Q b_Row_add 3 "CoilSlits$Row" E_Row_add :=
  ⟨rfl, by decide +kernel, by decide +kernel, by decide +kernel, hw, fun h => absurd h (by decide),
  fun q hq => absurd hq List.not_mem_nil⟩
theorem sn_Row_add (h : MC w true p l e R s m args below meth c Q b_Row_add 3 "CoilSlits$Row" E_Row_add 0 0 F none) : Sn (zK w true p l e R s m args below meth c Q 3) F (fun _ => False) (fun _ => False) 0 0 0 d_Row_add 0 0 0 := by
  unfold d_Row_add
  exact (sn_sq (pm := 23) (sn_ite (pt := 13) (pf := 23) (sc_an (pm := 4) (sc_no (m_cat h zz (p1 := 1) (tgt := 23) (by decide +kernel) (by decide +kernel) (by decide))) (sc_no (m_cat h zz (p1 := 10) (tgt := 23) (by decide +kernel) (by decide +kernel) (by decide))))
  (m_blk h zz (by decide +kernel))
  (m_blk h zz rfl))
  (m_rtv h zz (p1 := 23) (by decide +kernel) (by decide +kernel) (Nat.zero_le _) (Nat.zero_le _)))
theorem ct_Row_add (w : Wd) (l : Launch) (hw : zWok w) : CT w l y_Row_add b_Row_add 3 none r_Row_add (exb true 3 d_Row_add) :=
  ct_plain (by decide +kernel) (fun p e s m args below meth c Q cx hnm => eo_Row_add hw cx) (fun p e s m args below meth c Q F h => sn_Row_add h)
theorem q_Row_add {a : Nat} {fs : List Value} {M : Hp} {nx : Nat} (x0 : Int32) (x1 : Int32) (h : M a = some (cO 0 fs)) : x_Row_add [.ref a, .int x0, .int x1] (M, nx) = zres (d_Row_add ([some (.ref a), some (.int x0), some (.int x1)], [], (M, nx))) := q_ofV [some (.ref a), some (.int x0), some (.int x1)] h rfl (Nat.le_of_ble_eq_true rfl) (Or.inr rfl)
theorem lf_Row_add_13 : lookN (eF E_Row_add) 13 = some (0, 0) := rfl
theorem lb_Row_add : eB E_Row_add = true := rfl
theorem lt_Row_add : eT E_Row_add = zST := rfl
-- CoilSlits$Row.put
def E_Row_put : Env := (true, [(13, 0, 0)], [], [], [], zST, false)
def d_Row_put : Dn := (sq (ite' (can (cno (cat E_Row_put [.iload_n 1] (.ifCond .lt 19))) (cno (cat E_Row_put [.iload_n 1, .aload_n 0, .getfield 13, .arraylength] (.if_icmp .ge 10))))
  (blk E_Row_put [.aload_n 0, .getfield 13, .iload_n 1, .iload_n 2, .iastore])
  (blk E_Row_put []))
  (rtv E_Row_put []))
def x_Row_put : Ex := zrv 0 (exb true 3 d_Row_put)
abbrev r_Row_put : Room := ({ frames := 0, cells := 0, slots := 0, locals := 0 } : Room)
theorem eo_Row_put (hw : zWok w) (cx : CX w p s m args c b_Row_put 3 "CoilSlits$Row") : EnvOk w true p l e r_Row_put s m args below meth c Q b_Row_put 3 "CoilSlits$Row" E_Row_put :=
  ⟨rfl, by decide +kernel, by decide +kernel, by decide +kernel, hw, fun h => absurd h (by decide),
  fun q hq => absurd hq List.not_mem_nil⟩
theorem sn_Row_put (h : MC w true p l e R s m args below meth c Q b_Row_put 3 "CoilSlits$Row" E_Row_put 0 0 F none) : Sn (zK w true p l e R s m args below meth c Q 3) F (fun _ => False) (fun _ => False) 0 0 0 d_Row_put 0 0 0 := by
  unfold d_Row_put
  exact (sn_sq (pm := 20) (sn_ite (pt := 13) (pf := 20) (sc_an (pm := 4) (sc_no (m_cat h zz (p1 := 1) (tgt := 20) (by decide +kernel) (by decide +kernel) (by decide))) (sc_no (m_cat h zz (p1 := 10) (tgt := 20) (by decide +kernel) (by decide +kernel) (by decide))))
  (m_blk h zz (by decide +kernel))
  (m_blk h zz rfl))
  (m_rtv h zz (p1 := 20) (by decide +kernel) (by decide +kernel) (Nat.zero_le _) (Nat.zero_le _)))
theorem ct_Row_put (w : Wd) (l : Launch) (hw : zWok w) : CT w l y_Row_put b_Row_put 3 none r_Row_put (exb true 3 d_Row_put) :=
  ct_plain (by decide +kernel) (fun p e s m args below meth c Q cx hnm => eo_Row_put hw cx) (fun p e s m args below meth c Q F h => sn_Row_put h)
theorem q_Row_put {a : Nat} {fs : List Value} {M : Hp} {nx : Nat} (x0 : Int32) (x1 : Int32) (h : M a = some (cO 0 fs)) : x_Row_put [.ref a, .int x0, .int x1] (M, nx) = zres (d_Row_put ([some (.ref a), some (.int x0), some (.int x1)], [], (M, nx))) := q_ofV [some (.ref a), some (.int x0), some (.int x1)] h rfl (Nat.le_of_ble_eq_true rfl) (Or.inr rfl)
theorem lf_Row_put_13 : lookN (eF E_Row_put) 13 = some (0, 0) := rfl
theorem lb_Row_put : eB E_Row_put = true := rfl
theorem lt_Row_put : eT E_Row_put = zST := rfl
-- CoilSlits.stackOf
def E_Slit_stackOf : Env := (true, [], [], [], [], zST, false)
def d_Slit_stackOf : Dn := (rti E_Slit_stackOf [.iload_n 0, .iconst 5, .idiv])
def x_Slit_stackOf : Ex := exb true 1 d_Slit_stackOf
abbrev r_Slit_stackOf : Room := ({ frames := 0, cells := 0, slots := 0, locals := 0 } : Room)
theorem eo_Slit_stackOf (hw : zWok w) (cx : CX w p s m args c b_Slit_stackOf 1 "CoilSlits") : EnvOk w true p l e r_Slit_stackOf s m args below meth c Q b_Slit_stackOf 1 "CoilSlits" E_Slit_stackOf :=
  ⟨rfl, by decide +kernel, by decide +kernel, by decide +kernel, hw, fun h => absurd h (by decide),
  fun q hq => absurd hq List.not_mem_nil⟩
theorem sn_Slit_stackOf (h : MC w true p l e R s m args below meth c Q b_Slit_stackOf 1 "CoilSlits" E_Slit_stackOf 0 0 F (some .int)) : Sn (zK w true p l e R s m args below meth c Q 1) F (fun _ => False) (fun _ => False) 0 0 0 d_Slit_stackOf 0 0 0 := by
  unfold d_Slit_stackOf
  exact (m_rti h zz (p1 := 3) (by decide +kernel) (by decide +kernel) (Nat.zero_le _) (Nat.zero_le _))
theorem ct_Slit_stackOf (w : Wd) (l : Launch) (hw : zWok w) : CT w l y_Slit_stackOf b_Slit_stackOf 1 (some .int) r_Slit_stackOf (exb true 1 d_Slit_stackOf) :=
  ct_plain (by decide +kernel) (fun p e s m args below meth c Q cx hnm => eo_Slit_stackOf hw cx) (fun p e s m args below meth c Q F h => sn_Slit_stackOf h)
theorem q_Slit_stackOf (x0 : Int32) (g : G) : x_Slit_stackOf [.int x0] g = zres (d_Slit_stackOf ([some (.int x0)], [], g)) := q_of [some (.int x0)] rfl (Nat.le_of_ble_eq_true rfl) (Or.inr rfl)
theorem lb_Slit_stackOf : eB E_Slit_stackOf = true := rfl
-- CoilSlits.within
def E_Slit_within : Env := (true, [], [], [], [], zST, false)
def d_Slit_within : Dn := (sq (ite' (can (cno (cat E_Slit_within [.iload_n 0, .iload_n 1] (.if_icmp .lt 12))) (cno (cat E_Slit_within [.iload_n 0, .iload_n 2] (.if_icmp .gt 7))))
  (blk E_Slit_within [.iconst 1])
  (blk E_Slit_within [.iconst 0]))
  (rtz E_Slit_within []))
def x_Slit_within : Ex := exb true 3 d_Slit_within
abbrev r_Slit_within : Room := ({ frames := 0, cells := 0, slots := 0, locals := 0 } : Room)
theorem eo_Slit_within (hw : zWok w) (cx : CX w p s m args c b_Slit_within 3 "CoilSlits") : EnvOk w true p l e r_Slit_within s m args below meth c Q b_Slit_within 3 "CoilSlits" E_Slit_within :=
  ⟨rfl, by decide +kernel, by decide +kernel, by decide +kernel, hw, fun h => absurd h (by decide),
  fun q hq => absurd hq List.not_mem_nil⟩
theorem sn_Slit_within (h : MC w true p l e R s m args below meth c Q b_Slit_within 3 "CoilSlits" E_Slit_within 0 0 F (some .boolean)) : Sn (zK w true p l e R s m args below meth c Q 3) F (fun _ => False) (fun _ => False) 0 0 0 d_Slit_within 0 0 0 := by
  unfold d_Slit_within
  exact (sn_sq (pm := 15) (sn_ite (pt := 10) (pf := 14) (sc_an (pm := 5) (sc_no (m_cat h zz (p1 := 2) (tgt := 14) (by decide +kernel) (by decide +kernel) (by decide))) (sc_no (m_cat h zz (p1 := 7) (tgt := 14) (by decide +kernel) (by decide +kernel) (by decide))))
  (sn_goto (pm := 11) (m_blk h zz (by decide +kernel)) (m_goto h (off := 4) (by decide +kernel) (by decide)))
  (m_blk h zz (by decide +kernel)))
  (m_rtz h zz (p1 := 15) (by decide +kernel) (by decide +kernel) (Nat.zero_le _) (Nat.zero_le _)))
theorem ct_Slit_within (w : Wd) (l : Launch) (hw : zWok w) : CT w l y_Slit_within b_Slit_within 3 (some .boolean) r_Slit_within (exb true 3 d_Slit_within) :=
  ct_plain (by decide +kernel) (fun p e s m args below meth c Q cx hnm => eo_Slit_within hw cx) (fun p e s m args below meth c Q F h => sn_Slit_within h)
theorem q_Slit_within (x0 : Int32) (x1 : Int32) (x2 : Int32) (g : G) : x_Slit_within [.int x0, .int x1, .int x2] g = zres (d_Slit_within ([some (.int x0), some (.int x1), some (.int x2)], [], g)) := q_of [some (.int x0), some (.int x1), some (.int x2)] rfl (Nat.le_of_ble_eq_true rfl) (Or.inr rfl)
theorem lb_Slit_within : eB E_Slit_within = true := rfl
-- CoilSlits.isStack
def E_Slit_isStack : Env := (true, [], [(.invokestatic 53, 3, x_Slit_within)], [], [], zST, false)
def d_Slit_isStack : Dn := (rtz E_Slit_isStack [.iload_n 0, .iconst 0, .iconst 5, .invokestatic 53])
def x_Slit_isStack : Ex := exb true 1 d_Slit_isStack
abbrev r_Slit_isStack : Room := ({ frames := 1, cells := 0, slots := 0, locals := 22 } : Room)
theorem eo_Slit_isStack (hw : zWok w) (cx : CX w p s m args c b_Slit_isStack 1 "CoilSlits") : EnvOk w true p l e r_Slit_isStack s m args below meth c Q b_Slit_isStack 1 "CoilSlits" E_Slit_isStack :=
  ⟨rfl, by decide +kernel, by decide +kernel, by decide +kernel, hw, fun h => absurd h (by decide),
  List.forall_mem_cons.mpr ⟨call_S cx (ct_Slit_within w l hw) tw_319 tw_331 tw_1 tw_318 (by decide +kernel) ⟨Nat.le_of_ble_eq_true rfl, Nat.le_of_ble_eq_true rfl⟩, fun q hq => absurd hq List.not_mem_nil⟩⟩
theorem sn_Slit_isStack (h : MC w true p l e R s m args below meth c Q b_Slit_isStack 1 "CoilSlits" E_Slit_isStack 0 0 F (some .boolean)) : Sn (zK w true p l e R s m args below meth c Q 1) F (fun _ => False) (fun _ => False) 0 0 0 d_Slit_isStack 0 0 0 := by
  unfold d_Slit_isStack
  exact (m_rtz h zz (p1 := 6) (by decide +kernel) (by decide +kernel) (Nat.zero_le _) (Nat.zero_le _))
theorem ct_Slit_isStack (w : Wd) (l : Launch) (hw : zWok w) : CT w l y_Slit_isStack b_Slit_isStack 1 (some .boolean) r_Slit_isStack (exb true 1 d_Slit_isStack) :=
  ct_plain (by decide +kernel) (fun p e s m args below meth c Q cx hnm => eo_Slit_isStack hw cx) (fun p e s m args below meth c Q F h => sn_Slit_isStack h)
theorem q_Slit_isStack (x0 : Int32) (g : G) : x_Slit_isStack [.int x0] g = zres (d_Slit_isStack ([some (.int x0)], [], g)) := q_of [some (.int x0)] rfl (Nat.le_of_ble_eq_true rfl) (Or.inr rfl)
theorem lc_Slit_isStack_53 : lookI (eC E_Slit_isStack) (.invokestatic 53) = some (3, x_Slit_within) := rfl
theorem lb_Slit_isStack : eB E_Slit_isStack = true := rfl
end
end
section
section
variable {w : Wd} {p : Program} {l : Launch} {e : Jvm.Env} {s : State} {m : MethodId} {args : Array Value} {below : List Frame} {meth : Method} {c : Code} {Q : State → Prop} {F : Out → G → Prop} {R : Room}
-- CoilSlits$Yard.copyFrom
def E_Yard_copyFrom : Env := (true, [(14, 2, 0), (25, 2, 1), (29, 2, 2), (32, 2, 3), (35, 2, 4), (55, 2, 5), (59, 2, 6), (62, 2, 7)], [(.invokevirtual 48, 2, x_Grid_copyFrom), (.invokevirtual 52, 2, x_Row_copyFrom)], [], [], zST, false)
def d_Yard_copyFrom : Dn := (rtv E_Yard_copyFrom [.aload_n 0, .getfield 14, .aload_n 1, .getfield 14, .invokevirtual 48, .aload_n 0, .getfield 25, .aload_n 1, .getfield 25, .invokevirtual 52, .aload_n 0, .getfield 29, .aload_n 1, .getfield 29, .invokevirtual 48, .aload_n 0, .getfield 32, .aload_n 1, .getfield 32, .invokevirtual 52, .aload_n 0, .getfield 35, .aload_n 1, .getfield 35, .invokevirtual 52, .aload_n 0, .aload_n 1, .getfield 55, .putfield 55, .aload_n 0, .aload_n 1, .getfield 59, .putfield 59, .aload_n 0, .aload_n 1, .getfield 62, .putfield 62])
def x_Yard_copyFrom : Ex := zrv 2 (exb true 2 d_Yard_copyFrom)
abbrev r_Yard_copyFrom : Room := ({ frames := 2, cells := 0, slots := 0, locals := 82 } : Room)
theorem eo_Yard_copyFrom (hw : zWok w) (cx : CX w p s m args c b_Yard_copyFrom 2 "CoilSlits$Yard") : EnvOk w true p l e r_Yard_copyFrom s m args below meth c Q b_Yard_copyFrom 2 "CoilSlits$Yard" E_Yard_copyFrom :=
  ⟨rfl, by decide +kernel, by decide +kernel, by decide +kernel, hw, fun h => absurd h (by decide),
  List.forall_mem_cons.mpr ⟨call_V cx (ct_Grid_copyFrom w l hw) tw_175 tw_172 tw_3 tw_173 tw_174 (ci := 1) (Nat.le_of_ble_eq_true rfl) rfl (by decide +kernel) ⟨Nat.le_of_ble_eq_true rfl, Nat.le_of_ble_eq_true rfl⟩, List.forall_mem_cons.mpr ⟨call_V cx (ct_Row_copyFrom w l hw) tw_185 tw_182 tw_5 tw_183 tw_184 (ci := 0) (Nat.le_of_ble_eq_true rfl) rfl (by decide +kernel) ⟨Nat.le_of_ble_eq_true rfl, Nat.le_of_ble_eq_true rfl⟩, fun q hq => absurd hq List.not_mem_nil⟩⟩⟩
theorem sn_Yard_copyFrom (h : MC w true p l e R s m args below meth c Q b_Yard_copyFrom 2 "CoilSlits$Yard" E_Yard_copyFrom 0 0 F none) : Sn (zK w true p l e R s m args below meth c Q 2) F (fun _ => False) (fun _ => False) 0 0 0 d_Yard_copyFrom 0 0 0 := by
  unfold d_Yard_copyFrom
  exact (m_rtv h zz (p1 := 79) (by decide +kernel) (by decide +kernel) (Nat.zero_le _) (Nat.zero_le _))
theorem ct_Yard_copyFrom (w : Wd) (l : Launch) (hw : zWok w) : CT w l y_Yard_copyFrom b_Yard_copyFrom 2 none r_Yard_copyFrom (exb true 2 d_Yard_copyFrom) :=
  ct_plain (by decide +kernel) (fun p e s m args below meth c Q cx hnm => eo_Yard_copyFrom hw cx) (fun p e s m args below meth c Q F h => sn_Yard_copyFrom h)
theorem q_Yard_copyFrom {a : Nat} {fs : List Value} {M : Hp} {nx : Nat} (x0 : Nat) (h : M a = some (cO 2 fs)) : x_Yard_copyFrom [.ref a, .ref x0] (M, nx) = zres (d_Yard_copyFrom ([some (.ref a), some (.ref x0)], [], (M, nx))) := q_ofV [some (.ref a), some (.ref x0)] h rfl (Nat.le_of_ble_eq_true rfl) (Or.inr rfl)
theorem lc_Yard_copyFrom_48 : lookI (eC E_Yard_copyFrom) (.invokevirtual 48) = some (2, x_Grid_copyFrom) := rfl
theorem lc_Yard_copyFrom_52 : lookI (eC E_Yard_copyFrom) (.invokevirtual 52) = some (2, x_Row_copyFrom) := rfl
theorem lf_Yard_copyFrom_14 : lookN (eF E_Yard_copyFrom) 14 = some (2, 0) := rfl
theorem lf_Yard_copyFrom_25 : lookN (eF E_Yard_copyFrom) 25 = some (2, 1) := rfl
theorem lf_Yard_copyFrom_29 : lookN (eF E_Yard_copyFrom) 29 = some (2, 2) := rfl
theorem lf_Yard_copyFrom_32 : lookN (eF E_Yard_copyFrom) 32 = some (2, 3) := rfl
theorem lf_Yard_copyFrom_35 : lookN (eF E_Yard_copyFrom) 35 = some (2, 4) := rfl
theorem lf_Yard_copyFrom_55 : lookN (eF E_Yard_copyFrom) 55 = some (2, 5) := rfl
theorem lf_Yard_copyFrom_59 : lookN (eF E_Yard_copyFrom) 59 = some (2, 6) := rfl
theorem lf_Yard_copyFrom_62 : lookN (eF E_Yard_copyFrom) 62 = some (2, 7) := rfl
theorem lb_Yard_copyFrom : eB E_Yard_copyFrom = true := rfl
-- CoilSlits$Yard.dearestBehind
def E_Yard_dearestBehind : Env := (true, [(55, 2, 5), (29, 2, 2)], [(.invokevirtual 69, 3, x_Grid_get)], [], [], zST, false)
def d_Yard_dearestBehind : Dn := (sq (blk E_Yard_dearestBehind [.iconst (-1), .istore_n 3, .iconst 0, .istore 4])
  (sq (lop (cfo [5, 6] (cno (cat E_Yard_dearestBehind [.iload 4, .aload_n 0, .getfield 55] (.if_icmp .ge 81))))
  (sq (blk E_Yard_dearestBehind [.aload_n 0, .getfield 29, .iload 4, .iconst 5, .invokevirtual 69, .istore 5])
  (sq (ite' (cor (cat E_Yard_dearestBehind [.iload 5, .iload_n 1] (.if_icmp .lt 23)) (can (cno (cat E_Yard_dearestBehind [.iload 5, .iload_n 1] (.if_icmp .ne 21))) (cno (cat E_Yard_dearestBehind [.aload_n 0, .getfield 29, .iload 4, .iconst 0, .invokevirtual 69, .iload_n 2] (.if_icmp .le 7)))))
  (blk E_Yard_dearestBehind [.iconst 1])
  (blk E_Yard_dearestBehind [.iconst 0]))
  (sq (blk E_Yard_dearestBehind [.istore 6])
  (sq (ite' (can (cno (cat E_Yard_dearestBehind [.iload 6] (.ifCond .eq 25))) (cor (cat E_Yard_dearestBehind [.iload_n 3, .iconst (-1)] (.if_icmp .eq 17)) (cno (cat E_Yard_dearestBehind [.iload 5, .aload_n 0, .getfield 29, .iload_n 3, .iconst 5, .invokevirtual 69] (.if_icmp .le 6)))))
  (blk E_Yard_dearestBehind [.iload 4, .istore_n 3])
  (blk E_Yard_dearestBehind []))
  (blk E_Yard_dearestBehind [.iinc 4 1])))))
  (blk E_Yard_dearestBehind []) zFU)
  (rti E_Yard_dearestBehind [.iload_n 3])))
def x_Yard_dearestBehind : Ex := zrv 2 (exb true 7 d_Yard_dearestBehind)
abbrev r_Yard_dearestBehind : Room := ({ frames := 1, cells := 0, slots := 0, locals := 24 } : Room)
theorem eo_Yard_dearestBehind (hw : zWok w) (cx : CX w p s m args c b_Yard_dearestBehind 7 "CoilSlits$Yard") : EnvOk w true p l e r_Yard_dearestBehind s m args below meth c Q b_Yard_dearestBehind 7 "CoilSlits$Yard" E_Yard_dearestBehind :=
  ⟨rfl, by decide +kernel, by decide +kernel, by decide +kernel, hw, fun h => absurd h (by decide),
  List.forall_mem_cons.mpr ⟨call_V cx (ct_Grid_get w l hw) tw_200 tw_197 tw_3 tw_198 tw_199 (ci := 1) (Nat.le_of_ble_eq_true rfl) rfl (by decide +kernel) ⟨Nat.le_of_ble_eq_true rfl, Nat.le_of_ble_eq_true rfl⟩, fun q hq => absurd hq List.not_mem_nil⟩⟩
theorem sn_Yard_dearestBehind (h : MC w true p l e R s m args below meth c Q b_Yard_dearestBehind 7 "CoilSlits$Yard" E_Yard_dearestBehind 0 0 F (some .int)) : Sn (zK w true p l e R s m args below meth c Q 7) F (fun _ => False) (fun _ => False) 0 0 0 d_Yard_dearestBehind 0 0 0 := by
  unfold d_Yard_dearestBehind
  exact (sn_sq (pm := 5) (m_blk h zz (by decide +kernel))
  (sn_sq (pm := 92) (sn_lop (pt := 14) (pu := 89) (p2 := 89) (px := 92) (kb2 := fun _ => False) (kc2 := fun _ => False) (sc_fo m_fo (sc_no (m_cat h zz (p1 := 11) (tgt := 92) (by decide +kernel) (by decide +kernel) (by decide))))
  (sn_sq (pm := 26) (m_blk h zz (by decide +kernel))
  (sn_sq (pm := 57) (sn_ite (pt := 52) (pf := 56) (sc_or (pm := 32) (m_cat h zz (p1 := 29) (tgt := 52) (by decide +kernel) (by decide +kernel) (by decide)) (sc_an (pm := 38) (sc_no (m_cat h zz (p1 := 35) (tgt := 56) (by decide +kernel) (by decide +kernel) (by decide))) (sc_no (m_cat h zz (p1 := 49) (tgt := 56) (by decide +kernel) (by decide +kernel) (by decide)))))
  (sn_goto (pm := 53) (m_blk h zz (by decide +kernel)) (m_goto h (off := 4) (by decide +kernel) (by decide)))
  (m_blk h zz (by decide +kernel)))
  (sn_sq (pm := 59) (m_blk h zz (by decide +kernel))
  (sn_sq (pm := 86) (sn_ite (pt := 83) (pf := 86) (sc_an (pm := 64) (sc_no (m_cat h zz (p1 := 61) (tgt := 86) (by decide +kernel) (by decide +kernel) (by decide))) (sc_or (pm := 69) (m_cat h zz (p1 := 66) (tgt := 83) (by decide +kernel) (by decide +kernel) (by decide)) (sc_no (m_cat h zz (p1 := 80) (tgt := 86) (by decide +kernel) (by decide +kernel) (by decide)))))
  (m_blk h zz (by decide +kernel))
  (m_blk h zz rfl))
  (m_blk h zz (by decide +kernel))))))
  (m_blk h zz rfl) (m_goto h (off := (-84)) (by decide +kernel) (by decide)) zFU)
  (m_rti h zz (p1 := 93) (by decide +kernel) (by decide +kernel) (Nat.zero_le _) (Nat.zero_le _))))
theorem ct_Yard_dearestBehind (w : Wd) (l : Launch) (hw : zWok w) : CT w l y_Yard_dearestBehind b_Yard_dearestBehind 7 (some .int) r_Yard_dearestBehind (exb true 7 d_Yard_dearestBehind) :=
  ct_plain (by decide +kernel) (fun p e s m args below meth c Q cx hnm => eo_Yard_dearestBehind hw cx) (fun p e s m args below meth c Q F h => sn_Yard_dearestBehind h)
theorem q_Yard_dearestBehind {a : Nat} {fs : List Value} {M : Hp} {nx : Nat} (x0 : Int32) (x1 : Int32) (h : M a = some (cO 2 fs)) : x_Yard_dearestBehind [.ref a, .int x0, .int x1] (M, nx) = zres (d_Yard_dearestBehind ([some (.ref a), some (.int x0), some (.int x1), none, none, none, none], [], (M, nx))) := q_ofV [some (.ref a), some (.int x0), some (.int x1), none, none, none, none] h rfl (Nat.le_of_ble_eq_true rfl) (Or.inr rfl)
theorem lc_Yard_dearestBehind_69 : lookI (eC E_Yard_dearestBehind) (.invokevirtual 69) = some (3, x_Grid_get) := rfl
theorem lf_Yard_dearestBehind_55 : lookN (eF E_Yard_dearestBehind) 55 = some (2, 5) := rfl
theorem lf_Yard_dearestBehind_29 : lookN (eF E_Yard_dearestBehind) 29 = some (2, 2) := rfl
theorem lb_Yard_dearestBehind : eB E_Yard_dearestBehind = true := rfl
-- CoilSlits$Yard.widthTaken
def E_Yard_widthTaken : Env := (true, [(29, 2, 2), (32, 2, 3)], [(.invokevirtual 69, 3, x_Grid_get), (.invokevirtual 65, 2, x_Row_get)], [], [], zST, false)
def d_Yard_widthTaken : Dn := (rti E_Yard_widthTaken [.aload_n 0, .getfield 29, .iload_n 1, .iconst 3, .invokevirtual 69, .aload_n 0, .getfield 32, .iconst 1, .invokevirtual 65, .iadd])
def x_Yard_widthTaken : Ex := zrv 2 (exb true 2 d_Yard_widthTaken)
abbrev r_Yard_widthTaken : Room := ({ frames := 1, cells := 0, slots := 0, locals := 24 } : Room)
theorem eo_Yard_widthTaken (hw : zWok w) (cx : CX w p s m args c b_Yard_widthTaken 2 "CoilSlits$Yard") : EnvOk w true p l e r_Yard_widthTaken s m args below meth c Q b_Yard_widthTaken 2 "CoilSlits$Yard" E_Yard_widthTaken :=
  ⟨rfl, by decide +kernel, by decide +kernel, by decide +kernel, hw, fun h => absurd h (by decide),
  List.forall_mem_cons.mpr ⟨call_V cx (ct_Grid_get w l hw) tw_200 tw_197 tw_3 tw_198 tw_199 (ci := 1) (Nat.le_of_ble_eq_true rfl) rfl (by decide +kernel) ⟨Nat.le_of_ble_eq_true rfl, Nat.le_of_ble_eq_true rfl⟩, List.forall_mem_cons.mpr ⟨call_V cx (ct_Row_get w l hw) tw_216 tw_213 tw_5 tw_214 tw_215 (ci := 0) (Nat.le_of_ble_eq_true rfl) rfl (by decide +kernel) ⟨Nat.le_of_ble_eq_true rfl, Nat.le_of_ble_eq_true rfl⟩, fun q hq => absurd hq List.not_mem_nil⟩⟩⟩
theorem sn_Yard_widthTaken (h : MC w true p l e R s m args below meth c Q b_Yard_widthTaken 2 "CoilSlits$Yard" E_Yard_widthTaken 0 0 F (some .int)) : Sn (zK w true p l e R s m args below meth c Q 2) F (fun _ => False) (fun _ => False) 0 0 0 d_Yard_widthTaken 0 0 0 := by
  unfold d_Yard_widthTaken
  exact (m_rti h zz (p1 := 18) (by decide +kernel) (by decide +kernel) (Nat.zero_le _) (Nat.zero_le _))
theorem ct_Yard_widthTaken (w : Wd) (l : Launch) (hw : zWok w) : CT w l y_Yard_widthTaken b_Yard_widthTaken 2 (some .int) r_Yard_widthTaken (exb true 2 d_Yard_widthTaken) :=
  ct_plain (by decide +kernel) (fun p e s m args below meth c Q cx hnm => eo_Yard_widthTaken hw cx) (fun p e s m args below meth c Q F h => sn_Yard_widthTaken h)
theorem q_Yard_widthTaken {a : Nat} {fs : List Value} {M : Hp} {nx : Nat} (x0 : Int32) (h : M a = some (cO 2 fs)) : x_Yard_widthTaken [.ref a, .int x0] (M, nx) = zres (d_Yard_widthTaken ([some (.ref a), some (.int x0)], [], (M, nx))) := q_ofV [some (.ref a), some (.int x0)] h rfl (Nat.le_of_ble_eq_true rfl) (Or.inr rfl)
theorem lc_Yard_widthTaken_69 : lookI (eC E_Yard_widthTaken) (.invokevirtual 69) = some (3, x_Grid_get) := rfl
theorem lc_Yard_widthTaken_65 : lookI (eC E_Yard_widthTaken) (.invokevirtual 65) = some (2, x_Row_get) := rfl
theorem lf_Yard_widthTaken_29 : lookN (eF E_Yard_widthTaken) 29 = some (2, 2) := rfl
theorem lf_Yard_widthTaken_32 : lookN (eF E_Yard_widthTaken) 32 = some (2, 3) := rfl
theorem lb_Yard_widthTaken : eB E_Yard_widthTaken = true := rfl
-- CoilSlits$Yard.mismatch
def E_Yard_mismatch : Env := (true, [(14, 2, 0), (29, 2, 2)], [(.invokevirtual 69, 3, x_Grid_get)], [], [], zST, false)
def d_Yard_mismatch : Dn := (sq (ite' (cno (cat E_Yard_mismatch [.aload_n 0, .getfield 14, .iload_n 2, .iconst 1, .invokevirtual 69, .aload_n 0, .getfield 29, .iload_n 1, .iconst 1, .invokevirtual 69] (.if_icmp .eq 5)))
  (rti E_Yard_mismatch [.iconst 1])
  (blk E_Yard_mismatch []))
  (sq (ite' (cno (cat E_Yard_mismatch [.aload_n 0, .getfield 14, .iload_n 2, .iconst 2, .invokevirtual 69, .aload_n 0, .getfield 29, .iload_n 1, .iconst 2, .invokevirtual 69] (.if_icmp .ge 5)))
  (rti E_Yard_mismatch [.iconst 2])
  (blk E_Yard_mismatch []))
  (sq (ite' (cno (cat E_Yard_mismatch [.aload_n 0, .getfield 14, .iload_n 2, .iconst 0, .invokevirtual 69, .iload_n 3] (.if_icmp .ge 7)))
  (blk E_Yard_mismatch [.iconst 3])
  (blk E_Yard_mismatch [.iconst 0]))
  (rti E_Yard_mismatch []))))
def x_Yard_mismatch : Ex := zrv 2 (exb true 4 d_Yard_mismatch)
abbrev r_Yard_mismatch : Room := ({ frames := 1, cells := 0, slots := 0, locals := 24 } : Room)
theorem eo_Yard_mismatch (hw : zWok w) (cx : CX w p s m args c b_Yard_mismatch 4 "CoilSlits$Yard") : EnvOk w true p l e r_Yard_mismatch s m args below meth c Q b_Yard_mismatch 4 "CoilSlits$Yard" E_Yard_mismatch :=
  ⟨rfl, by decide +kernel, by decide +kernel, by decide +kernel, hw, fun h => absurd h (by decide),
  List.forall_mem_cons.mpr ⟨call_V cx (ct_Grid_get w l hw) tw_200 tw_197 tw_3 tw_198 tw_199 (ci := 1) (Nat.le_of_ble_eq_true rfl) rfl (by decide +kernel) ⟨Nat.le_of_ble_eq_true rfl, Nat.le_of_ble_eq_true rfl⟩, fun q hq => absurd hq List.not_mem_nil⟩⟩
theorem sn_Yard_mismatch (h : MC w true p l e R s m args below meth c Q b_Yard_mismatch 4 "CoilSlits$Yard" E_Yard_mismatch 0 0 F (some .int)) : Sn (zK w true p l e R s m args below meth c Q 4) F (fun _ => False) (fun _ => False) 0 0 0 d_Yard_mismatch 0 0 0 := by
  unfold d_Yard_mismatch
  exact (sn_sq (pm := 23) (sn_ite (pt := 21) (pf := 23) (sc_no (m_cat h zz (p1 := 18) (tgt := 23) (by decide +kernel) (by decide +kernel) (by decide)))
  (m_rti h zz (p1 := 22) (by decide +kernel) (by decide +kernel) (Nat.zero_le _) (Nat.zero_le _))
  (m_blk h zz rfl))
  (sn_sq (pm := 46) (sn_ite (pt := 44) (pf := 46) (sc_no (m_cat h zz (p1 := 41) (tgt := 46) (by decide +kernel) (by decide +kernel) (by decide)))
  (m_rti h zz (p1 := 45) (by decide +kernel) (by decide +kernel) (Nat.zero_le _) (Nat.zero_le _))
  (m_blk h zz rfl))
  (sn_sq (pm := 64) (sn_ite (pt := 59) (pf := 63) (sc_no (m_cat h zz (p1 := 56) (tgt := 63) (by decide +kernel) (by decide +kernel) (by decide)))
  (sn_goto (pm := 60) (m_blk h zz (by decide +kernel)) (m_goto h (off := 4) (by decide +kernel) (by decide)))
  (m_blk h zz (by decide +kernel)))
  (m_rti h zz (p1 := 64) (by decide +kernel) (by decide +kernel) (Nat.zero_le _) (Nat.zero_le _)))))
theorem ct_Yard_mismatch (w : Wd) (l : Launch) (hw : zWok w) : CT w l y_Yard_mismatch b_Yard_mismatch 4 (some .int) r_Yard_mismatch (exb true 4 d_Yard_mismatch) :=
  ct_plain (by decide +kernel) (fun p e s m args below meth c Q cx hnm => eo_Yard_mismatch hw cx) (fun p e s m args below meth c Q F h => sn_Yard_mismatch h)
theorem q_Yard_mismatch {a : Nat} {fs : List Value} {M : Hp} {nx : Nat} (x0 : Int32) (x1 : Int32) (x2 : Int32) (h : M a = some (cO 2 fs)) : x_Yard_mismatch [.ref a, .int x0, .int x1, .int x2] (M, nx) = zres (d_Yard_mismatch ([some (.ref a), some (.int x0), some (.int x1), some (.int x2)], [], (M, nx))) := q_ofV [some (.ref a), some (.int x0), some (.int x1), some (.int x2)] h rfl (Nat.le_of_ble_eq_true rfl) (Or.inr rfl)
theorem lc_Yard_mismatch_69 : lookI (eC E_Yard_mismatch) (.invokevirtual 69) = some (3, x_Grid_get) := rfl
theorem lf_Yard_mismatch_14 : lookN (eF E_Yard_mismatch) 14 = some (2, 0) := rfl
theorem lf_Yard_mismatch_29 : lookN (eF E_Yard_mismatch) 29 = some (2, 2) := rfl
theorem lb_Yard_mismatch : eB E_Yard_mismatch = true := rfl
-- CoilSlits$Yard.coilsAbove
def E_Yard_coilsAbove : Env := (true, [(25, 2, 1)], [(.invokevirtual 65, 2, x_Row_get)], [], [], zST, false)
def d_Yard_coilsAbove : Dn := (rti E_Yard_coilsAbove [.aload_n 0, .getfield 25, .iload_n 1, .iconst 5, .idiv, .invokevirtual 65, .iconst 1, .isub, .iload_n 1, .iconst 5, .irem, .isub])
def x_Yard_coilsAbove : Ex := zrv 2 (exb true 2 d_Yard_coilsAbove)
abbrev r_Yard_coilsAbove : Room := ({ frames := 1, cells := 0, slots := 0, locals := 21 } : Room)
theorem eo_Yard_coilsAbove (hw : zWok w) (cx : CX w p s m args c b_Yard_coilsAbove 2 "CoilSlits$Yard") : EnvOk w true p l e r_Yard_coilsAbove s m args below meth c Q b_Yard_coilsAbove 2 "CoilSlits$Yard" E_Yard_coilsAbove :=
  ⟨rfl, by decide +kernel, by decide +kernel, by decide +kernel, hw, fun h => absurd h (by decide),
  List.forall_mem_cons.mpr ⟨call_V cx (ct_Row_get w l hw) tw_216 tw_213 tw_5 tw_214 tw_215 (ci := 0) (Nat.le_of_ble_eq_true rfl) rfl (by decide +kernel) ⟨Nat.le_of_ble_eq_true rfl, Nat.le_of_ble_eq_true rfl⟩, fun q hq => absurd hq List.not_mem_nil⟩⟩
theorem sn_Yard_coilsAbove (h : MC w true p l e R s m args below meth c Q b_Yard_coilsAbove 2 "CoilSlits$Yard" E_Yard_coilsAbove 0 0 F (some .int)) : Sn (zK w true p l e R s m args below meth c Q 2) F (fun _ => False) (fun _ => False) 0 0 0 d_Yard_coilsAbove 0 0 0 := by
  unfold d_Yard_coilsAbove
  exact (m_rti h zz (p1 := 16) (by decide +kernel) (by decide +kernel) (Nat.zero_le _) (Nat.zero_le _))
theorem ct_Yard_coilsAbove (w : Wd) (l : Launch) (hw : zWok w) : CT w l y_Yard_coilsAbove b_Yard_coilsAbove 2 (some .int) r_Yard_coilsAbove (exb true 2 d_Yard_coilsAbove) :=
  ct_plain (by decide +kernel) (fun p e s m args below meth c Q cx hnm => eo_Yard_coilsAbove hw cx) (fun p e s m args below meth c Q F h => sn_Yard_coilsAbove h)
theorem q_Yard_coilsAbove {a : Nat} {fs : List Value} {M : Hp} {nx : Nat} (x0 : Int32) (h : M a = some (cO 2 fs)) : x_Yard_coilsAbove [.ref a, .int x0] (M, nx) = zres (d_Yard_coilsAbove ([some (.ref a), some (.int x0)], [], (M, nx))) := q_ofV [some (.ref a), some (.int x0)] h rfl (Nat.le_of_ble_eq_true rfl) (Or.inr rfl)
theorem lc_Yard_coilsAbove_65 : lookI (eC E_Yard_coilsAbove) (.invokevirtual 65) = some (2, x_Row_get) := rfl
theorem lf_Yard_coilsAbove_25 : lookN (eF E_Yard_coilsAbove) 25 = some (2, 1) := rfl
theorem lb_Yard_coilsAbove : eB E_Yard_coilsAbove = true := rfl
-- CoilSlits$Yard.canDig
def E_Yard_canDig : Env := (true, [(25, 2, 1)], [(.invokevirtual 65, 2, x_Row_get), (.invokevirtual 75, 2, x_Yard_coilsAbove)], [], [], zST, false)
def d_Yard_canDig : Dn := (sq (blk E_Yard_canDig [.iload_n 1, .iconst 5, .idiv, .istore_n 2, .iconst 0, .istore_n 3, .iconst 0, .istore 4])
  (sq (lop (cno (cat E_Yard_canDig [.iload 4, .bipush 6] (.if_icmp .ge 29)))
  (sq (ite' (cno (cat E_Yard_canDig [.iload 4, .iload_n 2] (.if_icmp .eq 17)))
  (blk E_Yard_canDig [.iload_n 3, .iconst 5, .aload_n 0, .getfield 25, .iload 4, .invokevirtual 65, .isub, .iadd, .istore_n 3])
  (blk E_Yard_canDig []))
  (blk E_Yard_canDig [.iinc 4 1]))
  (blk E_Yard_canDig []) zFU)
  (sq (ite' (cno (cat E_Yard_canDig [.aload_n 0, .iload_n 1, .invokevirtual 75, .iload_n 3] (.if_icmp .gt 7)))
  (blk E_Yard_canDig [.iconst 1])
  (blk E_Yard_canDig [.iconst 0]))
  (rtz E_Yard_canDig []))))
def x_Yard_canDig : Ex := zrv 2 (exb true 5 d_Yard_canDig)
abbrev r_Yard_canDig : Room := ({ frames := 2, cells := 0, slots := 0, locals := 42 } : Room)
theorem eo_Yard_canDig (hw : zWok w) (cx : CX w p s m args c b_Yard_canDig 5 "CoilSlits$Yard") : EnvOk w true p l e r_Yard_canDig s m args below meth c Q b_Yard_canDig 5 "CoilSlits$Yard" E_Yard_canDig :=
  ⟨rfl, by decide +kernel, by decide +kernel, by decide +kernel, hw, fun h => absurd h (by decide),
  List.forall_mem_cons.mpr ⟨call_V cx (ct_Row_get w l hw) tw_216 tw_213 tw_5 tw_214 tw_215 (ci := 0) (Nat.le_of_ble_eq_true rfl) rfl (by decide +kernel) ⟨Nat.le_of_ble_eq_true rfl, Nat.le_of_ble_eq_true rfl⟩, List.forall_mem_cons.mpr ⟨call_V cx (ct_Yard_coilsAbove w l hw) tw_228 tw_225 tw_2 tw_226 tw_227 (ci := 2) (Nat.le_of_ble_eq_true rfl) rfl (by decide +kernel) ⟨Nat.le_of_ble_eq_true rfl, Nat.le_of_ble_eq_true rfl⟩, fun q hq => absurd hq List.not_mem_nil⟩⟩⟩
theorem sn_Yard_canDig (h : MC w true p l e R s m args below meth c Q b_Yard_canDig 5 "CoilSlits$Yard" E_Yard_canDig 0 0 F (some .boolean)) : Sn (zK w true p l e R s m args below meth c Q 5) F (fun _ => False) (fun _ => False) 0 0 0 d_Yard_canDig 0 0 0 := by
  unfold d_Yard_canDig
  exact (sn_sq (pm := 9) (m_blk h zz (by decide +kernel))
  (sn_sq (pm := 42) (sn_lop (pt := 16) (pu := 39) (p2 := 39) (px := 42) (kb2 := fun _ => False) (kc2 := fun _ => False) (sc_no (m_cat h zz (p1 := 13) (tgt := 42) (by decide +kernel) (by decide +kernel) (by decide)))
  (sn_sq (pm := 36) (sn_ite (pt := 22) (pf := 36) (sc_no (m_cat h zz (p1 := 19) (tgt := 36) (by decide +kernel) (by decide +kernel) (by decide)))
  (m_blk h zz (by decide +kernel))
  (m_blk h zz rfl))
  (m_blk h zz (by decide +kernel)))
  (m_blk h zz rfl) (m_goto h (off := (-30)) (by decide +kernel) (by decide)) zFU)
  (sn_sq (pm := 56) (sn_ite (pt := 51) (pf := 55) (sc_no (m_cat h zz (p1 := 48) (tgt := 55) (by decide +kernel) (by decide +kernel) (by decide)))
  (sn_goto (pm := 52) (m_blk h zz (by decide +kernel)) (m_goto h (off := 4) (by decide +kernel) (by decide)))
  (m_blk h zz (by decide +kernel)))
  (m_rtz h zz (p1 := 56) (by decide +kernel) (by decide +kernel) (Nat.zero_le _) (Nat.zero_le _)))))
theorem ct_Yard_canDig (w : Wd) (l : Launch) (hw : zWok w) : CT w l y_Yard_canDig b_Yard_canDig 5 (some .boolean) r_Yard_canDig (exb true 5 d_Yard_canDig) :=
  ct_plain (by decide +kernel) (fun p e s m args below meth c Q cx hnm => eo_Yard_canDig hw cx) (fun p e s m args below meth c Q F h => sn_Yard_canDig h)
theorem q_Yard_canDig {a : Nat} {fs : List Value} {M : Hp} {nx : Nat} (x0 : Int32) (h : M a = some (cO 2 fs)) : x_Yard_canDig [.ref a, .int x0] (M, nx) = zres (d_Yard_canDig ([some (.ref a), some (.int x0), none, none, none], [], (M, nx))) := q_ofV [some (.ref a), some (.int x0), none, none, none] h rfl (Nat.le_of_ble_eq_true rfl) (Or.inr rfl)
theorem lc_Yard_canDig_65 : lookI (eC E_Yard_canDig) (.invokevirtual 65) = some (2, x_Row_get) := rfl
theorem lc_Yard_canDig_75 : lookI (eC E_Yard_canDig) (.invokevirtual 75) = some (2, x_Yard_coilsAbove) := rfl
theorem lf_Yard_canDig_25 : lookN (eF E_Yard_canDig) 25 = some (2, 1) := rfl
theorem lb_Yard_canDig : eB E_Yard_canDig = true := rfl
-- CoilSlits$Yard.stripsIn
def E_Yard_stripsIn : Env := (true, [], [], [], [], zST, false)
def d_Yard_stripsIn : Dn := (sq (ite' (cno (cat E_Yard_stripsIn [.iload_n 1] (.ifCond .le 9)))
  (blk E_Yard_stripsIn [.iload_n 0, .iload_n 1, .idiv])
  (blk E_Yard_stripsIn [.iconst 0]))
  (rti E_Yard_stripsIn []))
def x_Yard_stripsIn : Ex := exb true 2 d_Yard_stripsIn
abbrev r_Yard_stripsIn : Room := ({ frames := 0, cells := 0, slots := 0, locals := 0 } : Room)
theorem eo_Yard_stripsIn (hw : zWok w) (cx : CX w p s m args c b_Yard_stripsIn 2 "CoilSlits$Yard") : EnvOk w true p l e r_Yard_stripsIn s m args below meth c Q b_Yard_stripsIn 2 "CoilSlits$Yard" E_Yard_stripsIn :=
  ⟨rfl, by decide +kernel, by decide +kernel, by decide +kernel, hw, fun h => absurd h (by decide),
  fun q hq => absurd hq List.not_mem_nil⟩
theorem sn_Yard_stripsIn (h : MC w true p l e R s m args below meth c Q b_Yard_stripsIn 2 "CoilSlits$Yard" E_Yard_stripsIn 0 0 F (some .int)) : Sn (zK w true p l e R s m args below meth c Q 2) F (fun _ => False) (fun _ => False) 0 0 0 d_Yard_stripsIn 0 0 0 := by
  unfold d_Yard_stripsIn
  exact (sn_sq (pm := 11) (sn_ite (pt := 4) (pf := 10) (sc_no (m_cat h zz (p1 := 1) (tgt := 10) (by decide +kernel) (by decide +kernel) (by decide)))
  (sn_goto (pm := 7) (m_blk h zz (by decide +kernel)) (m_goto h (off := 4) (by decide +kernel) (by decide)))
  (m_blk h zz (by decide +kernel)))
  (m_rti h zz (p1 := 11) (by decide +kernel) (by decide +kernel) (Nat.zero_le _) (Nat.zero_le _)))
theorem ct_Yard_stripsIn (w : Wd) (l : Launch) (hw : zWok w) : CT w l y_Yard_stripsIn b_Yard_stripsIn 2 (some .int) r_Yard_stripsIn (exb true 2 d_Yard_stripsIn) :=
  ct_plain (by decide +kernel) (fun p e s m args below meth c Q cx hnm => eo_Yard_stripsIn hw cx) (fun p e s m args below meth c Q F h => sn_Yard_stripsIn h)
theorem q_Yard_stripsIn (x0 : Int32) (x1 : Int32) (g : G) : x_Yard_stripsIn [.int x0, .int x1] g = zres (d_Yard_stripsIn ([some (.int x0), some (.int x1)], [], g)) := q_of [some (.int x0), some (.int x1)] rfl (Nat.le_of_ble_eq_true rfl) (Or.inr rfl)
theorem lb_Yard_stripsIn : eB E_Yard_stripsIn = true := rfl
-- CoilSlits$Yard.worthByRule
def E_Yard_worthByRule : Env := (true, [(14, 2, 0), (32, 2, 3), (29, 2, 2)], [(.invokevirtual 69, 3, x_Grid_get), (.invokevirtual 65, 2, x_Row_get), (.invokestatic 118, 2, x_Yard_stripsIn), (.invokestatic 132, 2, xMin), (.invokevirtual 75, 2, x_Yard_coilsAbove)], [], [], zST, false)
def d_Yard_worthByRule : Dn := (swi E_Yard_worthByRule [.aload_n 0, .getfield 14, .iload_n 2, .iconst 0, .invokevirtual 69, .istore 4, .aload_n 0, .getfield 32, .iconst 3, .invokevirtual 65] [(0, (rti E_Yard_worthByRule [.iload 4, .iload_n 3, .iload 4, .iload_n 3, .invokestatic 118, .aload_n 0, .getfield 29, .iload_n 1, .iconst 4, .invokevirtual 69, .invokestatic 132, .imul, .isub])), (1, (rti E_Yard_worthByRule [.aload_n 0, .iload_n 2, .invokevirtual 75]))]
  (rti E_Yard_worthByRule [.aload_n 0, .getfield 14, .iload_n 2, .iconst 2, .invokevirtual 69]))
def x_Yard_worthByRule : Ex := zrv 2 (exb true 5 d_Yard_worthByRule)
abbrev r_Yard_worthByRule : Room := ({ frames := 2, cells := 0, slots := 0, locals := 42 } : Room)
theorem eo_Yard_worthByRule (hw : zWok w) (cx : CX w p s m args c b_Yard_worthByRule 5 "CoilSlits$Yard") : EnvOk w true p l e r_Yard_worthByRule s m args below meth c Q b_Yard_worthByRule 5 "CoilSlits$Yard" E_Yard_worthByRule :=
  ⟨rfl, by decide +kernel, by decide +kernel, by decide +kernel, hw, fun h => absurd h (by decide),
  List.forall_mem_cons.mpr ⟨call_V cx (ct_Grid_get w l hw) tw_200 tw_197 tw_3 tw_198 tw_199 (ci := 1) (Nat.le_of_ble_eq_true rfl) rfl (by decide +kernel) ⟨Nat.le_of_ble_eq_true rfl, Nat.le_of_ble_eq_true rfl⟩, List.forall_mem_cons.mpr ⟨call_V cx (ct_Row_get w l hw) tw_216 tw_213 tw_5 tw_214 tw_215 (ci := 0) (Nat.le_of_ble_eq_true rfl) rfl (by decide +kernel) ⟨Nat.le_of_ble_eq_true rfl, Nat.le_of_ble_eq_true rfl⟩, List.forall_mem_cons.mpr ⟨call_S cx (ct_Yard_stripsIn w l hw) tw_235 tw_233 tw_2 tw_234 (by decide +kernel) ⟨Nat.le_of_ble_eq_true rfl, Nat.le_of_ble_eq_true rfl⟩, List.forall_mem_cons.mpr ⟨call_min cx tw_236 tw_177 tw_4 tw_xMin ⟨Nat.le_of_ble_eq_true rfl, Nat.le_of_ble_eq_true rfl⟩, List.forall_mem_cons.mpr ⟨call_V cx (ct_Yard_coilsAbove w l hw) tw_228 tw_225 tw_2 tw_226 tw_227 (ci := 2) (Nat.le_of_ble_eq_true rfl) rfl (by decide +kernel) ⟨Nat.le_of_ble_eq_true rfl, Nat.le_of_ble_eq_true rfl⟩, fun q hq => absurd hq List.not_mem_nil⟩⟩⟩⟩⟩⟩
theorem sn_Yard_worthByRule (h : MC w true p l e R s m args below meth c Q b_Yard_worthByRule 5 "CoilSlits$Yard" E_Yard_worthByRule 0 0 F (some .int)) : Sn (zK w true p l e R s m args below meth c Q 5) F (fun _ => False) (fun _ => False) 0 0 0 d_Yard_worthByRule 0 0 0 := by
  unfold d_Yard_worthByRule
  exact (m_sw h zz (p1 := 19) (pd := 74) [(0, 44), (1, 68)] (by decide +kernel) (by decide +kernel)
  (swl_cons (m_rti h zz (p1 := 67) (by decide +kernel) (by decide +kernel) (Nat.zero_le _) (Nat.zero_le _))
  (swl_cons (m_rti h zz (p1 := 73) (by decide +kernel) (by decide +kernel) (Nat.zero_le _) (Nat.zero_le _))
  swl_nil))
  (m_rti h zz (p1 := 83) (by decide +kernel) (by decide +kernel) (Nat.zero_le _) (Nat.zero_le _)))
theorem ct_Yard_worthByRule (w : Wd) (l : Launch) (hw : zWok w) : CT w l y_Yard_worthByRule b_Yard_worthByRule 5 (some .int) r_Yard_worthByRule (exb true 5 d_Yard_worthByRule) :=
  ct_plain (by decide +kernel) (fun p e s m args below meth c Q cx hnm => eo_Yard_worthByRule hw cx) (fun p e s m args below meth c Q F h => sn_Yard_worthByRule h)
theorem q_Yard_worthByRule {a : Nat} {fs : List Value} {M : Hp} {nx : Nat} (x0 : Int32) (x1 : Int32) (x2 : Int32) (h : M a = some (cO 2 fs)) : x_Yard_worthByRule [.ref a, .int x0, .int x1, .int x2] (M, nx) = zres (d_Yard_worthByRule ([some (.ref a), some (.int x0), some (.int x1), some (.int x2), none], [], (M, nx))) := q_ofV [some (.ref a), some (.int x0), some (.int x1), some (.int x2), none] h rfl (Nat.le_of_ble_eq_true rfl) (Or.inr rfl)
theorem lc_Yard_worthByRule_69 : lookI (eC E_Yard_worthByRule) (.invokevirtual 69) = some (3, x_Grid_get) := rfl
theorem lc_Yard_worthByRule_65 : lookI (eC E_Yard_worthByRule) (.invokevirtual 65) = some (2, x_Row_get) := rfl
theorem lc_Yard_worthByRule_118 : lookI (eC E_Yard_worthByRule) (.invokestatic 118) = some (2, x_Yard_stripsIn) := rfl
theorem lc_Yard_worthByRule_132 : lookI (eC E_Yard_worthByRule) (.invokestatic 132) = some (2, xMin) := rfl
theorem lc_Yard_worthByRule_75 : lookI (eC E_Yard_worthByRule) (.invokevirtual 75) = some (2, x_Yard_coilsAbove) := rfl
theorem lf_Yard_worthByRule_14 : lookN (eF E_Yard_worthByRule) 14 = some (2, 0) := rfl
theorem lf_Yard_worthByRule_32 : lookN (eF E_Yard_worthByRule) 32 = some (2, 3) := rfl
theorem lf_Yard_worthByRule_29 : lookN (eF E_Yard_worthByRule) 29 = some (2, 2) := rfl
theorem lb_Yard_worthByRule : eB E_Yard_worthByRule = true := rfl
-- CoilSlits$Yard.choose
def E_Yard_choose : Env := (true, [(14, 2, 0)], [(.invokevirtual 111, 2, x_Yard_widthTaken), (.invokevirtual 69, 3, x_Grid_get), (.invokevirtual 121, 4, x_Yard_mismatch), (.invokevirtual 125, 2, x_Yard_canDig), (.invokevirtual 129, 4, x_Yard_worthByRule)], [], [], zST, false)
def d_Yard_choose : Dn := (sq (blk E_Yard_choose [.aload_n 0, .iload_n 1, .invokevirtual 111, .istore_n 2, .iconst (-1), .istore_n 3, .iconst 0, .istore 4, .iconst 0, .istore 5])
  (sq (lop (cfo [6, 7] (cno (cat E_Yard_choose [.iload 5, .bipush 30] (.if_icmp .ge 116))))
  (ite' (can (cno (cat E_Yard_choose [.aload_n 0, .getfield 14, .iload 5, .iconst 4, .invokevirtual 69, .iconst (-1)] (.if_icmp .eq 96))) (cno (cat E_Yard_choose [.aload_n 0, .iload_n 1, .iload 5, .iload_n 2, .invokevirtual 121] (.ifCond .ne 85))))
  (sq (ite' (cno (cat E_Yard_choose [.aload_n 0, .iload 5, .invokevirtual 125] (.ifCond .ne 6)))
  cnt
  (blk E_Yard_choose []))
  (sq (blk E_Yard_choose [.aload_n 0, .iload_n 1, .iload 5, .iload_n 2, .invokevirtual 129, .istore 6])
  (sq (ite' (cno (cat E_Yard_choose [.aload_n 0, .getfield 14, .iload 5, .iconst 4, .invokevirtual 69, .aload_n 0, .getfield 14, .iload_n 3, .iconst 4, .invokevirtual 69] (.if_icmp .ge 7)))
  (blk E_Yard_choose [.iconst 1])
  (blk E_Yard_choose [.iconst 0]))
  (sq (blk E_Yard_choose [.istore 7])
  (ite' (cor (cat E_Yard_choose [.iload_n 3, .iconst (-1)] (.if_icmp .eq 22)) (cor (cat E_Yard_choose [.iload 6, .iload 4] (.if_icmp .lt 15)) (can (cno (cat E_Yard_choose [.iload 6, .iload 4] (.if_icmp .ne 15))) (cno (cat E_Yard_choose [.iload 7] (.ifCond .eq 10))))))
  (blk E_Yard_choose [.iload 5, .istore_n 3, .iload 6, .istore 4])
  (blk E_Yard_choose []))))))
  (blk E_Yard_choose []))
  (blk E_Yard_choose [.iinc 5 1]) zFU)
  (rti E_Yard_choose [.iload_n 3])))
def x_Yard_choose : Ex := zrv 2 (exb true 8 d_Yard_choose)
abbrev r_Yard_choose : Room := ({ frames := 3, cells := 0, slots := 0, locals := 66 } : Room)
theorem eo_Yard_choose (hw : zWok w) (cx : CX w p s m args c b_Yard_choose 8 "CoilSlits$Yard") : EnvOk w true p l e r_Yard_choose s m args below meth c Q b_Yard_choose 8 "CoilSlits$Yard" E_Yard_choose :=
  ⟨rfl, by decide +kernel, by decide +kernel, by decide +kernel, hw, fun h => absurd h (by decide),
  List.forall_mem_cons.mpr ⟨call_V cx (ct_Yard_widthTaken w l hw) tw_212 tw_209 tw_2 tw_211 tp_2 (ci := 2) (Nat.le_of_ble_eq_true rfl) rfl (by decide +kernel) ⟨Nat.le_of_ble_eq_true rfl, Nat.le_of_ble_eq_true rfl⟩, List.forall_mem_cons.mpr ⟨call_V cx (ct_Grid_get w l hw) tw_200 tw_197 tw_3 tw_198 tw_199 (ci := 1) (Nat.le_of_ble_eq_true rfl) rfl (by decide +kernel) ⟨Nat.le_of_ble_eq_true rfl, Nat.le_of_ble_eq_true rfl⟩, List.forall_mem_cons.mpr ⟨call_V cx (ct_Yard_mismatch w l hw) tw_220 tw_217 tw_2 tw_219 tp_3 (ci := 2) (Nat.le_of_ble_eq_true rfl) rfl (by decide +kernel) ⟨Nat.le_of_ble_eq_true rfl, Nat.le_of_ble_eq_true rfl⟩, List.forall_mem_cons.mpr ⟨call_V cx (ct_Yard_canDig w l hw) tw_224 tw_221 tw_2 tw_222 tw_223 (ci := 2) (Nat.le_of_ble_eq_true rfl) rfl (by decide +kernel) ⟨Nat.le_of_ble_eq_true rfl, Nat.le_of_ble_eq_true rfl⟩, List.forall_mem_cons.mpr ⟨call_V cx (ct_Yard_worthByRule w l hw) tw_232 tw_229 tw_2 tw_231 tp_4 (ci := 2) (Nat.le_of_ble_eq_true rfl) rfl (by decide +kernel) ⟨Nat.le_of_ble_eq_true rfl, Nat.le_of_ble_eq_true rfl⟩, fun q hq => absurd hq List.not_mem_nil⟩⟩⟩⟩⟩⟩
theorem sn_Yard_choose (h : MC w true p l e R s m args below meth c Q b_Yard_choose 8 "CoilSlits$Yard" E_Yard_choose 0 0 F (some .int)) : Sn (zK w true p l e R s m args below meth c Q 8) F (fun _ => False) (fun _ => False) 0 0 0 d_Yard_choose 0 0 0 := by
  unfold d_Yard_choose
  exact (sn_sq (pm := 14) (m_blk h zz (by decide +kernel))
  (sn_sq (pm := 134) (sn_lop (pt := 21) (pu := 128) (p2 := 131) (px := 134) (kb2 := fun _ => False) (kc2 := fun _ => False) (sc_fo m_fo (sc_no (m_cat h zz (p1 := 18) (tgt := 134) (by decide +kernel) (by decide +kernel) (by decide))))
  (sn_ite (pt := 46) (pf := 128) (sc_an (pm := 35) (sc_no (m_cat h zz (p1 := 32) (tgt := 128) (by decide +kernel) (by decide +kernel) (by decide))) (sc_no (m_cat h zz (p1 := 43) (tgt := 128) (by decide +kernel) (by decide +kernel) (by decide))))
  (sn_sq (pm := 58) (sn_ite (pt := 55) (pf := 58) (sc_no (m_cat h zz (p1 := 52) (tgt := 58) (by decide +kernel) (by decide +kernel) (by decide)))
  (sn_cnt (m_goto h (off := 73) (by decide +kernel) (by decide)))
  (m_blk h zz rfl))
  (sn_sq (pm := 68) (m_blk h zz (by decide +kernel))
  (sn_sq (pm := 95) (sn_ite (pt := 90) (pf := 94) (sc_no (m_cat h zz (p1 := 87) (tgt := 94) (by decide +kernel) (by decide +kernel) (by decide)))
  (sn_goto (pm := 91) (m_blk h zz (by decide +kernel)) (m_goto h (off := 4) (by decide +kernel) (by decide)))
  (m_blk h zz (by decide +kernel)))
  (sn_sq (pm := 97) (m_blk h zz (by decide +kernel))
  (sn_ite (pt := 121) (pf := 128) (sc_or (pm := 102) (m_cat h zz (p1 := 99) (tgt := 121) (by decide +kernel) (by decide +kernel) (by decide)) (sc_or (pm := 109) (m_cat h zz (p1 := 106) (tgt := 121) (by decide +kernel) (by decide +kernel) (by decide)) (sc_an (pm := 116) (sc_no (m_cat h zz (p1 := 113) (tgt := 128) (by decide +kernel) (by decide +kernel) (by decide))) (sc_no (m_cat h zz (p1 := 118) (tgt := 128) (by decide +kernel) (by decide +kernel) (by decide))))))
  (m_blk h zz (by decide +kernel))
  (m_blk h zz rfl))))))
  (m_blk h zz rfl))
  (m_blk h zz (by decide +kernel)) (m_goto h (off := (-117)) (by decide +kernel) (by decide)) zFU)
  (m_rti h zz (p1 := 135) (by decide +kernel) (by decide +kernel) (Nat.zero_le _) (Nat.zero_le _))))
theorem ct_Yard_choose (w : Wd) (l : Launch) (hw : zWok w) : CT w l y_Yard_choose b_Yard_choose 8 (some .int) r_Yard_choose (exb true 8 d_Yard_choose) :=
  ct_plain (by decide +kernel) (fun p e s m args below meth c Q cx hnm => eo_Yard_choose hw cx) (fun p e s m args below meth c Q F h => sn_Yard_choose h)
theorem q_Yard_choose {a : Nat} {fs : List Value} {M : Hp} {nx : Nat} (x0 : Int32) (h : M a = some (cO 2 fs)) : x_Yard_choose [.ref a, .int x0] (M, nx) = zres (d_Yard_choose ([some (.ref a), some (.int x0), none, none, none, none, none, none], [], (M, nx))) := q_ofV [some (.ref a), some (.int x0), none, none, none, none, none, none] h rfl (Nat.le_of_ble_eq_true rfl) (Or.inr rfl)
theorem lc_Yard_choose_111 : lookI (eC E_Yard_choose) (.invokevirtual 111) = some (2, x_Yard_widthTaken) := rfl
theorem lc_Yard_choose_69 : lookI (eC E_Yard_choose) (.invokevirtual 69) = some (3, x_Grid_get) := rfl
theorem lc_Yard_choose_121 : lookI (eC E_Yard_choose) (.invokevirtual 121) = some (4, x_Yard_mismatch) := rfl
theorem lc_Yard_choose_125 : lookI (eC E_Yard_choose) (.invokevirtual 125) = some (2, x_Yard_canDig) := rfl
theorem lc_Yard_choose_129 : lookI (eC E_Yard_choose) (.invokevirtual 129) = some (4, x_Yard_worthByRule) := rfl
theorem lf_Yard_choose_14 : lookN (eF E_Yard_choose) 14 = some (2, 0) := rfl
theorem lb_Yard_choose : eB E_Yard_choose = true := rfl
-- CoilSlits$Yard.emptiestBeside
def E_Yard_emptiestBeside : Env := (true, [(25, 2, 1)], [(.invokevirtual 65, 2, x_Row_get), (.invokestatic 88, 1, xAbs)], [], [], zST, false)
def d_Yard_emptiestBeside : Dn := (sq (blk E_Yard_emptiestBeside [.iconst (-1), .istore_n 2, .iconst 0, .istore_n 3])
  (sq (lop (cfo [4, 5, 6] (cno (cat E_Yard_emptiestBeside [.iload_n 3, .bipush 6] (.if_icmp .ge 110))))
  (sq (ite' (cno (cat E_Yard_emptiestBeside [.aload_n 0, .getfield 25, .iload_n 3, .invokevirtual 65, .aload_n 0, .getfield 25, .iload_n 2, .invokevirtual 65] (.if_icmp .ge 7)))
  (blk E_Yard_emptiestBeside [.iconst 1])
  (blk E_Yard_emptiestBeside [.iconst 0]))
  (sq (blk E_Yard_emptiestBeside [.istore 4])
  (sq (ite' (cno (cat E_Yard_emptiestBeside [.aload_n 0, .getfield 25, .iload_n 3, .invokevirtual 65, .aload_n 0, .getfield 25, .iload_n 2, .invokevirtual 65] (.if_icmp .ne 7)))
  (blk E_Yard_emptiestBeside [.iconst 1])
  (blk E_Yard_emptiestBeside [.iconst 0]))
  (sq (blk E_Yard_emptiestBeside [.istore 5])
  (sq (ite' (cno (cat E_Yard_emptiestBeside [.iload_n 3, .iload_n 1, .isub, .invokestatic 88, .iload_n 2, .iload_n 1, .isub, .invokestatic 88] (.if_icmp .ge 7)))
  (blk E_Yard_emptiestBeside [.iconst 1])
  (blk E_Yard_emptiestBeside [.iconst 0]))
  (sq (blk E_Yard_emptiestBeside [.istore 6])
  (sq (ite' (can (cno (cat E_Yard_emptiestBeside [.iload_n 3, .iload_n 1] (.if_icmp .eq 25))) (cor (cat E_Yard_emptiestBeside [.iload_n 2, .iconst (-1)] (.if_icmp .eq 18)) (cor (cat E_Yard_emptiestBeside [.iload 4] (.ifCond .ne 13)) (can (cno (cat E_Yard_emptiestBeside [.iload 5] (.ifCond .eq 10))) (cno (cat E_Yard_emptiestBeside [.iload 6] (.ifCond .eq 5)))))))
  (blk E_Yard_emptiestBeside [.iload_n 3, .istore_n 2])
  (blk E_Yard_emptiestBeside []))
  (blk E_Yard_emptiestBeside [.iinc 3 1]))))))))
  (blk E_Yard_emptiestBeside []) zFU)
  (rti E_Yard_emptiestBeside [.iload_n 2])))
def x_Yard_emptiestBeside : Ex := zrv 2 (exb true 7 d_Yard_emptiestBeside)
abbrev r_Yard_emptiestBeside : Room := ({ frames := 1, cells := 0, slots := 0, locals := 21 } : Room)
theorem eo_Yard_emptiestBeside (hw : zWok w) (cx : CX w p s m args c b_Yard_emptiestBeside 7 "CoilSlits$Yard") : EnvOk w true p l e r_Yard_emptiestBeside s m args below meth c Q b_Yard_emptiestBeside 7 "CoilSlits$Yard" E_Yard_emptiestBeside :=
  ⟨rfl, by decide +kernel, by decide +kernel, by decide +kernel, hw, fun h => absurd h (by decide),
  List.forall_mem_cons.mpr ⟨call_V cx (ct_Row_get w l hw) tw_216 tw_213 tw_5 tw_214 tw_215 (ci := 0) (Nat.le_of_ble_eq_true rfl) rfl (by decide +kernel) ⟨Nat.le_of_ble_eq_true rfl, Nat.le_of_ble_eq_true rfl⟩, List.forall_mem_cons.mpr ⟨call_abs cx tw_248 tw_249 tw_4 tw_xAbs ⟨Nat.le_of_ble_eq_true rfl, Nat.le_of_ble_eq_true rfl⟩, fun q hq => absurd hq List.not_mem_nil⟩⟩⟩
theorem sn_Yard_emptiestBeside (h : MC w true p l e R s m args below meth c Q b_Yard_emptiestBeside 7 "CoilSlits$Yard" E_Yard_emptiestBeside 0 0 F (some .int)) : Sn (zK w true p l e R s m args below meth c Q 7) F (fun _ => False) (fun _ => False) 0 0 0 d_Yard_emptiestBeside 0 0 0 := by
  unfold d_Yard_emptiestBeside
  exact (sn_sq (pm := 4) (m_blk h zz (by decide +kernel))
  (sn_sq (pm := 117) (sn_lop (pt := 10) (pu := 114) (p2 := 114) (px := 117) (kb2 := fun _ => False) (kc2 := fun _ => False) (sc_fo m_fo (sc_no (m_cat h zz (p1 := 7) (tgt := 117) (by decide +kernel) (by decide +kernel) (by decide))))
  (sn_sq (pm := 34) (sn_ite (pt := 29) (pf := 33) (sc_no (m_cat h zz (p1 := 26) (tgt := 33) (by decide +kernel) (by decide +kernel) (by decide)))
  (sn_goto (pm := 30) (m_blk h zz (by decide +kernel)) (m_goto h (off := 4) (by decide +kernel) (by decide)))
  (m_blk h zz (by decide +kernel)))
  (sn_sq (pm := 36) (m_blk h zz (by decide +kernel))
  (sn_sq (pm := 60) (sn_ite (pt := 55) (pf := 59) (sc_no (m_cat h zz (p1 := 52) (tgt := 59) (by decide +kernel) (by decide +kernel) (by decide)))
  (sn_goto (pm := 56) (m_blk h zz (by decide +kernel)) (m_goto h (off := 4) (by decide +kernel) (by decide)))
  (m_blk h zz (by decide +kernel)))
  (sn_sq (pm := 62) (m_blk h zz (by decide +kernel))
  (sn_sq (pm := 82) (sn_ite (pt := 77) (pf := 81) (sc_no (m_cat h zz (p1 := 74) (tgt := 81) (by decide +kernel) (by decide +kernel) (by decide)))
  (sn_goto (pm := 78) (m_blk h zz (by decide +kernel)) (m_goto h (off := 4) (by decide +kernel) (by decide)))
  (m_blk h zz (by decide +kernel)))
  (sn_sq (pm := 84) (m_blk h zz (by decide +kernel))
  (sn_sq (pm := 111) (sn_ite (pt := 109) (pf := 111) (sc_an (pm := 89) (sc_no (m_cat h zz (p1 := 86) (tgt := 111) (by decide +kernel) (by decide +kernel) (by decide))) (sc_or (pm := 94) (m_cat h zz (p1 := 91) (tgt := 109) (by decide +kernel) (by decide +kernel) (by decide)) (sc_or (pm := 99) (m_cat h zz (p1 := 96) (tgt := 109) (by decide +kernel) (by decide +kernel) (by decide)) (sc_an (pm := 104) (sc_no (m_cat h zz (p1 := 101) (tgt := 111) (by decide +kernel) (by decide +kernel) (by decide))) (sc_no (m_cat h zz (p1 := 106) (tgt := 111) (by decide +kernel) (by decide +kernel) (by decide)))))))
  (m_blk h zz (by decide +kernel))
  (m_blk h zz rfl))
  (m_blk h zz (by decide +kernel)))))))))
  (m_blk h zz rfl) (m_goto h (off := (-110)) (by decide +kernel) (by decide)) zFU)
  (m_rti h zz (p1 := 118) (by decide +kernel) (by decide +kernel) (Nat.zero_le _) (Nat.zero_le _))))
theorem ct_Yard_emptiestBeside (w : Wd) (l : Launch) (hw : zWok w) : CT w l y_Yard_emptiestBeside b_Yard_emptiestBeside 7 (some .int) r_Yard_emptiestBeside (exb true 7 d_Yard_emptiestBeside) :=
  ct_plain (by decide +kernel) (fun p e s m args below meth c Q cx hnm => eo_Yard_emptiestBeside hw cx) (fun p e s m args below meth c Q F h => sn_Yard_emptiestBeside h)
theorem q_Yard_emptiestBeside {a : Nat} {fs : List Value} {M : Hp} {nx : Nat} (x0 : Int32) (h : M a = some (cO 2 fs)) : x_Yard_emptiestBeside [.ref a, .int x0] (M, nx) = zres (d_Yard_emptiestBeside ([some (.ref a), some (.int x0), none, none, none, none, none], [], (M, nx))) := q_ofV [some (.ref a), some (.int x0), none, none, none, none, none] h rfl (Nat.le_of_ble_eq_true rfl) (Or.inr rfl)
theorem lc_Yard_emptiestBeside_65 : lookI (eC E_Yard_emptiestBeside) (.invokevirtual 65) = some (2, x_Row_get) := rfl
theorem lc_Yard_emptiestBeside_88 : lookI (eC E_Yard_emptiestBeside) (.invokestatic 88) = some (1, xAbs) := rfl
theorem lf_Yard_emptiestBeside_25 : lookN (eF E_Yard_emptiestBeside) 25 = some (2, 1) := rfl
theorem lb_Yard_emptiestBeside : eB E_Yard_emptiestBeside = true := rfl
-- CoilSlits$Yard.moveTop
def E_Yard_moveTop : Env := (true, [(25, 2, 1), (14, 2, 0), (35, 2, 4)], [(.invokevirtual 65, 2, x_Row_get), (.invokevirtual 69, 3, x_Grid_get), (.invokevirtual 85, 3, x_Grid_copyRow), (.invokevirtual 38, 4, x_Grid_put), (.invokevirtual 78, 3, x_Row_add), (.invokestatic 88, 1, xAbs)], [], [], zST, false)
def d_Yard_moveTop : Dn := (rti E_Yard_moveTop [.iload_n 1, .iconst 5, .imul, .aload_n 0, .getfield 25, .iload_n 1, .invokevirtual 65, .iadd, .iconst 1, .isub, .istore_n 3, .aload_n 0, .getfield 14, .iload_n 3, .iconst 4, .invokevirtual 69, .istore 4, .aload_n 0, .getfield 14, .iload_n 3, .iload_n 2, .iconst 5, .imul, .aload_n 0, .getfield 25, .iload_n 2, .invokevirtual 65, .iadd, .invokevirtual 85, .aload_n 0, .getfield 14, .iload_n 3, .iconst 4, .iconst (-1), .invokevirtual 38, .aload_n 0, .getfield 25, .iload_n 1, .iconst (-1), .invokevirtual 78, .aload_n 0, .getfield 25, .iload_n 2, .iconst 1, .invokevirtual 78, .aload_n 0, .getfield 35, .iconst 4, .iconst 1, .invokevirtual 78, .aload_n 0, .getfield 35, .iconst 5, .iload_n 1, .iload_n 2, .isub, .invokestatic 88, .invokevirtual 78, .iload 4])
def x_Yard_moveTop : Ex := zrv 2 (exb true 5 d_Yard_moveTop)
abbrev r_Yard_moveTop : Room := ({ frames := 2, cells := 0, slots := 0, locals := 85 } : Room)
theorem eo_Yard_moveTop (hw : zWok w) (cx : CX w p s m args c b_Yard_moveTop 5 "CoilSlits$Yard") : EnvOk w true p l e r_Yard_moveTop s m args below meth c Q b_Yard_moveTop 5 "CoilSlits$Yard" E_Yard_moveTop :=
  ⟨rfl, by decide +kernel, by decide +kernel, by decide +kernel, hw, fun h => absurd h (by decide),
  List.forall_mem_cons.mpr ⟨call_V cx (ct_Row_get w l hw) tw_216 tw_213 tw_5 tw_214 tw_215 (ci := 0) (Nat.le_of_ble_eq_true rfl) rfl (by decide +kernel) ⟨Nat.le_of_ble_eq_true rfl, Nat.le_of_ble_eq_true rfl⟩, List.forall_mem_cons.mpr ⟨call_V cx (ct_Grid_get w l hw) tw_200 tw_197 tw_3 tw_198 tw_199 (ci := 1) (Nat.le_of_ble_eq_true rfl) rfl (by decide +kernel) ⟨Nat.le_of_ble_eq_true rfl, Nat.le_of_ble_eq_true rfl⟩, List.forall_mem_cons.mpr ⟨call_V cx (ct_Grid_copyRow w l hw) tw_258 tw_255 tw_3 tw_256 tw_257 (ci := 1) (Nat.le_of_ble_eq_true rfl) rfl (by decide +kernel) ⟨Nat.le_of_ble_eq_true rfl, Nat.le_of_ble_eq_true rfl⟩, List.forall_mem_cons.mpr ⟨call_V cx (ct_Grid_put w l hw) tw_62 tw_59 tw_3 tw_60 tw_61 (ci := 1) (Nat.le_of_ble_eq_true rfl) rfl (by decide +kernel) ⟨Nat.le_of_ble_eq_true rfl, Nat.le_of_ble_eq_true rfl⟩, List.forall_mem_cons.mpr ⟨call_V cx (ct_Row_add w l hw) tw_262 tw_259 tw_5 tw_260 tw_261 (ci := 0) (Nat.le_of_ble_eq_true rfl) rfl (by decide +kernel) ⟨Nat.le_of_ble_eq_true rfl, Nat.le_of_ble_eq_true rfl⟩, List.forall_mem_cons.mpr ⟨call_abs cx tw_248 tw_249 tw_4 tw_xAbs ⟨Nat.le_of_ble_eq_true rfl, Nat.le_of_ble_eq_true rfl⟩, fun q hq => absurd hq List.not_mem_nil⟩⟩⟩⟩⟩⟩⟩
theorem sn_Yard_moveTop (h : MC w true p l e R s m args below meth c Q b_Yard_moveTop 5 "CoilSlits$Yard" E_Yard_moveTop 0 0 F (some .int)) : Sn (zK w true p l e R s m args below meth c Q 5) F (fun _ => False) (fun _ => False) 0 0 0 d_Yard_moveTop 0 0 0 := by
  unfold d_Yard_moveTop
  exact (m_rti h zz (p1 := 99) (by decide +kernel) (by decide +kernel) (Nat.zero_le _) (Nat.zero_le _))
theorem ct_Yard_moveTop (w : Wd) (l : Launch) (hw : zWok w) : CT w l y_Yard_moveTop b_Yard_moveTop 5 (some .int) r_Yard_moveTop (exb true 5 d_Yard_moveTop) :=
  ct_plain (by decide +kernel) (fun p e s m args below meth c Q cx hnm => eo_Yard_moveTop hw cx) (fun p e s m args below meth c Q F h => sn_Yard_moveTop h)
theorem q_Yard_moveTop {a : Nat} {fs : List Value} {M : Hp} {nx : Nat} (x0 : Int32) (x1 : Int32) (h : M a = some (cO 2 fs)) : x_Yard_moveTop [.ref a, .int x0, .int x1] (M, nx) = zres (d_Yard_moveTop ([some (.ref a), some (.int x0), some (.int x1), none, none], [], (M, nx))) := q_ofV [some (.ref a), some (.int x0), some (.int x1), none, none] h rfl (Nat.le_of_ble_eq_true rfl) (Or.inr rfl)
theorem lc_Yard_moveTop_65 : lookI (eC E_Yard_moveTop) (.invokevirtual 65) = some (2, x_Row_get) := rfl
theorem lc_Yard_moveTop_69 : lookI (eC E_Yard_moveTop) (.invokevirtual 69) = some (3, x_Grid_get) := rfl
theorem lc_Yard_moveTop_85 : lookI (eC E_Yard_moveTop) (.invokevirtual 85) = some (3, x_Grid_copyRow) := rfl
theorem lc_Yard_moveTop_38 : lookI (eC E_Yard_moveTop) (.invokevirtual 38) = some (4, x_Grid_put) := rfl
theorem lc_Yard_moveTop_78 : lookI (eC E_Yard_moveTop) (.invokevirtual 78) = some (3, x_Row_add) := rfl
theorem lc_Yard_moveTop_88 : lookI (eC E_Yard_moveTop) (.invokestatic 88) = some (1, xAbs) := rfl
theorem lf_Yard_moveTop_25 : lookN (eF E_Yard_moveTop) 25 = some (2, 1) := rfl
theorem lf_Yard_moveTop_14 : lookN (eF E_Yard_moveTop) 14 = some (2, 0) := rfl
theorem lf_Yard_moveTop_35 : lookN (eF E_Yard_moveTop) 35 = some (2, 4) := rfl
theorem lb_Yard_moveTop : eB E_Yard_moveTop = true := rfl
-- CoilSlits$Yard.digOut
def E_Yard_digOut : Env := (true, [], [(.invokestatic 72, 1, x_Slit_stackOf), (.invokevirtual 75, 2, x_Yard_coilsAbove), (.invokevirtual 96, 2, x_Yard_emptiestBeside), (.invokevirtual 99, 3, x_Yard_moveTop)], [], [], zST, false)
def d_Yard_digOut : Dn := (sq (blk E_Yard_digOut [.iload_n 1, .invokestatic 72, .istore_n 2, .aload_n 0, .iload_n 1, .invokevirtual 75, .istore_n 3, .iconst 0, .istore 4])
  (sq (lop (cno (cat E_Yard_digOut [.iload 4, .iload_n 3] (.if_icmp .ge 20)))
  (blk E_Yard_digOut [.aload_n 0, .iload_n 2, .aload_n 0, .iload_n 2, .invokevirtual 96, .invokevirtual 99, .pop, .iinc 4 1])
  (blk E_Yard_digOut []) zFU)
  (rti E_Yard_digOut [.iload_n 3])))
def x_Yard_digOut : Ex := zrv 2 (exb true 5 d_Yard_digOut)
abbrev r_Yard_digOut : Room := ({ frames := 3, cells := 0, slots := 0, locals := 109 } : Room)
theorem eo_Yard_digOut (hw : zWok w) (cx : CX w p s m args c b_Yard_digOut 5 "CoilSlits$Yard") : EnvOk w true p l e r_Yard_digOut s m args below meth c Q b_Yard_digOut 5 "CoilSlits$Yard" E_Yard_digOut :=
  ⟨rfl, by decide +kernel, by decide +kernel, by decide +kernel, hw, fun h => absurd h (by decide),
  List.forall_mem_cons.mpr ⟨call_SN cx (host := "CoilSlits") (ct_Slit_stackOf w l hw) tw_243 (by decide +kernel) tw_1 tw_242 (by decide +kernel) ⟨Nat.le_of_ble_eq_true rfl, Nat.le_of_ble_eq_true rfl⟩, List.forall_mem_cons.mpr ⟨call_V cx (ct_Yard_coilsAbove w l hw) tw_228 tw_225 tw_2 tw_226 tw_227 (ci := 2) (Nat.le_of_ble_eq_true rfl) rfl (by decide +kernel) ⟨Nat.le_of_ble_eq_true rfl, Nat.le_of_ble_eq_true rfl⟩, List.forall_mem_cons.mpr ⟨call_V cx (ct_Yard_emptiestBeside w l hw) tw_247 tw_244 tw_2 tw_246 tp_5 (ci := 2) (Nat.le_of_ble_eq_true rfl) rfl (by decide +kernel) ⟨Nat.le_of_ble_eq_true rfl, Nat.le_of_ble_eq_true rfl⟩, List.forall_mem_cons.mpr ⟨call_V cx (ct_Yard_moveTop w l hw) tw_254 tw_251 tw_2 tw_252 tw_253 (ci := 2) (Nat.le_of_ble_eq_true rfl) rfl (by decide +kernel) ⟨Nat.le_of_ble_eq_true rfl, Nat.le_of_ble_eq_true rfl⟩, fun q hq => absurd hq List.not_mem_nil⟩⟩⟩⟩⟩
theorem sn_Yard_digOut (h : MC w true p l e R s m args below meth c Q b_Yard_digOut 5 "CoilSlits$Yard" E_Yard_digOut 0 0 F (some .int)) : Sn (zK w true p l e R s m args below meth c Q 5) F (fun _ => False) (fun _ => False) 0 0 0 d_Yard_digOut 0 0 0 := by
  unfold d_Yard_digOut
  exact (sn_sq (pm := 14) (m_blk h zz (by decide +kernel))
  (sn_sq (pm := 37) (sn_lop (pt := 20) (pu := 34) (p2 := 34) (px := 37) (kb2 := fun _ => False) (kc2 := fun _ => False) (sc_no (m_cat h zz (p1 := 17) (tgt := 37) (by decide +kernel) (by decide +kernel) (by decide)))
  (m_blk h zz (by decide +kernel))
  (m_blk h zz rfl) (m_goto h (off := (-20)) (by decide +kernel) (by decide)) zFU)
  (m_rti h zz (p1 := 38) (by decide +kernel) (by decide +kernel) (Nat.zero_le _) (Nat.zero_le _))))
theorem ct_Yard_digOut (w : Wd) (l : Launch) (hw : zWok w) : CT w l y_Yard_digOut b_Yard_digOut 5 (some .int) r_Yard_digOut (exb true 5 d_Yard_digOut) :=
  ct_plain (by decide +kernel) (fun p e s m args below meth c Q cx hnm => eo_Yard_digOut hw cx) (fun p e s m args below meth c Q F h => sn_Yard_digOut h)
theorem q_Yard_digOut {a : Nat} {fs : List Value} {M : Hp} {nx : Nat} (x0 : Int32) (h : M a = some (cO 2 fs)) : x_Yard_digOut [.ref a, .int x0] (M, nx) = zres (d_Yard_digOut ([some (.ref a), some (.int x0), none, none, none], [], (M, nx))) := q_ofV [some (.ref a), some (.int x0), none, none, none] h rfl (Nat.le_of_ble_eq_true rfl) (Or.inr rfl)
theorem lc_Yard_digOut_72 : lookI (eC E_Yard_digOut) (.invokestatic 72) = some (1, x_Slit_stackOf) := rfl
theorem lc_Yard_digOut_75 : lookI (eC E_Yard_digOut) (.invokevirtual 75) = some (2, x_Yard_coilsAbove) := rfl
theorem lc_Yard_digOut_96 : lookI (eC E_Yard_digOut) (.invokevirtual 96) = some (2, x_Yard_emptiestBeside) := rfl
theorem lc_Yard_digOut_99 : lookI (eC E_Yard_digOut) (.invokevirtual 99) = some (3, x_Yard_moveTop) := rfl
theorem lb_Yard_digOut : eB E_Yard_digOut = true := rfl
-- CoilSlits$Yard.takeTop
def E_Yard_takeTop : Env := (true, [(14, 2, 0), (25, 2, 1)], [(.invokevirtual 65, 2, x_Row_get), (.invokevirtual 38, 4, x_Grid_put), (.invokevirtual 78, 3, x_Row_add)], [], [], zST, false)
def d_Yard_takeTop : Dn := (rtv E_Yard_takeTop [.aload_n 0, .getfield 14, .iload_n 1, .iconst 5, .imul, .aload_n 0, .getfield 25, .iload_n 1, .invokevirtual 65, .iadd, .iconst 1, .isub, .iconst 4, .iconst (-1), .invokevirtual 38, .aload_n 0, .getfield 25, .iload_n 1, .iconst (-1), .invokevirtual 78])
def x_Yard_takeTop : Ex := zrv 2 (exb true 2 d_Yard_takeTop)
abbrev r_Yard_takeTop : Room := ({ frames := 1, cells := 0, slots := 0, locals := 25 } : Room)
theorem eo_Yard_takeTop (hw : zWok w) (cx : CX w p s m args c b_Yard_takeTop 2 "CoilSlits$Yard") : EnvOk w true p l e r_Yard_takeTop s m args below meth c Q b_Yard_takeTop 2 "CoilSlits$Yard" E_Yard_takeTop :=
  ⟨rfl, by decide +kernel, by decide +kernel, by decide +kernel, hw, fun h => absurd h (by decide),
  List.forall_mem_cons.mpr ⟨call_V cx (ct_Row_get w l hw) tw_216 tw_213 tw_5 tw_214 tw_215 (ci := 0) (Nat.le_of_ble_eq_true rfl) rfl (by decide +kernel) ⟨Nat.le_of_ble_eq_true rfl, Nat.le_of_ble_eq_true rfl⟩, List.forall_mem_cons.mpr ⟨call_V cx (ct_Grid_put w l hw) tw_62 tw_59 tw_3 tw_60 tw_61 (ci := 1) (Nat.le_of_ble_eq_true rfl) rfl (by decide +kernel) ⟨Nat.le_of_ble_eq_true rfl, Nat.le_of_ble_eq_true rfl⟩, List.forall_mem_cons.mpr ⟨call_V cx (ct_Row_add w l hw) tw_262 tw_259 tw_5 tw_260 tw_261 (ci := 0) (Nat.le_of_ble_eq_true rfl) rfl (by decide +kernel) ⟨Nat.le_of_ble_eq_true rfl, Nat.le_of_ble_eq_true rfl⟩, fun q hq => absurd hq List.not_mem_nil⟩⟩⟩⟩
theorem sn_Yard_takeTop (h : MC w true p l e R s m args below meth c Q b_Yard_takeTop 2 "CoilSlits$Yard" E_Yard_takeTop 0 0 F none) : Sn (zK w true p l e R s m args below meth c Q 2) F (fun _ => False) (fun _ => False) 0 0 0 d_Yard_takeTop 0 0 0 := by
  unfold d_Yard_takeTop
  exact (m_rtv h zz (p1 := 32) (by decide +kernel) (by decide +kernel) (Nat.zero_le _) (Nat.zero_le _))
theorem ct_Yard_takeTop (w : Wd) (l : Launch) (hw : zWok w) : CT w l y_Yard_takeTop b_Yard_takeTop 2 none r_Yard_takeTop (exb true 2 d_Yard_takeTop) :=
  ct_plain (by decide +kernel) (fun p e s m args below meth c Q cx hnm => eo_Yard_takeTop hw cx) (fun p e s m args below meth c Q F h => sn_Yard_takeTop h)
theorem q_Yard_takeTop {a : Nat} {fs : List Value} {M : Hp} {nx : Nat} (x0 : Int32) (h : M a = some (cO 2 fs)) : x_Yard_takeTop [.ref a, .int x0] (M, nx) = zres (d_Yard_takeTop ([some (.ref a), some (.int x0)], [], (M, nx))) := q_ofV [some (.ref a), some (.int x0)] h rfl (Nat.le_of_ble_eq_true rfl) (Or.inr rfl)
theorem lc_Yard_takeTop_65 : lookI (eC E_Yard_takeTop) (.invokevirtual 65) = some (2, x_Row_get) := rfl
theorem lc_Yard_takeTop_38 : lookI (eC E_Yard_takeTop) (.invokevirtual 38) = some (4, x_Grid_put) := rfl
theorem lc_Yard_takeTop_78 : lookI (eC E_Yard_takeTop) (.invokevirtual 78) = some (3, x_Row_add) := rfl
theorem lf_Yard_takeTop_14 : lookN (eF E_Yard_takeTop) 14 = some (2, 0) := rfl
theorem lf_Yard_takeTop_25 : lookN (eF E_Yard_takeTop) 25 = some (2, 1) := rfl
theorem lb_Yard_takeTop : eB E_Yard_takeTop = true := rfl
-- CoilSlits$Yard.putOnTop
def E_Yard_putOnTop : Env := (true, [(25, 2, 1), (59, 2, 6), (14, 2, 0)], [(.invokevirtual 65, 2, x_Row_get), (.invokevirtual 38, 4, x_Grid_put), (.invokevirtual 78, 3, x_Row_add)], [], [], zST, false)
def d_Yard_putOnTop : Dn := (rti E_Yard_putOnTop [.iload_n 1, .iconst 5, .imul, .aload_n 0, .getfield 25, .iload_n 1, .invokevirtual 65, .iadd, .istore 6, .aload_n 0, .getfield 59, .istore 7, .aload_n 0, .getfield 14, .iload 6, .iconst 4, .iload 7, .invokevirtual 38, .aload_n 0, .getfield 14, .iload 6, .iconst 0, .iload_n 2, .invokevirtual 38, .aload_n 0, .getfield 14, .iload 6, .iconst 1, .iload_n 3, .invokevirtual 38, .aload_n 0, .getfield 14, .iload 6, .iconst 2, .iload 4, .invokevirtual 38, .aload_n 0, .getfield 14, .iload 6, .iconst 3, .iload 5, .invokevirtual 38, .aload_n 0, .getfield 25, .iload_n 1, .iconst 1, .invokevirtual 78, .aload_n 0, .dup, .getfield 59, .iconst 1, .iadd, .putfield 59, .iload 7])
def x_Yard_putOnTop : Ex := zrv 2 (exb true 8 d_Yard_putOnTop)
abbrev r_Yard_putOnTop : Room := ({ frames := 1, cells := 0, slots := 0, locals := 25 } : Room)
theorem eo_Yard_putOnTop (hw : zWok w) (cx : CX w p s m args c b_Yard_putOnTop 8 "CoilSlits$Yard") : EnvOk w true p l e r_Yard_putOnTop s m args below meth c Q b_Yard_putOnTop 8 "CoilSlits$Yard" E_Yard_putOnTop :=
  ⟨rfl, by decide +kernel, by decide +kernel, by decide +kernel, hw, fun h => absurd h (by decide),
  List.forall_mem_cons.mpr ⟨call_V cx (ct_Row_get w l hw) tw_216 tw_213 tw_5 tw_214 tw_215 (ci := 0) (Nat.le_of_ble_eq_true rfl) rfl (by decide +kernel) ⟨Nat.le_of_ble_eq_true rfl, Nat.le_of_ble_eq_true rfl⟩, List.forall_mem_cons.mpr ⟨call_V cx (ct_Grid_put w l hw) tw_62 tw_59 tw_3 tw_60 tw_61 (ci := 1) (Nat.le_of_ble_eq_true rfl) rfl (by decide +kernel) ⟨Nat.le_of_ble_eq_true rfl, Nat.le_of_ble_eq_true rfl⟩, List.forall_mem_cons.mpr ⟨call_V cx (ct_Row_add w l hw) tw_262 tw_259 tw_5 tw_260 tw_261 (ci := 0) (Nat.le_of_ble_eq_true rfl) rfl (by decide +kernel) ⟨Nat.le_of_ble_eq_true rfl, Nat.le_of_ble_eq_true rfl⟩, fun q hq => absurd hq List.not_mem_nil⟩⟩⟩⟩
theorem sn_Yard_putOnTop (h : MC w true p l e R s m args below meth c Q b_Yard_putOnTop 8 "CoilSlits$Yard" E_Yard_putOnTop 0 0 F (some .int)) : Sn (zK w true p l e R s m args below meth c Q 8) F (fun _ => False) (fun _ => False) 0 0 0 d_Yard_putOnTop 0 0 0 := by
  unfold d_Yard_putOnTop
  exact (m_rti h zz (p1 := 99) (by decide +kernel) (by decide +kernel) (Nat.zero_le _) (Nat.zero_le _))
theorem ct_Yard_putOnTop (w : Wd) (l : Launch) (hw : zWok w) : CT w l y_Yard_putOnTop b_Yard_putOnTop 8 (some .int) r_Yard_putOnTop (exb true 8 d_Yard_putOnTop) :=
  ct_plain (by decide +kernel) (fun p e s m args below meth c Q cx hnm => eo_Yard_putOnTop hw cx) (fun p e s m args below meth c Q F h => sn_Yard_putOnTop h)
theorem q_Yard_putOnTop {a : Nat} {fs : List Value} {M : Hp} {nx : Nat} (x0 : Int32) (x1 : Int32) (x2 : Int32) (x3 : Int32) (x4 : Int32) (h : M a = some (cO 2 fs)) : x_Yard_putOnTop [.ref a, .int x0, .int x1, .int x2, .int x3, .int x4] (M, nx) = zres (d_Yard_putOnTop ([some (.ref a), some (.int x0), some (.int x1), some (.int x2), some (.int x3), some (.int x4), none, none], [], (M, nx))) := q_ofV [some (.ref a), some (.int x0), some (.int x1), some (.int x2), some (.int x3), some (.int x4), none, none] h rfl (Nat.le_of_ble_eq_true rfl) (Or.inr rfl)
theorem lc_Yard_putOnTop_65 : lookI (eC E_Yard_putOnTop) (.invokevirtual 65) = some (2, x_Row_get) := rfl
theorem lc_Yard_putOnTop_38 : lookI (eC E_Yard_putOnTop) (.invokevirtual 38) = some (4, x_Grid_put) := rfl
theorem lc_Yard_putOnTop_78 : lookI (eC E_Yard_putOnTop) (.invokevirtual 78) = some (3, x_Row_add) := rfl
theorem lf_Yard_putOnTop_25 : lookN (eF E_Yard_putOnTop) 25 = some (2, 1) := rfl
theorem lf_Yard_putOnTop_59 : lookN (eF E_Yard_putOnTop) 59 = some (2, 6) := rfl
theorem lf_Yard_putOnTop_14 : lookN (eF E_Yard_putOnTop) 14 = some (2, 0) := rfl
theorem lb_Yard_putOnTop : eB E_Yard_putOnTop = true := rfl
-- CoilSlits$Yard.cutTop
def E_Yard_cutTop : Env := (true, [(25, 2, 1), (14, 2, 0), (29, 2, 2), (35, 2, 4), (32, 2, 3)], [(.invokevirtual 65, 2, x_Row_get), (.invokevirtual 69, 3, x_Grid_get), (.invokevirtual 111, 2, x_Yard_widthTaken), (.invokestatic 118, 2, x_Yard_stripsIn), (.invokestatic 132, 2, xMin), (.invokevirtual 93, 2, x_Yard_takeTop), (.invokevirtual 38, 4, x_Grid_put), (.invokevirtual 78, 3, x_Row_add), (.invokestatic 135, 2, xMax), (.invokevirtual 81, 6, x_Yard_putOnTop)], [], [], zST, false)
def d_Yard_cutTop : Dn := (sq (blk E_Yard_cutTop [.iload_n 2, .iconst 5, .imul, .aload_n 0, .getfield 25, .iload_n 2, .invokevirtual 65, .iadd, .iconst 1, .isub, .istore_n 3, .aload_n 0, .getfield 14, .iload_n 3, .iconst 1, .invokevirtual 69, .istore 4, .aload_n 0, .getfield 14, .iload_n 3, .iconst 2, .invokevirtual 69, .istore 5, .aload_n 0, .getfield 14, .iload_n 3, .iconst 0, .invokevirtual 69, .istore 6, .aload_n 0, .iload_n 1, .invokevirtual 111, .istore 7, .aload_n 0, .getfield 29, .iload_n 1, .iconst 4, .invokevirtual 69, .istore 8, .iload 6, .iload 7, .invokestatic 118, .iload 8, .invokestatic 132, .istore 9, .iload 6, .iload 9, .iload 7, .imul, .isub, .istore 10, .aload_n 0, .iload_n 2, .invokevirtual 93, .aload_n 0, .getfield 29, .iload_n 1, .iconst 4, .iload 8, .iload 9, .isub, .invokevirtual 38, .aload_n 0, .getfield 35, .bipush 6, .iload 9, .invokevirtual 78, .aload_n 0, .getfield 35, .bipush 7, .iload 9, .aload_n 0, .getfield 29, .iload_n 1, .iconst 3, .invokevirtual 69, .imul, .invokevirtual 78, .aload_n 0, .getfield 35, .bipush 8, .iload 9, .aload_n 0, .getfield 32, .iconst 1, .invokevirtual 65, .imul, .invokevirtual 78, .aload_n 0, .getfield 35, .bipush 10, .iload 9, .aload_n 0, .getfield 29, .iload_n 1, .iconst 5, .invokevirtual 69, .imul, .invokevirtual 78])
  (sq (ite' (cno (cat E_Yard_cutTop [.iload 10, .aload_n 0, .getfield 32, .iconst 0, .invokevirtual 65] (.if_icmp .lt 32)))
  (blk E_Yard_cutTop [.aload_n 0, .iload_n 2, .iload 10, .iload 4, .iload 5, .aload_n 0, .getfield 32, .iconst 2, .invokevirtual 65, .isub, .iconst 0, .invokestatic 135, .iconst 1, .invokevirtual 81, .pop])
  (blk E_Yard_cutTop [.aload_n 0, .getfield 35, .bipush 9, .iload 10, .invokevirtual 78]))
  (rti E_Yard_cutTop [.iload 9])))
def x_Yard_cutTop : Ex := zrv 2 (exb true 11 d_Yard_cutTop)
abbrev r_Yard_cutTop : Room := ({ frames := 2, cells := 0, slots := 0, locals := 52 } : Room)
theorem eo_Yard_cutTop (hw : zWok w) (cx : CX w p s m args c b_Yard_cutTop 11 "CoilSlits$Yard") : EnvOk w true p l e r_Yard_cutTop s m args below meth c Q b_Yard_cutTop 11 "CoilSlits$Yard" E_Yard_cutTop :=
  ⟨rfl, by decide +kernel, by decide +kernel, by decide +kernel, hw, fun h => absurd h (by decide),
  List.forall_mem_cons.mpr ⟨call_V cx (ct_Row_get w l hw) tw_216 tw_213 tw_5 tw_214 tw_215 (ci := 0) (Nat.le_of_ble_eq_true rfl) rfl (by decide +kernel) ⟨Nat.le_of_ble_eq_true rfl, Nat.le_of_ble_eq_true rfl⟩, List.forall_mem_cons.mpr ⟨call_V cx (ct_Grid_get w l hw) tw_200 tw_197 tw_3 tw_198 tw_199 (ci := 1) (Nat.le_of_ble_eq_true rfl) rfl (by decide +kernel) ⟨Nat.le_of_ble_eq_true rfl, Nat.le_of_ble_eq_true rfl⟩, List.forall_mem_cons.mpr ⟨call_V cx (ct_Yard_widthTaken w l hw) tw_212 tw_209 tw_2 tw_211 tp_2 (ci := 2) (Nat.le_of_ble_eq_true rfl) rfl (by decide +kernel) ⟨Nat.le_of_ble_eq_true rfl, Nat.le_of_ble_eq_true rfl⟩, List.forall_mem_cons.mpr ⟨call_S cx (ct_Yard_stripsIn w l hw) tw_235 tw_233 tw_2 tw_234 (by decide +kernel) ⟨Nat.le_of_ble_eq_true rfl, Nat.le_of_ble_eq_true rfl⟩, List.forall_mem_cons.mpr ⟨call_min cx tw_236 tw_177 tw_4 tw_xMin ⟨Nat.le_of_ble_eq_true rfl, Nat.le_of_ble_eq_true rfl⟩, List.forall_mem_cons.mpr ⟨call_V cx (ct_Yard_takeTop w l hw) tw_270 tw_267 tw_2 tw_269 tp_6 (ci := 2) (Nat.le_of_ble_eq_true rfl) rfl (by decide +kernel) ⟨Nat.le_of_ble_eq_true rfl, Nat.le_of_ble_eq_true rfl⟩, List.forall_mem_cons.mpr ⟨call_V cx (ct_Grid_put w l hw) tw_62 tw_59 tw_3 tw_60 tw_61 (ci := 1) (Nat.le_of_ble_eq_true rfl) rfl (by decide +kernel) ⟨Nat.le_of_ble_eq_true rfl, Nat.le_of_ble_eq_true rfl⟩, List.forall_mem_cons.mpr ⟨call_V cx (ct_Row_add w l hw) tw_262 tw_259 tw_5 tw_260 tw_261 (ci := 0) (Nat.le_of_ble_eq_true rfl) rfl (by decide +kernel) ⟨Nat.le_of_ble_eq_true rfl, Nat.le_of_ble_eq_true rfl⟩, List.forall_mem_cons.mpr ⟨call_max cx tw_271 tw_38 tw_4 tw_xMax ⟨Nat.le_of_ble_eq_true rfl, Nat.le_of_ble_eq_true rfl⟩, List.forall_mem_cons.mpr ⟨call_V cx (ct_Yard_putOnTop w l hw) tw_275 tw_272 tw_2 tw_274 tp_7 (ci := 2) (Nat.le_of_ble_eq_true rfl) rfl (by decide +kernel) ⟨Nat.le_of_ble_eq_true rfl, Nat.le_of_ble_eq_true rfl⟩, fun q hq => absurd hq List.not_mem_nil⟩⟩⟩⟩⟩⟩⟩⟩⟩⟩⟩
theorem sn_Yard_cutTop (h : MC w true p l e R s m args below meth c Q b_Yard_cutTop 11 "CoilSlits$Yard" E_Yard_cutTop 0 0 F (some .int)) : Sn (zK w true p l e R s m args below meth c Q 11) F (fun _ => False) (fun _ => False) 0 0 0 d_Yard_cutTop 0 0 0 := by
  unfold d_Yard_cutTop
  exact (sn_sq (pm := 182) (m_blk h zz (by decide +kernel))
  (sn_sq (pm := 235) (sn_ite (pt := 195) (pf := 224) (sc_no (m_cat h zz (p1 := 192) (tgt := 224) (by decide +kernel) (by decide +kernel) (by decide)))
  (sn_goto (pm := 221) (m_blk h zz (by decide +kernel)) (m_goto h (off := 14) (by decide +kernel) (by decide)))
  (m_blk h zz (by decide +kernel)))
  (m_rti h zz (p1 := 237) (by decide +kernel) (by decide +kernel) (Nat.zero_le _) (Nat.zero_le _))))
theorem ct_Yard_cutTop (w : Wd) (l : Launch) (hw : zWok w) : CT w l y_Yard_cutTop b_Yard_cutTop 11 (some .int) r_Yard_cutTop (exb true 11 d_Yard_cutTop) :=
  ct_plain (by decide +kernel) (fun p e s m args below meth c Q cx hnm => eo_Yard_cutTop hw cx) (fun p e s m args below meth c Q F h => sn_Yard_cutTop h)
theorem q_Yard_cutTop {a : Nat} {fs : List Value} {M : Hp} {nx : Nat} (x0 : Int32) (x1 : Int32) (h : M a = some (cO 2 fs)) : x_Yard_cutTop [.ref a, .int x0, .int x1] (M, nx) = zres (d_Yard_cutTop ([some (.ref a), some (.int x0), some (.int x1), none, none, none, none, none, none, none, none], [], (M, nx))) := q_ofV [some (.ref a), some (.int x0), some (.int x1), none, none, none, none, none, none, none, none] h rfl (Nat.le_of_ble_eq_true rfl) (Or.inr rfl)
theorem lc_Yard_cutTop_65 : lookI (eC E_Yard_cutTop) (.invokevirtual 65) = some (2, x_Row_get) := rfl
theorem lc_Yard_cutTop_69 : lookI (eC E_Yard_cutTop) (.invokevirtual 69) = some (3, x_Grid_get) := rfl
theorem lc_Yard_cutTop_111 : lookI (eC E_Yard_cutTop) (.invokevirtual 111) = some (2, x_Yard_widthTaken) := rfl
theorem lc_Yard_cutTop_118 : lookI (eC E_Yard_cutTop) (.invokestatic 118) = some (2, x_Yard_stripsIn) := rfl
theorem lc_Yard_cutTop_132 : lookI (eC E_Yard_cutTop) (.invokestatic 132) = some (2, xMin) := rfl
theorem lc_Yard_cutTop_93 : lookI (eC E_Yard_cutTop) (.invokevirtual 93) = some (2, x_Yard_takeTop) := rfl
theorem lc_Yard_cutTop_38 : lookI (eC E_Yard_cutTop) (.invokevirtual 38) = some (4, x_Grid_put) := rfl
theorem lc_Yard_cutTop_78 : lookI (eC E_Yard_cutTop) (.invokevirtual 78) = some (3, x_Row_add) := rfl
theorem lc_Yard_cutTop_135 : lookI (eC E_Yard_cutTop) (.invokestatic 135) = some (2, xMax) := rfl
theorem lc_Yard_cutTop_81 : lookI (eC E_Yard_cutTop) (.invokevirtual 81) = some (6, x_Yard_putOnTop) := rfl
theorem lf_Yard_cutTop_25 : lookN (eF E_Yard_cutTop) 25 = some (2, 1) := rfl
theorem lf_Yard_cutTop_14 : lookN (eF E_Yard_cutTop) 14 = some (2, 0) := rfl
theorem lf_Yard_cutTop_29 : lookN (eF E_Yard_cutTop) 29 = some (2, 2) := rfl
theorem lf_Yard_cutTop_35 : lookN (eF E_Yard_cutTop) 35 = some (2, 4) := rfl
theorem lf_Yard_cutTop_32 : lookN (eF E_Yard_cutTop) 32 = some (2, 3) := rfl
theorem lb_Yard_cutTop : eB E_Yard_cutTop = true := rfl
-- CoilSlits$Yard.dropOrder
def E_Yard_dropOrder : Env := (true, [(55, 2, 5), (29, 2, 2)], [(.invokevirtual 85, 3, x_Grid_copyRow)], [], [], zST, false)
def d_Yard_dropOrder : Dn := (sq (blk E_Yard_dropOrder [.iload_n 1, .istore_n 2])
  (sq (lop (cno (cat E_Yard_dropOrder [.iload_n 2, .aload_n 0, .getfield 55, .iconst 1, .isub] (.if_icmp .ge 20)))
  (blk E_Yard_dropOrder [.aload_n 0, .getfield 29, .iload_n 2, .iconst 1, .iadd, .iload_n 2, .invokevirtual 85, .iinc 2 1])
  (blk E_Yard_dropOrder []) zFU)
  (rtv E_Yard_dropOrder [.aload_n 0, .dup, .getfield 55, .iconst 1, .isub, .putfield 55])))
def x_Yard_dropOrder : Ex := zrv 2 (exb true 3 d_Yard_dropOrder)
abbrev r_Yard_dropOrder : Room := ({ frames := 2, cells := 0, slots := 0, locals := 85 } : Room)
theorem eo_Yard_dropOrder (hw : zWok w) (cx : CX w p s m args c b_Yard_dropOrder 3 "CoilSlits$Yard") : EnvOk w true p l e r_Yard_dropOrder s m args below meth c Q b_Yard_dropOrder 3 "CoilSlits$Yard" E_Yard_dropOrder :=
  ⟨rfl, by decide +kernel, by decide +kernel, by decide +kernel, hw, fun h => absurd h (by decide),
  List.forall_mem_cons.mpr ⟨call_V cx (ct_Grid_copyRow w l hw) tw_258 tw_255 tw_3 tw_256 tw_257 (ci := 1) (Nat.le_of_ble_eq_true rfl) rfl (by decide +kernel) ⟨Nat.le_of_ble_eq_true rfl, Nat.le_of_ble_eq_true rfl⟩, fun q hq => absurd hq List.not_mem_nil⟩⟩
theorem sn_Yard_dropOrder (h : MC w true p l e R s m args below meth c Q b_Yard_dropOrder 3 "CoilSlits$Yard" E_Yard_dropOrder 0 0 F none) : Sn (zK w true p l e R s m args below meth c Q 3) F (fun _ => False) (fun _ => False) 0 0 0 d_Yard_dropOrder 0 0 0 := by
  unfold d_Yard_dropOrder
  exact (sn_sq (pm := 2) (m_blk h zz (by decide +kernel))
  (sn_sq (pm := 29) (sn_lop (pt := 12) (pu := 26) (p2 := 26) (px := 29) (kb2 := fun _ => False) (kc2 := fun _ => False) (sc_no (m_cat h zz (p1 := 9) (tgt := 29) (by decide +kernel) (by decide +kernel) (by decide)))
  (m_blk h zz (by decide +kernel))
  (m_blk h zz rfl) (m_goto h (off := (-24)) (by decide +kernel) (by decide)) zFU)
  (m_rtv h zz (p1 := 39) (by decide +kernel) (by decide +kernel) (Nat.zero_le _) (Nat.zero_le _))))
theorem ct_Yard_dropOrder (w : Wd) (l : Launch) (hw : zWok w) : CT w l y_Yard_dropOrder b_Yard_dropOrder 3 none r_Yard_dropOrder (exb true 3 d_Yard_dropOrder) :=
  ct_plain (by decide +kernel) (fun p e s m args below meth c Q cx hnm => eo_Yard_dropOrder hw cx) (fun p e s m args below meth c Q F h => sn_Yard_dropOrder h)
theorem q_Yard_dropOrder {a : Nat} {fs : List Value} {M : Hp} {nx : Nat} (x0 : Int32) (h : M a = some (cO 2 fs)) : x_Yard_dropOrder [.ref a, .int x0] (M, nx) = zres (d_Yard_dropOrder ([some (.ref a), some (.int x0), none], [], (M, nx))) := q_ofV [some (.ref a), some (.int x0), none] h rfl (Nat.le_of_ble_eq_true rfl) (Or.inr rfl)
theorem lc_Yard_dropOrder_85 : lookI (eC E_Yard_dropOrder) (.invokevirtual 85) = some (3, x_Grid_copyRow) := rfl
theorem lf_Yard_dropOrder_55 : lookN (eF E_Yard_dropOrder) 55 = some (2, 5) := rfl
theorem lf_Yard_dropOrder_29 : lookN (eF E_Yard_dropOrder) 29 = some (2, 2) := rfl
theorem lb_Yard_dropOrder : eB E_Yard_dropOrder = true := rfl
-- CoilSlits$Yard.dropIfDone
def E_Yard_dropIfDone : Env := (true, [(29, 2, 2)], [(.invokevirtual 69, 3, x_Grid_get), (.invokevirtual 102, 2, x_Yard_dropOrder)], [], [], zST, false)
def d_Yard_dropIfDone : Dn := (sq (ite' (cno (cat E_Yard_dropIfDone [.aload_n 0, .getfield 29, .iload_n 1, .iconst 4, .invokevirtual 69] (.ifCond .ne 8)))
  (blk E_Yard_dropIfDone [.aload_n 0, .iload_n 1, .invokevirtual 102])
  (blk E_Yard_dropIfDone []))
  (rtv E_Yard_dropIfDone []))
def x_Yard_dropIfDone : Ex := zrv 2 (exb true 2 d_Yard_dropIfDone)
abbrev r_Yard_dropIfDone : Room := ({ frames := 3, cells := 0, slots := 0, locals := 107 } : Room)
theorem eo_Yard_dropIfDone (hw : zWok w) (cx : CX w p s m args c b_Yard_dropIfDone 2 "CoilSlits$Yard") : EnvOk w true p l e r_Yard_dropIfDone s m args below meth c Q b_Yard_dropIfDone 2 "CoilSlits$Yard" E_Yard_dropIfDone :=
  ⟨rfl, by decide +kernel, by decide +kernel, by decide +kernel, hw, fun h => absurd h (by decide),
  List.forall_mem_cons.mpr ⟨call_V cx (ct_Grid_get w l hw) tw_200 tw_197 tw_3 tw_198 tw_199 (ci := 1) (Nat.le_of_ble_eq_true rfl) rfl (by decide +kernel) ⟨Nat.le_of_ble_eq_true rfl, Nat.le_of_ble_eq_true rfl⟩, List.forall_mem_cons.mpr ⟨call_V cx (ct_Yard_dropOrder w l hw) tw_283 tw_280 tw_2 tw_281 tw_282 (ci := 2) (Nat.le_of_ble_eq_true rfl) rfl (by decide +kernel) ⟨Nat.le_of_ble_eq_true rfl, Nat.le_of_ble_eq_true rfl⟩, fun q hq => absurd hq List.not_mem_nil⟩⟩⟩
theorem sn_Yard_dropIfDone (h : MC w true p l e R s m args below meth c Q b_Yard_dropIfDone 2 "CoilSlits$Yard" E_Yard_dropIfDone 0 0 F none) : Sn (zK w true p l e R s m args below meth c Q 2) F (fun _ => False) (fun _ => False) 0 0 0 d_Yard_dropIfDone 0 0 0 := by
  unfold d_Yard_dropIfDone
  exact (sn_sq (pm := 17) (sn_ite (pt := 12) (pf := 17) (sc_no (m_cat h zz (p1 := 9) (tgt := 17) (by decide +kernel) (by decide +kernel) (by decide)))
  (m_blk h zz (by decide +kernel))
  (m_blk h zz rfl))
  (m_rtv h zz (p1 := 17) (by decide +kernel) (by decide +kernel) (Nat.zero_le _) (Nat.zero_le _)))
theorem ct_Yard_dropIfDone (w : Wd) (l : Launch) (hw : zWok w) : CT w l y_Yard_dropIfDone b_Yard_dropIfDone 2 none r_Yard_dropIfDone (exb true 2 d_Yard_dropIfDone) :=
  ct_plain (by decide +kernel) (fun p e s m args below meth c Q cx hnm => eo_Yard_dropIfDone hw cx) (fun p e s m args below meth c Q F h => sn_Yard_dropIfDone h)
theorem q_Yard_dropIfDone {a : Nat} {fs : List Value} {M : Hp} {nx : Nat} (x0 : Int32) (h : M a = some (cO 2 fs)) : x_Yard_dropIfDone [.ref a, .int x0] (M, nx) = zres (d_Yard_dropIfDone ([some (.ref a), some (.int x0)], [], (M, nx))) := q_ofV [some (.ref a), some (.int x0)] h rfl (Nat.le_of_ble_eq_true rfl) (Or.inr rfl)
theorem lc_Yard_dropIfDone_69 : lookI (eC E_Yard_dropIfDone) (.invokevirtual 69) = some (3, x_Grid_get) := rfl
theorem lc_Yard_dropIfDone_102 : lookI (eC E_Yard_dropIfDone) (.invokevirtual 102) = some (2, x_Yard_dropOrder) := rfl
theorem lf_Yard_dropIfDone_29 : lookN (eF E_Yard_dropIfDone) 29 = some (2, 2) := rfl
theorem lb_Yard_dropIfDone : eB E_Yard_dropIfDone = true := rfl
-- CoilSlits$Yard.fulfil
def E_Yard_fulfil : Env := (true, [(29, 2, 2)], [(.invokevirtual 69, 3, x_Grid_get), (.invokevirtual 138, 2, x_Yard_choose), (.invokevirtual 141, 2, x_Yard_digOut), (.invokestatic 72, 1, x_Slit_stackOf), (.invokevirtual 144, 3, x_Yard_cutTop), (.invokevirtual 147, 2, x_Yard_dropIfDone)], [], [], zST, false)
def d_Yard_fulfil : Dn := (sq (blk E_Yard_fulfil [.aload_n 0, .getfield 29, .iload_n 1, .iconst 4, .invokevirtual 69, .istore_n 2, .iconst 0, .istore_n 3, .iconst 0, .istore 4])
  (sq (lop (cfo [5] (can (cno (cat E_Yard_fulfil [.iload 4, .bipush 40] (.if_icmp .ge 50))) (cno (cat E_Yard_fulfil [.iload_n 3, .iload_n 2] (.if_icmp .ge 45)))))
  (sq (blk E_Yard_fulfil [.aload_n 0, .iload_n 1, .invokevirtual 138, .istore 5])
  (sq (ite' (cno (cat E_Yard_fulfil [.iload 5, .iconst (-1)] (.if_icmp .ne 6)))
  brk
  (blk E_Yard_fulfil []))
  (blk E_Yard_fulfil [.aload_n 0, .iload 5, .invokevirtual 141, .pop, .iload_n 3, .aload_n 0, .iload_n 1, .iload 5, .invokestatic 72, .invokevirtual 144, .iadd, .istore_n 3, .iinc 4 1])))
  (blk E_Yard_fulfil []) zFU)
  (rti E_Yard_fulfil [.aload_n 0, .iload_n 1, .invokevirtual 147, .iload_n 3])))
def x_Yard_fulfil : Ex := zrv 2 (exb true 6 d_Yard_fulfil)
abbrev r_Yard_fulfil : Room := ({ frames := 4, cells := 0, slots := 0, locals := 133 } : Room)
theorem eo_Yard_fulfil (hw : zWok w) (cx : CX w p s m args c b_Yard_fulfil 6 "CoilSlits$Yard") : EnvOk w true p l e r_Yard_fulfil s m args below meth c Q b_Yard_fulfil 6 "CoilSlits$Yard" E_Yard_fulfil :=
  ⟨rfl, by decide +kernel, by decide +kernel, by decide +kernel, hw, fun h => absurd h (by decide),
  List.forall_mem_cons.mpr ⟨call_V cx (ct_Grid_get w l hw) tw_200 tw_197 tw_3 tw_198 tw_199 (ci := 1) (Nat.le_of_ble_eq_true rfl) rfl (by decide +kernel) ⟨Nat.le_of_ble_eq_true rfl, Nat.le_of_ble_eq_true rfl⟩, List.forall_mem_cons.mpr ⟨call_V cx (ct_Yard_choose w l hw) tw_208 tw_205 tw_2 tw_206 tw_207 (ci := 2) (Nat.le_of_ble_eq_true rfl) rfl (by decide +kernel) ⟨Nat.le_of_ble_eq_true rfl, Nat.le_of_ble_eq_true rfl⟩, List.forall_mem_cons.mpr ⟨call_V cx (ct_Yard_digOut w l hw) tw_240 tw_237 tw_2 tw_238 tw_239 (ci := 2) (Nat.le_of_ble_eq_true rfl) rfl (by decide +kernel) ⟨Nat.le_of_ble_eq_true rfl, Nat.le_of_ble_eq_true rfl⟩, List.forall_mem_cons.mpr ⟨call_SN cx (host := "CoilSlits") (ct_Slit_stackOf w l hw) tw_243 (by decide +kernel) tw_1 tw_242 (by decide +kernel) ⟨Nat.le_of_ble_eq_true rfl, Nat.le_of_ble_eq_true rfl⟩, List.forall_mem_cons.mpr ⟨call_V cx (ct_Yard_cutTop w l hw) tw_266 tw_263 tw_2 tw_264 tw_265 (ci := 2) (Nat.le_of_ble_eq_true rfl) rfl (by decide +kernel) ⟨Nat.le_of_ble_eq_true rfl, Nat.le_of_ble_eq_true rfl⟩, List.forall_mem_cons.mpr ⟨call_V cx (ct_Yard_dropIfDone w l hw) tw_279 tw_276 tw_2 tw_277 tw_278 (ci := 2) (Nat.le_of_ble_eq_true rfl) rfl (by decide +kernel) ⟨Nat.le_of_ble_eq_true rfl, Nat.le_of_ble_eq_true rfl⟩, fun q hq => absurd hq List.not_mem_nil⟩⟩⟩⟩⟩⟩⟩
theorem sn_Yard_fulfil (h : MC w true p l e R s m args below meth c Q b_Yard_fulfil 6 "CoilSlits$Yard" E_Yard_fulfil 0 0 F (some .int)) : Sn (zK w true p l e R s m args below meth c Q 6) F (fun _ => False) (fun _ => False) 0 0 0 d_Yard_fulfil 0 0 0 := by
  unfold d_Yard_fulfil
  exact (sn_sq (pm := 15) (m_blk h zz (by decide +kernel))
  (sn_sq (pm := 69) (sn_lop (pt := 27) (pu := 66) (p2 := 66) (px := 69) (kb2 := fun _ => False) (kc2 := fun _ => False) (sc_fo m_fo (sc_an (pm := 22) (sc_no (m_cat h zz (p1 := 19) (tgt := 69) (by decide +kernel) (by decide +kernel) (by decide))) (sc_no (m_cat h zz (p1 := 24) (tgt := 69) (by decide +kernel) (by decide +kernel) (by decide)))))
  (sn_sq (pm := 34) (m_blk h zz (by decide +kernel))
  (sn_sq (pm := 43) (sn_ite (pt := 40) (pf := 43) (sc_no (m_cat h zz (p1 := 37) (tgt := 43) (by decide +kernel) (by decide +kernel) (by decide)))
  (sn_brk (m_goto h (off := 29) (by decide +kernel) (by decide)))
  (m_blk h zz rfl))
  (m_blk h zz (by decide +kernel))))
  (m_blk h zz rfl) (m_goto h (off := (-51)) (by decide +kernel) (by decide)) zFU)
  (m_rti h zz (p1 := 75) (by decide +kernel) (by decide +kernel) (Nat.zero_le _) (Nat.zero_le _))))
theorem ct_Yard_fulfil (w : Wd) (l : Launch) (hw : zWok w) : CT w l y_Yard_fulfil b_Yard_fulfil 6 (some .int) r_Yard_fulfil (exb true 6 d_Yard_fulfil) :=
  ct_plain (by decide +kernel) (fun p e s m args below meth c Q cx hnm => eo_Yard_fulfil hw cx) (fun p e s m args below meth c Q F h => sn_Yard_fulfil h)
theorem q_Yard_fulfil {a : Nat} {fs : List Value} {M : Hp} {nx : Nat} (x0 : Int32) (h : M a = some (cO 2 fs)) : x_Yard_fulfil [.ref a, .int x0] (M, nx) = zres (d_Yard_fulfil ([some (.ref a), some (.int x0), none, none, none, none], [], (M, nx))) := q_ofV [some (.ref a), some (.int x0), none, none, none, none] h rfl (Nat.le_of_ble_eq_true rfl) (Or.inr rfl)
theorem lc_Yard_fulfil_69 : lookI (eC E_Yard_fulfil) (.invokevirtual 69) = some (3, x_Grid_get) := rfl
theorem lc_Yard_fulfil_138 : lookI (eC E_Yard_fulfil) (.invokevirtual 138) = some (2, x_Yard_choose) := rfl
theorem lc_Yard_fulfil_141 : lookI (eC E_Yard_fulfil) (.invokevirtual 141) = some (2, x_Yard_digOut) := rfl
theorem lc_Yard_fulfil_72 : lookI (eC E_Yard_fulfil) (.invokestatic 72) = some (1, x_Slit_stackOf) := rfl
theorem lc_Yard_fulfil_144 : lookI (eC E_Yard_fulfil) (.invokevirtual 144) = some (3, x_Yard_cutTop) := rfl
theorem lc_Yard_fulfil_147 : lookI (eC E_Yard_fulfil) (.invokevirtual 147) = some (2, x_Yard_dropIfDone) := rfl
theorem lf_Yard_fulfil_29 : lookN (eF E_Yard_fulfil) 29 = some (2, 2) := rfl
theorem lb_Yard_fulfil : eB E_Yard_fulfil = true := rfl
-- CoilSlits$Yard.fulfilEach
def E_Yard_fulfilEach : Env := (true, [(55, 2, 5), (29, 2, 2)], [(.invokevirtual 150, 3, x_Yard_dearestBehind), (.invokevirtual 69, 3, x_Grid_get), (.invokevirtual 153, 2, x_Yard_fulfil)], [], [], zST, false)
def d_Yard_fulfilEach : Dn := (sq (blk E_Yard_fulfilEach [.aload_n 0, .getfield 55, .istore_n 1, .bipush 100, .istore_n 2, .iconst (-1), .istore_n 3, .iconst 0, .istore 4])
  (sq (lop (cfo [5] (cno (cat E_Yard_fulfilEach [.iload 4, .bipush 8] (.if_icmp .ge 55))))
  (sq (blk E_Yard_fulfilEach [.aload_n 0, .iload_n 2, .iload_n 3, .invokevirtual 150, .istore 5])
  (sq (ite' (cno (cat E_Yard_fulfilEach [.iload 5, .iconst (-1)] (.if_icmp .ne 6)))
  brk
  (blk E_Yard_fulfilEach []))
  (blk E_Yard_fulfilEach [.aload_n 0, .getfield 29, .iload 5, .iconst 5, .invokevirtual 69, .istore_n 2, .aload_n 0, .getfield 29, .iload 5, .iconst 0, .invokevirtual 69, .istore_n 3, .aload_n 0, .iload 5, .invokevirtual 153, .pop, .iinc 4 1])))
  (blk E_Yard_fulfilEach []) zFU)
  (rti E_Yard_fulfilEach [.iload_n 1, .aload_n 0, .getfield 55, .isub])))
def x_Yard_fulfilEach : Ex := zrv 2 (exb true 6 d_Yard_fulfilEach)
abbrev r_Yard_fulfilEach : Room := ({ frames := 5, cells := 0, slots := 0, locals := 158 } : Room)
theorem eo_Yard_fulfilEach (hw : zWok w) (cx : CX w p s m args c b_Yard_fulfilEach 6 "CoilSlits$Yard") : EnvOk w true p l e r_Yard_fulfilEach s m args below meth c Q b_Yard_fulfilEach 6 "CoilSlits$Yard" E_Yard_fulfilEach :=
  ⟨rfl, by decide +kernel, by decide +kernel, by decide +kernel, hw, fun h => absurd h (by decide),
  List.forall_mem_cons.mpr ⟨call_V cx (ct_Yard_dearestBehind w l hw) tw_196 tw_193 tw_2 tw_195 tp_1 (ci := 2) (Nat.le_of_ble_eq_true rfl) rfl (by decide +kernel) ⟨Nat.le_of_ble_eq_true rfl, Nat.le_of_ble_eq_true rfl⟩, List.forall_mem_cons.mpr ⟨call_V cx (ct_Grid_get w l hw) tw_200 tw_197 tw_3 tw_198 tw_199 (ci := 1) (Nat.le_of_ble_eq_true rfl) rfl (by decide +kernel) ⟨Nat.le_of_ble_eq_true rfl, Nat.le_of_ble_eq_true rfl⟩, List.forall_mem_cons.mpr ⟨call_V cx (ct_Yard_fulfil w l hw) tw_204 tw_201 tw_2 tw_202 tw_203 (ci := 2) (Nat.le_of_ble_eq_true rfl) rfl (by decide +kernel) ⟨Nat.le_of_ble_eq_true rfl, Nat.le_of_ble_eq_true rfl⟩, fun q hq => absurd hq List.not_mem_nil⟩⟩⟩⟩
theorem sn_Yard_fulfilEach (h : MC w true p l e R s m args below meth c Q b_Yard_fulfilEach 6 "CoilSlits$Yard" E_Yard_fulfilEach 0 0 F (some .int)) : Sn (zK w true p l e R s m args below meth c Q 6) F (fun _ => False) (fun _ => False) 0 0 0 d_Yard_fulfilEach 0 0 0 := by
  unfold d_Yard_fulfilEach
  exact (sn_sq (pm := 13) (m_blk h zz (by decide +kernel))
  (sn_sq (pm := 72) (sn_lop (pt := 20) (pu := 69) (p2 := 69) (px := 72) (kb2 := fun _ => False) (kc2 := fun _ => False) (sc_fo m_fo (sc_no (m_cat h zz (p1 := 17) (tgt := 72) (by decide +kernel) (by decide +kernel) (by decide))))
  (sn_sq (pm := 28) (m_blk h zz (by decide +kernel))
  (sn_sq (pm := 37) (sn_ite (pt := 34) (pf := 37) (sc_no (m_cat h zz (p1 := 31) (tgt := 37) (by decide +kernel) (by decide +kernel) (by decide)))
  (sn_brk (m_goto h (off := 38) (by decide +kernel) (by decide)))
  (m_blk h zz rfl))
  (m_blk h zz (by decide +kernel))))
  (m_blk h zz rfl) (m_goto h (off := (-56)) (by decide +kernel) (by decide)) zFU)
  (m_rti h zz (p1 := 78) (by decide +kernel) (by decide +kernel) (Nat.zero_le _) (Nat.zero_le _))))
theorem ct_Yard_fulfilEach (w : Wd) (l : Launch) (hw : zWok w) : CT w l y_Yard_fulfilEach b_Yard_fulfilEach 6 (some .int) r_Yard_fulfilEach (exb true 6 d_Yard_fulfilEach) :=
  ct_plain (by decide +kernel) (fun p e s m args below meth c Q cx hnm => eo_Yard_fulfilEach hw cx) (fun p e s m args below meth c Q F h => sn_Yard_fulfilEach h)
theorem q_Yard_fulfilEach {a : Nat} {fs : List Value} {M : Hp} {nx : Nat}  (h : M a = some (cO 2 fs)) : x_Yard_fulfilEach [.ref a] (M, nx) = zres (d_Yard_fulfilEach ([some (.ref a), none, none, none, none, none], [], (M, nx))) := q_ofV [some (.ref a), none, none, none, none, none] h rfl (Nat.le_of_ble_eq_true rfl) (Or.inr rfl)
theorem lc_Yard_fulfilEach_150 : lookI (eC E_Yard_fulfilEach) (.invokevirtual 150) = some (3, x_Yard_dearestBehind) := rfl
theorem lc_Yard_fulfilEach_69 : lookI (eC E_Yard_fulfilEach) (.invokevirtual 69) = some (3, x_Grid_get) := rfl
theorem lc_Yard_fulfilEach_153 : lookI (eC E_Yard_fulfilEach) (.invokevirtual 153) = some (2, x_Yard_fulfil) := rfl
theorem lf_Yard_fulfilEach_55 : lookN (eF E_Yard_fulfilEach) 55 = some (2, 5) := rfl
theorem lf_Yard_fulfilEach_29 : lookN (eF E_Yard_fulfilEach) 29 = some (2, 2) := rfl
theorem lb_Yard_fulfilEach : eB E_Yard_fulfilEach = true := rfl
-- CoilSlits$Yard.changeSetting
def E_Yard_changeSetting : Env := (true, [(32, 2, 3)], [(.invokevirtual 46, 3, x_Row_put)], [], [], zST, false)
def d_Yard_changeSetting : Dn := (rtv E_Yard_changeSetting [.aload_n 0, .getfield 32, .iload_n 1, .iload_n 2, .invokevirtual 46])
def x_Yard_changeSetting : Ex := zrv 2 (exb true 3 d_Yard_changeSetting)
abbrev r_Yard_changeSetting : Room := ({ frames := 1, cells := 0, slots := 0, locals := 22 } : Room)
theorem eo_Yard_changeSetting (hw : zWok w) (cx : CX w p s m args c b_Yard_changeSetting 3 "CoilSlits$Yard") : EnvOk w true p l e r_Yard_changeSetting s m args below meth c Q b_Yard_changeSetting 3 "CoilSlits$Yard" E_Yard_changeSetting :=
  ⟨rfl, by decide +kernel, by decide +kernel, by decide +kernel, hw, fun h => absurd h (by decide),
  List.forall_mem_cons.mpr ⟨call_V cx (ct_Row_put w l hw) tw_68 tw_65 tw_5 tw_66 tw_67 (ci := 0) (Nat.le_of_ble_eq_true rfl) rfl (by decide +kernel) ⟨Nat.le_of_ble_eq_true rfl, Nat.le_of_ble_eq_true rfl⟩, fun q hq => absurd hq List.not_mem_nil⟩⟩
theorem sn_Yard_changeSetting (h : MC w true p l e R s m args below meth c Q b_Yard_changeSetting 3 "CoilSlits$Yard" E_Yard_changeSetting 0 0 F none) : Sn (zK w true p l e R s m args below meth c Q 3) F (fun _ => False) (fun _ => False) 0 0 0 d_Yard_changeSetting 0 0 0 := by
  unfold d_Yard_changeSetting
  exact (m_rtv h zz (p1 := 9) (by decide +kernel) (by decide +kernel) (Nat.zero_le _) (Nat.zero_le _))
theorem ct_Yard_changeSetting (w : Wd) (l : Launch) (hw : zWok w) : CT w l y_Yard_changeSetting b_Yard_changeSetting 3 none r_Yard_changeSetting (exb true 3 d_Yard_changeSetting) :=
  ct_plain (by decide +kernel) (fun p e s m args below meth c Q cx hnm => eo_Yard_changeSetting hw cx) (fun p e s m args below meth c Q F h => sn_Yard_changeSetting h)
theorem q_Yard_changeSetting {a : Nat} {fs : List Value} {M : Hp} {nx : Nat} (x0 : Int32) (x1 : Int32) (h : M a = some (cO 2 fs)) : x_Yard_changeSetting [.ref a, .int x0, .int x1] (M, nx) = zres (d_Yard_changeSetting ([some (.ref a), some (.int x0), some (.int x1)], [], (M, nx))) := q_ofV [some (.ref a), some (.int x0), some (.int x1)] h rfl (Nat.le_of_ble_eq_true rfl) (Or.inr rfl)
theorem lc_Yard_changeSetting_46 : lookI (eC E_Yard_changeSetting) (.invokevirtual 46) = some (3, x_Row_put) := rfl
theorem lf_Yard_changeSetting_32 : lookN (eF E_Yard_changeSetting) 32 = some (2, 3) := rfl
theorem lb_Yard_changeSetting : eB E_Yard_changeSetting = true := rfl
-- CoilSlits$Yard.tally
def E_Yard_tally : Env := (true, [(35, 2, 4)], [(.invokevirtual 65, 2, x_Row_get)], [], [], zST, false)
def d_Yard_tally : Dn := (rti E_Yard_tally [.aload_n 0, .getfield 35, .iload_n 1, .invokevirtual 65])
def x_Yard_tally : Ex := zrv 2 (exb true 2 d_Yard_tally)
abbrev r_Yard_tally : Room := ({ frames := 1, cells := 0, slots := 0, locals := 21 } : Room)
theorem eo_Yard_tally (hw : zWok w) (cx : CX w p s m args c b_Yard_tally 2 "CoilSlits$Yard") : EnvOk w true p l e r_Yard_tally s m args below meth c Q b_Yard_tally 2 "CoilSlits$Yard" E_Yard_tally :=
  ⟨rfl, by decide +kernel, by decide +kernel, by decide +kernel, hw, fun h => absurd h (by decide),
  List.forall_mem_cons.mpr ⟨call_V cx (ct_Row_get w l hw) tw_216 tw_213 tw_5 tw_214 tw_215 (ci := 0) (Nat.le_of_ble_eq_true rfl) rfl (by decide +kernel) ⟨Nat.le_of_ble_eq_true rfl, Nat.le_of_ble_eq_true rfl⟩, fun q hq => absurd hq List.not_mem_nil⟩⟩
theorem sn_Yard_tally (h : MC w true p l e R s m args below meth c Q b_Yard_tally 2 "CoilSlits$Yard" E_Yard_tally 0 0 F (some .int)) : Sn (zK w true p l e R s m args below meth c Q 2) F (fun _ => False) (fun _ => False) 0 0 0 d_Yard_tally 0 0 0 := by
  unfold d_Yard_tally
  exact (m_rti h zz (p1 := 8) (by decide +kernel) (by decide +kernel) (Nat.zero_le _) (Nat.zero_le _))
theorem ct_Yard_tally (w : Wd) (l : Launch) (hw : zWok w) : CT w l y_Yard_tally b_Yard_tally 2 (some .int) r_Yard_tally (exb true 2 d_Yard_tally) :=
  ct_plain (by decide +kernel) (fun p e s m args below meth c Q cx hnm => eo_Yard_tally hw cx) (fun p e s m args below meth c Q F h => sn_Yard_tally h)
theorem q_Yard_tally {a : Nat} {fs : List Value} {M : Hp} {nx : Nat} (x0 : Int32) (h : M a = some (cO 2 fs)) : x_Yard_tally [.ref a, .int x0] (M, nx) = zres (d_Yard_tally ([some (.ref a), some (.int x0)], [], (M, nx))) := q_ofV [some (.ref a), some (.int x0)] h rfl (Nat.le_of_ble_eq_true rfl) (Or.inr rfl)
theorem lc_Yard_tally_65 : lookI (eC E_Yard_tally) (.invokevirtual 65) = some (2, x_Row_get) := rfl
theorem lf_Yard_tally_35 : lookN (eF E_Yard_tally) 35 = some (2, 4) := rfl
theorem lb_Yard_tally : eB E_Yard_tally = true := rfl
-- CoilSlits$Yard.widerThanTop
def E_Yard_widerThanTop : Env := (true, [(25, 2, 1), (14, 2, 0)], [(.invokevirtual 65, 2, x_Row_get), (.invokevirtual 69, 3, x_Grid_get)], [], [], zST, false)
def d_Yard_widerThanTop : Dn := (sq (blk E_Yard_widerThanTop [.iload_n 1, .iconst 5, .imul, .istore_n 2, .iload_n 2, .aload_n 0, .getfield 25, .iload_n 1, .invokevirtual 65, .iadd, .iconst 1, .isub, .istore_n 3, .iconst 0, .istore 4, .iload_n 2, .istore 5])
  (sq (lop (cfo [2] (cno (cat E_Yard_widerThanTop [.iload 5, .iload_n 3] (.if_icmp .ge 34))))
  (sq (ite' (cno (cat E_Yard_widerThanTop [.aload_n 0, .getfield 14, .iload 5, .iconst 0, .invokevirtual 69, .aload_n 0, .getfield 14, .iload_n 3, .iconst 0, .invokevirtual 69] (.if_icmp .le 6)))
  (blk E_Yard_widerThanTop [.iinc 4 1])
  (blk E_Yard_widerThanTop []))
  (blk E_Yard_widerThanTop [.iinc 5 1]))
  (blk E_Yard_widerThanTop []) zFU)
  (rti E_Yard_widerThanTop [.iload 4])))
def x_Yard_widerThanTop : Ex := zrv 2 (exb true 6 d_Yard_widerThanTop)
abbrev r_Yard_widerThanTop : Room := ({ frames := 1, cells := 0, slots := 0, locals := 24 } : Room)
theorem eo_Yard_widerThanTop (hw : zWok w) (cx : CX w p s m args c b_Yard_widerThanTop 6 "CoilSlits$Yard") : EnvOk w true p l e r_Yard_widerThanTop s m args below meth c Q b_Yard_widerThanTop 6 "CoilSlits$Yard" E_Yard_widerThanTop :=
  ⟨rfl, by decide +kernel, by decide +kernel, by decide +kernel, hw, fun h => absurd h (by decide),
  List.forall_mem_cons.mpr ⟨call_V cx (ct_Row_get w l hw) tw_216 tw_213 tw_5 tw_214 tw_215 (ci := 0) (Nat.le_of_ble_eq_true rfl) rfl (by decide +kernel) ⟨Nat.le_of_ble_eq_true rfl, Nat.le_of_ble_eq_true rfl⟩, List.forall_mem_cons.mpr ⟨call_V cx (ct_Grid_get w l hw) tw_200 tw_197 tw_3 tw_198 tw_199 (ci := 1) (Nat.le_of_ble_eq_true rfl) rfl (by decide +kernel) ⟨Nat.le_of_ble_eq_true rfl, Nat.le_of_ble_eq_true rfl⟩, fun q hq => absurd hq List.not_mem_nil⟩⟩⟩
theorem sn_Yard_widerThanTop (h : MC w true p l e R s m args below meth c Q b_Yard_widerThanTop 6 "CoilSlits$Yard" E_Yard_widerThanTop 0 0 F (some .int)) : Sn (zK w true p l e R s m args below meth c Q 6) F (fun _ => False) (fun _ => False) 0 0 0 d_Yard_widerThanTop 0 0 0 := by
  unfold d_Yard_widerThanTop
  exact (sn_sq (pm := 23) (m_blk h zz (by decide +kernel))
  (sn_sq (pm := 60) (sn_lop (pt := 29) (pu := 57) (p2 := 57) (px := 60) (kb2 := fun _ => False) (kc2 := fun _ => False) (sc_fo m_fo (sc_no (m_cat h zz (p1 := 26) (tgt := 60) (by decide +kernel) (by decide +kernel) (by decide))))
  (sn_sq (pm := 54) (sn_ite (pt := 51) (pf := 54) (sc_no (m_cat h zz (p1 := 48) (tgt := 54) (by decide +kernel) (by decide +kernel) (by decide)))
  (m_blk h zz (by decide +kernel))
  (m_blk h zz rfl))
  (m_blk h zz (by decide +kernel)))
  (m_blk h zz rfl) (m_goto h (off := (-34)) (by decide +kernel) (by decide)) zFU)
  (m_rti h zz (p1 := 62) (by decide +kernel) (by decide +kernel) (Nat.zero_le _) (Nat.zero_le _))))
theorem ct_Yard_widerThanTop (w : Wd) (l : Launch) (hw : zWok w) : CT w l y_Yard_widerThanTop b_Yard_widerThanTop 6 (some .int) r_Yard_widerThanTop (exb true 6 d_Yard_widerThanTop) :=
  ct_plain (by decide +kernel) (fun p e s m args below meth c Q cx hnm => eo_Yard_widerThanTop hw cx) (fun p e s m args below meth c Q F h => sn_Yard_widerThanTop h)
theorem q_Yard_widerThanTop {a : Nat} {fs : List Value} {M : Hp} {nx : Nat} (x0 : Int32) (h : M a = some (cO 2 fs)) : x_Yard_widerThanTop [.ref a, .int x0] (M, nx) = zres (d_Yard_widerThanTop ([some (.ref a), some (.int x0), none, none, none, none], [], (M, nx))) := q_ofV [some (.ref a), some (.int x0), none, none, none, none] h rfl (Nat.le_of_ble_eq_true rfl) (Or.inr rfl)
theorem lc_Yard_widerThanTop_65 : lookI (eC E_Yard_widerThanTop) (.invokevirtual 65) = some (2, x_Row_get) := rfl
theorem lc_Yard_widerThanTop_69 : lookI (eC E_Yard_widerThanTop) (.invokevirtual 69) = some (3, x_Grid_get) := rfl
theorem lf_Yard_widerThanTop_25 : lookN (eF E_Yard_widerThanTop) 25 = some (2, 1) := rfl
theorem lf_Yard_widerThanTop_14 : lookN (eF E_Yard_widerThanTop) 14 = some (2, 0) := rfl
theorem lb_Yard_widerThanTop : eB E_Yard_widerThanTop = true := rfl
-- CoilSlits$Yard.heightOf
def E_Yard_heightOf : Env := (true, [(25, 2, 1)], [(.invokevirtual 65, 2, x_Row_get)], [], [], zST, false)
def d_Yard_heightOf : Dn := (rti E_Yard_heightOf [.aload_n 0, .getfield 25, .iload_n 1, .invokevirtual 65])
def x_Yard_heightOf : Ex := zrv 2 (exb true 2 d_Yard_heightOf)
abbrev r_Yard_heightOf : Room := ({ frames := 1, cells := 0, slots := 0, locals := 21 } : Room)
theorem eo_Yard_heightOf (hw : zWok w) (cx : CX w p s m args c b_Yard_heightOf 2 "CoilSlits$Yard") : EnvOk w true p l e r_Yard_heightOf s m args below meth c Q b_Yard_heightOf 2 "CoilSlits$Yard" E_Yard_heightOf :=
  ⟨rfl, by decide +kernel, by decide +kernel, by decide +kernel, hw, fun h => absurd h (by decide),
  List.forall_mem_cons.mpr ⟨call_V cx (ct_Row_get w l hw) tw_216 tw_213 tw_5 tw_214 tw_215 (ci := 0) (Nat.le_of_ble_eq_true rfl) rfl (by decide +kernel) ⟨Nat.le_of_ble_eq_true rfl, Nat.le_of_ble_eq_true rfl⟩, fun q hq => absurd hq List.not_mem_nil⟩⟩
theorem sn_Yard_heightOf (h : MC w true p l e R s m args below meth c Q b_Yard_heightOf 2 "CoilSlits$Yard" E_Yard_heightOf 0 0 F (some .int)) : Sn (zK w true p l e R s m args below meth c Q 2) F (fun _ => False) (fun _ => False) 0 0 0 d_Yard_heightOf 0 0 0 := by
  unfold d_Yard_heightOf
  exact (m_rti h zz (p1 := 8) (by decide +kernel) (by decide +kernel) (Nat.zero_le _) (Nat.zero_le _))
theorem ct_Yard_heightOf (w : Wd) (l : Launch) (hw : zWok w) : CT w l y_Yard_heightOf b_Yard_heightOf 2 (some .int) r_Yard_heightOf (exb true 2 d_Yard_heightOf) :=
  ct_plain (by decide +kernel) (fun p e s m args below meth c Q cx hnm => eo_Yard_heightOf hw cx) (fun p e s m args below meth c Q F h => sn_Yard_heightOf h)
theorem q_Yard_heightOf {a : Nat} {fs : List Value} {M : Hp} {nx : Nat} (x0 : Int32) (h : M a = some (cO 2 fs)) : x_Yard_heightOf [.ref a, .int x0] (M, nx) = zres (d_Yard_heightOf ([some (.ref a), some (.int x0)], [], (M, nx))) := q_ofV [some (.ref a), some (.int x0)] h rfl (Nat.le_of_ble_eq_true rfl) (Or.inr rfl)
theorem lc_Yard_heightOf_65 : lookI (eC E_Yard_heightOf) (.invokevirtual 65) = some (2, x_Row_get) := rfl
theorem lf_Yard_heightOf_25 : lookN (eF E_Yard_heightOf) 25 = some (2, 1) := rfl
theorem lb_Yard_heightOf : eB E_Yard_heightOf = true := rfl
-- CoilSlits$Yard.hasRoom
def E_Yard_hasRoom : Env := (true, [(25, 2, 1)], [(.invokevirtual 65, 2, x_Row_get)], [], [], zST, false)
def d_Yard_hasRoom : Dn := (sq (ite' (cno (cat E_Yard_hasRoom [.aload_n 0, .getfield 25, .iload_n 1, .invokevirtual 65, .iconst 5] (.if_icmp .ge 7)))
  (blk E_Yard_hasRoom [.iconst 1])
  (blk E_Yard_hasRoom [.iconst 0]))
  (rtz E_Yard_hasRoom []))
def x_Yard_hasRoom : Ex := zrv 2 (exb true 2 d_Yard_hasRoom)
abbrev r_Yard_hasRoom : Room := ({ frames := 1, cells := 0, slots := 0, locals := 21 } : Room)
theorem eo_Yard_hasRoom (hw : zWok w) (cx : CX w p s m args c b_Yard_hasRoom 2 "CoilSlits$Yard") : EnvOk w true p l e r_Yard_hasRoom s m args below meth c Q b_Yard_hasRoom 2 "CoilSlits$Yard" E_Yard_hasRoom :=
  ⟨rfl, by decide +kernel, by decide +kernel, by decide +kernel, hw, fun h => absurd h (by decide),
  List.forall_mem_cons.mpr ⟨call_V cx (ct_Row_get w l hw) tw_216 tw_213 tw_5 tw_214 tw_215 (ci := 0) (Nat.le_of_ble_eq_true rfl) rfl (by decide +kernel) ⟨Nat.le_of_ble_eq_true rfl, Nat.le_of_ble_eq_true rfl⟩, fun q hq => absurd hq List.not_mem_nil⟩⟩
theorem sn_Yard_hasRoom (h : MC w true p l e R s m args below meth c Q b_Yard_hasRoom 2 "CoilSlits$Yard" E_Yard_hasRoom 0 0 F (some .boolean)) : Sn (zK w true p l e R s m args below meth c Q 2) F (fun _ => False) (fun _ => False) 0 0 0 d_Yard_hasRoom 0 0 0 := by
  unfold d_Yard_hasRoom
  exact (sn_sq (pm := 17) (sn_ite (pt := 12) (pf := 16) (sc_no (m_cat h zz (p1 := 9) (tgt := 16) (by decide +kernel) (by decide +kernel) (by decide)))
  (sn_goto (pm := 13) (m_blk h zz (by decide +kernel)) (m_goto h (off := 4) (by decide +kernel) (by decide)))
  (m_blk h zz (by decide +kernel)))
  (m_rtz h zz (p1 := 17) (by decide +kernel) (by decide +kernel) (Nat.zero_le _) (Nat.zero_le _)))
theorem ct_Yard_hasRoom (w : Wd) (l : Launch) (hw : zWok w) : CT w l y_Yard_hasRoom b_Yard_hasRoom 2 (some .boolean) r_Yard_hasRoom (exb true 2 d_Yard_hasRoom) :=
  ct_plain (by decide +kernel) (fun p e s m args below meth c Q cx hnm => eo_Yard_hasRoom hw cx) (fun p e s m args below meth c Q F h => sn_Yard_hasRoom h)
theorem q_Yard_hasRoom {a : Nat} {fs : List Value} {M : Hp} {nx : Nat} (x0 : Int32) (h : M a = some (cO 2 fs)) : x_Yard_hasRoom [.ref a, .int x0] (M, nx) = zres (d_Yard_hasRoom ([some (.ref a), some (.int x0)], [], (M, nx))) := q_ofV [some (.ref a), some (.int x0)] h rfl (Nat.le_of_ble_eq_true rfl) (Or.inr rfl)
theorem lc_Yard_hasRoom_65 : lookI (eC E_Yard_hasRoom) (.invokevirtual 65) = some (2, x_Row_get) := rfl
theorem lf_Yard_hasRoom_25 : lookN (eF E_Yard_hasRoom) 25 = some (2, 1) := rfl
theorem lb_Yard_hasRoom : eB E_Yard_hasRoom = true := rfl
-- CoilSlits$Yard.coilCount
def E_Yard_coilCount : Env := (true, [(25, 2, 1)], [(.invokevirtual 65, 2, x_Row_get)], [], [], zST, false)
def d_Yard_coilCount : Dn := (sq (blk E_Yard_coilCount [.iconst 0, .istore_n 1, .iconst 0, .istore_n 2])
  (sq (lop (cno (cat E_Yard_coilCount [.iload_n 2, .bipush 6] (.if_icmp .ge 20)))
  (blk E_Yard_coilCount [.iload_n 1, .aload_n 0, .getfield 25, .iload_n 2, .invokevirtual 65, .iadd, .istore_n 1, .iinc 2 1])
  (blk E_Yard_coilCount []) zFU)
  (rti E_Yard_coilCount [.iload_n 1])))
def x_Yard_coilCount : Ex := zrv 2 (exb true 3 d_Yard_coilCount)
abbrev r_Yard_coilCount : Room := ({ frames := 1, cells := 0, slots := 0, locals := 21 } : Room)
theorem eo_Yard_coilCount (hw : zWok w) (cx : CX w p s m args c b_Yard_coilCount 3 "CoilSlits$Yard") : EnvOk w true p l e r_Yard_coilCount s m args below meth c Q b_Yard_coilCount 3 "CoilSlits$Yard" E_Yard_coilCount :=
  ⟨rfl, by decide +kernel, by decide +kernel, by decide +kernel, hw, fun h => absurd h (by decide),
  List.forall_mem_cons.mpr ⟨call_V cx (ct_Row_get w l hw) tw_216 tw_213 tw_5 tw_214 tw_215 (ci := 0) (Nat.le_of_ble_eq_true rfl) rfl (by decide +kernel) ⟨Nat.le_of_ble_eq_true rfl, Nat.le_of_ble_eq_true rfl⟩, fun q hq => absurd hq List.not_mem_nil⟩⟩
theorem sn_Yard_coilCount (h : MC w true p l e R s m args below meth c Q b_Yard_coilCount 3 "CoilSlits$Yard" E_Yard_coilCount 0 0 F (some .int)) : Sn (zK w true p l e R s m args below meth c Q 3) F (fun _ => False) (fun _ => False) 0 0 0 d_Yard_coilCount 0 0 0 := by
  unfold d_Yard_coilCount
  exact (sn_sq (pm := 4) (m_blk h zz (by decide +kernel))
  (sn_sq (pm := 27) (sn_lop (pt := 10) (pu := 24) (p2 := 24) (px := 27) (kb2 := fun _ => False) (kc2 := fun _ => False) (sc_no (m_cat h zz (p1 := 7) (tgt := 27) (by decide +kernel) (by decide +kernel) (by decide)))
  (m_blk h zz (by decide +kernel))
  (m_blk h zz rfl) (m_goto h (off := (-20)) (by decide +kernel) (by decide)) zFU)
  (m_rti h zz (p1 := 28) (by decide +kernel) (by decide +kernel) (Nat.zero_le _) (Nat.zero_le _))))
theorem ct_Yard_coilCount (w : Wd) (l : Launch) (hw : zWok w) : CT w l y_Yard_coilCount b_Yard_coilCount 3 (some .int) r_Yard_coilCount (exb true 3 d_Yard_coilCount) :=
  ct_plain (by decide +kernel) (fun p e s m args below meth c Q cx hnm => eo_Yard_coilCount hw cx) (fun p e s m args below meth c Q F h => sn_Yard_coilCount h)
theorem q_Yard_coilCount {a : Nat} {fs : List Value} {M : Hp} {nx : Nat}  (h : M a = some (cO 2 fs)) : x_Yard_coilCount [.ref a] (M, nx) = zres (d_Yard_coilCount ([some (.ref a), none, none], [], (M, nx))) := q_ofV [some (.ref a), none, none] h rfl (Nat.le_of_ble_eq_true rfl) (Or.inr rfl)
theorem lc_Yard_coilCount_65 : lookI (eC E_Yard_coilCount) (.invokevirtual 65) = some (2, x_Row_get) := rfl
theorem lf_Yard_coilCount_25 : lookN (eF E_Yard_coilCount) 25 = some (2, 1) := rfl
theorem lb_Yard_coilCount : eB E_Yard_coilCount = true := rfl
-- CoilSlits$Yard.sumOfCoils
def E_Yard_sumOfCoils : Env := (true, [(14, 2, 0)], [(.invokevirtual 69, 3, x_Grid_get)], [], [], zST, false)
def d_Yard_sumOfCoils : Dn := (sq (blk E_Yard_sumOfCoils [.iconst 0, .istore_n 2, .iconst 0, .istore_n 3])
  (sq (lop (cno (cat E_Yard_sumOfCoils [.iload_n 3, .bipush 30] (.if_icmp .ge 34)))
  (sq (ite' (cno (cat E_Yard_sumOfCoils [.aload_n 0, .getfield 14, .iload_n 3, .iconst 4, .invokevirtual 69, .iconst (-1)] (.if_icmp .eq 15)))
  (blk E_Yard_sumOfCoils [.iload_n 2, .aload_n 0, .getfield 14, .iload_n 3, .iload_n 1, .invokevirtual 69, .iadd, .istore_n 2])
  (blk E_Yard_sumOfCoils []))
  (blk E_Yard_sumOfCoils [.iinc 3 1]))
  (blk E_Yard_sumOfCoils []) zFU)
  (rti E_Yard_sumOfCoils [.iload_n 2])))
def x_Yard_sumOfCoils : Ex := zrv 2 (exb true 4 d_Yard_sumOfCoils)
abbrev r_Yard_sumOfCoils : Room := ({ frames := 1, cells := 0, slots := 0, locals := 24 } : Room)
theorem eo_Yard_sumOfCoils (hw : zWok w) (cx : CX w p s m args c b_Yard_sumOfCoils 4 "CoilSlits$Yard") : EnvOk w true p l e r_Yard_sumOfCoils s m args below meth c Q b_Yard_sumOfCoils 4 "CoilSlits$Yard" E_Yard_sumOfCoils :=
  ⟨rfl, by decide +kernel, by decide +kernel, by decide +kernel, hw, fun h => absurd h (by decide),
  List.forall_mem_cons.mpr ⟨call_V cx (ct_Grid_get w l hw) tw_200 tw_197 tw_3 tw_198 tw_199 (ci := 1) (Nat.le_of_ble_eq_true rfl) rfl (by decide +kernel) ⟨Nat.le_of_ble_eq_true rfl, Nat.le_of_ble_eq_true rfl⟩, fun q hq => absurd hq List.not_mem_nil⟩⟩
theorem sn_Yard_sumOfCoils (h : MC w true p l e R s m args below meth c Q b_Yard_sumOfCoils 4 "CoilSlits$Yard" E_Yard_sumOfCoils 0 0 F (some .int)) : Sn (zK w true p l e R s m args below meth c Q 4) F (fun _ => False) (fun _ => False) 0 0 0 d_Yard_sumOfCoils 0 0 0 := by
  unfold d_Yard_sumOfCoils
  exact (sn_sq (pm := 4) (m_blk h zz (by decide +kernel))
  (sn_sq (pm := 41) (sn_lop (pt := 10) (pu := 38) (p2 := 38) (px := 41) (kb2 := fun _ => False) (kc2 := fun _ => False) (sc_no (m_cat h zz (p1 := 7) (tgt := 41) (by decide +kernel) (by decide +kernel) (by decide)))
  (sn_sq (pm := 35) (sn_ite (pt := 23) (pf := 35) (sc_no (m_cat h zz (p1 := 20) (tgt := 35) (by decide +kernel) (by decide +kernel) (by decide)))
  (m_blk h zz (by decide +kernel))
  (m_blk h zz rfl))
  (m_blk h zz (by decide +kernel)))
  (m_blk h zz rfl) (m_goto h (off := (-34)) (by decide +kernel) (by decide)) zFU)
  (m_rti h zz (p1 := 42) (by decide +kernel) (by decide +kernel) (Nat.zero_le _) (Nat.zero_le _))))
theorem ct_Yard_sumOfCoils (w : Wd) (l : Launch) (hw : zWok w) : CT w l y_Yard_sumOfCoils b_Yard_sumOfCoils 4 (some .int) r_Yard_sumOfCoils (exb true 4 d_Yard_sumOfCoils) :=
  ct_plain (by decide +kernel) (fun p e s m args below meth c Q cx hnm => eo_Yard_sumOfCoils hw cx) (fun p e s m args below meth c Q F h => sn_Yard_sumOfCoils h)
theorem q_Yard_sumOfCoils {a : Nat} {fs : List Value} {M : Hp} {nx : Nat} (x0 : Int32) (h : M a = some (cO 2 fs)) : x_Yard_sumOfCoils [.ref a, .int x0] (M, nx) = zres (d_Yard_sumOfCoils ([some (.ref a), some (.int x0), none, none], [], (M, nx))) := q_ofV [some (.ref a), some (.int x0), none, none] h rfl (Nat.le_of_ble_eq_true rfl) (Or.inr rfl)
theorem lc_Yard_sumOfCoils_69 : lookI (eC E_Yard_sumOfCoils) (.invokevirtual 69) = some (3, x_Grid_get) := rfl
theorem lf_Yard_sumOfCoils_14 : lookN (eF E_Yard_sumOfCoils) 14 = some (2, 0) := rfl
theorem lb_Yard_sumOfCoils : eB E_Yard_sumOfCoils = true := rfl
-- CoilSlits$Yard.orderCount
def E_Yard_orderCount : Env := (true, [(55, 2, 5)], [], [], [], zST, false)
def d_Yard_orderCount : Dn := (rti E_Yard_orderCount [.aload_n 0, .getfield 55])
def x_Yard_orderCount : Ex := zrv 2 (exb true 1 d_Yard_orderCount)
abbrev r_Yard_orderCount : Room := ({ frames := 0, cells := 0, slots := 0, locals := 0 } : Room)
theorem eo_Yard_orderCount (hw : zWok w) (cx : CX w p s m args c b_Yard_orderCount 1 "CoilSlits$Yard") : EnvOk w true p l e r_Yard_orderCount s m args below meth c Q b_Yard_orderCount 1 "CoilSlits$Yard" E_Yard_orderCount :=
  ⟨rfl, by decide +kernel, by decide +kernel, by decide +kernel, hw, fun h => absurd h (by decide),
  fun q hq => absurd hq List.not_mem_nil⟩
theorem sn_Yard_orderCount (h : MC w true p l e R s m args below meth c Q b_Yard_orderCount 1 "CoilSlits$Yard" E_Yard_orderCount 0 0 F (some .int)) : Sn (zK w true p l e R s m args below meth c Q 1) F (fun _ => False) (fun _ => False) 0 0 0 d_Yard_orderCount 0 0 0 := by
  unfold d_Yard_orderCount
  exact (m_rti h zz (p1 := 4) (by decide +kernel) (by decide +kernel) (Nat.zero_le _) (Nat.zero_le _))
theorem ct_Yard_orderCount (w : Wd) (l : Launch) (hw : zWok w) : CT w l y_Yard_orderCount b_Yard_orderCount 1 (some .int) r_Yard_orderCount (exb true 1 d_Yard_orderCount) :=
  ct_plain (by decide +kernel) (fun p e s m args below meth c Q cx hnm => eo_Yard_orderCount hw cx) (fun p e s m args below meth c Q F h => sn_Yard_orderCount h)
theorem q_Yard_orderCount {a : Nat} {fs : List Value} {M : Hp} {nx : Nat}  (h : M a = some (cO 2 fs)) : x_Yard_orderCount [.ref a] (M, nx) = zres (d_Yard_orderCount ([some (.ref a)], [], (M, nx))) := q_ofV [some (.ref a)] h rfl (Nat.le_of_ble_eq_true rfl) (Or.inr rfl)
theorem lf_Yard_orderCount_55 : lookN (eF E_Yard_orderCount) 55 = some (2, 5) := rfl
theorem lb_Yard_orderCount : eB E_Yard_orderCount = true := rfl
-- CoilSlits$Yard.settingNow
def E_Yard_settingNow : Env := (true, [(32, 2, 3)], [(.invokevirtual 65, 2, x_Row_get)], [], [], zST, false)
def d_Yard_settingNow : Dn := (rti E_Yard_settingNow [.aload_n 0, .getfield 32, .iload_n 1, .invokevirtual 65])
def x_Yard_settingNow : Ex := zrv 2 (exb true 2 d_Yard_settingNow)
abbrev r_Yard_settingNow : Room := ({ frames := 1, cells := 0, slots := 0, locals := 21 } : Room)
theorem eo_Yard_settingNow (hw : zWok w) (cx : CX w p s m args c b_Yard_settingNow 2 "CoilSlits$Yard") : EnvOk w true p l e r_Yard_settingNow s m args below meth c Q b_Yard_settingNow 2 "CoilSlits$Yard" E_Yard_settingNow :=
  ⟨rfl, by decide +kernel, by decide +kernel, by decide +kernel, hw, fun h => absurd h (by decide),
  List.forall_mem_cons.mpr ⟨call_V cx (ct_Row_get w l hw) tw_216 tw_213 tw_5 tw_214 tw_215 (ci := 0) (Nat.le_of_ble_eq_true rfl) rfl (by decide +kernel) ⟨Nat.le_of_ble_eq_true rfl, Nat.le_of_ble_eq_true rfl⟩, fun q hq => absurd hq List.not_mem_nil⟩⟩
theorem sn_Yard_settingNow (h : MC w true p l e R s m args below meth c Q b_Yard_settingNow 2 "CoilSlits$Yard" E_Yard_settingNow 0 0 F (some .int)) : Sn (zK w true p l e R s m args below meth c Q 2) F (fun _ => False) (fun _ => False) 0 0 0 d_Yard_settingNow 0 0 0 := by
  unfold d_Yard_settingNow
  exact (m_rti h zz (p1 := 8) (by decide +kernel) (by decide +kernel) (Nat.zero_le _) (Nat.zero_le _))
theorem ct_Yard_settingNow (w : Wd) (l : Launch) (hw : zWok w) : CT w l y_Yard_settingNow b_Yard_settingNow 2 (some .int) r_Yard_settingNow (exb true 2 d_Yard_settingNow) :=
  ct_plain (by decide +kernel) (fun p e s m args below meth c Q cx hnm => eo_Yard_settingNow hw cx) (fun p e s m args below meth c Q F h => sn_Yard_settingNow h)
theorem q_Yard_settingNow {a : Nat} {fs : List Value} {M : Hp} {nx : Nat} (x0 : Int32) (h : M a = some (cO 2 fs)) : x_Yard_settingNow [.ref a, .int x0] (M, nx) = zres (d_Yard_settingNow ([some (.ref a), some (.int x0)], [], (M, nx))) := q_ofV [some (.ref a), some (.int x0)] h rfl (Nat.le_of_ble_eq_true rfl) (Or.inr rfl)
theorem lc_Yard_settingNow_65 : lookI (eC E_Yard_settingNow) (.invokevirtual 65) = some (2, x_Row_get) := rfl
theorem lf_Yard_settingNow_32 : lookN (eF E_Yard_settingNow) 32 = some (2, 3) := rfl
theorem lb_Yard_settingNow : eB E_Yard_settingNow = true := rfl
-- CoilSlits$Yard.numberAt
def E_Yard_numberAt : Env := (true, [(14, 2, 0)], [(.invokevirtual 69, 3, x_Grid_get)], [], [], zST, false)
def d_Yard_numberAt : Dn := (rti E_Yard_numberAt [.aload_n 0, .getfield 14, .iload_n 1, .iconst 4, .invokevirtual 69])
def x_Yard_numberAt : Ex := zrv 2 (exb true 2 d_Yard_numberAt)
abbrev r_Yard_numberAt : Room := ({ frames := 1, cells := 0, slots := 0, locals := 24 } : Room)
theorem eo_Yard_numberAt (hw : zWok w) (cx : CX w p s m args c b_Yard_numberAt 2 "CoilSlits$Yard") : EnvOk w true p l e r_Yard_numberAt s m args below meth c Q b_Yard_numberAt 2 "CoilSlits$Yard" E_Yard_numberAt :=
  ⟨rfl, by decide +kernel, by decide +kernel, by decide +kernel, hw, fun h => absurd h (by decide),
  List.forall_mem_cons.mpr ⟨call_V cx (ct_Grid_get w l hw) tw_200 tw_197 tw_3 tw_198 tw_199 (ci := 1) (Nat.le_of_ble_eq_true rfl) rfl (by decide +kernel) ⟨Nat.le_of_ble_eq_true rfl, Nat.le_of_ble_eq_true rfl⟩, fun q hq => absurd hq List.not_mem_nil⟩⟩
theorem sn_Yard_numberAt (h : MC w true p l e R s m args below meth c Q b_Yard_numberAt 2 "CoilSlits$Yard" E_Yard_numberAt 0 0 F (some .int)) : Sn (zK w true p l e R s m args below meth c Q 2) F (fun _ => False) (fun _ => False) 0 0 0 d_Yard_numberAt 0 0 0 := by
  unfold d_Yard_numberAt
  exact (m_rti h zz (p1 := 9) (by decide +kernel) (by decide +kernel) (Nat.zero_le _) (Nat.zero_le _))
theorem ct_Yard_numberAt (w : Wd) (l : Launch) (hw : zWok w) : CT w l y_Yard_numberAt b_Yard_numberAt 2 (some .int) r_Yard_numberAt (exb true 2 d_Yard_numberAt) :=
  ct_plain (by decide +kernel) (fun p e s m args below meth c Q cx hnm => eo_Yard_numberAt hw cx) (fun p e s m args below meth c Q F h => sn_Yard_numberAt h)
theorem q_Yard_numberAt {a : Nat} {fs : List Value} {M : Hp} {nx : Nat} (x0 : Int32) (h : M a = some (cO 2 fs)) : x_Yard_numberAt [.ref a, .int x0] (M, nx) = zres (d_Yard_numberAt ([some (.ref a), some (.int x0)], [], (M, nx))) := q_ofV [some (.ref a), some (.int x0)] h rfl (Nat.le_of_ble_eq_true rfl) (Or.inr rfl)
theorem lc_Yard_numberAt_69 : lookI (eC E_Yard_numberAt) (.invokevirtual 69) = some (3, x_Grid_get) := rfl
theorem lf_Yard_numberAt_14 : lookN (eF E_Yard_numberAt) 14 = some (2, 0) := rfl
theorem lb_Yard_numberAt : eB E_Yard_numberAt = true := rfl
-- CoilSlits$Yard.coilProperty
def E_Yard_coilProperty : Env := (true, [(14, 2, 0)], [(.invokestatic 72, 1, x_Slit_stackOf), (.invokevirtual 75, 2, x_Yard_coilsAbove), (.invokevirtual 69, 3, x_Grid_get)], [], [], zST, false)
def d_Yard_coilProperty : Dn := (swi E_Yard_coilProperty [.iload_n 2] [(3, (rti E_Yard_coilProperty [.iload_n 1, .invokestatic 72])), (4, (rti E_Yard_coilProperty [.aload_n 0, .iload_n 1, .invokevirtual 75])), (5, (rti E_Yard_coilProperty [.aload_n 0, .getfield 14, .iload_n 1, .iconst 3, .invokevirtual 69]))]
  (rti E_Yard_coilProperty [.aload_n 0, .getfield 14, .iload_n 1, .iload_n 2, .invokevirtual 69]))
def x_Yard_coilProperty : Ex := zrv 2 (exb true 3 d_Yard_coilProperty)
abbrev r_Yard_coilProperty : Room := ({ frames := 2, cells := 0, slots := 0, locals := 42 } : Room)
theorem eo_Yard_coilProperty (hw : zWok w) (cx : CX w p s m args c b_Yard_coilProperty 3 "CoilSlits$Yard") : EnvOk w true p l e r_Yard_coilProperty s m args below meth c Q b_Yard_coilProperty 3 "CoilSlits$Yard" E_Yard_coilProperty :=
  ⟨rfl, by decide +kernel, by decide +kernel, by decide +kernel, hw, fun h => absurd h (by decide),
  List.forall_mem_cons.mpr ⟨call_SN cx (host := "CoilSlits") (ct_Slit_stackOf w l hw) tw_243 (by decide +kernel) tw_1 tw_242 (by decide +kernel) ⟨Nat.le_of_ble_eq_true rfl, Nat.le_of_ble_eq_true rfl⟩, List.forall_mem_cons.mpr ⟨call_V cx (ct_Yard_coilsAbove w l hw) tw_228 tw_225 tw_2 tw_226 tw_227 (ci := 2) (Nat.le_of_ble_eq_true rfl) rfl (by decide +kernel) ⟨Nat.le_of_ble_eq_true rfl, Nat.le_of_ble_eq_true rfl⟩, List.forall_mem_cons.mpr ⟨call_V cx (ct_Grid_get w l hw) tw_200 tw_197 tw_3 tw_198 tw_199 (ci := 1) (Nat.le_of_ble_eq_true rfl) rfl (by decide +kernel) ⟨Nat.le_of_ble_eq_true rfl, Nat.le_of_ble_eq_true rfl⟩, fun q hq => absurd hq List.not_mem_nil⟩⟩⟩⟩
theorem sn_Yard_coilProperty (h : MC w true p l e R s m args below meth c Q b_Yard_coilProperty 3 "CoilSlits$Yard" E_Yard_coilProperty 0 0 F (some .int)) : Sn (zK w true p l e R s m args below meth c Q 3) F (fun _ => False) (fun _ => False) 0 0 0 d_Yard_coilProperty 0 0 0 := by
  unfold d_Yard_coilProperty
  exact (m_sw h zz (p1 := 1) (pd := 49) [(3, 28), (4, 33), (5, 39)] (by decide +kernel) (by decide +kernel)
  (swl_cons (m_rti h zz (p1 := 32) (by decide +kernel) (by decide +kernel) (Nat.zero_le _) (Nat.zero_le _))
  (swl_cons (m_rti h zz (p1 := 38) (by decide +kernel) (by decide +kernel) (Nat.zero_le _) (Nat.zero_le _))
  (swl_cons (m_rti h zz (p1 := 48) (by decide +kernel) (by decide +kernel) (Nat.zero_le _) (Nat.zero_le _))
  swl_nil)))
  (m_rti h zz (p1 := 58) (by decide +kernel) (by decide +kernel) (Nat.zero_le _) (Nat.zero_le _)))
theorem ct_Yard_coilProperty (w : Wd) (l : Launch) (hw : zWok w) : CT w l y_Yard_coilProperty b_Yard_coilProperty 3 (some .int) r_Yard_coilProperty (exb true 3 d_Yard_coilProperty) :=
  ct_plain (by decide +kernel) (fun p e s m args below meth c Q cx hnm => eo_Yard_coilProperty hw cx) (fun p e s m args below meth c Q F h => sn_Yard_coilProperty h)
theorem q_Yard_coilProperty {a : Nat} {fs : List Value} {M : Hp} {nx : Nat} (x0 : Int32) (x1 : Int32) (h : M a = some (cO 2 fs)) : x_Yard_coilProperty [.ref a, .int x0, .int x1] (M, nx) = zres (d_Yard_coilProperty ([some (.ref a), some (.int x0), some (.int x1)], [], (M, nx))) := q_ofV [some (.ref a), some (.int x0), some (.int x1)] h rfl (Nat.le_of_ble_eq_true rfl) (Or.inr rfl)
theorem lc_Yard_coilProperty_72 : lookI (eC E_Yard_coilProperty) (.invokestatic 72) = some (1, x_Slit_stackOf) := rfl
theorem lc_Yard_coilProperty_75 : lookI (eC E_Yard_coilProperty) (.invokevirtual 75) = some (2, x_Yard_coilsAbove) := rfl
theorem lc_Yard_coilProperty_69 : lookI (eC E_Yard_coilProperty) (.invokevirtual 69) = some (3, x_Grid_get) := rfl
theorem lf_Yard_coilProperty_14 : lookN (eF E_Yard_coilProperty) 14 = some (2, 0) := rfl
theorem lb_Yard_coilProperty : eB E_Yard_coilProperty = true := rfl
-- CoilSlits$Yard.suits
def E_Yard_suits : Env := (true, [(14, 2, 0)], [(.invokevirtual 69, 3, x_Grid_get), (.invokevirtual 121, 4, x_Yard_mismatch)], [], [], zST, false)
def d_Yard_suits : Dn := (sq (ite' (can (cno (cat E_Yard_suits [.aload_n 0, .getfield 14, .iload_n 2, .iconst 4, .invokevirtual 69, .iconst (-1)] (.if_icmp .eq 17))) (cno (cat E_Yard_suits [.aload_n 0, .iload_n 1, .iload_n 2, .iload_n 3, .invokevirtual 121] (.ifCond .ne 7))))
  (blk E_Yard_suits [.iconst 1])
  (blk E_Yard_suits [.iconst 0]))
  (rtz E_Yard_suits []))
def x_Yard_suits : Ex := zrv 2 (exb true 4 d_Yard_suits)
abbrev r_Yard_suits : Room := ({ frames := 2, cells := 0, slots := 0, locals := 47 } : Room)
theorem eo_Yard_suits (hw : zWok w) (cx : CX w p s m args c b_Yard_suits 4 "CoilSlits$Yard") : EnvOk w true p l e r_Yard_suits s m args below meth c Q b_Yard_suits 4 "CoilSlits$Yard" E_Yard_suits :=
  ⟨rfl, by decide +kernel, by decide +kernel, by decide +kernel, hw, fun h => absurd h (by decide),
  List.forall_mem_cons.mpr ⟨call_V cx (ct_Grid_get w l hw) tw_200 tw_197 tw_3 tw_198 tw_199 (ci := 1) (Nat.le_of_ble_eq_true rfl) rfl (by decide +kernel) ⟨Nat.le_of_ble_eq_true rfl, Nat.le_of_ble_eq_true rfl⟩, List.forall_mem_cons.mpr ⟨call_V cx (ct_Yard_mismatch w l hw) tw_220 tw_217 tw_2 tw_219 tp_3 (ci := 2) (Nat.le_of_ble_eq_true rfl) rfl (by decide +kernel) ⟨Nat.le_of_ble_eq_true rfl, Nat.le_of_ble_eq_true rfl⟩, fun q hq => absurd hq List.not_mem_nil⟩⟩⟩
theorem sn_Yard_suits (h : MC w true p l e R s m args below meth c Q b_Yard_suits 4 "CoilSlits$Yard" E_Yard_suits 0 0 F (some .boolean)) : Sn (zK w true p l e R s m args below meth c Q 4) F (fun _ => False) (fun _ => False) 0 0 0 d_Yard_suits 0 0 0 := by
  unfold d_Yard_suits
  exact (sn_sq (pm := 28) (sn_ite (pt := 23) (pf := 27) (sc_an (pm := 13) (sc_no (m_cat h zz (p1 := 10) (tgt := 27) (by decide +kernel) (by decide +kernel) (by decide))) (sc_no (m_cat h zz (p1 := 20) (tgt := 27) (by decide +kernel) (by decide +kernel) (by decide))))
  (sn_goto (pm := 24) (m_blk h zz (by decide +kernel)) (m_goto h (off := 4) (by decide +kernel) (by decide)))
  (m_blk h zz (by decide +kernel)))
  (m_rtz h zz (p1 := 28) (by decide +kernel) (by decide +kernel) (Nat.zero_le _) (Nat.zero_le _)))
theorem ct_Yard_suits (w : Wd) (l : Launch) (hw : zWok w) : CT w l y_Yard_suits b_Yard_suits 4 (some .boolean) r_Yard_suits (exb true 4 d_Yard_suits) :=
  ct_plain (by decide +kernel) (fun p e s m args below meth c Q cx hnm => eo_Yard_suits hw cx) (fun p e s m args below meth c Q F h => sn_Yard_suits h)
theorem q_Yard_suits {a : Nat} {fs : List Value} {M : Hp} {nx : Nat} (x0 : Int32) (x1 : Int32) (x2 : Int32) (h : M a = some (cO 2 fs)) : x_Yard_suits [.ref a, .int x0, .int x1, .int x2] (M, nx) = zres (d_Yard_suits ([some (.ref a), some (.int x0), some (.int x1), some (.int x2)], [], (M, nx))) := q_ofV [some (.ref a), some (.int x0), some (.int x1), some (.int x2)] h rfl (Nat.le_of_ble_eq_true rfl) (Or.inr rfl)
theorem lc_Yard_suits_69 : lookI (eC E_Yard_suits) (.invokevirtual 69) = some (3, x_Grid_get) := rfl
theorem lc_Yard_suits_121 : lookI (eC E_Yard_suits) (.invokevirtual 121) = some (4, x_Yard_mismatch) := rfl
theorem lf_Yard_suits_14 : lookN (eF E_Yard_suits) 14 = some (2, 0) := rfl
theorem lb_Yard_suits : eB E_Yard_suits = true := rfl
-- CoilSlits$Yard.coilsSuiting
def E_Yard_coilsSuiting : Env := (true, [], [(.invokevirtual 111, 2, x_Yard_widthTaken), (.invokevirtual 114, 4, x_Yard_suits)], [], [], zST, false)
def d_Yard_coilsSuiting : Dn := (sq (blk E_Yard_coilsSuiting [.aload_n 0, .iload_n 1, .invokevirtual 111, .istore_n 2, .iconst 0, .istore_n 3, .iconst 0, .istore 4])
  (sq (lop (cno (cat E_Yard_coilsSuiting [.iload 4, .bipush 30] (.if_icmp .ge 23)))
  (sq (ite' (cno (cat E_Yard_coilsSuiting [.aload_n 0, .iload_n 1, .iload 4, .iload_n 2, .invokevirtual 114] (.ifCond .eq 6)))
  (blk E_Yard_coilsSuiting [.iinc 3 1])
  (blk E_Yard_coilsSuiting []))
  (blk E_Yard_coilsSuiting [.iinc 4 1]))
  (blk E_Yard_coilsSuiting []) zFU)
  (rti E_Yard_coilsSuiting [.iload_n 3])))
def x_Yard_coilsSuiting : Ex := zrv 2 (exb true 5 d_Yard_coilsSuiting)
abbrev r_Yard_coilsSuiting : Room := ({ frames := 3, cells := 0, slots := 0, locals := 70 } : Room)
theorem eo_Yard_coilsSuiting (hw : zWok w) (cx : CX w p s m args c b_Yard_coilsSuiting 5 "CoilSlits$Yard") : EnvOk w true p l e r_Yard_coilsSuiting s m args below meth c Q b_Yard_coilsSuiting 5 "CoilSlits$Yard" E_Yard_coilsSuiting :=
  ⟨rfl, by decide +kernel, by decide +kernel, by decide +kernel, hw, fun h => absurd h (by decide),
  List.forall_mem_cons.mpr ⟨call_V cx (ct_Yard_widthTaken w l hw) tw_212 tw_209 tw_2 tw_211 tp_2 (ci := 2) (Nat.le_of_ble_eq_true rfl) rfl (by decide +kernel) ⟨Nat.le_of_ble_eq_true rfl, Nat.le_of_ble_eq_true rfl⟩, List.forall_mem_cons.mpr ⟨call_V cx (ct_Yard_suits w l hw) tw_437 tw_434 tw_2 tw_436 tp_21 (ci := 2) (Nat.le_of_ble_eq_true rfl) rfl (by decide +kernel) ⟨Nat.le_of_ble_eq_true rfl, Nat.le_of_ble_eq_true rfl⟩, fun q hq => absurd hq List.not_mem_nil⟩⟩⟩
theorem sn_Yard_coilsSuiting (h : MC w true p l e R s m args below meth c Q b_Yard_coilsSuiting 5 "CoilSlits$Yard" E_Yard_coilsSuiting 0 0 F (some .int)) : Sn (zK w true p l e R s m args below meth c Q 5) F (fun _ => False) (fun _ => False) 0 0 0 d_Yard_coilsSuiting 0 0 0 := by
  unfold d_Yard_coilsSuiting
  exact (sn_sq (pm := 11) (m_blk h zz (by decide +kernel))
  (sn_sq (pm := 38) (sn_lop (pt := 18) (pu := 35) (p2 := 35) (px := 38) (kb2 := fun _ => False) (kc2 := fun _ => False) (sc_no (m_cat h zz (p1 := 15) (tgt := 38) (by decide +kernel) (by decide +kernel) (by decide)))
  (sn_sq (pm := 32) (sn_ite (pt := 29) (pf := 32) (sc_no (m_cat h zz (p1 := 26) (tgt := 32) (by decide +kernel) (by decide +kernel) (by decide)))
  (m_blk h zz (by decide +kernel))
  (m_blk h zz rfl))
  (m_blk h zz (by decide +kernel)))
  (m_blk h zz rfl) (m_goto h (off := (-24)) (by decide +kernel) (by decide)) zFU)
  (m_rti h zz (p1 := 39) (by decide +kernel) (by decide +kernel) (Nat.zero_le _) (Nat.zero_le _))))
theorem ct_Yard_coilsSuiting (w : Wd) (l : Launch) (hw : zWok w) : CT w l y_Yard_coilsSuiting b_Yard_coilsSuiting 5 (some .int) r_Yard_coilsSuiting (exb true 5 d_Yard_coilsSuiting) :=
  ct_plain (by decide +kernel) (fun p e s m args below meth c Q cx hnm => eo_Yard_coilsSuiting hw cx) (fun p e s m args below meth c Q F h => sn_Yard_coilsSuiting h)
theorem q_Yard_coilsSuiting {a : Nat} {fs : List Value} {M : Hp} {nx : Nat} (x0 : Int32) (h : M a = some (cO 2 fs)) : x_Yard_coilsSuiting [.ref a, .int x0] (M, nx) = zres (d_Yard_coilsSuiting ([some (.ref a), some (.int x0), none, none, none], [], (M, nx))) := q_ofV [some (.ref a), some (.int x0), none, none, none] h rfl (Nat.le_of_ble_eq_true rfl) (Or.inr rfl)
theorem lc_Yard_coilsSuiting_111 : lookI (eC E_Yard_coilsSuiting) (.invokevirtual 111) = some (2, x_Yard_widthTaken) := rfl
theorem lc_Yard_coilsSuiting_114 : lookI (eC E_Yard_coilsSuiting) (.invokevirtual 114) = some (4, x_Yard_suits) := rfl
theorem lb_Yard_coilsSuiting : eB E_Yard_coilsSuiting = true := rfl
-- CoilSlits$Yard.stripsFitting
def E_Yard_stripsFitting : Env := (true, [(14, 2, 0)], [(.invokevirtual 111, 2, x_Yard_widthTaken), (.invokevirtual 114, 4, x_Yard_suits), (.invokevirtual 69, 3, x_Grid_get), (.invokestatic 118, 2, x_Yard_stripsIn)], [], [], zST, false)
def d_Yard_stripsFitting : Dn := (sq (blk E_Yard_stripsFitting [.aload_n 0, .iload_n 1, .invokevirtual 111, .istore_n 2, .iconst 0, .istore_n 3, .iconst 0, .istore 4])
  (sq (lop (cno (cat E_Yard_stripsFitting [.iload 4, .bipush 30] (.if_icmp .ge 37)))
  (sq (ite' (cno (cat E_Yard_stripsFitting [.aload_n 0, .iload_n 1, .iload 4, .iload_n 2, .invokevirtual 114] (.ifCond .eq 20)))
  (blk E_Yard_stripsFitting [.iload_n 3, .aload_n 0, .getfield 14, .iload 4, .iconst 0, .invokevirtual 69, .iload_n 2, .invokestatic 118, .iadd, .istore_n 3])
  (blk E_Yard_stripsFitting []))
  (blk E_Yard_stripsFitting [.iinc 4 1]))
  (blk E_Yard_stripsFitting []) zFU)
  (rti E_Yard_stripsFitting [.iload_n 3])))
def x_Yard_stripsFitting : Ex := zrv 2 (exb true 5 d_Yard_stripsFitting)
abbrev r_Yard_stripsFitting : Room := ({ frames := 3, cells := 0, slots := 0, locals := 70 } : Room)
theorem eo_Yard_stripsFitting (hw : zWok w) (cx : CX w p s m args c b_Yard_stripsFitting 5 "CoilSlits$Yard") : EnvOk w true p l e r_Yard_stripsFitting s m args below meth c Q b_Yard_stripsFitting 5 "CoilSlits$Yard" E_Yard_stripsFitting :=
  ⟨rfl, by decide +kernel, by decide +kernel, by decide +kernel, hw, fun h => absurd h (by decide),
  List.forall_mem_cons.mpr ⟨call_V cx (ct_Yard_widthTaken w l hw) tw_212 tw_209 tw_2 tw_211 tp_2 (ci := 2) (Nat.le_of_ble_eq_true rfl) rfl (by decide +kernel) ⟨Nat.le_of_ble_eq_true rfl, Nat.le_of_ble_eq_true rfl⟩, List.forall_mem_cons.mpr ⟨call_V cx (ct_Yard_suits w l hw) tw_437 tw_434 tw_2 tw_436 tp_21 (ci := 2) (Nat.le_of_ble_eq_true rfl) rfl (by decide +kernel) ⟨Nat.le_of_ble_eq_true rfl, Nat.le_of_ble_eq_true rfl⟩, List.forall_mem_cons.mpr ⟨call_V cx (ct_Grid_get w l hw) tw_200 tw_197 tw_3 tw_198 tw_199 (ci := 1) (Nat.le_of_ble_eq_true rfl) rfl (by decide +kernel) ⟨Nat.le_of_ble_eq_true rfl, Nat.le_of_ble_eq_true rfl⟩, List.forall_mem_cons.mpr ⟨call_S cx (ct_Yard_stripsIn w l hw) tw_235 tw_233 tw_2 tw_234 (by decide +kernel) ⟨Nat.le_of_ble_eq_true rfl, Nat.le_of_ble_eq_true rfl⟩, fun q hq => absurd hq List.not_mem_nil⟩⟩⟩⟩⟩
theorem sn_Yard_stripsFitting (h : MC w true p l e R s m args below meth c Q b_Yard_stripsFitting 5 "CoilSlits$Yard" E_Yard_stripsFitting 0 0 F (some .int)) : Sn (zK w true p l e R s m args below meth c Q 5) F (fun _ => False) (fun _ => False) 0 0 0 d_Yard_stripsFitting 0 0 0 := by
  unfold d_Yard_stripsFitting
  exact (sn_sq (pm := 11) (m_blk h zz (by decide +kernel))
  (sn_sq (pm := 52) (sn_lop (pt := 18) (pu := 49) (p2 := 49) (px := 52) (kb2 := fun _ => False) (kc2 := fun _ => False) (sc_no (m_cat h zz (p1 := 15) (tgt := 52) (by decide +kernel) (by decide +kernel) (by decide)))
  (sn_sq (pm := 46) (sn_ite (pt := 29) (pf := 46) (sc_no (m_cat h zz (p1 := 26) (tgt := 46) (by decide +kernel) (by decide +kernel) (by decide)))
  (m_blk h zz (by decide +kernel))
  (m_blk h zz rfl))
  (m_blk h zz (by decide +kernel)))
  (m_blk h zz rfl) (m_goto h (off := (-38)) (by decide +kernel) (by decide)) zFU)
  (m_rti h zz (p1 := 53) (by decide +kernel) (by decide +kernel) (Nat.zero_le _) (Nat.zero_le _))))
theorem ct_Yard_stripsFitting (w : Wd) (l : Launch) (hw : zWok w) : CT w l y_Yard_stripsFitting b_Yard_stripsFitting 5 (some .int) r_Yard_stripsFitting (exb true 5 d_Yard_stripsFitting) :=
  ct_plain (by decide +kernel) (fun p e s m args below meth c Q cx hnm => eo_Yard_stripsFitting hw cx) (fun p e s m args below meth c Q F h => sn_Yard_stripsFitting h)
theorem q_Yard_stripsFitting {a : Nat} {fs : List Value} {M : Hp} {nx : Nat} (x0 : Int32) (h : M a = some (cO 2 fs)) : x_Yard_stripsFitting [.ref a, .int x0] (M, nx) = zres (d_Yard_stripsFitting ([some (.ref a), some (.int x0), none, none, none], [], (M, nx))) := q_ofV [some (.ref a), some (.int x0), none, none, none] h rfl (Nat.le_of_ble_eq_true rfl) (Or.inr rfl)
theorem lc_Yard_stripsFitting_111 : lookI (eC E_Yard_stripsFitting) (.invokevirtual 111) = some (2, x_Yard_widthTaken) := rfl
theorem lc_Yard_stripsFitting_114 : lookI (eC E_Yard_stripsFitting) (.invokevirtual 114) = some (4, x_Yard_suits) := rfl
theorem lc_Yard_stripsFitting_69 : lookI (eC E_Yard_stripsFitting) (.invokevirtual 69) = some (3, x_Grid_get) := rfl
theorem lc_Yard_stripsFitting_118 : lookI (eC E_Yard_stripsFitting) (.invokestatic 118) = some (2, x_Yard_stripsIn) := rfl
theorem lf_Yard_stripsFitting_14 : lookN (eF E_Yard_stripsFitting) 14 = some (2, 0) := rfl
theorem lb_Yard_stripsFitting : eB E_Yard_stripsFitting = true := rfl
-- CoilSlits$Yard.orderProperty
def E_Yard_orderProperty : Env := (true, [(29, 2, 2)], [(.invokevirtual 105, 2, x_Yard_coilsSuiting), (.invokevirtual 108, 2, x_Yard_stripsFitting), (.invokevirtual 69, 3, x_Grid_get)], [], [], zST, false)
def d_Yard_orderProperty : Dn := (swi E_Yard_orderProperty [.iload_n 2] [(6, (rti E_Yard_orderProperty [.aload_n 0, .iload_n 1, .invokevirtual 105])), (7, (rti E_Yard_orderProperty [.aload_n 0, .iload_n 1, .invokevirtual 108]))]
  (rti E_Yard_orderProperty [.aload_n 0, .getfield 29, .iload_n 1, .iload_n 2, .invokevirtual 69]))
def x_Yard_orderProperty : Ex := zrv 2 (exb true 3 d_Yard_orderProperty)
abbrev r_Yard_orderProperty : Room := ({ frames := 4, cells := 0, slots := 0, locals := 94 } : Room)
theorem eo_Yard_orderProperty (hw : zWok w) (cx : CX w p s m args c b_Yard_orderProperty 3 "CoilSlits$Yard") : EnvOk w true p l e r_Yard_orderProperty s m args below meth c Q b_Yard_orderProperty 3 "CoilSlits$Yard" E_Yard_orderProperty :=
  ⟨rfl, by decide +kernel, by decide +kernel, by decide +kernel, hw, fun h => absurd h (by decide),
  List.forall_mem_cons.mpr ⟨call_V cx (ct_Yard_coilsSuiting w l hw) tw_433 tw_430 tw_2 tw_432 tp_20 (ci := 2) (Nat.le_of_ble_eq_true rfl) rfl (by decide +kernel) ⟨Nat.le_of_ble_eq_true rfl, Nat.le_of_ble_eq_true rfl⟩, List.forall_mem_cons.mpr ⟨call_V cx (ct_Yard_stripsFitting w l hw) tw_441 tw_438 tw_2 tw_440 tp_22 (ci := 2) (Nat.le_of_ble_eq_true rfl) rfl (by decide +kernel) ⟨Nat.le_of_ble_eq_true rfl, Nat.le_of_ble_eq_true rfl⟩, List.forall_mem_cons.mpr ⟨call_V cx (ct_Grid_get w l hw) tw_200 tw_197 tw_3 tw_198 tw_199 (ci := 1) (Nat.le_of_ble_eq_true rfl) rfl (by decide +kernel) ⟨Nat.le_of_ble_eq_true rfl, Nat.le_of_ble_eq_true rfl⟩, fun q hq => absurd hq List.not_mem_nil⟩⟩⟩⟩
theorem sn_Yard_orderProperty (h : MC w true p l e R s m args below meth c Q b_Yard_orderProperty 3 "CoilSlits$Yard" E_Yard_orderProperty 0 0 F (some .int)) : Sn (zK w true p l e R s m args below meth c Q 3) F (fun _ => False) (fun _ => False) 0 0 0 d_Yard_orderProperty 0 0 0 := by
  unfold d_Yard_orderProperty
  exact (m_sw h zz (p1 := 1) (pd := 40) [(6, 28), (7, 34)] (by decide +kernel) (by decide +kernel)
  (swl_cons (m_rti h zz (p1 := 33) (by decide +kernel) (by decide +kernel) (Nat.zero_le _) (Nat.zero_le _))
  (swl_cons (m_rti h zz (p1 := 39) (by decide +kernel) (by decide +kernel) (Nat.zero_le _) (Nat.zero_le _))
  swl_nil))
  (m_rti h zz (p1 := 49) (by decide +kernel) (by decide +kernel) (Nat.zero_le _) (Nat.zero_le _)))
theorem ct_Yard_orderProperty (w : Wd) (l : Launch) (hw : zWok w) : CT w l y_Yard_orderProperty b_Yard_orderProperty 3 (some .int) r_Yard_orderProperty (exb true 3 d_Yard_orderProperty) :=
  ct_plain (by decide +kernel) (fun p e s m args below meth c Q cx hnm => eo_Yard_orderProperty hw cx) (fun p e s m args below meth c Q F h => sn_Yard_orderProperty h)
theorem q_Yard_orderProperty {a : Nat} {fs : List Value} {M : Hp} {nx : Nat} (x0 : Int32) (x1 : Int32) (h : M a = some (cO 2 fs)) : x_Yard_orderProperty [.ref a, .int x0, .int x1] (M, nx) = zres (d_Yard_orderProperty ([some (.ref a), some (.int x0), some (.int x1)], [], (M, nx))) := q_ofV [some (.ref a), some (.int x0), some (.int x1)] h rfl (Nat.le_of_ble_eq_true rfl) (Or.inr rfl)
theorem lc_Yard_orderProperty_105 : lookI (eC E_Yard_orderProperty) (.invokevirtual 105) = some (2, x_Yard_coilsSuiting) := rfl
theorem lc_Yard_orderProperty_108 : lookI (eC E_Yard_orderProperty) (.invokevirtual 108) = some (2, x_Yard_stripsFitting) := rfl
theorem lc_Yard_orderProperty_69 : lookI (eC E_Yard_orderProperty) (.invokevirtual 69) = some (3, x_Grid_get) := rfl
theorem lf_Yard_orderProperty_29 : lookN (eF E_Yard_orderProperty) 29 = some (2, 2) := rfl
theorem lb_Yard_orderProperty : eB E_Yard_orderProperty = true := rfl
-- CoilSlits$Yard.emptiest
def E_Yard_emptiest : Env := (true, [(25, 2, 1)], [(.invokevirtual 65, 2, x_Row_get)], [], [], zST, false)
def d_Yard_emptiest : Dn := (sq (blk E_Yard_emptiest [.iconst 0, .istore_n 1, .iconst 1, .istore_n 2])
  (sq (lop (cno (cat E_Yard_emptiest [.iload_n 2, .bipush 6] (.if_icmp .ge 30)))
  (sq (ite' (cno (cat E_Yard_emptiest [.aload_n 0, .getfield 25, .iload_n 2, .invokevirtual 65, .aload_n 0, .getfield 25, .iload_n 1, .invokevirtual 65] (.if_icmp .ge 5)))
  (blk E_Yard_emptiest [.iload_n 2, .istore_n 1])
  (blk E_Yard_emptiest []))
  (blk E_Yard_emptiest [.iinc 2 1]))
  (blk E_Yard_emptiest []) zFU)
  (rti E_Yard_emptiest [.iload_n 1])))
def x_Yard_emptiest : Ex := zrv 2 (exb true 3 d_Yard_emptiest)
abbrev r_Yard_emptiest : Room := ({ frames := 1, cells := 0, slots := 0, locals := 21 } : Room)
theorem eo_Yard_emptiest (hw : zWok w) (cx : CX w p s m args c b_Yard_emptiest 3 "CoilSlits$Yard") : EnvOk w true p l e r_Yard_emptiest s m args below meth c Q b_Yard_emptiest 3 "CoilSlits$Yard" E_Yard_emptiest :=
  ⟨rfl, by decide +kernel, by decide +kernel, by decide +kernel, hw, fun h => absurd h (by decide),
  List.forall_mem_cons.mpr ⟨call_V cx (ct_Row_get w l hw) tw_216 tw_213 tw_5 tw_214 tw_215 (ci := 0) (Nat.le_of_ble_eq_true rfl) rfl (by decide +kernel) ⟨Nat.le_of_ble_eq_true rfl, Nat.le_of_ble_eq_true rfl⟩, fun q hq => absurd hq List.not_mem_nil⟩⟩
theorem sn_Yard_emptiest (h : MC w true p l e R s m args below meth c Q b_Yard_emptiest 3 "CoilSlits$Yard" E_Yard_emptiest 0 0 F (some .int)) : Sn (zK w true p l e R s m args below meth c Q 3) F (fun _ => False) (fun _ => False) 0 0 0 d_Yard_emptiest 0 0 0 := by
  unfold d_Yard_emptiest
  exact (sn_sq (pm := 4) (m_blk h zz (by decide +kernel))
  (sn_sq (pm := 37) (sn_lop (pt := 10) (pu := 34) (p2 := 34) (px := 37) (kb2 := fun _ => False) (kc2 := fun _ => False) (sc_no (m_cat h zz (p1 := 7) (tgt := 37) (by decide +kernel) (by decide +kernel) (by decide)))
  (sn_sq (pm := 31) (sn_ite (pt := 29) (pf := 31) (sc_no (m_cat h zz (p1 := 26) (tgt := 31) (by decide +kernel) (by decide +kernel) (by decide)))
  (m_blk h zz (by decide +kernel))
  (m_blk h zz rfl))
  (m_blk h zz (by decide +kernel)))
  (m_blk h zz rfl) (m_goto h (off := (-30)) (by decide +kernel) (by decide)) zFU)
  (m_rti h zz (p1 := 38) (by decide +kernel) (by decide +kernel) (Nat.zero_le _) (Nat.zero_le _))))
theorem ct_Yard_emptiest (w : Wd) (l : Launch) (hw : zWok w) : CT w l y_Yard_emptiest b_Yard_emptiest 3 (some .int) r_Yard_emptiest (exb true 3 d_Yard_emptiest) :=
  ct_plain (by decide +kernel) (fun p e s m args below meth c Q cx hnm => eo_Yard_emptiest hw cx) (fun p e s m args below meth c Q F h => sn_Yard_emptiest h)
theorem q_Yard_emptiest {a : Nat} {fs : List Value} {M : Hp} {nx : Nat}  (h : M a = some (cO 2 fs)) : x_Yard_emptiest [.ref a] (M, nx) = zres (d_Yard_emptiest ([some (.ref a), none, none], [], (M, nx))) := q_ofV [some (.ref a), none, none] h rfl (Nat.le_of_ble_eq_true rfl) (Or.inr rfl)
theorem lc_Yard_emptiest_65 : lookI (eC E_Yard_emptiest) (.invokevirtual 65) = some (2, x_Row_get) := rfl
theorem lf_Yard_emptiest_25 : lookN (eF E_Yard_emptiest) 25 = some (2, 1) := rfl
theorem lb_Yard_emptiest : eB E_Yard_emptiest = true := rfl
-- CoilSlits$Yard.bringIn
def E_Yard_bringIn : Env := (true, [(35, 2, 4)], [(.invokevirtual 78, 3, x_Row_add), (.invokevirtual 81, 6, x_Yard_putOnTop)], [], [], zST, false)
def d_Yard_bringIn : Dn := (rti E_Yard_bringIn [.aload_n 0, .getfield 35, .bipush 11, .iload_n 2, .invokevirtual 78, .aload_n 0, .iload_n 1, .iload_n 2, .iload_n 3, .iload 4, .iconst 0, .invokevirtual 81])
def x_Yard_bringIn : Ex := zrv 2 (exb true 5 d_Yard_bringIn)
abbrev r_Yard_bringIn : Room := ({ frames := 2, cells := 0, slots := 0, locals := 52 } : Room)
theorem eo_Yard_bringIn (hw : zWok w) (cx : CX w p s m args c b_Yard_bringIn 5 "CoilSlits$Yard") : EnvOk w true p l e r_Yard_bringIn s m args below meth c Q b_Yard_bringIn 5 "CoilSlits$Yard" E_Yard_bringIn :=
  ⟨rfl, by decide +kernel, by decide +kernel, by decide +kernel, hw, fun h => absurd h (by decide),
  List.forall_mem_cons.mpr ⟨call_V cx (ct_Row_add w l hw) tw_262 tw_259 tw_5 tw_260 tw_261 (ci := 0) (Nat.le_of_ble_eq_true rfl) rfl (by decide +kernel) ⟨Nat.le_of_ble_eq_true rfl, Nat.le_of_ble_eq_true rfl⟩, List.forall_mem_cons.mpr ⟨call_V cx (ct_Yard_putOnTop w l hw) tw_275 tw_272 tw_2 tw_274 tp_7 (ci := 2) (Nat.le_of_ble_eq_true rfl) rfl (by decide +kernel) ⟨Nat.le_of_ble_eq_true rfl, Nat.le_of_ble_eq_true rfl⟩, fun q hq => absurd hq List.not_mem_nil⟩⟩⟩
theorem sn_Yard_bringIn (h : MC w true p l e R s m args below meth c Q b_Yard_bringIn 5 "CoilSlits$Yard" E_Yard_bringIn 0 0 F (some .int)) : Sn (zK w true p l e R s m args below meth c Q 5) F (fun _ => False) (fun _ => False) 0 0 0 d_Yard_bringIn 0 0 0 := by
  unfold d_Yard_bringIn
  exact (m_rti h zz (p1 := 20) (by decide +kernel) (by decide +kernel) (Nat.zero_le _) (Nat.zero_le _))
theorem ct_Yard_bringIn (w : Wd) (l : Launch) (hw : zWok w) : CT w l y_Yard_bringIn b_Yard_bringIn 5 (some .int) r_Yard_bringIn (exb true 5 d_Yard_bringIn) :=
  ct_plain (by decide +kernel) (fun p e s m args below meth c Q cx hnm => eo_Yard_bringIn hw cx) (fun p e s m args below meth c Q F h => sn_Yard_bringIn h)
theorem q_Yard_bringIn {a : Nat} {fs : List Value} {M : Hp} {nx : Nat} (x0 : Int32) (x1 : Int32) (x2 : Int32) (x3 : Int32) (h : M a = some (cO 2 fs)) : x_Yard_bringIn [.ref a, .int x0, .int x1, .int x2, .int x3] (M, nx) = zres (d_Yard_bringIn ([some (.ref a), some (.int x0), some (.int x1), some (.int x2), some (.int x3)], [], (M, nx))) := q_ofV [some (.ref a), some (.int x0), some (.int x1), some (.int x2), some (.int x3)] h rfl (Nat.le_of_ble_eq_true rfl) (Or.inr rfl)
theorem lc_Yard_bringIn_78 : lookI (eC E_Yard_bringIn) (.invokevirtual 78) = some (3, x_Row_add) := rfl
theorem lc_Yard_bringIn_81 : lookI (eC E_Yard_bringIn) (.invokevirtual 81) = some (6, x_Yard_putOnTop) := rfl
theorem lf_Yard_bringIn_35 : lookN (eF E_Yard_bringIn) 35 = some (2, 4) := rfl
theorem lb_Yard_bringIn : eB E_Yard_bringIn = true := rfl
-- CoilSlits$Yard.hasSeen
def E_Yard_hasSeen : Env := (true, [(59, 2, 6)], [], [], [], zST, false)
def d_Yard_hasSeen : Dn := (sq (ite' (can (cno (cat E_Yard_hasSeen [.iload_n 1] (.ifCond .lt 15))) (cno (cat E_Yard_hasSeen [.iload_n 1, .aload_n 0, .getfield 59] (.if_icmp .ge 7))))
  (blk E_Yard_hasSeen [.iconst 1])
  (blk E_Yard_hasSeen [.iconst 0]))
  (rtz E_Yard_hasSeen []))
def x_Yard_hasSeen : Ex := zrv 2 (exb true 2 d_Yard_hasSeen)
abbrev r_Yard_hasSeen : Room := ({ frames := 0, cells := 0, slots := 0, locals := 0 } : Room)
theorem eo_Yard_hasSeen (hw : zWok w) (cx : CX w p s m args c b_Yard_hasSeen 2 "CoilSlits$Yard") : EnvOk w true p l e r_Yard_hasSeen s m args below meth c Q b_Yard_hasSeen 2 "CoilSlits$Yard" E_Yard_hasSeen :=
  ⟨rfl, by decide +kernel, by decide +kernel, by decide +kernel, hw, fun h => absurd h (by decide),
  fun q hq => absurd hq List.not_mem_nil⟩
theorem sn_Yard_hasSeen (h : MC w true p l e R s m args below meth c Q b_Yard_hasSeen 2 "CoilSlits$Yard" E_Yard_hasSeen 0 0 F (some .boolean)) : Sn (zK w true p l e R s m args below meth c Q 2) F (fun _ => False) (fun _ => False) 0 0 0 d_Yard_hasSeen 0 0 0 := by
  unfold d_Yard_hasSeen
  exact (sn_sq (pm := 17) (sn_ite (pt := 12) (pf := 16) (sc_an (pm := 4) (sc_no (m_cat h zz (p1 := 1) (tgt := 16) (by decide +kernel) (by decide +kernel) (by decide))) (sc_no (m_cat h zz (p1 := 9) (tgt := 16) (by decide +kernel) (by decide +kernel) (by decide))))
  (sn_goto (pm := 13) (m_blk h zz (by decide +kernel)) (m_goto h (off := 4) (by decide +kernel) (by decide)))
  (m_blk h zz (by decide +kernel)))
  (m_rtz h zz (p1 := 17) (by decide +kernel) (by decide +kernel) (Nat.zero_le _) (Nat.zero_le _)))
theorem ct_Yard_hasSeen (w : Wd) (l : Launch) (hw : zWok w) : CT w l y_Yard_hasSeen b_Yard_hasSeen 2 (some .boolean) r_Yard_hasSeen (exb true 2 d_Yard_hasSeen) :=
  ct_plain (by decide +kernel) (fun p e s m args below meth c Q cx hnm => eo_Yard_hasSeen hw cx) (fun p e s m args below meth c Q F h => sn_Yard_hasSeen h)
theorem q_Yard_hasSeen {a : Nat} {fs : List Value} {M : Hp} {nx : Nat} (x0 : Int32) (h : M a = some (cO 2 fs)) : x_Yard_hasSeen [.ref a, .int x0] (M, nx) = zres (d_Yard_hasSeen ([some (.ref a), some (.int x0)], [], (M, nx))) := q_ofV [some (.ref a), some (.int x0)] h rfl (Nat.le_of_ble_eq_true rfl) (Or.inr rfl)
theorem lf_Yard_hasSeen_59 : lookN (eF E_Yard_hasSeen) 59 = some (2, 6) := rfl
theorem lb_Yard_hasSeen : eB E_Yard_hasSeen = true := rfl
-- CoilSlits$Yard.placeOf
def E_Yard_placeOf : Env := (true, [(14, 2, 0)], [(.invokevirtual 69, 3, x_Grid_get)], [], [], zST, false)
def d_Yard_placeOf : Dn := (sq (ite' (cno (cat E_Yard_placeOf [.iload_n 1] (.ifCond .ge 5)))
  (rti E_Yard_placeOf [.iconst (-1)])
  (blk E_Yard_placeOf []))
  (sq (blk E_Yard_placeOf [.iconst 0, .istore_n 2])
  (sq (lop (cno (cat E_Yard_placeOf [.iload_n 2, .bipush 30] (.if_icmp .ge 24)))
  (sq (ite' (cno (cat E_Yard_placeOf [.aload_n 0, .getfield 14, .iload_n 2, .iconst 4, .invokevirtual 69, .iload_n 1] (.if_icmp .ne 5)))
  (rti E_Yard_placeOf [.iload_n 2])
  (blk E_Yard_placeOf []))
  (blk E_Yard_placeOf [.iinc 2 1]))
  (blk E_Yard_placeOf []) zFU)
  (rti E_Yard_placeOf [.iconst (-1)]))))
def x_Yard_placeOf : Ex := zrv 2 (exb true 3 d_Yard_placeOf)
abbrev r_Yard_placeOf : Room := ({ frames := 1, cells := 0, slots := 0, locals := 24 } : Room)
theorem eo_Yard_placeOf (hw : zWok w) (cx : CX w p s m args c b_Yard_placeOf 3 "CoilSlits$Yard") : EnvOk w true p l e r_Yard_placeOf s m args below meth c Q b_Yard_placeOf 3 "CoilSlits$Yard" E_Yard_placeOf :=
  ⟨rfl, by decide +kernel, by decide +kernel, by decide +kernel, hw, fun h => absurd h (by decide),
  List.forall_mem_cons.mpr ⟨call_V cx (ct_Grid_get w l hw) tw_200 tw_197 tw_3 tw_198 tw_199 (ci := 1) (Nat.le_of_ble_eq_true rfl) rfl (by decide +kernel) ⟨Nat.le_of_ble_eq_true rfl, Nat.le_of_ble_eq_true rfl⟩, fun q hq => absurd hq List.not_mem_nil⟩⟩
theorem sn_Yard_placeOf (h : MC w true p l e R s m args below meth c Q b_Yard_placeOf 3 "CoilSlits$Yard" E_Yard_placeOf 0 0 F (some .int)) : Sn (zK w true p l e R s m args below meth c Q 3) F (fun _ => False) (fun _ => False) 0 0 0 d_Yard_placeOf 0 0 0 := by
  unfold d_Yard_placeOf
  exact (sn_sq (pm := 6) (sn_ite (pt := 4) (pf := 6) (sc_no (m_cat h zz (p1 := 1) (tgt := 6) (by decide +kernel) (by decide +kernel) (by decide)))
  (m_rti h zz (p1 := 5) (by decide +kernel) (by decide +kernel) (Nat.zero_le _) (Nat.zero_le _))
  (m_blk h zz rfl))
  (sn_sq (pm := 8) (m_blk h zz (by decide +kernel))
  (sn_sq (pm := 35) (sn_lop (pt := 14) (pu := 32) (p2 := 32) (px := 35) (kb2 := fun _ => False) (kc2 := fun _ => False) (sc_no (m_cat h zz (p1 := 11) (tgt := 35) (by decide +kernel) (by decide +kernel) (by decide)))
  (sn_sq (pm := 29) (sn_ite (pt := 27) (pf := 29) (sc_no (m_cat h zz (p1 := 24) (tgt := 29) (by decide +kernel) (by decide +kernel) (by decide)))
  (m_rti h zz (p1 := 28) (by decide +kernel) (by decide +kernel) (Nat.zero_le _) (Nat.zero_le _))
  (m_blk h zz rfl))
  (m_blk h zz (by decide +kernel)))
  (m_blk h zz rfl) (m_goto h (off := (-24)) (by decide +kernel) (by decide)) zFU)
  (m_rti h zz (p1 := 36) (by decide +kernel) (by decide +kernel) (Nat.zero_le _) (Nat.zero_le _)))))
theorem ct_Yard_placeOf (w : Wd) (l : Launch) (hw : zWok w) : CT w l y_Yard_placeOf b_Yard_placeOf 3 (some .int) r_Yard_placeOf (exb true 3 d_Yard_placeOf) :=
  ct_plain (by decide +kernel) (fun p e s m args below meth c Q cx hnm => eo_Yard_placeOf hw cx) (fun p e s m args below meth c Q F h => sn_Yard_placeOf h)
theorem q_Yard_placeOf {a : Nat} {fs : List Value} {M : Hp} {nx : Nat} (x0 : Int32) (h : M a = some (cO 2 fs)) : x_Yard_placeOf [.ref a, .int x0] (M, nx) = zres (d_Yard_placeOf ([some (.ref a), some (.int x0), none], [], (M, nx))) := q_ofV [some (.ref a), some (.int x0), none] h rfl (Nat.le_of_ble_eq_true rfl) (Or.inr rfl)
theorem lc_Yard_placeOf_69 : lookI (eC E_Yard_placeOf) (.invokevirtual 69) = some (3, x_Grid_get) := rfl
theorem lf_Yard_placeOf_14 : lookN (eF E_Yard_placeOf) 14 = some (2, 0) := rfl
theorem lb_Yard_placeOf : eB E_Yard_placeOf = true := rfl
-- CoilSlits$Yard.sendTop
def E_Yard_sendTop : Env := (true, [(14, 2, 0), (25, 2, 1), (35, 2, 4)], [(.invokevirtual 65, 2, x_Row_get), (.invokevirtual 69, 3, x_Grid_get), (.invokevirtual 78, 3, x_Row_add), (.invokevirtual 93, 2, x_Yard_takeTop)], [], [], zST, false)
def d_Yard_sendTop : Dn := (rti E_Yard_sendTop [.aload_n 0, .getfield 14, .iload_n 1, .iconst 5, .imul, .aload_n 0, .getfield 25, .iload_n 1, .invokevirtual 65, .iadd, .iconst 1, .isub, .iconst 0, .invokevirtual 69, .istore_n 2, .aload_n 0, .getfield 35, .bipush 12, .iload_n 2, .invokevirtual 78, .aload_n 0, .iload_n 1, .invokevirtual 93, .iload_n 2])
def x_Yard_sendTop : Ex := zrv 2 (exb true 3 d_Yard_sendTop)
abbrev r_Yard_sendTop : Room := ({ frames := 2, cells := 0, slots := 0, locals := 46 } : Room)
theorem eo_Yard_sendTop (hw : zWok w) (cx : CX w p s m args c b_Yard_sendTop 3 "CoilSlits$Yard") : EnvOk w true p l e r_Yard_sendTop s m args below meth c Q b_Yard_sendTop 3 "CoilSlits$Yard" E_Yard_sendTop :=
  ⟨rfl, by decide +kernel, by decide +kernel, by decide +kernel, hw, fun h => absurd h (by decide),
  List.forall_mem_cons.mpr ⟨call_V cx (ct_Row_get w l hw) tw_216 tw_213 tw_5 tw_214 tw_215 (ci := 0) (Nat.le_of_ble_eq_true rfl) rfl (by decide +kernel) ⟨Nat.le_of_ble_eq_true rfl, Nat.le_of_ble_eq_true rfl⟩, List.forall_mem_cons.mpr ⟨call_V cx (ct_Grid_get w l hw) tw_200 tw_197 tw_3 tw_198 tw_199 (ci := 1) (Nat.le_of_ble_eq_true rfl) rfl (by decide +kernel) ⟨Nat.le_of_ble_eq_true rfl, Nat.le_of_ble_eq_true rfl⟩, List.forall_mem_cons.mpr ⟨call_V cx (ct_Row_add w l hw) tw_262 tw_259 tw_5 tw_260 tw_261 (ci := 0) (Nat.le_of_ble_eq_true rfl) rfl (by decide +kernel) ⟨Nat.le_of_ble_eq_true rfl, Nat.le_of_ble_eq_true rfl⟩, List.forall_mem_cons.mpr ⟨call_V cx (ct_Yard_takeTop w l hw) tw_270 tw_267 tw_2 tw_269 tp_6 (ci := 2) (Nat.le_of_ble_eq_true rfl) rfl (by decide +kernel) ⟨Nat.le_of_ble_eq_true rfl, Nat.le_of_ble_eq_true rfl⟩, fun q hq => absurd hq List.not_mem_nil⟩⟩⟩⟩⟩
theorem sn_Yard_sendTop (h : MC w true p l e R s m args below meth c Q b_Yard_sendTop 3 "CoilSlits$Yard" E_Yard_sendTop 0 0 F (some .int)) : Sn (zK w true p l e R s m args below meth c Q 3) F (fun _ => False) (fun _ => False) 0 0 0 d_Yard_sendTop 0 0 0 := by
  unfold d_Yard_sendTop
  exact (m_rti h zz (p1 := 39) (by decide +kernel) (by decide +kernel) (Nat.zero_le _) (Nat.zero_le _))
theorem ct_Yard_sendTop (w : Wd) (l : Launch) (hw : zWok w) : CT w l y_Yard_sendTop b_Yard_sendTop 3 (some .int) r_Yard_sendTop (exb true 3 d_Yard_sendTop) :=
  ct_plain (by decide +kernel) (fun p e s m args below meth c Q cx hnm => eo_Yard_sendTop hw cx) (fun p e s m args below meth c Q F h => sn_Yard_sendTop h)
theorem q_Yard_sendTop {a : Nat} {fs : List Value} {M : Hp} {nx : Nat} (x0 : Int32) (h : M a = some (cO 2 fs)) : x_Yard_sendTop [.ref a, .int x0] (M, nx) = zres (d_Yard_sendTop ([some (.ref a), some (.int x0), none], [], (M, nx))) := q_ofV [some (.ref a), some (.int x0), none] h rfl (Nat.le_of_ble_eq_true rfl) (Or.inr rfl)
theorem lc_Yard_sendTop_65 : lookI (eC E_Yard_sendTop) (.invokevirtual 65) = some (2, x_Row_get) := rfl
theorem lc_Yard_sendTop_69 : lookI (eC E_Yard_sendTop) (.invokevirtual 69) = some (3, x_Grid_get) := rfl
theorem lc_Yard_sendTop_78 : lookI (eC E_Yard_sendTop) (.invokevirtual 78) = some (3, x_Row_add) := rfl
theorem lc_Yard_sendTop_93 : lookI (eC E_Yard_sendTop) (.invokevirtual 93) = some (2, x_Yard_takeTop) := rfl
theorem lf_Yard_sendTop_14 : lookN (eF E_Yard_sendTop) 14 = some (2, 0) := rfl
theorem lf_Yard_sendTop_25 : lookN (eF E_Yard_sendTop) 25 = some (2, 1) := rfl
theorem lf_Yard_sendTop_35 : lookN (eF E_Yard_sendTop) 35 = some (2, 4) := rfl
theorem lb_Yard_sendTop : eB E_Yard_sendTop = true := rfl
-- CoilSlits$Yard.orderColumn
def E_Yard_orderColumn : Env := (true, [(29, 2, 2)], [(.invokevirtual 69, 3, x_Grid_get)], [], [], zST, false)
def d_Yard_orderColumn : Dn := (rti E_Yard_orderColumn [.aload_n 0, .getfield 29, .iload_n 1, .iload_n 2, .invokevirtual 69])
def x_Yard_orderColumn : Ex := zrv 2 (exb true 3 d_Yard_orderColumn)
abbrev r_Yard_orderColumn : Room := ({ frames := 1, cells := 0, slots := 0, locals := 24 } : Room)
theorem eo_Yard_orderColumn (hw : zWok w) (cx : CX w p s m args c b_Yard_orderColumn 3 "CoilSlits$Yard") : EnvOk w true p l e r_Yard_orderColumn s m args below meth c Q b_Yard_orderColumn 3 "CoilSlits$Yard" E_Yard_orderColumn :=
  ⟨rfl, by decide +kernel, by decide +kernel, by decide +kernel, hw, fun h => absurd h (by decide),
  List.forall_mem_cons.mpr ⟨call_V cx (ct_Grid_get w l hw) tw_200 tw_197 tw_3 tw_198 tw_199 (ci := 1) (Nat.le_of_ble_eq_true rfl) rfl (by decide +kernel) ⟨Nat.le_of_ble_eq_true rfl, Nat.le_of_ble_eq_true rfl⟩, fun q hq => absurd hq List.not_mem_nil⟩⟩
theorem sn_Yard_orderColumn (h : MC w true p l e R s m args below meth c Q b_Yard_orderColumn 3 "CoilSlits$Yard" E_Yard_orderColumn 0 0 F (some .int)) : Sn (zK w true p l e R s m args below meth c Q 3) F (fun _ => False) (fun _ => False) 0 0 0 d_Yard_orderColumn 0 0 0 := by
  unfold d_Yard_orderColumn
  exact (m_rti h zz (p1 := 9) (by decide +kernel) (by decide +kernel) (Nat.zero_le _) (Nat.zero_le _))
theorem ct_Yard_orderColumn (w : Wd) (l : Launch) (hw : zWok w) : CT w l y_Yard_orderColumn b_Yard_orderColumn 3 (some .int) r_Yard_orderColumn (exb true 3 d_Yard_orderColumn) :=
  ct_plain (by decide +kernel) (fun p e s m args below meth c Q cx hnm => eo_Yard_orderColumn hw cx) (fun p e s m args below meth c Q F h => sn_Yard_orderColumn h)
theorem q_Yard_orderColumn {a : Nat} {fs : List Value} {M : Hp} {nx : Nat} (x0 : Int32) (x1 : Int32) (h : M a = some (cO 2 fs)) : x_Yard_orderColumn [.ref a, .int x0, .int x1] (M, nx) = zres (d_Yard_orderColumn ([some (.ref a), some (.int x0), some (.int x1)], [], (M, nx))) := q_ofV [some (.ref a), some (.int x0), some (.int x1)] h rfl (Nat.le_of_ble_eq_true rfl) (Or.inr rfl)
theorem lc_Yard_orderColumn_69 : lookI (eC E_Yard_orderColumn) (.invokevirtual 69) = some (3, x_Grid_get) := rfl
theorem lf_Yard_orderColumn_29 : lookN (eF E_Yard_orderColumn) 29 = some (2, 2) := rfl
theorem lb_Yard_orderColumn : eB E_Yard_orderColumn = true := rfl
-- CoilSlits$Yard.indexOfOrder
def E_Yard_indexOfOrder : Env := (true, [(55, 2, 5), (29, 2, 2)], [(.invokevirtual 69, 3, x_Grid_get)], [], [], zST, false)
def d_Yard_indexOfOrder : Dn := (sq (blk E_Yard_indexOfOrder [.iconst 0, .istore_n 2])
  (sq (lop (cno (cat E_Yard_indexOfOrder [.iload_n 2, .aload_n 0, .getfield 55] (.if_icmp .ge 24)))
  (sq (ite' (cno (cat E_Yard_indexOfOrder [.aload_n 0, .getfield 29, .iload_n 2, .iconst 0, .invokevirtual 69, .iload_n 1] (.if_icmp .ne 5)))
  (rti E_Yard_indexOfOrder [.iload_n 2])
  (blk E_Yard_indexOfOrder []))
  (blk E_Yard_indexOfOrder [.iinc 2 1]))
  (blk E_Yard_indexOfOrder []) zFU)
  (rti E_Yard_indexOfOrder [.iconst (-1)])))
def x_Yard_indexOfOrder : Ex := zrv 2 (exb true 3 d_Yard_indexOfOrder)
abbrev r_Yard_indexOfOrder : Room := ({ frames := 1, cells := 0, slots := 0, locals := 24 } : Room)
theorem eo_Yard_indexOfOrder (hw : zWok w) (cx : CX w p s m args c b_Yard_indexOfOrder 3 "CoilSlits$Yard") : EnvOk w true p l e r_Yard_indexOfOrder s m args below meth c Q b_Yard_indexOfOrder 3 "CoilSlits$Yard" E_Yard_indexOfOrder :=
  ⟨rfl, by decide +kernel, by decide +kernel, by decide +kernel, hw, fun h => absurd h (by decide),
  List.forall_mem_cons.mpr ⟨call_V cx (ct_Grid_get w l hw) tw_200 tw_197 tw_3 tw_198 tw_199 (ci := 1) (Nat.le_of_ble_eq_true rfl) rfl (by decide +kernel) ⟨Nat.le_of_ble_eq_true rfl, Nat.le_of_ble_eq_true rfl⟩, fun q hq => absurd hq List.not_mem_nil⟩⟩
theorem sn_Yard_indexOfOrder (h : MC w true p l e R s m args below meth c Q b_Yard_indexOfOrder 3 "CoilSlits$Yard" E_Yard_indexOfOrder 0 0 F (some .int)) : Sn (zK w true p l e R s m args below meth c Q 3) F (fun _ => False) (fun _ => False) 0 0 0 d_Yard_indexOfOrder 0 0 0 := by
  unfold d_Yard_indexOfOrder
  exact (sn_sq (pm := 2) (m_blk h zz (by decide +kernel))
  (sn_sq (pm := 31) (sn_lop (pt := 10) (pu := 28) (p2 := 28) (px := 31) (kb2 := fun _ => False) (kc2 := fun _ => False) (sc_no (m_cat h zz (p1 := 7) (tgt := 31) (by decide +kernel) (by decide +kernel) (by decide)))
  (sn_sq (pm := 25) (sn_ite (pt := 23) (pf := 25) (sc_no (m_cat h zz (p1 := 20) (tgt := 25) (by decide +kernel) (by decide +kernel) (by decide)))
  (m_rti h zz (p1 := 24) (by decide +kernel) (by decide +kernel) (Nat.zero_le _) (Nat.zero_le _))
  (m_blk h zz rfl))
  (m_blk h zz (by decide +kernel)))
  (m_blk h zz rfl) (m_goto h (off := (-26)) (by decide +kernel) (by decide)) zFU)
  (m_rti h zz (p1 := 32) (by decide +kernel) (by decide +kernel) (Nat.zero_le _) (Nat.zero_le _))))
theorem ct_Yard_indexOfOrder (w : Wd) (l : Launch) (hw : zWok w) : CT w l y_Yard_indexOfOrder b_Yard_indexOfOrder 3 (some .int) r_Yard_indexOfOrder (exb true 3 d_Yard_indexOfOrder) :=
  ct_plain (by decide +kernel) (fun p e s m args below meth c Q cx hnm => eo_Yard_indexOfOrder hw cx) (fun p e s m args below meth c Q F h => sn_Yard_indexOfOrder h)
theorem q_Yard_indexOfOrder {a : Nat} {fs : List Value} {M : Hp} {nx : Nat} (x0 : Int32) (h : M a = some (cO 2 fs)) : x_Yard_indexOfOrder [.ref a, .int x0] (M, nx) = zres (d_Yard_indexOfOrder ([some (.ref a), some (.int x0), none], [], (M, nx))) := q_ofV [some (.ref a), some (.int x0), none] h rfl (Nat.le_of_ble_eq_true rfl) (Or.inr rfl)
theorem lc_Yard_indexOfOrder_69 : lookI (eC E_Yard_indexOfOrder) (.invokevirtual 69) = some (3, x_Grid_get) := rfl
theorem lf_Yard_indexOfOrder_55 : lookN (eF E_Yard_indexOfOrder) 55 = some (2, 5) := rfl
theorem lf_Yard_indexOfOrder_29 : lookN (eF E_Yard_indexOfOrder) 29 = some (2, 2) := rfl
theorem lb_Yard_indexOfOrder : eB E_Yard_indexOfOrder = true := rfl
-- CoilSlits$Yard.takeOrder
def E_Yard_takeOrder : Env := (true, [(62, 2, 7), (29, 2, 2), (55, 2, 5)], [(.invokevirtual 38, 4, x_Grid_put)], [], [], zST, false)
def d_Yard_takeOrder : Dn := (rti E_Yard_takeOrder [.aload_n 0, .getfield 62, .istore 6, .aload_n 0, .getfield 29, .aload_n 0, .getfield 55, .iconst 0, .iload 6, .invokevirtual 38, .aload_n 0, .getfield 29, .aload_n 0, .getfield 55, .iconst 1, .iload_n 1, .invokevirtual 38, .aload_n 0, .getfield 29, .aload_n 0, .getfield 55, .iconst 2, .iload_n 2, .invokevirtual 38, .aload_n 0, .getfield 29, .aload_n 0, .getfield 55, .iconst 3, .iload_n 3, .invokevirtual 38, .aload_n 0, .getfield 29, .aload_n 0, .getfield 55, .iconst 4, .iload 4, .invokevirtual 38, .aload_n 0, .getfield 29, .aload_n 0, .getfield 55, .iconst 5, .iload 5, .invokevirtual 38, .aload_n 0, .dup, .getfield 55, .iconst 1, .iadd, .putfield 55, .aload_n 0, .dup, .getfield 62, .iconst 1, .iadd, .putfield 62, .iload 6])
def x_Yard_takeOrder : Ex := zrv 2 (exb true 7 d_Yard_takeOrder)
abbrev r_Yard_takeOrder : Room := ({ frames := 1, cells := 0, slots := 0, locals := 25 } : Room)
theorem eo_Yard_takeOrder (hw : zWok w) (cx : CX w p s m args c b_Yard_takeOrder 7 "CoilSlits$Yard") : EnvOk w true p l e r_Yard_takeOrder s m args below meth c Q b_Yard_takeOrder 7 "CoilSlits$Yard" E_Yard_takeOrder :=
  ⟨rfl, by decide +kernel, by decide +kernel, by decide +kernel, hw, fun h => absurd h (by decide),
  List.forall_mem_cons.mpr ⟨call_V cx (ct_Grid_put w l hw) tw_62 tw_59 tw_3 tw_60 tw_61 (ci := 1) (Nat.le_of_ble_eq_true rfl) rfl (by decide +kernel) ⟨Nat.le_of_ble_eq_true rfl, Nat.le_of_ble_eq_true rfl⟩, fun q hq => absurd hq List.not_mem_nil⟩⟩
theorem sn_Yard_takeOrder (h : MC w true p l e R s m args below meth c Q b_Yard_takeOrder 7 "CoilSlits$Yard" E_Yard_takeOrder 0 0 F (some .int)) : Sn (zK w true p l e R s m args below meth c Q 7) F (fun _ => False) (fun _ => False) 0 0 0 d_Yard_takeOrder 0 0 0 := by
  unfold d_Yard_takeOrder
  exact (m_rti h zz (p1 := 109) (by decide +kernel) (by decide +kernel) (Nat.zero_le _) (Nat.zero_le _))
theorem ct_Yard_takeOrder (w : Wd) (l : Launch) (hw : zWok w) : CT w l y_Yard_takeOrder b_Yard_takeOrder 7 (some .int) r_Yard_takeOrder (exb true 7 d_Yard_takeOrder) :=
  ct_plain (by decide +kernel) (fun p e s m args below meth c Q cx hnm => eo_Yard_takeOrder hw cx) (fun p e s m args below meth c Q F h => sn_Yard_takeOrder h)
theorem q_Yard_takeOrder {a : Nat} {fs : List Value} {M : Hp} {nx : Nat} (x0 : Int32) (x1 : Int32) (x2 : Int32) (x3 : Int32) (x4 : Int32) (h : M a = some (cO 2 fs)) : x_Yard_takeOrder [.ref a, .int x0, .int x1, .int x2, .int x3, .int x4] (M, nx) = zres (d_Yard_takeOrder ([some (.ref a), some (.int x0), some (.int x1), some (.int x2), some (.int x3), some (.int x4), none], [], (M, nx))) := q_ofV [some (.ref a), some (.int x0), some (.int x1), some (.int x2), some (.int x3), some (.int x4), none] h rfl (Nat.le_of_ble_eq_true rfl) (Or.inr rfl)
theorem lc_Yard_takeOrder_38 : lookI (eC E_Yard_takeOrder) (.invokevirtual 38) = some (4, x_Grid_put) := rfl
theorem lf_Yard_takeOrder_62 : lookN (eF E_Yard_takeOrder) 62 = some (2, 7) := rfl
theorem lf_Yard_takeOrder_29 : lookN (eF E_Yard_takeOrder) 29 = some (2, 2) := rfl
theorem lf_Yard_takeOrder_55 : lookN (eF E_Yard_takeOrder) 55 = some (2, 5) := rfl
theorem lb_Yard_takeOrder : eB E_Yard_takeOrder = true := rfl
-- CoilSlits$Yard.reasonAgainst
def E_Yard_reasonAgainst : Env := (true, [], [(.invokevirtual 111, 2, x_Yard_widthTaken), (.invokevirtual 121, 4, x_Yard_mismatch), (.invokevirtual 125, 2, x_Yard_canDig)], [], [], zST, false)
def d_Yard_reasonAgainst : Dn := (sq (blk E_Yard_reasonAgainst [.aload_n 0, .iload_n 1, .iload_n 2, .aload_n 0, .iload_n 1, .invokevirtual 111, .invokevirtual 121, .istore_n 3])
  (sq (ite' (cno (cat E_Yard_reasonAgainst [.iload_n 3] (.ifCond .eq 5)))
  (rti E_Yard_reasonAgainst [.iload_n 3])
  (blk E_Yard_reasonAgainst []))
  (sq (ite' (cno (cat E_Yard_reasonAgainst [.aload_n 0, .iload_n 2, .invokevirtual 125] (.ifCond .eq 7)))
  (blk E_Yard_reasonAgainst [.iconst 0])
  (blk E_Yard_reasonAgainst [.iconst 4]))
  (rti E_Yard_reasonAgainst []))))
def x_Yard_reasonAgainst : Ex := zrv 2 (exb true 4 d_Yard_reasonAgainst)
abbrev r_Yard_reasonAgainst : Room := ({ frames := 3, cells := 0, slots := 0, locals := 66 } : Room)
theorem eo_Yard_reasonAgainst (hw : zWok w) (cx : CX w p s m args c b_Yard_reasonAgainst 4 "CoilSlits$Yard") : EnvOk w true p l e r_Yard_reasonAgainst s m args below meth c Q b_Yard_reasonAgainst 4 "CoilSlits$Yard" E_Yard_reasonAgainst :=
  ⟨rfl, by decide +kernel, by decide +kernel, by decide +kernel, hw, fun h => absurd h (by decide),
  List.forall_mem_cons.mpr ⟨call_V cx (ct_Yard_widthTaken w l hw) tw_212 tw_209 tw_2 tw_211 tp_2 (ci := 2) (Nat.le_of_ble_eq_true rfl) rfl (by decide +kernel) ⟨Nat.le_of_ble_eq_true rfl, Nat.le_of_ble_eq_true rfl⟩, List.forall_mem_cons.mpr ⟨call_V cx (ct_Yard_mismatch w l hw) tw_220 tw_217 tw_2 tw_219 tp_3 (ci := 2) (Nat.le_of_ble_eq_true rfl) rfl (by decide +kernel) ⟨Nat.le_of_ble_eq_true rfl, Nat.le_of_ble_eq_true rfl⟩, List.forall_mem_cons.mpr ⟨call_V cx (ct_Yard_canDig w l hw) tw_224 tw_221 tw_2 tw_222 tw_223 (ci := 2) (Nat.le_of_ble_eq_true rfl) rfl (by decide +kernel) ⟨Nat.le_of_ble_eq_true rfl, Nat.le_of_ble_eq_true rfl⟩, fun q hq => absurd hq List.not_mem_nil⟩⟩⟩⟩
theorem sn_Yard_reasonAgainst (h : MC w true p l e R s m args below meth c Q b_Yard_reasonAgainst 4 "CoilSlits$Yard" E_Yard_reasonAgainst 0 0 F (some .int)) : Sn (zK w true p l e R s m args below meth c Q 4) F (fun _ => False) (fun _ => False) 0 0 0 d_Yard_reasonAgainst 0 0 0 := by
  unfold d_Yard_reasonAgainst
  exact (sn_sq (pm := 12) (m_blk h zz (by decide +kernel))
  (sn_sq (pm := 18) (sn_ite (pt := 16) (pf := 18) (sc_no (m_cat h zz (p1 := 13) (tgt := 18) (by decide +kernel) (by decide +kernel) (by decide)))
  (m_rti h zz (p1 := 17) (by decide +kernel) (by decide +kernel) (Nat.zero_le _) (Nat.zero_le _))
  (m_blk h zz rfl))
  (sn_sq (pm := 31) (sn_ite (pt := 26) (pf := 30) (sc_no (m_cat h zz (p1 := 23) (tgt := 30) (by decide +kernel) (by decide +kernel) (by decide)))
  (sn_goto (pm := 27) (m_blk h zz (by decide +kernel)) (m_goto h (off := 4) (by decide +kernel) (by decide)))
  (m_blk h zz (by decide +kernel)))
  (m_rti h zz (p1 := 31) (by decide +kernel) (by decide +kernel) (Nat.zero_le _) (Nat.zero_le _)))))
theorem ct_Yard_reasonAgainst (w : Wd) (l : Launch) (hw : zWok w) : CT w l y_Yard_reasonAgainst b_Yard_reasonAgainst 4 (some .int) r_Yard_reasonAgainst (exb true 4 d_Yard_reasonAgainst) :=
  ct_plain (by decide +kernel) (fun p e s m args below meth c Q cx hnm => eo_Yard_reasonAgainst hw cx) (fun p e s m args below meth c Q F h => sn_Yard_reasonAgainst h)
theorem q_Yard_reasonAgainst {a : Nat} {fs : List Value} {M : Hp} {nx : Nat} (x0 : Int32) (x1 : Int32) (h : M a = some (cO 2 fs)) : x_Yard_reasonAgainst [.ref a, .int x0, .int x1] (M, nx) = zres (d_Yard_reasonAgainst ([some (.ref a), some (.int x0), some (.int x1), none], [], (M, nx))) := q_ofV [some (.ref a), some (.int x0), some (.int x1), none] h rfl (Nat.le_of_ble_eq_true rfl) (Or.inr rfl)
theorem lc_Yard_reasonAgainst_111 : lookI (eC E_Yard_reasonAgainst) (.invokevirtual 111) = some (2, x_Yard_widthTaken) := rfl
theorem lc_Yard_reasonAgainst_121 : lookI (eC E_Yard_reasonAgainst) (.invokevirtual 121) = some (4, x_Yard_mismatch) := rfl
theorem lc_Yard_reasonAgainst_125 : lookI (eC E_Yard_reasonAgainst) (.invokevirtual 125) = some (2, x_Yard_canDig) := rfl
theorem lb_Yard_reasonAgainst : eB E_Yard_reasonAgainst = true := rfl
end
end
section
section
variable {w : Wd} {p : Program} {l : Launch} {e : Jvm.Env} {s : State} {m : MethodId} {args : Array Value} {below : List Frame} {meth : Method} {c : Code} {Q : State → Prop} {F : Out → G → Prop} {R : Room}
-- CoilSlits$History.stateAt
def E_Hist_stateAt : Env := (true, [(11, 3, 0)], [], [], [], zST, false)
def d_Hist_stateAt : Dn := (sq (ite' (can (cno (cat E_Hist_stateAt [.iload_n 1] (.ifCond .lt 21))) (cno (cat E_Hist_stateAt [.iload_n 1, .aload_n 0, .getfield 11, .arraylength] (.if_icmp .ge 12))))
  (blk E_Hist_stateAt [.aload_n 0, .getfield 11, .iload_n 1, .aaload])
  (blk E_Hist_stateAt [.aconst_null]))
  (rta E_Hist_stateAt []))
def x_Hist_stateAt : Ex := zrv 3 (exb true 2 d_Hist_stateAt)
abbrev r_Hist_stateAt : Room := ({ frames := 0, cells := 0, slots := 0, locals := 0 } : Room)
theorem eo_Hist_stateAt (hw : zWok w) (cx : CX w p s m args c b_Hist_stateAt 2 "CoilSlits$History") : EnvOk w true p l e r_Hist_stateAt s m args below meth c Q b_Hist_stateAt 2 "CoilSlits$History" E_Hist_stateAt :=
  ⟨rfl, by decide +kernel, by decide +kernel, by decide +kernel, hw, fun h => absurd h (by decide),
  fun q hq => absurd hq List.not_mem_nil⟩
theorem sn_Hist_stateAt (h : MC w true p l e R s m args below meth c Q b_Hist_stateAt 2 "CoilSlits$History" E_Hist_stateAt 0 0 F (some (.object "CoilSlits$Yard"))) : Sn (zK w true p l e R s m args below meth c Q 2) F (fun _ => False) (fun _ => False) 0 0 0 d_Hist_stateAt 0 0 0 := by
  unfold d_Hist_stateAt
  exact (sn_sq (pm := 23) (sn_ite (pt := 13) (pf := 22) (sc_an (pm := 4) (sc_no (m_cat h zz (p1 := 1) (tgt := 22) (by decide +kernel) (by decide +kernel) (by decide))) (sc_no (m_cat h zz (p1 := 10) (tgt := 22) (by decide +kernel) (by decide +kernel) (by decide))))
  (sn_goto (pm := 19) (m_blk h zz (by decide +kernel)) (m_goto h (off := 4) (by decide +kernel) (by decide)))
  (m_blk h zz (by decide +kernel)))
  (m_rta h zz (p1 := 23) (by decide +kernel) (by decide +kernel) (Nat.zero_le _) (Nat.zero_le _)))
theorem ct_Hist_stateAt (w : Wd) (l : Launch) (hw : zWok w) : CT w l y_Hist_stateAt b_Hist_stateAt 2 (some (.object "CoilSlits$Yard")) r_Hist_stateAt (exb true 2 d_Hist_stateAt) :=
  ct_plain (by decide +kernel) (fun p e s m args below meth c Q cx hnm => eo_Hist_stateAt hw cx) (fun p e s m args below meth c Q F h => sn_Hist_stateAt h)
theorem q_Hist_stateAt {a : Nat} {fs : List Value} {M : Hp} {nx : Nat} (x0 : Int32) (h : M a = some (cO 3 fs)) : x_Hist_stateAt [.ref a, .int x0] (M, nx) = zres (d_Hist_stateAt ([some (.ref a), some (.int x0)], [], (M, nx))) := q_ofV [some (.ref a), some (.int x0)] h rfl (Nat.le_of_ble_eq_true rfl) (Or.inr rfl)
theorem lf_Hist_stateAt_11 : lookN (eF E_Hist_stateAt) 11 = some (3, 0) := rfl
theorem lb_Hist_stateAt : eB E_Hist_stateAt = true := rfl
theorem lt_Hist_stateAt : eT E_Hist_stateAt = zST := rfl
-- CoilSlits$History.save
def E_Hist_save : Env := (true, [(22, 3, 1), (18, 3, 2)], [(.invokevirtual 25, 2, x_Hist_stateAt), (.invokevirtual 29, 2, x_Yard_copyFrom), (.invokestatic 33, 2, xMin)], [], [], zST, false)
def d_Hist_save : Dn := (sq (blk E_Hist_save [.aload_n 0, .aload_n 0, .getfield 22, .invokevirtual 25, .astore_n 2])
  (sq (ite' (cno (cat E_Hist_save [.aload_n 2] (.ifnull 8)))
  (blk E_Hist_save [.aload_n 2, .aload_n 1, .invokevirtual 29])
  (blk E_Hist_save []))
  (rtv E_Hist_save [.aload_n 0, .aload_n 0, .getfield 22, .iconst 1, .iadd, .bipush 6, .irem, .putfield 22, .aload_n 0, .aload_n 0, .getfield 18, .iconst 1, .iadd, .bipush 6, .invokestatic 33, .putfield 18])))
def x_Hist_save : Ex := zrv 3 (exb true 3 d_Hist_save)
abbrev r_Hist_save : Room := ({ frames := 3, cells := 0, slots := 0, locals := 103 } : Room)
theorem eo_Hist_save (hw : zWok w) (cx : CX w p s m args c b_Hist_save 3 "CoilSlits$History") : EnvOk w true p l e r_Hist_save s m args below meth c Q b_Hist_save 3 "CoilSlits$History" E_Hist_save :=
  ⟨rfl, by decide +kernel, by decide +kernel, by decide +kernel, hw, fun h => absurd h (by decide),
  List.forall_mem_cons.mpr ⟨call_V cx (ct_Hist_stateAt w l hw) tw_167 tw_164 tw_6 tw_166 tp_0 (ci := 3) (Nat.le_of_ble_eq_true rfl) rfl (by decide +kernel) ⟨Nat.le_of_ble_eq_true rfl, Nat.le_of_ble_eq_true rfl⟩, List.forall_mem_cons.mpr ⟨call_V cx (ct_Yard_copyFrom w l hw) tw_171 tw_168 tw_2 tw_169 tw_170 (ci := 2) (Nat.le_of_ble_eq_true rfl) rfl (by decide +kernel) ⟨Nat.le_of_ble_eq_true rfl, Nat.le_of_ble_eq_true rfl⟩, List.forall_mem_cons.mpr ⟨call_min cx tw_188 tw_177 tw_4 tw_xMin ⟨Nat.le_of_ble_eq_true rfl, Nat.le_of_ble_eq_true rfl⟩, fun q hq => absurd hq List.not_mem_nil⟩⟩⟩⟩
theorem sn_Hist_save (h : MC w true p l e R s m args below meth c Q b_Hist_save 3 "CoilSlits$History" E_Hist_save 0 0 F none) : Sn (zK w true p l e R s m args below meth c Q 3) F (fun _ => False) (fun _ => False) 0 0 0 d_Hist_save 0 0 0 := by
  unfold d_Hist_save
  exact (sn_sq (pm := 9) (m_blk h zz (by decide +kernel))
  (sn_sq (pm := 18) (sn_ite (pt := 13) (pf := 18) (sc_no (m_cat h zz (p1 := 10) (tgt := 18) (by decide +kernel) (by decide +kernel) (by decide)))
  (m_blk h zz (by decide +kernel))
  (m_blk h zz rfl))
  (m_rtv h zz (p1 := 46) (by decide +kernel) (by decide +kernel) (Nat.zero_le _) (Nat.zero_le _))))
theorem ct_Hist_save (w : Wd) (l : Launch) (hw : zWok w) : CT w l y_Hist_save b_Hist_save 3 none r_Hist_save (exb true 3 d_Hist_save) :=
  ct_plain (by decide +kernel) (fun p e s m args below meth c Q cx hnm => eo_Hist_save hw cx) (fun p e s m args below meth c Q F h => sn_Hist_save h)
theorem q_Hist_save {a : Nat} {fs : List Value} {M : Hp} {nx : Nat} (x0 : Nat) (h : M a = some (cO 3 fs)) : x_Hist_save [.ref a, .ref x0] (M, nx) = zres (d_Hist_save ([some (.ref a), some (.ref x0), none], [], (M, nx))) := q_ofV [some (.ref a), some (.ref x0), none] h rfl (Nat.le_of_ble_eq_true rfl) (Or.inr rfl)
theorem lc_Hist_save_25 : lookI (eC E_Hist_save) (.invokevirtual 25) = some (2, x_Hist_stateAt) := rfl
theorem lc_Hist_save_29 : lookI (eC E_Hist_save) (.invokevirtual 29) = some (2, x_Yard_copyFrom) := rfl
theorem lc_Hist_save_33 : lookI (eC E_Hist_save) (.invokestatic 33) = some (2, xMin) := rfl
theorem lf_Hist_save_22 : lookN (eF E_Hist_save) 22 = some (3, 1) := rfl
theorem lf_Hist_save_18 : lookN (eF E_Hist_save) 18 = some (3, 2) := rfl
theorem lb_Hist_save : eB E_Hist_save = true := rfl
-- CoilSlits.serveAll
def E_Slit_serveAll : Env := (true, [(22, 5, 2), (12, 5, 0)], [(.invokevirtual 70, 2, x_Hist_save), (.invokevirtual 148, 1, x_Yard_fulfilEach)], [], [], zST, false)
def d_Slit_serveAll : Dn := (rti E_Slit_serveAll [.aload_n 0, .getfield 22, .aload_n 0, .getfield 12, .invokevirtual 70, .aload_n 0, .getfield 12, .invokevirtual 148])
def x_Slit_serveAll : Ex := zrv 5 (exb true 1 d_Slit_serveAll)
abbrev r_Slit_serveAll : Room := ({ frames := 6, cells := 0, slots := 0, locals := 183 } : Room)
theorem eo_Slit_serveAll (hw : zWok w) (cx : CX w p s m args c b_Slit_serveAll 1 "CoilSlits") : EnvOk w true p l e r_Slit_serveAll s m args below meth c Q b_Slit_serveAll 1 "CoilSlits" E_Slit_serveAll :=
  ⟨rfl, by decide +kernel, by decide +kernel, by decide +kernel, hw, fun h => absurd h (by decide),
  List.forall_mem_cons.mpr ⟨call_V cx (ct_Hist_save w l hw) tw_163 tw_160 tw_6 tw_161 tw_162 (ci := 3) (Nat.le_of_ble_eq_true rfl) rfl (by decide +kernel) ⟨Nat.le_of_ble_eq_true rfl, Nat.le_of_ble_eq_true rfl⟩, List.forall_mem_cons.mpr ⟨call_V cx (ct_Yard_fulfilEach w l hw) tw_192 tw_189 tw_2 tw_190 tw_191 (ci := 2) (Nat.le_of_ble_eq_true rfl) rfl (by decide +kernel) ⟨Nat.le_of_ble_eq_true rfl, Nat.le_of_ble_eq_true rfl⟩, fun q hq => absurd hq List.not_mem_nil⟩⟩⟩
theorem sn_Slit_serveAll (h : MC w true p l e R s m args below meth c Q b_Slit_serveAll 1 "CoilSlits" E_Slit_serveAll 0 0 F (some .int)) : Sn (zK w true p l e R s m args below meth c Q 1) F (fun _ => False) (fun _ => False) 0 0 0 d_Slit_serveAll 0 0 0 := by
  unfold d_Slit_serveAll
  exact (m_rti h zz (p1 := 18) (by decide +kernel) (by decide +kernel) (Nat.zero_le _) (Nat.zero_le _))
theorem ct_Slit_serveAll (w : Wd) (l : Launch) (hw : zWok w) : CT w l y_Slit_serveAll b_Slit_serveAll 1 (some .int) r_Slit_serveAll (exb true 1 d_Slit_serveAll) :=
  ct_plain (by decide +kernel) (fun p e s m args below meth c Q cx hnm => eo_Slit_serveAll hw cx) (fun p e s m args below meth c Q F h => sn_Slit_serveAll h)
theorem q_Slit_serveAll {a : Nat} {fs : List Value} {M : Hp} {nx : Nat}  (h : M a = some (cO 5 fs)) : x_Slit_serveAll [.ref a] (M, nx) = zres (d_Slit_serveAll ([some (.ref a)], [], (M, nx))) := q_ofV [some (.ref a)] h rfl (Nat.le_of_ble_eq_true rfl) (Or.inr rfl)
theorem lc_Slit_serveAll_70 : lookI (eC E_Slit_serveAll) (.invokevirtual 70) = some (2, x_Hist_save) := rfl
theorem lc_Slit_serveAll_148 : lookI (eC E_Slit_serveAll) (.invokevirtual 148) = some (1, x_Yard_fulfilEach) := rfl
theorem lf_Slit_serveAll_22 : lookN (eF E_Slit_serveAll) 22 = some (5, 2) := rfl
theorem lf_Slit_serveAll_12 : lookN (eF E_Slit_serveAll) 12 = some (5, 0) := rfl
theorem lb_Slit_serveAll : eB E_Slit_serveAll = true := rfl
-- CoilSlits.clearBuffer
def E_Slit_clearBuffer : Env := (true, [(174, 5, 5)], [], [], [], zST, false)
def d_Slit_clearBuffer : Dn := (rti E_Slit_clearBuffer [.aload_n 0, .getfield 174, .istore_n 1, .aload_n 0, .iconst 0, .putfield 174, .iload_n 1])
def x_Slit_clearBuffer : Ex := zrv 5 (exb true 2 d_Slit_clearBuffer)
abbrev r_Slit_clearBuffer : Room := ({ frames := 0, cells := 0, slots := 0, locals := 0 } : Room)
theorem eo_Slit_clearBuffer (hw : zWok w) (cx : CX w p s m args c b_Slit_clearBuffer 2 "CoilSlits") : EnvOk w true p l e r_Slit_clearBuffer s m args below meth c Q b_Slit_clearBuffer 2 "CoilSlits" E_Slit_clearBuffer :=
  ⟨rfl, by decide +kernel, by decide +kernel, by decide +kernel, hw, fun h => absurd h (by decide),
  fun q hq => absurd hq List.not_mem_nil⟩
theorem sn_Slit_clearBuffer (h : MC w true p l e R s m args below meth c Q b_Slit_clearBuffer 2 "CoilSlits" E_Slit_clearBuffer 0 0 F (some .int)) : Sn (zK w true p l e R s m args below meth c Q 2) F (fun _ => False) (fun _ => False) 0 0 0 d_Slit_clearBuffer 0 0 0 := by
  unfold d_Slit_clearBuffer
  exact (m_rti h zz (p1 := 11) (by decide +kernel) (by decide +kernel) (Nat.zero_le _) (Nat.zero_le _))
theorem ct_Slit_clearBuffer (w : Wd) (l : Launch) (hw : zWok w) : CT w l y_Slit_clearBuffer b_Slit_clearBuffer 2 (some .int) r_Slit_clearBuffer (exb true 2 d_Slit_clearBuffer) :=
  ct_plain (by decide +kernel) (fun p e s m args below meth c Q cx hnm => eo_Slit_clearBuffer hw cx) (fun p e s m args below meth c Q F h => sn_Slit_clearBuffer h)
theorem q_Slit_clearBuffer {a : Nat} {fs : List Value} {M : Hp} {nx : Nat}  (h : M a = some (cO 5 fs)) : x_Slit_clearBuffer [.ref a] (M, nx) = zres (d_Slit_clearBuffer ([some (.ref a), none], [], (M, nx))) := q_ofV [some (.ref a), none] h rfl (Nat.le_of_ble_eq_true rfl) (Or.inr rfl)
theorem lf_Slit_clearBuffer_174 : lookN (eF E_Slit_clearBuffer) 174 = some (5, 5) := rfl
theorem lb_Slit_clearBuffer : eB E_Slit_clearBuffer = true := rfl
-- CoilSlits$CoilReader.restart
def E_Read_restart : Env := (true, [(11, 4, 0)], [], [], [], zST, false)
def d_Read_restart : Dn := (rtv E_Read_restart [.aload_n 0, .iconst 0, .putfield 11])
def x_Read_restart : Ex := zrv 4 (exb true 1 d_Read_restart)
abbrev r_Read_restart : Room := ({ frames := 0, cells := 0, slots := 0, locals := 0 } : Room)
theorem eo_Read_restart (hw : zWok w) (cx : CX w p s m args c b_Read_restart 1 "CoilSlits$CoilReader") : EnvOk w true p l e r_Read_restart s m args below meth c Q b_Read_restart 1 "CoilSlits$CoilReader" E_Read_restart :=
  ⟨rfl, by decide +kernel, by decide +kernel, by decide +kernel, hw, fun h => absurd h (by decide),
  fun q hq => absurd hq List.not_mem_nil⟩
theorem sn_Read_restart (h : MC w true p l e R s m args below meth c Q b_Read_restart 1 "CoilSlits$CoilReader" E_Read_restart 0 0 F none) : Sn (zK w true p l e R s m args below meth c Q 1) F (fun _ => False) (fun _ => False) 0 0 0 d_Read_restart 0 0 0 := by
  unfold d_Read_restart
  exact (m_rtv h zz (p1 := 5) (by decide +kernel) (by decide +kernel) (Nat.zero_le _) (Nat.zero_le _))
theorem ct_Read_restart (w : Wd) (l : Launch) (hw : zWok w) : CT w l y_Read_restart b_Read_restart 1 none r_Read_restart (exb true 1 d_Read_restart) :=
  ct_plain (by decide +kernel) (fun p e s m args below meth c Q cx hnm => eo_Read_restart hw cx) (fun p e s m args below meth c Q F h => sn_Read_restart h)
theorem q_Read_restart {a : Nat} {fs : List Value} {M : Hp} {nx : Nat}  (h : M a = some (cO 4 fs)) : x_Read_restart [.ref a] (M, nx) = zres (d_Read_restart ([some (.ref a)], [], (M, nx))) := q_ofV [some (.ref a)] h rfl (Nat.le_of_ble_eq_true rfl) (Or.inr rfl)
theorem lf_Read_restart_11 : lookN (eF E_Read_restart) 11 = some (4, 0) := rfl
theorem lb_Read_restart : eB E_Read_restart = true := rfl
-- CoilSlits$CoilReader.expects
def E_Read_expects : Env := (true, [(11, 4, 0)], [], [], [], zST, false)
def d_Read_expects : Dn := (rtz E_Read_expects [.aload_n 0, .iload_n 1, .putfield 11, .iconst 1])
def x_Read_expects : Ex := zrv 4 (exb true 2 d_Read_expects)
abbrev r_Read_expects : Room := ({ frames := 0, cells := 0, slots := 0, locals := 0 } : Room)
theorem eo_Read_expects (hw : zWok w) (cx : CX w p s m args c b_Read_expects 2 "CoilSlits$CoilReader") : EnvOk w true p l e r_Read_expects s m args below meth c Q b_Read_expects 2 "CoilSlits$CoilReader" E_Read_expects :=
  ⟨rfl, by decide +kernel, by decide +kernel, by decide +kernel, hw, fun h => absurd h (by decide),
  fun q hq => absurd hq List.not_mem_nil⟩
theorem sn_Read_expects (h : MC w true p l e R s m args below meth c Q b_Read_expects 2 "CoilSlits$CoilReader" E_Read_expects 0 0 F (some .boolean)) : Sn (zK w true p l e R s m args below meth c Q 2) F (fun _ => False) (fun _ => False) 0 0 0 d_Read_expects 0 0 0 := by
  unfold d_Read_expects
  exact (m_rtz h zz (p1 := 6) (by decide +kernel) (by decide +kernel) (Nat.zero_le _) (Nat.zero_le _))
theorem ct_Read_expects (w : Wd) (l : Launch) (hw : zWok w) : CT w l y_Read_expects b_Read_expects 2 (some .boolean) r_Read_expects (exb true 2 d_Read_expects) :=
  ct_plain (by decide +kernel) (fun p e s m args below meth c Q cx hnm => eo_Read_expects hw cx) (fun p e s m args below meth c Q F h => sn_Read_expects h)
theorem q_Read_expects {a : Nat} {fs : List Value} {M : Hp} {nx : Nat} (x0 : Int32) (h : M a = some (cO 4 fs)) : x_Read_expects [.ref a, .int x0] (M, nx) = zres (d_Read_expects ([some (.ref a), some (.int x0)], [], (M, nx))) := q_ofV [some (.ref a), some (.int x0)] h rfl (Nat.le_of_ble_eq_true rfl) (Or.inr rfl)
theorem lf_Read_expects_11 : lookN (eF E_Read_expects) 11 = some (4, 0) := rfl
theorem lb_Read_expects : eB E_Read_expects = true := rfl
-- CoilSlits$CoilReader.beginsPart
def E_Read_beginsPart : Env := (true, [(15, 4, 1), (18, 4, 2), (21, 4, 3), (24, 4, 4)], [(.invokevirtual 31, 2, x_Read_expects)], [], [], zST, false)
def d_Read_beginsPart : Dn := (rtz E_Read_beginsPart [.aload_n 0, .iload_n 1, .putfield 15, .aload_n 0, .iconst 0, .putfield 18, .aload_n 0, .iconst 5, .putfield 21, .aload_n 0, .iconst (-1), .putfield 24, .aload_n 0, .iconst 1, .invokevirtual 31])
def x_Read_beginsPart : Ex := zrv 4 (exb true 2 d_Read_beginsPart)
abbrev r_Read_beginsPart : Room := ({ frames := 1, cells := 0, slots := 0, locals := 21 } : Room)
theorem eo_Read_beginsPart (hw : zWok w) (cx : CX w p s m args c b_Read_beginsPart 2 "CoilSlits$CoilReader") : EnvOk w true p l e r_Read_beginsPart s m args below meth c Q b_Read_beginsPart 2 "CoilSlits$CoilReader" E_Read_beginsPart :=
  ⟨rfl, by decide +kernel, by decide +kernel, by decide +kernel, hw, fun h => absurd h (by decide),
  List.forall_mem_cons.mpr ⟨call_V cx (ct_Read_expects w l hw) tw_312 tw_309 tw_7 tw_311 tp_10 (ci := 4) (Nat.le_of_ble_eq_true rfl) rfl (by decide +kernel) ⟨Nat.le_of_ble_eq_true rfl, Nat.le_of_ble_eq_true rfl⟩, fun q hq => absurd hq List.not_mem_nil⟩⟩
theorem sn_Read_beginsPart (h : MC w true p l e R s m args below meth c Q b_Read_beginsPart 2 "CoilSlits$CoilReader" E_Read_beginsPart 0 0 F (some .boolean)) : Sn (zK w true p l e R s m args below meth c Q 2) F (fun _ => False) (fun _ => False) 0 0 0 d_Read_beginsPart 0 0 0 := by
  unfold d_Read_beginsPart
  exact (m_rtz h zz (p1 := 25) (by decide +kernel) (by decide +kernel) (Nat.zero_le _) (Nat.zero_le _))
theorem ct_Read_beginsPart (w : Wd) (l : Launch) (hw : zWok w) : CT w l y_Read_beginsPart b_Read_beginsPart 2 (some .boolean) r_Read_beginsPart (exb true 2 d_Read_beginsPart) :=
  ct_plain (by decide +kernel) (fun p e s m args below meth c Q cx hnm => eo_Read_beginsPart hw cx) (fun p e s m args below meth c Q F h => sn_Read_beginsPart h)
theorem q_Read_beginsPart {a : Nat} {fs : List Value} {M : Hp} {nx : Nat} (x0 : Int32) (h : M a = some (cO 4 fs)) : x_Read_beginsPart [.ref a, .int x0] (M, nx) = zres (d_Read_beginsPart ([some (.ref a), some (.int x0)], [], (M, nx))) := q_ofV [some (.ref a), some (.int x0)] h rfl (Nat.le_of_ble_eq_true rfl) (Or.inr rfl)
theorem lc_Read_beginsPart_31 : lookI (eC E_Read_beginsPart) (.invokevirtual 31) = some (2, x_Read_expects) := rfl
theorem lf_Read_beginsPart_15 : lookN (eF E_Read_beginsPart) 15 = some (4, 1) := rfl
theorem lf_Read_beginsPart_18 : lookN (eF E_Read_beginsPart) 18 = some (4, 2) := rfl
theorem lf_Read_beginsPart_21 : lookN (eF E_Read_beginsPart) 21 = some (4, 3) := rfl
theorem lf_Read_beginsPart_24 : lookN (eF E_Read_beginsPart) 24 = some (4, 4) := rfl
theorem lb_Read_beginsPart : eB E_Read_beginsPart = true := rfl
-- CoilSlits$CoilReader.widens
def E_Read_widens : Env := (true, [(15, 4, 1)], [], [], [], zST, false)
def d_Read_widens : Dn := (sq (blk E_Read_widens [.bipush 10, .aload_n 0, .getfield 15, .imul, .iload_n 1, .iadd, .istore_n 2])
  (sq (ite' (cno (cat E_Read_widens [.iload_n 2, .sipush 200] (.if_icmp .le 5)))
  (rtz E_Read_widens [.iconst 0])
  (blk E_Read_widens []))
  (rtz E_Read_widens [.aload_n 0, .iload_n 2, .putfield 15, .iconst 1])))
def x_Read_widens : Ex := zrv 4 (exb true 3 d_Read_widens)
abbrev r_Read_widens : Room := ({ frames := 0, cells := 0, slots := 0, locals := 0 } : Room)
theorem eo_Read_widens (hw : zWok w) (cx : CX w p s m args c b_Read_widens 3 "CoilSlits$CoilReader") : EnvOk w true p l e r_Read_widens s m args below meth c Q b_Read_widens 3 "CoilSlits$CoilReader" E_Read_widens :=
  ⟨rfl, by decide +kernel, by decide +kernel, by decide +kernel, hw, fun h => absurd h (by decide),
  fun q hq => absurd hq List.not_mem_nil⟩
theorem sn_Read_widens (h : MC w true p l e R s m args below meth c Q b_Read_widens 3 "CoilSlits$CoilReader" E_Read_widens 0 0 F (some .boolean)) : Sn (zK w true p l e R s m args below meth c Q 3) F (fun _ => False) (fun _ => False) 0 0 0 d_Read_widens 0 0 0 := by
  unfold d_Read_widens
  exact (sn_sq (pm := 10) (m_blk h zz (by decide +kernel))
  (sn_sq (pm := 19) (sn_ite (pt := 17) (pf := 19) (sc_no (m_cat h zz (p1 := 14) (tgt := 19) (by decide +kernel) (by decide +kernel) (by decide)))
  (m_rtz h zz (p1 := 18) (by decide +kernel) (by decide +kernel) (Nat.zero_le _) (Nat.zero_le _))
  (m_blk h zz rfl))
  (m_rtz h zz (p1 := 25) (by decide +kernel) (by decide +kernel) (Nat.zero_le _) (Nat.zero_le _))))
theorem ct_Read_widens (w : Wd) (l : Launch) (hw : zWok w) : CT w l y_Read_widens b_Read_widens 3 (some .boolean) r_Read_widens (exb true 3 d_Read_widens) :=
  ct_plain (by decide +kernel) (fun p e s m args below meth c Q cx hnm => eo_Read_widens hw cx) (fun p e s m args below meth c Q F h => sn_Read_widens h)
theorem q_Read_widens {a : Nat} {fs : List Value} {M : Hp} {nx : Nat} (x0 : Int32) (h : M a = some (cO 4 fs)) : x_Read_widens [.ref a, .int x0] (M, nx) = zres (d_Read_widens ([some (.ref a), some (.int x0), none], [], (M, nx))) := q_ofV [some (.ref a), some (.int x0), none] h rfl (Nat.le_of_ble_eq_true rfl) (Or.inr rfl)
theorem lf_Read_widens_15 : lookN (eF E_Read_widens) 15 = some (4, 1) := rfl
theorem lb_Read_widens : eB E_Read_widens = true := rfl
-- CoilSlits$CoilReader.takesGrade
def E_Read_takesGrade : Env := (true, [(18, 4, 2)], [(.invokevirtual 31, 2, x_Read_expects)], [], [], zST, false)
def d_Read_takesGrade : Dn := (rtz E_Read_takesGrade [.aload_n 0, .iload_n 1, .putfield 18, .aload_n 0, .iconst 5, .invokevirtual 31])
def x_Read_takesGrade : Ex := zrv 4 (exb true 2 d_Read_takesGrade)
abbrev r_Read_takesGrade : Room := ({ frames := 1, cells := 0, slots := 0, locals := 21 } : Room)
theorem eo_Read_takesGrade (hw : zWok w) (cx : CX w p s m args c b_Read_takesGrade 2 "CoilSlits$CoilReader") : EnvOk w true p l e r_Read_takesGrade s m args below meth c Q b_Read_takesGrade 2 "CoilSlits$CoilReader" E_Read_takesGrade :=
  ⟨rfl, by decide +kernel, by decide +kernel, by decide +kernel, hw, fun h => absurd h (by decide),
  List.forall_mem_cons.mpr ⟨call_V cx (ct_Read_expects w l hw) tw_312 tw_309 tw_7 tw_311 tp_10 (ci := 4) (Nat.le_of_ble_eq_true rfl) rfl (by decide +kernel) ⟨Nat.le_of_ble_eq_true rfl, Nat.le_of_ble_eq_true rfl⟩, fun q hq => absurd hq List.not_mem_nil⟩⟩
theorem sn_Read_takesGrade (h : MC w true p l e R s m args below meth c Q b_Read_takesGrade 2 "CoilSlits$CoilReader" E_Read_takesGrade 0 0 F (some .boolean)) : Sn (zK w true p l e R s m args below meth c Q 2) F (fun _ => False) (fun _ => False) 0 0 0 d_Read_takesGrade 0 0 0 := by
  unfold d_Read_takesGrade
  exact (m_rtz h zz (p1 := 10) (by decide +kernel) (by decide +kernel) (Nat.zero_le _) (Nat.zero_le _))
theorem ct_Read_takesGrade (w : Wd) (l : Launch) (hw : zWok w) : CT w l y_Read_takesGrade b_Read_takesGrade 2 (some .boolean) r_Read_takesGrade (exb true 2 d_Read_takesGrade) :=
  ct_plain (by decide +kernel) (fun p e s m args below meth c Q cx hnm => eo_Read_takesGrade hw cx) (fun p e s m args below meth c Q F h => sn_Read_takesGrade h)
theorem q_Read_takesGrade {a : Nat} {fs : List Value} {M : Hp} {nx : Nat} (x0 : Int32) (h : M a = some (cO 4 fs)) : x_Read_takesGrade [.ref a, .int x0] (M, nx) = zres (d_Read_takesGrade ([some (.ref a), some (.int x0)], [], (M, nx))) := q_ofV [some (.ref a), some (.int x0)] h rfl (Nat.le_of_ble_eq_true rfl) (Or.inr rfl)
theorem lc_Read_takesGrade_31 : lookI (eC E_Read_takesGrade) (.invokevirtual 31) = some (2, x_Read_expects) := rfl
theorem lf_Read_takesGrade_18 : lookN (eF E_Read_takesGrade) 18 = some (4, 2) := rfl
theorem lb_Read_takesGrade : eB E_Read_takesGrade = true := rfl
-- CoilSlits$CoilReader.takesQuality
def E_Read_takesQuality : Env := (true, [(21, 4, 3)], [(.invokevirtual 31, 2, x_Read_expects)], [], [], zST, false)
def d_Read_takesQuality : Dn := (rtz E_Read_takesQuality [.aload_n 0, .iload_n 1, .putfield 21, .aload_n 0, .bipush 6, .invokevirtual 31])
def x_Read_takesQuality : Ex := zrv 4 (exb true 2 d_Read_takesQuality)
abbrev r_Read_takesQuality : Room := ({ frames := 1, cells := 0, slots := 0, locals := 21 } : Room)
theorem eo_Read_takesQuality (hw : zWok w) (cx : CX w p s m args c b_Read_takesQuality 2 "CoilSlits$CoilReader") : EnvOk w true p l e r_Read_takesQuality s m args below meth c Q b_Read_takesQuality 2 "CoilSlits$CoilReader" E_Read_takesQuality :=
  ⟨rfl, by decide +kernel, by decide +kernel, by decide +kernel, hw, fun h => absurd h (by decide),
  List.forall_mem_cons.mpr ⟨call_V cx (ct_Read_expects w l hw) tw_312 tw_309 tw_7 tw_311 tp_10 (ci := 4) (Nat.le_of_ble_eq_true rfl) rfl (by decide +kernel) ⟨Nat.le_of_ble_eq_true rfl, Nat.le_of_ble_eq_true rfl⟩, fun q hq => absurd hq List.not_mem_nil⟩⟩
theorem sn_Read_takesQuality (h : MC w true p l e R s m args below meth c Q b_Read_takesQuality 2 "CoilSlits$CoilReader" E_Read_takesQuality 0 0 F (some .boolean)) : Sn (zK w true p l e R s m args below meth c Q 2) F (fun _ => False) (fun _ => False) 0 0 0 d_Read_takesQuality 0 0 0 := by
  unfold d_Read_takesQuality
  exact (m_rtz h zz (p1 := 11) (by decide +kernel) (by decide +kernel) (Nat.zero_le _) (Nat.zero_le _))
theorem ct_Read_takesQuality (w : Wd) (l : Launch) (hw : zWok w) : CT w l y_Read_takesQuality b_Read_takesQuality 2 (some .boolean) r_Read_takesQuality (exb true 2 d_Read_takesQuality) :=
  ct_plain (by decide +kernel) (fun p e s m args below meth c Q cx hnm => eo_Read_takesQuality hw cx) (fun p e s m args below meth c Q F h => sn_Read_takesQuality h)
theorem q_Read_takesQuality {a : Nat} {fs : List Value} {M : Hp} {nx : Nat} (x0 : Int32) (h : M a = some (cO 4 fs)) : x_Read_takesQuality [.ref a, .int x0] (M, nx) = zres (d_Read_takesQuality ([some (.ref a), some (.int x0)], [], (M, nx))) := q_ofV [some (.ref a), some (.int x0)] h rfl (Nat.le_of_ble_eq_true rfl) (Or.inr rfl)
theorem lc_Read_takesQuality_31 : lookI (eC E_Read_takesQuality) (.invokevirtual 31) = some (2, x_Read_expects) := rfl
theorem lf_Read_takesQuality_21 : lookN (eF E_Read_takesQuality) 21 = some (4, 3) := rfl
theorem lb_Read_takesQuality : eB E_Read_takesQuality = true := rfl
-- CoilSlits$CoilReader.takesStack
def E_Read_takesStack : Env := (true, [(24, 4, 4)], [(.invokevirtual 31, 2, x_Read_expects)], [], [], zST, false)
def d_Read_takesStack : Dn := (rtz E_Read_takesStack [.aload_n 0, .iload_n 1, .putfield 24, .aload_n 0, .bipush 7, .invokevirtual 31])
def x_Read_takesStack : Ex := zrv 4 (exb true 2 d_Read_takesStack)
abbrev r_Read_takesStack : Room := ({ frames := 1, cells := 0, slots := 0, locals := 21 } : Room)
theorem eo_Read_takesStack (hw : zWok w) (cx : CX w p s m args c b_Read_takesStack 2 "CoilSlits$CoilReader") : EnvOk w true p l e r_Read_takesStack s m args below meth c Q b_Read_takesStack 2 "CoilSlits$CoilReader" E_Read_takesStack :=
  ⟨rfl, by decide +kernel, by decide +kernel, by decide +kernel, hw, fun h => absurd h (by decide),
  List.forall_mem_cons.mpr ⟨call_V cx (ct_Read_expects w l hw) tw_312 tw_309 tw_7 tw_311 tp_10 (ci := 4) (Nat.le_of_ble_eq_true rfl) rfl (by decide +kernel) ⟨Nat.le_of_ble_eq_true rfl, Nat.le_of_ble_eq_true rfl⟩, fun q hq => absurd hq List.not_mem_nil⟩⟩
theorem sn_Read_takesStack (h : MC w true p l e R s m args below meth c Q b_Read_takesStack 2 "CoilSlits$CoilReader" E_Read_takesStack 0 0 F (some .boolean)) : Sn (zK w true p l e R s m args below meth c Q 2) F (fun _ => False) (fun _ => False) 0 0 0 d_Read_takesStack 0 0 0 := by
  unfold d_Read_takesStack
  exact (m_rtz h zz (p1 := 11) (by decide +kernel) (by decide +kernel) (Nat.zero_le _) (Nat.zero_le _))
theorem ct_Read_takesStack (w : Wd) (l : Launch) (hw : zWok w) : CT w l y_Read_takesStack b_Read_takesStack 2 (some .boolean) r_Read_takesStack (exb true 2 d_Read_takesStack) :=
  ct_plain (by decide +kernel) (fun p e s m args below meth c Q cx hnm => eo_Read_takesStack hw cx) (fun p e s m args below meth c Q F h => sn_Read_takesStack h)
theorem q_Read_takesStack {a : Nat} {fs : List Value} {M : Hp} {nx : Nat} (x0 : Int32) (h : M a = some (cO 4 fs)) : x_Read_takesStack [.ref a, .int x0] (M, nx) = zres (d_Read_takesStack ([some (.ref a), some (.int x0)], [], (M, nx))) := q_ofV [some (.ref a), some (.int x0)] h rfl (Nat.le_of_ble_eq_true rfl) (Or.inr rfl)
theorem lc_Read_takesStack_31 : lookI (eC E_Read_takesStack) (.invokevirtual 31) = some (2, x_Read_expects) := rfl
theorem lf_Read_takesStack_24 : lookN (eF E_Read_takesStack) 24 = some (4, 4) := rfl
theorem lb_Read_takesStack : eB E_Read_takesStack = true := rfl
-- CoilSlits$CoilReader.goesOn
def E_Read_goesOn : Env := (true, [(11, 4, 0)], [(.invokevirtual 31, 2, x_Read_expects)], [], [], zST, false)
def d_Read_goesOn : Dn := (swi E_Read_goesOn [.iload_n 1] [(59, (rtz E_Read_goesOn [.aload_n 0, .iconst 0, .invokevirtual 31])), (113, (sq (ite' (can (cno (cat E_Read_goesOn [.aload_n 0, .getfield 11, .iconst 5] (.if_icmp .ne 15))) (cno (cat E_Read_goesOn [.aload_n 0, .iconst 3, .invokevirtual 31] (.ifCond .eq 7))))
  (blk E_Read_goesOn [.iconst 1])
  (blk E_Read_goesOn [.iconst 0]))
  (rtz E_Read_goesOn []))), (115, (sq (ite' (can (cno (cat E_Read_goesOn [.aload_n 0, .getfield 11, .bipush 7] (.if_icmp .eq 15))) (cno (cat E_Read_goesOn [.aload_n 0, .iconst 4, .invokevirtual 31] (.ifCond .eq 7))))
  (blk E_Read_goesOn [.iconst 1])
  (blk E_Read_goesOn [.iconst 0]))
  (rtz E_Read_goesOn [])))]
  (rtz E_Read_goesOn [.iconst 0]))
def x_Read_goesOn : Ex := zrv 4 (exb true 2 d_Read_goesOn)
abbrev r_Read_goesOn : Room := ({ frames := 1, cells := 0, slots := 0, locals := 21 } : Room)
theorem eo_Read_goesOn (hw : zWok w) (cx : CX w p s m args c b_Read_goesOn 2 "CoilSlits$CoilReader") : EnvOk w true p l e r_Read_goesOn s m args below meth c Q b_Read_goesOn 2 "CoilSlits$CoilReader" E_Read_goesOn :=
  ⟨rfl, by decide +kernel, by decide +kernel, by decide +kernel, hw, fun h => absurd h (by decide),
  List.forall_mem_cons.mpr ⟨call_V cx (ct_Read_expects w l hw) tw_312 tw_309 tw_7 tw_311 tp_10 (ci := 4) (Nat.le_of_ble_eq_true rfl) rfl (by decide +kernel) ⟨Nat.le_of_ble_eq_true rfl, Nat.le_of_ble_eq_true rfl⟩, fun q hq => absurd hq List.not_mem_nil⟩⟩
theorem sn_Read_goesOn (h : MC w true p l e R s m args below meth c Q b_Read_goesOn 2 "CoilSlits$CoilReader" E_Read_goesOn 0 0 F (some .boolean)) : Sn (zK w true p l e R s m args below meth c Q 2) F (fun _ => False) (fun _ => False) 0 0 0 d_Read_goesOn 0 0 0 := by
  unfold d_Read_goesOn
  exact (m_sw h zz (p1 := 1) (pd := 87) [(59, 36), (113, 65), (115, 42)] (by decide +kernel) (by decide +kernel)
  (swl_cons (m_rtz h zz (p1 := 41) (by decide +kernel) (by decide +kernel) (Nat.zero_le _) (Nat.zero_le _))
  (swl_cons (sn_sq (pm := 86) (sn_ite (pt := 81) (pf := 85) (sc_an (pm := 73) (sc_no (m_cat h zz (p1 := 70) (tgt := 85) (by decide +kernel) (by decide +kernel) (by decide))) (sc_no (m_cat h zz (p1 := 78) (tgt := 85) (by decide +kernel) (by decide +kernel) (by decide))))
  (sn_goto (pm := 82) (m_blk h zz (by decide +kernel)) (m_goto h (off := 4) (by decide +kernel) (by decide)))
  (m_blk h zz (by decide +kernel)))
  (m_rtz h zz (p1 := 86) (by decide +kernel) (by decide +kernel) (Nat.zero_le _) (Nat.zero_le _)))
  (swl_cons (sn_sq (pm := 64) (sn_ite (pt := 59) (pf := 63) (sc_an (pm := 51) (sc_no (m_cat h zz (p1 := 48) (tgt := 63) (by decide +kernel) (by decide +kernel) (by decide))) (sc_no (m_cat h zz (p1 := 56) (tgt := 63) (by decide +kernel) (by decide +kernel) (by decide))))
  (sn_goto (pm := 60) (m_blk h zz (by decide +kernel)) (m_goto h (off := 4) (by decide +kernel) (by decide)))
  (m_blk h zz (by decide +kernel)))
  (m_rtz h zz (p1 := 64) (by decide +kernel) (by decide +kernel) (Nat.zero_le _) (Nat.zero_le _)))
  swl_nil)))
  (m_rtz h zz (p1 := 88) (by decide +kernel) (by decide +kernel) (Nat.zero_le _) (Nat.zero_le _)))
theorem ct_Read_goesOn (w : Wd) (l : Launch) (hw : zWok w) : CT w l y_Read_goesOn b_Read_goesOn 2 (some .boolean) r_Read_goesOn (exb true 2 d_Read_goesOn) :=
  ct_plain (by decide +kernel) (fun p e s m args below meth c Q cx hnm => eo_Read_goesOn hw cx) (fun p e s m args below meth c Q F h => sn_Read_goesOn h)
theorem q_Read_goesOn {a : Nat} {fs : List Value} {M : Hp} {nx : Nat} (x0 : Int32) (h : M a = some (cO 4 fs)) : x_Read_goesOn [.ref a, .int x0] (M, nx) = zres (d_Read_goesOn ([some (.ref a), some (.int x0)], [], (M, nx))) := q_ofV [some (.ref a), some (.int x0)] h rfl (Nat.le_of_ble_eq_true rfl) (Or.inr rfl)
theorem lc_Read_goesOn_31 : lookI (eC E_Read_goesOn) (.invokevirtual 31) = some (2, x_Read_expects) := rfl
theorem lf_Read_goesOn_11 : lookN (eF E_Read_goesOn) 11 = some (4, 0) := rfl
theorem lb_Read_goesOn : eB E_Read_goesOn = true := rfl
-- CoilSlits$CoilReader.accepts
def E_Read_accepts : Env := (true, [(11, 4, 0)], [(.invokevirtual 27, 2, x_Read_beginsPart), (.invokevirtual 31, 2, x_Read_expects), (.invokevirtual 34, 2, x_Read_widens), (.invokestatic 37, 3, x_Slit_within), (.invokevirtual 41, 2, x_Read_takesGrade), (.invokevirtual 44, 2, x_Read_takesQuality), (.invokestatic 47, 1, x_Slit_isStack), (.invokevirtual 50, 2, x_Read_takesStack), (.invokevirtual 53, 2, x_Read_goesOn)], [], [], zST, false)
def d_Read_accepts : Dn := (sq (ite' (can (cno (cat E_Read_accepts [.iload_n 1, .bipush 48] (.if_icmp .lt 16))) (cno (cat E_Read_accepts [.iload_n 1, .bipush 57] (.if_icmp .gt 10))))
  (blk E_Read_accepts [.iload_n 1, .bipush 48, .isub])
  (blk E_Read_accepts [.iconst (-1)]))
  (swi E_Read_accepts [.istore_n 2, .aload_n 0, .getfield 11] [(0, (sq (ite' (can (cno (cat E_Read_accepts [.iload_n 2] (.ifCond .le 15))) (cno (cat E_Read_accepts [.aload_n 0, .iload_n 2, .invokevirtual 27] (.ifCond .eq 7))))
  (blk E_Read_accepts [.iconst 1])
  (blk E_Read_accepts [.iconst 0]))
  (rtz E_Read_accepts []))), (1, (sq (ite' (cno (cat E_Read_accepts [.iload_n 1, .bipush 103] (.if_icmp .ne 11)))
  (blk E_Read_accepts [.aload_n 0, .iconst 2, .invokevirtual 31])
  (ite' (can (cno (cat E_Read_accepts [.iload_n 2, .iconst (-1)] (.if_icmp .eq 15))) (cno (cat E_Read_accepts [.aload_n 0, .iload_n 2, .invokevirtual 34] (.ifCond .eq 7))))
  (blk E_Read_accepts [.iconst 1])
  (blk E_Read_accepts [.iconst 0])))
  (rtz E_Read_accepts []))), (2, (sq (ite' (can (cno (cat E_Read_accepts [.iload_n 2, .iconst 0, .iconst 3, .invokestatic 37] (.ifCond .eq 15))) (cno (cat E_Read_accepts [.aload_n 0, .iload_n 2, .invokevirtual 41] (.ifCond .eq 7))))
  (blk E_Read_accepts [.iconst 1])
  (blk E_Read_accepts [.iconst 0]))
  (rtz E_Read_accepts []))), (3, (sq (ite' (can (cno (cat E_Read_accepts [.iload_n 2, .iconst (-1)] (.if_icmp .eq 15))) (cno (cat E_Read_accepts [.aload_n 0, .iload_n 2, .invokevirtual 44] (.ifCond .eq 7))))
  (blk E_Read_accepts [.iconst 1])
  (blk E_Read_accepts [.iconst 0]))
  (rtz E_Read_accepts []))), (4, (sq (ite' (can (cno (cat E_Read_accepts [.iload_n 2, .invokestatic 47] (.ifCond .eq 15))) (cno (cat E_Read_accepts [.aload_n 0, .iload_n 2, .invokevirtual 50] (.ifCond .eq 7))))
  (blk E_Read_accepts [.iconst 1])
  (blk E_Read_accepts [.iconst 0]))
  (rtz E_Read_accepts [])))]
  (rtz E_Read_accepts [.aload_n 0, .iload_n 1, .invokevirtual 53])))
def x_Read_accepts : Ex := zrv 4 (exb true 3 d_Read_accepts)
abbrev r_Read_accepts : Room := ({ frames := 2, cells := 0, slots := 0, locals := 42 } : Room)
theorem eo_Read_accepts (hw : zWok w) (cx : CX w p s m args c b_Read_accepts 3 "CoilSlits$CoilReader") : EnvOk w true p l e r_Read_accepts s m args below meth c Q b_Read_accepts 3 "CoilSlits$CoilReader" E_Read_accepts :=
  ⟨rfl, by decide +kernel, by decide +kernel, by decide +kernel, hw, fun h => absurd h (by decide),
  List.forall_mem_cons.mpr ⟨call_V cx (ct_Read_beginsPart w l hw) tw_308 tw_305 tw_7 tw_307 tp_9 (ci := 4) (Nat.le_of_ble_eq_true rfl) rfl (by decide +kernel) ⟨Nat.le_of_ble_eq_true rfl, Nat.le_of_ble_eq_true rfl⟩, List.forall_mem_cons.mpr ⟨call_V cx (ct_Read_expects w l hw) tw_312 tw_309 tw_7 tw_311 tp_10 (ci := 4) (Nat.le_of_ble_eq_true rfl) rfl (by decide +kernel) ⟨Nat.le_of_ble_eq_true rfl, Nat.le_of_ble_eq_true rfl⟩, List.forall_mem_cons.mpr ⟨call_V cx (ct_Read_widens w l hw) tw_316 tw_313 tw_7 tw_315 tp_11 (ci := 4) (Nat.le_of_ble_eq_true rfl) rfl (by decide +kernel) ⟨Nat.le_of_ble_eq_true rfl, Nat.le_of_ble_eq_true rfl⟩, List.forall_mem_cons.mpr ⟨call_SN cx (host := "CoilSlits") (ct_Slit_within w l hw) tw_319 (by decide +kernel) tw_1 tw_318 (by decide +kernel) ⟨Nat.le_of_ble_eq_true rfl, Nat.le_of_ble_eq_true rfl⟩, List.forall_mem_cons.mpr ⟨call_V cx (ct_Read_takesGrade w l hw) tw_323 tw_320 tw_7 tw_322 tp_12 (ci := 4) (Nat.le_of_ble_eq_true rfl) rfl (by decide +kernel) ⟨Nat.le_of_ble_eq_true rfl, Nat.le_of_ble_eq_true rfl⟩, List.forall_mem_cons.mpr ⟨call_V cx (ct_Read_takesQuality w l hw) tw_327 tw_324 tw_7 tw_326 tp_13 (ci := 4) (Nat.le_of_ble_eq_true rfl) rfl (by decide +kernel) ⟨Nat.le_of_ble_eq_true rfl, Nat.le_of_ble_eq_true rfl⟩, List.forall_mem_cons.mpr ⟨call_SN cx (host := "CoilSlits") (ct_Slit_isStack w l hw) tw_330 (by decide +kernel) tw_1 tw_329 (by decide +kernel) ⟨Nat.le_of_ble_eq_true rfl, Nat.le_of_ble_eq_true rfl⟩, List.forall_mem_cons.mpr ⟨call_V cx (ct_Read_takesStack w l hw) tw_335 tw_332 tw_7 tw_334 tp_14 (ci := 4) (Nat.le_of_ble_eq_true rfl) rfl (by decide +kernel) ⟨Nat.le_of_ble_eq_true rfl, Nat.le_of_ble_eq_true rfl⟩, List.forall_mem_cons.mpr ⟨call_V cx (ct_Read_goesOn w l hw) tw_339 tw_336 tw_7 tw_338 tp_15 (ci := 4) (Nat.le_of_ble_eq_true rfl) rfl (by decide +kernel) ⟨Nat.le_of_ble_eq_true rfl, Nat.le_of_ble_eq_true rfl⟩, fun q hq => absurd hq List.not_mem_nil⟩⟩⟩⟩⟩⟩⟩⟩⟩⟩
theorem sn_Read_accepts (h : MC w true p l e R s m args below meth c Q b_Read_accepts 3 "CoilSlits$CoilReader" E_Read_accepts 0 0 F (some .boolean)) : Sn (zK w true p l e R s m args below meth c Q 3) F (fun _ => False) (fun _ => False) 0 0 0 d_Read_accepts 0 0 0 := by
  unfold d_Read_accepts
  exact (sn_sq (pm := 20) (sn_ite (pt := 12) (pf := 19) (sc_an (pm := 6) (sc_no (m_cat h zz (p1 := 3) (tgt := 19) (by decide +kernel) (by decide +kernel) (by decide))) (sc_no (m_cat h zz (p1 := 9) (tgt := 19) (by decide +kernel) (by decide +kernel) (by decide))))
  (sn_goto (pm := 16) (m_blk h zz (by decide +kernel)) (m_goto h (off := 4) (by decide +kernel) (by decide)))
  (m_blk h zz (by decide +kernel)))
  (m_sw h zz (p1 := 25) (pd := 174) [(0, 60), (1, 78), (2, 111), (3, 134), (4, 153)] (by decide +kernel) (by decide +kernel)
  (swl_cons (sn_sq (pm := 77) (sn_ite (pt := 72) (pf := 76) (sc_an (pm := 64) (sc_no (m_cat h zz (p1 := 61) (tgt := 76) (by decide +kernel) (by decide +kernel) (by decide))) (sc_no (m_cat h zz (p1 := 69) (tgt := 76) (by decide +kernel) (by decide +kernel) (by decide))))
  (sn_goto (pm := 73) (m_blk h zz (by decide +kernel)) (m_goto h (off := 4) (by decide +kernel) (by decide)))
  (m_blk h zz (by decide +kernel)))
  (m_rtz h zz (p1 := 77) (by decide +kernel) (by decide +kernel) (Nat.zero_le _) (Nat.zero_le _)))
  (swl_cons (sn_sq (pm := 110) (sn_ite (pt := 84) (pf := 92) (sc_no (m_cat h zz (p1 := 81) (tgt := 92) (by decide +kernel) (by decide +kernel) (by decide)))
  (sn_goto (pm := 89) (m_blk h zz (by decide +kernel)) (m_goto h (off := 21) (by decide +kernel) (by decide)))
  (sn_ite (pt := 105) (pf := 109) (sc_an (pm := 97) (sc_no (m_cat h zz (p1 := 94) (tgt := 109) (by decide +kernel) (by decide +kernel) (by decide))) (sc_no (m_cat h zz (p1 := 102) (tgt := 109) (by decide +kernel) (by decide +kernel) (by decide))))
  (sn_goto (pm := 106) (m_blk h zz (by decide +kernel)) (m_goto h (off := 4) (by decide +kernel) (by decide)))
  (m_blk h zz (by decide +kernel))))
  (m_rtz h zz (p1 := 110) (by decide +kernel) (by decide +kernel) (Nat.zero_le _) (Nat.zero_le _)))
  (swl_cons (sn_sq (pm := 133) (sn_ite (pt := 128) (pf := 132) (sc_an (pm := 120) (sc_no (m_cat h zz (p1 := 117) (tgt := 132) (by decide +kernel) (by decide +kernel) (by decide))) (sc_no (m_cat h zz (p1 := 125) (tgt := 132) (by decide +kernel) (by decide +kernel) (by decide))))
  (sn_goto (pm := 129) (m_blk h zz (by decide +kernel)) (m_goto h (off := 4) (by decide +kernel) (by decide)))
  (m_blk h zz (by decide +kernel)))
  (m_rtz h zz (p1 := 133) (by decide +kernel) (by decide +kernel) (Nat.zero_le _) (Nat.zero_le _)))
  (swl_cons (sn_sq (pm := 152) (sn_ite (pt := 147) (pf := 151) (sc_an (pm := 139) (sc_no (m_cat h zz (p1 := 136) (tgt := 151) (by decide +kernel) (by decide +kernel) (by decide))) (sc_no (m_cat h zz (p1 := 144) (tgt := 151) (by decide +kernel) (by decide +kernel) (by decide))))
  (sn_goto (pm := 148) (m_blk h zz (by decide +kernel)) (m_goto h (off := 4) (by decide +kernel) (by decide)))
  (m_blk h zz (by decide +kernel)))
  (m_rtz h zz (p1 := 152) (by decide +kernel) (by decide +kernel) (Nat.zero_le _) (Nat.zero_le _)))
  (swl_cons (sn_sq (pm := 173) (sn_ite (pt := 168) (pf := 172) (sc_an (pm := 160) (sc_no (m_cat h zz (p1 := 157) (tgt := 172) (by decide +kernel) (by decide +kernel) (by decide))) (sc_no (m_cat h zz (p1 := 165) (tgt := 172) (by decide +kernel) (by decide +kernel) (by decide))))
  (sn_goto (pm := 169) (m_blk h zz (by decide +kernel)) (m_goto h (off := 4) (by decide +kernel) (by decide)))
  (m_blk h zz (by decide +kernel)))
  (m_rtz h zz (p1 := 173) (by decide +kernel) (by decide +kernel) (Nat.zero_le _) (Nat.zero_le _)))
  swl_nil)))))
  (m_rtz h zz (p1 := 179) (by decide +kernel) (by decide +kernel) (Nat.zero_le _) (Nat.zero_le _))))
theorem ct_Read_accepts (w : Wd) (l : Launch) (hw : zWok w) : CT w l y_Read_accepts b_Read_accepts 3 (some .boolean) r_Read_accepts (exb true 3 d_Read_accepts) :=
  ct_plain (by decide +kernel) (fun p e s m args below meth c Q cx hnm => eo_Read_accepts hw cx) (fun p e s m args below meth c Q F h => sn_Read_accepts h)
theorem q_Read_accepts {a : Nat} {fs : List Value} {M : Hp} {nx : Nat} (x0 : Int32) (h : M a = some (cO 4 fs)) : x_Read_accepts [.ref a, .int x0] (M, nx) = zres (d_Read_accepts ([some (.ref a), some (.int x0), none], [], (M, nx))) := q_ofV [some (.ref a), some (.int x0), none] h rfl (Nat.le_of_ble_eq_true rfl) (Or.inr rfl)
theorem lc_Read_accepts_27 : lookI (eC E_Read_accepts) (.invokevirtual 27) = some (2, x_Read_beginsPart) := rfl
theorem lc_Read_accepts_31 : lookI (eC E_Read_accepts) (.invokevirtual 31) = some (2, x_Read_expects) := rfl
theorem lc_Read_accepts_34 : lookI (eC E_Read_accepts) (.invokevirtual 34) = some (2, x_Read_widens) := rfl
theorem lc_Read_accepts_37 : lookI (eC E_Read_accepts) (.invokestatic 37) = some (3, x_Slit_within) := rfl
theorem lc_Read_accepts_41 : lookI (eC E_Read_accepts) (.invokevirtual 41) = some (2, x_Read_takesGrade) := rfl
theorem lc_Read_accepts_44 : lookI (eC E_Read_accepts) (.invokevirtual 44) = some (2, x_Read_takesQuality) := rfl
theorem lc_Read_accepts_47 : lookI (eC E_Read_accepts) (.invokestatic 47) = some (1, x_Slit_isStack) := rfl
theorem lc_Read_accepts_50 : lookI (eC E_Read_accepts) (.invokevirtual 50) = some (2, x_Read_takesStack) := rfl
theorem lc_Read_accepts_53 : lookI (eC E_Read_accepts) (.invokevirtual 53) = some (2, x_Read_goesOn) := rfl
theorem lf_Read_accepts_11 : lookN (eF E_Read_accepts) 11 = some (4, 0) := rfl
theorem lb_Read_accepts : eB E_Read_accepts = true := rfl
-- CoilSlits.readBuffer
def E_Slit_readBuffer : Env := (true, [(38, 5, 4), (174, 5, 5), (31, 5, 3)], [(.invokevirtual 290, 1, x_Read_restart), (.invokevirtual 272, 2, x_Row_get), (.invokevirtual 293, 2, x_Read_accepts)], [], [], zST, false)
def d_Slit_readBuffer : Dn := (sq (blk E_Slit_readBuffer [.aload_n 0, .getfield 38, .invokevirtual 290, .iconst 0, .istore_n 1])
  (sq (lop (cno (cat E_Slit_readBuffer [.iload_n 1, .aload_n 0, .getfield 174] (.if_icmp .ge 29)))
  (sq (ite' (cno (cat E_Slit_readBuffer [.aload_n 0, .getfield 38, .aload_n 0, .getfield 31, .iload_n 1, .invokevirtual 272, .invokevirtual 293] (.ifCond .ne 5)))
  (rti E_Slit_readBuffer [.iload_n 1])
  (blk E_Slit_readBuffer []))
  (blk E_Slit_readBuffer [.iinc 1 1]))
  (blk E_Slit_readBuffer []) zFU)
  (rti E_Slit_readBuffer [.aload_n 0, .getfield 174])))
def x_Slit_readBuffer : Ex := zrv 5 (exb true 2 d_Slit_readBuffer)
abbrev r_Slit_readBuffer : Room := ({ frames := 3, cells := 0, slots := 0, locals := 64 } : Room)
theorem eo_Slit_readBuffer (hw : zWok w) (cx : CX w p s m args c b_Slit_readBuffer 2 "CoilSlits") : EnvOk w true p l e r_Slit_readBuffer s m args below meth c Q b_Slit_readBuffer 2 "CoilSlits" E_Slit_readBuffer :=
  ⟨rfl, by decide +kernel, by decide +kernel, by decide +kernel, hw, fun h => absurd h (by decide),
  List.forall_mem_cons.mpr ⟨call_V cx (ct_Read_restart w l hw) tw_299 tw_296 tw_7 tw_297 tw_298 (ci := 4) (Nat.le_of_ble_eq_true rfl) rfl (by decide +kernel) ⟨Nat.le_of_ble_eq_true rfl, Nat.le_of_ble_eq_true rfl⟩, List.forall_mem_cons.mpr ⟨call_V cx (ct_Row_get w l hw) tw_216 tw_300 tw_5 tw_214 tw_215 (ci := 0) (Nat.le_of_ble_eq_true rfl) rfl (by decide +kernel) ⟨Nat.le_of_ble_eq_true rfl, Nat.le_of_ble_eq_true rfl⟩, List.forall_mem_cons.mpr ⟨call_V cx (ct_Read_accepts w l hw) tw_304 tw_301 tw_7 tw_302 tw_303 (ci := 4) (Nat.le_of_ble_eq_true rfl) rfl (by decide +kernel) ⟨Nat.le_of_ble_eq_true rfl, Nat.le_of_ble_eq_true rfl⟩, fun q hq => absurd hq List.not_mem_nil⟩⟩⟩⟩
theorem sn_Slit_readBuffer (h : MC w true p l e R s m args below meth c Q b_Slit_readBuffer 2 "CoilSlits" E_Slit_readBuffer 0 0 F (some .int)) : Sn (zK w true p l e R s m args below meth c Q 2) F (fun _ => False) (fun _ => False) 0 0 0 d_Slit_readBuffer 0 0 0 := by
  unfold d_Slit_readBuffer
  exact (sn_sq (pm := 9) (m_blk h zz (by decide +kernel))
  (sn_sq (pm := 43) (sn_lop (pt := 17) (pu := 40) (p2 := 40) (px := 43) (kb2 := fun _ => False) (kc2 := fun _ => False) (sc_no (m_cat h zz (p1 := 14) (tgt := 43) (by decide +kernel) (by decide +kernel) (by decide)))
  (sn_sq (pm := 37) (sn_ite (pt := 35) (pf := 37) (sc_no (m_cat h zz (p1 := 32) (tgt := 37) (by decide +kernel) (by decide +kernel) (by decide)))
  (m_rti h zz (p1 := 36) (by decide +kernel) (by decide +kernel) (Nat.zero_le _) (Nat.zero_le _))
  (m_blk h zz rfl))
  (m_blk h zz (by decide +kernel)))
  (m_blk h zz rfl) (m_goto h (off := (-31)) (by decide +kernel) (by decide)) zFU)
  (m_rti h zz (p1 := 47) (by decide +kernel) (by decide +kernel) (Nat.zero_le _) (Nat.zero_le _))))
theorem ct_Slit_readBuffer (w : Wd) (l : Launch) (hw : zWok w) : CT w l y_Slit_readBuffer b_Slit_readBuffer 2 (some .int) r_Slit_readBuffer (exb true 2 d_Slit_readBuffer) :=
  ct_plain (by decide +kernel) (fun p e s m args below meth c Q cx hnm => eo_Slit_readBuffer hw cx) (fun p e s m args below meth c Q F h => sn_Slit_readBuffer h)
theorem q_Slit_readBuffer {a : Nat} {fs : List Value} {M : Hp} {nx : Nat}  (h : M a = some (cO 5 fs)) : x_Slit_readBuffer [.ref a] (M, nx) = zres (d_Slit_readBuffer ([some (.ref a), none], [], (M, nx))) := q_ofV [some (.ref a), none] h rfl (Nat.le_of_ble_eq_true rfl) (Or.inr rfl)
theorem lc_Slit_readBuffer_290 : lookI (eC E_Slit_readBuffer) (.invokevirtual 290) = some (1, x_Read_restart) := rfl
theorem lc_Slit_readBuffer_272 : lookI (eC E_Slit_readBuffer) (.invokevirtual 272) = some (2, x_Row_get) := rfl
theorem lc_Slit_readBuffer_293 : lookI (eC E_Slit_readBuffer) (.invokevirtual 293) = some (2, x_Read_accepts) := rfl
theorem lf_Slit_readBuffer_38 : lookN (eF E_Slit_readBuffer) 38 = some (5, 4) := rfl
theorem lf_Slit_readBuffer_174 : lookN (eF E_Slit_readBuffer) 174 = some (5, 5) := rfl
theorem lf_Slit_readBuffer_31 : lookN (eF E_Slit_readBuffer) 31 = some (5, 3) := rfl
theorem lb_Slit_readBuffer : eB E_Slit_readBuffer = true := rfl
-- CoilSlits.firstError
def E_Slit_firstError : Env := (true, [], [(.invokevirtual 183, 1, x_Slit_readBuffer)], [], [], zST, false)
def d_Slit_firstError : Dn := (rti E_Slit_firstError [.aload_n 0, .invokevirtual 183])
def x_Slit_firstError : Ex := zrv 5 (exb true 1 d_Slit_firstError)
abbrev r_Slit_firstError : Room := ({ frames := 4, cells := 0, slots := 0, locals := 85 } : Room)
theorem eo_Slit_firstError (hw : zWok w) (cx : CX w p s m args c b_Slit_firstError 1 "CoilSlits") : EnvOk w true p l e r_Slit_firstError s m args below meth c Q b_Slit_firstError 1 "CoilSlits" E_Slit_firstError :=
  ⟨rfl, by decide +kernel, by decide +kernel, by decide +kernel, hw, fun h => absurd h (by decide),
  List.forall_mem_cons.mpr ⟨call_V cx (ct_Slit_readBuffer w l hw) tw_295 tw_292 tw_1 tw_294 tp_8 (ci := 5) (Nat.le_of_ble_eq_true rfl) rfl (by decide +kernel) ⟨Nat.le_of_ble_eq_true rfl, Nat.le_of_ble_eq_true rfl⟩, fun q hq => absurd hq List.not_mem_nil⟩⟩
theorem sn_Slit_firstError (h : MC w true p l e R s m args below meth c Q b_Slit_firstError 1 "CoilSlits" E_Slit_firstError 0 0 F (some .int)) : Sn (zK w true p l e R s m args below meth c Q 1) F (fun _ => False) (fun _ => False) 0 0 0 d_Slit_firstError 0 0 0 := by
  unfold d_Slit_firstError
  exact (m_rti h zz (p1 := 4) (by decide +kernel) (by decide +kernel) (Nat.zero_le _) (Nat.zero_le _))
theorem ct_Slit_firstError (w : Wd) (l : Launch) (hw : zWok w) : CT w l y_Slit_firstError b_Slit_firstError 1 (some .int) r_Slit_firstError (exb true 1 d_Slit_firstError) :=
  ct_plain (by decide +kernel) (fun p e s m args below meth c Q cx hnm => eo_Slit_firstError hw cx) (fun p e s m args below meth c Q F h => sn_Slit_firstError h)
theorem q_Slit_firstError {a : Nat} {fs : List Value} {M : Hp} {nx : Nat}  (h : M a = some (cO 5 fs)) : x_Slit_firstError [.ref a] (M, nx) = zres (d_Slit_firstError ([some (.ref a)], [], (M, nx))) := q_ofV [some (.ref a)] h rfl (Nat.le_of_ble_eq_true rfl) (Or.inr rfl)
theorem lc_Slit_firstError_183 : lookI (eC E_Slit_firstError) (.invokevirtual 183) = some (1, x_Slit_readBuffer) := rfl
theorem lb_Slit_firstError : eB E_Slit_firstError = true := rfl
-- CoilSlits.beginTrial
def E_Slit_beginTrial : Env := (true, [(16, 5, 1), (12, 5, 0)], [(.invokevirtual 284, 2, x_Yard_copyFrom), (.invokevirtual 168, 3, x_Yard_changeSetting)], [], [], zST, false)
def d_Slit_beginTrial : Dn := (rtv E_Slit_beginTrial [.aload_n 0, .getfield 16, .aload_n 0, .getfield 12, .invokevirtual 284, .aload_n 0, .getfield 16, .iconst 3, .iload_n 1, .invokevirtual 168])
def x_Slit_beginTrial : Ex := zrv 5 (exb true 2 d_Slit_beginTrial)
abbrev r_Slit_beginTrial : Room := ({ frames := 3, cells := 0, slots := 0, locals := 103 } : Room)
theorem eo_Slit_beginTrial (hw : zWok w) (cx : CX w p s m args c b_Slit_beginTrial 2 "CoilSlits") : EnvOk w true p l e r_Slit_beginTrial s m args below meth c Q b_Slit_beginTrial 2 "CoilSlits" E_Slit_beginTrial :=
  ⟨rfl, by decide +kernel, by decide +kernel, by decide +kernel, hw, fun h => absurd h (by decide),
  List.forall_mem_cons.mpr ⟨call_V cx (ct_Yard_copyFrom w l hw) tw_171 tw_348 tw_2 tw_169 tw_170 (ci := 2) (Nat.le_of_ble_eq_true rfl) rfl (by decide +kernel) ⟨Nat.le_of_ble_eq_true rfl, Nat.le_of_ble_eq_true rfl⟩, List.forall_mem_cons.mpr ⟨call_V cx (ct_Yard_changeSetting w l hw) tw_352 tw_349 tw_2 tw_350 tw_351 (ci := 2) (Nat.le_of_ble_eq_true rfl) rfl (by decide +kernel) ⟨Nat.le_of_ble_eq_true rfl, Nat.le_of_ble_eq_true rfl⟩, fun q hq => absurd hq List.not_mem_nil⟩⟩⟩
theorem sn_Slit_beginTrial (h : MC w true p l e R s m args below meth c Q b_Slit_beginTrial 2 "CoilSlits" E_Slit_beginTrial 0 0 F none) : Sn (zK w true p l e R s m args below meth c Q 2) F (fun _ => False) (fun _ => False) 0 0 0 d_Slit_beginTrial 0 0 0 := by
  unfold d_Slit_beginTrial
  exact (m_rtv h zz (p1 := 20) (by decide +kernel) (by decide +kernel) (Nat.zero_le _) (Nat.zero_le _))
theorem ct_Slit_beginTrial (w : Wd) (l : Launch) (hw : zWok w) : CT w l y_Slit_beginTrial b_Slit_beginTrial 2 none r_Slit_beginTrial (exb true 2 d_Slit_beginTrial) :=
  ct_plain (by decide +kernel) (fun p e s m args below meth c Q cx hnm => eo_Slit_beginTrial hw cx) (fun p e s m args below meth c Q F h => sn_Slit_beginTrial h)
theorem q_Slit_beginTrial {a : Nat} {fs : List Value} {M : Hp} {nx : Nat} (x0 : Int32) (h : M a = some (cO 5 fs)) : x_Slit_beginTrial [.ref a, .int x0] (M, nx) = zres (d_Slit_beginTrial ([some (.ref a), some (.int x0)], [], (M, nx))) := q_ofV [some (.ref a), some (.int x0)] h rfl (Nat.le_of_ble_eq_true rfl) (Or.inr rfl)
theorem lc_Slit_beginTrial_284 : lookI (eC E_Slit_beginTrial) (.invokevirtual 284) = some (2, x_Yard_copyFrom) := rfl
theorem lc_Slit_beginTrial_168 : lookI (eC E_Slit_beginTrial) (.invokevirtual 168) = some (3, x_Yard_changeSetting) := rfl
theorem lf_Slit_beginTrial_16 : lookN (eF E_Slit_beginTrial) 16 = some (5, 1) := rfl
theorem lf_Slit_beginTrial_12 : lookN (eF E_Slit_beginTrial) 12 = some (5, 0) := rfl
theorem lb_Slit_beginTrial : eB E_Slit_beginTrial = true := rfl
-- CoilSlits.bestRule
def E_Slit_bestRule : Env := (true, [(16, 5, 1)], [(.invokevirtual 233, 2, x_Slit_beginTrial), (.invokevirtual 148, 1, x_Yard_fulfilEach), (.invokevirtual 239, 2, x_Yard_tally)], [], [], zST, false)
def d_Slit_bestRule : Dn := (sq (blk E_Slit_bestRule [.iconst 0, .istore_n 1, .iconst 0, .istore_n 2, .iconst 0, .istore_n 3, .iconst 0, .istore 4, .iconst 0, .istore 5])
  (sq (lop (cfo [6, 7, 8, 9] (cno (cat E_Slit_bestRule [.iload 5, .iconst 3] (.if_icmp .ge 116))))
  (sq (blk E_Slit_bestRule [.aload_n 0, .iload 5, .invokevirtual 233, .aload_n 0, .getfield 16, .invokevirtual 148, .pop, .aload_n 0, .getfield 16, .bipush 10, .invokevirtual 239, .istore 6, .aload_n 0, .getfield 16, .bipush 9, .invokevirtual 239, .istore 7, .aload_n 0, .getfield 16, .iconst 5, .invokevirtual 239, .istore 8])
  (sq (ite' (cor (cat E_Slit_bestRule [.iload 7, .iload_n 3] (.if_icmp .lt 16)) (can (cno (cat E_Slit_bestRule [.iload 7, .iload_n 3] (.if_icmp .ne 14))) (cno (cat E_Slit_bestRule [.iload 8, .iload 4] (.if_icmp .ge 7)))))
  (blk E_Slit_bestRule [.iconst 1])
  (blk E_Slit_bestRule [.iconst 0]))
  (sq (blk E_Slit_bestRule [.istore 9])
  (sq (ite' (cor (cat E_Slit_bestRule [.iload 5] (.ifCond .eq 20)) (cor (cat E_Slit_bestRule [.iload 6, .iload_n 2] (.if_icmp .gt 14)) (can (cno (cat E_Slit_bestRule [.iload 6, .iload_n 2] (.if_icmp .ne 21))) (cno (cat E_Slit_bestRule [.iload 9] (.ifCond .eq 16))))))
  (blk E_Slit_bestRule [.iload 5, .istore_n 1, .iload 6, .istore_n 2, .iload 7, .istore_n 3, .iload 8, .istore 4])
  (blk E_Slit_bestRule []))
  (blk E_Slit_bestRule [.iinc 5 1])))))
  (blk E_Slit_bestRule []) zFU)
  (rti E_Slit_bestRule [.iload_n 1])))
def x_Slit_bestRule : Ex := zrv 5 (exb true 10 d_Slit_bestRule)
abbrev r_Slit_bestRule : Room := ({ frames := 6, cells := 0, slots := 0, locals := 183 } : Room)
theorem eo_Slit_bestRule (hw : zWok w) (cx : CX w p s m args c b_Slit_bestRule 10 "CoilSlits") : EnvOk w true p l e r_Slit_bestRule s m args below meth c Q b_Slit_bestRule 10 "CoilSlits" E_Slit_bestRule :=
  ⟨rfl, by decide +kernel, by decide +kernel, by decide +kernel, hw, fun h => absurd h (by decide),
  List.forall_mem_cons.mpr ⟨call_V cx (ct_Slit_beginTrial w l hw) tw_347 tw_344 tw_1 tw_346 tp_16 (ci := 5) (Nat.le_of_ble_eq_true rfl) rfl (by decide +kernel) ⟨Nat.le_of_ble_eq_true rfl, Nat.le_of_ble_eq_true rfl⟩, List.forall_mem_cons.mpr ⟨call_V cx (ct_Yard_fulfilEach w l hw) tw_192 tw_189 tw_2 tw_190 tw_191 (ci := 2) (Nat.le_of_ble_eq_true rfl) rfl (by decide +kernel) ⟨Nat.le_of_ble_eq_true rfl, Nat.le_of_ble_eq_true rfl⟩, List.forall_mem_cons.mpr ⟨call_V cx (ct_Yard_tally w l hw) tw_356 tw_353 tw_2 tw_354 tw_355 (ci := 2) (Nat.le_of_ble_eq_true rfl) rfl (by decide +kernel) ⟨Nat.le_of_ble_eq_true rfl, Nat.le_of_ble_eq_true rfl⟩, fun q hq => absurd hq List.not_mem_nil⟩⟩⟩⟩
theorem sn_Slit_bestRule (h : MC w true p l e R s m args below meth c Q b_Slit_bestRule 10 "CoilSlits" E_Slit_bestRule 0 0 F (some .int)) : Sn (zK w true p l e R s m args below meth c Q 10) F (fun _ => False) (fun _ => False) 0 0 0 d_Slit_bestRule 0 0 0 := by
  unfold d_Slit_bestRule
  exact (sn_sq (pm := 12) (m_blk h zz (by decide +kernel))
  (sn_sq (pm := 131) (sn_lop (pt := 18) (pu := 128) (p2 := 128) (px := 131) (kb2 := fun _ => False) (kc2 := fun _ => False) (sc_fo m_fo (sc_no (m_cat h zz (p1 := 15) (tgt := 131) (by decide +kernel) (by decide +kernel) (by decide))))
  (sn_sq (pm := 64) (m_blk h zz (by decide +kernel))
  (sn_sq (pm := 88) (sn_ite (pt := 83) (pf := 87) (sc_or (pm := 70) (m_cat h zz (p1 := 67) (tgt := 83) (by decide +kernel) (by decide +kernel) (by decide)) (sc_an (pm := 76) (sc_no (m_cat h zz (p1 := 73) (tgt := 87) (by decide +kernel) (by decide +kernel) (by decide))) (sc_no (m_cat h zz (p1 := 80) (tgt := 87) (by decide +kernel) (by decide +kernel) (by decide)))))
  (sn_goto (pm := 84) (m_blk h zz (by decide +kernel)) (m_goto h (off := 4) (by decide +kernel) (by decide)))
  (m_blk h zz (by decide +kernel)))
  (sn_sq (pm := 90) (m_blk h zz (by decide +kernel))
  (sn_sq (pm := 125) (sn_ite (pt := 112) (pf := 125) (sc_or (pm := 95) (m_cat h zz (p1 := 92) (tgt := 112) (by decide +kernel) (by decide +kernel) (by decide)) (sc_or (pm := 101) (m_cat h zz (p1 := 98) (tgt := 112) (by decide +kernel) (by decide +kernel) (by decide)) (sc_an (pm := 107) (sc_no (m_cat h zz (p1 := 104) (tgt := 125) (by decide +kernel) (by decide +kernel) (by decide))) (sc_no (m_cat h zz (p1 := 109) (tgt := 125) (by decide +kernel) (by decide +kernel) (by decide))))))
  (m_blk h zz (by decide +kernel))
  (m_blk h zz rfl))
  (m_blk h zz (by decide +kernel))))))
  (m_blk h zz rfl) (m_goto h (off := (-116)) (by decide +kernel) (by decide)) zFU)
  (m_rti h zz (p1 := 132) (by decide +kernel) (by decide +kernel) (Nat.zero_le _) (Nat.zero_le _))))
theorem ct_Slit_bestRule (w : Wd) (l : Launch) (hw : zWok w) : CT w l y_Slit_bestRule b_Slit_bestRule 10 (some .int) r_Slit_bestRule (exb true 10 d_Slit_bestRule) :=
  ct_plain (by decide +kernel) (fun p e s m args below meth c Q cx hnm => eo_Slit_bestRule hw cx) (fun p e s m args below meth c Q F h => sn_Slit_bestRule h)
theorem q_Slit_bestRule {a : Nat} {fs : List Value} {M : Hp} {nx : Nat}  (h : M a = some (cO 5 fs)) : x_Slit_bestRule [.ref a] (M, nx) = zres (d_Slit_bestRule ([some (.ref a), none, none, none, none, none, none, none, none, none], [], (M, nx))) := q_ofV [some (.ref a), none, none, none, none, none, none, none, none, none] h rfl (Nat.le_of_ble_eq_true rfl) (Or.inr rfl)
theorem lc_Slit_bestRule_233 : lookI (eC E_Slit_bestRule) (.invokevirtual 233) = some (2, x_Slit_beginTrial) := rfl
theorem lc_Slit_bestRule_148 : lookI (eC E_Slit_bestRule) (.invokevirtual 148) = some (1, x_Yard_fulfilEach) := rfl
theorem lc_Slit_bestRule_239 : lookI (eC E_Slit_bestRule) (.invokevirtual 239) = some (2, x_Yard_tally) := rfl
theorem lf_Slit_bestRule_16 : lookN (eF E_Slit_bestRule) 16 = some (5, 1) := rfl
theorem lb_Slit_bestRule : eB E_Slit_bestRule = true := rfl
-- CoilSlits.bestStack
def E_Slit_bestStack : Env := (true, [(12, 5, 0)], [(.invokevirtual 242, 2, x_Yard_widerThanTop), (.invokevirtual 80, 2, x_Yard_heightOf), (.invokevirtual 62, 2, x_Yard_hasRoom)], [], [], zST, false)
def d_Slit_bestStack : Dn := (sq (blk E_Slit_bestStack [.iconst (-1), .istore_n 1, .iconst 0, .istore_n 2, .iconst 0, .istore_n 3])
  (sq (lop (cfo [4, 5, 6] (cno (cat E_Slit_bestStack [.iload_n 3, .bipush 6] (.if_icmp .ge 95))))
  (sq (blk E_Slit_bestStack [.aload_n 0, .getfield 12, .iload_n 3, .invokevirtual 242, .istore 4])
  (sq (ite' (cno (cat E_Slit_bestStack [.aload_n 0, .getfield 12, .iload_n 3, .invokevirtual 80, .aload_n 0, .getfield 12, .iload_n 1, .invokevirtual 80] (.if_icmp .ge 7)))
  (blk E_Slit_bestStack [.iconst 1])
  (blk E_Slit_bestStack [.iconst 0]))
  (sq (blk E_Slit_bestStack [.istore 5])
  (sq (ite' (cor (cat E_Slit_bestStack [.iload_n 1, .iconst (-1)] (.if_icmp .eq 20)) (cor (cat E_Slit_bestStack [.iload 4, .iload_n 2] (.if_icmp .lt 14)) (can (cno (cat E_Slit_bestStack [.iload 4, .iload_n 2] (.if_icmp .ne 12))) (cno (cat E_Slit_bestStack [.iload 5] (.ifCond .eq 7))))))
  (blk E_Slit_bestStack [.iconst 1])
  (blk E_Slit_bestStack [.iconst 0]))
  (sq (blk E_Slit_bestStack [.istore 6])
  (sq (ite' (can (cno (cat E_Slit_bestStack [.aload_n 0, .getfield 12, .iload_n 3, .invokevirtual 62] (.ifCond .eq 13))) (cno (cat E_Slit_bestStack [.iload 6] (.ifCond .eq 8))))
  (blk E_Slit_bestStack [.iload_n 3, .istore_n 1, .iload 4, .istore_n 2])
  (blk E_Slit_bestStack []))
  (blk E_Slit_bestStack [.iinc 3 1])))))))
  (blk E_Slit_bestStack []) zFU)
  (rti E_Slit_bestStack [.iload_n 1])))
def x_Slit_bestStack : Ex := zrv 5 (exb true 7 d_Slit_bestStack)
abbrev r_Slit_bestStack : Room := ({ frames := 2, cells := 0, slots := 0, locals := 49 } : Room)
theorem eo_Slit_bestStack (hw : zWok w) (cx : CX w p s m args c b_Slit_bestStack 7 "CoilSlits") : EnvOk w true p l e r_Slit_bestStack s m args below meth c Q b_Slit_bestStack 7 "CoilSlits" E_Slit_bestStack :=
  ⟨rfl, by decide +kernel, by decide +kernel, by decide +kernel, hw, fun h => absurd h (by decide),
  List.forall_mem_cons.mpr ⟨call_V cx (ct_Yard_widerThanTop w l hw) tw_364 tw_361 tw_2 tw_362 tw_363 (ci := 2) (Nat.le_of_ble_eq_true rfl) rfl (by decide +kernel) ⟨Nat.le_of_ble_eq_true rfl, Nat.le_of_ble_eq_true rfl⟩, List.forall_mem_cons.mpr ⟨call_V cx (ct_Yard_heightOf w l hw) tw_368 tw_365 tw_2 tw_366 tw_367 (ci := 2) (Nat.le_of_ble_eq_true rfl) rfl (by decide +kernel) ⟨Nat.le_of_ble_eq_true rfl, Nat.le_of_ble_eq_true rfl⟩, List.forall_mem_cons.mpr ⟨call_V cx (ct_Yard_hasRoom w l hw) tw_372 tw_369 tw_2 tw_370 tw_371 (ci := 2) (Nat.le_of_ble_eq_true rfl) rfl (by decide +kernel) ⟨Nat.le_of_ble_eq_true rfl, Nat.le_of_ble_eq_true rfl⟩, fun q hq => absurd hq List.not_mem_nil⟩⟩⟩⟩
theorem sn_Slit_bestStack (h : MC w true p l e R s m args below meth c Q b_Slit_bestStack 7 "CoilSlits" E_Slit_bestStack 0 0 F (some .int)) : Sn (zK w true p l e R s m args below meth c Q 7) F (fun _ => False) (fun _ => False) 0 0 0 d_Slit_bestStack 0 0 0 := by
  unfold d_Slit_bestStack
  exact (sn_sq (pm := 6) (m_blk h zz (by decide +kernel))
  (sn_sq (pm := 104) (sn_lop (pt := 12) (pu := 101) (p2 := 101) (px := 104) (kb2 := fun _ => False) (kc2 := fun _ => False) (sc_fo m_fo (sc_no (m_cat h zz (p1 := 9) (tgt := 104) (by decide +kernel) (by decide +kernel) (by decide))))
  (sn_sq (pm := 22) (m_blk h zz (by decide +kernel))
  (sn_sq (pm := 46) (sn_ite (pt := 41) (pf := 45) (sc_no (m_cat h zz (p1 := 38) (tgt := 45) (by decide +kernel) (by decide +kernel) (by decide)))
  (sn_goto (pm := 42) (m_blk h zz (by decide +kernel)) (m_goto h (off := 4) (by decide +kernel) (by decide)))
  (m_blk h zz (by decide +kernel)))
  (sn_sq (pm := 48) (m_blk h zz (by decide +kernel))
  (sn_sq (pm := 75) (sn_ite (pt := 70) (pf := 74) (sc_or (pm := 53) (m_cat h zz (p1 := 50) (tgt := 70) (by decide +kernel) (by decide +kernel) (by decide)) (sc_or (pm := 59) (m_cat h zz (p1 := 56) (tgt := 70) (by decide +kernel) (by decide +kernel) (by decide)) (sc_an (pm := 65) (sc_no (m_cat h zz (p1 := 62) (tgt := 74) (by decide +kernel) (by decide +kernel) (by decide))) (sc_no (m_cat h zz (p1 := 67) (tgt := 74) (by decide +kernel) (by decide +kernel) (by decide))))))
  (sn_goto (pm := 71) (m_blk h zz (by decide +kernel)) (m_goto h (off := 4) (by decide +kernel) (by decide)))
  (m_blk h zz (by decide +kernel)))
  (sn_sq (pm := 77) (m_blk h zz (by decide +kernel))
  (sn_sq (pm := 98) (sn_ite (pt := 93) (pf := 98) (sc_an (pm := 88) (sc_no (m_cat h zz (p1 := 85) (tgt := 98) (by decide +kernel) (by decide +kernel) (by decide))) (sc_no (m_cat h zz (p1 := 90) (tgt := 98) (by decide +kernel) (by decide +kernel) (by decide))))
  (m_blk h zz (by decide +kernel))
  (m_blk h zz rfl))
  (m_blk h zz (by decide +kernel))))))))
  (m_blk h zz rfl) (m_goto h (off := (-95)) (by decide +kernel) (by decide)) zFU)
  (m_rti h zz (p1 := 105) (by decide +kernel) (by decide +kernel) (Nat.zero_le _) (Nat.zero_le _))))
theorem ct_Slit_bestStack (w : Wd) (l : Launch) (hw : zWok w) : CT w l y_Slit_bestStack b_Slit_bestStack 7 (some .int) r_Slit_bestStack (exb true 7 d_Slit_bestStack) :=
  ct_plain (by decide +kernel) (fun p e s m args below meth c Q cx hnm => eo_Slit_bestStack hw cx) (fun p e s m args below meth c Q F h => sn_Slit_bestStack h)
theorem q_Slit_bestStack {a : Nat} {fs : List Value} {M : Hp} {nx : Nat}  (h : M a = some (cO 5 fs)) : x_Slit_bestStack [.ref a] (M, nx) = zres (d_Slit_bestStack ([some (.ref a), none, none, none, none, none, none], [], (M, nx))) := q_ofV [some (.ref a), none, none, none, none, none, none] h rfl (Nat.le_of_ble_eq_true rfl) (Or.inr rfl)
theorem lc_Slit_bestStack_242 : lookI (eC E_Slit_bestStack) (.invokevirtual 242) = some (2, x_Yard_widerThanTop) := rfl
theorem lc_Slit_bestStack_80 : lookI (eC E_Slit_bestStack) (.invokevirtual 80) = some (2, x_Yard_heightOf) := rfl
theorem lc_Slit_bestStack_62 : lookI (eC E_Slit_bestStack) (.invokevirtual 62) = some (2, x_Yard_hasRoom) := rfl
theorem lf_Slit_bestStack_12 : lookN (eF E_Slit_bestStack) 12 = some (5, 0) := rfl
theorem lb_Slit_bestStack : eB E_Slit_bestStack = true := rfl
-- CoilSlits.used
def E_Slit_used : Env := (true, [(12, 5, 0)], [(.invokevirtual 239, 2, x_Yard_tally)], [], [], zST, false)
def d_Slit_used : Dn := (sq (blk E_Slit_used [.aload_n 0, .getfield 12, .bipush 7, .invokevirtual 239, .istore_n 1, .iload_n 1, .aload_n 0, .getfield 12, .bipush 8, .invokevirtual 239, .iadd, .aload_n 0, .getfield 12, .bipush 9, .invokevirtual 239, .iadd, .istore_n 2])
  (sq (ite' (cno (cat E_Slit_used [.iload_n 2] (.ifCond .ne 7)))
  (blk E_Slit_used [.dconst 1])
  (blk E_Slit_used [.iload_n 1, .i2d, .iload_n 2, .i2d, .ddiv]))
  (rtd E_Slit_used [])))
def x_Slit_used : Ex := zrv 5 (exb true 3 d_Slit_used)
abbrev r_Slit_used : Room := ({ frames := 2, cells := 0, slots := 0, locals := 42 } : Room)
theorem eo_Slit_used (hw : zWok w) (cx : CX w p s m args c b_Slit_used 3 "CoilSlits") : EnvOk w true p l e r_Slit_used s m args below meth c Q b_Slit_used 3 "CoilSlits" E_Slit_used :=
  ⟨rfl, by decide +kernel, by decide +kernel, by decide +kernel, hw, fun h => absurd h (by decide),
  List.forall_mem_cons.mpr ⟨call_V cx (ct_Yard_tally w l hw) tw_356 tw_353 tw_2 tw_354 tw_355 (ci := 2) (Nat.le_of_ble_eq_true rfl) rfl (by decide +kernel) ⟨Nat.le_of_ble_eq_true rfl, Nat.le_of_ble_eq_true rfl⟩, fun q hq => absurd hq List.not_mem_nil⟩⟩
theorem sn_Slit_used (h : MC w true p l e R s m args below meth c Q b_Slit_used 3 "CoilSlits" E_Slit_used 0 0 F (some .double)) : Sn (zK w true p l e R s m args below meth c Q 3) F (fun _ => False) (fun _ => False) 0 0 0 d_Slit_used 0 0 0 := by
  unfold d_Slit_used
  exact (sn_sq (pm := 32) (m_blk h zz (by decide +kernel))
  (sn_sq (pm := 45) (sn_ite (pt := 36) (pf := 40) (sc_no (m_cat h zz (p1 := 33) (tgt := 40) (by decide +kernel) (by decide +kernel) (by decide)))
  (sn_goto (pm := 37) (m_blk h zz (by decide +kernel)) (m_goto h (off := 8) (by decide +kernel) (by decide)))
  (m_blk h zz (by decide +kernel)))
  (m_rtd h zz (p1 := 45) (by decide +kernel) (by decide +kernel) (Nat.zero_le _) (Nat.zero_le _))))
theorem ct_Slit_used (w : Wd) (l : Launch) (hw : zWok w) : CT w l y_Slit_used b_Slit_used 3 (some .double) r_Slit_used (exb true 3 d_Slit_used) :=
  ct_plain (by decide +kernel) (fun p e s m args below meth c Q cx hnm => eo_Slit_used hw cx) (fun p e s m args below meth c Q F h => sn_Slit_used h)
theorem q_Slit_used {a : Nat} {fs : List Value} {M : Hp} {nx : Nat}  (h : M a = some (cO 5 fs)) : x_Slit_used [.ref a] (M, nx) = zres (d_Slit_used ([some (.ref a), none, none], [], (M, nx))) := q_ofV [some (.ref a), none, none] h rfl (Nat.le_of_ble_eq_true rfl) (Or.inr rfl)
theorem lc_Slit_used_239 : lookI (eC E_Slit_used) (.invokevirtual 239) = some (2, x_Yard_tally) := rfl
theorem lf_Slit_used_12 : lookN (eF E_Slit_used) 12 = some (5, 0) := rfl
theorem lb_Slit_used : eB E_Slit_used = true := rfl
-- CoilSlits$History.kept
def E_Hist_kept : Env := (true, [(18, 3, 2)], [], [], [], zST, false)
def d_Hist_kept : Dn := (rti E_Hist_kept [.aload_n 0, .getfield 18])
def x_Hist_kept : Ex := zrv 3 (exb true 1 d_Hist_kept)
abbrev r_Hist_kept : Room := ({ frames := 0, cells := 0, slots := 0, locals := 0 } : Room)
theorem eo_Hist_kept (hw : zWok w) (cx : CX w p s m args c b_Hist_kept 1 "CoilSlits$History") : EnvOk w true p l e r_Hist_kept s m args below meth c Q b_Hist_kept 1 "CoilSlits$History" E_Hist_kept :=
  ⟨rfl, by decide +kernel, by decide +kernel, by decide +kernel, hw, fun h => absurd h (by decide),
  fun q hq => absurd hq List.not_mem_nil⟩
theorem sn_Hist_kept (h : MC w true p l e R s m args below meth c Q b_Hist_kept 1 "CoilSlits$History" E_Hist_kept 0 0 F (some .int)) : Sn (zK w true p l e R s m args below meth c Q 1) F (fun _ => False) (fun _ => False) 0 0 0 d_Hist_kept 0 0 0 := by
  unfold d_Hist_kept
  exact (m_rti h zz (p1 := 4) (by decide +kernel) (by decide +kernel) (Nat.zero_le _) (Nat.zero_le _))
theorem ct_Hist_kept (w : Wd) (l : Launch) (hw : zWok w) : CT w l y_Hist_kept b_Hist_kept 1 (some .int) r_Hist_kept (exb true 1 d_Hist_kept) :=
  ct_plain (by decide +kernel) (fun p e s m args below meth c Q cx hnm => eo_Hist_kept hw cx) (fun p e s m args below meth c Q F h => sn_Hist_kept h)
theorem q_Hist_kept {a : Nat} {fs : List Value} {M : Hp} {nx : Nat}  (h : M a = some (cO 3 fs)) : x_Hist_kept [.ref a] (M, nx) = zres (d_Hist_kept ([some (.ref a)], [], (M, nx))) := q_ofV [some (.ref a)] h rfl (Nat.le_of_ble_eq_true rfl) (Or.inr rfl)
theorem lf_Hist_kept_18 : lookN (eF E_Hist_kept) 18 = some (3, 2) := rfl
theorem lb_Hist_kept : eB E_Hist_kept = true := rfl
-- CoilSlits.counted
def E_Slit_counted : Env := (true, [(12, 5, 0), (22, 5, 2)], [(.invokevirtual 275, 1, x_Yard_coilCount), (.invokevirtual 278, 2, x_Yard_sumOfCoils), (.invokevirtual 111, 1, x_Yard_orderCount), (.invokevirtual 195, 1, x_Hist_kept), (.invokevirtual 239, 2, x_Yard_tally)], [], [], zST, false)
def d_Slit_counted : Dn := (swi E_Slit_counted [.iload_n 1] [(0, (rti E_Slit_counted [.aload_n 0, .getfield 12, .invokevirtual 275])), (1, (rti E_Slit_counted [.aload_n 0, .getfield 12, .iconst 0, .invokevirtual 278])), (2, (rti E_Slit_counted [.aload_n 0, .getfield 12, .iconst 3, .invokevirtual 278])), (3, (rti E_Slit_counted [.aload_n 0, .getfield 12, .invokevirtual 111])), (13, (rti E_Slit_counted [.aload_n 0, .getfield 22, .invokevirtual 195]))]
  (rti E_Slit_counted [.aload_n 0, .getfield 12, .iload_n 1, .invokevirtual 239]))
def x_Slit_counted : Ex := zrv 5 (exb true 2 d_Slit_counted)
abbrev r_Slit_counted : Room := ({ frames := 2, cells := 0, slots := 0, locals := 47 } : Room)
theorem eo_Slit_counted (hw : zWok w) (cx : CX w p s m args c b_Slit_counted 2 "CoilSlits") : EnvOk w true p l e r_Slit_counted s m args below meth c Q b_Slit_counted 2 "CoilSlits" E_Slit_counted :=
  ⟨rfl, by decide +kernel, by decide +kernel, by decide +kernel, hw, fun h => absurd h (by decide),
  List.forall_mem_cons.mpr ⟨call_V cx (ct_Yard_coilCount w l hw) tw_389 tw_386 tw_2 tw_387 tw_388 (ci := 2) (Nat.le_of_ble_eq_true rfl) rfl (by decide +kernel) ⟨Nat.le_of_ble_eq_true rfl, Nat.le_of_ble_eq_true rfl⟩, List.forall_mem_cons.mpr ⟨call_V cx (ct_Yard_sumOfCoils w l hw) tw_393 tw_390 tw_2 tw_391 tw_392 (ci := 2) (Nat.le_of_ble_eq_true rfl) rfl (by decide +kernel) ⟨Nat.le_of_ble_eq_true rfl, Nat.le_of_ble_eq_true rfl⟩, List.forall_mem_cons.mpr ⟨call_V cx (ct_Yard_orderCount w l hw) tw_397 tw_394 tw_2 tw_395 tw_396 (ci := 2) (Nat.le_of_ble_eq_true rfl) rfl (by decide +kernel) ⟨Nat.le_of_ble_eq_true rfl, Nat.le_of_ble_eq_true rfl⟩, List.forall_mem_cons.mpr ⟨call_V cx (ct_Hist_kept w l hw) tw_401 tw_398 tw_6 tw_399 tw_400 (ci := 3) (Nat.le_of_ble_eq_true rfl) rfl (by decide +kernel) ⟨Nat.le_of_ble_eq_true rfl, Nat.le_of_ble_eq_true rfl⟩, List.forall_mem_cons.mpr ⟨call_V cx (ct_Yard_tally w l hw) tw_356 tw_353 tw_2 tw_354 tw_355 (ci := 2) (Nat.le_of_ble_eq_true rfl) rfl (by decide +kernel) ⟨Nat.le_of_ble_eq_true rfl, Nat.le_of_ble_eq_true rfl⟩, fun q hq => absurd hq List.not_mem_nil⟩⟩⟩⟩⟩⟩
theorem sn_Slit_counted (h : MC w true p l e R s m args below meth c Q b_Slit_counted 2 "CoilSlits" E_Slit_counted 0 0 F (some .int)) : Sn (zK w true p l e R s m args below meth c Q 2) F (fun _ => False) (fun _ => False) 0 0 0 d_Slit_counted 0 0 0 := by
  unfold d_Slit_counted
  exact (m_sw h zz (p1 := 1) (pd := 114) [(0, 72), (1, 80), (2, 89), (3, 98), (13, 106)] (by decide +kernel) (by decide +kernel)
  (swl_cons (m_rti h zz (p1 := 79) (by decide +kernel) (by decide +kernel) (Nat.zero_le _) (Nat.zero_le _))
  (swl_cons (m_rti h zz (p1 := 88) (by decide +kernel) (by decide +kernel) (Nat.zero_le _) (Nat.zero_le _))
  (swl_cons (m_rti h zz (p1 := 97) (by decide +kernel) (by decide +kernel) (Nat.zero_le _) (Nat.zero_le _))
  (swl_cons (m_rti h zz (p1 := 105) (by decide +kernel) (by decide +kernel) (Nat.zero_le _) (Nat.zero_le _))
  (swl_cons (m_rti h zz (p1 := 113) (by decide +kernel) (by decide +kernel) (Nat.zero_le _) (Nat.zero_le _))
  swl_nil)))))
  (m_rti h zz (p1 := 122) (by decide +kernel) (by decide +kernel) (Nat.zero_le _) (Nat.zero_le _)))
theorem ct_Slit_counted (w : Wd) (l : Launch) (hw : zWok w) : CT w l y_Slit_counted b_Slit_counted 2 (some .int) r_Slit_counted (exb true 2 d_Slit_counted) :=
  ct_plain (by decide +kernel) (fun p e s m args below meth c Q cx hnm => eo_Slit_counted hw cx) (fun p e s m args below meth c Q F h => sn_Slit_counted h)
theorem q_Slit_counted {a : Nat} {fs : List Value} {M : Hp} {nx : Nat} (x0 : Int32) (h : M a = some (cO 5 fs)) : x_Slit_counted [.ref a, .int x0] (M, nx) = zres (d_Slit_counted ([some (.ref a), some (.int x0)], [], (M, nx))) := q_ofV [some (.ref a), some (.int x0)] h rfl (Nat.le_of_ble_eq_true rfl) (Or.inr rfl)
theorem lc_Slit_counted_275 : lookI (eC E_Slit_counted) (.invokevirtual 275) = some (1, x_Yard_coilCount) := rfl
theorem lc_Slit_counted_278 : lookI (eC E_Slit_counted) (.invokevirtual 278) = some (2, x_Yard_sumOfCoils) := rfl
theorem lc_Slit_counted_111 : lookI (eC E_Slit_counted) (.invokevirtual 111) = some (1, x_Yard_orderCount) := rfl
theorem lc_Slit_counted_195 : lookI (eC E_Slit_counted) (.invokevirtual 195) = some (1, x_Hist_kept) := rfl
theorem lc_Slit_counted_239 : lookI (eC E_Slit_counted) (.invokevirtual 239) = some (2, x_Yard_tally) := rfl
theorem lf_Slit_counted_12 : lookN (eF E_Slit_counted) 12 = some (5, 0) := rfl
theorem lf_Slit_counted_22 : lookN (eF E_Slit_counted) 22 = some (5, 2) := rfl
theorem lb_Slit_counted : eB E_Slit_counted = true := rfl
-- CoilSlits.hashed
def E_Slit_hashed : Env := (false, [], [], [(311, .long 31)], [], zST, false)
def d_Slit_hashed : Dn := (rtl E_Slit_hashed [.ldc2_w 311, .lload_n 0, .lmul, .lload_n 2, .ladd])
def x_Slit_hashed : Ex := exb false 4 d_Slit_hashed
abbrev r_Slit_hashed : Room := ({ frames := 0, cells := 0, slots := 0, locals := 0 } : Room)
theorem eo_Slit_hashed (hw : zWok w) (cx : CX w p s m args c b_Slit_hashed 4 "CoilSlits") : EnvOk w false p l e r_Slit_hashed s m args below meth c Q b_Slit_hashed 4 "CoilSlits" E_Slit_hashed :=
  ⟨rfl, by decide +kernel, by decide +kernel, by decide +kernel, hw, fun h => absurd h (by decide),
  fun q hq => absurd hq List.not_mem_nil⟩
theorem sn_Slit_hashed (h : MC w false p l e R s m args below meth c Q b_Slit_hashed 4 "CoilSlits" E_Slit_hashed 0 0 F (some .long)) : Sn (zK w false p l e R s m args below meth c Q 4) F (fun _ => False) (fun _ => False) 0 0 0 d_Slit_hashed 0 0 0 := by
  unfold d_Slit_hashed
  exact (m_rtl h zz (p1 := 7) (by decide +kernel) (by decide +kernel) (Nat.zero_le _) (Nat.zero_le _))
theorem ct_Slit_hashed (w : Wd) (l : Launch) (hw : zWok w) : CT w l y_Slit_hashed b_Slit_hashed 4 (some .long) r_Slit_hashed (exb false 4 d_Slit_hashed) :=
  ct_plain (by decide +kernel) (fun p e s m args below meth c Q cx hnm => eo_Slit_hashed hw cx) (fun p e s m args below meth c Q F h => sn_Slit_hashed h)
theorem q_Slit_hashed (x0 : Int64) (x1 : Int64) (g : G) : x_Slit_hashed [.long x0, .long x1] g = zres (d_Slit_hashed ([some (.long x0), none, some (.long x1), none], [], g)) := q_of [some (.long x0), none, some (.long x1), none] rfl (Nat.le_of_ble_eq_true rfl) (Or.inl rfl)
theorem lk_Slit_hashed_311 : lookN (eK E_Slit_hashed) 311 = some (.long 31) := rfl
theorem lb_Slit_hashed : eB E_Slit_hashed = false := rfl
-- CoilSlits.hashedPlace
def E_Slit_hashedPlace : Env := (false, [(12, 5, 0)], [(.invokevirtual 205, 2, x_Yard_numberAt), (.invokestatic 247, 2, x_Slit_hashed), (.invokevirtual 215, 3, x_Yard_coilProperty)], [], [], zST, false)
def d_Slit_hashedPlace : Dn := (sq (blk E_Slit_hashedPlace [.aload_n 0, .getfield 12, .iload_n 3, .invokevirtual 205, .istore 4, .lload_n 1, .iload 4, .i2l, .invokestatic 247, .lstore 5])
  (sq (ite' (cno (cat E_Slit_hashedPlace [.iload 4, .iconst (-1)] (.if_icmp .eq 37)))
  (sq (blk E_Slit_hashedPlace [.iconst 0, .istore 7])
  (lop (cfo [4] (cno (cat E_Slit_hashedPlace [.iload 7, .bipush 6] (.if_icmp .ge 27))))
  (blk E_Slit_hashedPlace [.lload 5, .aload_n 0, .getfield 12, .iload_n 3, .iload 7, .invokevirtual 215, .i2l, .invokestatic 247, .lstore 5, .iinc 7 1])
  (blk E_Slit_hashedPlace []) zFU))
  (blk E_Slit_hashedPlace []))
  (rtl E_Slit_hashedPlace [.lload 5])))
def x_Slit_hashedPlace : Ex := zrv 5 (exb false 8 d_Slit_hashedPlace)
abbrev r_Slit_hashedPlace : Room := ({ frames := 3, cells := 0, slots := 0, locals := 64 } : Room)
theorem eo_Slit_hashedPlace (hw : zWok w) (cx : CX w p s m args c b_Slit_hashedPlace 8 "CoilSlits") : EnvOk w false p l e r_Slit_hashedPlace s m args below meth c Q b_Slit_hashedPlace 8 "CoilSlits" E_Slit_hashedPlace :=
  ⟨rfl, by decide +kernel, by decide +kernel, by decide +kernel, hw, fun h => absurd h (by decide),
  List.forall_mem_cons.mpr ⟨call_V cx (ct_Yard_numberAt w l hw) tw_417 tw_414 tw_2 tw_415 tw_416 (ci := 2) (Nat.le_of_ble_eq_true rfl) rfl (by decide +kernel) ⟨Nat.le_of_ble_eq_true rfl, Nat.le_of_ble_eq_true rfl⟩, List.forall_mem_cons.mpr ⟨call_S cx (ct_Slit_hashed w l hw) tw_404 tw_402 tw_1 tw_403 (by decide +kernel) ⟨Nat.le_of_ble_eq_true rfl, Nat.le_of_ble_eq_true rfl⟩, List.forall_mem_cons.mpr ⟨call_V cx (ct_Yard_coilProperty w l hw) tw_421 tw_418 tw_2 tw_419 tw_420 (ci := 2) (Nat.le_of_ble_eq_true rfl) rfl (by decide +kernel) ⟨Nat.le_of_ble_eq_true rfl, Nat.le_of_ble_eq_true rfl⟩, fun q hq => absurd hq List.not_mem_nil⟩⟩⟩⟩
theorem sn_Slit_hashedPlace (h : MC w false p l e R s m args below meth c Q b_Slit_hashedPlace 8 "CoilSlits" E_Slit_hashedPlace 0 0 F (some .long)) : Sn (zK w false p l e R s m args below meth c Q 8) F (fun _ => False) (fun _ => False) 0 0 0 d_Slit_hashedPlace 0 0 0 := by
  unfold d_Slit_hashedPlace
  exact (sn_sq (pm := 19) (m_blk h zz (by decide +kernel))
  (sn_sq (pm := 59) (sn_ite (pt := 25) (pf := 59) (sc_no (m_cat h zz (p1 := 22) (tgt := 59) (by decide +kernel) (by decide +kernel) (by decide)))
  (sn_sq (pm := 28) (m_blk h zz (by decide +kernel))
  (sn_lop (pt := 35) (pu := 56) (p2 := 56) (px := 59) (kb2 := fun _ => False) (kc2 := fun _ => False) (sc_fo m_fo (sc_no (m_cat h zz (p1 := 32) (tgt := 59) (by decide +kernel) (by decide +kernel) (by decide))))
  (m_blk h zz (by decide +kernel))
  (m_blk h zz rfl) (m_goto h (off := (-28)) (by decide +kernel) (by decide)) zFU))
  (m_blk h zz rfl))
  (m_rtl h zz (p1 := 61) (by decide +kernel) (by decide +kernel) (Nat.zero_le _) (Nat.zero_le _))))
theorem ct_Slit_hashedPlace (w : Wd) (l : Launch) (hw : zWok w) : CT w l y_Slit_hashedPlace b_Slit_hashedPlace 8 (some .long) r_Slit_hashedPlace (exb false 8 d_Slit_hashedPlace) :=
  ct_plain (by decide +kernel) (fun p e s m args below meth c Q cx hnm => eo_Slit_hashedPlace hw cx) (fun p e s m args below meth c Q F h => sn_Slit_hashedPlace h)
theorem q_Slit_hashedPlace {a : Nat} {fs : List Value} {M : Hp} {nx : Nat} (x0 : Int64) (x1 : Int32) (h : M a = some (cO 5 fs)) : x_Slit_hashedPlace [.ref a, .long x0, .int x1] (M, nx) = zres (d_Slit_hashedPlace ([some (.ref a), some (.long x0), none, some (.int x1), none, none, none, none], [], (M, nx))) := q_ofV [some (.ref a), some (.long x0), none, some (.int x1), none, none, none, none] h rfl (Nat.le_of_ble_eq_true rfl) (Or.inl rfl)
theorem lc_Slit_hashedPlace_205 : lookI (eC E_Slit_hashedPlace) (.invokevirtual 205) = some (2, x_Yard_numberAt) := rfl
theorem lc_Slit_hashedPlace_247 : lookI (eC E_Slit_hashedPlace) (.invokestatic 247) = some (2, x_Slit_hashed) := rfl
theorem lc_Slit_hashedPlace_215 : lookI (eC E_Slit_hashedPlace) (.invokevirtual 215) = some (3, x_Yard_coilProperty) := rfl
theorem lf_Slit_hashedPlace_12 : lookN (eF E_Slit_hashedPlace) 12 = some (5, 0) := rfl
theorem lb_Slit_hashedPlace : eB E_Slit_hashedPlace = false := rfl
-- CoilSlits.numberOfChoice
def E_Slit_numberOfChoice : Env := (true, [(12, 5, 0)], [(.invokevirtual 281, 2, x_Yard_choose), (.invokevirtual 205, 2, x_Yard_numberAt)], [], [], zST, false)
def d_Slit_numberOfChoice : Dn := (sq (blk E_Slit_numberOfChoice [.aload_n 0, .getfield 12, .iload_n 1, .invokevirtual 281, .istore_n 2])
  (sq (ite' (cno (cat E_Slit_numberOfChoice [.iload_n 2, .iconst (-1)] (.if_icmp .ne 7)))
  (blk E_Slit_numberOfChoice [.iconst (-1)])
  (blk E_Slit_numberOfChoice [.aload_n 0, .getfield 12, .iload_n 2, .invokevirtual 205]))
  (rti E_Slit_numberOfChoice [])))
def x_Slit_numberOfChoice : Ex := zrv 5 (exb true 3 d_Slit_numberOfChoice)
abbrev r_Slit_numberOfChoice : Room := ({ frames := 4, cells := 0, slots := 0, locals := 93 } : Room)
theorem eo_Slit_numberOfChoice (hw : zWok w) (cx : CX w p s m args c b_Slit_numberOfChoice 3 "CoilSlits") : EnvOk w true p l e r_Slit_numberOfChoice s m args below meth c Q b_Slit_numberOfChoice 3 "CoilSlits" E_Slit_numberOfChoice :=
  ⟨rfl, by decide +kernel, by decide +kernel, by decide +kernel, hw, fun h => absurd h (by decide),
  List.forall_mem_cons.mpr ⟨call_V cx (ct_Yard_choose w l hw) tw_208 tw_446 tw_2 tw_206 tw_207 (ci := 2) (Nat.le_of_ble_eq_true rfl) rfl (by decide +kernel) ⟨Nat.le_of_ble_eq_true rfl, Nat.le_of_ble_eq_true rfl⟩, List.forall_mem_cons.mpr ⟨call_V cx (ct_Yard_numberAt w l hw) tw_417 tw_414 tw_2 tw_415 tw_416 (ci := 2) (Nat.le_of_ble_eq_true rfl) rfl (by decide +kernel) ⟨Nat.le_of_ble_eq_true rfl, Nat.le_of_ble_eq_true rfl⟩, fun q hq => absurd hq List.not_mem_nil⟩⟩⟩
theorem sn_Slit_numberOfChoice (h : MC w true p l e R s m args below meth c Q b_Slit_numberOfChoice 3 "CoilSlits" E_Slit_numberOfChoice 0 0 F (some .int)) : Sn (zK w true p l e R s m args below meth c Q 3) F (fun _ => False) (fun _ => False) 0 0 0 d_Slit_numberOfChoice 0 0 0 := by
  unfold d_Slit_numberOfChoice
  exact (sn_sq (pm := 9) (m_blk h zz (by decide +kernel))
  (sn_sq (pm := 26) (sn_ite (pt := 14) (pf := 18) (sc_no (m_cat h zz (p1 := 11) (tgt := 18) (by decide +kernel) (by decide +kernel) (by decide)))
  (sn_goto (pm := 15) (m_blk h zz (by decide +kernel)) (m_goto h (off := 11) (by decide +kernel) (by decide)))
  (m_blk h zz (by decide +kernel)))
  (m_rti h zz (p1 := 26) (by decide +kernel) (by decide +kernel) (Nat.zero_le _) (Nat.zero_le _))))
theorem ct_Slit_numberOfChoice (w : Wd) (l : Launch) (hw : zWok w) : CT w l y_Slit_numberOfChoice b_Slit_numberOfChoice 3 (some .int) r_Slit_numberOfChoice (exb true 3 d_Slit_numberOfChoice) :=
  ct_plain (by decide +kernel) (fun p e s m args below meth c Q cx hnm => eo_Slit_numberOfChoice hw cx) (fun p e s m args below meth c Q F h => sn_Slit_numberOfChoice h)
theorem q_Slit_numberOfChoice {a : Nat} {fs : List Value} {M : Hp} {nx : Nat} (x0 : Int32) (h : M a = some (cO 5 fs)) : x_Slit_numberOfChoice [.ref a, .int x0] (M, nx) = zres (d_Slit_numberOfChoice ([some (.ref a), some (.int x0), none], [], (M, nx))) := q_ofV [some (.ref a), some (.int x0), none] h rfl (Nat.le_of_ble_eq_true rfl) (Or.inr rfl)
theorem lc_Slit_numberOfChoice_281 : lookI (eC E_Slit_numberOfChoice) (.invokevirtual 281) = some (2, x_Yard_choose) := rfl
theorem lc_Slit_numberOfChoice_205 : lookI (eC E_Slit_numberOfChoice) (.invokevirtual 205) = some (2, x_Yard_numberAt) := rfl
theorem lf_Slit_numberOfChoice_12 : lookN (eF E_Slit_numberOfChoice) 12 = some (5, 0) := rfl
theorem lb_Slit_numberOfChoice : eB E_Slit_numberOfChoice = true := rfl
-- CoilSlits.gained
def E_Slit_gained : Env := (true, [(16, 5, 1), (12, 5, 0)], [(.invokevirtual 239, 2, x_Yard_tally)], [], [], zST, false)
def d_Slit_gained : Dn := (rti E_Slit_gained [.aload_n 0, .getfield 16, .iload_n 1, .invokevirtual 239, .aload_n 0, .getfield 12, .iload_n 1, .invokevirtual 239, .isub])
def x_Slit_gained : Ex := zrv 5 (exb true 2 d_Slit_gained)
abbrev r_Slit_gained : Room := ({ frames := 2, cells := 0, slots := 0, locals := 42 } : Room)
theorem eo_Slit_gained (hw : zWok w) (cx : CX w p s m args c b_Slit_gained 2 "CoilSlits") : EnvOk w true p l e r_Slit_gained s m args below meth c Q b_Slit_gained 2 "CoilSlits" E_Slit_gained :=
  ⟨rfl, by decide +kernel, by decide +kernel, by decide +kernel, hw, fun h => absurd h (by decide),
  List.forall_mem_cons.mpr ⟨call_V cx (ct_Yard_tally w l hw) tw_356 tw_353 tw_2 tw_354 tw_355 (ci := 2) (Nat.le_of_ble_eq_true rfl) rfl (by decide +kernel) ⟨Nat.le_of_ble_eq_true rfl, Nat.le_of_ble_eq_true rfl⟩, fun q hq => absurd hq List.not_mem_nil⟩⟩
theorem sn_Slit_gained (h : MC w true p l e R s m args below meth c Q b_Slit_gained 2 "CoilSlits" E_Slit_gained 0 0 F (some .int)) : Sn (zK w true p l e R s m args below meth c Q 2) F (fun _ => False) (fun _ => False) 0 0 0 d_Slit_gained 0 0 0 := by
  unfold d_Slit_gained
  exact (m_rti h zz (p1 := 17) (by decide +kernel) (by decide +kernel) (Nat.zero_le _) (Nat.zero_le _))
theorem ct_Slit_gained (w : Wd) (l : Launch) (hw : zWok w) : CT w l y_Slit_gained b_Slit_gained 2 (some .int) r_Slit_gained (exb true 2 d_Slit_gained) :=
  ct_plain (by decide +kernel) (fun p e s m args below meth c Q cx hnm => eo_Slit_gained hw cx) (fun p e s m args below meth c Q F h => sn_Slit_gained h)
theorem q_Slit_gained {a : Nat} {fs : List Value} {M : Hp} {nx : Nat} (x0 : Int32) (h : M a = some (cO 5 fs)) : x_Slit_gained [.ref a, .int x0] (M, nx) = zres (d_Slit_gained ([some (.ref a), some (.int x0)], [], (M, nx))) := q_ofV [some (.ref a), some (.int x0)] h rfl (Nat.le_of_ble_eq_true rfl) (Or.inr rfl)
theorem lc_Slit_gained_239 : lookI (eC E_Slit_gained) (.invokevirtual 239) = some (2, x_Yard_tally) := rfl
theorem lf_Slit_gained_16 : lookN (eF E_Slit_gained) 16 = some (5, 1) := rfl
theorem lf_Slit_gained_12 : lookN (eF E_Slit_gained) 12 = some (5, 0) := rfl
theorem lb_Slit_gained : eB E_Slit_gained = true := rfl
-- CoilSlits.gainOfTrial
def E_Slit_gainOfTrial : Env := (true, [], [(.invokevirtual 287, 2, x_Slit_gained)], [], [], zST, false)
def d_Slit_gainOfTrial : Dn := (swi E_Slit_gainOfTrial [.iload_n 1] [(0, (rti E_Slit_gainOfTrial [.aload_n 0, .bipush 6, .invokevirtual 287])), (1, (rti E_Slit_gainOfTrial [.aload_n 0, .iconst 4, .invokevirtual 287])), (2, (rti E_Slit_gainOfTrial [.aload_n 0, .bipush 9, .invokevirtual 287]))]
  (rti E_Slit_gainOfTrial [.aload_n 0, .iconst 5, .invokevirtual 287]))
def x_Slit_gainOfTrial : Ex := zrv 5 (exb true 2 d_Slit_gainOfTrial)
abbrev r_Slit_gainOfTrial : Room := ({ frames := 3, cells := 0, slots := 0, locals := 63 } : Room)
theorem eo_Slit_gainOfTrial (hw : zWok w) (cx : CX w p s m args c b_Slit_gainOfTrial 2 "CoilSlits") : EnvOk w true p l e r_Slit_gainOfTrial s m args below meth c Q b_Slit_gainOfTrial 2 "CoilSlits" E_Slit_gainOfTrial :=
  ⟨rfl, by decide +kernel, by decide +kernel, by decide +kernel, hw, fun h => absurd h (by decide),
  List.forall_mem_cons.mpr ⟨call_V cx (ct_Slit_gained w l hw) tw_455 tw_452 tw_1 tw_454 tp_25 (ci := 5) (Nat.le_of_ble_eq_true rfl) rfl (by decide +kernel) ⟨Nat.le_of_ble_eq_true rfl, Nat.le_of_ble_eq_true rfl⟩, fun q hq => absurd hq List.not_mem_nil⟩⟩
theorem sn_Slit_gainOfTrial (h : MC w true p l e R s m args below meth c Q b_Slit_gainOfTrial 2 "CoilSlits" E_Slit_gainOfTrial 0 0 F (some .int)) : Sn (zK w true p l e R s m args below meth c Q 2) F (fun _ => False) (fun _ => False) 0 0 0 d_Slit_gainOfTrial 0 0 0 := by
  unfold d_Slit_gainOfTrial
  exact (m_sw h zz (p1 := 1) (pd := 48) [(0, 28), (1, 35), (2, 41)] (by decide +kernel) (by decide +kernel)
  (swl_cons (m_rti h zz (p1 := 34) (by decide +kernel) (by decide +kernel) (Nat.zero_le _) (Nat.zero_le _))
  (swl_cons (m_rti h zz (p1 := 40) (by decide +kernel) (by decide +kernel) (Nat.zero_le _) (Nat.zero_le _))
  (swl_cons (m_rti h zz (p1 := 47) (by decide +kernel) (by decide +kernel) (Nat.zero_le _) (Nat.zero_le _))
  swl_nil)))
  (m_rti h zz (p1 := 53) (by decide +kernel) (by decide +kernel) (Nat.zero_le _) (Nat.zero_le _)))
theorem ct_Slit_gainOfTrial (w : Wd) (l : Launch) (hw : zWok w) : CT w l y_Slit_gainOfTrial b_Slit_gainOfTrial 2 (some .int) r_Slit_gainOfTrial (exb true 2 d_Slit_gainOfTrial) :=
  ct_plain (by decide +kernel) (fun p e s m args below meth c Q cx hnm => eo_Slit_gainOfTrial hw cx) (fun p e s m args below meth c Q F h => sn_Slit_gainOfTrial h)
theorem q_Slit_gainOfTrial {a : Nat} {fs : List Value} {M : Hp} {nx : Nat} (x0 : Int32) (h : M a = some (cO 5 fs)) : x_Slit_gainOfTrial [.ref a, .int x0] (M, nx) = zres (d_Slit_gainOfTrial ([some (.ref a), some (.int x0)], [], (M, nx))) := q_ofV [some (.ref a), some (.int x0)] h rfl (Nat.le_of_ble_eq_true rfl) (Or.inr rfl)
theorem lc_Slit_gainOfTrial_287 : lookI (eC E_Slit_gainOfTrial) (.invokevirtual 287) = some (2, x_Slit_gained) := rfl
theorem lb_Slit_gainOfTrial : eB E_Slit_gainOfTrial = true := rfl
-- CoilSlits.hashedOrder
def E_Slit_hashedOrder : Env := (false, [(12, 5, 0), (16, 5, 1)], [(.invokevirtual 220, 3, x_Yard_orderProperty), (.invokestatic 247, 2, x_Slit_hashed), (.invokevirtual 228, 2, x_Slit_numberOfChoice), (.invokevirtual 233, 2, x_Slit_beginTrial), (.invokevirtual 145, 2, x_Yard_fulfil), (.invokevirtual 236, 2, x_Slit_gainOfTrial)], [], [], zST, false)
def d_Slit_hashedOrder : Dn := (sq (blk E_Slit_hashedOrder [.lload_n 1, .lstore 4, .iconst 0, .istore 6])
  (sq (lop (cfo [7] (cno (cat E_Slit_hashedOrder [.iload 6, .bipush 8] (.if_icmp .ge 27))))
  (blk E_Slit_hashedOrder [.lload 4, .aload_n 0, .getfield 12, .iload_n 3, .iload 6, .invokevirtual 220, .i2l, .invokestatic 247, .lstore 4, .iinc 6 1])
  (blk E_Slit_hashedOrder []) zFU)
  (sq (blk E_Slit_hashedOrder [.lload 4, .aload_n 0, .iload_n 3, .invokevirtual 228, .i2l, .invokestatic 247, .lstore 4, .iconst 0, .istore 6])
  (sq (lop (cfo [7] (cno (cat E_Slit_hashedOrder [.iload 6, .iconst 2] (.if_icmp .ge 53))))
  (sq (blk E_Slit_hashedOrder [.aload_n 0, .iload 6, .invokevirtual 233, .aload_n 0, .getfield 16, .iload_n 3, .invokevirtual 145, .pop, .iconst 0, .istore 7])
  (sq (lop (cno (cat E_Slit_hashedOrder [.iload 7, .iconst 4] (.if_icmp .ge 23)))
  (blk E_Slit_hashedOrder [.lload 4, .aload_n 0, .iload 7, .invokevirtual 236, .i2l, .invokestatic 247, .lstore 4, .iinc 7 1])
  (blk E_Slit_hashedOrder []) zFU)
  (blk E_Slit_hashedOrder [.iinc 6 1])))
  (blk E_Slit_hashedOrder []) zFU)
  (rtl E_Slit_hashedOrder [.lload 4])))))
def x_Slit_hashedOrder : Ex := zrv 5 (exb false 8 d_Slit_hashedOrder)
abbrev r_Slit_hashedOrder : Room := ({ frames := 5, cells := 0, slots := 0, locals := 158 } : Room)
theorem eo_Slit_hashedOrder (hw : zWok w) (cx : CX w p s m args c b_Slit_hashedOrder 8 "CoilSlits") : EnvOk w false p l e r_Slit_hashedOrder s m args below meth c Q b_Slit_hashedOrder 8 "CoilSlits" E_Slit_hashedOrder :=
  ⟨rfl, by decide +kernel, by decide +kernel, by decide +kernel, hw, fun h => absurd h (by decide),
  List.forall_mem_cons.mpr ⟨call_V cx (ct_Yard_orderProperty w l hw) tw_429 tw_426 tw_2 tw_427 tw_428 (ci := 2) (Nat.le_of_ble_eq_true rfl) rfl (by decide +kernel) ⟨Nat.le_of_ble_eq_true rfl, Nat.le_of_ble_eq_true rfl⟩, List.forall_mem_cons.mpr ⟨call_S cx (ct_Slit_hashed w l hw) tw_404 tw_402 tw_1 tw_403 (by decide +kernel) ⟨Nat.le_of_ble_eq_true rfl, Nat.le_of_ble_eq_true rfl⟩, List.forall_mem_cons.mpr ⟨call_V cx (ct_Slit_numberOfChoice w l hw) tw_445 tw_442 tw_1 tw_444 tp_23 (ci := 5) (Nat.le_of_ble_eq_true rfl) rfl (by decide +kernel) ⟨Nat.le_of_ble_eq_true rfl, Nat.le_of_ble_eq_true rfl⟩, List.forall_mem_cons.mpr ⟨call_V cx (ct_Slit_beginTrial w l hw) tw_347 tw_344 tw_1 tw_346 tp_16 (ci := 5) (Nat.le_of_ble_eq_true rfl) rfl (by decide +kernel) ⟨Nat.le_of_ble_eq_true rfl, Nat.le_of_ble_eq_true rfl⟩, List.forall_mem_cons.mpr ⟨call_V cx (ct_Yard_fulfil w l hw) tw_204 tw_447 tw_2 tw_202 tw_203 (ci := 2) (Nat.le_of_ble_eq_true rfl) rfl (by decide +kernel) ⟨Nat.le_of_ble_eq_true rfl, Nat.le_of_ble_eq_true rfl⟩, List.forall_mem_cons.mpr ⟨call_V cx (ct_Slit_gainOfTrial w l hw) tw_451 tw_448 tw_1 tw_450 tp_24 (ci := 5) (Nat.le_of_ble_eq_true rfl) rfl (by decide +kernel) ⟨Nat.le_of_ble_eq_true rfl, Nat.le_of_ble_eq_true rfl⟩, fun q hq => absurd hq List.not_mem_nil⟩⟩⟩⟩⟩⟩⟩
theorem sn_Slit_hashedOrder (h : MC w false p l e R s m args below meth c Q b_Slit_hashedOrder 8 "CoilSlits" E_Slit_hashedOrder 0 0 F (some .long)) : Sn (zK w false p l e R s m args below meth c Q 8) F (fun _ => False) (fun _ => False) 0 0 0 d_Slit_hashedOrder 0 0 0 := by
  unfold d_Slit_hashedOrder
  exact (sn_sq (pm := 6) (m_blk h zz (by decide +kernel))
  (sn_sq (pm := 37) (sn_lop (pt := 13) (pu := 34) (p2 := 34) (px := 37) (kb2 := fun _ => False) (kc2 := fun _ => False) (sc_fo m_fo (sc_no (m_cat h zz (p1 := 10) (tgt := 37) (by decide +kernel) (by decide +kernel) (by decide))))
  (m_blk h zz (by decide +kernel))
  (m_blk h zz rfl) (m_goto h (off := (-28)) (by decide +kernel) (by decide)) zFU)
  (sn_sq (pm := 53) (m_blk h zz (by decide +kernel))
  (sn_sq (pm := 109) (sn_lop (pt := 59) (pu := 106) (p2 := 106) (px := 109) (kb2 := fun _ => False) (kc2 := fun _ => False) (sc_fo m_fo (sc_no (m_cat h zz (p1 := 56) (tgt := 109) (by decide +kernel) (by decide +kernel) (by decide))))
  (sn_sq (pm := 77) (m_blk h zz (by decide +kernel))
  (sn_sq (pm := 103) (sn_lop (pt := 83) (pu := 100) (p2 := 100) (px := 103) (kb2 := fun _ => False) (kc2 := fun _ => False) (sc_no (m_cat h zz (p1 := 80) (tgt := 103) (by decide +kernel) (by decide +kernel) (by decide)))
  (m_blk h zz (by decide +kernel))
  (m_blk h zz rfl) (m_goto h (off := (-23)) (by decide +kernel) (by decide)) zFU)
  (m_blk h zz (by decide +kernel))))
  (m_blk h zz rfl) (m_goto h (off := (-53)) (by decide +kernel) (by decide)) zFU)
  (m_rtl h zz (p1 := 111) (by decide +kernel) (by decide +kernel) (Nat.zero_le _) (Nat.zero_le _))))))
theorem ct_Slit_hashedOrder (w : Wd) (l : Launch) (hw : zWok w) : CT w l y_Slit_hashedOrder b_Slit_hashedOrder 8 (some .long) r_Slit_hashedOrder (exb false 8 d_Slit_hashedOrder) :=
  ct_plain (by decide +kernel) (fun p e s m args below meth c Q cx hnm => eo_Slit_hashedOrder hw cx) (fun p e s m args below meth c Q F h => sn_Slit_hashedOrder h)
theorem q_Slit_hashedOrder {a : Nat} {fs : List Value} {M : Hp} {nx : Nat} (x0 : Int64) (x1 : Int32) (h : M a = some (cO 5 fs)) : x_Slit_hashedOrder [.ref a, .long x0, .int x1] (M, nx) = zres (d_Slit_hashedOrder ([some (.ref a), some (.long x0), none, some (.int x1), none, none, none, none], [], (M, nx))) := q_ofV [some (.ref a), some (.long x0), none, some (.int x1), none, none, none, none] h rfl (Nat.le_of_ble_eq_true rfl) (Or.inl rfl)
theorem lc_Slit_hashedOrder_220 : lookI (eC E_Slit_hashedOrder) (.invokevirtual 220) = some (3, x_Yard_orderProperty) := rfl
theorem lc_Slit_hashedOrder_247 : lookI (eC E_Slit_hashedOrder) (.invokestatic 247) = some (2, x_Slit_hashed) := rfl
theorem lc_Slit_hashedOrder_228 : lookI (eC E_Slit_hashedOrder) (.invokevirtual 228) = some (2, x_Slit_numberOfChoice) := rfl
theorem lc_Slit_hashedOrder_233 : lookI (eC E_Slit_hashedOrder) (.invokevirtual 233) = some (2, x_Slit_beginTrial) := rfl
theorem lc_Slit_hashedOrder_145 : lookI (eC E_Slit_hashedOrder) (.invokevirtual 145) = some (2, x_Yard_fulfil) := rfl
theorem lc_Slit_hashedOrder_236 : lookI (eC E_Slit_hashedOrder) (.invokevirtual 236) = some (2, x_Slit_gainOfTrial) := rfl
theorem lf_Slit_hashedOrder_12 : lookN (eF E_Slit_hashedOrder) 12 = some (5, 0) := rfl
theorem lf_Slit_hashedOrder_16 : lookN (eF E_Slit_hashedOrder) 16 = some (5, 1) := rfl
theorem lb_Slit_hashedOrder : eB E_Slit_hashedOrder = false := rfl
-- CoilSlits.bitsOf
def E_Slit_bitsOf : Env := (false, [], [], [(313, .long 1023), (315, .double 4611686018427387904), (317, .double 4841369599423283200)], [], zST, false)
def d_Slit_bitsOf : Dn := (sq (ite' (cno (cat E_Slit_bitsOf [.dload_n 0, .dconst 0, .dcmp .g] (.ifCond .gt 5)))
  (rtl E_Slit_bitsOf [.lconst 0])
  (blk E_Slit_bitsOf []))
  (sq (blk E_Slit_bitsOf [.dload_n 0, .dstore_n 2, .ldc2_w 313, .lstore 4, .iconst 0, .istore 6])
  (sq (lop (can (cno (cat E_Slit_bitsOf [.iload 6, .sipush 1022] (.if_icmp .ge 27))) (cno (cat E_Slit_bitsOf [.dload_n 2, .dconst 1, .dcmp .g] (.ifCond .ge 21))))
  (blk E_Slit_bitsOf [.dload_n 2, .ldc2_w 315, .dmul, .dstore_n 2, .lload 4, .lconst 1, .lsub, .lstore 4, .iinc 6 1])
  (blk E_Slit_bitsOf []) zFU)
  (rtl E_Slit_bitsOf [.dload_n 2, .dconst 1, .dsub, .ldc2_w 317, .dmul, .d2l, .lstore 6, .lload 4, .bipush 52, .lshl, .lload 6, .ladd]))))
def x_Slit_bitsOf : Ex := exb false 8 d_Slit_bitsOf
abbrev r_Slit_bitsOf : Room := ({ frames := 0, cells := 0, slots := 0, locals := 0 } : Room)
theorem eo_Slit_bitsOf (hw : zWok w) (cx : CX w p s m args c b_Slit_bitsOf 8 "CoilSlits") : EnvOk w false p l e r_Slit_bitsOf s m args below meth c Q b_Slit_bitsOf 8 "CoilSlits" E_Slit_bitsOf :=
  ⟨rfl, by decide +kernel, by decide +kernel, by decide +kernel, hw, fun h => absurd h (by decide),
  fun q hq => absurd hq List.not_mem_nil⟩
theorem sn_Slit_bitsOf (h : MC w false p l e R s m args below meth c Q b_Slit_bitsOf 8 "CoilSlits" E_Slit_bitsOf 0 0 F (some .long)) : Sn (zK w false p l e R s m args below meth c Q 8) F (fun _ => False) (fun _ => False) 0 0 0 d_Slit_bitsOf 0 0 0 := by
  unfold d_Slit_bitsOf
  exact (sn_sq (pm := 8) (sn_ite (pt := 6) (pf := 8) (sc_no (m_cat h zz (p1 := 3) (tgt := 8) (by decide +kernel) (by decide +kernel) (by decide)))
  (m_rtl h zz (p1 := 7) (by decide +kernel) (by decide +kernel) (Nat.zero_le _) (Nat.zero_le _))
  (m_blk h zz rfl))
  (sn_sq (pm := 18) (m_blk h zz (by decide +kernel))
  (sn_sq (pm := 50) (sn_lop (pt := 32) (pu := 47) (p2 := 47) (px := 50) (kb2 := fun _ => False) (kc2 := fun _ => False) (sc_an (pm := 26) (sc_no (m_cat h zz (p1 := 23) (tgt := 50) (by decide +kernel) (by decide +kernel) (by decide))) (sc_no (m_cat h zz (p1 := 29) (tgt := 50) (by decide +kernel) (by decide +kernel) (by decide))))
  (m_blk h zz (by decide +kernel))
  (m_blk h zz rfl) (m_goto h (off := (-29)) (by decide +kernel) (by decide)) zFU)
  (m_rtl h zz (p1 := 68) (by decide +kernel) (by decide +kernel) (Nat.zero_le _) (Nat.zero_le _)))))
theorem ct_Slit_bitsOf (w : Wd) (l : Launch) (hw : zWok w) : CT w l y_Slit_bitsOf b_Slit_bitsOf 8 (some .long) r_Slit_bitsOf (exb false 8 d_Slit_bitsOf) :=
  ct_plain (by decide +kernel) (fun p e s m args below meth c Q cx hnm => eo_Slit_bitsOf hw cx) (fun p e s m args below meth c Q F h => sn_Slit_bitsOf h)
theorem q_Slit_bitsOf (x0 : UInt64) (g : G) : x_Slit_bitsOf [.double x0] g = zres (d_Slit_bitsOf ([some (.double x0), none, none, none, none, none, none, none], [], g)) := q_of [some (.double x0), none, none, none, none, none, none, none] rfl (Nat.le_of_ble_eq_true rfl) (Or.inl rfl)
theorem lk_Slit_bitsOf_313 : lookN (eK E_Slit_bitsOf) 313 = some (.long 1023) := rfl
theorem lk_Slit_bitsOf_315 : lookN (eK E_Slit_bitsOf) 315 = some (.double 4611686018427387904) := rfl
theorem lk_Slit_bitsOf_317 : lookN (eK E_Slit_bitsOf) 317 = some (.double 4841369599423283200) := rfl
theorem lb_Slit_bitsOf : eB E_Slit_bitsOf = false := rfl
-- CoilSlits.digest
def E_Slit_digest : Env := (false, [(12, 5, 0), (174, 5, 5), (31, 5, 3)], [(.invokevirtual 225, 2, x_Slit_counted), (.invokestatic 247, 2, x_Slit_hashed), (.invokevirtual 165, 2, x_Yard_settingNow), (.invokevirtual 251, 3, x_Slit_hashedPlace), (.invokevirtual 111, 1, x_Yard_orderCount), (.invokevirtual 255, 3, x_Slit_hashedOrder), (.invokevirtual 258, 1, x_Slit_bestRule), (.invokevirtual 261, 1, x_Slit_bestStack), (.invokevirtual 264, 1, x_Slit_used), (.invokestatic 268, 1, x_Slit_bitsOf), (.invokevirtual 272, 2, x_Row_get)], [(245, .long 2879)], [], zST, false)
def d_Slit_digest : Dn := (sq (blk E_Slit_digest [.ldc2_w 245, .lstore_n 1, .iconst 0, .istore_n 3])
  (sq (lop (cno (cat E_Slit_digest [.iload_n 3, .bipush 14] (.if_icmp .ge 20)))
  (blk E_Slit_digest [.lload_n 1, .aload_n 0, .iload_n 3, .invokevirtual 225, .i2l, .invokestatic 247, .lstore_n 1, .iinc 3 1])
  (blk E_Slit_digest []) zFU)
  (sq (blk E_Slit_digest [.iconst 0, .istore_n 3])
  (sq (lop (cno (cat E_Slit_digest [.iload_n 3, .iconst 4] (.if_icmp .ge 23)))
  (blk E_Slit_digest [.lload_n 1, .aload_n 0, .getfield 12, .iload_n 3, .invokevirtual 165, .i2l, .invokestatic 247, .lstore_n 1, .iinc 3 1])
  (blk E_Slit_digest []) zFU)
  (sq (blk E_Slit_digest [.iconst 0, .istore_n 3])
  (sq (lop (cno (cat E_Slit_digest [.iload_n 3, .bipush 30] (.if_icmp .ge 16)))
  (blk E_Slit_digest [.aload_n 0, .lload_n 1, .iload_n 3, .invokevirtual 251, .lstore_n 1, .iinc 3 1])
  (blk E_Slit_digest []) zFU)
  (sq (blk E_Slit_digest [.iconst 0, .istore_n 3])
  (sq (lop (cno (cat E_Slit_digest [.iload_n 3, .aload_n 0, .getfield 12, .invokevirtual 111] (.if_icmp .ge 16)))
  (blk E_Slit_digest [.aload_n 0, .lload_n 1, .iload_n 3, .invokevirtual 255, .lstore_n 1, .iinc 3 1])
  (blk E_Slit_digest []) zFU)
  (sq (blk E_Slit_digest [.lload_n 1, .aload_n 0, .invokevirtual 258, .i2l, .invokestatic 247, .lstore_n 1, .lload_n 1, .aload_n 0, .invokevirtual 261, .i2l, .invokestatic 247, .lstore_n 1, .lload_n 1, .aload_n 0, .invokevirtual 264, .invokestatic 268, .invokestatic 247, .lstore_n 1, .lload_n 1, .aload_n 0, .getfield 174, .i2l, .invokestatic 247, .lstore_n 1, .iconst 0, .istore_n 3])
  (sq (lop (cno (cat E_Slit_digest [.iload_n 3, .aload_n 0, .getfield 174] (.if_icmp .ge 23)))
  (blk E_Slit_digest [.lload_n 1, .aload_n 0, .getfield 31, .iload_n 3, .invokevirtual 272, .i2l, .invokestatic 247, .lstore_n 1, .iinc 3 1])
  (blk E_Slit_digest []) zFU)
  (rtl E_Slit_digest [.lload_n 1])))))))))))
def x_Slit_digest : Ex := zrv 5 (exb false 4 d_Slit_digest)
abbrev r_Slit_digest : Room := ({ frames := 7, cells := 0, slots := 0, locals := 212 } : Room)
theorem eo_Slit_digest (hw : zWok w) (cx : CX w p s m args c b_Slit_digest 4 "CoilSlits") : EnvOk w false p l e r_Slit_digest s m args below meth c Q b_Slit_digest 4 "CoilSlits" E_Slit_digest :=
  ⟨rfl, by decide +kernel, by decide +kernel, by decide +kernel, hw, fun h => absurd h (by decide),
  List.forall_mem_cons.mpr ⟨call_V cx (ct_Slit_counted w l hw) tw_385 tw_382 tw_1 tw_384 tp_17 (ci := 5) (Nat.le_of_ble_eq_true rfl) rfl (by decide +kernel) ⟨Nat.le_of_ble_eq_true rfl, Nat.le_of_ble_eq_true rfl⟩, List.forall_mem_cons.mpr ⟨call_S cx (ct_Slit_hashed w l hw) tw_404 tw_402 tw_1 tw_403 (by decide +kernel) ⟨Nat.le_of_ble_eq_true rfl, Nat.le_of_ble_eq_true rfl⟩, List.forall_mem_cons.mpr ⟨call_V cx (ct_Yard_settingNow w l hw) tw_409 tw_406 tw_2 tw_407 tw_408 (ci := 2) (Nat.le_of_ble_eq_true rfl) rfl (by decide +kernel) ⟨Nat.le_of_ble_eq_true rfl, Nat.le_of_ble_eq_true rfl⟩, List.forall_mem_cons.mpr ⟨call_V cx (ct_Slit_hashedPlace w l hw) tw_413 tw_410 tw_1 tw_412 tp_18 (ci := 5) (Nat.le_of_ble_eq_true rfl) rfl (by decide +kernel) ⟨Nat.le_of_ble_eq_true rfl, Nat.le_of_ble_eq_true rfl⟩, List.forall_mem_cons.mpr ⟨call_V cx (ct_Yard_orderCount w l hw) tw_397 tw_394 tw_2 tw_395 tw_396 (ci := 2) (Nat.le_of_ble_eq_true rfl) rfl (by decide +kernel) ⟨Nat.le_of_ble_eq_true rfl, Nat.le_of_ble_eq_true rfl⟩, List.forall_mem_cons.mpr ⟨call_V cx (ct_Slit_hashedOrder w l hw) tw_425 tw_422 tw_1 tw_424 tp_19 (ci := 5) (Nat.le_of_ble_eq_true rfl) rfl (by decide +kernel) ⟨Nat.le_of_ble_eq_true rfl, Nat.le_of_ble_eq_true rfl⟩, List.forall_mem_cons.mpr ⟨call_V cx (ct_Slit_bestRule w l hw) tw_343 tw_456 tw_1 tw_341 tw_342 (ci := 5) (Nat.le_of_ble_eq_true rfl) rfl (by decide +kernel) ⟨Nat.le_of_ble_eq_true rfl, Nat.le_of_ble_eq_true rfl⟩, List.forall_mem_cons.mpr ⟨call_V cx (ct_Slit_bestStack w l hw) tw_360 tw_457 tw_1 tw_358 tw_359 (ci := 5) (Nat.le_of_ble_eq_true rfl) rfl (by decide +kernel) ⟨Nat.le_of_ble_eq_true rfl, Nat.le_of_ble_eq_true rfl⟩, List.forall_mem_cons.mpr ⟨call_V cx (ct_Slit_used w l hw) tw_376 tw_458 tw_1 tw_374 tw_375 (ci := 5) (Nat.le_of_ble_eq_true rfl) rfl (by decide +kernel) ⟨Nat.le_of_ble_eq_true rfl, Nat.le_of_ble_eq_true rfl⟩, List.forall_mem_cons.mpr ⟨call_S cx (ct_Slit_bitsOf w l hw) tw_461 tw_459 tw_1 tw_460 (by decide +kernel) ⟨Nat.le_of_ble_eq_true rfl, Nat.le_of_ble_eq_true rfl⟩, List.forall_mem_cons.mpr ⟨call_V cx (ct_Row_get w l hw) tw_216 tw_300 tw_5 tw_214 tw_215 (ci := 0) (Nat.le_of_ble_eq_true rfl) rfl (by decide +kernel) ⟨Nat.le_of_ble_eq_true rfl, Nat.le_of_ble_eq_true rfl⟩, fun q hq => absurd hq List.not_mem_nil⟩⟩⟩⟩⟩⟩⟩⟩⟩⟩⟩⟩
theorem sn_Slit_digest (h : MC w false p l e R s m args below meth c Q b_Slit_digest 4 "CoilSlits" E_Slit_digest 0 0 F (some .long)) : Sn (zK w false p l e R s m args below meth c Q 4) F (fun _ => False) (fun _ => False) 0 0 0 d_Slit_digest 0 0 0 := by
  unfold d_Slit_digest
  exact (sn_sq (pm := 6) (m_blk h zz (by decide +kernel))
  (sn_sq (pm := 29) (sn_lop (pt := 12) (pu := 26) (p2 := 26) (px := 29) (kb2 := fun _ => False) (kc2 := fun _ => False) (sc_no (m_cat h zz (p1 := 9) (tgt := 29) (by decide +kernel) (by decide +kernel) (by decide)))
  (m_blk h zz (by decide +kernel))
  (m_blk h zz rfl) (m_goto h (off := (-20)) (by decide +kernel) (by decide)) zFU)
  (sn_sq (pm := 31) (m_blk h zz (by decide +kernel))
  (sn_sq (pm := 56) (sn_lop (pt := 36) (pu := 53) (p2 := 53) (px := 56) (kb2 := fun _ => False) (kc2 := fun _ => False) (sc_no (m_cat h zz (p1 := 33) (tgt := 56) (by decide +kernel) (by decide +kernel) (by decide)))
  (m_blk h zz (by decide +kernel))
  (m_blk h zz rfl) (m_goto h (off := (-22)) (by decide +kernel) (by decide)) zFU)
  (sn_sq (pm := 58) (m_blk h zz (by decide +kernel))
  (sn_sq (pm := 77) (sn_lop (pt := 64) (pu := 74) (p2 := 74) (px := 77) (kb2 := fun _ => False) (kc2 := fun _ => False) (sc_no (m_cat h zz (p1 := 61) (tgt := 77) (by decide +kernel) (by decide +kernel) (by decide)))
  (m_blk h zz (by decide +kernel))
  (m_blk h zz rfl) (m_goto h (off := (-16)) (by decide +kernel) (by decide)) zFU)
  (sn_sq (pm := 79) (m_blk h zz (by decide +kernel))
  (sn_sq (pm := 103) (sn_lop (pt := 90) (pu := 100) (p2 := 100) (px := 103) (kb2 := fun _ => False) (kc2 := fun _ => False) (sc_no (m_cat h zz (p1 := 87) (tgt := 103) (by decide +kernel) (by decide +kernel) (by decide)))
  (m_blk h zz (by decide +kernel))
  (m_blk h zz rfl) (m_goto h (off := (-21)) (by decide +kernel) (by decide)) zFU)
  (sn_sq (pm := 147) (m_blk h zz (by decide +kernel))
  (sn_sq (pm := 175) (sn_lop (pt := 155) (pu := 172) (p2 := 172) (px := 175) (kb2 := fun _ => False) (kc2 := fun _ => False) (sc_no (m_cat h zz (p1 := 152) (tgt := 175) (by decide +kernel) (by decide +kernel) (by decide)))
  (m_blk h zz (by decide +kernel))
  (m_blk h zz rfl) (m_goto h (off := (-25)) (by decide +kernel) (by decide)) zFU)
  (m_rtl h zz (p1 := 176) (by decide +kernel) (by decide +kernel) (Nat.zero_le _) (Nat.zero_le _))))))))))))
theorem ct_Slit_digest (w : Wd) (l : Launch) (hw : zWok w) : CT w l y_Slit_digest b_Slit_digest 4 (some .long) r_Slit_digest (exb false 4 d_Slit_digest) :=
  ct_plain (by decide +kernel) (fun p e s m args below meth c Q cx hnm => eo_Slit_digest hw cx) (fun p e s m args below meth c Q F h => sn_Slit_digest h)
theorem q_Slit_digest {a : Nat} {fs : List Value} {M : Hp} {nx : Nat}  (h : M a = some (cO 5 fs)) : x_Slit_digest [.ref a] (M, nx) = zres (d_Slit_digest ([some (.ref a), none, none, none], [], (M, nx))) := q_ofV [some (.ref a), none, none, none] h rfl (Nat.le_of_ble_eq_true rfl) (Or.inl rfl)
theorem lc_Slit_digest_225 : lookI (eC E_Slit_digest) (.invokevirtual 225) = some (2, x_Slit_counted) := rfl
theorem lc_Slit_digest_247 : lookI (eC E_Slit_digest) (.invokestatic 247) = some (2, x_Slit_hashed) := rfl
theorem lc_Slit_digest_165 : lookI (eC E_Slit_digest) (.invokevirtual 165) = some (2, x_Yard_settingNow) := rfl
theorem lc_Slit_digest_251 : lookI (eC E_Slit_digest) (.invokevirtual 251) = some (3, x_Slit_hashedPlace) := rfl
theorem lc_Slit_digest_111 : lookI (eC E_Slit_digest) (.invokevirtual 111) = some (1, x_Yard_orderCount) := rfl
theorem lc_Slit_digest_255 : lookI (eC E_Slit_digest) (.invokevirtual 255) = some (3, x_Slit_hashedOrder) := rfl
theorem lc_Slit_digest_258 : lookI (eC E_Slit_digest) (.invokevirtual 258) = some (1, x_Slit_bestRule) := rfl
theorem lc_Slit_digest_261 : lookI (eC E_Slit_digest) (.invokevirtual 261) = some (1, x_Slit_bestStack) := rfl
theorem lc_Slit_digest_264 : lookI (eC E_Slit_digest) (.invokevirtual 264) = some (1, x_Slit_used) := rfl
theorem lc_Slit_digest_268 : lookI (eC E_Slit_digest) (.invokestatic 268) = some (1, x_Slit_bitsOf) := rfl
theorem lc_Slit_digest_272 : lookI (eC E_Slit_digest) (.invokevirtual 272) = some (2, x_Row_get) := rfl
theorem lf_Slit_digest_12 : lookN (eF E_Slit_digest) 12 = some (5, 0) := rfl
theorem lf_Slit_digest_174 : lookN (eF E_Slit_digest) 174 = some (5, 5) := rfl
theorem lf_Slit_digest_31 : lookN (eF E_Slit_digest) 31 = some (5, 3) := rfl
theorem lk_Slit_digest_245 : lookN (eK E_Slit_digest) 245 = some (.long 2879) := rfl
theorem lb_Slit_digest : eB E_Slit_digest = false := rfl
-- CoilSlits.isSetting
def E_Slit_isSetting : Env := (true, [], [(.invokestatic 53, 3, x_Slit_within)], [], [], zST, false)
def d_Slit_isSetting : Dn := (rtz E_Slit_isSetting [.iload_n 0, .iconst 0, .iconst 3, .invokestatic 53])
def x_Slit_isSetting : Ex := exb true 1 d_Slit_isSetting
abbrev r_Slit_isSetting : Room := ({ frames := 1, cells := 0, slots := 0, locals := 22 } : Room)
theorem eo_Slit_isSetting (hw : zWok w) (cx : CX w p s m args c b_Slit_isSetting 1 "CoilSlits") : EnvOk w true p l e r_Slit_isSetting s m args below meth c Q b_Slit_isSetting 1 "CoilSlits" E_Slit_isSetting :=
  ⟨rfl, by decide +kernel, by decide +kernel, by decide +kernel, hw, fun h => absurd h (by decide),
  List.forall_mem_cons.mpr ⟨call_S cx (ct_Slit_within w l hw) tw_319 tw_331 tw_1 tw_318 (by decide +kernel) ⟨Nat.le_of_ble_eq_true rfl, Nat.le_of_ble_eq_true rfl⟩, fun q hq => absurd hq List.not_mem_nil⟩⟩
theorem sn_Slit_isSetting (h : MC w true p l e R s m args below meth c Q b_Slit_isSetting 1 "CoilSlits" E_Slit_isSetting 0 0 F (some .boolean)) : Sn (zK w true p l e R s m args below meth c Q 1) F (fun _ => False) (fun _ => False) 0 0 0 d_Slit_isSetting 0 0 0 := by
  unfold d_Slit_isSetting
  exact (m_rtz h zz (p1 := 6) (by decide +kernel) (by decide +kernel) (Nat.zero_le _) (Nat.zero_le _))
theorem ct_Slit_isSetting (w : Wd) (l : Launch) (hw : zWok w) : CT w l y_Slit_isSetting b_Slit_isSetting 1 (some .boolean) r_Slit_isSetting (exb true 1 d_Slit_isSetting) :=
  ct_plain (by decide +kernel) (fun p e s m args below meth c Q cx hnm => eo_Slit_isSetting hw cx) (fun p e s m args below meth c Q F h => sn_Slit_isSetting h)
theorem q_Slit_isSetting (x0 : Int32) (g : G) : x_Slit_isSetting [.int x0] g = zres (d_Slit_isSetting ([some (.int x0)], [], g)) := q_of [some (.int x0)] rfl (Nat.le_of_ble_eq_true rfl) (Or.inr rfl)
theorem lc_Slit_isSetting_53 : lookI (eC E_Slit_isSetting) (.invokestatic 53) = some (3, x_Slit_within) := rfl
theorem lb_Slit_isSetting : eB E_Slit_isSetting = true := rfl
-- CoilSlits$CoilReader.stack
def E_Read_stack : Env := (true, [(24, 4, 4)], [], [], [], zST, false)
def d_Read_stack : Dn := (rti E_Read_stack [.aload_n 0, .getfield 24])
def x_Read_stack : Ex := zrv 4 (exb true 1 d_Read_stack)
abbrev r_Read_stack : Room := ({ frames := 0, cells := 0, slots := 0, locals := 0 } : Room)
theorem eo_Read_stack (hw : zWok w) (cx : CX w p s m args c b_Read_stack 1 "CoilSlits$CoilReader") : EnvOk w true p l e r_Read_stack s m args below meth c Q b_Read_stack 1 "CoilSlits$CoilReader" E_Read_stack :=
  ⟨rfl, by decide +kernel, by decide +kernel, by decide +kernel, hw, fun h => absurd h (by decide),
  fun q hq => absurd hq List.not_mem_nil⟩
theorem sn_Read_stack (h : MC w true p l e R s m args below meth c Q b_Read_stack 1 "CoilSlits$CoilReader" E_Read_stack 0 0 F (some .int)) : Sn (zK w true p l e R s m args below meth c Q 1) F (fun _ => False) (fun _ => False) 0 0 0 d_Read_stack 0 0 0 := by
  unfold d_Read_stack
  exact (m_rti h zz (p1 := 4) (by decide +kernel) (by decide +kernel) (Nat.zero_le _) (Nat.zero_le _))
theorem ct_Read_stack (w : Wd) (l : Launch) (hw : zWok w) : CT w l y_Read_stack b_Read_stack 1 (some .int) r_Read_stack (exb true 1 d_Read_stack) :=
  ct_plain (by decide +kernel) (fun p e s m args below meth c Q cx hnm => eo_Read_stack hw cx) (fun p e s m args below meth c Q F h => sn_Read_stack h)
theorem q_Read_stack {a : Nat} {fs : List Value} {M : Hp} {nx : Nat}  (h : M a = some (cO 4 fs)) : x_Read_stack [.ref a] (M, nx) = zres (d_Read_stack ([some (.ref a)], [], (M, nx))) := q_ofV [some (.ref a)] h rfl (Nat.le_of_ble_eq_true rfl) (Or.inr rfl)
theorem lf_Read_stack_24 : lookN (eF E_Read_stack) 24 = some (4, 4) := rfl
theorem lb_Read_stack : eB E_Read_stack = true := rfl
-- CoilSlits$CoilReader.width
def E_Read_width : Env := (true, [(15, 4, 1)], [], [], [], zST, false)
def d_Read_width : Dn := (rti E_Read_width [.aload_n 0, .getfield 15])
def x_Read_width : Ex := zrv 4 (exb true 1 d_Read_width)
abbrev r_Read_width : Room := ({ frames := 0, cells := 0, slots := 0, locals := 0 } : Room)
theorem eo_Read_width (hw : zWok w) (cx : CX w p s m args c b_Read_width 1 "CoilSlits$CoilReader") : EnvOk w true p l e r_Read_width s m args below meth c Q b_Read_width 1 "CoilSlits$CoilReader" E_Read_width :=
  ⟨rfl, by decide +kernel, by decide +kernel, by decide +kernel, hw, fun h => absurd h (by decide),
  fun q hq => absurd hq List.not_mem_nil⟩
theorem sn_Read_width (h : MC w true p l e R s m args below meth c Q b_Read_width 1 "CoilSlits$CoilReader" E_Read_width 0 0 F (some .int)) : Sn (zK w true p l e R s m args below meth c Q 1) F (fun _ => False) (fun _ => False) 0 0 0 d_Read_width 0 0 0 := by
  unfold d_Read_width
  exact (m_rti h zz (p1 := 4) (by decide +kernel) (by decide +kernel) (Nat.zero_le _) (Nat.zero_le _))
theorem ct_Read_width (w : Wd) (l : Launch) (hw : zWok w) : CT w l y_Read_width b_Read_width 1 (some .int) r_Read_width (exb true 1 d_Read_width) :=
  ct_plain (by decide +kernel) (fun p e s m args below meth c Q cx hnm => eo_Read_width hw cx) (fun p e s m args below meth c Q F h => sn_Read_width h)
theorem q_Read_width {a : Nat} {fs : List Value} {M : Hp} {nx : Nat}  (h : M a = some (cO 4 fs)) : x_Read_width [.ref a] (M, nx) = zres (d_Read_width ([some (.ref a)], [], (M, nx))) := q_ofV [some (.ref a)] h rfl (Nat.le_of_ble_eq_true rfl) (Or.inr rfl)
theorem lf_Read_width_15 : lookN (eF E_Read_width) 15 = some (4, 1) := rfl
theorem lb_Read_width : eB E_Read_width = true := rfl
-- CoilSlits$CoilReader.grade
def E_Read_grade : Env := (true, [(18, 4, 2)], [], [], [], zST, false)
def d_Read_grade : Dn := (rti E_Read_grade [.aload_n 0, .getfield 18])
def x_Read_grade : Ex := zrv 4 (exb true 1 d_Read_grade)
abbrev r_Read_grade : Room := ({ frames := 0, cells := 0, slots := 0, locals := 0 } : Room)
theorem eo_Read_grade (hw : zWok w) (cx : CX w p s m args c b_Read_grade 1 "CoilSlits$CoilReader") : EnvOk w true p l e r_Read_grade s m args below meth c Q b_Read_grade 1 "CoilSlits$CoilReader" E_Read_grade :=
  ⟨rfl, by decide +kernel, by decide +kernel, by decide +kernel, hw, fun h => absurd h (by decide),
  fun q hq => absurd hq List.not_mem_nil⟩
theorem sn_Read_grade (h : MC w true p l e R s m args below meth c Q b_Read_grade 1 "CoilSlits$CoilReader" E_Read_grade 0 0 F (some .int)) : Sn (zK w true p l e R s m args below meth c Q 1) F (fun _ => False) (fun _ => False) 0 0 0 d_Read_grade 0 0 0 := by
  unfold d_Read_grade
  exact (m_rti h zz (p1 := 4) (by decide +kernel) (by decide +kernel) (Nat.zero_le _) (Nat.zero_le _))
theorem ct_Read_grade (w : Wd) (l : Launch) (hw : zWok w) : CT w l y_Read_grade b_Read_grade 1 (some .int) r_Read_grade (exb true 1 d_Read_grade) :=
  ct_plain (by decide +kernel) (fun p e s m args below meth c Q cx hnm => eo_Read_grade hw cx) (fun p e s m args below meth c Q F h => sn_Read_grade h)
theorem q_Read_grade {a : Nat} {fs : List Value} {M : Hp} {nx : Nat}  (h : M a = some (cO 4 fs)) : x_Read_grade [.ref a] (M, nx) = zres (d_Read_grade ([some (.ref a)], [], (M, nx))) := q_ofV [some (.ref a)] h rfl (Nat.le_of_ble_eq_true rfl) (Or.inr rfl)
theorem lf_Read_grade_18 : lookN (eF E_Read_grade) 18 = some (4, 2) := rfl
theorem lb_Read_grade : eB E_Read_grade = true := rfl
-- CoilSlits$CoilReader.quality
def E_Read_quality : Env := (true, [(21, 4, 3)], [], [], [], zST, false)
def d_Read_quality : Dn := (rti E_Read_quality [.aload_n 0, .getfield 21])
def x_Read_quality : Ex := zrv 4 (exb true 1 d_Read_quality)
abbrev r_Read_quality : Room := ({ frames := 0, cells := 0, slots := 0, locals := 0 } : Room)
theorem eo_Read_quality (hw : zWok w) (cx : CX w p s m args c b_Read_quality 1 "CoilSlits$CoilReader") : EnvOk w true p l e r_Read_quality s m args below meth c Q b_Read_quality 1 "CoilSlits$CoilReader" E_Read_quality :=
  ⟨rfl, by decide +kernel, by decide +kernel, by decide +kernel, hw, fun h => absurd h (by decide),
  fun q hq => absurd hq List.not_mem_nil⟩
theorem sn_Read_quality (h : MC w true p l e R s m args below meth c Q b_Read_quality 1 "CoilSlits$CoilReader" E_Read_quality 0 0 F (some .int)) : Sn (zK w true p l e R s m args below meth c Q 1) F (fun _ => False) (fun _ => False) 0 0 0 d_Read_quality 0 0 0 := by
  unfold d_Read_quality
  exact (m_rti h zz (p1 := 4) (by decide +kernel) (by decide +kernel) (Nat.zero_le _) (Nat.zero_le _))
theorem ct_Read_quality (w : Wd) (l : Launch) (hw : zWok w) : CT w l y_Read_quality b_Read_quality 1 (some .int) r_Read_quality (exb true 1 d_Read_quality) :=
  ct_plain (by decide +kernel) (fun p e s m args below meth c Q cx hnm => eo_Read_quality hw cx) (fun p e s m args below meth c Q F h => sn_Read_quality h)
theorem q_Read_quality {a : Nat} {fs : List Value} {M : Hp} {nx : Nat}  (h : M a = some (cO 4 fs)) : x_Read_quality [.ref a] (M, nx) = zres (d_Read_quality ([some (.ref a)], [], (M, nx))) := q_ofV [some (.ref a)] h rfl (Nat.le_of_ble_eq_true rfl) (Or.inr rfl)
theorem lf_Read_quality_21 : lookN (eF E_Read_quality) 21 = some (4, 3) := rfl
theorem lb_Read_quality : eB E_Read_quality = true := rfl
-- CoilSlits.bringInBuffer
def E_Slit_bringInBuffer : Env := (true, [(38, 5, 4), (174, 5, 5), (31, 5, 3), (12, 5, 0)], [(.invokevirtual 290, 1, x_Read_restart), (.invokevirtual 272, 2, x_Row_get), (.invokevirtual 293, 2, x_Read_accepts), (.invokevirtual 296, 1, x_Read_stack), (.invokevirtual 299, 1, x_Yard_emptiest), (.invokevirtual 62, 2, x_Yard_hasRoom), (.invokevirtual 302, 1, x_Read_width), (.invokevirtual 305, 1, x_Read_grade), (.invokevirtual 308, 1, x_Read_quality), (.invokevirtual 74, 5, x_Yard_bringIn)], [], [], zST, false)
def d_Slit_bringInBuffer : Dn := (sq (blk E_Slit_bringInBuffer [.iconst 0, .istore_n 1, .aload_n 0, .getfield 38, .invokevirtual 290, .iconst 0, .istore_n 2])
  (sq (lop (cfo [3, 4, 5] (cno (cat E_Slit_bringInBuffer [.iload_n 2, .aload_n 0, .getfield 174] (.if_icmp .ge 144))))
  (sq (blk E_Slit_bringInBuffer [.aload_n 0, .getfield 38, .aload_n 0, .getfield 31, .iload_n 2, .invokevirtual 272, .invokevirtual 293, .istore_n 3])
  (sq (ite' (cor (cat E_Slit_bringInBuffer [.iload_n 2, .aload_n 0, .getfield 174, .iconst 1, .isub] (.if_icmp .eq 18)) (cno (cat E_Slit_bringInBuffer [.aload_n 0, .getfield 31, .iload_n 2, .iconst 1, .iadd, .invokevirtual 272, .bipush 59] (.if_icmp .ne 7))))
  (blk E_Slit_bringInBuffer [.iconst 1])
  (blk E_Slit_bringInBuffer [.iconst 0]))
  (sq (blk E_Slit_bringInBuffer [.istore 4])
  (sq (ite' (can (cno (cat E_Slit_bringInBuffer [.iload_n 3] (.ifCond .eq 86))) (cno (cat E_Slit_bringInBuffer [.iload 4] (.ifCond .eq 81))))
  (sq (ite' (cno (cat E_Slit_bringInBuffer [.aload_n 0, .getfield 38, .invokevirtual 296, .iconst (-1)] (.if_icmp .ne 13)))
  (blk E_Slit_bringInBuffer [.aload_n 0, .getfield 12, .invokevirtual 299])
  (blk E_Slit_bringInBuffer [.aload_n 0, .getfield 38, .invokevirtual 296]))
  (sq (blk E_Slit_bringInBuffer [.istore 5])
  (sq (ite' (cno (cat E_Slit_bringInBuffer [.aload_n 0, .getfield 12, .iload 5, .invokevirtual 62] (.ifCond .ne 5)))
  (rti E_Slit_bringInBuffer [.iload_n 1])
  (blk E_Slit_bringInBuffer []))
  (blk E_Slit_bringInBuffer [.aload_n 0, .getfield 12, .iload 5, .aload_n 0, .getfield 38, .invokevirtual 302, .aload_n 0, .getfield 38, .invokevirtual 305, .aload_n 0, .getfield 38, .invokevirtual 308, .invokevirtual 74, .pop, .iinc 1 1]))))
  (blk E_Slit_bringInBuffer []))
  (blk E_Slit_bringInBuffer [.iinc 2 1])))))
  (blk E_Slit_bringInBuffer []) zFU)
  (rti E_Slit_bringInBuffer [.iload_n 1])))
def x_Slit_bringInBuffer : Ex := zrv 5 (exb true 6 d_Slit_bringInBuffer)
abbrev r_Slit_bringInBuffer : Room := ({ frames := 3, cells := 0, slots := 0, locals := 76 } : Room)
theorem eo_Slit_bringInBuffer (hw : zWok w) (cx : CX w p s m args c b_Slit_bringInBuffer 6 "CoilSlits") : EnvOk w true p l e r_Slit_bringInBuffer s m args below meth c Q b_Slit_bringInBuffer 6 "CoilSlits" E_Slit_bringInBuffer :=
  ⟨rfl, by decide +kernel, by decide +kernel, by decide +kernel, hw, fun h => absurd h (by decide),
  List.forall_mem_cons.mpr ⟨call_V cx (ct_Read_restart w l hw) tw_299 tw_296 tw_7 tw_297 tw_298 (ci := 4) (Nat.le_of_ble_eq_true rfl) rfl (by decide +kernel) ⟨Nat.le_of_ble_eq_true rfl, Nat.le_of_ble_eq_true rfl⟩, List.forall_mem_cons.mpr ⟨call_V cx (ct_Row_get w l hw) tw_216 tw_300 tw_5 tw_214 tw_215 (ci := 0) (Nat.le_of_ble_eq_true rfl) rfl (by decide +kernel) ⟨Nat.le_of_ble_eq_true rfl, Nat.le_of_ble_eq_true rfl⟩, List.forall_mem_cons.mpr ⟨call_V cx (ct_Read_accepts w l hw) tw_304 tw_301 tw_7 tw_302 tw_303 (ci := 4) (Nat.le_of_ble_eq_true rfl) rfl (by decide +kernel) ⟨Nat.le_of_ble_eq_true rfl, Nat.le_of_ble_eq_true rfl⟩, List.forall_mem_cons.mpr ⟨call_V cx (ct_Read_stack w l hw) tw_714 tw_711 tw_7 tw_712 tw_713 (ci := 4) (Nat.le_of_ble_eq_true rfl) rfl (by decide +kernel) ⟨Nat.le_of_ble_eq_true rfl, Nat.le_of_ble_eq_true rfl⟩, List.forall_mem_cons.mpr ⟨call_V cx (ct_Yard_emptiest w l hw) tw_718 tw_715 tw_2 tw_716 tw_717 (ci := 2) (Nat.le_of_ble_eq_true rfl) rfl (by decide +kernel) ⟨Nat.le_of_ble_eq_true rfl, Nat.le_of_ble_eq_true rfl⟩, List.forall_mem_cons.mpr ⟨call_V cx (ct_Yard_hasRoom w l hw) tw_372 tw_369 tw_2 tw_370 tw_371 (ci := 2) (Nat.le_of_ble_eq_true rfl) rfl (by decide +kernel) ⟨Nat.le_of_ble_eq_true rfl, Nat.le_of_ble_eq_true rfl⟩, List.forall_mem_cons.mpr ⟨call_V cx (ct_Read_width w l hw) tw_722 tw_719 tw_7 tw_720 tw_721 (ci := 4) (Nat.le_of_ble_eq_true rfl) rfl (by decide +kernel) ⟨Nat.le_of_ble_eq_true rfl, Nat.le_of_ble_eq_true rfl⟩, List.forall_mem_cons.mpr ⟨call_V cx (ct_Read_grade w l hw) tw_726 tw_723 tw_7 tw_724 tw_725 (ci := 4) (Nat.le_of_ble_eq_true rfl) rfl (by decide +kernel) ⟨Nat.le_of_ble_eq_true rfl, Nat.le_of_ble_eq_true rfl⟩, List.forall_mem_cons.mpr ⟨call_V cx (ct_Read_quality w l hw) tw_730 tw_727 tw_7 tw_728 tw_729 (ci := 4) (Nat.le_of_ble_eq_true rfl) rfl (by decide +kernel) ⟨Nat.le_of_ble_eq_true rfl, Nat.le_of_ble_eq_true rfl⟩, List.forall_mem_cons.mpr ⟨call_V cx (ct_Yard_bringIn w l hw) tw_579 tw_576 tw_2 tw_577 tw_578 (ci := 2) (Nat.le_of_ble_eq_true rfl) rfl (by decide +kernel) ⟨Nat.le_of_ble_eq_true rfl, Nat.le_of_ble_eq_true rfl⟩, fun q hq => absurd hq List.not_mem_nil⟩⟩⟩⟩⟩⟩⟩⟩⟩⟩⟩
theorem sn_Slit_bringInBuffer (h : MC w true p l e R s m args below meth c Q b_Slit_bringInBuffer 6 "CoilSlits" E_Slit_bringInBuffer 0 0 F (some .int)) : Sn (zK w true p l e R s m args below meth c Q 6) F (fun _ => False) (fun _ => False) 0 0 0 d_Slit_bringInBuffer 0 0 0 := by
  unfold d_Slit_bringInBuffer
  exact (sn_sq (pm := 11) (m_blk h zz (by decide +kernel))
  (sn_sq (pm := 160) (sn_lop (pt := 19) (pu := 157) (p2 := 157) (px := 160) (kb2 := fun _ => False) (kc2 := fun _ => False) (sc_fo m_fo (sc_no (m_cat h zz (p1 := 16) (tgt := 160) (by decide +kernel) (by decide +kernel) (by decide))))
  (sn_sq (pm := 35) (m_blk h zz (by decide +kernel))
  (sn_sq (pm := 65) (sn_ite (pt := 60) (pf := 64) (sc_or (pm := 45) (m_cat h zz (p1 := 42) (tgt := 60) (by decide +kernel) (by decide +kernel) (by decide)) (sc_no (m_cat h zz (p1 := 57) (tgt := 64) (by decide +kernel) (by decide +kernel) (by decide))))
  (sn_goto (pm := 61) (m_blk h zz (by decide +kernel)) (m_goto h (off := 4) (by decide +kernel) (by decide)))
  (m_blk h zz (by decide +kernel)))
  (sn_sq (pm := 67) (m_blk h zz (by decide +kernel))
  (sn_sq (pm := 154) (sn_ite (pt := 76) (pf := 154) (sc_an (pm := 71) (sc_no (m_cat h zz (p1 := 68) (tgt := 154) (by decide +kernel) (by decide +kernel) (by decide))) (sc_no (m_cat h zz (p1 := 73) (tgt := 154) (by decide +kernel) (by decide +kernel) (by decide))))
  (sn_sq (pm := 104) (sn_ite (pt := 87) (pf := 97) (sc_no (m_cat h zz (p1 := 84) (tgt := 97) (by decide +kernel) (by decide +kernel) (by decide)))
  (sn_goto (pm := 94) (m_blk h zz (by decide +kernel)) (m_goto h (off := 10) (by decide +kernel) (by decide)))
  (m_blk h zz (by decide +kernel)))
  (sn_sq (pm := 106) (m_blk h zz (by decide +kernel))
  (sn_sq (pm := 120) (sn_ite (pt := 118) (pf := 120) (sc_no (m_cat h zz (p1 := 115) (tgt := 120) (by decide +kernel) (by decide +kernel) (by decide)))
  (m_rti h zz (p1 := 119) (by decide +kernel) (by decide +kernel) (Nat.zero_le _) (Nat.zero_le _))
  (m_blk h zz rfl))
  (m_blk h zz (by decide +kernel)))))
  (m_blk h zz rfl))
  (m_blk h zz (by decide +kernel))))))
  (m_blk h zz rfl) (m_goto h (off := (-146)) (by decide +kernel) (by decide)) zFU)
  (m_rti h zz (p1 := 161) (by decide +kernel) (by decide +kernel) (Nat.zero_le _) (Nat.zero_le _))))
theorem ct_Slit_bringInBuffer (w : Wd) (l : Launch) (hw : zWok w) : CT w l y_Slit_bringInBuffer b_Slit_bringInBuffer 6 (some .int) r_Slit_bringInBuffer (exb true 6 d_Slit_bringInBuffer) :=
  ct_plain (by decide +kernel) (fun p e s m args below meth c Q cx hnm => eo_Slit_bringInBuffer hw cx) (fun p e s m args below meth c Q F h => sn_Slit_bringInBuffer h)
theorem q_Slit_bringInBuffer {a : Nat} {fs : List Value} {M : Hp} {nx : Nat}  (h : M a = some (cO 5 fs)) : x_Slit_bringInBuffer [.ref a] (M, nx) = zres (d_Slit_bringInBuffer ([some (.ref a), none, none, none, none, none], [], (M, nx))) := q_ofV [some (.ref a), none, none, none, none, none] h rfl (Nat.le_of_ble_eq_true rfl) (Or.inr rfl)
theorem lc_Slit_bringInBuffer_290 : lookI (eC E_Slit_bringInBuffer) (.invokevirtual 290) = some (1, x_Read_restart) := rfl
theorem lc_Slit_bringInBuffer_272 : lookI (eC E_Slit_bringInBuffer) (.invokevirtual 272) = some (2, x_Row_get) := rfl
theorem lc_Slit_bringInBuffer_293 : lookI (eC E_Slit_bringInBuffer) (.invokevirtual 293) = some (2, x_Read_accepts) := rfl
theorem lc_Slit_bringInBuffer_296 : lookI (eC E_Slit_bringInBuffer) (.invokevirtual 296) = some (1, x_Read_stack) := rfl
theorem lc_Slit_bringInBuffer_299 : lookI (eC E_Slit_bringInBuffer) (.invokevirtual 299) = some (1, x_Yard_emptiest) := rfl
theorem lc_Slit_bringInBuffer_62 : lookI (eC E_Slit_bringInBuffer) (.invokevirtual 62) = some (2, x_Yard_hasRoom) := rfl
theorem lc_Slit_bringInBuffer_302 : lookI (eC E_Slit_bringInBuffer) (.invokevirtual 302) = some (1, x_Read_width) := rfl
theorem lc_Slit_bringInBuffer_305 : lookI (eC E_Slit_bringInBuffer) (.invokevirtual 305) = some (1, x_Read_grade) := rfl
theorem lc_Slit_bringInBuffer_308 : lookI (eC E_Slit_bringInBuffer) (.invokevirtual 308) = some (1, x_Read_quality) := rfl
theorem lc_Slit_bringInBuffer_74 : lookI (eC E_Slit_bringInBuffer) (.invokevirtual 74) = some (5, x_Yard_bringIn) := rfl
theorem lf_Slit_bringInBuffer_38 : lookN (eF E_Slit_bringInBuffer) 38 = some (5, 4) := rfl
theorem lf_Slit_bringInBuffer_174 : lookN (eF E_Slit_bringInBuffer) 174 = some (5, 5) := rfl
theorem lf_Slit_bringInBuffer_31 : lookN (eF E_Slit_bringInBuffer) 31 = some (5, 3) := rfl
theorem lf_Slit_bringInBuffer_12 : lookN (eF E_Slit_bringInBuffer) 12 = some (5, 0) := rfl
theorem lb_Slit_bringInBuffer : eB E_Slit_bringInBuffer = true := rfl
-- CoilSlits$CoilReader.isComplete
def E_Read_isComplete : Env := (true, [(11, 4, 0)], [], [], [], zST, false)
def d_Read_isComplete : Dn := (sq (ite' (cno (cat E_Read_isComplete [.aload_n 0, .getfield 11, .iconst 5] (.if_icmp .lt 7)))
  (blk E_Read_isComplete [.iconst 1])
  (blk E_Read_isComplete [.iconst 0]))
  (rtz E_Read_isComplete []))
def x_Read_isComplete : Ex := zrv 4 (exb true 1 d_Read_isComplete)
abbrev r_Read_isComplete : Room := ({ frames := 0, cells := 0, slots := 0, locals := 0 } : Room)
theorem eo_Read_isComplete (hw : zWok w) (cx : CX w p s m args c b_Read_isComplete 1 "CoilSlits$CoilReader") : EnvOk w true p l e r_Read_isComplete s m args below meth c Q b_Read_isComplete 1 "CoilSlits$CoilReader" E_Read_isComplete :=
  ⟨rfl, by decide +kernel, by decide +kernel, by decide +kernel, hw, fun h => absurd h (by decide),
  fun q hq => absurd hq List.not_mem_nil⟩
theorem sn_Read_isComplete (h : MC w true p l e R s m args below meth c Q b_Read_isComplete 1 "CoilSlits$CoilReader" E_Read_isComplete 0 0 F (some .boolean)) : Sn (zK w true p l e R s m args below meth c Q 1) F (fun _ => False) (fun _ => False) 0 0 0 d_Read_isComplete 0 0 0 := by
  unfold d_Read_isComplete
  exact (sn_sq (pm := 13) (sn_ite (pt := 8) (pf := 12) (sc_no (m_cat h zz (p1 := 5) (tgt := 12) (by decide +kernel) (by decide +kernel) (by decide)))
  (sn_goto (pm := 9) (m_blk h zz (by decide +kernel)) (m_goto h (off := 4) (by decide +kernel) (by decide)))
  (m_blk h zz (by decide +kernel)))
  (m_rtz h zz (p1 := 13) (by decide +kernel) (by decide +kernel) (Nat.zero_le _) (Nat.zero_le _)))
theorem ct_Read_isComplete (w : Wd) (l : Launch) (hw : zWok w) : CT w l y_Read_isComplete b_Read_isComplete 1 (some .boolean) r_Read_isComplete (exb true 1 d_Read_isComplete) :=
  ct_plain (by decide +kernel) (fun p e s m args below meth c Q cx hnm => eo_Read_isComplete hw cx) (fun p e s m args below meth c Q F h => sn_Read_isComplete h)
theorem q_Read_isComplete {a : Nat} {fs : List Value} {M : Hp} {nx : Nat}  (h : M a = some (cO 4 fs)) : x_Read_isComplete [.ref a] (M, nx) = zres (d_Read_isComplete ([some (.ref a)], [], (M, nx))) := q_ofV [some (.ref a)] h rfl (Nat.le_of_ble_eq_true rfl) (Or.inr rfl)
theorem lf_Read_isComplete_11 : lookN (eF E_Read_isComplete) 11 = some (4, 0) := rfl
theorem lb_Read_isComplete : eB E_Read_isComplete = true := rfl
-- CoilSlits$History.restore
def E_Hist_restore : Env := (true, [(22, 3, 1), (18, 3, 2)], [(.invokestatic 39, 2, xMax), (.invokevirtual 25, 2, x_Hist_stateAt), (.invokevirtual 29, 2, x_Yard_copyFrom)], [], [], zST, false)
def d_Hist_restore : Dn := (sq (blk E_Hist_restore [.aload_n 0, .aload_n 0, .getfield 22, .bipush 6, .iadd, .iconst 1, .isub, .bipush 6, .irem, .putfield 22, .aload_n 0, .aload_n 0, .getfield 18, .iconst 1, .isub, .iconst 0, .invokestatic 39, .putfield 18, .aload_n 0, .aload_n 0, .getfield 22, .invokevirtual 25, .astore_n 2])
  (sq (ite' (cno (cat E_Hist_restore [.aload_n 2] (.ifnull 8)))
  (blk E_Hist_restore [.aload_n 1, .aload_n 2, .invokevirtual 29])
  (blk E_Hist_restore []))
  (rtv E_Hist_restore [])))
def x_Hist_restore : Ex := zrv 3 (exb true 3 d_Hist_restore)
abbrev r_Hist_restore : Room := ({ frames := 3, cells := 0, slots := 0, locals := 103 } : Room)
theorem eo_Hist_restore (hw : zWok w) (cx : CX w p s m args c b_Hist_restore 3 "CoilSlits$History") : EnvOk w true p l e r_Hist_restore s m args below meth c Q b_Hist_restore 3 "CoilSlits$History" E_Hist_restore :=
  ⟨rfl, by decide +kernel, by decide +kernel, by decide +kernel, hw, fun h => absurd h (by decide),
  List.forall_mem_cons.mpr ⟨call_max cx tw_743 tw_38 tw_4 tw_xMax ⟨Nat.le_of_ble_eq_true rfl, Nat.le_of_ble_eq_true rfl⟩, List.forall_mem_cons.mpr ⟨call_V cx (ct_Hist_stateAt w l hw) tw_167 tw_164 tw_6 tw_166 tp_0 (ci := 3) (Nat.le_of_ble_eq_true rfl) rfl (by decide +kernel) ⟨Nat.le_of_ble_eq_true rfl, Nat.le_of_ble_eq_true rfl⟩, List.forall_mem_cons.mpr ⟨call_V cx (ct_Yard_copyFrom w l hw) tw_171 tw_168 tw_2 tw_169 tw_170 (ci := 2) (Nat.le_of_ble_eq_true rfl) rfl (by decide +kernel) ⟨Nat.le_of_ble_eq_true rfl, Nat.le_of_ble_eq_true rfl⟩, fun q hq => absurd hq List.not_mem_nil⟩⟩⟩⟩
theorem sn_Hist_restore (h : MC w true p l e R s m args below meth c Q b_Hist_restore 3 "CoilSlits$History" E_Hist_restore 0 0 F none) : Sn (zK w true p l e R s m args below meth c Q 3) F (fun _ => False) (fun _ => False) 0 0 0 d_Hist_restore 0 0 0 := by
  unfold d_Hist_restore
  exact (sn_sq (pm := 39) (m_blk h zz (by decide +kernel))
  (sn_sq (pm := 48) (sn_ite (pt := 43) (pf := 48) (sc_no (m_cat h zz (p1 := 40) (tgt := 48) (by decide +kernel) (by decide +kernel) (by decide)))
  (m_blk h zz (by decide +kernel))
  (m_blk h zz rfl))
  (m_rtv h zz (p1 := 48) (by decide +kernel) (by decide +kernel) (Nat.zero_le _) (Nat.zero_le _))))
theorem ct_Hist_restore (w : Wd) (l : Launch) (hw : zWok w) : CT w l y_Hist_restore b_Hist_restore 3 none r_Hist_restore (exb true 3 d_Hist_restore) :=
  ct_plain (by decide +kernel) (fun p e s m args below meth c Q cx hnm => eo_Hist_restore hw cx) (fun p e s m args below meth c Q F h => sn_Hist_restore h)
theorem q_Hist_restore {a : Nat} {fs : List Value} {M : Hp} {nx : Nat} (x0 : Nat) (h : M a = some (cO 3 fs)) : x_Hist_restore [.ref a, .ref x0] (M, nx) = zres (d_Hist_restore ([some (.ref a), some (.ref x0), none], [], (M, nx))) := q_ofV [some (.ref a), some (.ref x0), none] h rfl (Nat.le_of_ble_eq_true rfl) (Or.inr rfl)
theorem lc_Hist_restore_39 : lookI (eC E_Hist_restore) (.invokestatic 39) = some (2, xMax) := rfl
theorem lc_Hist_restore_25 : lookI (eC E_Hist_restore) (.invokevirtual 25) = some (2, x_Hist_stateAt) := rfl
theorem lc_Hist_restore_29 : lookI (eC E_Hist_restore) (.invokevirtual 29) = some (2, x_Yard_copyFrom) := rfl
theorem lf_Hist_restore_22 : lookN (eF E_Hist_restore) 22 = some (3, 1) := rfl
theorem lf_Hist_restore_18 : lookN (eF E_Hist_restore) 18 = some (3, 2) := rfl
theorem lb_Hist_restore : eB E_Hist_restore = true := rfl
end
end
section
section
variable {w : Wd} {p : Program} {l : Launch} {e : Jvm.Env} {s : State} {m : MethodId} {args : Array Value} {below : List Frame} {meth : Method} {c : Code} {Q : State → Prop} {F : Out → G → Prop} {R : Room}
-- CoilSlitsModel.thrown
def E_Mod_thrown : Env := (true, [(25, 6, 6)], [], [], [], zST, false)
def d_Mod_thrown : Dn := (rti E_Mod_thrown [.aload_n 0, .getfield 25])
def x_Mod_thrown : Ex := zrv 6 (exb true 1 d_Mod_thrown)
abbrev r_Mod_thrown : Room := ({ frames := 0, cells := 0, slots := 0, locals := 0 } : Room)
theorem eo_Mod_thrown (hw : zWok w) (cx : CX w p s m args c b_Mod_thrown 1 "CoilSlitsModel") : EnvOk w true p l e r_Mod_thrown s m args below meth c Q b_Mod_thrown 1 "CoilSlitsModel" E_Mod_thrown :=
  ⟨rfl, by decide +kernel, by decide +kernel, by decide +kernel, hw, fun h => absurd h (by decide),
  fun q hq => absurd hq List.not_mem_nil⟩
theorem sn_Mod_thrown (h : MC w true p l e R s m args below meth c Q b_Mod_thrown 1 "CoilSlitsModel" E_Mod_thrown 0 0 F (some .int)) : Sn (zK w true p l e R s m args below meth c Q 1) F (fun _ => False) (fun _ => False) 0 0 0 d_Mod_thrown 0 0 0 := by
  unfold d_Mod_thrown
  exact (m_rti h zz (p1 := 4) (by decide +kernel) (by decide +kernel) (Nat.zero_le _) (Nat.zero_le _))
theorem ct_Mod_thrown (w : Wd) (l : Launch) (hw : zWok w) : CT w l y_Mod_thrown b_Mod_thrown 1 (some .int) r_Mod_thrown (exb true 1 d_Mod_thrown) :=
  ct_plain (by decide +kernel) (fun p e s m args below meth c Q cx hnm => eo_Mod_thrown hw cx) (fun p e s m args below meth c Q F h => sn_Mod_thrown h)
theorem q_Mod_thrown {a : Nat} {fs : List Value} {M : Hp} {nx : Nat}  (h : M a = some (cO 6 fs)) : x_Mod_thrown [.ref a] (M, nx) = zres (d_Mod_thrown ([some (.ref a)], [], (M, nx))) := q_ofV [some (.ref a)] h rfl (Nat.le_of_ble_eq_true rfl) (Or.inr rfl)
theorem lf_Mod_thrown_25 : lookN (eF E_Mod_thrown) 25 = some (6, 6) := rfl
theorem lb_Mod_thrown : eB E_Mod_thrown = true := rfl
-- CoilSlitsModel.fails
def E_Mod_fails : Env := (true, [(25, 6, 6)], [], [], [], zST, false)
def d_Mod_fails : Dn := (rti E_Mod_fails [.aload_n 0, .iload_n 1, .putfield 25, .iconst 0])
def x_Mod_fails : Ex := zrv 6 (exb true 2 d_Mod_fails)
abbrev r_Mod_fails : Room := ({ frames := 0, cells := 0, slots := 0, locals := 0 } : Room)
theorem eo_Mod_fails (hw : zWok w) (cx : CX w p s m args c b_Mod_fails 2 "CoilSlitsModel") : EnvOk w true p l e r_Mod_fails s m args below meth c Q b_Mod_fails 2 "CoilSlitsModel" E_Mod_fails :=
  ⟨rfl, by decide +kernel, by decide +kernel, by decide +kernel, hw, fun h => absurd h (by decide),
  fun q hq => absurd hq List.not_mem_nil⟩
theorem sn_Mod_fails (h : MC w true p l e R s m args below meth c Q b_Mod_fails 2 "CoilSlitsModel" E_Mod_fails 0 0 F (some .int)) : Sn (zK w true p l e R s m args below meth c Q 2) F (fun _ => False) (fun _ => False) 0 0 0 d_Mod_fails 0 0 0 := by
  unfold d_Mod_fails
  exact (m_rti h zz (p1 := 6) (by decide +kernel) (by decide +kernel) (Nat.zero_le _) (Nat.zero_le _))
theorem ct_Mod_fails (w : Wd) (l : Launch) (hw : zWok w) : CT w l y_Mod_fails b_Mod_fails 2 (some .int) r_Mod_fails (exb true 2 d_Mod_fails) :=
  ct_plain (by decide +kernel) (fun p e s m args below meth c Q cx hnm => eo_Mod_fails hw cx) (fun p e s m args below meth c Q F h => sn_Mod_fails h)
theorem q_Mod_fails {a : Nat} {fs : List Value} {M : Hp} {nx : Nat} (x0 : Int32) (h : M a = some (cO 6 fs)) : x_Mod_fails [.ref a, .int x0] (M, nx) = zres (d_Mod_fails ([some (.ref a), some (.int x0)], [], (M, nx))) := q_ofV [some (.ref a), some (.int x0)] h rfl (Nat.le_of_ble_eq_true rfl) (Or.inr rfl)
theorem lf_Mod_fails_25 : lookN (eF E_Mod_fails) 25 = some (6, 6) := rfl
theorem lb_Mod_fails : eB E_Mod_fails = true := rfl
-- CoilSlitsModel.in
def E_Mod_in : Env := (true, [], [], [], [], zST, false)
def d_Mod_in : Dn := (sq (ite' (can (cno (cat E_Mod_in [.iload_n 0, .iload_n 1] (.if_icmp .lt 12))) (cno (cat E_Mod_in [.iload_n 0, .iload_n 2] (.if_icmp .gt 7))))
  (blk E_Mod_in [.iconst 1])
  (blk E_Mod_in [.iconst 0]))
  (rtz E_Mod_in []))
def x_Mod_in : Ex := exb true 3 d_Mod_in
abbrev r_Mod_in : Room := ({ frames := 0, cells := 0, slots := 0, locals := 0 } : Room)
theorem eo_Mod_in (hw : zWok w) (cx : CX w p s m args c b_Mod_in 3 "CoilSlitsModel") : EnvOk w true p l e r_Mod_in s m args below meth c Q b_Mod_in 3 "CoilSlitsModel" E_Mod_in :=
  ⟨rfl, by decide +kernel, by decide +kernel, by decide +kernel, hw, fun h => absurd h (by decide),
  fun q hq => absurd hq List.not_mem_nil⟩
theorem sn_Mod_in (h : MC w true p l e R s m args below meth c Q b_Mod_in 3 "CoilSlitsModel" E_Mod_in 0 0 F (some .boolean)) : Sn (zK w true p l e R s m args below meth c Q 3) F (fun _ => False) (fun _ => False) 0 0 0 d_Mod_in 0 0 0 := by
  unfold d_Mod_in
  exact (sn_sq (pm := 15) (sn_ite (pt := 10) (pf := 14) (sc_an (pm := 5) (sc_no (m_cat h zz (p1 := 2) (tgt := 14) (by decide +kernel) (by decide +kernel) (by decide))) (sc_no (m_cat h zz (p1 := 7) (tgt := 14) (by decide +kernel) (by decide +kernel) (by decide))))
  (sn_goto (pm := 11) (m_blk h zz (by decide +kernel)) (m_goto h (off := 4) (by decide +kernel) (by decide)))
  (m_blk h zz (by decide +kernel)))
  (m_rtz h zz (p1 := 15) (by decide +kernel) (by decide +kernel) (Nat.zero_le _) (Nat.zero_le _)))
theorem ct_Mod_in (w : Wd) (l : Launch) (hw : zWok w) : CT w l y_Mod_in b_Mod_in 3 (some .boolean) r_Mod_in (exb true 3 d_Mod_in) :=
  ct_plain (by decide +kernel) (fun p e s m args below meth c Q cx hnm => eo_Mod_in hw cx) (fun p e s m args below meth c Q F h => sn_Mod_in h)
theorem q_Mod_in (x0 : Int32) (x1 : Int32) (x2 : Int32) (g : G) : x_Mod_in [.int x0, .int x1, .int x2] g = zres (d_Mod_in ([some (.int x0), some (.int x1), some (.int x2)], [], g)) := q_of [some (.int x0), some (.int x1), some (.int x2)] rfl (Nat.le_of_ble_eq_true rfl) (Or.inr rfl)
theorem lb_Mod_in : eB E_Mod_in = true := rfl
-- CoilSlitsModel.isStack
def E_Mod_isStack : Env := (true, [], [(.invokestatic 29, 3, x_Mod_in)], [], [], zST, false)
def d_Mod_isStack : Dn := (rtz E_Mod_isStack [.iload_n 0, .iconst 0, .iconst 5, .invokestatic 29])
def x_Mod_isStack : Ex := exb true 1 d_Mod_isStack
abbrev r_Mod_isStack : Room := ({ frames := 1, cells := 0, slots := 0, locals := 22 } : Room)
theorem eo_Mod_isStack (hw : zWok w) (cx : CX w p s m args c b_Mod_isStack 1 "CoilSlitsModel") : EnvOk w true p l e r_Mod_isStack s m args below meth c Q b_Mod_isStack 1 "CoilSlitsModel" E_Mod_isStack :=
  ⟨rfl, by decide +kernel, by decide +kernel, by decide +kernel, hw, fun h => absurd h (by decide),
  List.forall_mem_cons.mpr ⟨call_S cx (ct_Mod_in w l hw) tw_871 tw_869 tw_8 tw_870 (by decide +kernel) ⟨Nat.le_of_ble_eq_true rfl, Nat.le_of_ble_eq_true rfl⟩, fun q hq => absurd hq List.not_mem_nil⟩⟩
theorem sn_Mod_isStack (h : MC w true p l e R s m args below meth c Q b_Mod_isStack 1 "CoilSlitsModel" E_Mod_isStack 0 0 F (some .boolean)) : Sn (zK w true p l e R s m args below meth c Q 1) F (fun _ => False) (fun _ => False) 0 0 0 d_Mod_isStack 0 0 0 := by
  unfold d_Mod_isStack
  exact (m_rtz h zz (p1 := 6) (by decide +kernel) (by decide +kernel) (Nat.zero_le _) (Nat.zero_le _))
theorem ct_Mod_isStack (w : Wd) (l : Launch) (hw : zWok w) : CT w l y_Mod_isStack b_Mod_isStack 1 (some .boolean) r_Mod_isStack (exb true 1 d_Mod_isStack) :=
  ct_plain (by decide +kernel) (fun p e s m args below meth c Q cx hnm => eo_Mod_isStack hw cx) (fun p e s m args below meth c Q F h => sn_Mod_isStack h)
theorem q_Mod_isStack (x0 : Int32) (g : G) : x_Mod_isStack [.int x0] g = zres (d_Mod_isStack ([some (.int x0)], [], g)) := q_of [some (.int x0)] rfl (Nat.le_of_ble_eq_true rfl) (Or.inr rfl)
theorem lc_Mod_isStack_29 : lookI (eC E_Mod_isStack) (.invokestatic 29) = some (3, x_Mod_in) := rfl
theorem lb_Mod_isStack : eB E_Mod_isStack = true := rfl
-- CoilSlitsModel.of
def E_Mod_of : Env := (true, [], [], [], [], zST, false)
def d_Mod_of : Dn := (rti E_Mod_of [.aload_n 0, .bipush 22, .iconst 5, .iload_n 1, .imul, .iadd, .iload_n 2, .iadd, .iaload])
def x_Mod_of : Ex := exb true 3 d_Mod_of
abbrev r_Mod_of : Room := ({ frames := 0, cells := 0, slots := 0, locals := 0 } : Room)
theorem eo_Mod_of (hw : zWok w) (cx : CX w p s m args c b_Mod_of 3 "CoilSlitsModel") : EnvOk w true p l e r_Mod_of s m args below meth c Q b_Mod_of 3 "CoilSlitsModel" E_Mod_of :=
  ⟨rfl, by decide +kernel, by decide +kernel, by decide +kernel, hw, fun h => absurd h (by decide),
  fun q hq => absurd hq List.not_mem_nil⟩
theorem sn_Mod_of (h : MC w true p l e R s m args below meth c Q b_Mod_of 3 "CoilSlitsModel" E_Mod_of 0 0 F (some .int)) : Sn (zK w true p l e R s m args below meth c Q 3) F (fun _ => False) (fun _ => False) 0 0 0 d_Mod_of 0 0 0 := by
  unfold d_Mod_of
  exact (m_rti h zz (p1 := 10) (by decide +kernel) (by decide +kernel) (Nat.zero_le _) (Nat.zero_le _))
theorem ct_Mod_of (w : Wd) (l : Launch) (hw : zWok w) : CT w l y_Mod_of b_Mod_of 3 (some .int) r_Mod_of (exb true 3 d_Mod_of) :=
  ct_plain (by decide +kernel) (fun p e s m args below meth c Q cx hnm => eo_Mod_of hw cx) (fun p e s m args below meth c Q F h => sn_Mod_of h)
theorem q_Mod_of (x0 : Nat) (x1 : Int32) (x2 : Int32) (g : G) : x_Mod_of [.ref x0, .int x1, .int x2] g = zres (d_Mod_of ([some (.ref x0), some (.int x1), some (.int x2)], [], g)) := q_of [some (.ref x0), some (.int x1), some (.int x2)] rfl (Nat.le_of_ble_eq_true rfl) (Or.inr rfl)
theorem lb_Mod_of : eB E_Mod_of = true := rfl
theorem lt_Mod_of : eT E_Mod_of = zST := rfl
-- CoilSlitsModel.by
def E_Mod_by : Env := (true, [], [], [], [], zST, false)
def d_Mod_by : Dn := (rti E_Mod_by [.aload_n 0, .sipush 172, .bipush 6, .iload_n 1, .imul, .iadd, .iload_n 2, .iadd, .iaload])
def x_Mod_by : Ex := exb true 3 d_Mod_by
abbrev r_Mod_by : Room := ({ frames := 0, cells := 0, slots := 0, locals := 0 } : Room)
theorem eo_Mod_by (hw : zWok w) (cx : CX w p s m args c b_Mod_by 3 "CoilSlitsModel") : EnvOk w true p l e r_Mod_by s m args below meth c Q b_Mod_by 3 "CoilSlitsModel" E_Mod_by :=
  ⟨rfl, by decide +kernel, by decide +kernel, by decide +kernel, hw, fun h => absurd h (by decide),
  fun q hq => absurd hq List.not_mem_nil⟩
theorem sn_Mod_by (h : MC w true p l e R s m args below meth c Q b_Mod_by 3 "CoilSlitsModel" E_Mod_by 0 0 F (some .int)) : Sn (zK w true p l e R s m args below meth c Q 3) F (fun _ => False) (fun _ => False) 0 0 0 d_Mod_by 0 0 0 := by
  unfold d_Mod_by
  exact (m_rti h zz (p1 := 12) (by decide +kernel) (by decide +kernel) (Nat.zero_le _) (Nat.zero_le _))
theorem ct_Mod_by (w : Wd) (l : Launch) (hw : zWok w) : CT w l y_Mod_by b_Mod_by 3 (some .int) r_Mod_by (exb true 3 d_Mod_by) :=
  ct_plain (by decide +kernel) (fun p e s m args below meth c Q cx hnm => eo_Mod_by hw cx) (fun p e s m args below meth c Q F h => sn_Mod_by h)
theorem q_Mod_by (x0 : Nat) (x1 : Int32) (x2 : Int32) (g : G) : x_Mod_by [.ref x0, .int x1, .int x2] g = zres (d_Mod_by ([some (.ref x0), some (.int x1), some (.int x2)], [], g)) := q_of [some (.ref x0), some (.int x1), some (.int x2)] rfl (Nat.le_of_ble_eq_true rfl) (Or.inr rfl)
theorem lb_Mod_by : eB E_Mod_by = true := rfl
theorem lt_Mod_by : eT E_Mod_by = zST := rfl
-- CoilSlitsModel.saves
def E_Mod_saves : Env := (true, [(33, 6, 3), (16, 6, 2), (7, 6, 0)], [], [], [], zST, false)
def d_Mod_saves : Dn := (sq (ite' (cno (cat E_Mod_saves [.aload_n 0, .getfield 33, .bipush 6] (.if_icmp .ne 44)))
  (sq (blk E_Mod_saves [.iconst 0, .istore_n 1])
  (sq (lop (cno (cat E_Mod_saves [.iload_n 1, .sipush 1100] (.if_icmp .ge 25)))
  (blk E_Mod_saves [.aload_n 0, .getfield 16, .iload_n 1, .aload_n 0, .getfield 16, .iload_n 1, .sipush 220, .iadd, .iaload, .iastore, .iinc 1 1])
  (blk E_Mod_saves []) zFU)
  (blk E_Mod_saves [.aload_n 0, .dup, .getfield 33, .iconst 1, .isub, .putfield 33])))
  (blk E_Mod_saves []))
  (sq (blk E_Mod_saves [.iconst 0, .istore_n 1])
  (sq (lop (cno (cat E_Mod_saves [.iload_n 1, .sipush 220] (.if_icmp .ge 30)))
  (blk E_Mod_saves [.aload_n 0, .getfield 16, .sipush 220, .aload_n 0, .getfield 33, .imul, .iload_n 1, .iadd, .aload_n 0, .getfield 7, .iload_n 1, .iaload, .iastore, .iinc 1 1])
  (blk E_Mod_saves []) zFU)
  (rtv E_Mod_saves [.aload_n 0, .dup, .getfield 33, .iconst 1, .iadd, .putfield 33]))))
def x_Mod_saves : Ex := zrv 6 (exb true 2 d_Mod_saves)
abbrev r_Mod_saves : Room := ({ frames := 0, cells := 0, slots := 0, locals := 0 } : Room)
theorem eo_Mod_saves (hw : zWok w) (cx : CX w p s m args c b_Mod_saves 2 "CoilSlitsModel") : EnvOk w true p l e r_Mod_saves s m args below meth c Q b_Mod_saves 2 "CoilSlitsModel" E_Mod_saves :=
  ⟨rfl, by decide +kernel, by decide +kernel, by decide +kernel, hw, fun h => absurd h (by decide),
  fun q hq => absurd hq List.not_mem_nil⟩
theorem sn_Mod_saves (h : MC w true p l e R s m args below meth c Q b_Mod_saves 2 "CoilSlitsModel" E_Mod_saves 0 0 F none) : Sn (zK w true p l e R s m args below meth c Q 2) F (fun _ => False) (fun _ => False) 0 0 0 d_Mod_saves 0 0 0 := by
  unfold d_Mod_saves
  exact (sn_sq (pm := 50) (sn_ite (pt := 9) (pf := 50) (sc_no (m_cat h zz (p1 := 6) (tgt := 50) (by decide +kernel) (by decide +kernel) (by decide)))
  (sn_sq (pm := 11) (m_blk h zz (by decide +kernel))
  (sn_sq (pm := 40) (sn_lop (pt := 18) (pu := 37) (p2 := 37) (px := 40) (kb2 := fun _ => False) (kc2 := fun _ => False) (sc_no (m_cat h zz (p1 := 15) (tgt := 40) (by decide +kernel) (by decide +kernel) (by decide)))
  (m_blk h zz (by decide +kernel))
  (m_blk h zz rfl) (m_goto h (off := (-26)) (by decide +kernel) (by decide)) zFU)
  (m_blk h zz (by decide +kernel))))
  (m_blk h zz rfl))
  (sn_sq (pm := 52) (m_blk h zz (by decide +kernel))
  (sn_sq (pm := 86) (sn_lop (pt := 59) (pu := 83) (p2 := 83) (px := 86) (kb2 := fun _ => False) (kc2 := fun _ => False) (sc_no (m_cat h zz (p1 := 56) (tgt := 86) (by decide +kernel) (by decide +kernel) (by decide)))
  (m_blk h zz (by decide +kernel))
  (m_blk h zz rfl) (m_goto h (off := (-31)) (by decide +kernel) (by decide)) zFU)
  (m_rtv h zz (p1 := 96) (by decide +kernel) (by decide +kernel) (Nat.zero_le _) (Nat.zero_le _)))))
theorem ct_Mod_saves (w : Wd) (l : Launch) (hw : zWok w) : CT w l y_Mod_saves b_Mod_saves 2 none r_Mod_saves (exb true 2 d_Mod_saves) :=
  ct_plain (by decide +kernel) (fun p e s m args below meth c Q cx hnm => eo_Mod_saves hw cx) (fun p e s m args below meth c Q F h => sn_Mod_saves h)
theorem q_Mod_saves {a : Nat} {fs : List Value} {M : Hp} {nx : Nat}  (h : M a = some (cO 6 fs)) : x_Mod_saves [.ref a] (M, nx) = zres (d_Mod_saves ([some (.ref a), none], [], (M, nx))) := q_ofV [some (.ref a), none] h rfl (Nat.le_of_ble_eq_true rfl) (Or.inr rfl)
theorem lf_Mod_saves_33 : lookN (eF E_Mod_saves) 33 = some (6, 3) := rfl
theorem lf_Mod_saves_16 : lookN (eF E_Mod_saves) 16 = some (6, 2) := rfl
theorem lf_Mod_saves_7 : lookN (eF E_Mod_saves) 7 = some (6, 0) := rfl
theorem lb_Mod_saves : eB E_Mod_saves = true := rfl
theorem lt_Mod_saves : eT E_Mod_saves = zST := rfl
-- CoilSlitsModel.undo
def E_Mod_undo : Env := (true, [(25, 6, 6), (33, 6, 3), (7, 6, 0), (16, 6, 2)], [(.invokevirtual 36, 2, x_Mod_fails)], [], [], zST, false)
def d_Mod_undo : Dn := (sq (blk E_Mod_undo [.aload_n 0, .iconst 0, .putfield 25])
  (sq (ite' (cno (cat E_Mod_undo [.aload_n 0, .getfield 33] (.ifCond .ne 9)))
  (rti E_Mod_undo [.aload_n 0, .iconst 1, .invokevirtual 36])
  (blk E_Mod_undo []))
  (sq (blk E_Mod_undo [.aload_n 0, .dup, .getfield 33, .iconst 1, .isub, .putfield 33, .iconst 0, .istore_n 1])
  (sq (lop (cno (cat E_Mod_undo [.iload_n 1, .sipush 220] (.if_icmp .ge 30)))
  (blk E_Mod_undo [.aload_n 0, .getfield 7, .iload_n 1, .aload_n 0, .getfield 16, .sipush 220, .aload_n 0, .getfield 33, .imul, .iload_n 1, .iadd, .iaload, .iastore, .iinc 1 1])
  (blk E_Mod_undo []) zFU)
  (rti E_Mod_undo [.aload_n 0, .getfield 33])))))
def x_Mod_undo : Ex := zrv 6 (exb true 2 d_Mod_undo)
abbrev r_Mod_undo : Room := ({ frames := 1, cells := 0, slots := 0, locals := 21 } : Room)
theorem eo_Mod_undo (hw : zWok w) (cx : CX w p s m args c b_Mod_undo 2 "CoilSlitsModel") : EnvOk w true p l e r_Mod_undo s m args below meth c Q b_Mod_undo 2 "CoilSlitsModel" E_Mod_undo :=
  ⟨rfl, by decide +kernel, by decide +kernel, by decide +kernel, hw, fun h => absurd h (by decide),
  List.forall_mem_cons.mpr ⟨call_V cx (ct_Mod_fails w l hw) tw_861 tw_858 tw_8 tw_860 tp_28 (ci := 6) (Nat.le_of_ble_eq_true rfl) rfl (by decide +kernel) ⟨Nat.le_of_ble_eq_true rfl, Nat.le_of_ble_eq_true rfl⟩, fun q hq => absurd hq List.not_mem_nil⟩⟩
theorem sn_Mod_undo (h : MC w true p l e R s m args below meth c Q b_Mod_undo 2 "CoilSlitsModel" E_Mod_undo 0 0 F (some .int)) : Sn (zK w true p l e R s m args below meth c Q 2) F (fun _ => False) (fun _ => False) 0 0 0 d_Mod_undo 0 0 0 := by
  unfold d_Mod_undo
  exact (sn_sq (pm := 5) (m_blk h zz (by decide +kernel))
  (sn_sq (pm := 18) (sn_ite (pt := 12) (pf := 18) (sc_no (m_cat h zz (p1 := 9) (tgt := 18) (by decide +kernel) (by decide +kernel) (by decide)))
  (m_rti h zz (p1 := 17) (by decide +kernel) (by decide +kernel) (Nat.zero_le _) (Nat.zero_le _))
  (m_blk h zz rfl))
  (sn_sq (pm := 30) (m_blk h zz (by decide +kernel))
  (sn_sq (pm := 64) (sn_lop (pt := 37) (pu := 61) (p2 := 61) (px := 64) (kb2 := fun _ => False) (kc2 := fun _ => False) (sc_no (m_cat h zz (p1 := 34) (tgt := 64) (by decide +kernel) (by decide +kernel) (by decide)))
  (m_blk h zz (by decide +kernel))
  (m_blk h zz rfl) (m_goto h (off := (-31)) (by decide +kernel) (by decide)) zFU)
  (m_rti h zz (p1 := 68) (by decide +kernel) (by decide +kernel) (Nat.zero_le _) (Nat.zero_le _))))))
theorem ct_Mod_undo (w : Wd) (l : Launch) (hw : zWok w) : CT w l y_Mod_undo b_Mod_undo 2 (some .int) r_Mod_undo (exb true 2 d_Mod_undo) :=
  ct_plain (by decide +kernel) (fun p e s m args below meth c Q cx hnm => eo_Mod_undo hw cx) (fun p e s m args below meth c Q F h => sn_Mod_undo h)
theorem q_Mod_undo {a : Nat} {fs : List Value} {M : Hp} {nx : Nat}  (h : M a = some (cO 6 fs)) : x_Mod_undo [.ref a] (M, nx) = zres (d_Mod_undo ([some (.ref a), none], [], (M, nx))) := q_ofV [some (.ref a), none] h rfl (Nat.le_of_ble_eq_true rfl) (Or.inr rfl)
theorem lc_Mod_undo_36 : lookI (eC E_Mod_undo) (.invokevirtual 36) = some (2, x_Mod_fails) := rfl
theorem lf_Mod_undo_25 : lookN (eF E_Mod_undo) 25 = some (6, 6) := rfl
theorem lf_Mod_undo_33 : lookN (eF E_Mod_undo) 33 = some (6, 3) := rfl
theorem lf_Mod_undo_7 : lookN (eF E_Mod_undo) 7 = some (6, 0) := rfl
theorem lf_Mod_undo_16 : lookN (eF E_Mod_undo) 16 = some (6, 2) := rfl
theorem lb_Mod_undo : eB E_Mod_undo = true := rfl
theorem lt_Mod_undo : eT E_Mod_undo = zST := rfl
-- CoilSlitsModel.tries
def E_Mod_tries : Env := (true, [(13, 6, 1), (7, 6, 0)], [], [], [], zST, false)
def d_Mod_tries : Dn := (sq (blk E_Mod_tries [.iconst 0, .istore_n 1])
  (sq (lop (cno (cat E_Mod_tries [.iload_n 1, .sipush 220] (.if_icmp .ge 21)))
  (blk E_Mod_tries [.aload_n 0, .getfield 13, .iload_n 1, .aload_n 0, .getfield 7, .iload_n 1, .iaload, .iastore, .iinc 1 1])
  (blk E_Mod_tries []) zFU)
  (rtv E_Mod_tries [])))
def x_Mod_tries : Ex := zrv 6 (exb true 2 d_Mod_tries)
abbrev r_Mod_tries : Room := ({ frames := 0, cells := 0, slots := 0, locals := 0 } : Room)
theorem eo_Mod_tries (hw : zWok w) (cx : CX w p s m args c b_Mod_tries 2 "CoilSlitsModel") : EnvOk w true p l e r_Mod_tries s m args below meth c Q b_Mod_tries 2 "CoilSlitsModel" E_Mod_tries :=
  ⟨rfl, by decide +kernel, by decide +kernel, by decide +kernel, hw, fun h => absurd h (by decide),
  fun q hq => absurd hq List.not_mem_nil⟩
theorem sn_Mod_tries (h : MC w true p l e R s m args below meth c Q b_Mod_tries 2 "CoilSlitsModel" E_Mod_tries 0 0 F none) : Sn (zK w true p l e R s m args below meth c Q 2) F (fun _ => False) (fun _ => False) 0 0 0 d_Mod_tries 0 0 0 := by
  unfold d_Mod_tries
  exact (sn_sq (pm := 2) (m_blk h zz (by decide +kernel))
  (sn_sq (pm := 27) (sn_lop (pt := 9) (pu := 24) (p2 := 24) (px := 27) (kb2 := fun _ => False) (kc2 := fun _ => False) (sc_no (m_cat h zz (p1 := 6) (tgt := 27) (by decide +kernel) (by decide +kernel) (by decide)))
  (m_blk h zz (by decide +kernel))
  (m_blk h zz rfl) (m_goto h (off := (-22)) (by decide +kernel) (by decide)) zFU)
  (m_rtv h zz (p1 := 27) (by decide +kernel) (by decide +kernel) (Nat.zero_le _) (Nat.zero_le _))))
theorem ct_Mod_tries (w : Wd) (l : Launch) (hw : zWok w) : CT w l y_Mod_tries b_Mod_tries 2 none r_Mod_tries (exb true 2 d_Mod_tries) :=
  ct_plain (by decide +kernel) (fun p e s m args below meth c Q cx hnm => eo_Mod_tries hw cx) (fun p e s m args below meth c Q F h => sn_Mod_tries h)
theorem q_Mod_tries {a : Nat} {fs : List Value} {M : Hp} {nx : Nat}  (h : M a = some (cO 6 fs)) : x_Mod_tries [.ref a] (M, nx) = zres (d_Mod_tries ([some (.ref a), none], [], (M, nx))) := q_ofV [some (.ref a), none] h rfl (Nat.le_of_ble_eq_true rfl) (Or.inr rfl)
theorem lf_Mod_tries_13 : lookN (eF E_Mod_tries) 13 = some (6, 1) := rfl
theorem lf_Mod_tries_7 : lookN (eF E_Mod_tries) 7 = some (6, 0) := rfl
theorem lb_Mod_tries : eB E_Mod_tries = true := rfl
theorem lt_Mod_tries : eT E_Mod_tries = zST := rfl
-- CoilSlitsModel.isAt
def E_Mod_isAt : Env := (true, [], [], [], [], zST, false)
def d_Mod_isAt : Dn := (sq (ite' (cno (cat E_Mod_isAt [.iload_n 1, .iconst 5, .irem, .aload_n 0, .bipush 16, .iload_n 1, .iconst 5, .idiv, .iadd, .iaload] (.if_icmp .ge 7)))
  (blk E_Mod_isAt [.iconst 1])
  (blk E_Mod_isAt [.iconst 0]))
  (rtz E_Mod_isAt []))
def x_Mod_isAt : Ex := exb true 2 d_Mod_isAt
abbrev r_Mod_isAt : Room := ({ frames := 0, cells := 0, slots := 0, locals := 0 } : Room)
theorem eo_Mod_isAt (hw : zWok w) (cx : CX w p s m args c b_Mod_isAt 2 "CoilSlitsModel") : EnvOk w true p l e r_Mod_isAt s m args below meth c Q b_Mod_isAt 2 "CoilSlitsModel" E_Mod_isAt :=
  ⟨rfl, by decide +kernel, by decide +kernel, by decide +kernel, hw, fun h => absurd h (by decide),
  fun q hq => absurd hq List.not_mem_nil⟩
theorem sn_Mod_isAt (h : MC w true p l e R s m args below meth c Q b_Mod_isAt 2 "CoilSlitsModel" E_Mod_isAt 0 0 F (some .boolean)) : Sn (zK w true p l e R s m args below meth c Q 2) F (fun _ => False) (fun _ => False) 0 0 0 d_Mod_isAt 0 0 0 := by
  unfold d_Mod_isAt
  exact (sn_sq (pm := 19) (sn_ite (pt := 14) (pf := 18) (sc_no (m_cat h zz (p1 := 11) (tgt := 18) (by decide +kernel) (by decide +kernel) (by decide)))
  (sn_goto (pm := 15) (m_blk h zz (by decide +kernel)) (m_goto h (off := 4) (by decide +kernel) (by decide)))
  (m_blk h zz (by decide +kernel)))
  (m_rtz h zz (p1 := 19) (by decide +kernel) (by decide +kernel) (Nat.zero_le _) (Nat.zero_le _)))
theorem ct_Mod_isAt (w : Wd) (l : Launch) (hw : zWok w) : CT w l y_Mod_isAt b_Mod_isAt 2 (some .boolean) r_Mod_isAt (exb true 2 d_Mod_isAt) :=
  ct_plain (by decide +kernel) (fun p e s m args below meth c Q cx hnm => eo_Mod_isAt hw cx) (fun p e s m args below meth c Q F h => sn_Mod_isAt h)
theorem q_Mod_isAt (x0 : Nat) (x1 : Int32) (g : G) : x_Mod_isAt [.ref x0, .int x1] g = zres (d_Mod_isAt ([some (.ref x0), some (.int x1)], [], g)) := q_of [some (.ref x0), some (.int x1)] rfl (Nat.le_of_ble_eq_true rfl) (Or.inr rfl)
theorem lb_Mod_isAt : eB E_Mod_isAt = true := rfl
theorem lt_Mod_isAt : eT E_Mod_isAt = zST := rfl
-- CoilSlitsModel.placeOf
def E_Mod_placeOf : Env := (true, [], [(.invokestatic 40, 2, x_Mod_isAt), (.invokestatic 44, 3, x_Mod_of)], [], [], zST, false)
def d_Mod_placeOf : Dn := (sq (blk E_Mod_placeOf [.iconst 0, .istore_n 2])
  (sq (lop (cno (cat E_Mod_placeOf [.iload_n 2, .bipush 30] (.if_icmp .ge 29)))
  (sq (ite' (can (cno (cat E_Mod_placeOf [.aload_n 0, .iload_n 2, .invokestatic 40] (.ifCond .eq 15))) (cno (cat E_Mod_placeOf [.aload_n 0, .iload_n 2, .iconst 0, .invokestatic 44, .iload_n 1] (.if_icmp .ne 5))))
  (rti E_Mod_placeOf [.iload_n 2])
  (blk E_Mod_placeOf []))
  (blk E_Mod_placeOf [.iinc 2 1]))
  (blk E_Mod_placeOf []) zFU)
  (rti E_Mod_placeOf [.iconst (-1)])))
def x_Mod_placeOf : Ex := exb true 3 d_Mod_placeOf
abbrev r_Mod_placeOf : Room := ({ frames := 1, cells := 0, slots := 0, locals := 22 } : Room)
theorem eo_Mod_placeOf (hw : zWok w) (cx : CX w p s m args c b_Mod_placeOf 3 "CoilSlitsModel") : EnvOk w true p l e r_Mod_placeOf s m args below meth c Q b_Mod_placeOf 3 "CoilSlitsModel" E_Mod_placeOf :=
  ⟨rfl, by decide +kernel, by decide +kernel, by decide +kernel, hw, fun h => absurd h (by decide),
  List.forall_mem_cons.mpr ⟨call_S cx (ct_Mod_isAt w l hw) tw_908 tw_906 tw_8 tw_907 (by decide +kernel) ⟨Nat.le_of_ble_eq_true rfl, Nat.le_of_ble_eq_true rfl⟩, List.forall_mem_cons.mpr ⟨call_S cx (ct_Mod_of w l hw) tw_895 tw_893 tw_8 tw_894 (by decide +kernel) ⟨Nat.le_of_ble_eq_true rfl, Nat.le_of_ble_eq_true rfl⟩, fun q hq => absurd hq List.not_mem_nil⟩⟩⟩
theorem sn_Mod_placeOf (h : MC w true p l e R s m args below meth c Q b_Mod_placeOf 3 "CoilSlitsModel" E_Mod_placeOf 0 0 F (some .int)) : Sn (zK w true p l e R s m args below meth c Q 3) F (fun _ => False) (fun _ => False) 0 0 0 d_Mod_placeOf 0 0 0 := by
  unfold d_Mod_placeOf
  exact (sn_sq (pm := 2) (m_blk h zz (by decide +kernel))
  (sn_sq (pm := 34) (sn_lop (pt := 8) (pu := 31) (p2 := 31) (px := 34) (kb2 := fun _ => False) (kc2 := fun _ => False) (sc_no (m_cat h zz (p1 := 5) (tgt := 34) (by decide +kernel) (by decide +kernel) (by decide)))
  (sn_sq (pm := 28) (sn_ite (pt := 26) (pf := 28) (sc_an (pm := 16) (sc_no (m_cat h zz (p1 := 13) (tgt := 28) (by decide +kernel) (by decide +kernel) (by decide))) (sc_no (m_cat h zz (p1 := 23) (tgt := 28) (by decide +kernel) (by decide +kernel) (by decide))))
  (m_rti h zz (p1 := 27) (by decide +kernel) (by decide +kernel) (Nat.zero_le _) (Nat.zero_le _))
  (m_blk h zz rfl))
  (m_blk h zz (by decide +kernel)))
  (m_blk h zz rfl) (m_goto h (off := (-29)) (by decide +kernel) (by decide)) zFU)
  (m_rti h zz (p1 := 35) (by decide +kernel) (by decide +kernel) (Nat.zero_le _) (Nat.zero_le _))))
theorem ct_Mod_placeOf (w : Wd) (l : Launch) (hw : zWok w) : CT w l y_Mod_placeOf b_Mod_placeOf 3 (some .int) r_Mod_placeOf (exb true 3 d_Mod_placeOf) :=
  ct_plain (by decide +kernel) (fun p e s m args below meth c Q cx hnm => eo_Mod_placeOf hw cx) (fun p e s m args below meth c Q F h => sn_Mod_placeOf h)
theorem q_Mod_placeOf (x0 : Nat) (x1 : Int32) (g : G) : x_Mod_placeOf [.ref x0, .int x1] g = zres (d_Mod_placeOf ([some (.ref x0), some (.int x1), none], [], g)) := q_of [some (.ref x0), some (.int x1), none] rfl (Nat.le_of_ble_eq_true rfl) (Or.inr rfl)
theorem lc_Mod_placeOf_40 : lookI (eC E_Mod_placeOf) (.invokestatic 40) = some (2, x_Mod_isAt) := rfl
theorem lc_Mod_placeOf_44 : lookI (eC E_Mod_placeOf) (.invokestatic 44) = some (3, x_Mod_of) := rfl
theorem lb_Mod_placeOf : eB E_Mod_placeOf = true := rfl
-- CoilSlitsModel.above
def E_Mod_above : Env := (true, [], [], [], [], zST, false)
def d_Mod_above : Dn := (rti E_Mod_above [.aload_n 0, .bipush 16, .iload_n 1, .iconst 5, .idiv, .iadd, .iaload, .iconst 1, .isub, .iload_n 1, .iconst 5, .irem, .isub])
def x_Mod_above : Ex := exb true 2 d_Mod_above
abbrev r_Mod_above : Room := ({ frames := 0, cells := 0, slots := 0, locals := 0 } : Room)
theorem eo_Mod_above (hw : zWok w) (cx : CX w p s m args c b_Mod_above 2 "CoilSlitsModel") : EnvOk w true p l e r_Mod_above s m args below meth c Q b_Mod_above 2 "CoilSlitsModel" E_Mod_above :=
  ⟨rfl, by decide +kernel, by decide +kernel, by decide +kernel, hw, fun h => absurd h (by decide),
  fun q hq => absurd hq List.not_mem_nil⟩
theorem sn_Mod_above (h : MC w true p l e R s m args below meth c Q b_Mod_above 2 "CoilSlitsModel" E_Mod_above 0 0 F (some .int)) : Sn (zK w true p l e R s m args below meth c Q 2) F (fun _ => False) (fun _ => False) 0 0 0 d_Mod_above 0 0 0 := by
  unfold d_Mod_above
  exact (m_rti h zz (p1 := 14) (by decide +kernel) (by decide +kernel) (Nat.zero_le _) (Nat.zero_le _))
theorem ct_Mod_above (w : Wd) (l : Launch) (hw : zWok w) : CT w l y_Mod_above b_Mod_above 2 (some .int) r_Mod_above (exb true 2 d_Mod_above) :=
  ct_plain (by decide +kernel) (fun p e s m args below meth c Q cx hnm => eo_Mod_above hw cx) (fun p e s m args below meth c Q F h => sn_Mod_above h)
theorem q_Mod_above (x0 : Nat) (x1 : Int32) (g : G) : x_Mod_above [.ref x0, .int x1] g = zres (d_Mod_above ([some (.ref x0), some (.int x1)], [], g)) := q_of [some (.ref x0), some (.int x1)] rfl (Nat.le_of_ble_eq_true rfl) (Or.inr rfl)
theorem lb_Mod_above : eB E_Mod_above = true := rfl
theorem lt_Mod_above : eT E_Mod_above = zST := rfl
-- CoilSlitsModel.orderAt
def E_Mod_orderAt : Env := (true, [], [(.invokestatic 48, 3, x_Mod_by)], [], [], zST, false)
def d_Mod_orderAt : Dn := (sq (blk E_Mod_orderAt [.iconst 0, .istore_n 2])
  (sq (lop (cno (cat E_Mod_orderAt [.iload_n 2, .aload_n 0, .bipush 15, .iaload] (.if_icmp .ge 21)))
  (sq (ite' (cno (cat E_Mod_orderAt [.aload_n 0, .iload_n 2, .iconst 0, .invokestatic 48, .iload_n 1] (.if_icmp .ne 5)))
  (rti E_Mod_orderAt [.iload_n 2])
  (blk E_Mod_orderAt []))
  (blk E_Mod_orderAt [.iinc 2 1]))
  (blk E_Mod_orderAt []) zFU)
  (rti E_Mod_orderAt [.iconst (-1)])))
def x_Mod_orderAt : Ex := exb true 3 d_Mod_orderAt
abbrev r_Mod_orderAt : Room := ({ frames := 1, cells := 0, slots := 0, locals := 22 } : Room)
theorem eo_Mod_orderAt (hw : zWok w) (cx : CX w p s m args c b_Mod_orderAt 3 "CoilSlitsModel") : EnvOk w true p l e r_Mod_orderAt s m args below meth c Q b_Mod_orderAt 3 "CoilSlitsModel" E_Mod_orderAt :=
  ⟨rfl, by decide +kernel, by decide +kernel, by decide +kernel, hw, fun h => absurd h (by decide),
  List.forall_mem_cons.mpr ⟨call_S cx (ct_Mod_by w l hw) tw_942 tw_940 tw_8 tw_941 (by decide +kernel) ⟨Nat.le_of_ble_eq_true rfl, Nat.le_of_ble_eq_true rfl⟩, fun q hq => absurd hq List.not_mem_nil⟩⟩
theorem sn_Mod_orderAt (h : MC w true p l e R s m args below meth c Q b_Mod_orderAt 3 "CoilSlitsModel" E_Mod_orderAt 0 0 F (some .int)) : Sn (zK w true p l e R s m args below meth c Q 3) F (fun _ => False) (fun _ => False) 0 0 0 d_Mod_orderAt 0 0 0 := by
  unfold d_Mod_orderAt
  exact (sn_sq (pm := 2) (m_blk h zz (by decide +kernel))
  (sn_sq (pm := 28) (sn_lop (pt := 10) (pu := 25) (p2 := 25) (px := 28) (kb2 := fun _ => False) (kc2 := fun _ => False) (sc_no (m_cat h zz (p1 := 7) (tgt := 28) (by decide +kernel) (by decide +kernel) (by decide)))
  (sn_sq (pm := 22) (sn_ite (pt := 20) (pf := 22) (sc_no (m_cat h zz (p1 := 17) (tgt := 22) (by decide +kernel) (by decide +kernel) (by decide)))
  (m_rti h zz (p1 := 21) (by decide +kernel) (by decide +kernel) (Nat.zero_le _) (Nat.zero_le _))
  (m_blk h zz rfl))
  (m_blk h zz (by decide +kernel)))
  (m_blk h zz rfl) (m_goto h (off := (-23)) (by decide +kernel) (by decide)) zFU)
  (m_rti h zz (p1 := 29) (by decide +kernel) (by decide +kernel) (Nat.zero_le _) (Nat.zero_le _))))
theorem ct_Mod_orderAt (w : Wd) (l : Launch) (hw : zWok w) : CT w l y_Mod_orderAt b_Mod_orderAt 3 (some .int) r_Mod_orderAt (exb true 3 d_Mod_orderAt) :=
  ct_plain (by decide +kernel) (fun p e s m args below meth c Q cx hnm => eo_Mod_orderAt hw cx) (fun p e s m args below meth c Q F h => sn_Mod_orderAt h)
theorem q_Mod_orderAt (x0 : Nat) (x1 : Int32) (g : G) : x_Mod_orderAt [.ref x0, .int x1] g = zres (d_Mod_orderAt ([some (.ref x0), some (.int x1), none], [], g)) := q_of [some (.ref x0), some (.int x1), none] rfl (Nat.le_of_ble_eq_true rfl) (Or.inr rfl)
theorem lc_Mod_orderAt_48 : lookI (eC E_Mod_orderAt) (.invokestatic 48) = some (3, x_Mod_by) := rfl
theorem lb_Mod_orderAt : eB E_Mod_orderAt = true := rfl
theorem lt_Mod_orderAt : eT E_Mod_orderAt = zST := rfl
-- CoilSlitsModel.far
def E_Mod_far : Env := (true, [], [], [], [], zST, false)
def d_Mod_far : Dn := (sq (ite' (cno (cat E_Mod_far [.iload_n 0, .iload_n 1] (.if_icmp .ge 9)))
  (blk E_Mod_far [.iload_n 1, .iload_n 0, .isub])
  (blk E_Mod_far [.iload_n 0, .iload_n 1, .isub]))
  (rti E_Mod_far []))
def x_Mod_far : Ex := exb true 2 d_Mod_far
abbrev r_Mod_far : Room := ({ frames := 0, cells := 0, slots := 0, locals := 0 } : Room)
theorem eo_Mod_far (hw : zWok w) (cx : CX w p s m args c b_Mod_far 2 "CoilSlitsModel") : EnvOk w true p l e r_Mod_far s m args below meth c Q b_Mod_far 2 "CoilSlitsModel" E_Mod_far :=
  ⟨rfl, by decide +kernel, by decide +kernel, by decide +kernel, hw, fun h => absurd h (by decide),
  fun q hq => absurd hq List.not_mem_nil⟩
theorem sn_Mod_far (h : MC w true p l e R s m args below meth c Q b_Mod_far 2 "CoilSlitsModel" E_Mod_far 0 0 F (some .int)) : Sn (zK w true p l e R s m args below meth c Q 2) F (fun _ => False) (fun _ => False) 0 0 0 d_Mod_far 0 0 0 := by
  unfold d_Mod_far
  exact (sn_sq (pm := 14) (sn_ite (pt := 5) (pf := 11) (sc_no (m_cat h zz (p1 := 2) (tgt := 11) (by decide +kernel) (by decide +kernel) (by decide)))
  (sn_goto (pm := 8) (m_blk h zz (by decide +kernel)) (m_goto h (off := 6) (by decide +kernel) (by decide)))
  (m_blk h zz (by decide +kernel)))
  (m_rti h zz (p1 := 14) (by decide +kernel) (by decide +kernel) (Nat.zero_le _) (Nat.zero_le _)))
theorem ct_Mod_far (w : Wd) (l : Launch) (hw : zWok w) : CT w l y_Mod_far b_Mod_far 2 (some .int) r_Mod_far (exb true 2 d_Mod_far) :=
  ct_plain (by decide +kernel) (fun p e s m args below meth c Q cx hnm => eo_Mod_far hw cx) (fun p e s m args below meth c Q F h => sn_Mod_far h)
theorem q_Mod_far (x0 : Int32) (x1 : Int32) (g : G) : x_Mod_far [.int x0, .int x1] g = zres (d_Mod_far ([some (.int x0), some (.int x1)], [], g)) := q_of [some (.int x0), some (.int x1)] rfl (Nat.le_of_ble_eq_true rfl) (Or.inr rfl)
theorem lb_Mod_far : eB E_Mod_far = true := rfl
-- CoilSlitsModel.lays
def E_Mod_lays : Env := (true, [], [], [], [], zST, false)
def d_Mod_lays : Dn := (rtv E_Mod_lays [.bipush 22, .iconst 5, .iconst 5, .iload_n 1, .imul, .aload_n 0, .bipush 16, .iload_n 1, .iadd, .iaload, .iadd, .imul, .iadd, .istore 7, .aload_n 0, .iload 7, .iload_n 2, .iastore, .aload_n 0, .iload 7, .iconst 1, .iadd, .iload_n 3, .iastore, .aload_n 0, .iload 7, .iconst 2, .iadd, .iload 4, .iastore, .aload_n 0, .iload 7, .iconst 3, .iadd, .iload 5, .iastore, .aload_n 0, .iload 7, .iconst 4, .iadd, .iload 6, .iastore, .aload_n 0, .bipush 16, .iload_n 1, .iadd, .dup2, .iaload, .iconst 1, .iadd, .iastore])
def x_Mod_lays : Ex := exb true 8 d_Mod_lays
abbrev r_Mod_lays : Room := ({ frames := 0, cells := 0, slots := 0, locals := 0 } : Room)
theorem eo_Mod_lays (hw : zWok w) (cx : CX w p s m args c b_Mod_lays 8 "CoilSlitsModel") : EnvOk w true p l e r_Mod_lays s m args below meth c Q b_Mod_lays 8 "CoilSlitsModel" E_Mod_lays :=
  ⟨rfl, by decide +kernel, by decide +kernel, by decide +kernel, hw, fun h => absurd h (by decide),
  fun q hq => absurd hq List.not_mem_nil⟩
theorem sn_Mod_lays (h : MC w true p l e R s m args below meth c Q b_Mod_lays 8 "CoilSlitsModel" E_Mod_lays 0 0 F none) : Sn (zK w true p l e R s m args below meth c Q 8) F (fun _ => False) (fun _ => False) 0 0 0 d_Mod_lays 0 0 0 := by
  unfold d_Mod_lays
  exact (m_rtv h zz (p1 := 63) (by decide +kernel) (by decide +kernel) (Nat.zero_le _) (Nat.zero_le _))
theorem ct_Mod_lays (w : Wd) (l : Launch) (hw : zWok w) : CT w l y_Mod_lays b_Mod_lays 8 none r_Mod_lays (exb true 8 d_Mod_lays) :=
  ct_plain (by decide +kernel) (fun p e s m args below meth c Q cx hnm => eo_Mod_lays hw cx) (fun p e s m args below meth c Q F h => sn_Mod_lays h)
theorem q_Mod_lays (x0 : Nat) (x1 : Int32) (x2 : Int32) (x3 : Int32) (x4 : Int32) (x5 : Int32) (x6 : Int32) (g : G) : x_Mod_lays [.ref x0, .int x1, .int x2, .int x3, .int x4, .int x5, .int x6] g = zres (d_Mod_lays ([some (.ref x0), some (.int x1), some (.int x2), some (.int x3), some (.int x4), some (.int x5), some (.int x6), none], [], g)) := q_of [some (.ref x0), some (.int x1), some (.int x2), some (.int x3), some (.int x4), some (.int x5), some (.int x6), none] rfl (Nat.le_of_ble_eq_true rfl) (Or.inr rfl)
theorem lb_Mod_lays : eB E_Mod_lays = true := rfl
theorem lt_Mod_lays : eT E_Mod_lays = zST := rfl
-- CoilSlitsModel.topOf
def E_Mod_topOf : Env := (true, [], [], [], [], zST, false)
def d_Mod_topOf : Dn := (rti E_Mod_topOf [.iconst 5, .iload_n 1, .imul, .aload_n 0, .bipush 16, .iload_n 1, .iadd, .iaload, .iadd, .iconst 1, .isub])
def x_Mod_topOf : Ex := exb true 2 d_Mod_topOf
abbrev r_Mod_topOf : Room := ({ frames := 0, cells := 0, slots := 0, locals := 0 } : Room)
theorem eo_Mod_topOf (hw : zWok w) (cx : CX w p s m args c b_Mod_topOf 2 "CoilSlitsModel") : EnvOk w true p l e r_Mod_topOf s m args below meth c Q b_Mod_topOf 2 "CoilSlitsModel" E_Mod_topOf :=
  ⟨rfl, by decide +kernel, by decide +kernel, by decide +kernel, hw, fun h => absurd h (by decide),
  fun q hq => absurd hq List.not_mem_nil⟩
theorem sn_Mod_topOf (h : MC w true p l e R s m args below meth c Q b_Mod_topOf 2 "CoilSlitsModel" E_Mod_topOf 0 0 F (some .int)) : Sn (zK w true p l e R s m args below meth c Q 2) F (fun _ => False) (fun _ => False) 0 0 0 d_Mod_topOf 0 0 0 := by
  unfold d_Mod_topOf
  exact (m_rti h zz (p1 := 12) (by decide +kernel) (by decide +kernel) (Nat.zero_le _) (Nat.zero_le _))
theorem ct_Mod_topOf (w : Wd) (l : Launch) (hw : zWok w) : CT w l y_Mod_topOf b_Mod_topOf 2 (some .int) r_Mod_topOf (exb true 2 d_Mod_topOf) :=
  ct_plain (by decide +kernel) (fun p e s m args below meth c Q cx hnm => eo_Mod_topOf hw cx) (fun p e s m args below meth c Q F h => sn_Mod_topOf h)
theorem q_Mod_topOf (x0 : Nat) (x1 : Int32) (g : G) : x_Mod_topOf [.ref x0, .int x1] g = zres (d_Mod_topOf ([some (.ref x0), some (.int x1)], [], g)) := q_of [some (.ref x0), some (.int x1)] rfl (Nat.le_of_ble_eq_true rfl) (Or.inr rfl)
theorem lb_Mod_topOf : eB E_Mod_topOf = true := rfl
theorem lt_Mod_topOf : eT E_Mod_topOf = zST := rfl
-- CoilSlitsModel.moves
def E_Mod_moves : Env := (true, [], [(.invokestatic 51, 2, x_Mod_topOf), (.invokestatic 44, 3, x_Mod_of), (.invokestatic 55, 7, x_Mod_lays), (.invokestatic 59, 2, x_Mod_far)], [], [], zST, false)
def d_Mod_moves : Dn := (rti E_Mod_moves [.aload_n 0, .iload_n 1, .invokestatic 51, .istore_n 3, .aload_n 0, .iload_n 3, .iconst 0, .invokestatic 44, .istore 4, .aload_n 0, .iload_n 2, .iload 4, .aload_n 0, .iload_n 3, .iconst 1, .invokestatic 44, .aload_n 0, .iload_n 3, .iconst 2, .invokestatic 44, .aload_n 0, .iload_n 3, .iconst 3, .invokestatic 44, .aload_n 0, .iload_n 3, .iconst 4, .invokestatic 44, .invokestatic 55, .aload_n 0, .bipush 16, .iload_n 1, .iadd, .dup2, .iaload, .iconst 1, .isub, .iastore, .aload_n 0, .bipush 6, .dup2, .iaload, .iconst 1, .iadd, .iastore, .aload_n 0, .bipush 7, .dup2, .iaload, .iload_n 1, .iload_n 2, .invokestatic 59, .iadd, .iastore, .iload 4])
def x_Mod_moves : Ex := exb true 5 d_Mod_moves
abbrev r_Mod_moves : Room := ({ frames := 1, cells := 0, slots := 0, locals := 27 } : Room)
theorem eo_Mod_moves (hw : zWok w) (cx : CX w p s m args c b_Mod_moves 5 "CoilSlitsModel") : EnvOk w true p l e r_Mod_moves s m args below meth c Q b_Mod_moves 5 "CoilSlitsModel" E_Mod_moves :=
  ⟨rfl, by decide +kernel, by decide +kernel, by decide +kernel, hw, fun h => absurd h (by decide),
  List.forall_mem_cons.mpr ⟨call_S cx (ct_Mod_topOf w l hw) tw_892 tw_890 tw_8 tw_891 (by decide +kernel) ⟨Nat.le_of_ble_eq_true rfl, Nat.le_of_ble_eq_true rfl⟩, List.forall_mem_cons.mpr ⟨call_S cx (ct_Mod_of w l hw) tw_895 tw_893 tw_8 tw_894 (by decide +kernel) ⟨Nat.le_of_ble_eq_true rfl, Nat.le_of_ble_eq_true rfl⟩, List.forall_mem_cons.mpr ⟨call_S cx (ct_Mod_lays w l hw) tw_882 tw_880 tw_8 tw_881 (by decide +kernel) ⟨Nat.le_of_ble_eq_true rfl, Nat.le_of_ble_eq_true rfl⟩, List.forall_mem_cons.mpr ⟨call_S cx (ct_Mod_far w l hw) tw_898 tw_896 tw_8 tw_897 (by decide +kernel) ⟨Nat.le_of_ble_eq_true rfl, Nat.le_of_ble_eq_true rfl⟩, fun q hq => absurd hq List.not_mem_nil⟩⟩⟩⟩⟩
theorem sn_Mod_moves (h : MC w true p l e R s m args below meth c Q b_Mod_moves 5 "CoilSlitsModel" E_Mod_moves 0 0 F (some .int)) : Sn (zK w true p l e R s m args below meth c Q 5) F (fun _ => False) (fun _ => False) 0 0 0 d_Mod_moves 0 0 0 := by
  unfold d_Mod_moves
  exact (m_rti h zz (p1 := 77) (by decide +kernel) (by decide +kernel) (Nat.zero_le _) (Nat.zero_le _))
theorem ct_Mod_moves (w : Wd) (l : Launch) (hw : zWok w) : CT w l y_Mod_moves b_Mod_moves 5 (some .int) r_Mod_moves (exb true 5 d_Mod_moves) :=
  ct_plain (by decide +kernel) (fun p e s m args below meth c Q cx hnm => eo_Mod_moves hw cx) (fun p e s m args below meth c Q F h => sn_Mod_moves h)
theorem q_Mod_moves (x0 : Nat) (x1 : Int32) (x2 : Int32) (g : G) : x_Mod_moves [.ref x0, .int x1, .int x2] g = zres (d_Mod_moves ([some (.ref x0), some (.int x1), some (.int x2), none, none], [], g)) := q_of [some (.ref x0), some (.int x1), some (.int x2), none, none] rfl (Nat.le_of_ble_eq_true rfl) (Or.inr rfl)
theorem lc_Mod_moves_51 : lookI (eC E_Mod_moves) (.invokestatic 51) = some (2, x_Mod_topOf) := rfl
theorem lc_Mod_moves_44 : lookI (eC E_Mod_moves) (.invokestatic 44) = some (3, x_Mod_of) := rfl
theorem lc_Mod_moves_55 : lookI (eC E_Mod_moves) (.invokestatic 55) = some (7, x_Mod_lays) := rfl
theorem lc_Mod_moves_59 : lookI (eC E_Mod_moves) (.invokestatic 59) = some (2, x_Mod_far) := rfl
theorem lb_Mod_moves : eB E_Mod_moves = true := rfl
theorem lt_Mod_moves : eT E_Mod_moves = zST := rfl
-- CoilSlitsModel.canDig
def E_Mod_canDig : Env := (true, [], [(.invokestatic 63, 2, x_Mod_above)], [], [], zST, false)
def d_Mod_canDig : Dn := (sq (blk E_Mod_canDig [.iconst 0, .istore_n 2, .iconst 0, .istore_n 3])
  (sq (lop (cno (cat E_Mod_canDig [.iload_n 3, .bipush 6] (.if_icmp .ge 31)))
  (sq (blk E_Mod_canDig [.iload_n 2])
  (sq (ite' (cno (cat E_Mod_canDig [.iload_n 3, .iload_n 1, .iconst 5, .idiv] (.if_icmp .ne 7)))
  (blk E_Mod_canDig [.iconst 0])
  (blk E_Mod_canDig [.iconst 5, .aload_n 0, .bipush 16, .iload_n 3, .iadd, .iaload, .isub]))
  (blk E_Mod_canDig [.iadd, .istore_n 2, .iinc 3 1])))
  (blk E_Mod_canDig []) zFU)
  (sq (ite' (cno (cat E_Mod_canDig [.aload_n 0, .iload_n 1, .invokestatic 63, .iload_n 2] (.if_icmp .gt 7)))
  (blk E_Mod_canDig [.iconst 1])
  (blk E_Mod_canDig [.iconst 0]))
  (rtz E_Mod_canDig []))))
def x_Mod_canDig : Ex := exb true 4 d_Mod_canDig
abbrev r_Mod_canDig : Room := ({ frames := 1, cells := 0, slots := 0, locals := 21 } : Room)
theorem eo_Mod_canDig (hw : zWok w) (cx : CX w p s m args c b_Mod_canDig 4 "CoilSlitsModel") : EnvOk w true p l e r_Mod_canDig s m args below meth c Q b_Mod_canDig 4 "CoilSlitsModel" E_Mod_canDig :=
  ⟨rfl, by decide +kernel, by decide +kernel, by decide +kernel, hw, fun h => absurd h (by decide),
  List.forall_mem_cons.mpr ⟨call_S cx (ct_Mod_above w l hw) tw_918 tw_916 tw_8 tw_917 (by decide +kernel) ⟨Nat.le_of_ble_eq_true rfl, Nat.le_of_ble_eq_true rfl⟩, fun q hq => absurd hq List.not_mem_nil⟩⟩
theorem sn_Mod_canDig (h : MC w true p l e R s m args below meth c Q b_Mod_canDig 4 "CoilSlitsModel" E_Mod_canDig 0 0 F (some .boolean)) : Sn (zK w true p l e R s m args below meth c Q 4) F (fun _ => False) (fun _ => False) 0 0 0 d_Mod_canDig 0 0 0 := by
  unfold d_Mod_canDig
  exact (sn_sq (pm := 4) (m_blk h zz (by decide +kernel))
  (sn_sq (pm := 38) (sn_lop (pt := 10) (pu := 35) (p2 := 35) (px := 38) (kb2 := fun _ => False) (kc2 := fun _ => False) (sc_no (m_cat h zz (p1 := 7) (tgt := 38) (by decide +kernel) (by decide +kernel) (by decide)))
  (sn_sq (pm := 11) (m_blk h zz (by decide +kernel))
  (sn_sq (pm := 30) (sn_ite (pt := 18) (pf := 22) (sc_no (m_cat h zz (p1 := 15) (tgt := 22) (by decide +kernel) (by decide +kernel) (by decide)))
  (sn_goto (pm := 19) (m_blk h zz (by decide +kernel)) (m_goto h (off := 11) (by decide +kernel) (by decide)))
  (m_blk h zz (by decide +kernel)))
  (m_blk h zz (by decide +kernel))))
  (m_blk h zz rfl) (m_goto h (off := (-31)) (by decide +kernel) (by decide)) zFU)
  (sn_sq (pm := 52) (sn_ite (pt := 47) (pf := 51) (sc_no (m_cat h zz (p1 := 44) (tgt := 51) (by decide +kernel) (by decide +kernel) (by decide)))
  (sn_goto (pm := 48) (m_blk h zz (by decide +kernel)) (m_goto h (off := 4) (by decide +kernel) (by decide)))
  (m_blk h zz (by decide +kernel)))
  (m_rtz h zz (p1 := 52) (by decide +kernel) (by decide +kernel) (Nat.zero_le _) (Nat.zero_le _)))))
theorem ct_Mod_canDig (w : Wd) (l : Launch) (hw : zWok w) : CT w l y_Mod_canDig b_Mod_canDig 4 (some .boolean) r_Mod_canDig (exb true 4 d_Mod_canDig) :=
  ct_plain (by decide +kernel) (fun p e s m args below meth c Q cx hnm => eo_Mod_canDig hw cx) (fun p e s m args below meth c Q F h => sn_Mod_canDig h)
theorem q_Mod_canDig (x0 : Nat) (x1 : Int32) (g : G) : x_Mod_canDig [.ref x0, .int x1] g = zres (d_Mod_canDig ([some (.ref x0), some (.int x1), none, none], [], g)) := q_of [some (.ref x0), some (.int x1), none, none] rfl (Nat.le_of_ble_eq_true rfl) (Or.inr rfl)
theorem lc_Mod_canDig_63 : lookI (eC E_Mod_canDig) (.invokestatic 63) = some (2, x_Mod_above) := rfl
theorem lb_Mod_canDig : eB E_Mod_canDig = true := rfl
theorem lt_Mod_canDig : eT E_Mod_canDig = zST := rfl
-- CoilSlitsModel.nearest
def E_Mod_nearest : Env := (true, [], [(.invokestatic 59, 2, x_Mod_far)], [], [], zST, false)
def d_Mod_nearest : Dn := (sq (blk E_Mod_nearest [.iconst (-1), .istore_n 2, .iconst 0, .istore_n 3])
  (sq (lop (cfo [4, 5] (cno (cat E_Mod_nearest [.iload_n 3, .bipush 6] (.if_icmp .ge 84))))
  (sq (ite' (cno (cat E_Mod_nearest [.iload_n 3, .iload_n 1] (.if_icmp .eq 73)))
  (sq (ite' (cno (cat E_Mod_nearest [.iload_n 2, .iconst (-1)] (.if_icmp .ne 7)))
  (blk E_Mod_nearest [.iconst 1])
  (blk E_Mod_nearest [.aload_n 0, .bipush 16, .iload_n 2, .iadd, .iaload, .aload_n 0, .bipush 16, .iload_n 3, .iadd, .iaload, .isub]))
  (sq (blk E_Mod_nearest [.istore 4])
  (sq (ite' (can (cno (cat E_Mod_nearest [.iload_n 2, .iconst (-1)] (.if_icmp .eq 20))) (cno (cat E_Mod_nearest [.iload_n 3, .iload_n 1, .invokestatic 59, .iload_n 2, .iload_n 1, .invokestatic 59] (.if_icmp .ge 7))))
  (blk E_Mod_nearest [.iconst 1])
  (blk E_Mod_nearest [.iconst 0]))
  (sq (blk E_Mod_nearest [.istore 5])
  (sq (ite' (cor (cat E_Mod_nearest [.iload 4] (.ifCond .gt 13)) (can (cno (cat E_Mod_nearest [.iload 4] (.ifCond .ne 12))) (cno (cat E_Mod_nearest [.iload 5] (.ifCond .eq 7)))))
  (blk E_Mod_nearest [.iload_n 3])
  (blk E_Mod_nearest [.iload_n 2]))
  (blk E_Mod_nearest [.istore_n 2]))))))
  (blk E_Mod_nearest []))
  (blk E_Mod_nearest [.iinc 3 1]))
  (blk E_Mod_nearest []) zFU)
  (rti E_Mod_nearest [.iload_n 2])))
def x_Mod_nearest : Ex := exb true 6 d_Mod_nearest
abbrev r_Mod_nearest : Room := ({ frames := 1, cells := 0, slots := 0, locals := 21 } : Room)
theorem eo_Mod_nearest (hw : zWok w) (cx : CX w p s m args c b_Mod_nearest 6 "CoilSlitsModel") : EnvOk w true p l e r_Mod_nearest s m args below meth c Q b_Mod_nearest 6 "CoilSlitsModel" E_Mod_nearest :=
  ⟨rfl, by decide +kernel, by decide +kernel, by decide +kernel, hw, fun h => absurd h (by decide),
  List.forall_mem_cons.mpr ⟨call_S cx (ct_Mod_far w l hw) tw_898 tw_896 tw_8 tw_897 (by decide +kernel) ⟨Nat.le_of_ble_eq_true rfl, Nat.le_of_ble_eq_true rfl⟩, fun q hq => absurd hq List.not_mem_nil⟩⟩
theorem sn_Mod_nearest (h : MC w true p l e R s m args below meth c Q b_Mod_nearest 6 "CoilSlitsModel" E_Mod_nearest 0 0 F (some .int)) : Sn (zK w true p l e R s m args below meth c Q 6) F (fun _ => False) (fun _ => False) 0 0 0 d_Mod_nearest 0 0 0 := by
  unfold d_Mod_nearest
  exact (sn_sq (pm := 4) (m_blk h zz (by decide +kernel))
  (sn_sq (pm := 91) (sn_lop (pt := 10) (pu := 88) (p2 := 88) (px := 91) (kb2 := fun _ => False) (kc2 := fun _ => False) (sc_fo m_fo (sc_no (m_cat h zz (p1 := 7) (tgt := 91) (by decide +kernel) (by decide +kernel) (by decide))))
  (sn_sq (pm := 85) (sn_ite (pt := 15) (pf := 85) (sc_no (m_cat h zz (p1 := 12) (tgt := 85) (by decide +kernel) (by decide +kernel) (by decide)))
  (sn_sq (pm := 37) (sn_ite (pt := 20) (pf := 24) (sc_no (m_cat h zz (p1 := 17) (tgt := 24) (by decide +kernel) (by decide +kernel) (by decide)))
  (sn_goto (pm := 21) (m_blk h zz (by decide +kernel)) (m_goto h (off := 16) (by decide +kernel) (by decide)))
  (m_blk h zz (by decide +kernel)))
  (sn_sq (pm := 39) (m_blk h zz (by decide +kernel))
  (sn_sq (pm := 62) (sn_ite (pt := 57) (pf := 61) (sc_an (pm := 44) (sc_no (m_cat h zz (p1 := 41) (tgt := 61) (by decide +kernel) (by decide +kernel) (by decide))) (sc_no (m_cat h zz (p1 := 54) (tgt := 61) (by decide +kernel) (by decide +kernel) (by decide))))
  (sn_goto (pm := 58) (m_blk h zz (by decide +kernel)) (m_goto h (off := 4) (by decide +kernel) (by decide)))
  (m_blk h zz (by decide +kernel)))
  (sn_sq (pm := 64) (m_blk h zz (by decide +kernel))
  (sn_sq (pm := 84) (sn_ite (pt := 79) (pf := 83) (sc_or (pm := 69) (m_cat h zz (p1 := 66) (tgt := 79) (by decide +kernel) (by decide +kernel) (by decide)) (sc_an (pm := 74) (sc_no (m_cat h zz (p1 := 71) (tgt := 83) (by decide +kernel) (by decide +kernel) (by decide))) (sc_no (m_cat h zz (p1 := 76) (tgt := 83) (by decide +kernel) (by decide +kernel) (by decide)))))
  (sn_goto (pm := 80) (m_blk h zz (by decide +kernel)) (m_goto h (off := 4) (by decide +kernel) (by decide)))
  (m_blk h zz (by decide +kernel)))
  (m_blk h zz (by decide +kernel)))))))
  (m_blk h zz rfl))
  (m_blk h zz (by decide +kernel)))
  (m_blk h zz rfl) (m_goto h (off := (-84)) (by decide +kernel) (by decide)) zFU)
  (m_rti h zz (p1 := 92) (by decide +kernel) (by decide +kernel) (Nat.zero_le _) (Nat.zero_le _))))
theorem ct_Mod_nearest (w : Wd) (l : Launch) (hw : zWok w) : CT w l y_Mod_nearest b_Mod_nearest 6 (some .int) r_Mod_nearest (exb true 6 d_Mod_nearest) :=
  ct_plain (by decide +kernel) (fun p e s m args below meth c Q cx hnm => eo_Mod_nearest hw cx) (fun p e s m args below meth c Q F h => sn_Mod_nearest h)
theorem q_Mod_nearest (x0 : Nat) (x1 : Int32) (g : G) : x_Mod_nearest [.ref x0, .int x1] g = zres (d_Mod_nearest ([some (.ref x0), some (.int x1), none, none, none, none], [], g)) := q_of [some (.ref x0), some (.int x1), none, none, none, none] rfl (Nat.le_of_ble_eq_true rfl) (Or.inr rfl)
theorem lc_Mod_nearest_59 : lookI (eC E_Mod_nearest) (.invokestatic 59) = some (2, x_Mod_far) := rfl
theorem lb_Mod_nearest : eB E_Mod_nearest = true := rfl
theorem lt_Mod_nearest : eT E_Mod_nearest = zST := rfl
-- CoilSlitsModel.digs
def E_Mod_digs : Env := (true, [], [(.invokestatic 63, 2, x_Mod_above), (.invokestatic 66, 2, x_Mod_nearest), (.invokestatic 69, 3, x_Mod_moves)], [], [], zST, false)
def d_Mod_digs : Dn := (sq (blk E_Mod_digs [.aload_n 0, .iload_n 1, .invokestatic 63, .istore_n 2, .iconst 0, .istore_n 3])
  (sq (lop (cno (cat E_Mod_digs [.iload_n 3, .iload_n 2] (.if_icmp .ge 24)))
  (blk E_Mod_digs [.aload_n 0, .iload_n 1, .iconst 5, .idiv, .aload_n 0, .iload_n 1, .iconst 5, .idiv, .invokestatic 66, .invokestatic 69, .pop, .iinc 3 1])
  (blk E_Mod_digs []) zFU)
  (rti E_Mod_digs [.iload_n 2])))
def x_Mod_digs : Ex := exb true 4 d_Mod_digs
abbrev r_Mod_digs : Room := ({ frames := 2, cells := 0, slots := 0, locals := 51 } : Room)
theorem eo_Mod_digs (hw : zWok w) (cx : CX w p s m args c b_Mod_digs 4 "CoilSlitsModel") : EnvOk w true p l e r_Mod_digs s m args below meth c Q b_Mod_digs 4 "CoilSlitsModel" E_Mod_digs :=
  ⟨rfl, by decide +kernel, by decide +kernel, by decide +kernel, hw, fun h => absurd h (by decide),
  List.forall_mem_cons.mpr ⟨call_S cx (ct_Mod_above w l hw) tw_918 tw_916 tw_8 tw_917 (by decide +kernel) ⟨Nat.le_of_ble_eq_true rfl, Nat.le_of_ble_eq_true rfl⟩, List.forall_mem_cons.mpr ⟨call_S cx (ct_Mod_nearest w l hw) tw_924 tw_922 tw_8 tw_923 (by decide +kernel) ⟨Nat.le_of_ble_eq_true rfl, Nat.le_of_ble_eq_true rfl⟩, List.forall_mem_cons.mpr ⟨call_S cx (ct_Mod_moves w l hw) tw_889 tw_887 tw_8 tw_888 (by decide +kernel) ⟨Nat.le_of_ble_eq_true rfl, Nat.le_of_ble_eq_true rfl⟩, fun q hq => absurd hq List.not_mem_nil⟩⟩⟩⟩
theorem sn_Mod_digs (h : MC w true p l e R s m args below meth c Q b_Mod_digs 4 "CoilSlitsModel" E_Mod_digs 0 0 F (some .int)) : Sn (zK w true p l e R s m args below meth c Q 4) F (fun _ => False) (fun _ => False) 0 0 0 d_Mod_digs 0 0 0 := by
  unfold d_Mod_digs
  exact (sn_sq (pm := 8) (m_blk h zz (by decide +kernel))
  (sn_sq (pm := 34) (sn_lop (pt := 13) (pu := 31) (p2 := 31) (px := 34) (kb2 := fun _ => False) (kc2 := fun _ => False) (sc_no (m_cat h zz (p1 := 10) (tgt := 34) (by decide +kernel) (by decide +kernel) (by decide)))
  (m_blk h zz (by decide +kernel))
  (m_blk h zz rfl) (m_goto h (off := (-23)) (by decide +kernel) (by decide)) zFU)
  (m_rti h zz (p1 := 35) (by decide +kernel) (by decide +kernel) (Nat.zero_le _) (Nat.zero_le _))))
theorem ct_Mod_digs (w : Wd) (l : Launch) (hw : zWok w) : CT w l y_Mod_digs b_Mod_digs 4 (some .int) r_Mod_digs (exb true 4 d_Mod_digs) :=
  ct_plain (by decide +kernel) (fun p e s m args below meth c Q cx hnm => eo_Mod_digs hw cx) (fun p e s m args below meth c Q F h => sn_Mod_digs h)
theorem q_Mod_digs (x0 : Nat) (x1 : Int32) (g : G) : x_Mod_digs [.ref x0, .int x1] g = zres (d_Mod_digs ([some (.ref x0), some (.int x1), none, none], [], g)) := q_of [some (.ref x0), some (.int x1), none, none] rfl (Nat.le_of_ble_eq_true rfl) (Or.inr rfl)
theorem lc_Mod_digs_63 : lookI (eC E_Mod_digs) (.invokestatic 63) = some (2, x_Mod_above) := rfl
theorem lc_Mod_digs_66 : lookI (eC E_Mod_digs) (.invokestatic 66) = some (2, x_Mod_nearest) := rfl
theorem lc_Mod_digs_69 : lookI (eC E_Mod_digs) (.invokestatic 69) = some (3, x_Mod_moves) := rfl
theorem lb_Mod_digs : eB E_Mod_digs = true := rfl
-- CoilSlitsModel.fits
def E_Mod_fits : Env := (true, [], [(.invokestatic 44, 3, x_Mod_of), (.invokestatic 48, 3, x_Mod_by)], [], [], zST, false)
def d_Mod_fits : Dn := (rti E_Mod_fits [.aload_n 0, .iload_n 2, .iconst 1, .invokestatic 44, .aload_n 0, .iload_n 1, .iconst 3, .invokestatic 48, .aload_n 0, .iconst 1, .iaload, .iadd, .idiv])
def x_Mod_fits : Ex := exb true 3 d_Mod_fits
abbrev r_Mod_fits : Room := ({ frames := 1, cells := 0, slots := 0, locals := 22 } : Room)
theorem eo_Mod_fits (hw : zWok w) (cx : CX w p s m args c b_Mod_fits 3 "CoilSlitsModel") : EnvOk w true p l e r_Mod_fits s m args below meth c Q b_Mod_fits 3 "CoilSlitsModel" E_Mod_fits :=
  ⟨rfl, by decide +kernel, by decide +kernel, by decide +kernel, hw, fun h => absurd h (by decide),
  List.forall_mem_cons.mpr ⟨call_S cx (ct_Mod_of w l hw) tw_895 tw_893 tw_8 tw_894 (by decide +kernel) ⟨Nat.le_of_ble_eq_true rfl, Nat.le_of_ble_eq_true rfl⟩, List.forall_mem_cons.mpr ⟨call_S cx (ct_Mod_by w l hw) tw_942 tw_940 tw_8 tw_941 (by decide +kernel) ⟨Nat.le_of_ble_eq_true rfl, Nat.le_of_ble_eq_true rfl⟩, fun q hq => absurd hq List.not_mem_nil⟩⟩⟩
theorem sn_Mod_fits (h : MC w true p l e R s m args below meth c Q b_Mod_fits 3 "CoilSlitsModel" E_Mod_fits 0 0 F (some .int)) : Sn (zK w true p l e R s m args below meth c Q 3) F (fun _ => False) (fun _ => False) 0 0 0 d_Mod_fits 0 0 0 := by
  unfold d_Mod_fits
  exact (m_rti h zz (p1 := 17) (by decide +kernel) (by decide +kernel) (Nat.zero_le _) (Nat.zero_le _))
theorem ct_Mod_fits (w : Wd) (l : Launch) (hw : zWok w) : CT w l y_Mod_fits b_Mod_fits 3 (some .int) r_Mod_fits (exb true 3 d_Mod_fits) :=
  ct_plain (by decide +kernel) (fun p e s m args below meth c Q cx hnm => eo_Mod_fits hw cx) (fun p e s m args below meth c Q F h => sn_Mod_fits h)
theorem q_Mod_fits (x0 : Nat) (x1 : Int32) (x2 : Int32) (g : G) : x_Mod_fits [.ref x0, .int x1, .int x2] g = zres (d_Mod_fits ([some (.ref x0), some (.int x1), some (.int x2)], [], g)) := q_of [some (.ref x0), some (.int x1), some (.int x2)] rfl (Nat.le_of_ble_eq_true rfl) (Or.inr rfl)
theorem lc_Mod_fits_44 : lookI (eC E_Mod_fits) (.invokestatic 44) = some (3, x_Mod_of) := rfl
theorem lc_Mod_fits_48 : lookI (eC E_Mod_fits) (.invokestatic 48) = some (3, x_Mod_by) := rfl
theorem lb_Mod_fits : eB E_Mod_fits = true := rfl
theorem lt_Mod_fits : eT E_Mod_fits = zST := rfl
-- CoilSlitsModel.reason
def E_Mod_reason : Env := (true, [], [(.invokestatic 44, 3, x_Mod_of), (.invokestatic 48, 3, x_Mod_by), (.invokestatic 72, 3, x_Mod_fits), (.invokestatic 75, 2, x_Mod_canDig)], [], [], zST, false)
def d_Mod_reason : Dn := (sq (ite' (cno (cat E_Mod_reason [.aload_n 0, .iload_n 2, .iconst 2, .invokestatic 44, .aload_n 0, .iload_n 1, .iconst 1, .invokestatic 48] (.if_icmp .eq 5)))
  (rti E_Mod_reason [.iconst 1])
  (blk E_Mod_reason []))
  (sq (ite' (cno (cat E_Mod_reason [.aload_n 0, .iload_n 2, .iconst 3, .invokestatic 44, .aload_n 0, .iload_n 1, .iconst 2, .invokestatic 48] (.if_icmp .ge 5)))
  (rti E_Mod_reason [.iconst 2])
  (blk E_Mod_reason []))
  (sq (ite' (cno (cat E_Mod_reason [.aload_n 0, .iload_n 1, .iload_n 2, .invokestatic 72] (.ifCond .ne 7)))
  (blk E_Mod_reason [.iconst 3])
  (ite' (cno (cat E_Mod_reason [.aload_n 0, .iload_n 2, .invokestatic 75] (.ifCond .eq 7)))
  (blk E_Mod_reason [.iconst 0])
  (blk E_Mod_reason [.iconst 4])))
  (rti E_Mod_reason []))))
def x_Mod_reason : Ex := exb true 3 d_Mod_reason
abbrev r_Mod_reason : Room := ({ frames := 2, cells := 0, slots := 0, locals := 44 } : Room)
theorem eo_Mod_reason (hw : zWok w) (cx : CX w p s m args c b_Mod_reason 3 "CoilSlitsModel") : EnvOk w true p l e r_Mod_reason s m args below meth c Q b_Mod_reason 3 "CoilSlitsModel" E_Mod_reason :=
  ⟨rfl, by decide +kernel, by decide +kernel, by decide +kernel, hw, fun h => absurd h (by decide),
  List.forall_mem_cons.mpr ⟨call_S cx (ct_Mod_of w l hw) tw_895 tw_893 tw_8 tw_894 (by decide +kernel) ⟨Nat.le_of_ble_eq_true rfl, Nat.le_of_ble_eq_true rfl⟩, List.forall_mem_cons.mpr ⟨call_S cx (ct_Mod_by w l hw) tw_942 tw_940 tw_8 tw_941 (by decide +kernel) ⟨Nat.le_of_ble_eq_true rfl, Nat.le_of_ble_eq_true rfl⟩, List.forall_mem_cons.mpr ⟨call_S cx (ct_Mod_fits w l hw) tw_955 tw_953 tw_8 tw_954 (by decide +kernel) ⟨Nat.le_of_ble_eq_true rfl, Nat.le_of_ble_eq_true rfl⟩, List.forall_mem_cons.mpr ⟨call_S cx (ct_Mod_canDig w l hw) tw_915 tw_913 tw_8 tw_914 (by decide +kernel) ⟨Nat.le_of_ble_eq_true rfl, Nat.le_of_ble_eq_true rfl⟩, fun q hq => absurd hq List.not_mem_nil⟩⟩⟩⟩⟩
theorem sn_Mod_reason (h : MC w true p l e R s m args below meth c Q b_Mod_reason 3 "CoilSlitsModel" E_Mod_reason 0 0 F (some .int)) : Sn (zK w true p l e R s m args below meth c Q 3) F (fun _ => False) (fun _ => False) 0 0 0 d_Mod_reason 0 0 0 := by
  unfold d_Mod_reason
  exact (sn_sq (pm := 17) (sn_ite (pt := 15) (pf := 17) (sc_no (m_cat h zz (p1 := 12) (tgt := 17) (by decide +kernel) (by decide +kernel) (by decide)))
  (m_rti h zz (p1 := 16) (by decide +kernel) (by decide +kernel) (Nat.zero_le _) (Nat.zero_le _))
  (m_blk h zz rfl))
  (sn_sq (pm := 34) (sn_ite (pt := 32) (pf := 34) (sc_no (m_cat h zz (p1 := 29) (tgt := 34) (by decide +kernel) (by decide +kernel) (by decide)))
  (m_rti h zz (p1 := 33) (by decide +kernel) (by decide +kernel) (Nat.zero_le _) (Nat.zero_le _))
  (m_blk h zz rfl))
  (sn_sq (pm := 60) (sn_ite (pt := 43) (pf := 47) (sc_no (m_cat h zz (p1 := 40) (tgt := 47) (by decide +kernel) (by decide +kernel) (by decide)))
  (sn_goto (pm := 44) (m_blk h zz (by decide +kernel)) (m_goto h (off := 16) (by decide +kernel) (by decide)))
  (sn_ite (pt := 55) (pf := 59) (sc_no (m_cat h zz (p1 := 52) (tgt := 59) (by decide +kernel) (by decide +kernel) (by decide)))
  (sn_goto (pm := 56) (m_blk h zz (by decide +kernel)) (m_goto h (off := 4) (by decide +kernel) (by decide)))
  (m_blk h zz (by decide +kernel))))
  (m_rti h zz (p1 := 60) (by decide +kernel) (by decide +kernel) (Nat.zero_le _) (Nat.zero_le _)))))
theorem ct_Mod_reason (w : Wd) (l : Launch) (hw : zWok w) : CT w l y_Mod_reason b_Mod_reason 3 (some .int) r_Mod_reason (exb true 3 d_Mod_reason) :=
  ct_plain (by decide +kernel) (fun p e s m args below meth c Q cx hnm => eo_Mod_reason hw cx) (fun p e s m args below meth c Q F h => sn_Mod_reason h)
theorem q_Mod_reason (x0 : Nat) (x1 : Int32) (x2 : Int32) (g : G) : x_Mod_reason [.ref x0, .int x1, .int x2] g = zres (d_Mod_reason ([some (.ref x0), some (.int x1), some (.int x2)], [], g)) := q_of [some (.ref x0), some (.int x1), some (.int x2)] rfl (Nat.le_of_ble_eq_true rfl) (Or.inr rfl)
theorem lc_Mod_reason_44 : lookI (eC E_Mod_reason) (.invokestatic 44) = some (3, x_Mod_of) := rfl
theorem lc_Mod_reason_48 : lookI (eC E_Mod_reason) (.invokestatic 48) = some (3, x_Mod_by) := rfl
theorem lc_Mod_reason_72 : lookI (eC E_Mod_reason) (.invokestatic 72) = some (3, x_Mod_fits) := rfl
theorem lc_Mod_reason_75 : lookI (eC E_Mod_reason) (.invokestatic 75) = some (2, x_Mod_canDig) := rfl
theorem lb_Mod_reason : eB E_Mod_reason = true := rfl
-- CoilSlitsModel.cuts
def E_Mod_cuts : Env := (true, [], [(.invokestatic 72, 3, x_Mod_fits), (.invokestatic 48, 3, x_Mod_by)], [], [], zST, false)
def d_Mod_cuts : Dn := (sq (blk E_Mod_cuts [.aload_n 0, .iload_n 1, .iload_n 2, .invokestatic 72, .istore_n 3])
  (sq (ite' (cno (cat E_Mod_cuts [.iload_n 3, .aload_n 0, .iload_n 1, .iconst 4, .invokestatic 48] (.if_icmp .ge 7)))
  (blk E_Mod_cuts [.iload_n 3])
  (blk E_Mod_cuts [.aload_n 0, .iload_n 1, .iconst 4, .invokestatic 48]))
  (rti E_Mod_cuts [])))
def x_Mod_cuts : Ex := exb true 4 d_Mod_cuts
abbrev r_Mod_cuts : Room := ({ frames := 2, cells := 0, slots := 0, locals := 44 } : Room)
theorem eo_Mod_cuts (hw : zWok w) (cx : CX w p s m args c b_Mod_cuts 4 "CoilSlitsModel") : EnvOk w true p l e r_Mod_cuts s m args below meth c Q b_Mod_cuts 4 "CoilSlitsModel" E_Mod_cuts :=
  ⟨rfl, by decide +kernel, by decide +kernel, by decide +kernel, hw, fun h => absurd h (by decide),
  List.forall_mem_cons.mpr ⟨call_S cx (ct_Mod_fits w l hw) tw_955 tw_953 tw_8 tw_954 (by decide +kernel) ⟨Nat.le_of_ble_eq_true rfl, Nat.le_of_ble_eq_true rfl⟩, List.forall_mem_cons.mpr ⟨call_S cx (ct_Mod_by w l hw) tw_942 tw_940 tw_8 tw_941 (by decide +kernel) ⟨Nat.le_of_ble_eq_true rfl, Nat.le_of_ble_eq_true rfl⟩, fun q hq => absurd hq List.not_mem_nil⟩⟩⟩
theorem sn_Mod_cuts (h : MC w true p l e R s m args below meth c Q b_Mod_cuts 4 "CoilSlitsModel" E_Mod_cuts 0 0 F (some .int)) : Sn (zK w true p l e R s m args below meth c Q 4) F (fun _ => False) (fun _ => False) 0 0 0 d_Mod_cuts 0 0 0 := by
  unfold d_Mod_cuts
  exact (sn_sq (pm := 7) (m_blk h zz (by decide +kernel))
  (sn_sq (pm := 27) (sn_ite (pt := 17) (pf := 21) (sc_no (m_cat h zz (p1 := 14) (tgt := 21) (by decide +kernel) (by decide +kernel) (by decide)))
  (sn_goto (pm := 18) (m_blk h zz (by decide +kernel)) (m_goto h (off := 9) (by decide +kernel) (by decide)))
  (m_blk h zz (by decide +kernel)))
  (m_rti h zz (p1 := 27) (by decide +kernel) (by decide +kernel) (Nat.zero_le _) (Nat.zero_le _))))
theorem ct_Mod_cuts (w : Wd) (l : Launch) (hw : zWok w) : CT w l y_Mod_cuts b_Mod_cuts 4 (some .int) r_Mod_cuts (exb true 4 d_Mod_cuts) :=
  ct_plain (by decide +kernel) (fun p e s m args below meth c Q cx hnm => eo_Mod_cuts hw cx) (fun p e s m args below meth c Q F h => sn_Mod_cuts h)
theorem q_Mod_cuts (x0 : Nat) (x1 : Int32) (x2 : Int32) (g : G) : x_Mod_cuts [.ref x0, .int x1, .int x2] g = zres (d_Mod_cuts ([some (.ref x0), some (.int x1), some (.int x2), none], [], g)) := q_of [some (.ref x0), some (.int x1), some (.int x2), none] rfl (Nat.le_of_ble_eq_true rfl) (Or.inr rfl)
theorem lc_Mod_cuts_72 : lookI (eC E_Mod_cuts) (.invokestatic 72) = some (3, x_Mod_fits) := rfl
theorem lc_Mod_cuts_48 : lookI (eC E_Mod_cuts) (.invokestatic 48) = some (3, x_Mod_by) := rfl
theorem lb_Mod_cuts : eB E_Mod_cuts = true := rfl
-- CoilSlitsModel.restOf
def E_Mod_restOf : Env := (true, [], [(.invokestatic 44, 3, x_Mod_of), (.invokestatic 78, 3, x_Mod_cuts), (.invokestatic 48, 3, x_Mod_by)], [], [], zST, false)
def d_Mod_restOf : Dn := (rti E_Mod_restOf [.aload_n 0, .iload_n 2, .iconst 1, .invokestatic 44, .aload_n 0, .iload_n 1, .iload_n 2, .invokestatic 78, .aload_n 0, .iload_n 1, .iconst 3, .invokestatic 48, .aload_n 0, .iconst 1, .iaload, .iadd, .imul, .isub])
def x_Mod_restOf : Ex := exb true 3 d_Mod_restOf
abbrev r_Mod_restOf : Room := ({ frames := 3, cells := 0, slots := 0, locals := 67 } : Room)
theorem eo_Mod_restOf (hw : zWok w) (cx : CX w p s m args c b_Mod_restOf 3 "CoilSlitsModel") : EnvOk w true p l e r_Mod_restOf s m args below meth c Q b_Mod_restOf 3 "CoilSlitsModel" E_Mod_restOf :=
  ⟨rfl, by decide +kernel, by decide +kernel, by decide +kernel, hw, fun h => absurd h (by decide),
  List.forall_mem_cons.mpr ⟨call_S cx (ct_Mod_of w l hw) tw_895 tw_893 tw_8 tw_894 (by decide +kernel) ⟨Nat.le_of_ble_eq_true rfl, Nat.le_of_ble_eq_true rfl⟩, List.forall_mem_cons.mpr ⟨call_S cx (ct_Mod_cuts w l hw) tw_961 tw_959 tw_8 tw_960 (by decide +kernel) ⟨Nat.le_of_ble_eq_true rfl, Nat.le_of_ble_eq_true rfl⟩, List.forall_mem_cons.mpr ⟨call_S cx (ct_Mod_by w l hw) tw_942 tw_940 tw_8 tw_941 (by decide +kernel) ⟨Nat.le_of_ble_eq_true rfl, Nat.le_of_ble_eq_true rfl⟩, fun q hq => absurd hq List.not_mem_nil⟩⟩⟩⟩
theorem sn_Mod_restOf (h : MC w true p l e R s m args below meth c Q b_Mod_restOf 3 "CoilSlitsModel" E_Mod_restOf 0 0 F (some .int)) : Sn (zK w true p l e R s m args below meth c Q 3) F (fun _ => False) (fun _ => False) 0 0 0 d_Mod_restOf 0 0 0 := by
  unfold d_Mod_restOf
  exact (m_rti h zz (p1 := 24) (by decide +kernel) (by decide +kernel) (Nat.zero_le _) (Nat.zero_le _))
theorem ct_Mod_restOf (w : Wd) (l : Launch) (hw : zWok w) : CT w l y_Mod_restOf b_Mod_restOf 3 (some .int) r_Mod_restOf (exb true 3 d_Mod_restOf) :=
  ct_plain (by decide +kernel) (fun p e s m args below meth c Q cx hnm => eo_Mod_restOf hw cx) (fun p e s m args below meth c Q F h => sn_Mod_restOf h)
theorem q_Mod_restOf (x0 : Nat) (x1 : Int32) (x2 : Int32) (g : G) : x_Mod_restOf [.ref x0, .int x1, .int x2] g = zres (d_Mod_restOf ([some (.ref x0), some (.int x1), some (.int x2)], [], g)) := q_of [some (.ref x0), some (.int x1), some (.int x2)] rfl (Nat.le_of_ble_eq_true rfl) (Or.inr rfl)
theorem lc_Mod_restOf_44 : lookI (eC E_Mod_restOf) (.invokestatic 44) = some (3, x_Mod_of) := rfl
theorem lc_Mod_restOf_78 : lookI (eC E_Mod_restOf) (.invokestatic 78) = some (3, x_Mod_cuts) := rfl
theorem lc_Mod_restOf_48 : lookI (eC E_Mod_restOf) (.invokestatic 48) = some (3, x_Mod_by) := rfl
theorem lb_Mod_restOf : eB E_Mod_restOf = true := rfl
theorem lt_Mod_restOf : eT E_Mod_restOf = zST := rfl
-- CoilSlitsModel.chosen
def E_Mod_chosen : Env := (true, [], [(.invokestatic 40, 2, x_Mod_isAt), (.invokestatic 81, 3, x_Mod_reason), (.invokestatic 84, 3, x_Mod_restOf), (.invokestatic 63, 2, x_Mod_above), (.invokestatic 44, 3, x_Mod_of)], [], [], zST, false)
def d_Mod_chosen : Dn := (sq (blk E_Mod_chosen [.iconst (-1), .istore_n 2, .iconst 0, .istore_n 3, .iconst 0, .istore 4])
  (sq (lop (cfo [5, 6] (cno (cat E_Mod_chosen [.iload 4, .bipush 30] (.if_icmp .ge 133))))
  (sq (ite' (can (cno (cat E_Mod_chosen [.aload_n 0, .iload 4, .invokestatic 40] (.ifCond .eq 118))) (cno (cat E_Mod_chosen [.aload_n 0, .iload_n 1, .iload 4, .invokestatic 81] (.ifCond .ne 108))))
  (sq (ite' (cno (cat E_Mod_chosen [.aload_n 0, .iconst 3, .iaload] (.ifCond .ne 13)))
  (blk E_Mod_chosen [.aload_n 0, .iload_n 1, .iload 4, .invokestatic 84])
  (ite' (cno (cat E_Mod_chosen [.aload_n 0, .iconst 3, .iaload, .iconst 1] (.if_icmp .ne 12)))
  (blk E_Mod_chosen [.aload_n 0, .iload 4, .invokestatic 63])
  (blk E_Mod_chosen [.aload_n 0, .iload 4, .iconst 3, .invokestatic 44])))
  (sq (blk E_Mod_chosen [.istore 5])
  (sq (ite' (cor (cat E_Mod_chosen [.iload_n 2, .iconst (-1)] (.if_icmp .eq 31)) (cor (cat E_Mod_chosen [.iload 5, .iload_n 3] (.if_icmp .lt 25)) (can (cno (cat E_Mod_chosen [.iload 5, .iload_n 3] (.if_icmp .ne 23))) (cno (cat E_Mod_chosen [.aload_n 0, .iload 4, .iconst 0, .invokestatic 44, .aload_n 0, .iload_n 2, .iconst 0, .invokestatic 44] (.if_icmp .ge 7))))))
  (blk E_Mod_chosen [.iconst 1])
  (blk E_Mod_chosen [.iconst 0]))
  (sq (blk E_Mod_chosen [.istore 6])
  (sq (ite' (cno (cat E_Mod_chosen [.iload 6] (.ifCond .eq 8)))
  (blk E_Mod_chosen [.iload 4])
  (blk E_Mod_chosen [.iload_n 2]))
  (sq (blk E_Mod_chosen [.istore_n 2])
  (sq (ite' (cno (cat E_Mod_chosen [.iload 6] (.ifCond .eq 8)))
  (blk E_Mod_chosen [.iload 5])
  (blk E_Mod_chosen [.iload_n 3]))
  (blk E_Mod_chosen [.istore_n 3]))))))))
  (blk E_Mod_chosen []))
  (blk E_Mod_chosen [.iinc 4 1]))
  (blk E_Mod_chosen []) zFU)
  (rti E_Mod_chosen [.iload_n 2])))
def x_Mod_chosen : Ex := exb true 7 d_Mod_chosen
abbrev r_Mod_chosen : Room := ({ frames := 4, cells := 0, slots := 0, locals := 89 } : Room)
theorem eo_Mod_chosen (hw : zWok w) (cx : CX w p s m args c b_Mod_chosen 7 "CoilSlitsModel") : EnvOk w true p l e r_Mod_chosen s m args below meth c Q b_Mod_chosen 7 "CoilSlitsModel" E_Mod_chosen :=
  ⟨rfl, by decide +kernel, by decide +kernel, by decide +kernel, hw, fun h => absurd h (by decide),
  List.forall_mem_cons.mpr ⟨call_S cx (ct_Mod_isAt w l hw) tw_908 tw_906 tw_8 tw_907 (by decide +kernel) ⟨Nat.le_of_ble_eq_true rfl, Nat.le_of_ble_eq_true rfl⟩, List.forall_mem_cons.mpr ⟨call_S cx (ct_Mod_reason w l hw) tw_952 tw_950 tw_8 tw_951 (by decide +kernel) ⟨Nat.le_of_ble_eq_true rfl, Nat.le_of_ble_eq_true rfl⟩, List.forall_mem_cons.mpr ⟨call_S cx (ct_Mod_restOf w l hw) tw_964 tw_962 tw_8 tw_963 (by decide +kernel) ⟨Nat.le_of_ble_eq_true rfl, Nat.le_of_ble_eq_true rfl⟩, List.forall_mem_cons.mpr ⟨call_S cx (ct_Mod_above w l hw) tw_918 tw_916 tw_8 tw_917 (by decide +kernel) ⟨Nat.le_of_ble_eq_true rfl, Nat.le_of_ble_eq_true rfl⟩, List.forall_mem_cons.mpr ⟨call_S cx (ct_Mod_of w l hw) tw_895 tw_893 tw_8 tw_894 (by decide +kernel) ⟨Nat.le_of_ble_eq_true rfl, Nat.le_of_ble_eq_true rfl⟩, fun q hq => absurd hq List.not_mem_nil⟩⟩⟩⟩⟩⟩
theorem sn_Mod_chosen (h : MC w true p l e R s m args below meth c Q b_Mod_chosen 7 "CoilSlitsModel" E_Mod_chosen 0 0 F (some .int)) : Sn (zK w true p l e R s m args below meth c Q 7) F (fun _ => False) (fun _ => False) 0 0 0 d_Mod_chosen 0 0 0 := by
  unfold d_Mod_chosen
  exact (sn_sq (pm := 7) (m_blk h zz (by decide +kernel))
  (sn_sq (pm := 144) (sn_lop (pt := 14) (pu := 141) (p2 := 141) (px := 144) (kb2 := fun _ => False) (kc2 := fun _ => False) (sc_fo m_fo (sc_no (m_cat h zz (p1 := 11) (tgt := 144) (by decide +kernel) (by decide +kernel) (by decide))))
  (sn_sq (pm := 138) (sn_ite (pt := 33) (pf := 138) (sc_an (pm := 23) (sc_no (m_cat h zz (p1 := 20) (tgt := 138) (by decide +kernel) (by decide +kernel) (by decide))) (sc_no (m_cat h zz (p1 := 30) (tgt := 138) (by decide +kernel) (by decide +kernel) (by decide))))
  (sn_sq (pm := 72) (sn_ite (pt := 39) (pf := 49) (sc_no (m_cat h zz (p1 := 36) (tgt := 49) (by decide +kernel) (by decide +kernel) (by decide)))
  (sn_goto (pm := 46) (m_blk h zz (by decide +kernel)) (m_goto h (off := 26) (by decide +kernel) (by decide)))
  (sn_ite (pt := 56) (pf := 65) (sc_no (m_cat h zz (p1 := 53) (tgt := 65) (by decide +kernel) (by decide +kernel) (by decide)))
  (sn_goto (pm := 62) (m_blk h zz (by decide +kernel)) (m_goto h (off := 10) (by decide +kernel) (by decide)))
  (m_blk h zz (by decide +kernel))))
  (sn_sq (pm := 74) (m_blk h zz (by decide +kernel))
  (sn_sq (pm := 112) (sn_ite (pt := 107) (pf := 111) (sc_or (pm := 79) (m_cat h zz (p1 := 76) (tgt := 107) (by decide +kernel) (by decide +kernel) (by decide)) (sc_or (pm := 85) (m_cat h zz (p1 := 82) (tgt := 107) (by decide +kernel) (by decide +kernel) (by decide)) (sc_an (pm := 91) (sc_no (m_cat h zz (p1 := 88) (tgt := 111) (by decide +kernel) (by decide +kernel) (by decide))) (sc_no (m_cat h zz (p1 := 104) (tgt := 111) (by decide +kernel) (by decide +kernel) (by decide))))))
  (sn_goto (pm := 108) (m_blk h zz (by decide +kernel)) (m_goto h (off := 4) (by decide +kernel) (by decide)))
  (m_blk h zz (by decide +kernel)))
  (sn_sq (pm := 114) (m_blk h zz (by decide +kernel))
  (sn_sq (pm := 125) (sn_ite (pt := 119) (pf := 124) (sc_no (m_cat h zz (p1 := 116) (tgt := 124) (by decide +kernel) (by decide +kernel) (by decide)))
  (sn_goto (pm := 121) (m_blk h zz (by decide +kernel)) (m_goto h (off := 4) (by decide +kernel) (by decide)))
  (m_blk h zz (by decide +kernel)))
  (sn_sq (pm := 126) (m_blk h zz (by decide +kernel))
  (sn_sq (pm := 137) (sn_ite (pt := 131) (pf := 136) (sc_no (m_cat h zz (p1 := 128) (tgt := 136) (by decide +kernel) (by decide +kernel) (by decide)))
  (sn_goto (pm := 133) (m_blk h zz (by decide +kernel)) (m_goto h (off := 4) (by decide +kernel) (by decide)))
  (m_blk h zz (by decide +kernel)))
  (m_blk h zz (by decide +kernel)))))))))
  (m_blk h zz rfl))
  (m_blk h zz (by decide +kernel)))
  (m_blk h zz rfl) (m_goto h (off := (-134)) (by decide +kernel) (by decide)) zFU)
  (m_rti h zz (p1 := 145) (by decide +kernel) (by decide +kernel) (Nat.zero_le _) (Nat.zero_le _))))
theorem ct_Mod_chosen (w : Wd) (l : Launch) (hw : zWok w) : CT w l y_Mod_chosen b_Mod_chosen 7 (some .int) r_Mod_chosen (exb true 7 d_Mod_chosen) :=
  ct_plain (by decide +kernel) (fun p e s m args below meth c Q cx hnm => eo_Mod_chosen hw cx) (fun p e s m args below meth c Q F h => sn_Mod_chosen h)
theorem q_Mod_chosen (x0 : Nat) (x1 : Int32) (g : G) : x_Mod_chosen [.ref x0, .int x1] g = zres (d_Mod_chosen ([some (.ref x0), some (.int x1), none, none, none, none, none], [], g)) := q_of [some (.ref x0), some (.int x1), none, none, none, none, none] rfl (Nat.le_of_ble_eq_true rfl) (Or.inr rfl)
theorem lc_Mod_chosen_40 : lookI (eC E_Mod_chosen) (.invokestatic 40) = some (2, x_Mod_isAt) := rfl
theorem lc_Mod_chosen_81 : lookI (eC E_Mod_chosen) (.invokestatic 81) = some (3, x_Mod_reason) := rfl
theorem lc_Mod_chosen_84 : lookI (eC E_Mod_chosen) (.invokestatic 84) = some (3, x_Mod_restOf) := rfl
theorem lc_Mod_chosen_63 : lookI (eC E_Mod_chosen) (.invokestatic 63) = some (2, x_Mod_above) := rfl
theorem lc_Mod_chosen_44 : lookI (eC E_Mod_chosen) (.invokestatic 44) = some (3, x_Mod_of) := rfl
theorem lb_Mod_chosen : eB E_Mod_chosen = true := rfl
theorem lt_Mod_chosen : eT E_Mod_chosen = zST := rfl
-- CoilSlitsModel.orderGoes
def E_Mod_orderGoes : Env := (true, [], [], [], [], zST, false)
def d_Mod_orderGoes : Dn := (sq (blk E_Mod_orderGoes [.aload_n 0, .bipush 15, .dup2, .iaload, .iconst 1, .isub, .iastore, .sipush 172, .bipush 6, .iload_n 1, .imul, .iadd, .istore_n 2])
  (sq (lop (cno (cat E_Mod_orderGoes [.iload_n 2, .sipush 172, .bipush 6, .aload_n 0, .bipush 15, .iaload, .imul, .iadd] (.if_icmp .ge 18)))
  (blk E_Mod_orderGoes [.aload_n 0, .iload_n 2, .aload_n 0, .iload_n 2, .bipush 6, .iadd, .iaload, .iastore, .iinc 2 1])
  (blk E_Mod_orderGoes []) zFU)
  (rtv E_Mod_orderGoes [])))
def x_Mod_orderGoes : Ex := exb true 3 d_Mod_orderGoes
abbrev r_Mod_orderGoes : Room := ({ frames := 0, cells := 0, slots := 0, locals := 0 } : Room)
theorem eo_Mod_orderGoes (hw : zWok w) (cx : CX w p s m args c b_Mod_orderGoes 3 "CoilSlitsModel") : EnvOk w true p l e r_Mod_orderGoes s m args below meth c Q b_Mod_orderGoes 3 "CoilSlitsModel" E_Mod_orderGoes :=
  ⟨rfl, by decide +kernel, by decide +kernel, by decide +kernel, hw, fun h => absurd h (by decide),
  fun q hq => absurd hq List.not_mem_nil⟩
theorem sn_Mod_orderGoes (h : MC w true p l e R s m args below meth c Q b_Mod_orderGoes 3 "CoilSlitsModel" E_Mod_orderGoes 0 0 F none) : Sn (zK w true p l e R s m args below meth c Q 3) F (fun _ => False) (fun _ => False) 0 0 0 d_Mod_orderGoes 0 0 0 := by
  unfold d_Mod_orderGoes
  exact (sn_sq (pm := 17) (m_blk h zz (by decide +kernel))
  (sn_sq (pm := 47) (sn_lop (pt := 32) (pu := 44) (p2 := 44) (px := 47) (kb2 := fun _ => False) (kc2 := fun _ => False) (sc_no (m_cat h zz (p1 := 29) (tgt := 47) (by decide +kernel) (by decide +kernel) (by decide)))
  (m_blk h zz (by decide +kernel))
  (m_blk h zz rfl) (m_goto h (off := (-27)) (by decide +kernel) (by decide)) zFU)
  (m_rtv h zz (p1 := 47) (by decide +kernel) (by decide +kernel) (Nat.zero_le _) (Nat.zero_le _))))
theorem ct_Mod_orderGoes (w : Wd) (l : Launch) (hw : zWok w) : CT w l y_Mod_orderGoes b_Mod_orderGoes 3 none r_Mod_orderGoes (exb true 3 d_Mod_orderGoes) :=
  ct_plain (by decide +kernel) (fun p e s m args below meth c Q cx hnm => eo_Mod_orderGoes hw cx) (fun p e s m args below meth c Q F h => sn_Mod_orderGoes h)
theorem q_Mod_orderGoes (x0 : Nat) (x1 : Int32) (g : G) : x_Mod_orderGoes [.ref x0, .int x1] g = zres (d_Mod_orderGoes ([some (.ref x0), some (.int x1), none], [], g)) := q_of [some (.ref x0), some (.int x1), none] rfl (Nat.le_of_ble_eq_true rfl) (Or.inr rfl)
theorem lb_Mod_orderGoes : eB E_Mod_orderGoes = true := rfl
theorem lt_Mod_orderGoes : eT E_Mod_orderGoes = zST := rfl
-- CoilSlitsModel.slits
def E_Mod_slits : Env := (true, [], [(.invokestatic 87, 2, x_Mod_digs), (.invokestatic 78, 3, x_Mod_cuts), (.invokestatic 84, 3, x_Mod_restOf), (.invokestatic 48, 3, x_Mod_by), (.invokestatic 44, 3, x_Mod_of), (.invokestatic 55, 7, x_Mod_lays), (.invokestatic 90, 2, x_Mod_orderGoes)], [], [], zST, false)
def d_Mod_slits : Dn := (sq (blk E_Mod_slits [.aload_n 0, .iload_n 2, .invokestatic 87, .pop, .aload_n 0, .iload_n 1, .iload_n 2, .invokestatic 78, .istore_n 3, .aload_n 0, .iload_n 1, .iload_n 2, .invokestatic 84, .istore 4, .aload_n 0, .bipush 16, .iload_n 2, .iconst 5, .idiv, .iadd, .dup2, .iaload, .iconst 1, .isub, .iastore, .aload_n 0, .bipush 8, .dup2, .iaload, .iload_n 3, .iadd, .iastore, .aload_n 0, .bipush 9, .dup2, .iaload, .iload_n 3, .aload_n 0, .iload_n 1, .iconst 3, .invokestatic 48, .imul, .iadd, .iastore, .aload_n 0, .bipush 10, .dup2, .iaload, .iload_n 3, .aload_n 0, .iconst 1, .iaload, .imul, .iadd, .iastore, .aload_n 0, .bipush 12, .dup2, .iaload, .iload_n 3, .aload_n 0, .iload_n 1, .iconst 5, .invokestatic 48, .imul, .iadd, .iastore])
  (sq (ite' (cno (cat E_Mod_slits [.iload 4, .aload_n 0, .iconst 0, .iaload] (.if_icmp .lt 55)))
  (sq (blk E_Mod_slits [.aload_n 0, .iload_n 2, .iconst 3, .invokestatic 44, .aload_n 0, .iconst 2, .iaload, .isub, .istore 5, .aload_n 0, .iload_n 2, .iconst 5, .idiv, .aload_n 0, .iconst 4, .iaload, .iload 4, .aload_n 0, .iload_n 2, .iconst 2, .invokestatic 44])
  (sq (ite' (cno (cat E_Mod_slits [.iload 5] (.ifCond .ge 7)))
  (blk E_Mod_slits [.iconst 0])
  (blk E_Mod_slits [.iload 5]))
  (blk E_Mod_slits [.iconst 1, .invokestatic 55, .aload_n 0, .iconst 4, .dup2, .iaload, .iconst 1, .iadd, .iastore])))
  (blk E_Mod_slits [.aload_n 0, .bipush 11, .dup2, .iaload, .iload 4, .iadd, .iastore]))
  (sq (blk E_Mod_slits [.aload_n 0, .sipush 172, .bipush 6, .iload_n 1, .imul, .iadd, .iconst 4, .iadd, .dup2, .iaload, .iload_n 3, .isub, .iastore])
  (sq (ite' (cno (cat E_Mod_slits [.aload_n 0, .iload_n 1, .iconst 4, .invokestatic 48] (.ifCond .ne 8)))
  (blk E_Mod_slits [.aload_n 0, .iload_n 1, .invokestatic 90])
  (blk E_Mod_slits []))
  (rti E_Mod_slits [.iload_n 3])))))
def x_Mod_slits : Ex := exb true 6 d_Mod_slits
abbrev r_Mod_slits : Room := ({ frames := 4, cells := 0, slots := 0, locals := 89 } : Room)
theorem eo_Mod_slits (hw : zWok w) (cx : CX w p s m args c b_Mod_slits 6 "CoilSlitsModel") : EnvOk w true p l e r_Mod_slits s m args below meth c Q b_Mod_slits 6 "CoilSlitsModel" E_Mod_slits :=
  ⟨rfl, by decide +kernel, by decide +kernel, by decide +kernel, hw, fun h => absurd h (by decide),
  List.forall_mem_cons.mpr ⟨call_S cx (ct_Mod_digs w l hw) tw_921 tw_919 tw_8 tw_920 (by decide +kernel) ⟨Nat.le_of_ble_eq_true rfl, Nat.le_of_ble_eq_true rfl⟩, List.forall_mem_cons.mpr ⟨call_S cx (ct_Mod_cuts w l hw) tw_961 tw_959 tw_8 tw_960 (by decide +kernel) ⟨Nat.le_of_ble_eq_true rfl, Nat.le_of_ble_eq_true rfl⟩, List.forall_mem_cons.mpr ⟨call_S cx (ct_Mod_restOf w l hw) tw_964 tw_962 tw_8 tw_963 (by decide +kernel) ⟨Nat.le_of_ble_eq_true rfl, Nat.le_of_ble_eq_true rfl⟩, List.forall_mem_cons.mpr ⟨call_S cx (ct_Mod_by w l hw) tw_942 tw_940 tw_8 tw_941 (by decide +kernel) ⟨Nat.le_of_ble_eq_true rfl, Nat.le_of_ble_eq_true rfl⟩, List.forall_mem_cons.mpr ⟨call_S cx (ct_Mod_of w l hw) tw_895 tw_893 tw_8 tw_894 (by decide +kernel) ⟨Nat.le_of_ble_eq_true rfl, Nat.le_of_ble_eq_true rfl⟩, List.forall_mem_cons.mpr ⟨call_S cx (ct_Mod_lays w l hw) tw_882 tw_880 tw_8 tw_881 (by decide +kernel) ⟨Nat.le_of_ble_eq_true rfl, Nat.le_of_ble_eq_true rfl⟩, List.forall_mem_cons.mpr ⟨call_S cx (ct_Mod_orderGoes w l hw) tw_945 tw_943 tw_8 tw_944 (by decide +kernel) ⟨Nat.le_of_ble_eq_true rfl, Nat.le_of_ble_eq_true rfl⟩, fun q hq => absurd hq List.not_mem_nil⟩⟩⟩⟩⟩⟩⟩⟩
theorem sn_Mod_slits (h : MC w true p l e R s m args below meth c Q b_Mod_slits 6 "CoilSlitsModel" E_Mod_slits 0 0 F (some .int)) : Sn (zK w true p l e R s m args below meth c Q 6) F (fun _ => False) (fun _ => False) 0 0 0 d_Mod_slits 0 0 0 := by
  unfold d_Mod_slits
  exact (sn_sq (pm := 83) (m_blk h zz (by decide +kernel))
  (sn_sq (pm := 152) (sn_ite (pt := 91) (pf := 143) (sc_no (m_cat h zz (p1 := 88) (tgt := 143) (by decide +kernel) (by decide +kernel) (by decide)))
  (sn_goto (pm := 140) (sn_sq (pm := 118) (m_blk h zz (by decide +kernel))
  (sn_sq (pm := 129) (sn_ite (pt := 123) (pf := 127) (sc_no (m_cat h zz (p1 := 120) (tgt := 127) (by decide +kernel) (by decide +kernel) (by decide)))
  (sn_goto (pm := 124) (m_blk h zz (by decide +kernel)) (m_goto h (off := 5) (by decide +kernel) (by decide)))
  (m_blk h zz (by decide +kernel)))
  (m_blk h zz (by decide +kernel)))) (m_goto h (off := 12) (by decide +kernel) (by decide)))
  (m_blk h zz (by decide +kernel)))
  (sn_sq (pm := 168) (m_blk h zz (by decide +kernel))
  (sn_sq (pm := 182) (sn_ite (pt := 177) (pf := 182) (sc_no (m_cat h zz (p1 := 174) (tgt := 182) (by decide +kernel) (by decide +kernel) (by decide)))
  (m_blk h zz (by decide +kernel))
  (m_blk h zz rfl))
  (m_rti h zz (p1 := 183) (by decide +kernel) (by decide +kernel) (Nat.zero_le _) (Nat.zero_le _))))))
theorem ct_Mod_slits (w : Wd) (l : Launch) (hw : zWok w) : CT w l y_Mod_slits b_Mod_slits 6 (some .int) r_Mod_slits (exb true 6 d_Mod_slits) :=
  ct_plain (by decide +kernel) (fun p e s m args below meth c Q cx hnm => eo_Mod_slits hw cx) (fun p e s m args below meth c Q F h => sn_Mod_slits h)
theorem q_Mod_slits (x0 : Nat) (x1 : Int32) (x2 : Int32) (g : G) : x_Mod_slits [.ref x0, .int x1, .int x2] g = zres (d_Mod_slits ([some (.ref x0), some (.int x1), some (.int x2), none, none, none], [], g)) := q_of [some (.ref x0), some (.int x1), some (.int x2), none, none, none] rfl (Nat.le_of_ble_eq_true rfl) (Or.inr rfl)
theorem lc_Mod_slits_87 : lookI (eC E_Mod_slits) (.invokestatic 87) = some (2, x_Mod_digs) := rfl
theorem lc_Mod_slits_78 : lookI (eC E_Mod_slits) (.invokestatic 78) = some (3, x_Mod_cuts) := rfl
theorem lc_Mod_slits_84 : lookI (eC E_Mod_slits) (.invokestatic 84) = some (3, x_Mod_restOf) := rfl
theorem lc_Mod_slits_48 : lookI (eC E_Mod_slits) (.invokestatic 48) = some (3, x_Mod_by) := rfl
theorem lc_Mod_slits_44 : lookI (eC E_Mod_slits) (.invokestatic 44) = some (3, x_Mod_of) := rfl
theorem lc_Mod_slits_55 : lookI (eC E_Mod_slits) (.invokestatic 55) = some (7, x_Mod_lays) := rfl
theorem lc_Mod_slits_90 : lookI (eC E_Mod_slits) (.invokestatic 90) = some (2, x_Mod_orderGoes) := rfl
theorem lb_Mod_slits : eB E_Mod_slits = true := rfl
theorem lt_Mod_slits : eT E_Mod_slits = zST := rfl
-- CoilSlitsModel.serves
def E_Mod_serves : Env := (true, [], [(.invokestatic 94, 2, x_Mod_orderAt), (.invokestatic 97, 2, x_Mod_chosen), (.invokestatic 100, 3, x_Mod_slits)], [], [], zST, false)
def d_Mod_serves : Dn := (sq (blk E_Mod_serves [.iconst 0, .istore_n 2, .aload_n 0, .iload_n 1, .invokestatic 94, .istore_n 3])
  (sq (ite' (cno (cat E_Mod_serves [.iload_n 3, .iconst (-1)] (.if_icmp .ne 7)))
  (blk E_Mod_serves [.iconst (-1)])
  (blk E_Mod_serves [.aload_n 0, .iload_n 3, .invokestatic 97]))
  (sq (blk E_Mod_serves [.istore 4])
  (sq (lop (cno (cat E_Mod_serves [.iload 4, .iconst (-1)] (.if_icmp .eq 38)))
  (sq (blk E_Mod_serves [.iload_n 2, .aload_n 0, .iload_n 3, .iload 4, .invokestatic 100, .iadd, .istore_n 2, .aload_n 0, .iload_n 1, .invokestatic 94, .istore_n 3])
  (sq (ite' (cno (cat E_Mod_serves [.iload_n 3, .iconst (-1)] (.if_icmp .ne 7)))
  (blk E_Mod_serves [.iconst (-1)])
  (blk E_Mod_serves [.aload_n 0, .iload_n 3, .invokestatic 97]))
  (blk E_Mod_serves [.istore 4])))
  (blk E_Mod_serves []) zFU)
  (rti E_Mod_serves [.iload_n 2])))))
def x_Mod_serves : Ex := exb true 5 d_Mod_serves
abbrev r_Mod_serves : Room := ({ frames := 5, cells := 0, slots := 0, locals := 115 } : Room)
theorem eo_Mod_serves (hw : zWok w) (cx : CX w p s m args c b_Mod_serves 5 "CoilSlitsModel") : EnvOk w true p l e r_Mod_serves s m args below meth c Q b_Mod_serves 5 "CoilSlitsModel" E_Mod_serves :=
  ⟨rfl, by decide +kernel, by decide +kernel, by decide +kernel, hw, fun h => absurd h (by decide),
  List.forall_mem_cons.mpr ⟨call_S cx (ct_Mod_orderAt w l hw) tw_939 tw_937 tw_8 tw_938 (by decide +kernel) ⟨Nat.le_of_ble_eq_true rfl, Nat.le_of_ble_eq_true rfl⟩, List.forall_mem_cons.mpr ⟨call_S cx (ct_Mod_chosen w l hw) tw_974 tw_972 tw_8 tw_973 (by decide +kernel) ⟨Nat.le_of_ble_eq_true rfl, Nat.le_of_ble_eq_true rfl⟩, List.forall_mem_cons.mpr ⟨call_S cx (ct_Mod_slits w l hw) tw_958 tw_956 tw_8 tw_957 (by decide +kernel) ⟨Nat.le_of_ble_eq_true rfl, Nat.le_of_ble_eq_true rfl⟩, fun q hq => absurd hq List.not_mem_nil⟩⟩⟩⟩
theorem sn_Mod_serves (h : MC w true p l e R s m args below meth c Q b_Mod_serves 5 "CoilSlitsModel" E_Mod_serves 0 0 F (some .int)) : Sn (zK w true p l e R s m args below meth c Q 5) F (fun _ => False) (fun _ => False) 0 0 0 d_Mod_serves 0 0 0 := by
  unfold d_Mod_serves
  exact (sn_sq (pm := 8) (m_blk h zz (by decide +kernel))
  (sn_sq (pm := 22) (sn_ite (pt := 13) (pf := 17) (sc_no (m_cat h zz (p1 := 10) (tgt := 17) (by decide +kernel) (by decide +kernel) (by decide)))
  (sn_goto (pm := 14) (m_blk h zz (by decide +kernel)) (m_goto h (off := 8) (by decide +kernel) (by decide)))
  (m_blk h zz (by decide +kernel)))
  (sn_sq (pm := 24) (m_blk h zz (by decide +kernel))
  (sn_sq (pm := 65) (sn_lop (pt := 30) (pu := 62) (p2 := 62) (px := 65) (kb2 := fun _ => False) (kc2 := fun _ => False) (sc_no (m_cat h zz (p1 := 27) (tgt := 65) (by decide +kernel) (by decide +kernel) (by decide)))
  (sn_sq (pm := 46) (m_blk h zz (by decide +kernel))
  (sn_sq (pm := 60) (sn_ite (pt := 51) (pf := 55) (sc_no (m_cat h zz (p1 := 48) (tgt := 55) (by decide +kernel) (by decide +kernel) (by decide)))
  (sn_goto (pm := 52) (m_blk h zz (by decide +kernel)) (m_goto h (off := 8) (by decide +kernel) (by decide)))
  (m_blk h zz (by decide +kernel)))
  (m_blk h zz (by decide +kernel))))
  (m_blk h zz rfl) (m_goto h (off := (-38)) (by decide +kernel) (by decide)) zFU)
  (m_rti h zz (p1 := 66) (by decide +kernel) (by decide +kernel) (Nat.zero_le _) (Nat.zero_le _))))))
theorem ct_Mod_serves (w : Wd) (l : Launch) (hw : zWok w) : CT w l y_Mod_serves b_Mod_serves 5 (some .int) r_Mod_serves (exb true 5 d_Mod_serves) :=
  ct_plain (by decide +kernel) (fun p e s m args below meth c Q cx hnm => eo_Mod_serves hw cx) (fun p e s m args below meth c Q F h => sn_Mod_serves h)
theorem q_Mod_serves (x0 : Nat) (x1 : Int32) (g : G) : x_Mod_serves [.ref x0, .int x1] g = zres (d_Mod_serves ([some (.ref x0), some (.int x1), none, none, none], [], g)) := q_of [some (.ref x0), some (.int x1), none, none, none] rfl (Nat.le_of_ble_eq_true rfl) (Or.inr rfl)
theorem lc_Mod_serves_94 : lookI (eC E_Mod_serves) (.invokestatic 94) = some (2, x_Mod_orderAt) := rfl
theorem lc_Mod_serves_97 : lookI (eC E_Mod_serves) (.invokestatic 97) = some (2, x_Mod_chosen) := rfl
theorem lc_Mod_serves_100 : lookI (eC E_Mod_serves) (.invokestatic 100) = some (3, x_Mod_slits) := rfl
theorem lb_Mod_serves : eB E_Mod_serves = true := rfl
-- CoilSlitsModel.nextOrder
def E_Mod_nextOrder : Env := (true, [], [(.invokestatic 48, 3, x_Mod_by)], [], [], zST, false)
def d_Mod_nextOrder : Dn := (sq (blk E_Mod_nextOrder [.iconst (-1), .istore_n 3, .iconst 0, .istore 4])
  (sq (lop (cfo [5] (cno (cat E_Mod_nextOrder [.iload 4, .aload_n 0, .bipush 15, .iaload] (.if_icmp .ge 82))))
  (sq (ite' (cor (cat E_Mod_nextOrder [.aload_n 0, .iload 4, .iconst 5, .invokestatic 48, .iload_n 1] (.if_icmp .lt 25)) (can (cno (cat E_Mod_nextOrder [.aload_n 0, .iload 4, .iconst 5, .invokestatic 48, .iload_n 1] (.if_icmp .ne 18))) (cno (cat E_Mod_nextOrder [.aload_n 0, .iload 4, .iconst 0, .invokestatic 48, .iload_n 2] (.if_icmp .le 7)))))
  (blk E_Mod_nextOrder [.iconst 1])
  (blk E_Mod_nextOrder [.iconst 0]))
  (sq (blk E_Mod_nextOrder [.istore 5])
  (sq (ite' (can (cno (cat E_Mod_nextOrder [.iload 5] (.ifCond .eq 29))) (cor (cat E_Mod_nextOrder [.iload_n 3, .iconst (-1)] (.if_icmp .eq 19)) (cno (cat E_Mod_nextOrder [.aload_n 0, .iload 4, .iconst 5, .invokestatic 48, .aload_n 0, .iload_n 3, .iconst 5, .invokestatic 48] (.if_icmp .le 8)))))
  (blk E_Mod_nextOrder [.iload 4])
  (blk E_Mod_nextOrder [.iload_n 3]))
  (blk E_Mod_nextOrder [.istore_n 3, .iinc 4 1]))))
  (blk E_Mod_nextOrder []) zFU)
  (rti E_Mod_nextOrder [.iload_n 3])))
def x_Mod_nextOrder : Ex := exb true 6 d_Mod_nextOrder
abbrev r_Mod_nextOrder : Room := ({ frames := 1, cells := 0, slots := 0, locals := 22 } : Room)
theorem eo_Mod_nextOrder (hw : zWok w) (cx : CX w p s m args c b_Mod_nextOrder 6 "CoilSlitsModel") : EnvOk w true p l e r_Mod_nextOrder s m args below meth c Q b_Mod_nextOrder 6 "CoilSlitsModel" E_Mod_nextOrder :=
  ⟨rfl, by decide +kernel, by decide +kernel, by decide +kernel, hw, fun h => absurd h (by decide),
  List.forall_mem_cons.mpr ⟨call_S cx (ct_Mod_by w l hw) tw_942 tw_940 tw_8 tw_941 (by decide +kernel) ⟨Nat.le_of_ble_eq_true rfl, Nat.le_of_ble_eq_true rfl⟩, fun q hq => absurd hq List.not_mem_nil⟩⟩
theorem sn_Mod_nextOrder (h : MC w true p l e R s m args below meth c Q b_Mod_nextOrder 6 "CoilSlitsModel" E_Mod_nextOrder 0 0 F (some .int)) : Sn (zK w true p l e R s m args below meth c Q 6) F (fun _ => False) (fun _ => False) 0 0 0 d_Mod_nextOrder 0 0 0 := by
  unfold d_Mod_nextOrder
  exact (sn_sq (pm := 5) (m_blk h zz (by decide +kernel))
  (sn_sq (pm := 93) (sn_lop (pt := 14) (pu := 90) (p2 := 90) (px := 93) (kb2 := fun _ => False) (kc2 := fun _ => False) (sc_fo m_fo (sc_no (m_cat h zz (p1 := 11) (tgt := 93) (by decide +kernel) (by decide +kernel) (by decide))))
  (sn_sq (pm := 52) (sn_ite (pt := 47) (pf := 51) (sc_or (pm := 25) (m_cat h zz (p1 := 22) (tgt := 47) (by decide +kernel) (by decide +kernel) (by decide)) (sc_an (pm := 36) (sc_no (m_cat h zz (p1 := 33) (tgt := 51) (by decide +kernel) (by decide +kernel) (by decide))) (sc_no (m_cat h zz (p1 := 44) (tgt := 51) (by decide +kernel) (by decide +kernel) (by decide)))))
  (sn_goto (pm := 48) (m_blk h zz (by decide +kernel)) (m_goto h (off := 4) (by decide +kernel) (by decide)))
  (m_blk h zz (by decide +kernel)))
  (sn_sq (pm := 54) (m_blk h zz (by decide +kernel))
  (sn_sq (pm := 86) (sn_ite (pt := 80) (pf := 85) (sc_an (pm := 59) (sc_no (m_cat h zz (p1 := 56) (tgt := 85) (by decide +kernel) (by decide +kernel) (by decide))) (sc_or (pm := 64) (m_cat h zz (p1 := 61) (tgt := 80) (by decide +kernel) (by decide +kernel) (by decide)) (sc_no (m_cat h zz (p1 := 77) (tgt := 85) (by decide +kernel) (by decide +kernel) (by decide)))))
  (sn_goto (pm := 82) (m_blk h zz (by decide +kernel)) (m_goto h (off := 4) (by decide +kernel) (by decide)))
  (m_blk h zz (by decide +kernel)))
  (m_blk h zz (by decide +kernel)))))
  (m_blk h zz rfl) (m_goto h (off := (-85)) (by decide +kernel) (by decide)) zFU)
  (m_rti h zz (p1 := 94) (by decide +kernel) (by decide +kernel) (Nat.zero_le _) (Nat.zero_le _))))
theorem ct_Mod_nextOrder (w : Wd) (l : Launch) (hw : zWok w) : CT w l y_Mod_nextOrder b_Mod_nextOrder 6 (some .int) r_Mod_nextOrder (exb true 6 d_Mod_nextOrder) :=
  ct_plain (by decide +kernel) (fun p e s m args below meth c Q cx hnm => eo_Mod_nextOrder hw cx) (fun p e s m args below meth c Q F h => sn_Mod_nextOrder h)
theorem q_Mod_nextOrder (x0 : Nat) (x1 : Int32) (x2 : Int32) (g : G) : x_Mod_nextOrder [.ref x0, .int x1, .int x2] g = zres (d_Mod_nextOrder ([some (.ref x0), some (.int x1), some (.int x2), none, none, none], [], g)) := q_of [some (.ref x0), some (.int x1), some (.int x2), none, none, none] rfl (Nat.le_of_ble_eq_true rfl) (Or.inr rfl)
theorem lc_Mod_nextOrder_48 : lookI (eC E_Mod_nextOrder) (.invokestatic 48) = some (3, x_Mod_by) := rfl
theorem lb_Mod_nextOrder : eB E_Mod_nextOrder = true := rfl
theorem lt_Mod_nextOrder : eT E_Mod_nextOrder = zST := rfl
-- CoilSlitsModel.servesAll
def E_Mod_servesAll : Env := (true, [], [(.invokestatic 103, 3, x_Mod_nextOrder), (.invokestatic 48, 3, x_Mod_by), (.invokestatic 106, 2, x_Mod_serves)], [], [], zST, false)
def d_Mod_servesAll : Dn := (sq (blk E_Mod_servesAll [.aload_n 0, .bipush 15, .iaload, .istore_n 1, .aload_n 0, .bipush 100, .iconst (-1), .invokestatic 103, .istore_n 2])
  (sq (lop (cfo [3, 4] (cno (cat E_Mod_servesAll [.iload_n 2, .iconst (-1)] (.if_icmp .eq 36))))
  (blk E_Mod_servesAll [.aload_n 0, .iload_n 2, .iconst 5, .invokestatic 48, .istore_n 3, .aload_n 0, .iload_n 2, .iconst 0, .invokestatic 48, .istore 4, .aload_n 0, .iload 4, .invokestatic 106, .pop, .aload_n 0, .iload_n 3, .iload 4, .invokestatic 103, .istore_n 2])
  (blk E_Mod_servesAll []) zFU)
  (rti E_Mod_servesAll [.iload_n 1, .aload_n 0, .bipush 15, .iaload, .isub])))
def x_Mod_servesAll : Ex := exb true 5 d_Mod_servesAll
abbrev r_Mod_servesAll : Room := ({ frames := 6, cells := 0, slots := 0, locals := 139 } : Room)
theorem eo_Mod_servesAll (hw : zWok w) (cx : CX w p s m args c b_Mod_servesAll 5 "CoilSlitsModel") : EnvOk w true p l e r_Mod_servesAll s m args below meth c Q b_Mod_servesAll 5 "CoilSlitsModel" E_Mod_servesAll :=
  ⟨rfl, by decide +kernel, by decide +kernel, by decide +kernel, hw, fun h => absurd h (by decide),
  List.forall_mem_cons.mpr ⟨call_S cx (ct_Mod_nextOrder w l hw) tw_984 tw_982 tw_8 tw_983 (by decide +kernel) ⟨Nat.le_of_ble_eq_true rfl, Nat.le_of_ble_eq_true rfl⟩, List.forall_mem_cons.mpr ⟨call_S cx (ct_Mod_by w l hw) tw_942 tw_940 tw_8 tw_941 (by decide +kernel) ⟨Nat.le_of_ble_eq_true rfl, Nat.le_of_ble_eq_true rfl⟩, List.forall_mem_cons.mpr ⟨call_S cx (ct_Mod_serves w l hw) tw_971 tw_969 tw_8 tw_970 (by decide +kernel) ⟨Nat.le_of_ble_eq_true rfl, Nat.le_of_ble_eq_true rfl⟩, fun q hq => absurd hq List.not_mem_nil⟩⟩⟩⟩
theorem sn_Mod_servesAll (h : MC w true p l e R s m args below meth c Q b_Mod_servesAll 5 "CoilSlitsModel" E_Mod_servesAll 0 0 F (some .int)) : Sn (zK w true p l e R s m args below meth c Q 5) F (fun _ => False) (fun _ => False) 0 0 0 d_Mod_servesAll 0 0 0 := by
  unfold d_Mod_servesAll
  exact (sn_sq (pm := 13) (m_blk h zz (by decide +kernel))
  (sn_sq (pm := 51) (sn_lop (pt := 18) (pu := 48) (p2 := 48) (px := 51) (kb2 := fun _ => False) (kc2 := fun _ => False) (sc_fo m_fo (sc_no (m_cat h zz (p1 := 15) (tgt := 51) (by decide +kernel) (by decide +kernel) (by decide))))
  (m_blk h zz (by decide +kernel))
  (m_blk h zz rfl) (m_goto h (off := (-35)) (by decide +kernel) (by decide)) zFU)
  (m_rti h zz (p1 := 57) (by decide +kernel) (by decide +kernel) (Nat.zero_le _) (Nat.zero_le _))))
theorem ct_Mod_servesAll (w : Wd) (l : Launch) (hw : zWok w) : CT w l y_Mod_servesAll b_Mod_servesAll 5 (some .int) r_Mod_servesAll (exb true 5 d_Mod_servesAll) :=
  ct_plain (by decide +kernel) (fun p e s m args below meth c Q cx hnm => eo_Mod_servesAll hw cx) (fun p e s m args below meth c Q F h => sn_Mod_servesAll h)
theorem q_Mod_servesAll (x0 : Nat) (g : G) : x_Mod_servesAll [.ref x0] g = zres (d_Mod_servesAll ([some (.ref x0), none, none, none, none], [], g)) := q_of [some (.ref x0), none, none, none, none] rfl (Nat.le_of_ble_eq_true rfl) (Or.inr rfl)
theorem lc_Mod_servesAll_103 : lookI (eC E_Mod_servesAll) (.invokestatic 103) = some (3, x_Mod_nextOrder) := rfl
theorem lc_Mod_servesAll_48 : lookI (eC E_Mod_servesAll) (.invokestatic 48) = some (3, x_Mod_by) := rfl
theorem lc_Mod_servesAll_106 : lookI (eC E_Mod_servesAll) (.invokestatic 106) = some (2, x_Mod_serves) := rfl
theorem lb_Mod_servesAll : eB E_Mod_servesAll = true := rfl
theorem lt_Mod_servesAll : eT E_Mod_servesAll = zST := rfl
-- CoilSlitsModel.comes
def E_Mod_comes : Env := (true, [(7, 6, 0)], [(.invokestatic 55, 7, x_Mod_lays)], [], [], zST, false)
def d_Mod_comes : Dn := (rti E_Mod_comes [.aload_n 0, .getfield 7, .iload 4, .aload_n 0, .getfield 7, .iconst 4, .iaload, .iload_n 1, .iload_n 2, .iload_n 3, .iconst 0, .invokestatic 55, .aload_n 0, .getfield 7, .bipush 13, .dup2, .iaload, .iload_n 1, .iadd, .iastore, .aload_n 0, .getfield 7, .iconst 4, .dup2, .iaload, .iconst 1, .iadd, .iastore, .aload_n 0, .getfield 7, .iconst 4, .iaload, .iconst 1, .isub])
def x_Mod_comes : Ex := zrv 6 (exb true 5 d_Mod_comes)
abbrev r_Mod_comes : Room := ({ frames := 1, cells := 0, slots := 0, locals := 27 } : Room)
theorem eo_Mod_comes (hw : zWok w) (cx : CX w p s m args c b_Mod_comes 5 "CoilSlitsModel") : EnvOk w true p l e r_Mod_comes s m args below meth c Q b_Mod_comes 5 "CoilSlitsModel" E_Mod_comes :=
  ⟨rfl, by decide +kernel, by decide +kernel, by decide +kernel, hw, fun h => absurd h (by decide),
  List.forall_mem_cons.mpr ⟨call_S cx (ct_Mod_lays w l hw) tw_882 tw_880 tw_8 tw_881 (by decide +kernel) ⟨Nat.le_of_ble_eq_true rfl, Nat.le_of_ble_eq_true rfl⟩, fun q hq => absurd hq List.not_mem_nil⟩⟩
theorem sn_Mod_comes (h : MC w true p l e R s m args below meth c Q b_Mod_comes 5 "CoilSlitsModel" E_Mod_comes 0 0 F (some .int)) : Sn (zK w true p l e R s m args below meth c Q 5) F (fun _ => False) (fun _ => False) 0 0 0 d_Mod_comes 0 0 0 := by
  unfold d_Mod_comes
  exact (m_rti h zz (p1 := 48) (by decide +kernel) (by decide +kernel) (Nat.zero_le _) (Nat.zero_le _))
theorem ct_Mod_comes (w : Wd) (l : Launch) (hw : zWok w) : CT w l y_Mod_comes b_Mod_comes 5 (some .int) r_Mod_comes (exb true 5 d_Mod_comes) :=
  ct_plain (by decide +kernel) (fun p e s m args below meth c Q cx hnm => eo_Mod_comes hw cx) (fun p e s m args below meth c Q F h => sn_Mod_comes h)
theorem q_Mod_comes {a : Nat} {fs : List Value} {M : Hp} {nx : Nat} (x0 : Int32) (x1 : Int32) (x2 : Int32) (x3 : Int32) (h : M a = some (cO 6 fs)) : x_Mod_comes [.ref a, .int x0, .int x1, .int x2, .int x3] (M, nx) = zres (d_Mod_comes ([some (.ref a), some (.int x0), some (.int x1), some (.int x2), some (.int x3)], [], (M, nx))) := q_ofV [some (.ref a), some (.int x0), some (.int x1), some (.int x2), some (.int x3)] h rfl (Nat.le_of_ble_eq_true rfl) (Or.inr rfl)
theorem lc_Mod_comes_55 : lookI (eC E_Mod_comes) (.invokestatic 55) = some (7, x_Mod_lays) := rfl
theorem lf_Mod_comes_7 : lookN (eF E_Mod_comes) 7 = some (6, 0) := rfl
theorem lb_Mod_comes : eB E_Mod_comes = true := rfl
theorem lt_Mod_comes : eT E_Mod_comes = zST := rfl
-- CoilSlitsModel.receive
def E_Mod_receive : Env := (true, [(25, 6, 6), (7, 6, 0)], [(.invokestatic 109, 1, x_Mod_isStack), (.invokevirtual 36, 2, x_Mod_fails), (.invokestatic 29, 3, x_Mod_in), (.invokevirtual 113, 1, x_Mod_saves), (.invokevirtual 116, 5, x_Mod_comes)], [], [], zST, false)
def d_Mod_receive : Dn := (sq (blk E_Mod_receive [.aload_n 0, .iconst 0, .putfield 25])
  (sq (ite' (cno (cat E_Mod_receive [.iload 4, .invokestatic 109] (.ifCond .ne 9)))
  (rti E_Mod_receive [.aload_n 0, .iconst 1, .invokevirtual 36])
  (blk E_Mod_receive []))
  (sq (ite' (cor (cat E_Mod_receive [.iload_n 1, .iconst 1, .sipush 200, .invokestatic 29] (.ifCond .eq 22)) (cor (cat E_Mod_receive [.iload_n 2, .iconst 0, .iconst 3, .invokestatic 29] (.ifCond .eq 13)) (cno (cat E_Mod_receive [.iload_n 3, .iconst 0, .bipush 9, .invokestatic 29] (.ifCond .ne 9)))))
  (rti E_Mod_receive [.aload_n 0, .iconst 2, .invokevirtual 36])
  (blk E_Mod_receive []))
  (sq (ite' (cno (cat E_Mod_receive [.aload_n 0, .getfield 7, .bipush 16, .iload 4, .iadd, .iaload, .iconst 5] (.if_icmp .ne 9)))
  (rti E_Mod_receive [.aload_n 0, .iconst 3, .invokevirtual 36])
  (blk E_Mod_receive []))
  (rti E_Mod_receive [.aload_n 0, .invokevirtual 113, .aload_n 0, .iload_n 1, .iload_n 2, .iload_n 3, .iload 4, .invokevirtual 116])))))
def x_Mod_receive : Ex := zrv 6 (exb true 5 d_Mod_receive)
abbrev r_Mod_receive : Room := ({ frames := 2, cells := 0, slots := 0, locals := 51 } : Room)
theorem eo_Mod_receive (hw : zWok w) (cx : CX w p s m args c b_Mod_receive 5 "CoilSlitsModel") : EnvOk w true p l e r_Mod_receive s m args below meth c Q b_Mod_receive 5 "CoilSlitsModel" E_Mod_receive :=
  ⟨rfl, by decide +kernel, by decide +kernel, by decide +kernel, hw, fun h => absurd h (by decide),
  List.forall_mem_cons.mpr ⟨call_S cx (ct_Mod_isStack w l hw) tw_868 tw_866 tw_8 tw_867 (by decide +kernel) ⟨Nat.le_of_ble_eq_true rfl, Nat.le_of_ble_eq_true rfl⟩, List.forall_mem_cons.mpr ⟨call_V cx (ct_Mod_fails w l hw) tw_861 tw_858 tw_8 tw_860 tp_28 (ci := 6) (Nat.le_of_ble_eq_true rfl) rfl (by decide +kernel) ⟨Nat.le_of_ble_eq_true rfl, Nat.le_of_ble_eq_true rfl⟩, List.forall_mem_cons.mpr ⟨call_S cx (ct_Mod_in w l hw) tw_871 tw_869 tw_8 tw_870 (by decide +kernel) ⟨Nat.le_of_ble_eq_true rfl, Nat.le_of_ble_eq_true rfl⟩, List.forall_mem_cons.mpr ⟨call_V cx (ct_Mod_saves w l hw) tw_875 tw_872 tw_8 tw_874 tp_29 (ci := 6) (Nat.le_of_ble_eq_true rfl) rfl (by decide +kernel) ⟨Nat.le_of_ble_eq_true rfl, Nat.le_of_ble_eq_true rfl⟩, List.forall_mem_cons.mpr ⟨call_V cx (ct_Mod_comes w l hw) tw_879 tw_876 tw_8 tw_878 tp_30 (ci := 6) (Nat.le_of_ble_eq_true rfl) rfl (by decide +kernel) ⟨Nat.le_of_ble_eq_true rfl, Nat.le_of_ble_eq_true rfl⟩, fun q hq => absurd hq List.not_mem_nil⟩⟩⟩⟩⟩⟩
theorem sn_Mod_receive (h : MC w true p l e R s m args below meth c Q b_Mod_receive 5 "CoilSlitsModel" E_Mod_receive 0 0 F (some .int)) : Sn (zK w true p l e R s m args below meth c Q 5) F (fun _ => False) (fun _ => False) 0 0 0 d_Mod_receive 0 0 0 := by
  unfold d_Mod_receive
  exact (sn_sq (pm := 5) (m_blk h zz (by decide +kernel))
  (sn_sq (pm := 19) (sn_ite (pt := 13) (pf := 19) (sc_no (m_cat h zz (p1 := 10) (tgt := 19) (by decide +kernel) (by decide +kernel) (by decide)))
  (m_rti h zz (p1 := 18) (by decide +kernel) (by decide +kernel) (Nat.zero_le _) (Nat.zero_le _))
  (m_blk h zz rfl))
  (sn_sq (pm := 55) (sn_ite (pt := 49) (pf := 55) (sc_or (pm := 30) (m_cat h zz (p1 := 27) (tgt := 49) (by decide +kernel) (by decide +kernel) (by decide)) (sc_or (pm := 39) (m_cat h zz (p1 := 36) (tgt := 49) (by decide +kernel) (by decide +kernel) (by decide)) (sc_no (m_cat h zz (p1 := 46) (tgt := 55) (by decide +kernel) (by decide +kernel) (by decide)))))
  (m_rti h zz (p1 := 54) (by decide +kernel) (by decide +kernel) (Nat.zero_le _) (Nat.zero_le _))
  (m_blk h zz rfl))
  (sn_sq (pm := 75) (sn_ite (pt := 69) (pf := 75) (sc_no (m_cat h zz (p1 := 66) (tgt := 75) (by decide +kernel) (by decide +kernel) (by decide)))
  (m_rti h zz (p1 := 74) (by decide +kernel) (by decide +kernel) (Nat.zero_le _) (Nat.zero_le _))
  (m_blk h zz rfl))
  (m_rti h zz (p1 := 88) (by decide +kernel) (by decide +kernel) (Nat.zero_le _) (Nat.zero_le _))))))
theorem ct_Mod_receive (w : Wd) (l : Launch) (hw : zWok w) : CT w l y_Mod_receive b_Mod_receive 5 (some .int) r_Mod_receive (exb true 5 d_Mod_receive) :=
  ct_plain (by decide +kernel) (fun p e s m args below meth c Q cx hnm => eo_Mod_receive hw cx) (fun p e s m args below meth c Q F h => sn_Mod_receive h)
theorem q_Mod_receive {a : Nat} {fs : List Value} {M : Hp} {nx : Nat} (x0 : Int32) (x1 : Int32) (x2 : Int32) (x3 : Int32) (h : M a = some (cO 6 fs)) : x_Mod_receive [.ref a, .int x0, .int x1, .int x2, .int x3] (M, nx) = zres (d_Mod_receive ([some (.ref a), some (.int x0), some (.int x1), some (.int x2), some (.int x3)], [], (M, nx))) := q_ofV [some (.ref a), some (.int x0), some (.int x1), some (.int x2), some (.int x3)] h rfl (Nat.le_of_ble_eq_true rfl) (Or.inr rfl)
theorem lc_Mod_receive_109 : lookI (eC E_Mod_receive) (.invokestatic 109) = some (1, x_Mod_isStack) := rfl
theorem lc_Mod_receive_36 : lookI (eC E_Mod_receive) (.invokevirtual 36) = some (2, x_Mod_fails) := rfl
theorem lc_Mod_receive_29 : lookI (eC E_Mod_receive) (.invokestatic 29) = some (3, x_Mod_in) := rfl
theorem lc_Mod_receive_113 : lookI (eC E_Mod_receive) (.invokevirtual 113) = some (1, x_Mod_saves) := rfl
theorem lc_Mod_receive_116 : lookI (eC E_Mod_receive) (.invokevirtual 116) = some (5, x_Mod_comes) := rfl
theorem lf_Mod_receive_25 : lookN (eF E_Mod_receive) 25 = some (6, 6) := rfl
theorem lf_Mod_receive_7 : lookN (eF E_Mod_receive) 7 = some (6, 0) := rfl
theorem lb_Mod_receive : eB E_Mod_receive = true := rfl
theorem lt_Mod_receive : eT E_Mod_receive = zST := rfl
-- CoilSlitsModel.move
def E_Mod_move : Env := (true, [(25, 6, 6), (7, 6, 0)], [(.invokestatic 109, 1, x_Mod_isStack), (.invokevirtual 36, 2, x_Mod_fails), (.invokevirtual 113, 1, x_Mod_saves), (.invokestatic 69, 3, x_Mod_moves)], [], [], zST, false)
def d_Mod_move : Dn := (sq (blk E_Mod_move [.aload_n 0, .iconst 0, .putfield 25])
  (sq (ite' (cor (cat E_Mod_move [.iload_n 1, .invokestatic 109] (.ifCond .eq 10)) (cno (cat E_Mod_move [.iload_n 2, .invokestatic 109] (.ifCond .ne 9))))
  (rti E_Mod_move [.aload_n 0, .iconst 1, .invokevirtual 36])
  (blk E_Mod_move []))
  (sq (ite' (cno (cat E_Mod_move [.iload_n 1, .iload_n 2] (.if_icmp .ne 9)))
  (rti E_Mod_move [.aload_n 0, .iconst 2, .invokevirtual 36])
  (blk E_Mod_move []))
  (sq (ite' (cor (cat E_Mod_move [.aload_n 0, .getfield 7, .bipush 16, .iload_n 1, .iadd, .iaload] (.ifCond .eq 16)) (cno (cat E_Mod_move [.aload_n 0, .getfield 7, .bipush 16, .iload_n 2, .iadd, .iaload, .iconst 5] (.if_icmp .ne 9))))
  (rti E_Mod_move [.aload_n 0, .iconst 3, .invokevirtual 36])
  (blk E_Mod_move []))
  (rti E_Mod_move [.aload_n 0, .invokevirtual 113, .aload_n 0, .getfield 7, .iload_n 1, .iload_n 2, .invokestatic 69])))))
def x_Mod_move : Ex := zrv 6 (exb true 3 d_Mod_move)
abbrev r_Mod_move : Room := ({ frames := 2, cells := 0, slots := 0, locals := 51 } : Room)
theorem eo_Mod_move (hw : zWok w) (cx : CX w p s m args c b_Mod_move 3 "CoilSlitsModel") : EnvOk w true p l e r_Mod_move s m args below meth c Q b_Mod_move 3 "CoilSlitsModel" E_Mod_move :=
  ⟨rfl, by decide +kernel, by decide +kernel, by decide +kernel, hw, fun h => absurd h (by decide),
  List.forall_mem_cons.mpr ⟨call_S cx (ct_Mod_isStack w l hw) tw_868 tw_866 tw_8 tw_867 (by decide +kernel) ⟨Nat.le_of_ble_eq_true rfl, Nat.le_of_ble_eq_true rfl⟩, List.forall_mem_cons.mpr ⟨call_V cx (ct_Mod_fails w l hw) tw_861 tw_858 tw_8 tw_860 tp_28 (ci := 6) (Nat.le_of_ble_eq_true rfl) rfl (by decide +kernel) ⟨Nat.le_of_ble_eq_true rfl, Nat.le_of_ble_eq_true rfl⟩, List.forall_mem_cons.mpr ⟨call_V cx (ct_Mod_saves w l hw) tw_875 tw_872 tw_8 tw_874 tp_29 (ci := 6) (Nat.le_of_ble_eq_true rfl) rfl (by decide +kernel) ⟨Nat.le_of_ble_eq_true rfl, Nat.le_of_ble_eq_true rfl⟩, List.forall_mem_cons.mpr ⟨call_S cx (ct_Mod_moves w l hw) tw_889 tw_887 tw_8 tw_888 (by decide +kernel) ⟨Nat.le_of_ble_eq_true rfl, Nat.le_of_ble_eq_true rfl⟩, fun q hq => absurd hq List.not_mem_nil⟩⟩⟩⟩⟩
theorem sn_Mod_move (h : MC w true p l e R s m args below meth c Q b_Mod_move 3 "CoilSlitsModel" E_Mod_move 0 0 F (some .int)) : Sn (zK w true p l e R s m args below meth c Q 3) F (fun _ => False) (fun _ => False) 0 0 0 d_Mod_move 0 0 0 := by
  unfold d_Mod_move
  exact (sn_sq (pm := 5) (m_blk h zz (by decide +kernel))
  (sn_sq (pm := 25) (sn_ite (pt := 19) (pf := 25) (sc_or (pm := 12) (m_cat h zz (p1 := 9) (tgt := 19) (by decide +kernel) (by decide +kernel) (by decide)) (sc_no (m_cat h zz (p1 := 16) (tgt := 25) (by decide +kernel) (by decide +kernel) (by decide))))
  (m_rti h zz (p1 := 24) (by decide +kernel) (by decide +kernel) (Nat.zero_le _) (Nat.zero_le _))
  (m_blk h zz rfl))
  (sn_sq (pm := 36) (sn_ite (pt := 30) (pf := 36) (sc_no (m_cat h zz (p1 := 27) (tgt := 36) (by decide +kernel) (by decide +kernel) (by decide)))
  (m_rti h zz (p1 := 35) (by decide +kernel) (by decide +kernel) (Nat.zero_le _) (Nat.zero_le _))
  (m_blk h zz rfl))
  (sn_sq (pm := 67) (sn_ite (pt := 61) (pf := 67) (sc_or (pm := 48) (m_cat h zz (p1 := 45) (tgt := 61) (by decide +kernel) (by decide +kernel) (by decide)) (sc_no (m_cat h zz (p1 := 58) (tgt := 67) (by decide +kernel) (by decide +kernel) (by decide))))
  (m_rti h zz (p1 := 66) (by decide +kernel) (by decide +kernel) (Nat.zero_le _) (Nat.zero_le _))
  (m_blk h zz rfl))
  (m_rti h zz (p1 := 80) (by decide +kernel) (by decide +kernel) (Nat.zero_le _) (Nat.zero_le _))))))
theorem ct_Mod_move (w : Wd) (l : Launch) (hw : zWok w) : CT w l y_Mod_move b_Mod_move 3 (some .int) r_Mod_move (exb true 3 d_Mod_move) :=
  ct_plain (by decide +kernel) (fun p e s m args below meth c Q cx hnm => eo_Mod_move hw cx) (fun p e s m args below meth c Q F h => sn_Mod_move h)
theorem q_Mod_move {a : Nat} {fs : List Value} {M : Hp} {nx : Nat} (x0 : Int32) (x1 : Int32) (h : M a = some (cO 6 fs)) : x_Mod_move [.ref a, .int x0, .int x1] (M, nx) = zres (d_Mod_move ([some (.ref a), some (.int x0), some (.int x1)], [], (M, nx))) := q_ofV [some (.ref a), some (.int x0), some (.int x1)] h rfl (Nat.le_of_ble_eq_true rfl) (Or.inr rfl)
theorem lc_Mod_move_109 : lookI (eC E_Mod_move) (.invokestatic 109) = some (1, x_Mod_isStack) := rfl
theorem lc_Mod_move_36 : lookI (eC E_Mod_move) (.invokevirtual 36) = some (2, x_Mod_fails) := rfl
theorem lc_Mod_move_113 : lookI (eC E_Mod_move) (.invokevirtual 113) = some (1, x_Mod_saves) := rfl
theorem lc_Mod_move_69 : lookI (eC E_Mod_move) (.invokestatic 69) = some (3, x_Mod_moves) := rfl
theorem lf_Mod_move_25 : lookN (eF E_Mod_move) 25 = some (6, 6) := rfl
theorem lf_Mod_move_7 : lookN (eF E_Mod_move) 7 = some (6, 0) := rfl
theorem lb_Mod_move : eB E_Mod_move = true := rfl
theorem lt_Mod_move : eT E_Mod_move = zST := rfl
-- CoilSlitsModel.mayDig
def E_Mod_mayDig : Env := (true, [(7, 6, 0)], [(.invokestatic 75, 2, x_Mod_canDig)], [], [], zST, false)
def d_Mod_mayDig : Dn := (sq (ite' (cno (cat E_Mod_mayDig [.iload_n 1, .iconst (-1)] (.if_icmp .ne 7)))
  (blk E_Mod_mayDig [.iconst 1])
  (ite' (cno (cat E_Mod_mayDig [.aload_n 0, .getfield 7, .iload_n 1, .invokestatic 75] (.ifCond .eq 7)))
  (blk E_Mod_mayDig [.iconst 0])
  (blk E_Mod_mayDig [.iconst 2])))
  (rti E_Mod_mayDig []))
def x_Mod_mayDig : Ex := zrv 6 (exb true 2 d_Mod_mayDig)
abbrev r_Mod_mayDig : Room := ({ frames := 2, cells := 0, slots := 0, locals := 44 } : Room)
theorem eo_Mod_mayDig (hw : zWok w) (cx : CX w p s m args c b_Mod_mayDig 2 "CoilSlitsModel") : EnvOk w true p l e r_Mod_mayDig s m args below meth c Q b_Mod_mayDig 2 "CoilSlitsModel" E_Mod_mayDig :=
  ⟨rfl, by decide +kernel, by decide +kernel, by decide +kernel, hw, fun h => absurd h (by decide),
  List.forall_mem_cons.mpr ⟨call_S cx (ct_Mod_canDig w l hw) tw_915 tw_913 tw_8 tw_914 (by decide +kernel) ⟨Nat.le_of_ble_eq_true rfl, Nat.le_of_ble_eq_true rfl⟩, fun q hq => absurd hq List.not_mem_nil⟩⟩
theorem sn_Mod_mayDig (h : MC w true p l e R s m args below meth c Q b_Mod_mayDig 2 "CoilSlitsModel" E_Mod_mayDig 0 0 F (some .int)) : Sn (zK w true p l e R s m args below meth c Q 2) F (fun _ => False) (fun _ => False) 0 0 0 d_Mod_mayDig 0 0 0 := by
  unfold d_Mod_mayDig
  exact (sn_sq (pm := 25) (sn_ite (pt := 5) (pf := 9) (sc_no (m_cat h zz (p1 := 2) (tgt := 9) (by decide +kernel) (by decide +kernel) (by decide)))
  (sn_goto (pm := 6) (m_blk h zz (by decide +kernel)) (m_goto h (off := 19) (by decide +kernel) (by decide)))
  (sn_ite (pt := 20) (pf := 24) (sc_no (m_cat h zz (p1 := 17) (tgt := 24) (by decide +kernel) (by decide +kernel) (by decide)))
  (sn_goto (pm := 21) (m_blk h zz (by decide +kernel)) (m_goto h (off := 4) (by decide +kernel) (by decide)))
  (m_blk h zz (by decide +kernel))))
  (m_rti h zz (p1 := 25) (by decide +kernel) (by decide +kernel) (Nat.zero_le _) (Nat.zero_le _)))
theorem ct_Mod_mayDig (w : Wd) (l : Launch) (hw : zWok w) : CT w l y_Mod_mayDig b_Mod_mayDig 2 (some .int) r_Mod_mayDig (exb true 2 d_Mod_mayDig) :=
  ct_plain (by decide +kernel) (fun p e s m args below meth c Q cx hnm => eo_Mod_mayDig hw cx) (fun p e s m args below meth c Q F h => sn_Mod_mayDig h)
theorem q_Mod_mayDig {a : Nat} {fs : List Value} {M : Hp} {nx : Nat} (x0 : Int32) (h : M a = some (cO 6 fs)) : x_Mod_mayDig [.ref a, .int x0] (M, nx) = zres (d_Mod_mayDig ([some (.ref a), some (.int x0)], [], (M, nx))) := q_ofV [some (.ref a), some (.int x0)] h rfl (Nat.le_of_ble_eq_true rfl) (Or.inr rfl)
theorem lc_Mod_mayDig_75 : lookI (eC E_Mod_mayDig) (.invokestatic 75) = some (2, x_Mod_canDig) := rfl
theorem lf_Mod_mayDig_7 : lookN (eF E_Mod_mayDig) 7 = some (6, 0) := rfl
theorem lb_Mod_mayDig : eB E_Mod_mayDig = true := rfl
-- CoilSlitsModel.dig
def E_Mod_dig : Env := (true, [(7, 6, 0), (25, 6, 6)], [(.invokestatic 120, 2, x_Mod_placeOf), (.invokevirtual 123, 2, x_Mod_mayDig), (.invokevirtual 113, 1, x_Mod_saves), (.invokestatic 87, 2, x_Mod_digs)], [], [], zST, false)
def d_Mod_dig : Dn := (sq (blk E_Mod_dig [.aload_n 0, .getfield 7, .iload_n 1, .invokestatic 120, .istore_n 2, .aload_n 0, .aload_n 0, .iload_n 2, .invokevirtual 123, .putfield 25])
  (sq (ite' (cno (cat E_Mod_dig [.aload_n 0, .getfield 25] (.ifCond .eq 5)))
  (rti E_Mod_dig [.iconst 0])
  (blk E_Mod_dig []))
  (rti E_Mod_dig [.aload_n 0, .invokevirtual 113, .aload_n 0, .getfield 7, .iload_n 2, .invokestatic 87])))
def x_Mod_dig : Ex := zrv 6 (exb true 3 d_Mod_dig)
abbrev r_Mod_dig : Room := ({ frames := 3, cells := 0, slots := 0, locals := 74 } : Room)
theorem eo_Mod_dig (hw : zWok w) (cx : CX w p s m args c b_Mod_dig 3 "CoilSlitsModel") : EnvOk w true p l e r_Mod_dig s m args below meth c Q b_Mod_dig 3 "CoilSlitsModel" E_Mod_dig :=
  ⟨rfl, by decide +kernel, by decide +kernel, by decide +kernel, hw, fun h => absurd h (by decide),
  List.forall_mem_cons.mpr ⟨call_S cx (ct_Mod_placeOf w l hw) tw_905 tw_903 tw_8 tw_904 (by decide +kernel) ⟨Nat.le_of_ble_eq_true rfl, Nat.le_of_ble_eq_true rfl⟩, List.forall_mem_cons.mpr ⟨call_V cx (ct_Mod_mayDig w l hw) tw_912 tw_909 tw_8 tw_911 tp_31 (ci := 6) (Nat.le_of_ble_eq_true rfl) rfl (by decide +kernel) ⟨Nat.le_of_ble_eq_true rfl, Nat.le_of_ble_eq_true rfl⟩, List.forall_mem_cons.mpr ⟨call_V cx (ct_Mod_saves w l hw) tw_875 tw_872 tw_8 tw_874 tp_29 (ci := 6) (Nat.le_of_ble_eq_true rfl) rfl (by decide +kernel) ⟨Nat.le_of_ble_eq_true rfl, Nat.le_of_ble_eq_true rfl⟩, List.forall_mem_cons.mpr ⟨call_S cx (ct_Mod_digs w l hw) tw_921 tw_919 tw_8 tw_920 (by decide +kernel) ⟨Nat.le_of_ble_eq_true rfl, Nat.le_of_ble_eq_true rfl⟩, fun q hq => absurd hq List.not_mem_nil⟩⟩⟩⟩⟩
theorem sn_Mod_dig (h : MC w true p l e R s m args below meth c Q b_Mod_dig 3 "CoilSlitsModel" E_Mod_dig 0 0 F (some .int)) : Sn (zK w true p l e R s m args below meth c Q 3) F (fun _ => False) (fun _ => False) 0 0 0 d_Mod_dig 0 0 0 := by
  unfold d_Mod_dig
  exact (sn_sq (pm := 18) (m_blk h zz (by decide +kernel))
  (sn_sq (pm := 27) (sn_ite (pt := 25) (pf := 27) (sc_no (m_cat h zz (p1 := 22) (tgt := 27) (by decide +kernel) (by decide +kernel) (by decide)))
  (m_rti h zz (p1 := 26) (by decide +kernel) (by decide +kernel) (Nat.zero_le _) (Nat.zero_le _))
  (m_blk h zz rfl))
  (m_rti h zz (p1 := 39) (by decide +kernel) (by decide +kernel) (Nat.zero_le _) (Nat.zero_le _))))
theorem ct_Mod_dig (w : Wd) (l : Launch) (hw : zWok w) : CT w l y_Mod_dig b_Mod_dig 3 (some .int) r_Mod_dig (exb true 3 d_Mod_dig) :=
  ct_plain (by decide +kernel) (fun p e s m args below meth c Q cx hnm => eo_Mod_dig hw cx) (fun p e s m args below meth c Q F h => sn_Mod_dig h)
theorem q_Mod_dig {a : Nat} {fs : List Value} {M : Hp} {nx : Nat} (x0 : Int32) (h : M a = some (cO 6 fs)) : x_Mod_dig [.ref a, .int x0] (M, nx) = zres (d_Mod_dig ([some (.ref a), some (.int x0), none], [], (M, nx))) := q_ofV [some (.ref a), some (.int x0), none] h rfl (Nat.le_of_ble_eq_true rfl) (Or.inr rfl)
theorem lc_Mod_dig_120 : lookI (eC E_Mod_dig) (.invokestatic 120) = some (2, x_Mod_placeOf) := rfl
theorem lc_Mod_dig_123 : lookI (eC E_Mod_dig) (.invokevirtual 123) = some (2, x_Mod_mayDig) := rfl
theorem lc_Mod_dig_113 : lookI (eC E_Mod_dig) (.invokevirtual 113) = some (1, x_Mod_saves) := rfl
theorem lc_Mod_dig_87 : lookI (eC E_Mod_dig) (.invokestatic 87) = some (2, x_Mod_digs) := rfl
theorem lf_Mod_dig_7 : lookN (eF E_Mod_dig) 7 = some (6, 0) := rfl
theorem lf_Mod_dig_25 : lookN (eF E_Mod_dig) 25 = some (6, 6) := rfl
theorem lb_Mod_dig : eB E_Mod_dig = true := rfl
-- CoilSlitsModel.sendAway
def E_Mod_sendAway : Env := (true, [(7, 6, 0), (25, 6, 6)], [(.invokestatic 120, 2, x_Mod_placeOf), (.invokevirtual 123, 2, x_Mod_mayDig), (.invokevirtual 113, 1, x_Mod_saves), (.invokestatic 87, 2, x_Mod_digs), (.invokestatic 44, 3, x_Mod_of)], [], [], zST, false)
def d_Mod_sendAway : Dn := (sq (blk E_Mod_sendAway [.aload_n 0, .getfield 7, .iload_n 1, .invokestatic 120, .istore_n 2, .aload_n 0, .aload_n 0, .iload_n 2, .invokevirtual 123, .putfield 25])
  (sq (ite' (cno (cat E_Mod_sendAway [.aload_n 0, .getfield 25] (.ifCond .eq 5)))
  (rti E_Mod_sendAway [.iconst 0])
  (blk E_Mod_sendAway []))
  (rti E_Mod_sendAway [.aload_n 0, .invokevirtual 113, .aload_n 0, .getfield 7, .iload_n 2, .invokestatic 87, .pop, .aload_n 0, .getfield 7, .bipush 16, .iload_n 2, .iconst 5, .idiv, .iadd, .dup2, .iaload, .iconst 1, .isub, .iastore, .aload_n 0, .getfield 7, .bipush 14, .dup2, .iaload, .aload_n 0, .getfield 7, .iload_n 2, .iconst 1, .invokestatic 44, .iadd, .iastore, .aload_n 0, .getfield 7, .iload_n 2, .iconst 1, .invokestatic 44])))
def x_Mod_sendAway : Ex := zrv 6 (exb true 3 d_Mod_sendAway)
abbrev r_Mod_sendAway : Room := ({ frames := 3, cells := 0, slots := 0, locals := 74 } : Room)
theorem eo_Mod_sendAway (hw : zWok w) (cx : CX w p s m args c b_Mod_sendAway 3 "CoilSlitsModel") : EnvOk w true p l e r_Mod_sendAway s m args below meth c Q b_Mod_sendAway 3 "CoilSlitsModel" E_Mod_sendAway :=
  ⟨rfl, by decide +kernel, by decide +kernel, by decide +kernel, hw, fun h => absurd h (by decide),
  List.forall_mem_cons.mpr ⟨call_S cx (ct_Mod_placeOf w l hw) tw_905 tw_903 tw_8 tw_904 (by decide +kernel) ⟨Nat.le_of_ble_eq_true rfl, Nat.le_of_ble_eq_true rfl⟩, List.forall_mem_cons.mpr ⟨call_V cx (ct_Mod_mayDig w l hw) tw_912 tw_909 tw_8 tw_911 tp_31 (ci := 6) (Nat.le_of_ble_eq_true rfl) rfl (by decide +kernel) ⟨Nat.le_of_ble_eq_true rfl, Nat.le_of_ble_eq_true rfl⟩, List.forall_mem_cons.mpr ⟨call_V cx (ct_Mod_saves w l hw) tw_875 tw_872 tw_8 tw_874 tp_29 (ci := 6) (Nat.le_of_ble_eq_true rfl) rfl (by decide +kernel) ⟨Nat.le_of_ble_eq_true rfl, Nat.le_of_ble_eq_true rfl⟩, List.forall_mem_cons.mpr ⟨call_S cx (ct_Mod_digs w l hw) tw_921 tw_919 tw_8 tw_920 (by decide +kernel) ⟨Nat.le_of_ble_eq_true rfl, Nat.le_of_ble_eq_true rfl⟩, List.forall_mem_cons.mpr ⟨call_S cx (ct_Mod_of w l hw) tw_895 tw_893 tw_8 tw_894 (by decide +kernel) ⟨Nat.le_of_ble_eq_true rfl, Nat.le_of_ble_eq_true rfl⟩, fun q hq => absurd hq List.not_mem_nil⟩⟩⟩⟩⟩⟩
theorem sn_Mod_sendAway (h : MC w true p l e R s m args below meth c Q b_Mod_sendAway 3 "CoilSlitsModel" E_Mod_sendAway 0 0 F (some .int)) : Sn (zK w true p l e R s m args below meth c Q 3) F (fun _ => False) (fun _ => False) 0 0 0 d_Mod_sendAway 0 0 0 := by
  unfold d_Mod_sendAway
  exact (sn_sq (pm := 18) (m_blk h zz (by decide +kernel))
  (sn_sq (pm := 27) (sn_ite (pt := 25) (pf := 27) (sc_no (m_cat h zz (p1 := 22) (tgt := 27) (by decide +kernel) (by decide +kernel) (by decide)))
  (m_rti h zz (p1 := 26) (by decide +kernel) (by decide +kernel) (Nat.zero_le _) (Nat.zero_le _))
  (m_blk h zz rfl))
  (m_rti h zz (p1 := 83) (by decide +kernel) (by decide +kernel) (Nat.zero_le _) (Nat.zero_le _))))
theorem ct_Mod_sendAway (w : Wd) (l : Launch) (hw : zWok w) : CT w l y_Mod_sendAway b_Mod_sendAway 3 (some .int) r_Mod_sendAway (exb true 3 d_Mod_sendAway) :=
  ct_plain (by decide +kernel) (fun p e s m args below meth c Q cx hnm => eo_Mod_sendAway hw cx) (fun p e s m args below meth c Q F h => sn_Mod_sendAway h)
theorem q_Mod_sendAway {a : Nat} {fs : List Value} {M : Hp} {nx : Nat} (x0 : Int32) (h : M a = some (cO 6 fs)) : x_Mod_sendAway [.ref a, .int x0] (M, nx) = zres (d_Mod_sendAway ([some (.ref a), some (.int x0), none], [], (M, nx))) := q_ofV [some (.ref a), some (.int x0), none] h rfl (Nat.le_of_ble_eq_true rfl) (Or.inr rfl)
theorem lc_Mod_sendAway_120 : lookI (eC E_Mod_sendAway) (.invokestatic 120) = some (2, x_Mod_placeOf) := rfl
theorem lc_Mod_sendAway_123 : lookI (eC E_Mod_sendAway) (.invokevirtual 123) = some (2, x_Mod_mayDig) := rfl
theorem lc_Mod_sendAway_113 : lookI (eC E_Mod_sendAway) (.invokevirtual 113) = some (1, x_Mod_saves) := rfl
theorem lc_Mod_sendAway_87 : lookI (eC E_Mod_sendAway) (.invokestatic 87) = some (2, x_Mod_digs) := rfl
theorem lc_Mod_sendAway_44 : lookI (eC E_Mod_sendAway) (.invokestatic 44) = some (3, x_Mod_of) := rfl
theorem lf_Mod_sendAway_7 : lookN (eF E_Mod_sendAway) 7 = some (6, 0) := rfl
theorem lf_Mod_sendAway_25 : lookN (eF E_Mod_sendAway) 25 = some (6, 6) := rfl
theorem lb_Mod_sendAway : eB E_Mod_sendAway = true := rfl
theorem lt_Mod_sendAway : eT E_Mod_sendAway = zST := rfl
-- CoilSlitsModel.order
def E_Mod_order : Env := (true, [(25, 6, 6), (7, 6, 0)], [(.invokestatic 29, 3, x_Mod_in), (.invokevirtual 36, 2, x_Mod_fails), (.invokevirtual 113, 1, x_Mod_saves)], [], [], zST, false)
def d_Mod_order : Dn := (sq (blk E_Mod_order [.aload_n 0, .iconst 0, .putfield 25])
  (sq (ite' (cor (cat E_Mod_order [.iload_n 1, .iconst 0, .iconst 3, .invokestatic 29] (.ifCond .eq 45)) (cor (cat E_Mod_order [.iload_n 2, .iconst 0, .bipush 9, .invokestatic 29] (.ifCond .eq 35)) (cor (cat E_Mod_order [.iload_n 3, .iconst 2, .bipush 100, .invokestatic 29] (.ifCond .eq 25)) (cor (cat E_Mod_order [.iload 4, .iconst 1, .bipush 40, .invokestatic 29] (.ifCond .eq 14)) (cno (cat E_Mod_order [.iload 5, .iconst 1, .bipush 99, .invokestatic 29] (.ifCond .ne 9)))))))
  (rti E_Mod_order [.aload_n 0, .iconst 1, .invokevirtual 36])
  (blk E_Mod_order []))
  (sq (ite' (cno (cat E_Mod_order [.aload_n 0, .getfield 7, .bipush 15, .iaload, .bipush 8] (.if_icmp .ne 9)))
  (rti E_Mod_order [.aload_n 0, .iconst 2, .invokevirtual 36])
  (blk E_Mod_order []))
  (rti E_Mod_order [.aload_n 0, .invokevirtual 113, .sipush 172, .bipush 6, .aload_n 0, .getfield 7, .bipush 15, .iaload, .imul, .iadd, .istore 6, .aload_n 0, .getfield 7, .iload 6, .aload_n 0, .getfield 7, .iconst 5, .iaload, .iastore, .aload_n 0, .getfield 7, .iload 6, .iconst 1, .iadd, .iload_n 1, .iastore, .aload_n 0, .getfield 7, .iload 6, .iconst 2, .iadd, .iload_n 2, .iastore, .aload_n 0, .getfield 7, .iload 6, .iconst 3, .iadd, .iload_n 3, .iastore, .aload_n 0, .getfield 7, .iload 6, .iconst 4, .iadd, .iload 4, .iastore, .aload_n 0, .getfield 7, .iload 6, .iconst 5, .iadd, .iload 5, .iastore, .aload_n 0, .getfield 7, .bipush 15, .dup2, .iaload, .iconst 1, .iadd, .iastore, .aload_n 0, .getfield 7, .iconst 5, .dup2, .iaload, .iconst 1, .iadd, .iastore, .aload_n 0, .getfield 7, .iconst 5, .iaload, .iconst 1, .isub]))))
def x_Mod_order : Ex := zrv 6 (exb true 7 d_Mod_order)
abbrev r_Mod_order : Room := ({ frames := 1, cells := 0, slots := 0, locals := 22 } : Room)
theorem eo_Mod_order (hw : zWok w) (cx : CX w p s m args c b_Mod_order 7 "CoilSlitsModel") : EnvOk w true p l e r_Mod_order s m args below meth c Q b_Mod_order 7 "CoilSlitsModel" E_Mod_order :=
  ⟨rfl, by decide +kernel, by decide +kernel, by decide +kernel, hw, fun h => absurd h (by decide),
  List.forall_mem_cons.mpr ⟨call_S cx (ct_Mod_in w l hw) tw_871 tw_869 tw_8 tw_870 (by decide +kernel) ⟨Nat.le_of_ble_eq_true rfl, Nat.le_of_ble_eq_true rfl⟩, List.forall_mem_cons.mpr ⟨call_V cx (ct_Mod_fails w l hw) tw_861 tw_858 tw_8 tw_860 tp_28 (ci := 6) (Nat.le_of_ble_eq_true rfl) rfl (by decide +kernel) ⟨Nat.le_of_ble_eq_true rfl, Nat.le_of_ble_eq_true rfl⟩, List.forall_mem_cons.mpr ⟨call_V cx (ct_Mod_saves w l hw) tw_875 tw_872 tw_8 tw_874 tp_29 (ci := 6) (Nat.le_of_ble_eq_true rfl) rfl (by decide +kernel) ⟨Nat.le_of_ble_eq_true rfl, Nat.le_of_ble_eq_true rfl⟩, fun q hq => absurd hq List.not_mem_nil⟩⟩⟩⟩
theorem sn_Mod_order (h : MC w true p l e R s m args below meth c Q b_Mod_order 7 "CoilSlitsModel" E_Mod_order 0 0 F (some .int)) : Sn (zK w true p l e R s m args below meth c Q 7) F (fun _ => False) (fun _ => False) 0 0 0 d_Mod_order 0 0 0 := by
  unfold d_Mod_order
  exact (sn_sq (pm := 5) (m_blk h zz (by decide +kernel))
  (sn_sq (pm := 62) (sn_ite (pt := 56) (pf := 62) (sc_or (pm := 14) (m_cat h zz (p1 := 11) (tgt := 56) (by decide +kernel) (by decide +kernel) (by decide)) (sc_or (pm := 24) (m_cat h zz (p1 := 21) (tgt := 56) (by decide +kernel) (by decide +kernel) (by decide)) (sc_or (pm := 34) (m_cat h zz (p1 := 31) (tgt := 56) (by decide +kernel) (by decide +kernel) (by decide)) (sc_or (pm := 45) (m_cat h zz (p1 := 42) (tgt := 56) (by decide +kernel) (by decide +kernel) (by decide)) (sc_no (m_cat h zz (p1 := 53) (tgt := 62) (by decide +kernel) (by decide +kernel) (by decide)))))))
  (m_rti h zz (p1 := 61) (by decide +kernel) (by decide +kernel) (Nat.zero_le _) (Nat.zero_le _))
  (m_blk h zz rfl))
  (sn_sq (pm := 80) (sn_ite (pt := 74) (pf := 80) (sc_no (m_cat h zz (p1 := 71) (tgt := 80) (by decide +kernel) (by decide +kernel) (by decide)))
  (m_rti h zz (p1 := 79) (by decide +kernel) (by decide +kernel) (Nat.zero_le _) (Nat.zero_le _))
  (m_blk h zz rfl))
  (m_rti h zz (p1 := 194) (by decide +kernel) (by decide +kernel) (Nat.zero_le _) (Nat.zero_le _)))))
theorem ct_Mod_order (w : Wd) (l : Launch) (hw : zWok w) : CT w l y_Mod_order b_Mod_order 7 (some .int) r_Mod_order (exb true 7 d_Mod_order) :=
  ct_plain (by decide +kernel) (fun p e s m args below meth c Q cx hnm => eo_Mod_order hw cx) (fun p e s m args below meth c Q F h => sn_Mod_order h)
theorem q_Mod_order {a : Nat} {fs : List Value} {M : Hp} {nx : Nat} (x0 : Int32) (x1 : Int32) (x2 : Int32) (x3 : Int32) (x4 : Int32) (h : M a = some (cO 6 fs)) : x_Mod_order [.ref a, .int x0, .int x1, .int x2, .int x3, .int x4] (M, nx) = zres (d_Mod_order ([some (.ref a), some (.int x0), some (.int x1), some (.int x2), some (.int x3), some (.int x4), none], [], (M, nx))) := q_ofV [some (.ref a), some (.int x0), some (.int x1), some (.int x2), some (.int x3), some (.int x4), none] h rfl (Nat.le_of_ble_eq_true rfl) (Or.inr rfl)
theorem lc_Mod_order_29 : lookI (eC E_Mod_order) (.invokestatic 29) = some (3, x_Mod_in) := rfl
theorem lc_Mod_order_36 : lookI (eC E_Mod_order) (.invokevirtual 36) = some (2, x_Mod_fails) := rfl
theorem lc_Mod_order_113 : lookI (eC E_Mod_order) (.invokevirtual 113) = some (1, x_Mod_saves) := rfl
theorem lf_Mod_order_25 : lookN (eF E_Mod_order) 25 = some (6, 6) := rfl
theorem lf_Mod_order_7 : lookN (eF E_Mod_order) 7 = some (6, 0) := rfl
theorem lb_Mod_order : eB E_Mod_order = true := rfl
theorem lt_Mod_order : eT E_Mod_order = zST := rfl
-- CoilSlitsModel.cancel
def E_Mod_cancel : Env := (true, [(25, 6, 6), (7, 6, 0)], [(.invokestatic 94, 2, x_Mod_orderAt), (.invokevirtual 36, 2, x_Mod_fails), (.invokevirtual 113, 1, x_Mod_saves), (.invokestatic 48, 3, x_Mod_by), (.invokestatic 90, 2, x_Mod_orderGoes)], [], [], zST, false)
def d_Mod_cancel : Dn := (sq (blk E_Mod_cancel [.aload_n 0, .iconst 0, .putfield 25, .aload_n 0, .getfield 7, .iload_n 1, .invokestatic 94, .istore_n 2])
  (sq (ite' (cno (cat E_Mod_cancel [.iload_n 2, .iconst (-1)] (.if_icmp .ne 9)))
  (rti E_Mod_cancel [.aload_n 0, .iconst 1, .invokevirtual 36])
  (blk E_Mod_cancel []))
  (rti E_Mod_cancel [.aload_n 0, .invokevirtual 113, .aload_n 0, .getfield 7, .iload_n 2, .iconst 4, .invokestatic 48, .istore_n 3, .aload_n 0, .getfield 7, .iload_n 2, .invokestatic 90, .iload_n 3])))
def x_Mod_cancel : Ex := zrv 6 (exb true 4 d_Mod_cancel)
abbrev r_Mod_cancel : Room := ({ frames := 2, cells := 0, slots := 0, locals := 44 } : Room)
theorem eo_Mod_cancel (hw : zWok w) (cx : CX w p s m args c b_Mod_cancel 4 "CoilSlitsModel") : EnvOk w true p l e r_Mod_cancel s m args below meth c Q b_Mod_cancel 4 "CoilSlitsModel" E_Mod_cancel :=
  ⟨rfl, by decide +kernel, by decide +kernel, by decide +kernel, hw, fun h => absurd h (by decide),
  List.forall_mem_cons.mpr ⟨call_S cx (ct_Mod_orderAt w l hw) tw_939 tw_937 tw_8 tw_938 (by decide +kernel) ⟨Nat.le_of_ble_eq_true rfl, Nat.le_of_ble_eq_true rfl⟩, List.forall_mem_cons.mpr ⟨call_V cx (ct_Mod_fails w l hw) tw_861 tw_858 tw_8 tw_860 tp_28 (ci := 6) (Nat.le_of_ble_eq_true rfl) rfl (by decide +kernel) ⟨Nat.le_of_ble_eq_true rfl, Nat.le_of_ble_eq_true rfl⟩, List.forall_mem_cons.mpr ⟨call_V cx (ct_Mod_saves w l hw) tw_875 tw_872 tw_8 tw_874 tp_29 (ci := 6) (Nat.le_of_ble_eq_true rfl) rfl (by decide +kernel) ⟨Nat.le_of_ble_eq_true rfl, Nat.le_of_ble_eq_true rfl⟩, List.forall_mem_cons.mpr ⟨call_S cx (ct_Mod_by w l hw) tw_942 tw_940 tw_8 tw_941 (by decide +kernel) ⟨Nat.le_of_ble_eq_true rfl, Nat.le_of_ble_eq_true rfl⟩, List.forall_mem_cons.mpr ⟨call_S cx (ct_Mod_orderGoes w l hw) tw_945 tw_943 tw_8 tw_944 (by decide +kernel) ⟨Nat.le_of_ble_eq_true rfl, Nat.le_of_ble_eq_true rfl⟩, fun q hq => absurd hq List.not_mem_nil⟩⟩⟩⟩⟩⟩
theorem sn_Mod_cancel (h : MC w true p l e R s m args below meth c Q b_Mod_cancel 4 "CoilSlitsModel" E_Mod_cancel 0 0 F (some .int)) : Sn (zK w true p l e R s m args below meth c Q 4) F (fun _ => False) (fun _ => False) 0 0 0 d_Mod_cancel 0 0 0 := by
  unfold d_Mod_cancel
  exact (sn_sq (pm := 14) (m_blk h zz (by decide +kernel))
  (sn_sq (pm := 25) (sn_ite (pt := 19) (pf := 25) (sc_no (m_cat h zz (p1 := 16) (tgt := 25) (by decide +kernel) (by decide +kernel) (by decide)))
  (m_rti h zz (p1 := 24) (by decide +kernel) (by decide +kernel) (Nat.zero_le _) (Nat.zero_le _))
  (m_blk h zz rfl))
  (m_rti h zz (p1 := 48) (by decide +kernel) (by decide +kernel) (Nat.zero_le _) (Nat.zero_le _))))
theorem ct_Mod_cancel (w : Wd) (l : Launch) (hw : zWok w) : CT w l y_Mod_cancel b_Mod_cancel 4 (some .int) r_Mod_cancel (exb true 4 d_Mod_cancel) :=
  ct_plain (by decide +kernel) (fun p e s m args below meth c Q cx hnm => eo_Mod_cancel hw cx) (fun p e s m args below meth c Q F h => sn_Mod_cancel h)
theorem q_Mod_cancel {a : Nat} {fs : List Value} {M : Hp} {nx : Nat} (x0 : Int32) (h : M a = some (cO 6 fs)) : x_Mod_cancel [.ref a, .int x0] (M, nx) = zres (d_Mod_cancel ([some (.ref a), some (.int x0), none, none], [], (M, nx))) := q_ofV [some (.ref a), some (.int x0), none, none] h rfl (Nat.le_of_ble_eq_true rfl) (Or.inr rfl)
theorem lc_Mod_cancel_94 : lookI (eC E_Mod_cancel) (.invokestatic 94) = some (2, x_Mod_orderAt) := rfl
theorem lc_Mod_cancel_36 : lookI (eC E_Mod_cancel) (.invokevirtual 36) = some (2, x_Mod_fails) := rfl
theorem lc_Mod_cancel_113 : lookI (eC E_Mod_cancel) (.invokevirtual 113) = some (1, x_Mod_saves) := rfl
theorem lc_Mod_cancel_48 : lookI (eC E_Mod_cancel) (.invokestatic 48) = some (3, x_Mod_by) := rfl
theorem lc_Mod_cancel_90 : lookI (eC E_Mod_cancel) (.invokestatic 90) = some (2, x_Mod_orderGoes) := rfl
theorem lf_Mod_cancel_25 : lookN (eF E_Mod_cancel) 25 = some (6, 6) := rfl
theorem lf_Mod_cancel_7 : lookN (eF E_Mod_cancel) 7 = some (6, 0) := rfl
theorem lb_Mod_cancel : eB E_Mod_cancel = true := rfl
-- CoilSlitsModel.slit
def E_Mod_slit : Env := (true, [(25, 6, 6), (7, 6, 0)], [(.invokestatic 94, 2, x_Mod_orderAt), (.invokestatic 120, 2, x_Mod_placeOf), (.invokevirtual 36, 2, x_Mod_fails), (.invokestatic 81, 3, x_Mod_reason), (.invokevirtual 113, 1, x_Mod_saves), (.invokestatic 100, 3, x_Mod_slits)], [], [], zST, false)
def d_Mod_slit : Dn := (sq (blk E_Mod_slit [.aload_n 0, .iconst 0, .putfield 25, .aload_n 0, .getfield 7, .iload_n 1, .invokestatic 94, .istore_n 3, .aload_n 0, .getfield 7, .iload_n 2, .invokestatic 120, .istore 4])
  (sq (ite' (cor (cat E_Mod_slit [.iload_n 3, .iconst (-1)] (.if_icmp .eq 9)) (cno (cat E_Mod_slit [.iload 4, .iconst (-1)] (.if_icmp .ne 9))))
  (rti E_Mod_slit [.aload_n 0, .iconst 1, .invokevirtual 36])
  (blk E_Mod_slit []))
  (sq (ite' (cno (cat E_Mod_slit [.aload_n 0, .getfield 7, .iload_n 3, .iload 4, .invokestatic 81] (.ifCond .eq 9)))
  (rti E_Mod_slit [.aload_n 0, .iconst 2, .invokevirtual 36])
  (blk E_Mod_slit []))
  (rti E_Mod_slit [.aload_n 0, .invokevirtual 113, .aload_n 0, .getfield 7, .iload_n 3, .iload 4, .invokestatic 100]))))
def x_Mod_slit : Ex := zrv 6 (exb true 5 d_Mod_slit)
abbrev r_Mod_slit : Room := ({ frames := 5, cells := 0, slots := 0, locals := 114 } : Room)
theorem eo_Mod_slit (hw : zWok w) (cx : CX w p s m args c b_Mod_slit 5 "CoilSlitsModel") : EnvOk w true p l e r_Mod_slit s m args below meth c Q b_Mod_slit 5 "CoilSlitsModel" E_Mod_slit :=
  ⟨rfl, by decide +kernel, by decide +kernel, by decide +kernel, hw, fun h => absurd h (by decide),
  List.forall_mem_cons.mpr ⟨call_S cx (ct_Mod_orderAt w l hw) tw_939 tw_937 tw_8 tw_938 (by decide +kernel) ⟨Nat.le_of_ble_eq_true rfl, Nat.le_of_ble_eq_true rfl⟩, List.forall_mem_cons.mpr ⟨call_S cx (ct_Mod_placeOf w l hw) tw_905 tw_903 tw_8 tw_904 (by decide +kernel) ⟨Nat.le_of_ble_eq_true rfl, Nat.le_of_ble_eq_true rfl⟩, List.forall_mem_cons.mpr ⟨call_V cx (ct_Mod_fails w l hw) tw_861 tw_858 tw_8 tw_860 tp_28 (ci := 6) (Nat.le_of_ble_eq_true rfl) rfl (by decide +kernel) ⟨Nat.le_of_ble_eq_true rfl, Nat.le_of_ble_eq_true rfl⟩, List.forall_mem_cons.mpr ⟨call_S cx (ct_Mod_reason w l hw) tw_952 tw_950 tw_8 tw_951 (by decide +kernel) ⟨Nat.le_of_ble_eq_true rfl, Nat.le_of_ble_eq_true rfl⟩, List.forall_mem_cons.mpr ⟨call_V cx (ct_Mod_saves w l hw) tw_875 tw_872 tw_8 tw_874 tp_29 (ci := 6) (Nat.le_of_ble_eq_true rfl) rfl (by decide +kernel) ⟨Nat.le_of_ble_eq_true rfl, Nat.le_of_ble_eq_true rfl⟩, List.forall_mem_cons.mpr ⟨call_S cx (ct_Mod_slits w l hw) tw_958 tw_956 tw_8 tw_957 (by decide +kernel) ⟨Nat.le_of_ble_eq_true rfl, Nat.le_of_ble_eq_true rfl⟩, fun q hq => absurd hq List.not_mem_nil⟩⟩⟩⟩⟩⟩⟩
theorem sn_Mod_slit (h : MC w true p l e R s m args below meth c Q b_Mod_slit 5 "CoilSlitsModel" E_Mod_slit 0 0 F (some .int)) : Sn (zK w true p l e R s m args below meth c Q 5) F (fun _ => False) (fun _ => False) 0 0 0 d_Mod_slit 0 0 0 := by
  unfold d_Mod_slit
  exact (sn_sq (pm := 24) (m_blk h zz (by decide +kernel))
  (sn_sq (pm := 41) (sn_ite (pt := 35) (pf := 41) (sc_or (pm := 29) (m_cat h zz (p1 := 26) (tgt := 35) (by decide +kernel) (by decide +kernel) (by decide)) (sc_no (m_cat h zz (p1 := 32) (tgt := 41) (by decide +kernel) (by decide +kernel) (by decide))))
  (m_rti h zz (p1 := 40) (by decide +kernel) (by decide +kernel) (Nat.zero_le _) (Nat.zero_le _))
  (m_blk h zz rfl))
  (sn_sq (pm := 60) (sn_ite (pt := 54) (pf := 60) (sc_no (m_cat h zz (p1 := 51) (tgt := 60) (by decide +kernel) (by decide +kernel) (by decide)))
  (m_rti h zz (p1 := 59) (by decide +kernel) (by decide +kernel) (Nat.zero_le _) (Nat.zero_le _))
  (m_blk h zz rfl))
  (m_rti h zz (p1 := 74) (by decide +kernel) (by decide +kernel) (Nat.zero_le _) (Nat.zero_le _)))))
theorem ct_Mod_slit (w : Wd) (l : Launch) (hw : zWok w) : CT w l y_Mod_slit b_Mod_slit 5 (some .int) r_Mod_slit (exb true 5 d_Mod_slit) :=
  ct_plain (by decide +kernel) (fun p e s m args below meth c Q cx hnm => eo_Mod_slit hw cx) (fun p e s m args below meth c Q F h => sn_Mod_slit h)
theorem q_Mod_slit {a : Nat} {fs : List Value} {M : Hp} {nx : Nat} (x0 : Int32) (x1 : Int32) (h : M a = some (cO 6 fs)) : x_Mod_slit [.ref a, .int x0, .int x1] (M, nx) = zres (d_Mod_slit ([some (.ref a), some (.int x0), some (.int x1), none, none], [], (M, nx))) := q_ofV [some (.ref a), some (.int x0), some (.int x1), none, none] h rfl (Nat.le_of_ble_eq_true rfl) (Or.inr rfl)
theorem lc_Mod_slit_94 : lookI (eC E_Mod_slit) (.invokestatic 94) = some (2, x_Mod_orderAt) := rfl
theorem lc_Mod_slit_120 : lookI (eC E_Mod_slit) (.invokestatic 120) = some (2, x_Mod_placeOf) := rfl
theorem lc_Mod_slit_36 : lookI (eC E_Mod_slit) (.invokevirtual 36) = some (2, x_Mod_fails) := rfl
theorem lc_Mod_slit_81 : lookI (eC E_Mod_slit) (.invokestatic 81) = some (3, x_Mod_reason) := rfl
theorem lc_Mod_slit_113 : lookI (eC E_Mod_slit) (.invokevirtual 113) = some (1, x_Mod_saves) := rfl
theorem lc_Mod_slit_100 : lookI (eC E_Mod_slit) (.invokestatic 100) = some (3, x_Mod_slits) := rfl
theorem lf_Mod_slit_25 : lookN (eF E_Mod_slit) 25 = some (6, 6) := rfl
theorem lf_Mod_slit_7 : lookN (eF E_Mod_slit) 7 = some (6, 0) := rfl
theorem lb_Mod_slit : eB E_Mod_slit = true := rfl
-- CoilSlitsModel.serve
def E_Mod_serve : Env := (true, [(25, 6, 6), (7, 6, 0)], [(.invokestatic 94, 2, x_Mod_orderAt), (.invokevirtual 36, 2, x_Mod_fails), (.invokevirtual 113, 1, x_Mod_saves), (.invokestatic 106, 2, x_Mod_serves)], [], [], zST, false)
def d_Mod_serve : Dn := (sq (blk E_Mod_serve [.aload_n 0, .iconst 0, .putfield 25])
  (sq (ite' (cno (cat E_Mod_serve [.aload_n 0, .getfield 7, .iload_n 1, .invokestatic 94, .iconst (-1)] (.if_icmp .ne 9)))
  (rti E_Mod_serve [.aload_n 0, .iconst 1, .invokevirtual 36])
  (blk E_Mod_serve []))
  (rti E_Mod_serve [.aload_n 0, .invokevirtual 113, .aload_n 0, .getfield 7, .iload_n 1, .invokestatic 106])))
def x_Mod_serve : Ex := zrv 6 (exb true 2 d_Mod_serve)
abbrev r_Mod_serve : Room := ({ frames := 6, cells := 0, slots := 0, locals := 139 } : Room)
theorem eo_Mod_serve (hw : zWok w) (cx : CX w p s m args c b_Mod_serve 2 "CoilSlitsModel") : EnvOk w true p l e r_Mod_serve s m args below meth c Q b_Mod_serve 2 "CoilSlitsModel" E_Mod_serve :=
  ⟨rfl, by decide +kernel, by decide +kernel, by decide +kernel, hw, fun h => absurd h (by decide),
  List.forall_mem_cons.mpr ⟨call_S cx (ct_Mod_orderAt w l hw) tw_939 tw_937 tw_8 tw_938 (by decide +kernel) ⟨Nat.le_of_ble_eq_true rfl, Nat.le_of_ble_eq_true rfl⟩, List.forall_mem_cons.mpr ⟨call_V cx (ct_Mod_fails w l hw) tw_861 tw_858 tw_8 tw_860 tp_28 (ci := 6) (Nat.le_of_ble_eq_true rfl) rfl (by decide +kernel) ⟨Nat.le_of_ble_eq_true rfl, Nat.le_of_ble_eq_true rfl⟩, List.forall_mem_cons.mpr ⟨call_V cx (ct_Mod_saves w l hw) tw_875 tw_872 tw_8 tw_874 tp_29 (ci := 6) (Nat.le_of_ble_eq_true rfl) rfl (by decide +kernel) ⟨Nat.le_of_ble_eq_true rfl, Nat.le_of_ble_eq_true rfl⟩, List.forall_mem_cons.mpr ⟨call_S cx (ct_Mod_serves w l hw) tw_971 tw_969 tw_8 tw_970 (by decide +kernel) ⟨Nat.le_of_ble_eq_true rfl, Nat.le_of_ble_eq_true rfl⟩, fun q hq => absurd hq List.not_mem_nil⟩⟩⟩⟩⟩
theorem sn_Mod_serve (h : MC w true p l e R s m args below meth c Q b_Mod_serve 2 "CoilSlitsModel" E_Mod_serve 0 0 F (some .int)) : Sn (zK w true p l e R s m args below meth c Q 2) F (fun _ => False) (fun _ => False) 0 0 0 d_Mod_serve 0 0 0 := by
  unfold d_Mod_serve
  exact (sn_sq (pm := 5) (m_blk h zz (by decide +kernel))
  (sn_sq (pm := 23) (sn_ite (pt := 17) (pf := 23) (sc_no (m_cat h zz (p1 := 14) (tgt := 23) (by decide +kernel) (by decide +kernel) (by decide)))
  (m_rti h zz (p1 := 22) (by decide +kernel) (by decide +kernel) (Nat.zero_le _) (Nat.zero_le _))
  (m_blk h zz rfl))
  (m_rti h zz (p1 := 35) (by decide +kernel) (by decide +kernel) (Nat.zero_le _) (Nat.zero_le _))))
theorem ct_Mod_serve (w : Wd) (l : Launch) (hw : zWok w) : CT w l y_Mod_serve b_Mod_serve 2 (some .int) r_Mod_serve (exb true 2 d_Mod_serve) :=
  ct_plain (by decide +kernel) (fun p e s m args below meth c Q cx hnm => eo_Mod_serve hw cx) (fun p e s m args below meth c Q F h => sn_Mod_serve h)
theorem q_Mod_serve {a : Nat} {fs : List Value} {M : Hp} {nx : Nat} (x0 : Int32) (h : M a = some (cO 6 fs)) : x_Mod_serve [.ref a, .int x0] (M, nx) = zres (d_Mod_serve ([some (.ref a), some (.int x0)], [], (M, nx))) := q_ofV [some (.ref a), some (.int x0)] h rfl (Nat.le_of_ble_eq_true rfl) (Or.inr rfl)
theorem lc_Mod_serve_94 : lookI (eC E_Mod_serve) (.invokestatic 94) = some (2, x_Mod_orderAt) := rfl
theorem lc_Mod_serve_36 : lookI (eC E_Mod_serve) (.invokevirtual 36) = some (2, x_Mod_fails) := rfl
theorem lc_Mod_serve_113 : lookI (eC E_Mod_serve) (.invokevirtual 113) = some (1, x_Mod_saves) := rfl
theorem lc_Mod_serve_106 : lookI (eC E_Mod_serve) (.invokestatic 106) = some (2, x_Mod_serves) := rfl
theorem lf_Mod_serve_25 : lookN (eF E_Mod_serve) 25 = some (6, 6) := rfl
theorem lf_Mod_serve_7 : lookN (eF E_Mod_serve) 7 = some (6, 0) := rfl
theorem lb_Mod_serve : eB E_Mod_serve = true := rfl
-- CoilSlitsModel.serveAll
def E_Mod_serveAll : Env := (true, [(25, 6, 6), (7, 6, 0)], [(.invokevirtual 113, 1, x_Mod_saves), (.invokestatic 126, 1, x_Mod_servesAll)], [], [], zST, false)
def d_Mod_serveAll : Dn := (rti E_Mod_serveAll [.aload_n 0, .iconst 0, .putfield 25, .aload_n 0, .invokevirtual 113, .aload_n 0, .getfield 7, .invokestatic 126])
def x_Mod_serveAll : Ex := zrv 6 (exb true 1 d_Mod_serveAll)
abbrev r_Mod_serveAll : Room := ({ frames := 7, cells := 0, slots := 0, locals := 163 } : Room)
theorem eo_Mod_serveAll (hw : zWok w) (cx : CX w p s m args c b_Mod_serveAll 1 "CoilSlitsModel") : EnvOk w true p l e r_Mod_serveAll s m args below meth c Q b_Mod_serveAll 1 "CoilSlitsModel" E_Mod_serveAll :=
  ⟨rfl, by decide +kernel, by decide +kernel, by decide +kernel, hw, fun h => absurd h (by decide),
  List.forall_mem_cons.mpr ⟨call_V cx (ct_Mod_saves w l hw) tw_875 tw_872 tw_8 tw_874 tp_29 (ci := 6) (Nat.le_of_ble_eq_true rfl) rfl (by decide +kernel) ⟨Nat.le_of_ble_eq_true rfl, Nat.le_of_ble_eq_true rfl⟩, List.forall_mem_cons.mpr ⟨call_S cx (ct_Mod_servesAll w l hw) tw_981 tw_979 tw_8 tw_980 (by decide +kernel) ⟨Nat.le_of_ble_eq_true rfl, Nat.le_of_ble_eq_true rfl⟩, fun q hq => absurd hq List.not_mem_nil⟩⟩⟩
theorem sn_Mod_serveAll (h : MC w true p l e R s m args below meth c Q b_Mod_serveAll 1 "CoilSlitsModel" E_Mod_serveAll 0 0 F (some .int)) : Sn (zK w true p l e R s m args below meth c Q 1) F (fun _ => False) (fun _ => False) 0 0 0 d_Mod_serveAll 0 0 0 := by
  unfold d_Mod_serveAll
  exact (m_rti h zz (p1 := 16) (by decide +kernel) (by decide +kernel) (Nat.zero_le _) (Nat.zero_le _))
theorem ct_Mod_serveAll (w : Wd) (l : Launch) (hw : zWok w) : CT w l y_Mod_serveAll b_Mod_serveAll 1 (some .int) r_Mod_serveAll (exb true 1 d_Mod_serveAll) :=
  ct_plain (by decide +kernel) (fun p e s m args below meth c Q cx hnm => eo_Mod_serveAll hw cx) (fun p e s m args below meth c Q F h => sn_Mod_serveAll h)
theorem q_Mod_serveAll {a : Nat} {fs : List Value} {M : Hp} {nx : Nat}  (h : M a = some (cO 6 fs)) : x_Mod_serveAll [.ref a] (M, nx) = zres (d_Mod_serveAll ([some (.ref a)], [], (M, nx))) := q_ofV [some (.ref a)] h rfl (Nat.le_of_ble_eq_true rfl) (Or.inr rfl)
theorem lc_Mod_serveAll_113 : lookI (eC E_Mod_serveAll) (.invokevirtual 113) = some (1, x_Mod_saves) := rfl
theorem lc_Mod_serveAll_126 : lookI (eC E_Mod_serveAll) (.invokestatic 126) = some (1, x_Mod_servesAll) := rfl
theorem lf_Mod_serveAll_25 : lookN (eF E_Mod_serveAll) 25 = some (6, 6) := rfl
theorem lf_Mod_serveAll_7 : lookN (eF E_Mod_serveAll) 7 = some (6, 0) := rfl
theorem lb_Mod_serveAll : eB E_Mod_serveAll = true := rfl
-- CoilSlitsModel.isFor
def E_Mod_isFor : Env := (true, [], [(.invokestatic 29, 3, x_Mod_in)], [], [], zST, false)
def d_Mod_isFor : Dn := (sq (ite' (cno (cat E_Mod_isFor [.iload_n 0] (.ifCond .ne 13)))
  (blk E_Mod_isFor [.iload_n 1, .iconst 1, .bipush 100, .invokestatic 29])
  (sq (blk E_Mod_isFor [.iload_n 1, .iconst 0])
  (sq (ite' (cno (cat E_Mod_isFor [.iload_n 0, .iconst 1] (.if_icmp .ne 7)))
  (blk E_Mod_isFor [.iconst 5])
  (ite' (cno (cat E_Mod_isFor [.iload_n 0, .iconst 2] (.if_icmp .ne 8)))
  (blk E_Mod_isFor [.bipush 9])
  (blk E_Mod_isFor [.iconst 2])))
  (blk E_Mod_isFor [.invokestatic 29]))))
  (rtz E_Mod_isFor []))
def x_Mod_isFor : Ex := exb true 2 d_Mod_isFor
abbrev r_Mod_isFor : Room := ({ frames := 1, cells := 0, slots := 0, locals := 22 } : Room)
theorem eo_Mod_isFor (hw : zWok w) (cx : CX w p s m args c b_Mod_isFor 2 "CoilSlitsModel") : EnvOk w true p l e r_Mod_isFor s m args below meth c Q b_Mod_isFor 2 "CoilSlitsModel" E_Mod_isFor :=
  ⟨rfl, by decide +kernel, by decide +kernel, by decide +kernel, hw, fun h => absurd h (by decide),
  List.forall_mem_cons.mpr ⟨call_S cx (ct_Mod_in w l hw) tw_871 tw_869 tw_8 tw_870 (by decide +kernel) ⟨Nat.le_of_ble_eq_true rfl, Nat.le_of_ble_eq_true rfl⟩, fun q hq => absurd hq List.not_mem_nil⟩⟩
theorem sn_Mod_isFor (h : MC w true p l e R s m args below meth c Q b_Mod_isFor 2 "CoilSlitsModel" E_Mod_isFor 0 0 F (some .boolean)) : Sn (zK w true p l e R s m args below meth c Q 2) F (fun _ => False) (fun _ => False) 0 0 0 d_Mod_isFor 0 0 0 := by
  unfold d_Mod_isFor
  exact (sn_sq (pm := 39) (sn_ite (pt := 4) (pf := 14) (sc_no (m_cat h zz (p1 := 1) (tgt := 14) (by decide +kernel) (by decide +kernel) (by decide)))
  (sn_goto (pm := 11) (m_blk h zz (by decide +kernel)) (m_goto h (off := 28) (by decide +kernel) (by decide)))
  (sn_sq (pm := 16) (m_blk h zz (by decide +kernel))
  (sn_sq (pm := 36) (sn_ite (pt := 21) (pf := 25) (sc_no (m_cat h zz (p1 := 18) (tgt := 25) (by decide +kernel) (by decide +kernel) (by decide)))
  (sn_goto (pm := 22) (m_blk h zz (by decide +kernel)) (m_goto h (off := 14) (by decide +kernel) (by decide)))
  (sn_ite (pt := 30) (pf := 35) (sc_no (m_cat h zz (p1 := 27) (tgt := 35) (by decide +kernel) (by decide +kernel) (by decide)))
  (sn_goto (pm := 32) (m_blk h zz (by decide +kernel)) (m_goto h (off := 4) (by decide +kernel) (by decide)))
  (m_blk h zz (by decide +kernel))))
  (m_blk h zz (by decide +kernel)))))
  (m_rtz h zz (p1 := 39) (by decide +kernel) (by decide +kernel) (Nat.zero_le _) (Nat.zero_le _)))
theorem ct_Mod_isFor (w : Wd) (l : Launch) (hw : zWok w) : CT w l y_Mod_isFor b_Mod_isFor 2 (some .boolean) r_Mod_isFor (exb true 2 d_Mod_isFor) :=
  ct_plain (by decide +kernel) (fun p e s m args below meth c Q cx hnm => eo_Mod_isFor hw cx) (fun p e s m args below meth c Q F h => sn_Mod_isFor h)
theorem q_Mod_isFor (x0 : Int32) (x1 : Int32) (g : G) : x_Mod_isFor [.int x0, .int x1] g = zres (d_Mod_isFor ([some (.int x0), some (.int x1)], [], g)) := q_of [some (.int x0), some (.int x1)] rfl (Nat.le_of_ble_eq_true rfl) (Or.inr rfl)
theorem lc_Mod_isFor_29 : lookI (eC E_Mod_isFor) (.invokestatic 29) = some (3, x_Mod_in) := rfl
theorem lb_Mod_isFor : eB E_Mod_isFor = true := rfl
-- CoilSlitsModel.set
def E_Mod_set : Env := (true, [(25, 6, 6), (7, 6, 0)], [(.invokestatic 29, 3, x_Mod_in), (.invokevirtual 36, 2, x_Mod_fails), (.invokestatic 130, 2, x_Mod_isFor), (.invokevirtual 113, 1, x_Mod_saves)], [], [], zST, false)
def d_Mod_set : Dn := (sq (blk E_Mod_set [.aload_n 0, .iconst 0, .putfield 25])
  (sq (ite' (cno (cat E_Mod_set [.iload_n 1, .iconst 0, .iconst 3, .invokestatic 29] (.ifCond .ne 9)))
  (rti E_Mod_set [.aload_n 0, .iconst 1, .invokevirtual 36])
  (blk E_Mod_set []))
  (sq (ite' (cno (cat E_Mod_set [.iload_n 1, .iload_n 2, .invokestatic 130] (.ifCond .ne 9)))
  (rti E_Mod_set [.aload_n 0, .iconst 2, .invokevirtual 36])
  (blk E_Mod_set []))
  (rti E_Mod_set [.aload_n 0, .invokevirtual 113, .aload_n 0, .getfield 7, .iload_n 1, .iaload, .istore_n 3, .aload_n 0, .getfield 7, .iload_n 1, .iload_n 2, .iastore, .iload_n 3]))))
def x_Mod_set : Ex := zrv 6 (exb true 4 d_Mod_set)
abbrev r_Mod_set : Room := ({ frames := 2, cells := 0, slots := 0, locals := 43 } : Room)
theorem eo_Mod_set (hw : zWok w) (cx : CX w p s m args c b_Mod_set 4 "CoilSlitsModel") : EnvOk w true p l e r_Mod_set s m args below meth c Q b_Mod_set 4 "CoilSlitsModel" E_Mod_set :=
  ⟨rfl, by decide +kernel, by decide +kernel, by decide +kernel, hw, fun h => absurd h (by decide),
  List.forall_mem_cons.mpr ⟨call_S cx (ct_Mod_in w l hw) tw_871 tw_869 tw_8 tw_870 (by decide +kernel) ⟨Nat.le_of_ble_eq_true rfl, Nat.le_of_ble_eq_true rfl⟩, List.forall_mem_cons.mpr ⟨call_V cx (ct_Mod_fails w l hw) tw_861 tw_858 tw_8 tw_860 tp_28 (ci := 6) (Nat.le_of_ble_eq_true rfl) rfl (by decide +kernel) ⟨Nat.le_of_ble_eq_true rfl, Nat.le_of_ble_eq_true rfl⟩, List.forall_mem_cons.mpr ⟨call_S cx (ct_Mod_isFor w l hw) tw_991 tw_989 tw_8 tw_990 (by decide +kernel) ⟨Nat.le_of_ble_eq_true rfl, Nat.le_of_ble_eq_true rfl⟩, List.forall_mem_cons.mpr ⟨call_V cx (ct_Mod_saves w l hw) tw_875 tw_872 tw_8 tw_874 tp_29 (ci := 6) (Nat.le_of_ble_eq_true rfl) rfl (by decide +kernel) ⟨Nat.le_of_ble_eq_true rfl, Nat.le_of_ble_eq_true rfl⟩, fun q hq => absurd hq List.not_mem_nil⟩⟩⟩⟩⟩
theorem sn_Mod_set (h : MC w true p l e R s m args below meth c Q b_Mod_set 4 "CoilSlitsModel" E_Mod_set 0 0 F (some .int)) : Sn (zK w true p l e R s m args below meth c Q 4) F (fun _ => False) (fun _ => False) 0 0 0 d_Mod_set 0 0 0 := by
  unfold d_Mod_set
  exact (sn_sq (pm := 5) (m_blk h zz (by decide +kernel))
  (sn_sq (pm := 20) (sn_ite (pt := 14) (pf := 20) (sc_no (m_cat h zz (p1 := 11) (tgt := 20) (by decide +kernel) (by decide +kernel) (by decide)))
  (m_rti h zz (p1 := 19) (by decide +kernel) (by decide +kernel) (Nat.zero_le _) (Nat.zero_le _))
  (m_blk h zz rfl))
  (sn_sq (pm := 34) (sn_ite (pt := 28) (pf := 34) (sc_no (m_cat h zz (p1 := 25) (tgt := 34) (by decide +kernel) (by decide +kernel) (by decide)))
  (m_rti h zz (p1 := 33) (by decide +kernel) (by decide +kernel) (Nat.zero_le _) (Nat.zero_le _))
  (m_blk h zz rfl))
  (m_rti h zz (p1 := 53) (by decide +kernel) (by decide +kernel) (Nat.zero_le _) (Nat.zero_le _)))))
theorem ct_Mod_set (w : Wd) (l : Launch) (hw : zWok w) : CT w l y_Mod_set b_Mod_set 4 (some .int) r_Mod_set (exb true 4 d_Mod_set) :=
  ct_plain (by decide +kernel) (fun p e s m args below meth c Q cx hnm => eo_Mod_set hw cx) (fun p e s m args below meth c Q F h => sn_Mod_set h)
theorem q_Mod_set {a : Nat} {fs : List Value} {M : Hp} {nx : Nat} (x0 : Int32) (x1 : Int32) (h : M a = some (cO 6 fs)) : x_Mod_set [.ref a, .int x0, .int x1] (M, nx) = zres (d_Mod_set ([some (.ref a), some (.int x0), some (.int x1), none], [], (M, nx))) := q_ofV [some (.ref a), some (.int x0), some (.int x1), none] h rfl (Nat.le_of_ble_eq_true rfl) (Or.inr rfl)
theorem lc_Mod_set_29 : lookI (eC E_Mod_set) (.invokestatic 29) = some (3, x_Mod_in) := rfl
theorem lc_Mod_set_36 : lookI (eC E_Mod_set) (.invokevirtual 36) = some (2, x_Mod_fails) := rfl
theorem lc_Mod_set_130 : lookI (eC E_Mod_set) (.invokestatic 130) = some (2, x_Mod_isFor) := rfl
theorem lc_Mod_set_113 : lookI (eC E_Mod_set) (.invokevirtual 113) = some (1, x_Mod_saves) := rfl
theorem lf_Mod_set_25 : lookN (eF E_Mod_set) 25 = some (6, 6) := rfl
theorem lf_Mod_set_7 : lookN (eF E_Mod_set) 7 = some (6, 0) := rfl
theorem lb_Mod_set : eB E_Mod_set = true := rfl
theorem lt_Mod_set : eT E_Mod_set = zST := rfl
-- CoilSlitsModel.append
def E_Mod_append : Env := (true, [(25, 6, 6), (134, 6, 5), (19, 6, 4)], [(.invokestatic 29, 3, x_Mod_in), (.invokevirtual 36, 2, x_Mod_fails)], [], [], zST, false)
def d_Mod_append : Dn := (sq (blk E_Mod_append [.aload_n 0, .iconst 0, .putfield 25])
  (sq (ite' (cno (cat E_Mod_append [.iload_n 1, .bipush 33, .bipush 126, .invokestatic 29] (.ifCond .ne 9)))
  (rti E_Mod_append [.aload_n 0, .iconst 1, .invokevirtual 36])
  (blk E_Mod_append []))
  (sq (ite' (cno (cat E_Mod_append [.aload_n 0, .getfield 134, .bipush 60] (.if_icmp .ne 9)))
  (rti E_Mod_append [.aload_n 0, .iconst 2, .invokevirtual 36])
  (blk E_Mod_append []))
  (rti E_Mod_append [.aload_n 0, .getfield 19, .aload_n 0, .getfield 134, .iload_n 1, .iastore, .aload_n 0, .dup, .getfield 134, .iconst 1, .iadd, .putfield 134, .aload_n 0, .getfield 134]))))
def x_Mod_append : Ex := zrv 6 (exb true 2 d_Mod_append)
abbrev r_Mod_append : Room := ({ frames := 1, cells := 0, slots := 0, locals := 22 } : Room)
theorem eo_Mod_append (hw : zWok w) (cx : CX w p s m args c b_Mod_append 2 "CoilSlitsModel") : EnvOk w true p l e r_Mod_append s m args below meth c Q b_Mod_append 2 "CoilSlitsModel" E_Mod_append :=
  ⟨rfl, by decide +kernel, by decide +kernel, by decide +kernel, hw, fun h => absurd h (by decide),
  List.forall_mem_cons.mpr ⟨call_S cx (ct_Mod_in w l hw) tw_871 tw_869 tw_8 tw_870 (by decide +kernel) ⟨Nat.le_of_ble_eq_true rfl, Nat.le_of_ble_eq_true rfl⟩, List.forall_mem_cons.mpr ⟨call_V cx (ct_Mod_fails w l hw) tw_861 tw_858 tw_8 tw_860 tp_28 (ci := 6) (Nat.le_of_ble_eq_true rfl) rfl (by decide +kernel) ⟨Nat.le_of_ble_eq_true rfl, Nat.le_of_ble_eq_true rfl⟩, fun q hq => absurd hq List.not_mem_nil⟩⟩⟩
theorem sn_Mod_append (h : MC w true p l e R s m args below meth c Q b_Mod_append 2 "CoilSlitsModel" E_Mod_append 0 0 F (some .int)) : Sn (zK w true p l e R s m args below meth c Q 2) F (fun _ => False) (fun _ => False) 0 0 0 d_Mod_append 0 0 0 := by
  unfold d_Mod_append
  exact (sn_sq (pm := 5) (m_blk h zz (by decide +kernel))
  (sn_sq (pm := 22) (sn_ite (pt := 16) (pf := 22) (sc_no (m_cat h zz (p1 := 13) (tgt := 22) (by decide +kernel) (by decide +kernel) (by decide)))
  (m_rti h zz (p1 := 21) (by decide +kernel) (by decide +kernel) (Nat.zero_le _) (Nat.zero_le _))
  (m_blk h zz rfl))
  (sn_sq (pm := 37) (sn_ite (pt := 31) (pf := 37) (sc_no (m_cat h zz (p1 := 28) (tgt := 37) (by decide +kernel) (by decide +kernel) (by decide)))
  (m_rti h zz (p1 := 36) (by decide +kernel) (by decide +kernel) (Nat.zero_le _) (Nat.zero_le _))
  (m_blk h zz rfl))
  (m_rti h zz (p1 := 61) (by decide +kernel) (by decide +kernel) (Nat.zero_le _) (Nat.zero_le _)))))
theorem ct_Mod_append (w : Wd) (l : Launch) (hw : zWok w) : CT w l y_Mod_append b_Mod_append 2 (some .int) r_Mod_append (exb true 2 d_Mod_append) :=
  ct_plain (by decide +kernel) (fun p e s m args below meth c Q cx hnm => eo_Mod_append hw cx) (fun p e s m args below meth c Q F h => sn_Mod_append h)
theorem q_Mod_append {a : Nat} {fs : List Value} {M : Hp} {nx : Nat} (x0 : Int32) (h : M a = some (cO 6 fs)) : x_Mod_append [.ref a, .int x0] (M, nx) = zres (d_Mod_append ([some (.ref a), some (.int x0)], [], (M, nx))) := q_ofV [some (.ref a), some (.int x0)] h rfl (Nat.le_of_ble_eq_true rfl) (Or.inr rfl)
theorem lc_Mod_append_29 : lookI (eC E_Mod_append) (.invokestatic 29) = some (3, x_Mod_in) := rfl
theorem lc_Mod_append_36 : lookI (eC E_Mod_append) (.invokevirtual 36) = some (2, x_Mod_fails) := rfl
theorem lf_Mod_append_25 : lookN (eF E_Mod_append) 25 = some (6, 6) := rfl
theorem lf_Mod_append_134 : lookN (eF E_Mod_append) 134 = some (6, 5) := rfl
theorem lf_Mod_append_19 : lookN (eF E_Mod_append) 19 = some (6, 4) := rfl
theorem lb_Mod_append : eB E_Mod_append = true := rfl
-- CoilSlitsModel.clearBuffer
def E_Mod_clearBuffer : Env := (true, [(25, 6, 6), (134, 6, 5)], [], [], [], zST, false)
def d_Mod_clearBuffer : Dn := (rti E_Mod_clearBuffer [.aload_n 0, .iconst 0, .putfield 25, .aload_n 0, .getfield 134, .istore_n 1, .aload_n 0, .iconst 0, .putfield 134, .iload_n 1])
def x_Mod_clearBuffer : Ex := zrv 6 (exb true 2 d_Mod_clearBuffer)
abbrev r_Mod_clearBuffer : Room := ({ frames := 0, cells := 0, slots := 0, locals := 0 } : Room)
theorem eo_Mod_clearBuffer (hw : zWok w) (cx : CX w p s m args c b_Mod_clearBuffer 2 "CoilSlitsModel") : EnvOk w true p l e r_Mod_clearBuffer s m args below meth c Q b_Mod_clearBuffer 2 "CoilSlitsModel" E_Mod_clearBuffer :=
  ⟨rfl, by decide +kernel, by decide +kernel, by decide +kernel, hw, fun h => absurd h (by decide),
  fun q hq => absurd hq List.not_mem_nil⟩
theorem sn_Mod_clearBuffer (h : MC w true p l e R s m args below meth c Q b_Mod_clearBuffer 2 "CoilSlitsModel" E_Mod_clearBuffer 0 0 F (some .int)) : Sn (zK w true p l e R s m args below meth c Q 2) F (fun _ => False) (fun _ => False) 0 0 0 d_Mod_clearBuffer 0 0 0 := by
  unfold d_Mod_clearBuffer
  exact (m_rti h zz (p1 := 16) (by decide +kernel) (by decide +kernel) (Nat.zero_le _) (Nat.zero_le _))
theorem ct_Mod_clearBuffer (w : Wd) (l : Launch) (hw : zWok w) : CT w l y_Mod_clearBuffer b_Mod_clearBuffer 2 (some .int) r_Mod_clearBuffer (exb true 2 d_Mod_clearBuffer) :=
  ct_plain (by decide +kernel) (fun p e s m args below meth c Q cx hnm => eo_Mod_clearBuffer hw cx) (fun p e s m args below meth c Q F h => sn_Mod_clearBuffer h)
theorem q_Mod_clearBuffer {a : Nat} {fs : List Value} {M : Hp} {nx : Nat}  (h : M a = some (cO 6 fs)) : x_Mod_clearBuffer [.ref a] (M, nx) = zres (d_Mod_clearBuffer ([some (.ref a), none], [], (M, nx))) := q_ofV [some (.ref a), none] h rfl (Nat.le_of_ble_eq_true rfl) (Or.inr rfl)
theorem lf_Mod_clearBuffer_25 : lookN (eF E_Mod_clearBuffer) 25 = some (6, 6) := rfl
theorem lf_Mod_clearBuffer_134 : lookN (eF E_Mod_clearBuffer) 134 = some (6, 5) := rfl
theorem lb_Mod_clearBuffer : eB E_Mod_clearBuffer = true := rfl
-- CoilSlitsModel.isNext
def E_Mod_isNext : Env := (true, [(137, 6, 7), (134, 6, 5), (19, 6, 4)], [(.invokestatic 29, 3, x_Mod_in)], [], [], zST, false)
def d_Mod_isNext : Dn := (sq (ite' (can (cno (cat E_Mod_isNext [.aload_n 0, .getfield 137, .aload_n 0, .getfield 134] (.if_icmp .ge 24))) (cno (cat E_Mod_isNext [.aload_n 0, .getfield 19, .aload_n 0, .getfield 137, .iaload, .iload_n 1, .iload_n 2, .invokestatic 29] (.ifCond .eq 7))))
  (blk E_Mod_isNext [.iconst 1])
  (blk E_Mod_isNext [.iconst 0]))
  (rtz E_Mod_isNext []))
def x_Mod_isNext : Ex := zrv 6 (exb true 3 d_Mod_isNext)
abbrev r_Mod_isNext : Room := ({ frames := 1, cells := 0, slots := 0, locals := 22 } : Room)
theorem eo_Mod_isNext (hw : zWok w) (cx : CX w p s m args c b_Mod_isNext 3 "CoilSlitsModel") : EnvOk w true p l e r_Mod_isNext s m args below meth c Q b_Mod_isNext 3 "CoilSlitsModel" E_Mod_isNext :=
  ⟨rfl, by decide +kernel, by decide +kernel, by decide +kernel, hw, fun h => absurd h (by decide),
  List.forall_mem_cons.mpr ⟨call_S cx (ct_Mod_in w l hw) tw_871 tw_869 tw_8 tw_870 (by decide +kernel) ⟨Nat.le_of_ble_eq_true rfl, Nat.le_of_ble_eq_true rfl⟩, fun q hq => absurd hq List.not_mem_nil⟩⟩
theorem sn_Mod_isNext (h : MC w true p l e R s m args below meth c Q b_Mod_isNext 3 "CoilSlitsModel" E_Mod_isNext 0 0 F (some .boolean)) : Sn (zK w true p l e R s m args below meth c Q 3) F (fun _ => False) (fun _ => False) 0 0 0 d_Mod_isNext 0 0 0 := by
  unfold d_Mod_isNext
  exact (sn_sq (pm := 33) (sn_ite (pt := 28) (pf := 32) (sc_an (pm := 11) (sc_no (m_cat h zz (p1 := 8) (tgt := 32) (by decide +kernel) (by decide +kernel) (by decide))) (sc_no (m_cat h zz (p1 := 25) (tgt := 32) (by decide +kernel) (by decide +kernel) (by decide))))
  (sn_goto (pm := 29) (m_blk h zz (by decide +kernel)) (m_goto h (off := 4) (by decide +kernel) (by decide)))
  (m_blk h zz (by decide +kernel)))
  (m_rtz h zz (p1 := 33) (by decide +kernel) (by decide +kernel) (Nat.zero_le _) (Nat.zero_le _)))
theorem ct_Mod_isNext (w : Wd) (l : Launch) (hw : zWok w) : CT w l y_Mod_isNext b_Mod_isNext 3 (some .boolean) r_Mod_isNext (exb true 3 d_Mod_isNext) :=
  ct_plain (by decide +kernel) (fun p e s m args below meth c Q cx hnm => eo_Mod_isNext hw cx) (fun p e s m args below meth c Q F h => sn_Mod_isNext h)
theorem q_Mod_isNext {a : Nat} {fs : List Value} {M : Hp} {nx : Nat} (x0 : Int32) (x1 : Int32) (h : M a = some (cO 6 fs)) : x_Mod_isNext [.ref a, .int x0, .int x1] (M, nx) = zres (d_Mod_isNext ([some (.ref a), some (.int x0), some (.int x1)], [], (M, nx))) := q_ofV [some (.ref a), some (.int x0), some (.int x1)] h rfl (Nat.le_of_ble_eq_true rfl) (Or.inr rfl)
theorem lc_Mod_isNext_29 : lookI (eC E_Mod_isNext) (.invokestatic 29) = some (3, x_Mod_in) := rfl
theorem lf_Mod_isNext_137 : lookN (eF E_Mod_isNext) 137 = some (6, 7) := rfl
theorem lf_Mod_isNext_134 : lookN (eF E_Mod_isNext) 134 = some (6, 5) := rfl
theorem lf_Mod_isNext_19 : lookN (eF E_Mod_isNext) 19 = some (6, 4) := rfl
theorem lb_Mod_isNext : eB E_Mod_isNext = true := rfl
theorem lt_Mod_isNext : eT E_Mod_isNext = zST := rfl
-- CoilSlitsModel.stops
def E_Mod_stops : Env := (true, [(137, 6, 7), (134, 6, 5), (140, 6, 8)], [], [], [], zST, false)
def d_Mod_stops : Dn := (sq (blk E_Mod_stops [.aload_n 0])
  (sq (ite' (cno (cat E_Mod_stops [.aload_n 0, .getfield 137, .aload_n 0, .getfield 134] (.if_icmp .ge 7)))
  (blk E_Mod_stops [.iconst 1])
  (blk E_Mod_stops [.iconst 0]))
  (rtz E_Mod_stops [.putfield 140, .iconst 0])))
def x_Mod_stops : Ex := zrv 6 (exb true 1 d_Mod_stops)
abbrev r_Mod_stops : Room := ({ frames := 0, cells := 0, slots := 0, locals := 0 } : Room)
theorem eo_Mod_stops (hw : zWok w) (cx : CX w p s m args c b_Mod_stops 1 "CoilSlitsModel") : EnvOk w true p l e r_Mod_stops s m args below meth c Q b_Mod_stops 1 "CoilSlitsModel" E_Mod_stops :=
  ⟨rfl, by decide +kernel, by decide +kernel, by decide +kernel, hw, fun h => absurd h (by decide),
  fun q hq => absurd hq List.not_mem_nil⟩
theorem sn_Mod_stops (h : MC w true p l e R s m args below meth c Q b_Mod_stops 1 "CoilSlitsModel" E_Mod_stops 0 0 F (some .boolean)) : Sn (zK w true p l e R s m args below meth c Q 1) F (fun _ => False) (fun _ => False) 0 0 0 d_Mod_stops 0 0 0 := by
  unfold d_Mod_stops
  exact (sn_sq (pm := 1) (m_blk h zz (by decide +kernel))
  (sn_sq (pm := 17) (sn_ite (pt := 12) (pf := 16) (sc_no (m_cat h zz (p1 := 9) (tgt := 16) (by decide +kernel) (by decide +kernel) (by decide)))
  (sn_goto (pm := 13) (m_blk h zz (by decide +kernel)) (m_goto h (off := 4) (by decide +kernel) (by decide)))
  (m_blk h zz (by decide +kernel)))
  (m_rtz h zz (p1 := 21) (by decide +kernel) (by decide +kernel) (Nat.zero_le _) (Nat.zero_le _))))
theorem ct_Mod_stops (w : Wd) (l : Launch) (hw : zWok w) : CT w l y_Mod_stops b_Mod_stops 1 (some .boolean) r_Mod_stops (exb true 1 d_Mod_stops) :=
  ct_plain (by decide +kernel) (fun p e s m args below meth c Q cx hnm => eo_Mod_stops hw cx) (fun p e s m args below meth c Q F h => sn_Mod_stops h)
theorem q_Mod_stops {a : Nat} {fs : List Value} {M : Hp} {nx : Nat}  (h : M a = some (cO 6 fs)) : x_Mod_stops [.ref a] (M, nx) = zres (d_Mod_stops ([some (.ref a)], [], (M, nx))) := q_ofV [some (.ref a)] h rfl (Nat.le_of_ble_eq_true rfl) (Or.inr rfl)
theorem lf_Mod_stops_137 : lookN (eF E_Mod_stops) 137 = some (6, 7) := rfl
theorem lf_Mod_stops_134 : lookN (eF E_Mod_stops) 134 = some (6, 5) := rfl
theorem lf_Mod_stops_140 : lookN (eF E_Mod_stops) 140 = some (6, 8) := rfl
theorem lb_Mod_stops : eB E_Mod_stops = true := rfl
-- CoilSlitsModel.isFigure
def E_Mod_isFigure : Env := (true, [(137, 6, 7), (22, 6, 9), (151, 6, 10), (19, 6, 4)], [(.invokevirtual 144, 3, x_Mod_isNext), (.invokevirtual 147, 1, x_Mod_stops)], [], [], zST, false)
def d_Mod_isFigure : Dn := (sq (blk E_Mod_isFigure [.aload_n 0, .dup, .getfield 137, .iconst 1, .iadd, .putfield 137])
  (sq (ite' (cno (cat E_Mod_isFigure [.aload_n 0, .bipush 48, .iload_n 2, .invokevirtual 144] (.ifCond .ne 8)))
  (rtz E_Mod_isFigure [.aload_n 0, .invokevirtual 147])
  (blk E_Mod_isFigure []))
  (rtz E_Mod_isFigure [.aload_n 0, .getfield 22, .iconst 4, .aload_n 0, .getfield 151, .imul, .iload_n 1, .iadd, .aload_n 0, .getfield 19, .aload_n 0, .getfield 137, .iaload, .bipush 48, .isub, .iastore, .aload_n 0, .dup, .getfield 137, .iconst 1, .iadd, .putfield 137, .iconst 1])))
def x_Mod_isFigure : Ex := zrv 6 (exb true 3 d_Mod_isFigure)
abbrev r_Mod_isFigure : Room := ({ frames := 2, cells := 0, slots := 0, locals := 44 } : Room)
theorem eo_Mod_isFigure (hw : zWok w) (cx : CX w p s m args c b_Mod_isFigure 3 "CoilSlitsModel") : EnvOk w true p l e r_Mod_isFigure s m args below meth c Q b_Mod_isFigure 3 "CoilSlitsModel" E_Mod_isFigure :=
  ⟨rfl, by decide +kernel, by decide +kernel, by decide +kernel, hw, fun h => absurd h (by decide),
  List.forall_mem_cons.mpr ⟨call_V cx (ct_Mod_isNext w l hw) tw_1019 tw_1016 tw_8 tw_1018 tp_35 (ci := 6) (Nat.le_of_ble_eq_true rfl) rfl (by decide +kernel) ⟨Nat.le_of_ble_eq_true rfl, Nat.le_of_ble_eq_true rfl⟩, List.forall_mem_cons.mpr ⟨call_V cx (ct_Mod_stops w l hw) tw_1023 tw_1020 tw_8 tw_1022 tp_36 (ci := 6) (Nat.le_of_ble_eq_true rfl) rfl (by decide +kernel) ⟨Nat.le_of_ble_eq_true rfl, Nat.le_of_ble_eq_true rfl⟩, fun q hq => absurd hq List.not_mem_nil⟩⟩⟩
theorem sn_Mod_isFigure (h : MC w true p l e R s m args below meth c Q b_Mod_isFigure 3 "CoilSlitsModel" E_Mod_isFigure 0 0 F (some .boolean)) : Sn (zK w true p l e R s m args below meth c Q 3) F (fun _ => False) (fun _ => False) 0 0 0 d_Mod_isFigure 0 0 0 := by
  unfold d_Mod_isFigure
  exact (sn_sq (pm := 10) (m_blk h zz (by decide +kernel))
  (sn_sq (pm := 25) (sn_ite (pt := 20) (pf := 25) (sc_no (m_cat h zz (p1 := 17) (tgt := 25) (by decide +kernel) (by decide +kernel) (by decide)))
  (m_rtz h zz (p1 := 24) (by decide +kernel) (by decide +kernel) (Nat.zero_le _) (Nat.zero_le _))
  (m_blk h zz rfl))
  (m_rtz h zz (p1 := 61) (by decide +kernel) (by decide +kernel) (Nat.zero_le _) (Nat.zero_le _))))
theorem ct_Mod_isFigure (w : Wd) (l : Launch) (hw : zWok w) : CT w l y_Mod_isFigure b_Mod_isFigure 3 (some .boolean) r_Mod_isFigure (exb true 3 d_Mod_isFigure) :=
  ct_plain (by decide +kernel) (fun p e s m args below meth c Q cx hnm => eo_Mod_isFigure hw cx) (fun p e s m args below meth c Q F h => sn_Mod_isFigure h)
theorem q_Mod_isFigure {a : Nat} {fs : List Value} {M : Hp} {nx : Nat} (x0 : Int32) (x1 : Int32) (h : M a = some (cO 6 fs)) : x_Mod_isFigure [.ref a, .int x0, .int x1] (M, nx) = zres (d_Mod_isFigure ([some (.ref a), some (.int x0), some (.int x1)], [], (M, nx))) := q_ofV [some (.ref a), some (.int x0), some (.int x1)] h rfl (Nat.le_of_ble_eq_true rfl) (Or.inr rfl)
theorem lc_Mod_isFigure_144 : lookI (eC E_Mod_isFigure) (.invokevirtual 144) = some (3, x_Mod_isNext) := rfl
theorem lc_Mod_isFigure_147 : lookI (eC E_Mod_isFigure) (.invokevirtual 147) = some (1, x_Mod_stops) := rfl
theorem lf_Mod_isFigure_137 : lookN (eF E_Mod_isFigure) 137 = some (6, 7) := rfl
theorem lf_Mod_isFigure_22 : lookN (eF E_Mod_isFigure) 22 = some (6, 9) := rfl
theorem lf_Mod_isFigure_151 : lookN (eF E_Mod_isFigure) 151 = some (6, 10) := rfl
theorem lf_Mod_isFigure_19 : lookN (eF E_Mod_isFigure) 19 = some (6, 4) := rfl
theorem lb_Mod_isFigure : eB E_Mod_isFigure = true := rfl
theorem lt_Mod_isFigure : eT E_Mod_isFigure = zST := rfl
-- CoilSlitsModel.isWidth
def E_Mod_isWidth : Env := (true, [(19, 6, 4), (137, 6, 7), (22, 6, 9), (151, 6, 10)], [(.invokevirtual 144, 3, x_Mod_isNext), (.invokevirtual 147, 1, x_Mod_stops)], [], [], zST, false)
def d_Mod_isWidth : Dn := (sq (ite' (cno (cat E_Mod_isWidth [.aload_n 0, .bipush 49, .bipush 57, .invokevirtual 144] (.ifCond .ne 8)))
  (rtz E_Mod_isWidth [.aload_n 0, .invokevirtual 147])
  (blk E_Mod_isWidth []))
  (sq (blk E_Mod_isWidth [.iconst 0, .istore_n 1])
  (sq (lop (can (cno (cat E_Mod_isWidth [.aload_n 0, .bipush 48, .bipush 57, .invokevirtual 144] (.ifCond .eq 57))) (cno (cat E_Mod_isWidth [.bipush 10, .iload_n 1, .imul, .aload_n 0, .getfield 19, .aload_n 0, .getfield 137, .iaload, .iadd, .bipush 48, .isub, .sipush 200] (.if_icmp .gt 34))))
  (blk E_Mod_isWidth [.bipush 10, .iload_n 1, .imul, .aload_n 0, .getfield 19, .aload_n 0, .getfield 137, .iaload, .iadd, .bipush 48, .isub, .istore_n 1, .aload_n 0, .dup, .getfield 137, .iconst 1, .iadd, .putfield 137])
  (blk E_Mod_isWidth []) zFU)
  (rtz E_Mod_isWidth [.aload_n 0, .getfield 22, .iconst 4, .aload_n 0, .getfield 151, .imul, .iload_n 1, .iastore, .iconst 1]))))
def x_Mod_isWidth : Ex := zrv 6 (exb true 2 d_Mod_isWidth)
abbrev r_Mod_isWidth : Room := ({ frames := 2, cells := 0, slots := 0, locals := 44 } : Room)
theorem eo_Mod_isWidth (hw : zWok w) (cx : CX w p s m args c b_Mod_isWidth 2 "CoilSlitsModel") : EnvOk w true p l e r_Mod_isWidth s m args below meth c Q b_Mod_isWidth 2 "CoilSlitsModel" E_Mod_isWidth :=
  ⟨rfl, by decide +kernel, by decide +kernel, by decide +kernel, hw, fun h => absurd h (by decide),
  List.forall_mem_cons.mpr ⟨call_V cx (ct_Mod_isNext w l hw) tw_1019 tw_1016 tw_8 tw_1018 tp_35 (ci := 6) (Nat.le_of_ble_eq_true rfl) rfl (by decide +kernel) ⟨Nat.le_of_ble_eq_true rfl, Nat.le_of_ble_eq_true rfl⟩, List.forall_mem_cons.mpr ⟨call_V cx (ct_Mod_stops w l hw) tw_1023 tw_1020 tw_8 tw_1022 tp_36 (ci := 6) (Nat.le_of_ble_eq_true rfl) rfl (by decide +kernel) ⟨Nat.le_of_ble_eq_true rfl, Nat.le_of_ble_eq_true rfl⟩, fun q hq => absurd hq List.not_mem_nil⟩⟩⟩
theorem sn_Mod_isWidth (h : MC w true p l e R s m args below meth c Q b_Mod_isWidth 2 "CoilSlitsModel" E_Mod_isWidth 0 0 F (some .boolean)) : Sn (zK w true p l e R s m args below meth c Q 2) F (fun _ => False) (fun _ => False) 0 0 0 d_Mod_isWidth 0 0 0 := by
  unfold d_Mod_isWidth
  exact (sn_sq (pm := 16) (sn_ite (pt := 11) (pf := 16) (sc_no (m_cat h zz (p1 := 8) (tgt := 16) (by decide +kernel) (by decide +kernel) (by decide)))
  (m_rtz h zz (p1 := 15) (by decide +kernel) (by decide +kernel) (Nat.zero_le _) (Nat.zero_le _))
  (m_blk h zz rfl))
  (sn_sq (pm := 18) (m_blk h zz (by decide +kernel))
  (sn_sq (pm := 83) (sn_lop (pt := 52) (pu := 80) (p2 := 80) (px := 83) (kb2 := fun _ => False) (kc2 := fun _ => False) (sc_an (pm := 29) (sc_no (m_cat h zz (p1 := 26) (tgt := 83) (by decide +kernel) (by decide +kernel) (by decide))) (sc_no (m_cat h zz (p1 := 49) (tgt := 83) (by decide +kernel) (by decide +kernel) (by decide))))
  (m_blk h zz (by decide +kernel))
  (m_blk h zz rfl) (m_goto h (off := (-62)) (by decide +kernel) (by decide)) zFU)
  (m_rtz h zz (p1 := 96) (by decide +kernel) (by decide +kernel) (Nat.zero_le _) (Nat.zero_le _)))))
theorem ct_Mod_isWidth (w : Wd) (l : Launch) (hw : zWok w) : CT w l y_Mod_isWidth b_Mod_isWidth 2 (some .boolean) r_Mod_isWidth (exb true 2 d_Mod_isWidth) :=
  ct_plain (by decide +kernel) (fun p e s m args below meth c Q cx hnm => eo_Mod_isWidth hw cx) (fun p e s m args below meth c Q F h => sn_Mod_isWidth h)
theorem q_Mod_isWidth {a : Nat} {fs : List Value} {M : Hp} {nx : Nat}  (h : M a = some (cO 6 fs)) : x_Mod_isWidth [.ref a] (M, nx) = zres (d_Mod_isWidth ([some (.ref a), none], [], (M, nx))) := q_ofV [some (.ref a), none] h rfl (Nat.le_of_ble_eq_true rfl) (Or.inr rfl)
theorem lc_Mod_isWidth_144 : lookI (eC E_Mod_isWidth) (.invokevirtual 144) = some (3, x_Mod_isNext) := rfl
theorem lc_Mod_isWidth_147 : lookI (eC E_Mod_isWidth) (.invokevirtual 147) = some (1, x_Mod_stops) := rfl
theorem lf_Mod_isWidth_19 : lookN (eF E_Mod_isWidth) 19 = some (6, 4) := rfl
theorem lf_Mod_isWidth_137 : lookN (eF E_Mod_isWidth) 137 = some (6, 7) := rfl
theorem lf_Mod_isWidth_22 : lookN (eF E_Mod_isWidth) 22 = some (6, 9) := rfl
theorem lf_Mod_isWidth_151 : lookN (eF E_Mod_isWidth) 151 = some (6, 10) := rfl
theorem lb_Mod_isWidth : eB E_Mod_isWidth = true := rfl
theorem lt_Mod_isWidth : eT E_Mod_isWidth = zST := rfl
-- CoilSlitsModel.isPart
def E_Mod_isPart : Env := (true, [(22, 6, 9), (151, 6, 10)], [(.invokevirtual 154, 1, x_Mod_isWidth), (.invokevirtual 144, 3, x_Mod_isNext), (.invokevirtual 147, 1, x_Mod_stops), (.invokevirtual 157, 3, x_Mod_isFigure)], [], [], zST, false)
def d_Mod_isPart : Dn := (sq (blk E_Mod_isPart [.aload_n 0, .getfield 22, .iconst 4, .aload_n 0, .getfield 151, .imul, .iconst 2, .iadd, .iconst 5, .iastore, .aload_n 0, .getfield 22, .iconst 4, .aload_n 0, .getfield 151, .imul, .iconst 3, .iadd, .iconst (-1), .iastore])
  (sq (ite' (cno (cat E_Mod_isPart [.aload_n 0, .invokevirtual 154] (.ifCond .ne 5)))
  (rtz E_Mod_isPart [.iconst 0])
  (blk E_Mod_isPart []))
  (sq (ite' (cno (cat E_Mod_isPart [.aload_n 0, .bipush 103, .bipush 103, .invokevirtual 144] (.ifCond .ne 8)))
  (rtz E_Mod_isPart [.aload_n 0, .invokevirtual 147])
  (blk E_Mod_isPart []))
  (sq (ite' (cno (cat E_Mod_isPart [.aload_n 0, .iconst 1, .bipush 51, .invokevirtual 157] (.ifCond .ne 5)))
  (rtz E_Mod_isPart [.iconst 0])
  (blk E_Mod_isPart []))
  (sq (ite' (can (cno (cat E_Mod_isPart [.aload_n 0, .bipush 113, .bipush 113, .invokevirtual 144] (.ifCond .eq 15))) (cno (cat E_Mod_isPart [.aload_n 0, .iconst 2, .bipush 57, .invokevirtual 157] (.ifCond .ne 5))))
  (rtz E_Mod_isPart [.iconst 0])
  (blk E_Mod_isPart []))
  (sq (ite' (cor (cat E_Mod_isPart [.aload_n 0, .bipush 115, .bipush 115, .invokevirtual 144] (.ifCond .eq 13)) (cno (cat E_Mod_isPart [.aload_n 0, .iconst 3, .bipush 53, .invokevirtual 157] (.ifCond .eq 7))))
  (blk E_Mod_isPart [.iconst 1])
  (blk E_Mod_isPart [.iconst 0]))
  (rtz E_Mod_isPart [])))))))
def x_Mod_isPart : Ex := zrv 6 (exb true 1 d_Mod_isPart)
abbrev r_Mod_isPart : Room := ({ frames := 3, cells := 0, slots := 0, locals := 66 } : Room)
theorem eo_Mod_isPart (hw : zWok w) (cx : CX w p s m args c b_Mod_isPart 1 "CoilSlitsModel") : EnvOk w true p l e r_Mod_isPart s m args below meth c Q b_Mod_isPart 1 "CoilSlitsModel" E_Mod_isPart :=
  ⟨rfl, by decide +kernel, by decide +kernel, by decide +kernel, hw, fun h => absurd h (by decide),
  List.forall_mem_cons.mpr ⟨call_V cx (ct_Mod_isWidth w l hw) tw_1015 tw_1012 tw_8 tw_1014 tp_34 (ci := 6) (Nat.le_of_ble_eq_true rfl) rfl (by decide +kernel) ⟨Nat.le_of_ble_eq_true rfl, Nat.le_of_ble_eq_true rfl⟩, List.forall_mem_cons.mpr ⟨call_V cx (ct_Mod_isNext w l hw) tw_1019 tw_1016 tw_8 tw_1018 tp_35 (ci := 6) (Nat.le_of_ble_eq_true rfl) rfl (by decide +kernel) ⟨Nat.le_of_ble_eq_true rfl, Nat.le_of_ble_eq_true rfl⟩, List.forall_mem_cons.mpr ⟨call_V cx (ct_Mod_stops w l hw) tw_1023 tw_1020 tw_8 tw_1022 tp_36 (ci := 6) (Nat.le_of_ble_eq_true rfl) rfl (by decide +kernel) ⟨Nat.le_of_ble_eq_true rfl, Nat.le_of_ble_eq_true rfl⟩, List.forall_mem_cons.mpr ⟨call_V cx (ct_Mod_isFigure w l hw) tw_1027 tw_1024 tw_8 tw_1026 tp_37 (ci := 6) (Nat.le_of_ble_eq_true rfl) rfl (by decide +kernel) ⟨Nat.le_of_ble_eq_true rfl, Nat.le_of_ble_eq_true rfl⟩, fun q hq => absurd hq List.not_mem_nil⟩⟩⟩⟩⟩
theorem sn_Mod_isPart (h : MC w true p l e R s m args below meth c Q b_Mod_isPart 1 "CoilSlitsModel" E_Mod_isPart 0 0 F (some .boolean)) : Sn (zK w true p l e R s m args below meth c Q 1) F (fun _ => False) (fun _ => False) 0 0 0 d_Mod_isPart 0 0 0 := by
  unfold d_Mod_isPart
  exact (sn_sq (pm := 28) (m_blk h zz (by decide +kernel))
  (sn_sq (pm := 37) (sn_ite (pt := 35) (pf := 37) (sc_no (m_cat h zz (p1 := 32) (tgt := 37) (by decide +kernel) (by decide +kernel) (by decide)))
  (m_rtz h zz (p1 := 36) (by decide +kernel) (by decide +kernel) (Nat.zero_le _) (Nat.zero_le _))
  (m_blk h zz rfl))
  (sn_sq (pm := 53) (sn_ite (pt := 48) (pf := 53) (sc_no (m_cat h zz (p1 := 45) (tgt := 53) (by decide +kernel) (by decide +kernel) (by decide)))
  (m_rtz h zz (p1 := 52) (by decide +kernel) (by decide +kernel) (Nat.zero_le _) (Nat.zero_le _))
  (m_blk h zz rfl))
  (sn_sq (pm := 65) (sn_ite (pt := 63) (pf := 65) (sc_no (m_cat h zz (p1 := 60) (tgt := 65) (by decide +kernel) (by decide +kernel) (by decide)))
  (m_rtz h zz (p1 := 64) (by decide +kernel) (by decide +kernel) (Nat.zero_le _) (Nat.zero_le _))
  (m_blk h zz rfl))
  (sn_sq (pm := 88) (sn_ite (pt := 86) (pf := 88) (sc_an (pm := 76) (sc_no (m_cat h zz (p1 := 73) (tgt := 88) (by decide +kernel) (by decide +kernel) (by decide))) (sc_no (m_cat h zz (p1 := 83) (tgt := 88) (by decide +kernel) (by decide +kernel) (by decide))))
  (m_rtz h zz (p1 := 87) (by decide +kernel) (by decide +kernel) (Nat.zero_le _) (Nat.zero_le _))
  (m_blk h zz rfl))
  (sn_sq (pm := 114) (sn_ite (pt := 109) (pf := 113) (sc_or (pm := 99) (m_cat h zz (p1 := 96) (tgt := 109) (by decide +kernel) (by decide +kernel) (by decide)) (sc_no (m_cat h zz (p1 := 106) (tgt := 113) (by decide +kernel) (by decide +kernel) (by decide))))
  (sn_goto (pm := 110) (m_blk h zz (by decide +kernel)) (m_goto h (off := 4) (by decide +kernel) (by decide)))
  (m_blk h zz (by decide +kernel)))
  (m_rtz h zz (p1 := 114) (by decide +kernel) (by decide +kernel) (Nat.zero_le _) (Nat.zero_le _))))))))
theorem ct_Mod_isPart (w : Wd) (l : Launch) (hw : zWok w) : CT w l y_Mod_isPart b_Mod_isPart 1 (some .boolean) r_Mod_isPart (exb true 1 d_Mod_isPart) :=
  ct_plain (by decide +kernel) (fun p e s m args below meth c Q cx hnm => eo_Mod_isPart hw cx) (fun p e s m args below meth c Q F h => sn_Mod_isPart h)
theorem q_Mod_isPart {a : Nat} {fs : List Value} {M : Hp} {nx : Nat}  (h : M a = some (cO 6 fs)) : x_Mod_isPart [.ref a] (M, nx) = zres (d_Mod_isPart ([some (.ref a)], [], (M, nx))) := q_ofV [some (.ref a)] h rfl (Nat.le_of_ble_eq_true rfl) (Or.inr rfl)
theorem lc_Mod_isPart_154 : lookI (eC E_Mod_isPart) (.invokevirtual 154) = some (1, x_Mod_isWidth) := rfl
theorem lc_Mod_isPart_144 : lookI (eC E_Mod_isPart) (.invokevirtual 144) = some (3, x_Mod_isNext) := rfl
theorem lc_Mod_isPart_147 : lookI (eC E_Mod_isPart) (.invokevirtual 147) = some (1, x_Mod_stops) := rfl
theorem lc_Mod_isPart_157 : lookI (eC E_Mod_isPart) (.invokevirtual 157) = some (3, x_Mod_isFigure) := rfl
theorem lf_Mod_isPart_22 : lookN (eF E_Mod_isPart) 22 = some (6, 9) := rfl
theorem lf_Mod_isPart_151 : lookN (eF E_Mod_isPart) 151 = some (6, 10) := rfl
theorem lb_Mod_isPart : eB E_Mod_isPart = true := rfl
-- CoilSlitsModel.isText
def E_Mod_isText : Env := (true, [(137, 6, 7), (151, 6, 10), (140, 6, 8), (134, 6, 5)], [(.invokevirtual 160, 1, x_Mod_isPart), (.invokevirtual 144, 3, x_Mod_isNext)], [], [], zST, false)
def d_Mod_isText : Dn := (sq (blk E_Mod_isText [.aload_n 0, .iconst 0, .putfield 137, .aload_n 0, .iconst 0, .putfield 151, .aload_n 0, .iconst 0, .putfield 140, .iconst 1, .istore_n 1])
  (sq (lop (cno (cat E_Mod_isText [.iload_n 1] (.ifCond .eq 52)))
  (sq (ite' (cno (cat E_Mod_isText [.aload_n 0, .invokevirtual 160] (.ifCond .ne 5)))
  (rtz E_Mod_isText [.iconst 0])
  (blk E_Mod_isText []))
  (sq (blk E_Mod_isText [.aload_n 0, .dup, .getfield 151, .iconst 1, .iadd, .putfield 151, .aload_n 0, .bipush 59, .bipush 59, .invokevirtual 144, .istore_n 1, .aload_n 0, .dup, .getfield 137])
  (sq (ite' (cno (cat E_Mod_isText [.iload_n 1] (.ifCond .eq 7)))
  (blk E_Mod_isText [.iconst 1])
  (blk E_Mod_isText [.iconst 0]))
  (blk E_Mod_isText [.iadd, .putfield 137]))))
  (blk E_Mod_isText []) zFU)
  (sq (blk E_Mod_isText [.aload_n 0])
  (sq (ite' (cno (cat E_Mod_isText [.aload_n 0, .getfield 137, .aload_n 0, .getfield 134] (.if_icmp .ge 7)))
  (blk E_Mod_isText [.iconst 1])
  (blk E_Mod_isText [.iconst 0]))
  (sq (blk E_Mod_isText [.putfield 140])
  (sq (ite' (cno (cat E_Mod_isText [.aload_n 0, .getfield 137, .aload_n 0, .getfield 134] (.if_icmp .ne 7)))
  (blk E_Mod_isText [.iconst 1])
  (blk E_Mod_isText [.iconst 0]))
  (rtz E_Mod_isText [])))))))
def x_Mod_isText : Ex := zrv 6 (exb true 2 d_Mod_isText)
abbrev r_Mod_isText : Room := ({ frames := 4, cells := 0, slots := 0, locals := 86 } : Room)
theorem eo_Mod_isText (hw : zWok w) (cx : CX w p s m args c b_Mod_isText 2 "CoilSlitsModel") : EnvOk w true p l e r_Mod_isText s m args below meth c Q b_Mod_isText 2 "CoilSlitsModel" E_Mod_isText :=
  ⟨rfl, by decide +kernel, by decide +kernel, by decide +kernel, hw, fun h => absurd h (by decide),
  List.forall_mem_cons.mpr ⟨call_V cx (ct_Mod_isPart w l hw) tw_1011 tw_1008 tw_8 tw_1010 tp_33 (ci := 6) (Nat.le_of_ble_eq_true rfl) rfl (by decide +kernel) ⟨Nat.le_of_ble_eq_true rfl, Nat.le_of_ble_eq_true rfl⟩, List.forall_mem_cons.mpr ⟨call_V cx (ct_Mod_isNext w l hw) tw_1019 tw_1016 tw_8 tw_1018 tp_35 (ci := 6) (Nat.le_of_ble_eq_true rfl) rfl (by decide +kernel) ⟨Nat.le_of_ble_eq_true rfl, Nat.le_of_ble_eq_true rfl⟩, fun q hq => absurd hq List.not_mem_nil⟩⟩⟩
theorem sn_Mod_isText (h : MC w true p l e R s m args below meth c Q b_Mod_isText 2 "CoilSlitsModel" E_Mod_isText 0 0 F (some .boolean)) : Sn (zK w true p l e R s m args below meth c Q 2) F (fun _ => False) (fun _ => False) 0 0 0 d_Mod_isText 0 0 0 := by
  unfold d_Mod_isText
  exact (sn_sq (pm := 17) (m_blk h zz (by decide +kernel))
  (sn_sq (pm := 70) (sn_lop (pt := 21) (pu := 67) (p2 := 67) (px := 70) (kb2 := fun _ => False) (kc2 := fun _ => False) (sc_no (m_cat h zz (p1 := 18) (tgt := 70) (by decide +kernel) (by decide +kernel) (by decide)))
  (sn_sq (pm := 30) (sn_ite (pt := 28) (pf := 30) (sc_no (m_cat h zz (p1 := 25) (tgt := 30) (by decide +kernel) (by decide +kernel) (by decide)))
  (m_rtz h zz (p1 := 29) (by decide +kernel) (by decide +kernel) (Nat.zero_le _) (Nat.zero_le _))
  (m_blk h zz rfl))
  (sn_sq (pm := 54) (m_blk h zz (by decide +kernel))
  (sn_sq (pm := 63) (sn_ite (pt := 58) (pf := 62) (sc_no (m_cat h zz (p1 := 55) (tgt := 62) (by decide +kernel) (by decide +kernel) (by decide)))
  (sn_goto (pm := 59) (m_blk h zz (by decide +kernel)) (m_goto h (off := 4) (by decide +kernel) (by decide)))
  (m_blk h zz (by decide +kernel)))
  (m_blk h zz (by decide +kernel)))))
  (m_blk h zz rfl) (m_goto h (off := (-50)) (by decide +kernel) (by decide)) zFU)
  (sn_sq (pm := 71) (m_blk h zz (by decide +kernel))
  (sn_sq (pm := 87) (sn_ite (pt := 82) (pf := 86) (sc_no (m_cat h zz (p1 := 79) (tgt := 86) (by decide +kernel) (by decide +kernel) (by decide)))
  (sn_goto (pm := 83) (m_blk h zz (by decide +kernel)) (m_goto h (off := 4) (by decide +kernel) (by decide)))
  (m_blk h zz (by decide +kernel)))
  (sn_sq (pm := 90) (m_blk h zz (by decide +kernel))
  (sn_sq (pm := 106) (sn_ite (pt := 101) (pf := 105) (sc_no (m_cat h zz (p1 := 98) (tgt := 105) (by decide +kernel) (by decide +kernel) (by decide)))
  (sn_goto (pm := 102) (m_blk h zz (by decide +kernel)) (m_goto h (off := 4) (by decide +kernel) (by decide)))
  (m_blk h zz (by decide +kernel)))
  (m_rtz h zz (p1 := 106) (by decide +kernel) (by decide +kernel) (Nat.zero_le _) (Nat.zero_le _))))))))
theorem ct_Mod_isText (w : Wd) (l : Launch) (hw : zWok w) : CT w l y_Mod_isText b_Mod_isText 2 (some .boolean) r_Mod_isText (exb true 2 d_Mod_isText) :=
  ct_plain (by decide +kernel) (fun p e s m args below meth c Q cx hnm => eo_Mod_isText hw cx) (fun p e s m args below meth c Q F h => sn_Mod_isText h)
theorem q_Mod_isText {a : Nat} {fs : List Value} {M : Hp} {nx : Nat}  (h : M a = some (cO 6 fs)) : x_Mod_isText [.ref a] (M, nx) = zres (d_Mod_isText ([some (.ref a), none], [], (M, nx))) := q_ofV [some (.ref a), none] h rfl (Nat.le_of_ble_eq_true rfl) (Or.inr rfl)
theorem lc_Mod_isText_160 : lookI (eC E_Mod_isText) (.invokevirtual 160) = some (1, x_Mod_isPart) := rfl
theorem lc_Mod_isText_144 : lookI (eC E_Mod_isText) (.invokevirtual 144) = some (3, x_Mod_isNext) := rfl
theorem lf_Mod_isText_137 : lookN (eF E_Mod_isText) 137 = some (6, 7) := rfl
theorem lf_Mod_isText_151 : lookN (eF E_Mod_isText) 151 = some (6, 10) := rfl
theorem lf_Mod_isText_140 : lookN (eF E_Mod_isText) 140 = some (6, 8) := rfl
theorem lf_Mod_isText_134 : lookN (eF E_Mod_isText) 134 = some (6, 5) := rfl
theorem lb_Mod_isText : eB E_Mod_isText = true := rfl
-- CoilSlitsModel.firstError
def E_Mod_firstError : Env := (true, [(25, 6, 6), (140, 6, 8), (137, 6, 7), (134, 6, 5)], [(.invokevirtual 163, 1, x_Mod_isText)], [], [], zST, false)
def d_Mod_firstError : Dn := (sq (blk E_Mod_firstError [.aload_n 0, .iconst 0, .putfield 25, .aload_n 0, .invokevirtual 163, .istore_n 1])
  (sq (ite' (can (cno (cat E_Mod_firstError [.iload_n 1] (.ifCond .ne 17))) (cno (cat E_Mod_firstError [.aload_n 0, .getfield 140] (.ifCond .eq 10))))
  (blk E_Mod_firstError [.aload_n 0, .getfield 137])
  (blk E_Mod_firstError [.aload_n 0, .getfield 134]))
  (rti E_Mod_firstError [])))
def x_Mod_firstError : Ex := zrv 6 (exb true 2 d_Mod_firstError)
abbrev r_Mod_firstError : Room := ({ frames := 5, cells := 0, slots := 0, locals := 107 } : Room)
theorem eo_Mod_firstError (hw : zWok w) (cx : CX w p s m args c b_Mod_firstError 2 "CoilSlitsModel") : EnvOk w true p l e r_Mod_firstError s m args below meth c Q b_Mod_firstError 2 "CoilSlitsModel" E_Mod_firstError :=
  ⟨rfl, by decide +kernel, by decide +kernel, by decide +kernel, hw, fun h => absurd h (by decide),
  List.forall_mem_cons.mpr ⟨call_V cx (ct_Mod_isText w l hw) tw_1007 tw_1004 tw_8 tw_1006 tp_32 (ci := 6) (Nat.le_of_ble_eq_true rfl) rfl (by decide +kernel) ⟨Nat.le_of_ble_eq_true rfl, Nat.le_of_ble_eq_true rfl⟩, fun q hq => absurd hq List.not_mem_nil⟩⟩
theorem sn_Mod_firstError (h : MC w true p l e R s m args below meth c Q b_Mod_firstError 2 "CoilSlitsModel" E_Mod_firstError 0 0 F (some .int)) : Sn (zK w true p l e R s m args below meth c Q 2) F (fun _ => False) (fun _ => False) 0 0 0 d_Mod_firstError 0 0 0 := by
  unfold d_Mod_firstError
  exact (sn_sq (pm := 10) (m_blk h zz (by decide +kernel))
  (sn_sq (pm := 32) (sn_ite (pt := 21) (pf := 28) (sc_an (pm := 14) (sc_no (m_cat h zz (p1 := 11) (tgt := 28) (by decide +kernel) (by decide +kernel) (by decide))) (sc_no (m_cat h zz (p1 := 18) (tgt := 28) (by decide +kernel) (by decide +kernel) (by decide))))
  (sn_goto (pm := 25) (m_blk h zz (by decide +kernel)) (m_goto h (off := 7) (by decide +kernel) (by decide)))
  (m_blk h zz (by decide +kernel)))
  (m_rti h zz (p1 := 32) (by decide +kernel) (by decide +kernel) (Nat.zero_le _) (Nat.zero_le _))))
theorem ct_Mod_firstError (w : Wd) (l : Launch) (hw : zWok w) : CT w l y_Mod_firstError b_Mod_firstError 2 (some .int) r_Mod_firstError (exb true 2 d_Mod_firstError) :=
  ct_plain (by decide +kernel) (fun p e s m args below meth c Q cx hnm => eo_Mod_firstError hw cx) (fun p e s m args below meth c Q F h => sn_Mod_firstError h)
theorem q_Mod_firstError {a : Nat} {fs : List Value} {M : Hp} {nx : Nat}  (h : M a = some (cO 6 fs)) : x_Mod_firstError [.ref a] (M, nx) = zres (d_Mod_firstError ([some (.ref a), none], [], (M, nx))) := q_ofV [some (.ref a), none] h rfl (Nat.le_of_ble_eq_true rfl) (Or.inr rfl)
theorem lc_Mod_firstError_163 : lookI (eC E_Mod_firstError) (.invokevirtual 163) = some (1, x_Mod_isText) := rfl
theorem lf_Mod_firstError_25 : lookN (eF E_Mod_firstError) 25 = some (6, 6) := rfl
theorem lf_Mod_firstError_140 : lookN (eF E_Mod_firstError) 140 = some (6, 8) := rfl
theorem lf_Mod_firstError_137 : lookN (eF E_Mod_firstError) 137 = some (6, 7) := rfl
theorem lf_Mod_firstError_134 : lookN (eF E_Mod_firstError) 134 = some (6, 5) := rfl
theorem lb_Mod_firstError : eB E_Mod_firstError = true := rfl
-- CoilSlitsModel.lowest
def E_Mod_lowest : Env := (true, [(7, 6, 0)], [], [], [], zST, false)
def d_Mod_lowest : Dn := (sq (blk E_Mod_lowest [.iconst 0, .istore_n 1, .iconst 1, .istore_n 2])
  (sq (lop (cno (cat E_Mod_lowest [.iload_n 2, .bipush 6] (.if_icmp .ge 36)))
  (sq (ite' (cno (cat E_Mod_lowest [.aload_n 0, .getfield 7, .bipush 16, .iload_n 2, .iadd, .iaload, .aload_n 0, .getfield 7, .bipush 16, .iload_n 1, .iadd, .iaload] (.if_icmp .ge 7)))
  (blk E_Mod_lowest [.iload_n 2])
  (blk E_Mod_lowest [.iload_n 1]))
  (blk E_Mod_lowest [.istore_n 1, .iinc 2 1]))
  (blk E_Mod_lowest []) zFU)
  (rti E_Mod_lowest [.iload_n 1])))
def x_Mod_lowest : Ex := zrv 6 (exb true 3 d_Mod_lowest)
abbrev r_Mod_lowest : Room := ({ frames := 0, cells := 0, slots := 0, locals := 0 } : Room)
theorem eo_Mod_lowest (hw : zWok w) (cx : CX w p s m args c b_Mod_lowest 3 "CoilSlitsModel") : EnvOk w true p l e r_Mod_lowest s m args below meth c Q b_Mod_lowest 3 "CoilSlitsModel" E_Mod_lowest :=
  ⟨rfl, by decide +kernel, by decide +kernel, by decide +kernel, hw, fun h => absurd h (by decide),
  fun q hq => absurd hq List.not_mem_nil⟩
theorem sn_Mod_lowest (h : MC w true p l e R s m args below meth c Q b_Mod_lowest 3 "CoilSlitsModel" E_Mod_lowest 0 0 F (some .int)) : Sn (zK w true p l e R s m args below meth c Q 3) F (fun _ => False) (fun _ => False) 0 0 0 d_Mod_lowest 0 0 0 := by
  unfold d_Mod_lowest
  exact (sn_sq (pm := 4) (m_blk h zz (by decide +kernel))
  (sn_sq (pm := 43) (sn_lop (pt := 10) (pu := 40) (p2 := 40) (px := 43) (kb2 := fun _ => False) (kc2 := fun _ => False) (sc_no (m_cat h zz (p1 := 7) (tgt := 43) (by decide +kernel) (by decide +kernel) (by decide)))
  (sn_sq (pm := 36) (sn_ite (pt := 31) (pf := 35) (sc_no (m_cat h zz (p1 := 28) (tgt := 35) (by decide +kernel) (by decide +kernel) (by decide)))
  (sn_goto (pm := 32) (m_blk h zz (by decide +kernel)) (m_goto h (off := 4) (by decide +kernel) (by decide)))
  (m_blk h zz (by decide +kernel)))
  (m_blk h zz (by decide +kernel)))
  (m_blk h zz rfl) (m_goto h (off := (-36)) (by decide +kernel) (by decide)) zFU)
  (m_rti h zz (p1 := 44) (by decide +kernel) (by decide +kernel) (Nat.zero_le _) (Nat.zero_le _))))
theorem ct_Mod_lowest (w : Wd) (l : Launch) (hw : zWok w) : CT w l y_Mod_lowest b_Mod_lowest 3 (some .int) r_Mod_lowest (exb true 3 d_Mod_lowest) :=
  ct_plain (by decide +kernel) (fun p e s m args below meth c Q cx hnm => eo_Mod_lowest hw cx) (fun p e s m args below meth c Q F h => sn_Mod_lowest h)
theorem q_Mod_lowest {a : Nat} {fs : List Value} {M : Hp} {nx : Nat}  (h : M a = some (cO 6 fs)) : x_Mod_lowest [.ref a] (M, nx) = zres (d_Mod_lowest ([some (.ref a), none, none], [], (M, nx))) := q_ofV [some (.ref a), none, none] h rfl (Nat.le_of_ble_eq_true rfl) (Or.inr rfl)
theorem lf_Mod_lowest_7 : lookN (eF E_Mod_lowest) 7 = some (6, 0) := rfl
theorem lb_Mod_lowest : eB E_Mod_lowest = true := rfl
theorem lt_Mod_lowest : eT E_Mod_lowest = zST := rfl
-- CoilSlitsModel.receiveAll
def E_Mod_receiveAll : Env := (true, [(25, 6, 6), (134, 6, 5), (151, 6, 10), (22, 6, 9), (7, 6, 0)], [(.invokevirtual 163, 1, x_Mod_isText), (.invokevirtual 36, 2, x_Mod_fails), (.invokevirtual 113, 1, x_Mod_saves), (.invokevirtual 166, 1, x_Mod_lowest), (.invokevirtual 116, 5, x_Mod_comes)], [], [], zST, false)
def d_Mod_receiveAll : Dn := (sq (blk E_Mod_receiveAll [.aload_n 0, .iconst 0, .putfield 25])
  (sq (ite' (cno (cat E_Mod_receiveAll [.aload_n 0, .invokevirtual 163] (.ifCond .ne 9)))
  (rti E_Mod_receiveAll [.aload_n 0, .iconst 1, .invokevirtual 36])
  (blk E_Mod_receiveAll []))
  (sq (blk E_Mod_receiveAll [.aload_n 0, .invokevirtual 113, .aload_n 0, .iconst 0, .putfield 134, .iconst 0, .istore_n 1, .iconst 1, .istore_n 2])
  (sq (lop (cfo [3] (can (cno (cat E_Mod_receiveAll [.iload_n 2] (.ifCond .eq 106))) (cno (cat E_Mod_receiveAll [.iload_n 1, .aload_n 0, .getfield 151] (.if_icmp .ge 98)))))
  (sq (ite' (cno (cat E_Mod_receiveAll [.aload_n 0, .getfield 22, .iconst 4, .iload_n 1, .imul, .iconst 3, .iadd, .iaload, .iconst (-1)] (.if_icmp .ne 10)))
  (blk E_Mod_receiveAll [.aload_n 0, .invokevirtual 166])
  (blk E_Mod_receiveAll [.aload_n 0, .getfield 22, .iconst 4, .iload_n 1, .imul, .iconst 3, .iadd, .iaload]))
  (sq (blk E_Mod_receiveAll [.istore_n 3])
  (sq (ite' (cno (cat E_Mod_receiveAll [.aload_n 0, .getfield 7, .bipush 16, .iload_n 3, .iadd, .iaload, .iconst 5] (.if_icmp .ge 7)))
  (blk E_Mod_receiveAll [.iconst 1])
  (blk E_Mod_receiveAll [.iconst 0]))
  (sq (blk E_Mod_receiveAll [.istore_n 2])
  (ite' (cno (cat E_Mod_receiveAll [.iload_n 2] (.ifCond .eq 40)))
  (blk E_Mod_receiveAll [.aload_n 0, .aload_n 0, .getfield 22, .iconst 4, .iload_n 1, .imul, .iaload, .aload_n 0, .getfield 22, .iconst 4, .iload_n 1, .imul, .iconst 1, .iadd, .iaload, .aload_n 0, .getfield 22, .iconst 4, .iload_n 1, .imul, .iconst 2, .iadd, .iaload, .iload_n 3, .invokevirtual 116, .pop, .iinc 1 1])
  (blk E_Mod_receiveAll []))))))
  (blk E_Mod_receiveAll []) zFU)
  (rti E_Mod_receiveAll [.iload_n 1])))))
def x_Mod_receiveAll : Ex := zrv 6 (exb true 4 d_Mod_receiveAll)
abbrev r_Mod_receiveAll : Room := ({ frames := 5, cells := 0, slots := 0, locals := 107 } : Room)
theorem eo_Mod_receiveAll (hw : zWok w) (cx : CX w p s m args c b_Mod_receiveAll 4 "CoilSlitsModel") : EnvOk w true p l e r_Mod_receiveAll s m args below meth c Q b_Mod_receiveAll 4 "CoilSlitsModel" E_Mod_receiveAll :=
  ⟨rfl, by decide +kernel, by decide +kernel, by decide +kernel, hw, fun h => absurd h (by decide),
  List.forall_mem_cons.mpr ⟨call_V cx (ct_Mod_isText w l hw) tw_1007 tw_1004 tw_8 tw_1006 tp_32 (ci := 6) (Nat.le_of_ble_eq_true rfl) rfl (by decide +kernel) ⟨Nat.le_of_ble_eq_true rfl, Nat.le_of_ble_eq_true rfl⟩, List.forall_mem_cons.mpr ⟨call_V cx (ct_Mod_fails w l hw) tw_861 tw_858 tw_8 tw_860 tp_28 (ci := 6) (Nat.le_of_ble_eq_true rfl) rfl (by decide +kernel) ⟨Nat.le_of_ble_eq_true rfl, Nat.le_of_ble_eq_true rfl⟩, List.forall_mem_cons.mpr ⟨call_V cx (ct_Mod_saves w l hw) tw_875 tw_872 tw_8 tw_874 tp_29 (ci := 6) (Nat.le_of_ble_eq_true rfl) rfl (by decide +kernel) ⟨Nat.le_of_ble_eq_true rfl, Nat.le_of_ble_eq_true rfl⟩, List.forall_mem_cons.mpr ⟨call_V cx (ct_Mod_lowest w l hw) tw_1035 tw_1032 tw_8 tw_1034 tp_38 (ci := 6) (Nat.le_of_ble_eq_true rfl) rfl (by decide +kernel) ⟨Nat.le_of_ble_eq_true rfl, Nat.le_of_ble_eq_true rfl⟩, List.forall_mem_cons.mpr ⟨call_V cx (ct_Mod_comes w l hw) tw_879 tw_876 tw_8 tw_878 tp_30 (ci := 6) (Nat.le_of_ble_eq_true rfl) rfl (by decide +kernel) ⟨Nat.le_of_ble_eq_true rfl, Nat.le_of_ble_eq_true rfl⟩, fun q hq => absurd hq List.not_mem_nil⟩⟩⟩⟩⟩⟩
theorem sn_Mod_receiveAll (h : MC w true p l e R s m args below meth c Q b_Mod_receiveAll 4 "CoilSlitsModel" E_Mod_receiveAll 0 0 F (some .int)) : Sn (zK w true p l e R s m args below meth c Q 4) F (fun _ => False) (fun _ => False) 0 0 0 d_Mod_receiveAll 0 0 0 := by
  unfold d_Mod_receiveAll
  exact (sn_sq (pm := 5) (m_blk h zz (by decide +kernel))
  (sn_sq (pm := 18) (sn_ite (pt := 12) (pf := 18) (sc_no (m_cat h zz (p1 := 9) (tgt := 18) (by decide +kernel) (by decide +kernel) (by decide)))
  (m_rti h zz (p1 := 17) (by decide +kernel) (by decide +kernel) (Nat.zero_le _) (Nat.zero_le _))
  (m_blk h zz rfl))
  (sn_sq (pm := 31) (m_blk h zz (by decide +kernel))
  (sn_sq (pm := 138) (sn_lop (pt := 43) (pu := 135) (p2 := 135) (px := 138) (kb2 := fun _ => False) (kc2 := fun _ => False) (sc_fo m_fo (sc_an (pm := 35) (sc_no (m_cat h zz (p1 := 32) (tgt := 138) (by decide +kernel) (by decide +kernel) (by decide))) (sc_no (m_cat h zz (p1 := 40) (tgt := 138) (by decide +kernel) (by decide +kernel) (by decide)))))
  (sn_sq (pm := 74) (sn_ite (pt := 57) (pf := 64) (sc_no (m_cat h zz (p1 := 54) (tgt := 64) (by decide +kernel) (by decide +kernel) (by decide)))
  (sn_goto (pm := 61) (m_blk h zz (by decide +kernel)) (m_goto h (off := 13) (by decide +kernel) (by decide)))
  (m_blk h zz (by decide +kernel)))
  (sn_sq (pm := 75) (m_blk h zz (by decide +kernel))
  (sn_sq (pm := 93) (sn_ite (pt := 88) (pf := 92) (sc_no (m_cat h zz (p1 := 85) (tgt := 92) (by decide +kernel) (by decide +kernel) (by decide)))
  (sn_goto (pm := 89) (m_blk h zz (by decide +kernel)) (m_goto h (off := 4) (by decide +kernel) (by decide)))
  (m_blk h zz (by decide +kernel)))
  (sn_sq (pm := 94) (m_blk h zz (by decide +kernel))
  (sn_ite (pt := 98) (pf := 135) (sc_no (m_cat h zz (p1 := 95) (tgt := 135) (by decide +kernel) (by decide +kernel) (by decide)))
  (m_blk h zz (by decide +kernel))
  (m_blk h zz rfl))))))
  (m_blk h zz rfl) (m_goto h (off := (-104)) (by decide +kernel) (by decide)) zFU)
  (m_rti h zz (p1 := 139) (by decide +kernel) (by decide +kernel) (Nat.zero_le _) (Nat.zero_le _))))))
theorem ct_Mod_receiveAll (w : Wd) (l : Launch) (hw : zWok w) : CT w l y_Mod_receiveAll b_Mod_receiveAll 4 (some .int) r_Mod_receiveAll (exb true 4 d_Mod_receiveAll) :=
  ct_plain (by decide +kernel) (fun p e s m args below meth c Q cx hnm => eo_Mod_receiveAll hw cx) (fun p e s m args below meth c Q F h => sn_Mod_receiveAll h)
theorem q_Mod_receiveAll {a : Nat} {fs : List Value} {M : Hp} {nx : Nat}  (h : M a = some (cO 6 fs)) : x_Mod_receiveAll [.ref a] (M, nx) = zres (d_Mod_receiveAll ([some (.ref a), none, none, none], [], (M, nx))) := q_ofV [some (.ref a), none, none, none] h rfl (Nat.le_of_ble_eq_true rfl) (Or.inr rfl)
theorem lc_Mod_receiveAll_163 : lookI (eC E_Mod_receiveAll) (.invokevirtual 163) = some (1, x_Mod_isText) := rfl
theorem lc_Mod_receiveAll_36 : lookI (eC E_Mod_receiveAll) (.invokevirtual 36) = some (2, x_Mod_fails) := rfl
theorem lc_Mod_receiveAll_113 : lookI (eC E_Mod_receiveAll) (.invokevirtual 113) = some (1, x_Mod_saves) := rfl
theorem lc_Mod_receiveAll_166 : lookI (eC E_Mod_receiveAll) (.invokevirtual 166) = some (1, x_Mod_lowest) := rfl
theorem lc_Mod_receiveAll_116 : lookI (eC E_Mod_receiveAll) (.invokevirtual 116) = some (5, x_Mod_comes) := rfl
theorem lf_Mod_receiveAll_25 : lookN (eF E_Mod_receiveAll) 25 = some (6, 6) := rfl
theorem lf_Mod_receiveAll_134 : lookN (eF E_Mod_receiveAll) 134 = some (6, 5) := rfl
theorem lf_Mod_receiveAll_151 : lookN (eF E_Mod_receiveAll) 151 = some (6, 10) := rfl
theorem lf_Mod_receiveAll_22 : lookN (eF E_Mod_receiveAll) 22 = some (6, 9) := rfl
theorem lf_Mod_receiveAll_7 : lookN (eF E_Mod_receiveAll) 7 = some (6, 0) := rfl
theorem lb_Mod_receiveAll : eB E_Mod_receiveAll = true := rfl
theorem lt_Mod_receiveAll : eT E_Mod_receiveAll = zST := rfl
-- CoilSlitsModel.coilAt
def E_Mod_coilAt : Env := (true, [(7, 6, 0)], [(.invokestatic 40, 2, x_Mod_isAt), (.invokestatic 44, 3, x_Mod_of)], [], [], zST, false)
def d_Mod_coilAt : Dn := (sq (ite' (cno (cat E_Mod_coilAt [.aload_n 0, .getfield 7, .iload_n 1, .invokestatic 40] (.ifCond .eq 15)))
  (blk E_Mod_coilAt [.aload_n 0, .getfield 7, .iload_n 1, .iconst 0, .invokestatic 44])
  (blk E_Mod_coilAt [.iconst (-1)]))
  (rti E_Mod_coilAt []))
def x_Mod_coilAt : Ex := zrv 6 (exb true 2 d_Mod_coilAt)
abbrev r_Mod_coilAt : Room := ({ frames := 1, cells := 0, slots := 0, locals := 22 } : Room)
theorem eo_Mod_coilAt (hw : zWok w) (cx : CX w p s m args c b_Mod_coilAt 2 "CoilSlitsModel") : EnvOk w true p l e r_Mod_coilAt s m args below meth c Q b_Mod_coilAt 2 "CoilSlitsModel" E_Mod_coilAt :=
  ⟨rfl, by decide +kernel, by decide +kernel, by decide +kernel, hw, fun h => absurd h (by decide),
  List.forall_mem_cons.mpr ⟨call_S cx (ct_Mod_isAt w l hw) tw_908 tw_906 tw_8 tw_907 (by decide +kernel) ⟨Nat.le_of_ble_eq_true rfl, Nat.le_of_ble_eq_true rfl⟩, List.forall_mem_cons.mpr ⟨call_S cx (ct_Mod_of w l hw) tw_895 tw_893 tw_8 tw_894 (by decide +kernel) ⟨Nat.le_of_ble_eq_true rfl, Nat.le_of_ble_eq_true rfl⟩, fun q hq => absurd hq List.not_mem_nil⟩⟩⟩
theorem sn_Mod_coilAt (h : MC w true p l e R s m args below meth c Q b_Mod_coilAt 2 "CoilSlitsModel" E_Mod_coilAt 0 0 F (some .int)) : Sn (zK w true p l e R s m args below meth c Q 2) F (fun _ => False) (fun _ => False) 0 0 0 d_Mod_coilAt 0 0 0 := by
  unfold d_Mod_coilAt
  exact (sn_sq (pm := 24) (sn_ite (pt := 11) (pf := 23) (sc_no (m_cat h zz (p1 := 8) (tgt := 23) (by decide +kernel) (by decide +kernel) (by decide)))
  (sn_goto (pm := 20) (m_blk h zz (by decide +kernel)) (m_goto h (off := 4) (by decide +kernel) (by decide)))
  (m_blk h zz (by decide +kernel)))
  (m_rti h zz (p1 := 24) (by decide +kernel) (by decide +kernel) (Nat.zero_le _) (Nat.zero_le _)))
theorem ct_Mod_coilAt (w : Wd) (l : Launch) (hw : zWok w) : CT w l y_Mod_coilAt b_Mod_coilAt 2 (some .int) r_Mod_coilAt (exb true 2 d_Mod_coilAt) :=
  ct_plain (by decide +kernel) (fun p e s m args below meth c Q cx hnm => eo_Mod_coilAt hw cx) (fun p e s m args below meth c Q F h => sn_Mod_coilAt h)
theorem q_Mod_coilAt {a : Nat} {fs : List Value} {M : Hp} {nx : Nat} (x0 : Int32) (h : M a = some (cO 6 fs)) : x_Mod_coilAt [.ref a, .int x0] (M, nx) = zres (d_Mod_coilAt ([some (.ref a), some (.int x0)], [], (M, nx))) := q_ofV [some (.ref a), some (.int x0)] h rfl (Nat.le_of_ble_eq_true rfl) (Or.inr rfl)
theorem lc_Mod_coilAt_40 : lookI (eC E_Mod_coilAt) (.invokestatic 40) = some (2, x_Mod_isAt) := rfl
theorem lc_Mod_coilAt_44 : lookI (eC E_Mod_coilAt) (.invokestatic 44) = some (3, x_Mod_of) := rfl
theorem lf_Mod_coilAt_7 : lookN (eF E_Mod_coilAt) 7 = some (6, 0) := rfl
theorem lb_Mod_coilAt : eB E_Mod_coilAt = true := rfl
-- CoilSlitsModel.at
def E_Mod_at : Env := (true, [(25, 6, 6)], [(.invokestatic 109, 1, x_Mod_isStack), (.invokevirtual 36, 2, x_Mod_fails), (.invokestatic 29, 3, x_Mod_in), (.invokevirtual 170, 2, x_Mod_coilAt)], [], [], zST, false)
def d_Mod_at : Dn := (sq (blk E_Mod_at [.aload_n 0, .iconst 0, .putfield 25])
  (sq (ite' (cno (cat E_Mod_at [.iload_n 1, .invokestatic 109] (.ifCond .ne 9)))
  (rti E_Mod_at [.aload_n 0, .iconst 1, .invokevirtual 36])
  (blk E_Mod_at []))
  (sq (ite' (cno (cat E_Mod_at [.iload_n 2, .iconst 0, .iconst 4, .invokestatic 29] (.ifCond .eq 15)))
  (blk E_Mod_at [.aload_n 0, .iconst 5, .iload_n 1, .imul, .iload_n 2, .iadd, .invokevirtual 170])
  (blk E_Mod_at [.aload_n 0, .iconst 2, .invokevirtual 36]))
  (rti E_Mod_at []))))
def x_Mod_at : Ex := zrv 6 (exb true 3 d_Mod_at)
abbrev r_Mod_at : Room := ({ frames := 2, cells := 0, slots := 0, locals := 43 } : Room)
theorem eo_Mod_at (hw : zWok w) (cx : CX w p s m args c b_Mod_at 3 "CoilSlitsModel") : EnvOk w true p l e r_Mod_at s m args below meth c Q b_Mod_at 3 "CoilSlitsModel" E_Mod_at :=
  ⟨rfl, by decide +kernel, by decide +kernel, by decide +kernel, hw, fun h => absurd h (by decide),
  List.forall_mem_cons.mpr ⟨call_S cx (ct_Mod_isStack w l hw) tw_868 tw_866 tw_8 tw_867 (by decide +kernel) ⟨Nat.le_of_ble_eq_true rfl, Nat.le_of_ble_eq_true rfl⟩, List.forall_mem_cons.mpr ⟨call_V cx (ct_Mod_fails w l hw) tw_861 tw_858 tw_8 tw_860 tp_28 (ci := 6) (Nat.le_of_ble_eq_true rfl) rfl (by decide +kernel) ⟨Nat.le_of_ble_eq_true rfl, Nat.le_of_ble_eq_true rfl⟩, List.forall_mem_cons.mpr ⟨call_S cx (ct_Mod_in w l hw) tw_871 tw_869 tw_8 tw_870 (by decide +kernel) ⟨Nat.le_of_ble_eq_true rfl, Nat.le_of_ble_eq_true rfl⟩, List.forall_mem_cons.mpr ⟨call_V cx (ct_Mod_coilAt w l hw) tw_1043 tw_1040 tw_8 tw_1042 tp_39 (ci := 6) (Nat.le_of_ble_eq_true rfl) rfl (by decide +kernel) ⟨Nat.le_of_ble_eq_true rfl, Nat.le_of_ble_eq_true rfl⟩, fun q hq => absurd hq List.not_mem_nil⟩⟩⟩⟩⟩
theorem sn_Mod_at (h : MC w true p l e R s m args below meth c Q b_Mod_at 3 "CoilSlitsModel" E_Mod_at 0 0 F (some .int)) : Sn (zK w true p l e R s m args below meth c Q 3) F (fun _ => False) (fun _ => False) 0 0 0 d_Mod_at 0 0 0 := by
  unfold d_Mod_at
  exact (sn_sq (pm := 5) (m_blk h zz (by decide +kernel))
  (sn_sq (pm := 18) (sn_ite (pt := 12) (pf := 18) (sc_no (m_cat h zz (p1 := 9) (tgt := 18) (by decide +kernel) (by decide +kernel) (by decide)))
  (m_rti h zz (p1 := 17) (by decide +kernel) (by decide +kernel) (Nat.zero_le _) (Nat.zero_le _))
  (m_blk h zz rfl))
  (sn_sq (pm := 44) (sn_ite (pt := 27) (pf := 39) (sc_no (m_cat h zz (p1 := 24) (tgt := 39) (by decide +kernel) (by decide +kernel) (by decide)))
  (sn_goto (pm := 36) (m_blk h zz (by decide +kernel)) (m_goto h (off := 8) (by decide +kernel) (by decide)))
  (m_blk h zz (by decide +kernel)))
  (m_rti h zz (p1 := 44) (by decide +kernel) (by decide +kernel) (Nat.zero_le _) (Nat.zero_le _)))))
theorem ct_Mod_at (w : Wd) (l : Launch) (hw : zWok w) : CT w l y_Mod_at b_Mod_at 3 (some .int) r_Mod_at (exb true 3 d_Mod_at) :=
  ct_plain (by decide +kernel) (fun p e s m args below meth c Q cx hnm => eo_Mod_at hw cx) (fun p e s m args below meth c Q F h => sn_Mod_at h)
theorem q_Mod_at {a : Nat} {fs : List Value} {M : Hp} {nx : Nat} (x0 : Int32) (x1 : Int32) (h : M a = some (cO 6 fs)) : x_Mod_at [.ref a, .int x0, .int x1] (M, nx) = zres (d_Mod_at ([some (.ref a), some (.int x0), some (.int x1)], [], (M, nx))) := q_ofV [some (.ref a), some (.int x0), some (.int x1)] h rfl (Nat.le_of_ble_eq_true rfl) (Or.inr rfl)
theorem lc_Mod_at_109 : lookI (eC E_Mod_at) (.invokestatic 109) = some (1, x_Mod_isStack) := rfl
theorem lc_Mod_at_36 : lookI (eC E_Mod_at) (.invokevirtual 36) = some (2, x_Mod_fails) := rfl
theorem lc_Mod_at_29 : lookI (eC E_Mod_at) (.invokestatic 29) = some (3, x_Mod_in) := rfl
theorem lc_Mod_at_170 : lookI (eC E_Mod_at) (.invokevirtual 170) = some (2, x_Mod_coilAt) := rfl
theorem lf_Mod_at_25 : lookN (eF E_Mod_at) 25 = some (6, 6) := rfl
theorem lb_Mod_at : eB E_Mod_at = true := rfl
-- CoilSlitsModel.ofCoil
def E_Mod_ofCoil : Env := (true, [(7, 6, 0)], [(.invokestatic 44, 3, x_Mod_of), (.invokestatic 63, 2, x_Mod_above)], [], [], zST, false)
def d_Mod_ofCoil : Dn := (sq (ite' (cno (cat E_Mod_ofCoil [.iload_n 2, .iconst 3] (.if_icmp .ge 17)))
  (blk E_Mod_ofCoil [.aload_n 0, .getfield 7, .iload_n 1, .iload_n 2, .iconst 1, .iadd, .invokestatic 44])
  (ite' (cno (cat E_Mod_ofCoil [.iload_n 2, .iconst 3] (.if_icmp .ne 9)))
  (blk E_Mod_ofCoil [.iload_n 1, .iconst 5, .idiv])
  (ite' (cno (cat E_Mod_ofCoil [.iload_n 2, .iconst 4] (.if_icmp .ne 14)))
  (blk E_Mod_ofCoil [.aload_n 0, .getfield 7, .iload_n 1, .invokestatic 63])
  (blk E_Mod_ofCoil [.aload_n 0, .getfield 7, .iload_n 1, .iconst 4, .invokestatic 44]))))
  (rti E_Mod_ofCoil []))
def x_Mod_ofCoil : Ex := zrv 6 (exb true 3 d_Mod_ofCoil)
abbrev r_Mod_ofCoil : Room := ({ frames := 1, cells := 0, slots := 0, locals := 22 } : Room)
theorem eo_Mod_ofCoil (hw : zWok w) (cx : CX w p s m args c b_Mod_ofCoil 3 "CoilSlitsModel") : EnvOk w true p l e r_Mod_ofCoil s m args below meth c Q b_Mod_ofCoil 3 "CoilSlitsModel" E_Mod_ofCoil :=
  ⟨rfl, by decide +kernel, by decide +kernel, by decide +kernel, hw, fun h => absurd h (by decide),
  List.forall_mem_cons.mpr ⟨call_S cx (ct_Mod_of w l hw) tw_895 tw_893 tw_8 tw_894 (by decide +kernel) ⟨Nat.le_of_ble_eq_true rfl, Nat.le_of_ble_eq_true rfl⟩, List.forall_mem_cons.mpr ⟨call_S cx (ct_Mod_above w l hw) tw_918 tw_916 tw_8 tw_917 (by decide +kernel) ⟨Nat.le_of_ble_eq_true rfl, Nat.le_of_ble_eq_true rfl⟩, fun q hq => absurd hq List.not_mem_nil⟩⟩⟩
theorem sn_Mod_ofCoil (h : MC w true p l e R s m args below meth c Q b_Mod_ofCoil 3 "CoilSlitsModel" E_Mod_ofCoil 0 0 F (some .int)) : Sn (zK w true p l e R s m args below meth c Q 3) F (fun _ => False) (fun _ => False) 0 0 0 d_Mod_ofCoil 0 0 0 := by
  unfold d_Mod_ofCoil
  exact (sn_sq (pm := 55) (sn_ite (pt := 5) (pf := 19) (sc_no (m_cat h zz (p1 := 2) (tgt := 19) (by decide +kernel) (by decide +kernel) (by decide)))
  (sn_goto (pm := 16) (m_blk h zz (by decide +kernel)) (m_goto h (off := 39) (by decide +kernel) (by decide)))
  (sn_ite (pt := 24) (pf := 30) (sc_no (m_cat h zz (p1 := 21) (tgt := 30) (by decide +kernel) (by decide +kernel) (by decide)))
  (sn_goto (pm := 27) (m_blk h zz (by decide +kernel)) (m_goto h (off := 28) (by decide +kernel) (by decide)))
  (sn_ite (pt := 35) (pf := 46) (sc_no (m_cat h zz (p1 := 32) (tgt := 46) (by decide +kernel) (by decide +kernel) (by decide)))
  (sn_goto (pm := 43) (m_blk h zz (by decide +kernel)) (m_goto h (off := 12) (by decide +kernel) (by decide)))
  (m_blk h zz (by decide +kernel)))))
  (m_rti h zz (p1 := 55) (by decide +kernel) (by decide +kernel) (Nat.zero_le _) (Nat.zero_le _)))
theorem ct_Mod_ofCoil (w : Wd) (l : Launch) (hw : zWok w) : CT w l y_Mod_ofCoil b_Mod_ofCoil 3 (some .int) r_Mod_ofCoil (exb true 3 d_Mod_ofCoil) :=
  ct_plain (by decide +kernel) (fun p e s m args below meth c Q cx hnm => eo_Mod_ofCoil hw cx) (fun p e s m args below meth c Q F h => sn_Mod_ofCoil h)
theorem q_Mod_ofCoil {a : Nat} {fs : List Value} {M : Hp} {nx : Nat} (x0 : Int32) (x1 : Int32) (h : M a = some (cO 6 fs)) : x_Mod_ofCoil [.ref a, .int x0, .int x1] (M, nx) = zres (d_Mod_ofCoil ([some (.ref a), some (.int x0), some (.int x1)], [], (M, nx))) := q_ofV [some (.ref a), some (.int x0), some (.int x1)] h rfl (Nat.le_of_ble_eq_true rfl) (Or.inr rfl)
theorem lc_Mod_ofCoil_44 : lookI (eC E_Mod_ofCoil) (.invokestatic 44) = some (3, x_Mod_of) := rfl
theorem lc_Mod_ofCoil_63 : lookI (eC E_Mod_ofCoil) (.invokestatic 63) = some (2, x_Mod_above) := rfl
theorem lf_Mod_ofCoil_7 : lookN (eF E_Mod_ofCoil) 7 = some (6, 0) := rfl
theorem lb_Mod_ofCoil : eB E_Mod_ofCoil = true := rfl
-- CoilSlitsModel.coil
def E_Mod_coil : Env := (true, [(25, 6, 6), (7, 6, 0)], [(.invokestatic 29, 3, x_Mod_in), (.invokevirtual 36, 2, x_Mod_fails), (.invokestatic 120, 2, x_Mod_placeOf), (.invokevirtual 173, 3, x_Mod_ofCoil)], [], [], zST, false)
def d_Mod_coil : Dn := (sq (blk E_Mod_coil [.aload_n 0, .iconst 0, .putfield 25])
  (sq (ite' (cno (cat E_Mod_coil [.iload_n 1, .iconst 0, .aload_n 0, .getfield 7, .iconst 4, .iaload, .iconst 1, .isub, .invokestatic 29] (.ifCond .ne 9)))
  (rti E_Mod_coil [.aload_n 0, .iconst 1, .invokevirtual 36])
  (blk E_Mod_coil []))
  (sq (ite' (cno (cat E_Mod_coil [.iload_n 2, .iconst 0, .iconst 5, .invokestatic 29] (.ifCond .ne 9)))
  (rti E_Mod_coil [.aload_n 0, .iconst 2, .invokevirtual 36])
  (blk E_Mod_coil []))
  (sq (blk E_Mod_coil [.aload_n 0, .getfield 7, .iload_n 1, .invokestatic 120, .istore_n 3])
  (sq (ite' (cno (cat E_Mod_coil [.iload_n 3, .iconst (-1)] (.if_icmp .ne 7)))
  (blk E_Mod_coil [.iconst (-1)])
  (blk E_Mod_coil [.aload_n 0, .iload_n 3, .iload_n 2, .invokevirtual 173]))
  (rti E_Mod_coil []))))))
def x_Mod_coil : Ex := zrv 6 (exb true 4 d_Mod_coil)
abbrev r_Mod_coil : Room := ({ frames := 2, cells := 0, slots := 0, locals := 44 } : Room)
theorem eo_Mod_coil (hw : zWok w) (cx : CX w p s m args c b_Mod_coil 4 "CoilSlitsModel") : EnvOk w true p l e r_Mod_coil s m args below meth c Q b_Mod_coil 4 "CoilSlitsModel" E_Mod_coil :=
  ⟨rfl, by decide +kernel, by decide +kernel, by decide +kernel, hw, fun h => absurd h (by decide),
  List.forall_mem_cons.mpr ⟨call_S cx (ct_Mod_in w l hw) tw_871 tw_869 tw_8 tw_870 (by decide +kernel) ⟨Nat.le_of_ble_eq_true rfl, Nat.le_of_ble_eq_true rfl⟩, List.forall_mem_cons.mpr ⟨call_V cx (ct_Mod_fails w l hw) tw_861 tw_858 tw_8 tw_860 tp_28 (ci := 6) (Nat.le_of_ble_eq_true rfl) rfl (by decide +kernel) ⟨Nat.le_of_ble_eq_true rfl, Nat.le_of_ble_eq_true rfl⟩, List.forall_mem_cons.mpr ⟨call_S cx (ct_Mod_placeOf w l hw) tw_905 tw_903 tw_8 tw_904 (by decide +kernel) ⟨Nat.le_of_ble_eq_true rfl, Nat.le_of_ble_eq_true rfl⟩, List.forall_mem_cons.mpr ⟨call_V cx (ct_Mod_ofCoil w l hw) tw_1051 tw_1048 tw_8 tw_1050 tp_40 (ci := 6) (Nat.le_of_ble_eq_true rfl) rfl (by decide +kernel) ⟨Nat.le_of_ble_eq_true rfl, Nat.le_of_ble_eq_true rfl⟩, fun q hq => absurd hq List.not_mem_nil⟩⟩⟩⟩⟩
theorem sn_Mod_coil (h : MC w true p l e R s m args below meth c Q b_Mod_coil 4 "CoilSlitsModel" E_Mod_coil 0 0 F (some .int)) : Sn (zK w true p l e R s m args below meth c Q 4) F (fun _ => False) (fun _ => False) 0 0 0 d_Mod_coil 0 0 0 := by
  unfold d_Mod_coil
  exact (sn_sq (pm := 5) (m_blk h zz (by decide +kernel))
  (sn_sq (pm := 27) (sn_ite (pt := 21) (pf := 27) (sc_no (m_cat h zz (p1 := 18) (tgt := 27) (by decide +kernel) (by decide +kernel) (by decide)))
  (m_rti h zz (p1 := 26) (by decide +kernel) (by decide +kernel) (Nat.zero_le _) (Nat.zero_le _))
  (m_blk h zz rfl))
  (sn_sq (pm := 42) (sn_ite (pt := 36) (pf := 42) (sc_no (m_cat h zz (p1 := 33) (tgt := 42) (by decide +kernel) (by decide +kernel) (by decide)))
  (m_rti h zz (p1 := 41) (by decide +kernel) (by decide +kernel) (Nat.zero_le _) (Nat.zero_le _))
  (m_blk h zz rfl))
  (sn_sq (pm := 51) (m_blk h zz (by decide +kernel))
  (sn_sq (pm := 66) (sn_ite (pt := 56) (pf := 60) (sc_no (m_cat h zz (p1 := 53) (tgt := 60) (by decide +kernel) (by decide +kernel) (by decide)))
  (sn_goto (pm := 57) (m_blk h zz (by decide +kernel)) (m_goto h (off := 9) (by decide +kernel) (by decide)))
  (m_blk h zz (by decide +kernel)))
  (m_rti h zz (p1 := 66) (by decide +kernel) (by decide +kernel) (Nat.zero_le _) (Nat.zero_le _)))))))
theorem ct_Mod_coil (w : Wd) (l : Launch) (hw : zWok w) : CT w l y_Mod_coil b_Mod_coil 4 (some .int) r_Mod_coil (exb true 4 d_Mod_coil) :=
  ct_plain (by decide +kernel) (fun p e s m args below meth c Q cx hnm => eo_Mod_coil hw cx) (fun p e s m args below meth c Q F h => sn_Mod_coil h)
theorem q_Mod_coil {a : Nat} {fs : List Value} {M : Hp} {nx : Nat} (x0 : Int32) (x1 : Int32) (h : M a = some (cO 6 fs)) : x_Mod_coil [.ref a, .int x0, .int x1] (M, nx) = zres (d_Mod_coil ([some (.ref a), some (.int x0), some (.int x1), none], [], (M, nx))) := q_ofV [some (.ref a), some (.int x0), some (.int x1), none] h rfl (Nat.le_of_ble_eq_true rfl) (Or.inr rfl)
theorem lc_Mod_coil_29 : lookI (eC E_Mod_coil) (.invokestatic 29) = some (3, x_Mod_in) := rfl
theorem lc_Mod_coil_36 : lookI (eC E_Mod_coil) (.invokevirtual 36) = some (2, x_Mod_fails) := rfl
theorem lc_Mod_coil_120 : lookI (eC E_Mod_coil) (.invokestatic 120) = some (2, x_Mod_placeOf) := rfl
theorem lc_Mod_coil_173 : lookI (eC E_Mod_coil) (.invokevirtual 173) = some (3, x_Mod_ofCoil) := rfl
theorem lf_Mod_coil_25 : lookN (eF E_Mod_coil) 25 = some (6, 6) := rfl
theorem lf_Mod_coil_7 : lookN (eF E_Mod_coil) 7 = some (6, 0) := rfl
theorem lb_Mod_coil : eB E_Mod_coil = true := rfl
theorem lt_Mod_coil : eT E_Mod_coil = zST := rfl
-- CoilSlitsModel.ofOrder
def E_Mod_ofOrder : Env := (true, [(7, 6, 0)], [(.invokestatic 48, 3, x_Mod_by), (.invokestatic 40, 2, x_Mod_isAt), (.invokestatic 81, 3, x_Mod_reason), (.invokestatic 72, 3, x_Mod_fits)], [], [], zST, false)
def d_Mod_ofOrder : Dn := (sq (ite' (cno (cat E_Mod_ofOrder [.iload_n 2, .bipush 6] (.if_icmp .ge 13)))
  (rti E_Mod_ofOrder [.aload_n 0, .getfield 7, .iload_n 1, .iload_n 2, .invokestatic 48])
  (blk E_Mod_ofOrder []))
  (sq (blk E_Mod_ofOrder [.iconst 0, .istore_n 3, .iconst 0, .istore 4])
  (sq (lop (cno (cat E_Mod_ofOrder [.iload 4, .bipush 30] (.if_icmp .ge 59)))
  (sq (ite' (can (cno (cat E_Mod_ofOrder [.aload_n 0, .getfield 7, .iload 4, .invokestatic 40] (.ifCond .eq 41))) (cno (cat E_Mod_ofOrder [.aload_n 0, .getfield 7, .iload_n 1, .iload 4, .invokestatic 81, .iconst 4, .irem] (.ifCond .ne 26))))
  (sq (blk E_Mod_ofOrder [.iload_n 3])
  (sq (ite' (cno (cat E_Mod_ofOrder [.iload_n 2, .bipush 6] (.if_icmp .ne 7)))
  (blk E_Mod_ofOrder [.iconst 1])
  (blk E_Mod_ofOrder [.aload_n 0, .getfield 7, .iload_n 1, .iload 4, .invokestatic 72]))
  (blk E_Mod_ofOrder [.iadd, .istore_n 3])))
  (blk E_Mod_ofOrder []))
  (blk E_Mod_ofOrder [.iinc 4 1]))
  (blk E_Mod_ofOrder []) zFU)
  (rti E_Mod_ofOrder [.iload_n 3]))))
def x_Mod_ofOrder : Ex := zrv 6 (exb true 5 d_Mod_ofOrder)
abbrev r_Mod_ofOrder : Room := ({ frames := 3, cells := 0, slots := 0, locals := 66 } : Room)
theorem eo_Mod_ofOrder (hw : zWok w) (cx : CX w p s m args c b_Mod_ofOrder 5 "CoilSlitsModel") : EnvOk w true p l e r_Mod_ofOrder s m args below meth c Q b_Mod_ofOrder 5 "CoilSlitsModel" E_Mod_ofOrder :=
  ⟨rfl, by decide +kernel, by decide +kernel, by decide +kernel, hw, fun h => absurd h (by decide),
  List.forall_mem_cons.mpr ⟨call_S cx (ct_Mod_by w l hw) tw_942 tw_940 tw_8 tw_941 (by decide +kernel) ⟨Nat.le_of_ble_eq_true rfl, Nat.le_of_ble_eq_true rfl⟩, List.forall_mem_cons.mpr ⟨call_S cx (ct_Mod_isAt w l hw) tw_908 tw_906 tw_8 tw_907 (by decide +kernel) ⟨Nat.le_of_ble_eq_true rfl, Nat.le_of_ble_eq_true rfl⟩, List.forall_mem_cons.mpr ⟨call_S cx (ct_Mod_reason w l hw) tw_952 tw_950 tw_8 tw_951 (by decide +kernel) ⟨Nat.le_of_ble_eq_true rfl, Nat.le_of_ble_eq_true rfl⟩, List.forall_mem_cons.mpr ⟨call_S cx (ct_Mod_fits w l hw) tw_955 tw_953 tw_8 tw_954 (by decide +kernel) ⟨Nat.le_of_ble_eq_true rfl, Nat.le_of_ble_eq_true rfl⟩, fun q hq => absurd hq List.not_mem_nil⟩⟩⟩⟩⟩
theorem sn_Mod_ofOrder (h : MC w true p l e R s m args below meth c Q b_Mod_ofOrder 5 "CoilSlitsModel" E_Mod_ofOrder 0 0 F (some .int)) : Sn (zK w true p l e R s m args below meth c Q 5) F (fun _ => False) (fun _ => False) 0 0 0 d_Mod_ofOrder 0 0 0 := by
  unfold d_Mod_ofOrder
  exact (sn_sq (pm := 16) (sn_ite (pt := 6) (pf := 16) (sc_no (m_cat h zz (p1 := 3) (tgt := 16) (by decide +kernel) (by decide +kernel) (by decide)))
  (m_rti h zz (p1 := 15) (by decide +kernel) (by decide +kernel) (Nat.zero_le _) (Nat.zero_le _))
  (m_blk h zz rfl))
  (sn_sq (pm := 21) (m_blk h zz (by decide +kernel))
  (sn_sq (pm := 84) (sn_lop (pt := 28) (pu := 81) (p2 := 81) (px := 84) (kb2 := fun _ => False) (kc2 := fun _ => False) (sc_no (m_cat h zz (p1 := 25) (tgt := 84) (by decide +kernel) (by decide +kernel) (by decide)))
  (sn_sq (pm := 78) (sn_ite (pt := 55) (pf := 78) (sc_an (pm := 40) (sc_no (m_cat h zz (p1 := 37) (tgt := 78) (by decide +kernel) (by decide +kernel) (by decide))) (sc_no (m_cat h zz (p1 := 52) (tgt := 78) (by decide +kernel) (by decide +kernel) (by decide))))
  (sn_sq (pm := 56) (m_blk h zz (by decide +kernel))
  (sn_sq (pm := 76) (sn_ite (pt := 62) (pf := 66) (sc_no (m_cat h zz (p1 := 59) (tgt := 66) (by decide +kernel) (by decide +kernel) (by decide)))
  (sn_goto (pm := 63) (m_blk h zz (by decide +kernel)) (m_goto h (off := 13) (by decide +kernel) (by decide)))
  (m_blk h zz (by decide +kernel)))
  (m_blk h zz (by decide +kernel))))
  (m_blk h zz rfl))
  (m_blk h zz (by decide +kernel)))
  (m_blk h zz rfl) (m_goto h (off := (-60)) (by decide +kernel) (by decide)) zFU)
  (m_rti h zz (p1 := 85) (by decide +kernel) (by decide +kernel) (Nat.zero_le _) (Nat.zero_le _)))))
theorem ct_Mod_ofOrder (w : Wd) (l : Launch) (hw : zWok w) : CT w l y_Mod_ofOrder b_Mod_ofOrder 5 (some .int) r_Mod_ofOrder (exb true 5 d_Mod_ofOrder) :=
  ct_plain (by decide +kernel) (fun p e s m args below meth c Q cx hnm => eo_Mod_ofOrder hw cx) (fun p e s m args below meth c Q F h => sn_Mod_ofOrder h)
theorem q_Mod_ofOrder {a : Nat} {fs : List Value} {M : Hp} {nx : Nat} (x0 : Int32) (x1 : Int32) (h : M a = some (cO 6 fs)) : x_Mod_ofOrder [.ref a, .int x0, .int x1] (M, nx) = zres (d_Mod_ofOrder ([some (.ref a), some (.int x0), some (.int x1), none, none], [], (M, nx))) := q_ofV [some (.ref a), some (.int x0), some (.int x1), none, none] h rfl (Nat.le_of_ble_eq_true rfl) (Or.inr rfl)
theorem lc_Mod_ofOrder_48 : lookI (eC E_Mod_ofOrder) (.invokestatic 48) = some (3, x_Mod_by) := rfl
theorem lc_Mod_ofOrder_40 : lookI (eC E_Mod_ofOrder) (.invokestatic 40) = some (2, x_Mod_isAt) := rfl
theorem lc_Mod_ofOrder_81 : lookI (eC E_Mod_ofOrder) (.invokestatic 81) = some (3, x_Mod_reason) := rfl
theorem lc_Mod_ofOrder_72 : lookI (eC E_Mod_ofOrder) (.invokestatic 72) = some (3, x_Mod_fits) := rfl
theorem lf_Mod_ofOrder_7 : lookN (eF E_Mod_ofOrder) 7 = some (6, 0) := rfl
theorem lb_Mod_ofOrder : eB E_Mod_ofOrder = true := rfl
-- CoilSlitsModel.orderOf
def E_Mod_orderOf : Env := (true, [(25, 6, 6), (7, 6, 0)], [(.invokestatic 29, 3, x_Mod_in), (.invokevirtual 36, 2, x_Mod_fails), (.invokevirtual 176, 3, x_Mod_ofOrder)], [], [], zST, false)
def d_Mod_orderOf : Dn := (sq (blk E_Mod_orderOf [.aload_n 0, .iconst 0, .putfield 25])
  (sq (ite' (cor (cat E_Mod_orderOf [.iload_n 1] (.ifCond .lt 13)) (cno (cat E_Mod_orderOf [.iload_n 2, .iconst 0, .bipush 7, .invokestatic 29] (.ifCond .ne 9))))
  (rti E_Mod_orderOf [.aload_n 0, .iconst 1, .invokevirtual 36])
  (blk E_Mod_orderOf []))
  (sq (ite' (cno (cat E_Mod_orderOf [.iload_n 1, .aload_n 0, .getfield 7, .bipush 15, .iaload] (.if_icmp .ge 12)))
  (blk E_Mod_orderOf [.aload_n 0, .iload_n 1, .iload_n 2, .invokevirtual 176])
  (blk E_Mod_orderOf [.iconst (-1)]))
  (rti E_Mod_orderOf []))))
def x_Mod_orderOf : Ex := zrv 6 (exb true 3 d_Mod_orderOf)
abbrev r_Mod_orderOf : Room := ({ frames := 4, cells := 0, slots := 0, locals := 90 } : Room)
theorem eo_Mod_orderOf (hw : zWok w) (cx : CX w p s m args c b_Mod_orderOf 3 "CoilSlitsModel") : EnvOk w true p l e r_Mod_orderOf s m args below meth c Q b_Mod_orderOf 3 "CoilSlitsModel" E_Mod_orderOf :=
  ⟨rfl, by decide +kernel, by decide +kernel, by decide +kernel, hw, fun h => absurd h (by decide),
  List.forall_mem_cons.mpr ⟨call_S cx (ct_Mod_in w l hw) tw_871 tw_869 tw_8 tw_870 (by decide +kernel) ⟨Nat.le_of_ble_eq_true rfl, Nat.le_of_ble_eq_true rfl⟩, List.forall_mem_cons.mpr ⟨call_V cx (ct_Mod_fails w l hw) tw_861 tw_858 tw_8 tw_860 tp_28 (ci := 6) (Nat.le_of_ble_eq_true rfl) rfl (by decide +kernel) ⟨Nat.le_of_ble_eq_true rfl, Nat.le_of_ble_eq_true rfl⟩, List.forall_mem_cons.mpr ⟨call_V cx (ct_Mod_ofOrder w l hw) tw_1059 tw_1056 tw_8 tw_1058 tp_41 (ci := 6) (Nat.le_of_ble_eq_true rfl) rfl (by decide +kernel) ⟨Nat.le_of_ble_eq_true rfl, Nat.le_of_ble_eq_true rfl⟩, fun q hq => absurd hq List.not_mem_nil⟩⟩⟩⟩
theorem sn_Mod_orderOf (h : MC w true p l e R s m args below meth c Q b_Mod_orderOf 3 "CoilSlitsModel" E_Mod_orderOf 0 0 F (some .int)) : Sn (zK w true p l e R s m args below meth c Q 3) F (fun _ => False) (fun _ => False) 0 0 0 d_Mod_orderOf 0 0 0 := by
  unfold d_Mod_orderOf
  exact (sn_sq (pm := 5) (m_blk h zz (by decide +kernel))
  (sn_sq (pm := 25) (sn_ite (pt := 19) (pf := 25) (sc_or (pm := 9) (m_cat h zz (p1 := 6) (tgt := 19) (by decide +kernel) (by decide +kernel) (by decide)) (sc_no (m_cat h zz (p1 := 16) (tgt := 25) (by decide +kernel) (by decide +kernel) (by decide))))
  (m_rti h zz (p1 := 24) (by decide +kernel) (by decide +kernel) (Nat.zero_le _) (Nat.zero_le _))
  (m_blk h zz rfl))
  (sn_sq (pm := 46) (sn_ite (pt := 36) (pf := 45) (sc_no (m_cat h zz (p1 := 33) (tgt := 45) (by decide +kernel) (by decide +kernel) (by decide)))
  (sn_goto (pm := 42) (m_blk h zz (by decide +kernel)) (m_goto h (off := 4) (by decide +kernel) (by decide)))
  (m_blk h zz (by decide +kernel)))
  (m_rti h zz (p1 := 46) (by decide +kernel) (by decide +kernel) (Nat.zero_le _) (Nat.zero_le _)))))
theorem ct_Mod_orderOf (w : Wd) (l : Launch) (hw : zWok w) : CT w l y_Mod_orderOf b_Mod_orderOf 3 (some .int) r_Mod_orderOf (exb true 3 d_Mod_orderOf) :=
  ct_plain (by decide +kernel) (fun p e s m args below meth c Q cx hnm => eo_Mod_orderOf hw cx) (fun p e s m args below meth c Q F h => sn_Mod_orderOf h)
theorem q_Mod_orderOf {a : Nat} {fs : List Value} {M : Hp} {nx : Nat} (x0 : Int32) (x1 : Int32) (h : M a = some (cO 6 fs)) : x_Mod_orderOf [.ref a, .int x0, .int x1] (M, nx) = zres (d_Mod_orderOf ([some (.ref a), some (.int x0), some (.int x1)], [], (M, nx))) := q_ofV [some (.ref a), some (.int x0), some (.int x1)] h rfl (Nat.le_of_ble_eq_true rfl) (Or.inr rfl)
theorem lc_Mod_orderOf_29 : lookI (eC E_Mod_orderOf) (.invokestatic 29) = some (3, x_Mod_in) := rfl
theorem lc_Mod_orderOf_36 : lookI (eC E_Mod_orderOf) (.invokevirtual 36) = some (2, x_Mod_fails) := rfl
theorem lc_Mod_orderOf_176 : lookI (eC E_Mod_orderOf) (.invokevirtual 176) = some (3, x_Mod_ofOrder) := rfl
theorem lf_Mod_orderOf_25 : lookN (eF E_Mod_orderOf) 25 = some (6, 6) := rfl
theorem lf_Mod_orderOf_7 : lookN (eF E_Mod_orderOf) 7 = some (6, 0) := rfl
theorem lb_Mod_orderOf : eB E_Mod_orderOf = true := rfl
theorem lt_Mod_orderOf : eT E_Mod_orderOf = zST := rfl
-- CoilSlitsModel.whyNot
def E_Mod_whyNot : Env := (true, [(25, 6, 6), (7, 6, 0)], [(.invokestatic 94, 2, x_Mod_orderAt), (.invokestatic 120, 2, x_Mod_placeOf), (.invokevirtual 36, 2, x_Mod_fails), (.invokestatic 81, 3, x_Mod_reason)], [], [], zST, false)
def d_Mod_whyNot : Dn := (sq (blk E_Mod_whyNot [.aload_n 0, .iconst 0, .putfield 25, .aload_n 0, .getfield 7, .iload_n 1, .invokestatic 94, .istore_n 3, .aload_n 0, .getfield 7, .iload_n 2, .invokestatic 120, .istore 4])
  (sq (ite' (cor (cat E_Mod_whyNot [.iload_n 3, .iconst (-1)] (.if_icmp .eq 9)) (cno (cat E_Mod_whyNot [.iload 4, .iconst (-1)] (.if_icmp .ne 11))))
  (blk E_Mod_whyNot [.aload_n 0, .iconst 1, .invokevirtual 36])
  (blk E_Mod_whyNot [.aload_n 0, .getfield 7, .iload_n 3, .iload 4, .invokestatic 81]))
  (rti E_Mod_whyNot [])))
def x_Mod_whyNot : Ex := zrv 6 (exb true 5 d_Mod_whyNot)
abbrev r_Mod_whyNot : Room := ({ frames := 3, cells := 0, slots := 0, locals := 66 } : Room)
theorem eo_Mod_whyNot (hw : zWok w) (cx : CX w p s m args c b_Mod_whyNot 5 "CoilSlitsModel") : EnvOk w true p l e r_Mod_whyNot s m args below meth c Q b_Mod_whyNot 5 "CoilSlitsModel" E_Mod_whyNot :=
  ⟨rfl, by decide +kernel, by decide +kernel, by decide +kernel, hw, fun h => absurd h (by decide),
  List.forall_mem_cons.mpr ⟨call_S cx (ct_Mod_orderAt w l hw) tw_939 tw_937 tw_8 tw_938 (by decide +kernel) ⟨Nat.le_of_ble_eq_true rfl, Nat.le_of_ble_eq_true rfl⟩, List.forall_mem_cons.mpr ⟨call_S cx (ct_Mod_placeOf w l hw) tw_905 tw_903 tw_8 tw_904 (by decide +kernel) ⟨Nat.le_of_ble_eq_true rfl, Nat.le_of_ble_eq_true rfl⟩, List.forall_mem_cons.mpr ⟨call_V cx (ct_Mod_fails w l hw) tw_861 tw_858 tw_8 tw_860 tp_28 (ci := 6) (Nat.le_of_ble_eq_true rfl) rfl (by decide +kernel) ⟨Nat.le_of_ble_eq_true rfl, Nat.le_of_ble_eq_true rfl⟩, List.forall_mem_cons.mpr ⟨call_S cx (ct_Mod_reason w l hw) tw_952 tw_950 tw_8 tw_951 (by decide +kernel) ⟨Nat.le_of_ble_eq_true rfl, Nat.le_of_ble_eq_true rfl⟩, fun q hq => absurd hq List.not_mem_nil⟩⟩⟩⟩⟩
theorem sn_Mod_whyNot (h : MC w true p l e R s m args below meth c Q b_Mod_whyNot 5 "CoilSlitsModel" E_Mod_whyNot 0 0 F (some .int)) : Sn (zK w true p l e R s m args below meth c Q 5) F (fun _ => False) (fun _ => False) 0 0 0 d_Mod_whyNot 0 0 0 := by
  unfold d_Mod_whyNot
  exact (sn_sq (pm := 24) (m_blk h zz (by decide +kernel))
  (sn_sq (pm := 53) (sn_ite (pt := 35) (pf := 43) (sc_or (pm := 29) (m_cat h zz (p1 := 26) (tgt := 35) (by decide +kernel) (by decide +kernel) (by decide)) (sc_no (m_cat h zz (p1 := 32) (tgt := 43) (by decide +kernel) (by decide +kernel) (by decide))))
  (sn_goto (pm := 40) (m_blk h zz (by decide +kernel)) (m_goto h (off := 13) (by decide +kernel) (by decide)))
  (m_blk h zz (by decide +kernel)))
  (m_rti h zz (p1 := 53) (by decide +kernel) (by decide +kernel) (Nat.zero_le _) (Nat.zero_le _))))
theorem ct_Mod_whyNot (w : Wd) (l : Launch) (hw : zWok w) : CT w l y_Mod_whyNot b_Mod_whyNot 5 (some .int) r_Mod_whyNot (exb true 5 d_Mod_whyNot) :=
  ct_plain (by decide +kernel) (fun p e s m args below meth c Q cx hnm => eo_Mod_whyNot hw cx) (fun p e s m args below meth c Q F h => sn_Mod_whyNot h)
theorem q_Mod_whyNot {a : Nat} {fs : List Value} {M : Hp} {nx : Nat} (x0 : Int32) (x1 : Int32) (h : M a = some (cO 6 fs)) : x_Mod_whyNot [.ref a, .int x0, .int x1] (M, nx) = zres (d_Mod_whyNot ([some (.ref a), some (.int x0), some (.int x1), none, none], [], (M, nx))) := q_ofV [some (.ref a), some (.int x0), some (.int x1), none, none] h rfl (Nat.le_of_ble_eq_true rfl) (Or.inr rfl)
theorem lc_Mod_whyNot_94 : lookI (eC E_Mod_whyNot) (.invokestatic 94) = some (2, x_Mod_orderAt) := rfl
theorem lc_Mod_whyNot_120 : lookI (eC E_Mod_whyNot) (.invokestatic 120) = some (2, x_Mod_placeOf) := rfl
theorem lc_Mod_whyNot_36 : lookI (eC E_Mod_whyNot) (.invokevirtual 36) = some (2, x_Mod_fails) := rfl
theorem lc_Mod_whyNot_81 : lookI (eC E_Mod_whyNot) (.invokestatic 81) = some (3, x_Mod_reason) := rfl
theorem lf_Mod_whyNot_25 : lookN (eF E_Mod_whyNot) 25 = some (6, 6) := rfl
theorem lf_Mod_whyNot_7 : lookN (eF E_Mod_whyNot) 7 = some (6, 0) := rfl
theorem lb_Mod_whyNot : eB E_Mod_whyNot = true := rfl
-- CoilSlitsModel.ofCoils
def E_Mod_ofCoils : Env := (true, [(7, 6, 0)], [(.invokestatic 40, 2, x_Mod_isAt), (.invokestatic 44, 3, x_Mod_of)], [], [], zST, false)
def d_Mod_ofCoils : Dn := (sq (blk E_Mod_ofCoils [.iconst 0, .istore_n 2, .iconst 0, .istore_n 3])
  (sq (lop (cno (cat E_Mod_ofCoils [.iload_n 3, .bipush 30] (.if_icmp .ge 61)))
  (sq (blk E_Mod_ofCoils [.iload_n 2])
  (sq (ite' (cno (cat E_Mod_ofCoils [.aload_n 0, .getfield 7, .iload_n 3, .invokestatic 40] (.ifCond .ne 7)))
  (sq (blk E_Mod_ofCoils [.iconst 0])
  cnt)
  (blk E_Mod_ofCoils []))
  (sq (ite' (cno (cat E_Mod_ofCoils [.iload_n 1] (.ifCond .ne 7)))
  (sq (blk E_Mod_ofCoils [.iconst 1])
  cnt)
  (blk E_Mod_ofCoils []))
  (sq (ite' (cno (cat E_Mod_ofCoils [.iload_n 1, .iconst 1] (.if_icmp .ne 15)))
  (sq (blk E_Mod_ofCoils [.aload_n 0, .getfield 7, .iload_n 3, .iconst 1, .invokestatic 44])
  cnt)
  (blk E_Mod_ofCoils []))
  (blk E_Mod_ofCoils [.aload_n 0, .getfield 7, .iload_n 3, .iconst 4, .invokestatic 44])))))
  (blk E_Mod_ofCoils [.iadd, .istore_n 2, .iinc 3 1]) zFU)
  (rti E_Mod_ofCoils [.iload_n 2])))
def x_Mod_ofCoils : Ex := zrv 6 (exb true 4 d_Mod_ofCoils)
abbrev r_Mod_ofCoils : Room := ({ frames := 1, cells := 0, slots := 0, locals := 22 } : Room)
theorem eo_Mod_ofCoils (hw : zWok w) (cx : CX w p s m args c b_Mod_ofCoils 4 "CoilSlitsModel") : EnvOk w true p l e r_Mod_ofCoils s m args below meth c Q b_Mod_ofCoils 4 "CoilSlitsModel" E_Mod_ofCoils :=
  ⟨rfl, by decide +kernel, by decide +kernel, by decide +kernel, hw, fun h => absurd h (by decide),
  List.forall_mem_cons.mpr ⟨call_S cx (ct_Mod_isAt w l hw) tw_908 tw_906 tw_8 tw_907 (by decide +kernel) ⟨Nat.le_of_ble_eq_true rfl, Nat.le_of_ble_eq_true rfl⟩, List.forall_mem_cons.mpr ⟨call_S cx (ct_Mod_of w l hw) tw_895 tw_893 tw_8 tw_894 (by decide +kernel) ⟨Nat.le_of_ble_eq_true rfl, Nat.le_of_ble_eq_true rfl⟩, fun q hq => absurd hq List.not_mem_nil⟩⟩⟩
theorem sn_Mod_ofCoils (h : MC w true p l e R s m args below meth c Q b_Mod_ofCoils 4 "CoilSlitsModel" E_Mod_ofCoils 0 0 F (some .int)) : Sn (zK w true p l e R s m args below meth c Q 4) F (fun _ => False) (fun _ => False) 0 0 0 d_Mod_ofCoils 0 0 0 := by
  unfold d_Mod_ofCoils
  exact (sn_sq (pm := 4) (m_blk h zz (by decide +kernel))
  (sn_sq (pm := 68) (sn_lop (pt := 10) (pu := 60) (p2 := 65) (px := 68) (kb2 := fun _ => False) (kc2 := fun _ => False) (sc_no (m_cat h zz (p1 := 7) (tgt := 68) (by decide +kernel) (by decide +kernel) (by decide)))
  (sn_sq (pm := 11) (m_blk h zz (by decide +kernel))
  (sn_sq (pm := 26) (sn_ite (pt := 22) (pf := 26) (sc_no (m_cat h zz (p1 := 19) (tgt := 26) (by decide +kernel) (by decide +kernel) (by decide)))
  (sn_sq (pm := 23) (m_blk h zz (by decide +kernel))
  (sn_cnt (m_goto h (off := 37) (by decide +kernel) (by decide))))
  (m_blk h zz rfl))
  (sn_sq (pm := 34) (sn_ite (pt := 30) (pf := 34) (sc_no (m_cat h zz (p1 := 27) (tgt := 34) (by decide +kernel) (by decide +kernel) (by decide)))
  (sn_sq (pm := 31) (m_blk h zz (by decide +kernel))
  (sn_cnt (m_goto h (off := 29) (by decide +kernel) (by decide))))
  (m_blk h zz rfl))
  (sn_sq (pm := 51) (sn_ite (pt := 39) (pf := 51) (sc_no (m_cat h zz (p1 := 36) (tgt := 51) (by decide +kernel) (by decide +kernel) (by decide)))
  (sn_sq (pm := 48) (m_blk h zz (by decide +kernel))
  (sn_cnt (m_goto h (off := 12) (by decide +kernel) (by decide))))
  (m_blk h zz rfl))
  (m_blk h zz (by decide +kernel))))))
  (m_blk h zz (by decide +kernel)) (m_goto h (off := (-61)) (by decide +kernel) (by decide)) zFU)
  (m_rti h zz (p1 := 69) (by decide +kernel) (by decide +kernel) (Nat.zero_le _) (Nat.zero_le _))))
theorem ct_Mod_ofCoils (w : Wd) (l : Launch) (hw : zWok w) : CT w l y_Mod_ofCoils b_Mod_ofCoils 4 (some .int) r_Mod_ofCoils (exb true 4 d_Mod_ofCoils) :=
  ct_plain (by decide +kernel) (fun p e s m args below meth c Q cx hnm => eo_Mod_ofCoils hw cx) (fun p e s m args below meth c Q F h => sn_Mod_ofCoils h)
theorem q_Mod_ofCoils {a : Nat} {fs : List Value} {M : Hp} {nx : Nat} (x0 : Int32) (h : M a = some (cO 6 fs)) : x_Mod_ofCoils [.ref a, .int x0] (M, nx) = zres (d_Mod_ofCoils ([some (.ref a), some (.int x0), none, none], [], (M, nx))) := q_ofV [some (.ref a), some (.int x0), none, none] h rfl (Nat.le_of_ble_eq_true rfl) (Or.inr rfl)
theorem lc_Mod_ofCoils_40 : lookI (eC E_Mod_ofCoils) (.invokestatic 40) = some (2, x_Mod_isAt) := rfl
theorem lc_Mod_ofCoils_44 : lookI (eC E_Mod_ofCoils) (.invokestatic 44) = some (3, x_Mod_of) := rfl
theorem lf_Mod_ofCoils_7 : lookN (eF E_Mod_ofCoils) 7 = some (6, 0) := rfl
theorem lb_Mod_ofCoils : eB E_Mod_ofCoils = true := rfl
-- CoilSlitsModel.counted
def E_Mod_counted : Env := (true, [(7, 6, 0), (33, 6, 3)], [(.invokevirtual 179, 2, x_Mod_ofCoils)], [], [], zST, false)
def d_Mod_counted : Dn := (sq (ite' (cno (cat E_Mod_counted [.iload_n 1, .iconst 3] (.if_icmp .ge 11)))
  (blk E_Mod_counted [.aload_n 0, .iload_n 1, .invokevirtual 179])
  (ite' (cno (cat E_Mod_counted [.iload_n 1, .iconst 3] (.if_icmp .ne 13)))
  (blk E_Mod_counted [.aload_n 0, .getfield 7, .bipush 15, .iaload])
  (ite' (cno (cat E_Mod_counted [.iload_n 1, .bipush 13] (.if_icmp .ge 17)))
  (blk E_Mod_counted [.aload_n 0, .getfield 7, .bipush 6, .iload_n 1, .iadd, .iconst 4, .isub, .iaload])
  (blk E_Mod_counted [.aload_n 0, .getfield 33]))))
  (rti E_Mod_counted []))
def x_Mod_counted : Ex := zrv 6 (exb true 2 d_Mod_counted)
abbrev r_Mod_counted : Room := ({ frames := 2, cells := 0, slots := 0, locals := 45 } : Room)
theorem eo_Mod_counted (hw : zWok w) (cx : CX w p s m args c b_Mod_counted 2 "CoilSlitsModel") : EnvOk w true p l e r_Mod_counted s m args below meth c Q b_Mod_counted 2 "CoilSlitsModel" E_Mod_counted :=
  ⟨rfl, by decide +kernel, by decide +kernel, by decide +kernel, hw, fun h => absurd h (by decide),
  List.forall_mem_cons.mpr ⟨call_V cx (ct_Mod_ofCoils w l hw) tw_1075 tw_1072 tw_8 tw_1074 tp_43 (ci := 6) (Nat.le_of_ble_eq_true rfl) rfl (by decide +kernel) ⟨Nat.le_of_ble_eq_true rfl, Nat.le_of_ble_eq_true rfl⟩, fun q hq => absurd hq List.not_mem_nil⟩⟩
theorem sn_Mod_counted (h : MC w true p l e R s m args below meth c Q b_Mod_counted 2 "CoilSlitsModel" E_Mod_counted 0 0 F (some .int)) : Sn (zK w true p l e R s m args below meth c Q 2) F (fun _ => False) (fun _ => False) 0 0 0 d_Mod_counted 0 0 0 := by
  unfold d_Mod_counted
  exact (sn_sq (pm := 52) (sn_ite (pt := 5) (pf := 13) (sc_no (m_cat h zz (p1 := 2) (tgt := 13) (by decide +kernel) (by decide +kernel) (by decide)))
  (sn_goto (pm := 10) (m_blk h zz (by decide +kernel)) (m_goto h (off := 42) (by decide +kernel) (by decide)))
  (sn_ite (pt := 18) (pf := 28) (sc_no (m_cat h zz (p1 := 15) (tgt := 28) (by decide +kernel) (by decide +kernel) (by decide)))
  (sn_goto (pm := 25) (m_blk h zz (by decide +kernel)) (m_goto h (off := 27) (by decide +kernel) (by decide)))
  (sn_ite (pt := 34) (pf := 48) (sc_no (m_cat h zz (p1 := 31) (tgt := 48) (by decide +kernel) (by decide +kernel) (by decide)))
  (sn_goto (pm := 45) (m_blk h zz (by decide +kernel)) (m_goto h (off := 7) (by decide +kernel) (by decide)))
  (m_blk h zz (by decide +kernel)))))
  (m_rti h zz (p1 := 52) (by decide +kernel) (by decide +kernel) (Nat.zero_le _) (Nat.zero_le _)))
theorem ct_Mod_counted (w : Wd) (l : Launch) (hw : zWok w) : CT w l y_Mod_counted b_Mod_counted 2 (some .int) r_Mod_counted (exb true 2 d_Mod_counted) :=
  ct_plain (by decide +kernel) (fun p e s m args below meth c Q cx hnm => eo_Mod_counted hw cx) (fun p e s m args below meth c Q F h => sn_Mod_counted h)
theorem q_Mod_counted {a : Nat} {fs : List Value} {M : Hp} {nx : Nat} (x0 : Int32) (h : M a = some (cO 6 fs)) : x_Mod_counted [.ref a, .int x0] (M, nx) = zres (d_Mod_counted ([some (.ref a), some (.int x0)], [], (M, nx))) := q_ofV [some (.ref a), some (.int x0)] h rfl (Nat.le_of_ble_eq_true rfl) (Or.inr rfl)
theorem lc_Mod_counted_179 : lookI (eC E_Mod_counted) (.invokevirtual 179) = some (2, x_Mod_ofCoils) := rfl
theorem lf_Mod_counted_7 : lookN (eF E_Mod_counted) 7 = some (6, 0) := rfl
theorem lf_Mod_counted_33 : lookN (eF E_Mod_counted) 33 = some (6, 3) := rfl
theorem lb_Mod_counted : eB E_Mod_counted = true := rfl
theorem lt_Mod_counted : eT E_Mod_counted = zST := rfl
-- CoilSlitsModel.count
def E_Mod_count : Env := (true, [(25, 6, 6)], [(.invokestatic 29, 3, x_Mod_in), (.invokevirtual 182, 2, x_Mod_counted), (.invokevirtual 36, 2, x_Mod_fails)], [], [], zST, false)
def d_Mod_count : Dn := (sq (blk E_Mod_count [.aload_n 0, .iconst 0, .putfield 25])
  (sq (ite' (cno (cat E_Mod_count [.iload_n 1, .iconst 0, .bipush 13, .invokestatic 29] (.ifCond .eq 11)))
  (blk E_Mod_count [.aload_n 0, .iload_n 1, .invokevirtual 182])
  (blk E_Mod_count [.aload_n 0, .iconst 1, .invokevirtual 36]))
  (rti E_Mod_count [])))
def x_Mod_count : Ex := zrv 6 (exb true 2 d_Mod_count)
abbrev r_Mod_count : Room := ({ frames := 3, cells := 0, slots := 0, locals := 66 } : Room)
theorem eo_Mod_count (hw : zWok w) (cx : CX w p s m args c b_Mod_count 2 "CoilSlitsModel") : EnvOk w true p l e r_Mod_count s m args below meth c Q b_Mod_count 2 "CoilSlitsModel" E_Mod_count :=
  ⟨rfl, by decide +kernel, by decide +kernel, by decide +kernel, hw, fun h => absurd h (by decide),
  List.forall_mem_cons.mpr ⟨call_S cx (ct_Mod_in w l hw) tw_871 tw_869 tw_8 tw_870 (by decide +kernel) ⟨Nat.le_of_ble_eq_true rfl, Nat.le_of_ble_eq_true rfl⟩, List.forall_mem_cons.mpr ⟨call_V cx (ct_Mod_counted w l hw) tw_1071 tw_1068 tw_8 tw_1070 tp_42 (ci := 6) (Nat.le_of_ble_eq_true rfl) rfl (by decide +kernel) ⟨Nat.le_of_ble_eq_true rfl, Nat.le_of_ble_eq_true rfl⟩, List.forall_mem_cons.mpr ⟨call_V cx (ct_Mod_fails w l hw) tw_861 tw_858 tw_8 tw_860 tp_28 (ci := 6) (Nat.le_of_ble_eq_true rfl) rfl (by decide +kernel) ⟨Nat.le_of_ble_eq_true rfl, Nat.le_of_ble_eq_true rfl⟩, fun q hq => absurd hq List.not_mem_nil⟩⟩⟩⟩
theorem sn_Mod_count (h : MC w true p l e R s m args below meth c Q b_Mod_count 2 "CoilSlitsModel" E_Mod_count 0 0 F (some .int)) : Sn (zK w true p l e R s m args below meth c Q 2) F (fun _ => False) (fun _ => False) 0 0 0 d_Mod_count 0 0 0 := by
  unfold d_Mod_count
  exact (sn_sq (pm := 5) (m_blk h zz (by decide +kernel))
  (sn_sq (pm := 28) (sn_ite (pt := 15) (pf := 23) (sc_no (m_cat h zz (p1 := 12) (tgt := 23) (by decide +kernel) (by decide +kernel) (by decide)))
  (sn_goto (pm := 20) (m_blk h zz (by decide +kernel)) (m_goto h (off := 8) (by decide +kernel) (by decide)))
  (m_blk h zz (by decide +kernel)))
  (m_rti h zz (p1 := 28) (by decide +kernel) (by decide +kernel) (Nat.zero_le _) (Nat.zero_le _))))
theorem ct_Mod_count (w : Wd) (l : Launch) (hw : zWok w) : CT w l y_Mod_count b_Mod_count 2 (some .int) r_Mod_count (exb true 2 d_Mod_count) :=
  ct_plain (by decide +kernel) (fun p e s m args below meth c Q cx hnm => eo_Mod_count hw cx) (fun p e s m args below meth c Q F h => sn_Mod_count h)
theorem q_Mod_count {a : Nat} {fs : List Value} {M : Hp} {nx : Nat} (x0 : Int32) (h : M a = some (cO 6 fs)) : x_Mod_count [.ref a, .int x0] (M, nx) = zres (d_Mod_count ([some (.ref a), some (.int x0)], [], (M, nx))) := q_ofV [some (.ref a), some (.int x0)] h rfl (Nat.le_of_ble_eq_true rfl) (Or.inr rfl)
theorem lc_Mod_count_29 : lookI (eC E_Mod_count) (.invokestatic 29) = some (3, x_Mod_in) := rfl
theorem lc_Mod_count_182 : lookI (eC E_Mod_count) (.invokevirtual 182) = some (2, x_Mod_counted) := rfl
theorem lc_Mod_count_36 : lookI (eC E_Mod_count) (.invokevirtual 36) = some (2, x_Mod_fails) := rfl
theorem lf_Mod_count_25 : lookN (eF E_Mod_count) 25 = some (6, 6) := rfl
theorem lb_Mod_count : eB E_Mod_count = true := rfl
-- CoilSlitsModel.setting
def E_Mod_setting : Env := (true, [(25, 6, 6), (7, 6, 0)], [(.invokestatic 29, 3, x_Mod_in), (.invokevirtual 36, 2, x_Mod_fails)], [], [], zST, false)
def d_Mod_setting : Dn := (sq (blk E_Mod_setting [.aload_n 0, .iconst 0, .putfield 25])
  (sq (ite' (cno (cat E_Mod_setting [.iload_n 1, .iconst 0, .iconst 3, .invokestatic 29] (.ifCond .eq 12)))
  (blk E_Mod_setting [.aload_n 0, .getfield 7, .iload_n 1, .iaload])
  (blk E_Mod_setting [.aload_n 0, .iconst 1, .invokevirtual 36]))
  (rti E_Mod_setting [])))
def x_Mod_setting : Ex := zrv 6 (exb true 2 d_Mod_setting)
abbrev r_Mod_setting : Room := ({ frames := 1, cells := 0, slots := 0, locals := 22 } : Room)
theorem eo_Mod_setting (hw : zWok w) (cx : CX w p s m args c b_Mod_setting 2 "CoilSlitsModel") : EnvOk w true p l e r_Mod_setting s m args below meth c Q b_Mod_setting 2 "CoilSlitsModel" E_Mod_setting :=
  ⟨rfl, by decide +kernel, by decide +kernel, by decide +kernel, hw, fun h => absurd h (by decide),
  List.forall_mem_cons.mpr ⟨call_S cx (ct_Mod_in w l hw) tw_871 tw_869 tw_8 tw_870 (by decide +kernel) ⟨Nat.le_of_ble_eq_true rfl, Nat.le_of_ble_eq_true rfl⟩, List.forall_mem_cons.mpr ⟨call_V cx (ct_Mod_fails w l hw) tw_861 tw_858 tw_8 tw_860 tp_28 (ci := 6) (Nat.le_of_ble_eq_true rfl) rfl (by decide +kernel) ⟨Nat.le_of_ble_eq_true rfl, Nat.le_of_ble_eq_true rfl⟩, fun q hq => absurd hq List.not_mem_nil⟩⟩⟩
theorem sn_Mod_setting (h : MC w true p l e R s m args below meth c Q b_Mod_setting 2 "CoilSlitsModel" E_Mod_setting 0 0 F (some .int)) : Sn (zK w true p l e R s m args below meth c Q 2) F (fun _ => False) (fun _ => False) 0 0 0 d_Mod_setting 0 0 0 := by
  unfold d_Mod_setting
  exact (sn_sq (pm := 5) (m_blk h zz (by decide +kernel))
  (sn_sq (pm := 28) (sn_ite (pt := 14) (pf := 23) (sc_no (m_cat h zz (p1 := 11) (tgt := 23) (by decide +kernel) (by decide +kernel) (by decide)))
  (sn_goto (pm := 20) (m_blk h zz (by decide +kernel)) (m_goto h (off := 8) (by decide +kernel) (by decide)))
  (m_blk h zz (by decide +kernel)))
  (m_rti h zz (p1 := 28) (by decide +kernel) (by decide +kernel) (Nat.zero_le _) (Nat.zero_le _))))
theorem ct_Mod_setting (w : Wd) (l : Launch) (hw : zWok w) : CT w l y_Mod_setting b_Mod_setting 2 (some .int) r_Mod_setting (exb true 2 d_Mod_setting) :=
  ct_plain (by decide +kernel) (fun p e s m args below meth c Q cx hnm => eo_Mod_setting hw cx) (fun p e s m args below meth c Q F h => sn_Mod_setting h)
theorem q_Mod_setting {a : Nat} {fs : List Value} {M : Hp} {nx : Nat} (x0 : Int32) (h : M a = some (cO 6 fs)) : x_Mod_setting [.ref a, .int x0] (M, nx) = zres (d_Mod_setting ([some (.ref a), some (.int x0)], [], (M, nx))) := q_ofV [some (.ref a), some (.int x0)] h rfl (Nat.le_of_ble_eq_true rfl) (Or.inr rfl)
theorem lc_Mod_setting_29 : lookI (eC E_Mod_setting) (.invokestatic 29) = some (3, x_Mod_in) := rfl
theorem lc_Mod_setting_36 : lookI (eC E_Mod_setting) (.invokevirtual 36) = some (2, x_Mod_fails) := rfl
theorem lf_Mod_setting_25 : lookN (eF E_Mod_setting) 25 = some (6, 6) := rfl
theorem lf_Mod_setting_7 : lookN (eF E_Mod_setting) 7 = some (6, 0) := rfl
theorem lb_Mod_setting : eB E_Mod_setting = true := rfl
theorem lt_Mod_setting : eT E_Mod_setting = zST := rfl
-- CoilSlitsModel.choiceFor
def E_Mod_choiceFor : Env := (true, [(7, 6, 0)], [(.invokestatic 97, 2, x_Mod_chosen), (.invokestatic 44, 3, x_Mod_of)], [], [], zST, false)
def d_Mod_choiceFor : Dn := (sq (blk E_Mod_choiceFor [.aload_n 0, .getfield 7, .iload_n 1, .invokestatic 97, .istore_n 2])
  (sq (ite' (cno (cat E_Mod_choiceFor [.iload_n 2, .iconst (-1)] (.if_icmp .ne 7)))
  (blk E_Mod_choiceFor [.iconst (-1)])
  (blk E_Mod_choiceFor [.aload_n 0, .getfield 7, .iload_n 2, .iconst 0, .invokestatic 44]))
  (rti E_Mod_choiceFor [])))
def x_Mod_choiceFor : Ex := zrv 6 (exb true 3 d_Mod_choiceFor)
abbrev r_Mod_choiceFor : Room := ({ frames := 5, cells := 0, slots := 0, locals := 115 } : Room)
theorem eo_Mod_choiceFor (hw : zWok w) (cx : CX w p s m args c b_Mod_choiceFor 3 "CoilSlitsModel") : EnvOk w true p l e r_Mod_choiceFor s m args below meth c Q b_Mod_choiceFor 3 "CoilSlitsModel" E_Mod_choiceFor :=
  ⟨rfl, by decide +kernel, by decide +kernel, by decide +kernel, hw, fun h => absurd h (by decide),
  List.forall_mem_cons.mpr ⟨call_S cx (ct_Mod_chosen w l hw) tw_974 tw_972 tw_8 tw_973 (by decide +kernel) ⟨Nat.le_of_ble_eq_true rfl, Nat.le_of_ble_eq_true rfl⟩, List.forall_mem_cons.mpr ⟨call_S cx (ct_Mod_of w l hw) tw_895 tw_893 tw_8 tw_894 (by decide +kernel) ⟨Nat.le_of_ble_eq_true rfl, Nat.le_of_ble_eq_true rfl⟩, fun q hq => absurd hq List.not_mem_nil⟩⟩⟩
theorem sn_Mod_choiceFor (h : MC w true p l e R s m args below meth c Q b_Mod_choiceFor 3 "CoilSlitsModel" E_Mod_choiceFor 0 0 F (some .int)) : Sn (zK w true p l e R s m args below meth c Q 3) F (fun _ => False) (fun _ => False) 0 0 0 d_Mod_choiceFor 0 0 0 := by
  unfold d_Mod_choiceFor
  exact (sn_sq (pm := 9) (m_blk h zz (by decide +kernel))
  (sn_sq (pm := 27) (sn_ite (pt := 14) (pf := 18) (sc_no (m_cat h zz (p1 := 11) (tgt := 18) (by decide +kernel) (by decide +kernel) (by decide)))
  (sn_goto (pm := 15) (m_blk h zz (by decide +kernel)) (m_goto h (off := 12) (by decide +kernel) (by decide)))
  (m_blk h zz (by decide +kernel)))
  (m_rti h zz (p1 := 27) (by decide +kernel) (by decide +kernel) (Nat.zero_le _) (Nat.zero_le _))))
theorem ct_Mod_choiceFor (w : Wd) (l : Launch) (hw : zWok w) : CT w l y_Mod_choiceFor b_Mod_choiceFor 3 (some .int) r_Mod_choiceFor (exb true 3 d_Mod_choiceFor) :=
  ct_plain (by decide +kernel) (fun p e s m args below meth c Q cx hnm => eo_Mod_choiceFor hw cx) (fun p e s m args below meth c Q F h => sn_Mod_choiceFor h)
theorem q_Mod_choiceFor {a : Nat} {fs : List Value} {M : Hp} {nx : Nat} (x0 : Int32) (h : M a = some (cO 6 fs)) : x_Mod_choiceFor [.ref a, .int x0] (M, nx) = zres (d_Mod_choiceFor ([some (.ref a), some (.int x0), none], [], (M, nx))) := q_ofV [some (.ref a), some (.int x0), none] h rfl (Nat.le_of_ble_eq_true rfl) (Or.inr rfl)
theorem lc_Mod_choiceFor_97 : lookI (eC E_Mod_choiceFor) (.invokestatic 97) = some (2, x_Mod_chosen) := rfl
theorem lc_Mod_choiceFor_44 : lookI (eC E_Mod_choiceFor) (.invokestatic 44) = some (3, x_Mod_of) := rfl
theorem lf_Mod_choiceFor_7 : lookN (eF E_Mod_choiceFor) 7 = some (6, 0) := rfl
theorem lb_Mod_choiceFor : eB E_Mod_choiceFor = true := rfl
-- CoilSlitsModel.choice
def E_Mod_choice : Env := (true, [(25, 6, 6), (7, 6, 0)], [(.invokestatic 94, 2, x_Mod_orderAt), (.invokevirtual 36, 2, x_Mod_fails), (.invokevirtual 185, 2, x_Mod_choiceFor)], [], [], zST, false)
def d_Mod_choice : Dn := (sq (blk E_Mod_choice [.aload_n 0, .iconst 0, .putfield 25, .aload_n 0, .getfield 7, .iload_n 1, .invokestatic 94, .istore_n 2])
  (sq (ite' (cno (cat E_Mod_choice [.iload_n 2, .iconst (-1)] (.if_icmp .ne 11)))
  (blk E_Mod_choice [.aload_n 0, .iconst 1, .invokevirtual 36])
  (blk E_Mod_choice [.aload_n 0, .iload_n 2, .invokevirtual 185]))
  (rti E_Mod_choice [])))
def x_Mod_choice : Ex := zrv 6 (exb true 3 d_Mod_choice)
abbrev r_Mod_choice : Room := ({ frames := 6, cells := 0, slots := 0, locals := 137 } : Room)
theorem eo_Mod_choice (hw : zWok w) (cx : CX w p s m args c b_Mod_choice 3 "CoilSlitsModel") : EnvOk w true p l e r_Mod_choice s m args below meth c Q b_Mod_choice 3 "CoilSlitsModel" E_Mod_choice :=
  ⟨rfl, by decide +kernel, by decide +kernel, by decide +kernel, hw, fun h => absurd h (by decide),
  List.forall_mem_cons.mpr ⟨call_S cx (ct_Mod_orderAt w l hw) tw_939 tw_937 tw_8 tw_938 (by decide +kernel) ⟨Nat.le_of_ble_eq_true rfl, Nat.le_of_ble_eq_true rfl⟩, List.forall_mem_cons.mpr ⟨call_V cx (ct_Mod_fails w l hw) tw_861 tw_858 tw_8 tw_860 tp_28 (ci := 6) (Nat.le_of_ble_eq_true rfl) rfl (by decide +kernel) ⟨Nat.le_of_ble_eq_true rfl, Nat.le_of_ble_eq_true rfl⟩, List.forall_mem_cons.mpr ⟨call_V cx (ct_Mod_choiceFor w l hw) tw_1087 tw_1084 tw_8 tw_1086 tp_44 (ci := 6) (Nat.le_of_ble_eq_true rfl) rfl (by decide +kernel) ⟨Nat.le_of_ble_eq_true rfl, Nat.le_of_ble_eq_true rfl⟩, fun q hq => absurd hq List.not_mem_nil⟩⟩⟩⟩
theorem sn_Mod_choice (h : MC w true p l e R s m args below meth c Q b_Mod_choice 3 "CoilSlitsModel" E_Mod_choice 0 0 F (some .int)) : Sn (zK w true p l e R s m args below meth c Q 3) F (fun _ => False) (fun _ => False) 0 0 0 d_Mod_choice 0 0 0 := by
  unfold d_Mod_choice
  exact (sn_sq (pm := 14) (m_blk h zz (by decide +kernel))
  (sn_sq (pm := 32) (sn_ite (pt := 19) (pf := 27) (sc_no (m_cat h zz (p1 := 16) (tgt := 27) (by decide +kernel) (by decide +kernel) (by decide)))
  (sn_goto (pm := 24) (m_blk h zz (by decide +kernel)) (m_goto h (off := 8) (by decide +kernel) (by decide)))
  (m_blk h zz (by decide +kernel)))
  (m_rti h zz (p1 := 32) (by decide +kernel) (by decide +kernel) (Nat.zero_le _) (Nat.zero_le _))))
theorem ct_Mod_choice (w : Wd) (l : Launch) (hw : zWok w) : CT w l y_Mod_choice b_Mod_choice 3 (some .int) r_Mod_choice (exb true 3 d_Mod_choice) :=
  ct_plain (by decide +kernel) (fun p e s m args below meth c Q cx hnm => eo_Mod_choice hw cx) (fun p e s m args below meth c Q F h => sn_Mod_choice h)
theorem q_Mod_choice {a : Nat} {fs : List Value} {M : Hp} {nx : Nat} (x0 : Int32) (h : M a = some (cO 6 fs)) : x_Mod_choice [.ref a, .int x0] (M, nx) = zres (d_Mod_choice ([some (.ref a), some (.int x0), none], [], (M, nx))) := q_ofV [some (.ref a), some (.int x0), none] h rfl (Nat.le_of_ble_eq_true rfl) (Or.inr rfl)
theorem lc_Mod_choice_94 : lookI (eC E_Mod_choice) (.invokestatic 94) = some (2, x_Mod_orderAt) := rfl
theorem lc_Mod_choice_36 : lookI (eC E_Mod_choice) (.invokevirtual 36) = some (2, x_Mod_fails) := rfl
theorem lc_Mod_choice_185 : lookI (eC E_Mod_choice) (.invokevirtual 185) = some (2, x_Mod_choiceFor) := rfl
theorem lf_Mod_choice_25 : lookN (eF E_Mod_choice) 25 = some (6, 6) := rfl
theorem lf_Mod_choice_7 : lookN (eF E_Mod_choice) 7 = some (6, 0) := rfl
theorem lb_Mod_choice : eB E_Mod_choice = true := rfl
-- CoilSlitsModel.byServing
def E_Mod_byServing : Env := (true, [(13, 6, 1), (7, 6, 0)], [(.invokevirtual 188, 1, x_Mod_tries), (.invokestatic 106, 2, x_Mod_serves)], [], [], zST, false)
def d_Mod_byServing : Dn := (sq (blk E_Mod_byServing [.aload_n 0, .invokevirtual 188, .aload_n 0, .getfield 13, .iconst 3, .iload_n 2, .iastore, .aload_n 0, .getfield 13, .iload_n 1, .invokestatic 106, .istore 4])
  (sq (ite' (cno (cat E_Mod_byServing [.iload_n 3] (.ifCond .ne 8)))
  (blk E_Mod_byServing [.iload 4])
  (ite' (cno (cat E_Mod_byServing [.iload_n 3, .iconst 1] (.if_icmp .ne 21)))
  (blk E_Mod_byServing [.aload_n 0, .getfield 13, .bipush 6, .iaload, .aload_n 0, .getfield 7, .bipush 6, .iaload, .isub])
  (ite' (cno (cat E_Mod_byServing [.iload_n 3, .iconst 2] (.if_icmp .ne 21)))
  (blk E_Mod_byServing [.aload_n 0, .getfield 13, .bipush 11, .iaload, .aload_n 0, .getfield 7, .bipush 11, .iaload, .isub])
  (blk E_Mod_byServing [.aload_n 0, .getfield 13, .bipush 7, .iaload, .aload_n 0, .getfield 7, .bipush 7, .iaload, .isub]))))
  (rti E_Mod_byServing [])))
def x_Mod_byServing : Ex := zrv 6 (exb true 5 d_Mod_byServing)
abbrev r_Mod_byServing : Room := ({ frames := 6, cells := 0, slots := 0, locals := 139 } : Room)
theorem eo_Mod_byServing (hw : zWok w) (cx : CX w p s m args c b_Mod_byServing 5 "CoilSlitsModel") : EnvOk w true p l e r_Mod_byServing s m args below meth c Q b_Mod_byServing 5 "CoilSlitsModel" E_Mod_byServing :=
  ⟨rfl, by decide +kernel, by decide +kernel, by decide +kernel, hw, fun h => absurd h (by decide),
  List.forall_mem_cons.mpr ⟨call_V cx (ct_Mod_tries w l hw) tw_1099 tw_1096 tw_8 tw_1098 tp_46 (ci := 6) (Nat.le_of_ble_eq_true rfl) rfl (by decide +kernel) ⟨Nat.le_of_ble_eq_true rfl, Nat.le_of_ble_eq_true rfl⟩, List.forall_mem_cons.mpr ⟨call_S cx (ct_Mod_serves w l hw) tw_971 tw_969 tw_8 tw_970 (by decide +kernel) ⟨Nat.le_of_ble_eq_true rfl, Nat.le_of_ble_eq_true rfl⟩, fun q hq => absurd hq List.not_mem_nil⟩⟩⟩
theorem sn_Mod_byServing (h : MC w true p l e R s m args below meth c Q b_Mod_byServing 5 "CoilSlitsModel" E_Mod_byServing 0 0 F (some .int)) : Sn (zK w true p l e R s m args below meth c Q 5) F (fun _ => False) (fun _ => False) 0 0 0 d_Mod_byServing 0 0 0 := by
  unfold d_Mod_byServing
  exact (sn_sq (pm := 21) (m_blk h zz (by decide +kernel))
  (sn_sq (pm := 91) (sn_ite (pt := 25) (pf := 30) (sc_no (m_cat h zz (p1 := 22) (tgt := 30) (by decide +kernel) (by decide +kernel) (by decide)))
  (sn_goto (pm := 27) (m_blk h zz (by decide +kernel)) (m_goto h (off := 64) (by decide +kernel) (by decide)))
  (sn_ite (pt := 35) (pf := 53) (sc_no (m_cat h zz (p1 := 32) (tgt := 53) (by decide +kernel) (by decide +kernel) (by decide)))
  (sn_goto (pm := 50) (m_blk h zz (by decide +kernel)) (m_goto h (off := 41) (by decide +kernel) (by decide)))
  (sn_ite (pt := 58) (pf := 76) (sc_no (m_cat h zz (p1 := 55) (tgt := 76) (by decide +kernel) (by decide +kernel) (by decide)))
  (sn_goto (pm := 73) (m_blk h zz (by decide +kernel)) (m_goto h (off := 18) (by decide +kernel) (by decide)))
  (m_blk h zz (by decide +kernel)))))
  (m_rti h zz (p1 := 91) (by decide +kernel) (by decide +kernel) (Nat.zero_le _) (Nat.zero_le _))))
theorem ct_Mod_byServing (w : Wd) (l : Launch) (hw : zWok w) : CT w l y_Mod_byServing b_Mod_byServing 5 (some .int) r_Mod_byServing (exb true 5 d_Mod_byServing) :=
  ct_plain (by decide +kernel) (fun p e s m args below meth c Q cx hnm => eo_Mod_byServing hw cx) (fun p e s m args below meth c Q F h => sn_Mod_byServing h)
theorem q_Mod_byServing {a : Nat} {fs : List Value} {M : Hp} {nx : Nat} (x0 : Int32) (x1 : Int32) (x2 : Int32) (h : M a = some (cO 6 fs)) : x_Mod_byServing [.ref a, .int x0, .int x1, .int x2] (M, nx) = zres (d_Mod_byServing ([some (.ref a), some (.int x0), some (.int x1), some (.int x2), none], [], (M, nx))) := q_ofV [some (.ref a), some (.int x0), some (.int x1), some (.int x2), none] h rfl (Nat.le_of_ble_eq_true rfl) (Or.inr rfl)
theorem lc_Mod_byServing_188 : lookI (eC E_Mod_byServing) (.invokevirtual 188) = some (1, x_Mod_tries) := rfl
theorem lc_Mod_byServing_106 : lookI (eC E_Mod_byServing) (.invokestatic 106) = some (2, x_Mod_serves) := rfl
theorem lf_Mod_byServing_13 : lookN (eF E_Mod_byServing) 13 = some (6, 1) := rfl
theorem lf_Mod_byServing_7 : lookN (eF E_Mod_byServing) 7 = some (6, 0) := rfl
theorem lb_Mod_byServing : eB E_Mod_byServing = true := rfl
theorem lt_Mod_byServing : eT E_Mod_byServing = zST := rfl
-- CoilSlitsModel.ifServed
def E_Mod_ifServed : Env := (true, [(25, 6, 6), (7, 6, 0)], [(.invokestatic 94, 2, x_Mod_orderAt), (.invokevirtual 36, 2, x_Mod_fails), (.invokestatic 29, 3, x_Mod_in), (.invokevirtual 191, 4, x_Mod_byServing)], [], [], zST, false)
def d_Mod_ifServed : Dn := (sq (blk E_Mod_ifServed [.aload_n 0, .iconst 0, .putfield 25])
  (sq (ite' (cno (cat E_Mod_ifServed [.aload_n 0, .getfield 7, .iload_n 1, .invokestatic 94, .iconst (-1)] (.if_icmp .ne 9)))
  (rti E_Mod_ifServed [.aload_n 0, .iconst 1, .invokevirtual 36])
  (blk E_Mod_ifServed []))
  (sq (ite' (can (cno (cat E_Mod_ifServed [.iload_n 2, .iconst 0, .iconst 2, .invokestatic 29] (.ifCond .eq 22))) (cno (cat E_Mod_ifServed [.iload_n 3, .iconst 0, .iconst 3, .invokestatic 29] (.ifCond .eq 13))))
  (blk E_Mod_ifServed [.aload_n 0, .iload_n 1, .iload_n 2, .iload_n 3, .invokevirtual 191])
  (blk E_Mod_ifServed [.aload_n 0, .iconst 2, .invokevirtual 36]))
  (rti E_Mod_ifServed []))))
def x_Mod_ifServed : Ex := zrv 6 (exb true 4 d_Mod_ifServed)
abbrev r_Mod_ifServed : Room := ({ frames := 7, cells := 0, slots := 0, locals := 163 } : Room)
theorem eo_Mod_ifServed (hw : zWok w) (cx : CX w p s m args c b_Mod_ifServed 4 "CoilSlitsModel") : EnvOk w true p l e r_Mod_ifServed s m args below meth c Q b_Mod_ifServed 4 "CoilSlitsModel" E_Mod_ifServed :=
  ⟨rfl, by decide +kernel, by decide +kernel, by decide +kernel, hw, fun h => absurd h (by decide),
  List.forall_mem_cons.mpr ⟨call_S cx (ct_Mod_orderAt w l hw) tw_939 tw_937 tw_8 tw_938 (by decide +kernel) ⟨Nat.le_of_ble_eq_true rfl, Nat.le_of_ble_eq_true rfl⟩, List.forall_mem_cons.mpr ⟨call_V cx (ct_Mod_fails w l hw) tw_861 tw_858 tw_8 tw_860 tp_28 (ci := 6) (Nat.le_of_ble_eq_true rfl) rfl (by decide +kernel) ⟨Nat.le_of_ble_eq_true rfl, Nat.le_of_ble_eq_true rfl⟩, List.forall_mem_cons.mpr ⟨call_S cx (ct_Mod_in w l hw) tw_871 tw_869 tw_8 tw_870 (by decide +kernel) ⟨Nat.le_of_ble_eq_true rfl, Nat.le_of_ble_eq_true rfl⟩, List.forall_mem_cons.mpr ⟨call_V cx (ct_Mod_byServing w l hw) tw_1095 tw_1092 tw_8 tw_1094 tp_45 (ci := 6) (Nat.le_of_ble_eq_true rfl) rfl (by decide +kernel) ⟨Nat.le_of_ble_eq_true rfl, Nat.le_of_ble_eq_true rfl⟩, fun q hq => absurd hq List.not_mem_nil⟩⟩⟩⟩⟩
theorem sn_Mod_ifServed (h : MC w true p l e R s m args below meth c Q b_Mod_ifServed 4 "CoilSlitsModel" E_Mod_ifServed 0 0 F (some .int)) : Sn (zK w true p l e R s m args below meth c Q 4) F (fun _ => False) (fun _ => False) 0 0 0 d_Mod_ifServed 0 0 0 := by
  unfold d_Mod_ifServed
  exact (sn_sq (pm := 5) (m_blk h zz (by decide +kernel))
  (sn_sq (pm := 23) (sn_ite (pt := 17) (pf := 23) (sc_no (m_cat h zz (p1 := 14) (tgt := 23) (by decide +kernel) (by decide +kernel) (by decide)))
  (m_rti h zz (p1 := 22) (by decide +kernel) (by decide +kernel) (Nat.zero_le _) (Nat.zero_le _))
  (m_blk h zz rfl))
  (sn_sq (pm := 56) (sn_ite (pt := 41) (pf := 51) (sc_an (pm := 32) (sc_no (m_cat h zz (p1 := 29) (tgt := 51) (by decide +kernel) (by decide +kernel) (by decide))) (sc_no (m_cat h zz (p1 := 38) (tgt := 51) (by decide +kernel) (by decide +kernel) (by decide))))
  (sn_goto (pm := 48) (m_blk h zz (by decide +kernel)) (m_goto h (off := 8) (by decide +kernel) (by decide)))
  (m_blk h zz (by decide +kernel)))
  (m_rti h zz (p1 := 56) (by decide +kernel) (by decide +kernel) (Nat.zero_le _) (Nat.zero_le _)))))
theorem ct_Mod_ifServed (w : Wd) (l : Launch) (hw : zWok w) : CT w l y_Mod_ifServed b_Mod_ifServed 4 (some .int) r_Mod_ifServed (exb true 4 d_Mod_ifServed) :=
  ct_plain (by decide +kernel) (fun p e s m args below meth c Q cx hnm => eo_Mod_ifServed hw cx) (fun p e s m args below meth c Q F h => sn_Mod_ifServed h)
theorem q_Mod_ifServed {a : Nat} {fs : List Value} {M : Hp} {nx : Nat} (x0 : Int32) (x1 : Int32) (x2 : Int32) (h : M a = some (cO 6 fs)) : x_Mod_ifServed [.ref a, .int x0, .int x1, .int x2] (M, nx) = zres (d_Mod_ifServed ([some (.ref a), some (.int x0), some (.int x1), some (.int x2)], [], (M, nx))) := q_ofV [some (.ref a), some (.int x0), some (.int x1), some (.int x2)] h rfl (Nat.le_of_ble_eq_true rfl) (Or.inr rfl)
theorem lc_Mod_ifServed_94 : lookI (eC E_Mod_ifServed) (.invokestatic 94) = some (2, x_Mod_orderAt) := rfl
theorem lc_Mod_ifServed_36 : lookI (eC E_Mod_ifServed) (.invokevirtual 36) = some (2, x_Mod_fails) := rfl
theorem lc_Mod_ifServed_29 : lookI (eC E_Mod_ifServed) (.invokestatic 29) = some (3, x_Mod_in) := rfl
theorem lc_Mod_ifServed_191 : lookI (eC E_Mod_ifServed) (.invokevirtual 191) = some (4, x_Mod_byServing) := rfl
theorem lf_Mod_ifServed_25 : lookN (eF E_Mod_ifServed) 25 = some (6, 6) := rfl
theorem lf_Mod_ifServed_7 : lookN (eF E_Mod_ifServed) 7 = some (6, 0) := rfl
theorem lb_Mod_ifServed : eB E_Mod_ifServed = true := rfl
-- CoilSlitsModel.best
def E_Mod_best : Env := (true, [(13, 6, 1)], [(.invokevirtual 188, 1, x_Mod_tries), (.invokestatic 126, 1, x_Mod_servesAll)], [], [], zST, false)
def d_Mod_best : Dn := (sq (blk E_Mod_best [.iconst (-1), .istore_n 1, .iconst 0, .istore_n 2, .iconst 0, .istore_n 3, .iconst 0, .istore 4, .iconst 0, .istore 5])
  (sq (lop (cfo [6] (cno (cat E_Mod_best [.iload 5, .iconst 3] (.if_icmp .ge 130))))
  (sq (blk E_Mod_best [.aload_n 0, .invokevirtual 188, .aload_n 0, .getfield 13, .iconst 3, .iload 5, .iastore, .aload_n 0, .getfield 13, .invokestatic 126, .pop])
  (sq (ite' (can (cno (cat E_Mod_best [.aload_n 0, .getfield 13, .bipush 12, .iaload, .iload_n 2] (.if_icmp .ne 41))) (cor (cat E_Mod_best [.aload_n 0, .getfield 13, .bipush 11, .iaload, .iload_n 3] (.if_icmp .lt 26)) (can (cno (cat E_Mod_best [.aload_n 0, .getfield 13, .bipush 11, .iaload, .iload_n 3] (.if_icmp .ne 19))) (cno (cat E_Mod_best [.aload_n 0, .getfield 13, .bipush 7, .iaload, .iload 4] (.if_icmp .ge 7))))))
  (blk E_Mod_best [.iconst 1])
  (blk E_Mod_best [.iconst 0]))
  (sq (blk E_Mod_best [.istore 6])
  (sq (ite' (cor (cat E_Mod_best [.iload_n 1, .iconst (-1)] (.if_icmp .eq 19)) (cor (cat E_Mod_best [.aload_n 0, .getfield 13, .bipush 12, .iaload, .iload_n 2] (.if_icmp .gt 8)) (cno (cat E_Mod_best [.iload 6] (.ifCond .eq 31)))))
  (blk E_Mod_best [.iload 5, .istore_n 1, .aload_n 0, .getfield 13, .bipush 12, .iaload, .istore_n 2, .aload_n 0, .getfield 13, .bipush 11, .iaload, .istore_n 3, .aload_n 0, .getfield 13, .bipush 7, .iaload, .istore 4])
  (blk E_Mod_best []))
  (blk E_Mod_best [.iinc 5 1])))))
  (blk E_Mod_best []) zFU)
  (rti E_Mod_best [.iload_n 1])))
def x_Mod_best : Ex := zrv 6 (exb true 7 d_Mod_best)
abbrev r_Mod_best : Room := ({ frames := 7, cells := 0, slots := 0, locals := 163 } : Room)
theorem eo_Mod_best (hw : zWok w) (cx : CX w p s m args c b_Mod_best 7 "CoilSlitsModel") : EnvOk w true p l e r_Mod_best s m args below meth c Q b_Mod_best 7 "CoilSlitsModel" E_Mod_best :=
  ⟨rfl, by decide +kernel, by decide +kernel, by decide +kernel, hw, fun h => absurd h (by decide),
  List.forall_mem_cons.mpr ⟨call_V cx (ct_Mod_tries w l hw) tw_1099 tw_1096 tw_8 tw_1098 tp_46 (ci := 6) (Nat.le_of_ble_eq_true rfl) rfl (by decide +kernel) ⟨Nat.le_of_ble_eq_true rfl, Nat.le_of_ble_eq_true rfl⟩, List.forall_mem_cons.mpr ⟨call_S cx (ct_Mod_servesAll w l hw) tw_981 tw_979 tw_8 tw_980 (by decide +kernel) ⟨Nat.le_of_ble_eq_true rfl, Nat.le_of_ble_eq_true rfl⟩, fun q hq => absurd hq List.not_mem_nil⟩⟩⟩
theorem sn_Mod_best (h : MC w true p l e R s m args below meth c Q b_Mod_best 7 "CoilSlitsModel" E_Mod_best 0 0 F (some .int)) : Sn (zK w true p l e R s m args below meth c Q 7) F (fun _ => False) (fun _ => False) 0 0 0 d_Mod_best 0 0 0 := by
  unfold d_Mod_best
  exact (sn_sq (pm := 12) (m_blk h zz (by decide +kernel))
  (sn_sq (pm := 145) (sn_lop (pt := 18) (pu := 142) (p2 := 142) (px := 145) (kb2 := fun _ => False) (kc2 := fun _ => False) (sc_fo m_fo (sc_no (m_cat h zz (p1 := 15) (tgt := 145) (by decide +kernel) (by decide +kernel) (by decide))))
  (sn_sq (pm := 38) (m_blk h zz (by decide +kernel))
  (sn_sq (pm := 88) (sn_ite (pt := 83) (pf := 87) (sc_an (pm := 49) (sc_no (m_cat h zz (p1 := 46) (tgt := 87) (by decide +kernel) (by decide +kernel) (by decide))) (sc_or (pm := 60) (m_cat h zz (p1 := 57) (tgt := 83) (by decide +kernel) (by decide +kernel) (by decide)) (sc_an (pm := 71) (sc_no (m_cat h zz (p1 := 68) (tgt := 87) (by decide +kernel) (by decide +kernel) (by decide))) (sc_no (m_cat h zz (p1 := 80) (tgt := 87) (by decide +kernel) (by decide +kernel) (by decide))))))
  (sn_goto (pm := 84) (m_blk h zz (by decide +kernel)) (m_goto h (off := 4) (by decide +kernel) (by decide)))
  (m_blk h zz (by decide +kernel)))
  (sn_sq (pm := 90) (m_blk h zz (by decide +kernel))
  (sn_sq (pm := 139) (sn_ite (pt := 111) (pf := 139) (sc_or (pm := 95) (m_cat h zz (p1 := 92) (tgt := 111) (by decide +kernel) (by decide +kernel) (by decide)) (sc_or (pm := 106) (m_cat h zz (p1 := 103) (tgt := 111) (by decide +kernel) (by decide +kernel) (by decide)) (sc_no (m_cat h zz (p1 := 108) (tgt := 139) (by decide +kernel) (by decide +kernel) (by decide)))))
  (m_blk h zz (by decide +kernel))
  (m_blk h zz rfl))
  (m_blk h zz (by decide +kernel))))))
  (m_blk h zz rfl) (m_goto h (off := (-130)) (by decide +kernel) (by decide)) zFU)
  (m_rti h zz (p1 := 146) (by decide +kernel) (by decide +kernel) (Nat.zero_le _) (Nat.zero_le _))))
theorem ct_Mod_best (w : Wd) (l : Launch) (hw : zWok w) : CT w l y_Mod_best b_Mod_best 7 (some .int) r_Mod_best (exb true 7 d_Mod_best) :=
  ct_plain (by decide +kernel) (fun p e s m args below meth c Q cx hnm => eo_Mod_best hw cx) (fun p e s m args below meth c Q F h => sn_Mod_best h)
theorem q_Mod_best {a : Nat} {fs : List Value} {M : Hp} {nx : Nat}  (h : M a = some (cO 6 fs)) : x_Mod_best [.ref a] (M, nx) = zres (d_Mod_best ([some (.ref a), none, none, none, none, none, none], [], (M, nx))) := q_ofV [some (.ref a), none, none, none, none, none, none] h rfl (Nat.le_of_ble_eq_true rfl) (Or.inr rfl)
theorem lc_Mod_best_188 : lookI (eC E_Mod_best) (.invokevirtual 188) = some (1, x_Mod_tries) := rfl
theorem lc_Mod_best_126 : lookI (eC E_Mod_best) (.invokestatic 126) = some (1, x_Mod_servesAll) := rfl
theorem lf_Mod_best_13 : lookN (eF E_Mod_best) 13 = some (6, 1) := rfl
theorem lb_Mod_best : eB E_Mod_best = true := rfl
theorem lt_Mod_best : eT E_Mod_best = zST := rfl
-- CoilSlitsModel.bestRule
def E_Mod_bestRule : Env := (true, [(25, 6, 6)], [(.invokevirtual 195, 1, x_Mod_best)], [], [], zST, false)
def d_Mod_bestRule : Dn := (rti E_Mod_bestRule [.aload_n 0, .iconst 0, .putfield 25, .aload_n 0, .invokevirtual 195])
def x_Mod_bestRule : Ex := zrv 6 (exb true 1 d_Mod_bestRule)
abbrev r_Mod_bestRule : Room := ({ frames := 8, cells := 0, slots := 0, locals := 189 } : Room)
theorem eo_Mod_bestRule (hw : zWok w) (cx : CX w p s m args c b_Mod_bestRule 1 "CoilSlitsModel") : EnvOk w true p l e r_Mod_bestRule s m args below meth c Q b_Mod_bestRule 1 "CoilSlitsModel" E_Mod_bestRule :=
  ⟨rfl, by decide +kernel, by decide +kernel, by decide +kernel, hw, fun h => absurd h (by decide),
  List.forall_mem_cons.mpr ⟨call_V cx (ct_Mod_best w l hw) tw_1107 tw_1104 tw_8 tw_1106 tp_47 (ci := 6) (Nat.le_of_ble_eq_true rfl) rfl (by decide +kernel) ⟨Nat.le_of_ble_eq_true rfl, Nat.le_of_ble_eq_true rfl⟩, fun q hq => absurd hq List.not_mem_nil⟩⟩
theorem sn_Mod_bestRule (h : MC w true p l e R s m args below meth c Q b_Mod_bestRule 1 "CoilSlitsModel" E_Mod_bestRule 0 0 F (some .int)) : Sn (zK w true p l e R s m args below meth c Q 1) F (fun _ => False) (fun _ => False) 0 0 0 d_Mod_bestRule 0 0 0 := by
  unfold d_Mod_bestRule
  exact (m_rti h zz (p1 := 9) (by decide +kernel) (by decide +kernel) (Nat.zero_le _) (Nat.zero_le _))
theorem ct_Mod_bestRule (w : Wd) (l : Launch) (hw : zWok w) : CT w l y_Mod_bestRule b_Mod_bestRule 1 (some .int) r_Mod_bestRule (exb true 1 d_Mod_bestRule) :=
  ct_plain (by decide +kernel) (fun p e s m args below meth c Q cx hnm => eo_Mod_bestRule hw cx) (fun p e s m args below meth c Q F h => sn_Mod_bestRule h)
theorem q_Mod_bestRule {a : Nat} {fs : List Value} {M : Hp} {nx : Nat}  (h : M a = some (cO 6 fs)) : x_Mod_bestRule [.ref a] (M, nx) = zres (d_Mod_bestRule ([some (.ref a)], [], (M, nx))) := q_ofV [some (.ref a)] h rfl (Nat.le_of_ble_eq_true rfl) (Or.inr rfl)
theorem lc_Mod_bestRule_195 : lookI (eC E_Mod_bestRule) (.invokevirtual 195) = some (1, x_Mod_best) := rfl
theorem lf_Mod_bestRule_25 : lookN (eF E_Mod_bestRule) 25 = some (6, 6) := rfl
theorem lb_Mod_bestRule : eB E_Mod_bestRule = true := rfl
-- CoilSlitsModel.wider
def E_Mod_wider : Env := (true, [(7, 6, 0)], [(.invokestatic 44, 3, x_Mod_of), (.invokestatic 51, 2, x_Mod_topOf)], [], [], zST, false)
def d_Mod_wider : Dn := (sq (blk E_Mod_wider [.iconst 0, .istore_n 2, .iconst 0, .istore_n 3])
  (sq (lop (cno (cat E_Mod_wider [.iload_n 3, .aload_n 0, .getfield 7, .bipush 16, .iload_n 1, .iadd, .iaload] (.if_icmp .ge 49)))
  (sq (blk E_Mod_wider [.iload_n 2])
  (sq (ite' (cno (cat E_Mod_wider [.aload_n 0, .getfield 7, .iconst 5, .iload_n 1, .imul, .iload_n 3, .iadd, .iconst 1, .invokestatic 44, .aload_n 0, .getfield 7, .aload_n 0, .getfield 7, .iload_n 1, .invokestatic 51, .iconst 1, .invokestatic 44] (.if_icmp .le 7)))
  (blk E_Mod_wider [.iconst 1])
  (blk E_Mod_wider [.iconst 0]))
  (blk E_Mod_wider [.iadd, .istore_n 2, .iinc 3 1])))
  (blk E_Mod_wider []) zFU)
  (rti E_Mod_wider [.iload_n 2])))
def x_Mod_wider : Ex := zrv 6 (exb true 4 d_Mod_wider)
abbrev r_Mod_wider : Room := ({ frames := 1, cells := 0, slots := 0, locals := 22 } : Room)
theorem eo_Mod_wider (hw : zWok w) (cx : CX w p s m args c b_Mod_wider 4 "CoilSlitsModel") : EnvOk w true p l e r_Mod_wider s m args below meth c Q b_Mod_wider 4 "CoilSlitsModel" E_Mod_wider :=
  ⟨rfl, by decide +kernel, by decide +kernel, by decide +kernel, hw, fun h => absurd h (by decide),
  List.forall_mem_cons.mpr ⟨call_S cx (ct_Mod_of w l hw) tw_895 tw_893 tw_8 tw_894 (by decide +kernel) ⟨Nat.le_of_ble_eq_true rfl, Nat.le_of_ble_eq_true rfl⟩, List.forall_mem_cons.mpr ⟨call_S cx (ct_Mod_topOf w l hw) tw_892 tw_890 tw_8 tw_891 (by decide +kernel) ⟨Nat.le_of_ble_eq_true rfl, Nat.le_of_ble_eq_true rfl⟩, fun q hq => absurd hq List.not_mem_nil⟩⟩⟩
theorem sn_Mod_wider (h : MC w true p l e R s m args below meth c Q b_Mod_wider 4 "CoilSlitsModel" E_Mod_wider 0 0 F (some .int)) : Sn (zK w true p l e R s m args below meth c Q 4) F (fun _ => False) (fun _ => False) 0 0 0 d_Mod_wider 0 0 0 := by
  unfold d_Mod_wider
  exact (sn_sq (pm := 4) (m_blk h zz (by decide +kernel))
  (sn_sq (pm := 63) (sn_lop (pt := 17) (pu := 60) (p2 := 60) (px := 63) (kb2 := fun _ => False) (kc2 := fun _ => False) (sc_no (m_cat h zz (p1 := 14) (tgt := 63) (by decide +kernel) (by decide +kernel) (by decide)))
  (sn_sq (pm := 18) (m_blk h zz (by decide +kernel))
  (sn_sq (pm := 55) (sn_ite (pt := 50) (pf := 54) (sc_no (m_cat h zz (p1 := 47) (tgt := 54) (by decide +kernel) (by decide +kernel) (by decide)))
  (sn_goto (pm := 51) (m_blk h zz (by decide +kernel)) (m_goto h (off := 4) (by decide +kernel) (by decide)))
  (m_blk h zz (by decide +kernel)))
  (m_blk h zz (by decide +kernel))))
  (m_blk h zz rfl) (m_goto h (off := (-56)) (by decide +kernel) (by decide)) zFU)
  (m_rti h zz (p1 := 64) (by decide +kernel) (by decide +kernel) (Nat.zero_le _) (Nat.zero_le _))))
theorem ct_Mod_wider (w : Wd) (l : Launch) (hw : zWok w) : CT w l y_Mod_wider b_Mod_wider 4 (some .int) r_Mod_wider (exb true 4 d_Mod_wider) :=
  ct_plain (by decide +kernel) (fun p e s m args below meth c Q cx hnm => eo_Mod_wider hw cx) (fun p e s m args below meth c Q F h => sn_Mod_wider h)
theorem q_Mod_wider {a : Nat} {fs : List Value} {M : Hp} {nx : Nat} (x0 : Int32) (h : M a = some (cO 6 fs)) : x_Mod_wider [.ref a, .int x0] (M, nx) = zres (d_Mod_wider ([some (.ref a), some (.int x0), none, none], [], (M, nx))) := q_ofV [some (.ref a), some (.int x0), none, none] h rfl (Nat.le_of_ble_eq_true rfl) (Or.inr rfl)
theorem lc_Mod_wider_44 : lookI (eC E_Mod_wider) (.invokestatic 44) = some (3, x_Mod_of) := rfl
theorem lc_Mod_wider_51 : lookI (eC E_Mod_wider) (.invokestatic 51) = some (2, x_Mod_topOf) := rfl
theorem lf_Mod_wider_7 : lookN (eF E_Mod_wider) 7 = some (6, 0) := rfl
theorem lb_Mod_wider : eB E_Mod_wider = true := rfl
theorem lt_Mod_wider : eT E_Mod_wider = zST := rfl
-- CoilSlitsModel.bestPlace
def E_Mod_bestPlace : Env := (true, [(7, 6, 0)], [(.invokevirtual 198, 2, x_Mod_wider)], [], [], zST, false)
def d_Mod_bestPlace : Dn := (sq (blk E_Mod_bestPlace [.iconst (-1), .istore_n 1, .iconst 0, .istore_n 2, .iconst 0, .istore_n 3])
  (sq (lop (cfo [4] (cno (cat E_Mod_bestPlace [.iload_n 3, .bipush 6] (.if_icmp .ge 58))))
  (sq (blk E_Mod_bestPlace [.bipush 10, .aload_n 0, .iload_n 3, .invokevirtual 198, .imul, .aload_n 0, .getfield 7, .bipush 16, .iload_n 3, .iadd, .iaload, .iadd, .istore 4])
  (sq (ite' (can (cno (cat E_Mod_bestPlace [.aload_n 0, .getfield 7, .bipush 16, .iload_n 3, .iadd, .iaload, .iconst 5] (.if_icmp .ge 19))) (cor (cat E_Mod_bestPlace [.iload_n 1, .iconst (-1)] (.if_icmp .eq 9)) (cno (cat E_Mod_bestPlace [.iload 4, .iload_n 2] (.if_icmp .ge 8)))))
  (blk E_Mod_bestPlace [.iload_n 3, .istore_n 1, .iload 4, .istore_n 2])
  (blk E_Mod_bestPlace []))
  (blk E_Mod_bestPlace [.iinc 3 1])))
  (blk E_Mod_bestPlace []) zFU)
  (rti E_Mod_bestPlace [.iload_n 1])))
def x_Mod_bestPlace : Ex := zrv 6 (exb true 5 d_Mod_bestPlace)
abbrev r_Mod_bestPlace : Room := ({ frames := 2, cells := 0, slots := 0, locals := 45 } : Room)
theorem eo_Mod_bestPlace (hw : zWok w) (cx : CX w p s m args c b_Mod_bestPlace 5 "CoilSlitsModel") : EnvOk w true p l e r_Mod_bestPlace s m args below meth c Q b_Mod_bestPlace 5 "CoilSlitsModel" E_Mod_bestPlace :=
  ⟨rfl, by decide +kernel, by decide +kernel, by decide +kernel, hw, fun h => absurd h (by decide),
  List.forall_mem_cons.mpr ⟨call_V cx (ct_Mod_wider w l hw) tw_1119 tw_1116 tw_8 tw_1118 tp_49 (ci := 6) (Nat.le_of_ble_eq_true rfl) rfl (by decide +kernel) ⟨Nat.le_of_ble_eq_true rfl, Nat.le_of_ble_eq_true rfl⟩, fun q hq => absurd hq List.not_mem_nil⟩⟩
theorem sn_Mod_bestPlace (h : MC w true p l e R s m args below meth c Q b_Mod_bestPlace 5 "CoilSlitsModel" E_Mod_bestPlace 0 0 F (some .int)) : Sn (zK w true p l e R s m args below meth c Q 5) F (fun _ => False) (fun _ => False) 0 0 0 d_Mod_bestPlace 0 0 0 := by
  unfold d_Mod_bestPlace
  exact (sn_sq (pm := 6) (m_blk h zz (by decide +kernel))
  (sn_sq (pm := 67) (sn_lop (pt := 12) (pu := 64) (p2 := 64) (px := 67) (kb2 := fun _ => False) (kc2 := fun _ => False) (sc_fo m_fo (sc_no (m_cat h zz (p1 := 9) (tgt := 67) (by decide +kernel) (by decide +kernel) (by decide))))
  (sn_sq (pm := 32) (m_blk h zz (by decide +kernel))
  (sn_sq (pm := 61) (sn_ite (pt := 56) (pf := 61) (sc_an (pm := 45) (sc_no (m_cat h zz (p1 := 42) (tgt := 61) (by decide +kernel) (by decide +kernel) (by decide))) (sc_or (pm := 50) (m_cat h zz (p1 := 47) (tgt := 56) (by decide +kernel) (by decide +kernel) (by decide)) (sc_no (m_cat h zz (p1 := 53) (tgt := 61) (by decide +kernel) (by decide +kernel) (by decide)))))
  (m_blk h zz (by decide +kernel))
  (m_blk h zz rfl))
  (m_blk h zz (by decide +kernel))))
  (m_blk h zz rfl) (m_goto h (off := (-58)) (by decide +kernel) (by decide)) zFU)
  (m_rti h zz (p1 := 68) (by decide +kernel) (by decide +kernel) (Nat.zero_le _) (Nat.zero_le _))))
theorem ct_Mod_bestPlace (w : Wd) (l : Launch) (hw : zWok w) : CT w l y_Mod_bestPlace b_Mod_bestPlace 5 (some .int) r_Mod_bestPlace (exb true 5 d_Mod_bestPlace) :=
  ct_plain (by decide +kernel) (fun p e s m args below meth c Q cx hnm => eo_Mod_bestPlace hw cx) (fun p e s m args below meth c Q F h => sn_Mod_bestPlace h)
theorem q_Mod_bestPlace {a : Nat} {fs : List Value} {M : Hp} {nx : Nat}  (h : M a = some (cO 6 fs)) : x_Mod_bestPlace [.ref a] (M, nx) = zres (d_Mod_bestPlace ([some (.ref a), none, none, none, none], [], (M, nx))) := q_ofV [some (.ref a), none, none, none, none] h rfl (Nat.le_of_ble_eq_true rfl) (Or.inr rfl)
theorem lc_Mod_bestPlace_198 : lookI (eC E_Mod_bestPlace) (.invokevirtual 198) = some (2, x_Mod_wider) := rfl
theorem lf_Mod_bestPlace_7 : lookN (eF E_Mod_bestPlace) 7 = some (6, 0) := rfl
theorem lb_Mod_bestPlace : eB E_Mod_bestPlace = true := rfl
theorem lt_Mod_bestPlace : eT E_Mod_bestPlace = zST := rfl
-- CoilSlitsModel.bestStack
def E_Mod_bestStack : Env := (true, [(25, 6, 6)], [(.invokevirtual 201, 1, x_Mod_bestPlace)], [], [], zST, false)
def d_Mod_bestStack : Dn := (rti E_Mod_bestStack [.aload_n 0, .iconst 0, .putfield 25, .aload_n 0, .invokevirtual 201])
def x_Mod_bestStack : Ex := zrv 6 (exb true 1 d_Mod_bestStack)
abbrev r_Mod_bestStack : Room := ({ frames := 3, cells := 0, slots := 0, locals := 69 } : Room)
theorem eo_Mod_bestStack (hw : zWok w) (cx : CX w p s m args c b_Mod_bestStack 1 "CoilSlitsModel") : EnvOk w true p l e r_Mod_bestStack s m args below meth c Q b_Mod_bestStack 1 "CoilSlitsModel" E_Mod_bestStack :=
  ⟨rfl, by decide +kernel, by decide +kernel, by decide +kernel, hw, fun h => absurd h (by decide),
  List.forall_mem_cons.mpr ⟨call_V cx (ct_Mod_bestPlace w l hw) tw_1115 tw_1112 tw_8 tw_1114 tp_48 (ci := 6) (Nat.le_of_ble_eq_true rfl) rfl (by decide +kernel) ⟨Nat.le_of_ble_eq_true rfl, Nat.le_of_ble_eq_true rfl⟩, fun q hq => absurd hq List.not_mem_nil⟩⟩
theorem sn_Mod_bestStack (h : MC w true p l e R s m args below meth c Q b_Mod_bestStack 1 "CoilSlitsModel" E_Mod_bestStack 0 0 F (some .int)) : Sn (zK w true p l e R s m args below meth c Q 1) F (fun _ => False) (fun _ => False) 0 0 0 d_Mod_bestStack 0 0 0 := by
  unfold d_Mod_bestStack
  exact (m_rti h zz (p1 := 9) (by decide +kernel) (by decide +kernel) (Nat.zero_le _) (Nat.zero_le _))
theorem ct_Mod_bestStack (w : Wd) (l : Launch) (hw : zWok w) : CT w l y_Mod_bestStack b_Mod_bestStack 1 (some .int) r_Mod_bestStack (exb true 1 d_Mod_bestStack) :=
  ct_plain (by decide +kernel) (fun p e s m args below meth c Q cx hnm => eo_Mod_bestStack hw cx) (fun p e s m args below meth c Q F h => sn_Mod_bestStack h)
theorem q_Mod_bestStack {a : Nat} {fs : List Value} {M : Hp} {nx : Nat}  (h : M a = some (cO 6 fs)) : x_Mod_bestStack [.ref a] (M, nx) = zres (d_Mod_bestStack ([some (.ref a)], [], (M, nx))) := q_ofV [some (.ref a)] h rfl (Nat.le_of_ble_eq_true rfl) (Or.inr rfl)
theorem lc_Mod_bestStack_201 : lookI (eC E_Mod_bestStack) (.invokevirtual 201) = some (1, x_Mod_bestPlace) := rfl
theorem lf_Mod_bestStack_25 : lookN (eF E_Mod_bestStack) 25 = some (6, 6) := rfl
theorem lb_Mod_bestStack : eB E_Mod_bestStack = true := rfl
-- CoilSlitsModel.share
def E_Mod_share : Env := (true, [(7, 6, 0)], [], [], [], zST, false)
def d_Mod_share : Dn := (sq (blk E_Mod_share [.aload_n 0, .getfield 7, .bipush 9, .iaload, .aload_n 0, .getfield 7, .bipush 10, .iaload, .iadd, .aload_n 0, .getfield 7, .bipush 11, .iaload, .iadd, .istore_n 1])
  (sq (ite' (cno (cat E_Mod_share [.iload_n 1] (.ifCond .ne 7)))
  (blk E_Mod_share [.dconst 1])
  (blk E_Mod_share [.aload_n 0, .getfield 7, .bipush 9, .iaload, .i2d, .iload_n 1, .i2d, .ddiv]))
  (rtd E_Mod_share [])))
def x_Mod_share : Ex := zrv 6 (exb true 2 d_Mod_share)
abbrev r_Mod_share : Room := ({ frames := 0, cells := 0, slots := 0, locals := 0 } : Room)
theorem eo_Mod_share (hw : zWok w) (cx : CX w p s m args c b_Mod_share 2 "CoilSlitsModel") : EnvOk w true p l e r_Mod_share s m args below meth c Q b_Mod_share 2 "CoilSlitsModel" E_Mod_share :=
  ⟨rfl, by decide +kernel, by decide +kernel, by decide +kernel, hw, fun h => absurd h (by decide),
  fun q hq => absurd hq List.not_mem_nil⟩
theorem sn_Mod_share (h : MC w true p l e R s m args below meth c Q b_Mod_share 2 "CoilSlitsModel" E_Mod_share 0 0 F (some .double)) : Sn (zK w true p l e R s m args below meth c Q 2) F (fun _ => False) (fun _ => False) 0 0 0 d_Mod_share 0 0 0 := by
  unfold d_Mod_share
  exact (sn_sq (pm := 24) (m_blk h zz (by decide +kernel))
  (sn_sq (pm := 43) (sn_ite (pt := 28) (pf := 32) (sc_no (m_cat h zz (p1 := 25) (tgt := 32) (by decide +kernel) (by decide +kernel) (by decide)))
  (sn_goto (pm := 29) (m_blk h zz (by decide +kernel)) (m_goto h (off := 14) (by decide +kernel) (by decide)))
  (m_blk h zz (by decide +kernel)))
  (m_rtd h zz (p1 := 43) (by decide +kernel) (by decide +kernel) (Nat.zero_le _) (Nat.zero_le _))))
theorem ct_Mod_share (w : Wd) (l : Launch) (hw : zWok w) : CT w l y_Mod_share b_Mod_share 2 (some .double) r_Mod_share (exb true 2 d_Mod_share) :=
  ct_plain (by decide +kernel) (fun p e s m args below meth c Q cx hnm => eo_Mod_share hw cx) (fun p e s m args below meth c Q F h => sn_Mod_share h)
theorem q_Mod_share {a : Nat} {fs : List Value} {M : Hp} {nx : Nat}  (h : M a = some (cO 6 fs)) : x_Mod_share [.ref a] (M, nx) = zres (d_Mod_share ([some (.ref a), none], [], (M, nx))) := q_ofV [some (.ref a), none] h rfl (Nat.le_of_ble_eq_true rfl) (Or.inr rfl)
theorem lf_Mod_share_7 : lookN (eF E_Mod_share) 7 = some (6, 0) := rfl
theorem lb_Mod_share : eB E_Mod_share = true := rfl
theorem lt_Mod_share : eT E_Mod_share = zST := rfl
-- CoilSlitsModel.used
def E_Mod_used : Env := (true, [(25, 6, 6)], [(.invokevirtual 204, 1, x_Mod_share)], [], [], zST, false)
def d_Mod_used : Dn := (rtd E_Mod_used [.aload_n 0, .iconst 0, .putfield 25, .aload_n 0, .invokevirtual 204])
def x_Mod_used : Ex := zrv 6 (exb true 1 d_Mod_used)
abbrev r_Mod_used : Room := ({ frames := 1, cells := 0, slots := 0, locals := 21 } : Room)
theorem eo_Mod_used (hw : zWok w) (cx : CX w p s m args c b_Mod_used 1 "CoilSlitsModel") : EnvOk w true p l e r_Mod_used s m args below meth c Q b_Mod_used 1 "CoilSlitsModel" E_Mod_used :=
  ⟨rfl, by decide +kernel, by decide +kernel, by decide +kernel, hw, fun h => absurd h (by decide),
  List.forall_mem_cons.mpr ⟨call_V cx (ct_Mod_share w l hw) tw_1127 tw_1124 tw_8 tw_1126 tp_50 (ci := 6) (Nat.le_of_ble_eq_true rfl) rfl (by decide +kernel) ⟨Nat.le_of_ble_eq_true rfl, Nat.le_of_ble_eq_true rfl⟩, fun q hq => absurd hq List.not_mem_nil⟩⟩
theorem sn_Mod_used (h : MC w true p l e R s m args below meth c Q b_Mod_used 1 "CoilSlitsModel" E_Mod_used 0 0 F (some .double)) : Sn (zK w true p l e R s m args below meth c Q 1) F (fun _ => False) (fun _ => False) 0 0 0 d_Mod_used 0 0 0 := by
  unfold d_Mod_used
  exact (m_rtd h zz (p1 := 9) (by decide +kernel) (by decide +kernel) (Nat.zero_le _) (Nat.zero_le _))
theorem ct_Mod_used (w : Wd) (l : Launch) (hw : zWok w) : CT w l y_Mod_used b_Mod_used 1 (some .double) r_Mod_used (exb true 1 d_Mod_used) :=
  ct_plain (by decide +kernel) (fun p e s m args below meth c Q cx hnm => eo_Mod_used hw cx) (fun p e s m args below meth c Q F h => sn_Mod_used h)
theorem q_Mod_used {a : Nat} {fs : List Value} {M : Hp} {nx : Nat}  (h : M a = some (cO 6 fs)) : x_Mod_used [.ref a] (M, nx) = zres (d_Mod_used ([some (.ref a)], [], (M, nx))) := q_ofV [some (.ref a)] h rfl (Nat.le_of_ble_eq_true rfl) (Or.inr rfl)
theorem lc_Mod_used_204 : lookI (eC E_Mod_used) (.invokevirtual 204) = some (1, x_Mod_share) := rfl
theorem lf_Mod_used_25 : lookN (eF E_Mod_used) 25 = some (6, 6) := rfl
theorem lb_Mod_used : eB E_Mod_used = true := rfl
-- java/lang/Double.isNaN
def E_Dbl_isNaN : Env := (false, [], [], [], [], zST, false)
def d_Dbl_isNaN : Dn := (sq (ite' (cno (cat E_Dbl_isNaN [.dload_n 0, .dload_n 0, .dcmp .l] (.ifCond .eq 7)))
  (blk E_Dbl_isNaN [.iconst 1])
  (blk E_Dbl_isNaN [.iconst 0]))
  (rtz E_Dbl_isNaN []))
def x_Dbl_isNaN : Ex := exb false 2 d_Dbl_isNaN
abbrev r_Dbl_isNaN : Room := ({ frames := 0, cells := 0, slots := 0, locals := 0 } : Room)
theorem eo_Dbl_isNaN (hw : zWok w) (cx : CX w p s m args c b_Dbl_isNaN 2 "java/lang/Double") : EnvOk w false p l e r_Dbl_isNaN s m args below meth c Q b_Dbl_isNaN 2 "java/lang/Double" E_Dbl_isNaN :=
  ⟨rfl, by decide +kernel, by decide +kernel, by decide +kernel, hw, fun h => absurd h (by decide),
  fun q hq => absurd hq List.not_mem_nil⟩
theorem sn_Dbl_isNaN (h : MC w false p l e R s m args below meth c Q b_Dbl_isNaN 2 "java/lang/Double" E_Dbl_isNaN 0 0 F (some .boolean)) : Sn (zK w false p l e R s m args below meth c Q 2) F (fun _ => False) (fun _ => False) 0 0 0 d_Dbl_isNaN 0 0 0 := by
  unfold d_Dbl_isNaN
  exact (sn_sq (pm := 11) (sn_ite (pt := 6) (pf := 10) (sc_no (m_cat h zz (p1 := 3) (tgt := 10) (by decide +kernel) (by decide +kernel) (by decide)))
  (sn_goto (pm := 7) (m_blk h zz (by decide +kernel)) (m_goto h (off := 4) (by decide +kernel) (by decide)))
  (m_blk h zz (by decide +kernel)))
  (m_rtz h zz (p1 := 11) (by decide +kernel) (by decide +kernel) (Nat.zero_le _) (Nat.zero_le _)))
theorem ct_Dbl_isNaN (w : Wd) (l : Launch) (hw : zWok w) : CT w l y_Dbl_isNaN b_Dbl_isNaN 2 (some .boolean) r_Dbl_isNaN (exb false 2 d_Dbl_isNaN) :=
  ct_plain (by decide +kernel) (fun p e s m args below meth c Q cx hnm => eo_Dbl_isNaN hw cx) (fun p e s m args below meth c Q F h => sn_Dbl_isNaN h)
theorem q_Dbl_isNaN (x0 : UInt64) (g : G) : x_Dbl_isNaN [.double x0] g = zres (d_Dbl_isNaN ([some (.double x0), none], [], g)) := q_of [some (.double x0), none] rfl (Nat.le_of_ble_eq_true rfl) (Or.inl rfl)
theorem lb_Dbl_isNaN : eB E_Dbl_isNaN = false := rfl
-- java/lang/Double.doubleToLongBits
def E_Dbl_doubleToLongBits : Env := (false, [], [(.invokestatic 122, 1, x_Dbl_isNaN), (.invokestatic 134, 1, xRaw)], [(137, .long 9221120237041090560)], [], zST, false)
def d_Dbl_doubleToLongBits : Dn := (sq (ite' (cno (cat E_Dbl_doubleToLongBits [.dload_n 0, .invokestatic 122] (.ifCond .ne 8)))
  (rtl E_Dbl_doubleToLongBits [.dload_n 0, .invokestatic 134])
  (blk E_Dbl_doubleToLongBits []))
  (rtl E_Dbl_doubleToLongBits [.ldc2_w 137]))
def x_Dbl_doubleToLongBits : Ex := exb false 2 d_Dbl_doubleToLongBits
abbrev r_Dbl_doubleToLongBits : Room := ({ frames := 1, cells := 0, slots := 0, locals := 60 } : Room)
theorem eo_Dbl_doubleToLongBits (hw : zWok w) (cx : CX w p s m args c b_Dbl_doubleToLongBits 2 "java/lang/Double") : EnvOk w false p l e r_Dbl_doubleToLongBits s m args below meth c Q b_Dbl_doubleToLongBits 2 "java/lang/Double" E_Dbl_doubleToLongBits :=
  ⟨rfl, by decide +kernel, by decide +kernel, by decide +kernel, hw, fun h => absurd h (by decide),
  List.forall_mem_cons.mpr ⟨call_S cx (ct_Dbl_isNaN w l hw) tw_1139 tw_1137 tw_16 tw_1138 (by decide +kernel) ⟨Nat.le_of_ble_eq_true rfl, Nat.le_of_ble_eq_true rfl⟩, List.forall_mem_cons.mpr ⟨call_raw cx tw_1140 tw_1142 tw_1141 tw_16 ⟨Nat.le_of_ble_eq_true rfl, Nat.le_of_ble_eq_true rfl⟩, fun q hq => absurd hq List.not_mem_nil⟩⟩⟩
theorem sn_Dbl_doubleToLongBits (h : MC w false p l e R s m args below meth c Q b_Dbl_doubleToLongBits 2 "java/lang/Double" E_Dbl_doubleToLongBits 0 0 F (some .long)) : Sn (zK w false p l e R s m args below meth c Q 2) F (fun _ => False) (fun _ => False) 0 0 0 d_Dbl_doubleToLongBits 0 0 0 := by
  unfold d_Dbl_doubleToLongBits
  exact (sn_sq (pm := 12) (sn_ite (pt := 7) (pf := 12) (sc_no (m_cat h zz (p1 := 4) (tgt := 12) (by decide +kernel) (by decide +kernel) (by decide)))
  (m_rtl h zz (p1 := 11) (by decide +kernel) (by decide +kernel) (Nat.zero_le _) (Nat.zero_le _))
  (m_blk h zz rfl))
  (m_rtl h zz (p1 := 15) (by decide +kernel) (by decide +kernel) (Nat.zero_le _) (Nat.zero_le _)))
theorem ct_Dbl_doubleToLongBits (w : Wd) (l : Launch) (hw : zWok w) : CT w l y_Dbl_doubleToLongBits b_Dbl_doubleToLongBits 2 (some .long) r_Dbl_doubleToLongBits (exb false 2 d_Dbl_doubleToLongBits) :=
  ct_plain (by decide +kernel) (fun p e s m args below meth c Q cx hnm => eo_Dbl_doubleToLongBits hw cx) (fun p e s m args below meth c Q F h => sn_Dbl_doubleToLongBits h)
theorem q_Dbl_doubleToLongBits (x0 : UInt64) (g : G) : x_Dbl_doubleToLongBits [.double x0] g = zres (d_Dbl_doubleToLongBits ([some (.double x0), none], [], g)) := q_of [some (.double x0), none] rfl (Nat.le_of_ble_eq_true rfl) (Or.inl rfl)
theorem lc_Dbl_doubleToLongBits_122 : lookI (eC E_Dbl_doubleToLongBits) (.invokestatic 122) = some (1, x_Dbl_isNaN) := rfl
theorem lc_Dbl_doubleToLongBits_134 : lookI (eC E_Dbl_doubleToLongBits) (.invokestatic 134) = some (1, xRaw) := rfl
theorem lk_Dbl_doubleToLongBits_137 : lookN (eK E_Dbl_doubleToLongBits) 137 = some (.long 9221120237041090560) := rfl
theorem lb_Dbl_doubleToLongBits : eB E_Dbl_doubleToLongBits = false := rfl
-- CoilSlitsModel.digest
def E_Mod_digest : Env := (false, [(25, 6, 6), (7, 6, 0), (134, 6, 5), (19, 6, 4)], [(.invokevirtual 182, 2, x_Mod_counted), (.invokevirtual 170, 2, x_Mod_coilAt), (.invokestatic 40, 2, x_Mod_isAt), (.invokevirtual 173, 3, x_Mod_ofCoil), (.invokevirtual 176, 3, x_Mod_ofOrder), (.invokevirtual 185, 2, x_Mod_choiceFor), (.invokestatic 48, 3, x_Mod_by), (.invokevirtual 191, 4, x_Mod_byServing), (.invokevirtual 195, 1, x_Mod_best), (.invokevirtual 201, 1, x_Mod_bestPlace), (.invokevirtual 204, 1, x_Mod_share), (.invokestatic 212, 1, x_Dbl_doubleToLongBits)], [(208, .long 2879), (210, .long 31)], [], zST, false)
def d_Mod_digest : Dn := (sq (blk E_Mod_digest [.aload_n 0, .iconst 0, .putfield 25, .ldc2_w 208, .lstore_n 1, .iconst 0, .istore_n 3])
  (sq (lop (cfo [4] (cno (cat E_Mod_digest [.iload_n 3, .bipush 14] (.if_icmp .ge 22))))
  (blk E_Mod_digest [.ldc2_w 210, .lload_n 1, .lmul, .aload_n 0, .iload_n 3, .invokevirtual 182, .i2l, .ladd, .lstore_n 1, .iinc 3 1])
  (blk E_Mod_digest []) zFU)
  (sq (blk E_Mod_digest [.iconst 0, .istore_n 3])
  (sq (lop (cfo [4] (cno (cat E_Mod_digest [.iload_n 3, .iconst 4] (.if_icmp .ge 23))))
  (blk E_Mod_digest [.ldc2_w 210, .lload_n 1, .lmul, .aload_n 0, .getfield 7, .iload_n 3, .iaload, .i2l, .ladd, .lstore_n 1, .iinc 3 1])
  (blk E_Mod_digest []) zFU)
  (sq (blk E_Mod_digest [.iconst 0, .istore_n 3])
  (sq (lop (cfo [4] (cno (cat E_Mod_digest [.iload_n 3, .bipush 30] (.if_icmp .ge 64))))
  (sq (blk E_Mod_digest [.ldc2_w 210, .lload_n 1, .lmul, .aload_n 0, .iload_n 3, .invokevirtual 170, .i2l, .ladd, .lstore_n 1, .iconst 0, .istore 4])
  (sq (lop (can (cno (cat E_Mod_digest [.iload 4, .bipush 6] (.if_icmp .ge 35))) (cno (cat E_Mod_digest [.aload_n 0, .getfield 7, .iload_n 3, .invokestatic 40] (.ifCond .eq 24))))
  (blk E_Mod_digest [.ldc2_w 210, .lload_n 1, .lmul, .aload_n 0, .iload_n 3, .iload 4, .invokevirtual 173, .i2l, .ladd, .lstore_n 1, .iinc 4 1])
  (blk E_Mod_digest []) zFU)
  (blk E_Mod_digest [.iinc 3 1])))
  (blk E_Mod_digest []) zFU)
  (sq (blk E_Mod_digest [.iconst 0, .istore_n 3])
  (sq (lop (cfo [4] (cno (cat E_Mod_digest [.iload_n 3, .aload_n 0, .getfield 7, .bipush 15, .iaload] (.if_icmp .ge 98))))
  (sq (blk E_Mod_digest [.iconst 0, .istore 4])
  (sq (lop (cno (cat E_Mod_digest [.iload 4, .bipush 8] (.if_icmp .ge 24)))
  (blk E_Mod_digest [.ldc2_w 210, .lload_n 1, .lmul, .aload_n 0, .iload_n 3, .iload 4, .invokevirtual 176, .i2l, .ladd, .lstore_n 1, .iinc 4 1])
  (blk E_Mod_digest []) zFU)
  (sq (blk E_Mod_digest [.ldc2_w 210, .lload_n 1, .lmul, .aload_n 0, .iload_n 3, .invokevirtual 185, .i2l, .ladd, .lstore_n 1, .iconst 0, .istore 4])
  (sq (lop (cno (cat E_Mod_digest [.iload 4, .bipush 8] (.if_icmp .ge 38)))
  (blk E_Mod_digest [.ldc2_w 210, .lload_n 1, .lmul, .aload_n 0, .aload_n 0, .getfield 7, .iload_n 3, .iconst 0, .invokestatic 48, .iload 4, .iconst 4, .idiv, .iload 4, .iconst 4, .irem, .invokevirtual 191, .i2l, .ladd, .lstore_n 1, .iinc 4 1])
  (blk E_Mod_digest []) zFU)
  (blk E_Mod_digest [.iinc 3 1])))))
  (blk E_Mod_digest []) zFU)
  (sq (blk E_Mod_digest [.ldc2_w 210, .ldc2_w 210, .lload_n 1, .lmul, .aload_n 0, .invokevirtual 195, .i2l, .ladd, .lmul, .aload_n 0, .invokevirtual 201, .i2l, .ladd, .lstore_n 1, .ldc2_w 210, .ldc2_w 210, .lload_n 1, .lmul, .aload_n 0, .invokevirtual 204, .invokestatic 212, .ladd, .lmul, .aload_n 0, .getfield 134, .i2l, .ladd, .lstore_n 1, .iconst 0, .istore_n 3])
  (sq (lop (cfo [4] (cno (cat E_Mod_digest [.iload_n 3, .aload_n 0, .getfield 134] (.if_icmp .ge 23))))
  (blk E_Mod_digest [.ldc2_w 210, .lload_n 1, .lmul, .aload_n 0, .getfield 19, .iload_n 3, .iaload, .i2l, .ladd, .lstore_n 1, .iinc 3 1])
  (blk E_Mod_digest []) zFU)
  (rtl E_Mod_digest [.lload_n 1])))))))))))
def x_Mod_digest : Ex := zrv 6 (exb false 5 d_Mod_digest)
abbrev r_Mod_digest : Room := ({ frames := 8, cells := 0, slots := 0, locals := 189 } : Room)
theorem eo_Mod_digest (hw : zWok w) (cx : CX w p s m args c b_Mod_digest 5 "CoilSlitsModel") : EnvOk w false p l e r_Mod_digest s m args below meth c Q b_Mod_digest 5 "CoilSlitsModel" E_Mod_digest :=
  ⟨rfl, by decide +kernel, by decide +kernel, by decide +kernel, hw, fun h => absurd h (by decide),
  List.forall_mem_cons.mpr ⟨call_V cx (ct_Mod_counted w l hw) tw_1071 tw_1068 tw_8 tw_1070 tp_42 (ci := 6) (Nat.le_of_ble_eq_true rfl) rfl (by decide +kernel) ⟨Nat.le_of_ble_eq_true rfl, Nat.le_of_ble_eq_true rfl⟩, List.forall_mem_cons.mpr ⟨call_V cx (ct_Mod_coilAt w l hw) tw_1043 tw_1040 tw_8 tw_1042 tp_39 (ci := 6) (Nat.le_of_ble_eq_true rfl) rfl (by decide +kernel) ⟨Nat.le_of_ble_eq_true rfl, Nat.le_of_ble_eq_true rfl⟩, List.forall_mem_cons.mpr ⟨call_S cx (ct_Mod_isAt w l hw) tw_908 tw_906 tw_8 tw_907 (by decide +kernel) ⟨Nat.le_of_ble_eq_true rfl, Nat.le_of_ble_eq_true rfl⟩, List.forall_mem_cons.mpr ⟨call_V cx (ct_Mod_ofCoil w l hw) tw_1051 tw_1048 tw_8 tw_1050 tp_40 (ci := 6) (Nat.le_of_ble_eq_true rfl) rfl (by decide +kernel) ⟨Nat.le_of_ble_eq_true rfl, Nat.le_of_ble_eq_true rfl⟩, List.forall_mem_cons.mpr ⟨call_V cx (ct_Mod_ofOrder w l hw) tw_1059 tw_1056 tw_8 tw_1058 tp_41 (ci := 6) (Nat.le_of_ble_eq_true rfl) rfl (by decide +kernel) ⟨Nat.le_of_ble_eq_true rfl, Nat.le_of_ble_eq_true rfl⟩, List.forall_mem_cons.mpr ⟨call_V cx (ct_Mod_choiceFor w l hw) tw_1087 tw_1084 tw_8 tw_1086 tp_44 (ci := 6) (Nat.le_of_ble_eq_true rfl) rfl (by decide +kernel) ⟨Nat.le_of_ble_eq_true rfl, Nat.le_of_ble_eq_true rfl⟩, List.forall_mem_cons.mpr ⟨call_S cx (ct_Mod_by w l hw) tw_942 tw_940 tw_8 tw_941 (by decide +kernel) ⟨Nat.le_of_ble_eq_true rfl, Nat.le_of_ble_eq_true rfl⟩, List.forall_mem_cons.mpr ⟨call_V cx (ct_Mod_byServing w l hw) tw_1095 tw_1092 tw_8 tw_1094 tp_45 (ci := 6) (Nat.le_of_ble_eq_true rfl) rfl (by decide +kernel) ⟨Nat.le_of_ble_eq_true rfl, Nat.le_of_ble_eq_true rfl⟩, List.forall_mem_cons.mpr ⟨call_V cx (ct_Mod_best w l hw) tw_1107 tw_1104 tw_8 tw_1106 tp_47 (ci := 6) (Nat.le_of_ble_eq_true rfl) rfl (by decide +kernel) ⟨Nat.le_of_ble_eq_true rfl, Nat.le_of_ble_eq_true rfl⟩, List.forall_mem_cons.mpr ⟨call_V cx (ct_Mod_bestPlace w l hw) tw_1115 tw_1112 tw_8 tw_1114 tp_48 (ci := 6) (Nat.le_of_ble_eq_true rfl) rfl (by decide +kernel) ⟨Nat.le_of_ble_eq_true rfl, Nat.le_of_ble_eq_true rfl⟩, List.forall_mem_cons.mpr ⟨call_V cx (ct_Mod_share w l hw) tw_1127 tw_1124 tw_8 tw_1126 tp_50 (ci := 6) (Nat.le_of_ble_eq_true rfl) rfl (by decide +kernel) ⟨Nat.le_of_ble_eq_true rfl, Nat.le_of_ble_eq_true rfl⟩, List.forall_mem_cons.mpr ⟨call_S cx (ct_Dbl_doubleToLongBits w l hw) tw_1136 tw_1134 tw_16 tw_1135 (by decide +kernel) ⟨Nat.le_of_ble_eq_true rfl, Nat.le_of_ble_eq_true rfl⟩, fun q hq => absurd hq List.not_mem_nil⟩⟩⟩⟩⟩⟩⟩⟩⟩⟩⟩⟩⟩
theorem sn_Mod_digest (h : MC w false p l e R s m args below meth c Q b_Mod_digest 5 "CoilSlitsModel" E_Mod_digest 0 0 F (some .long)) : Sn (zK w false p l e R s m args below meth c Q 5) F (fun _ => False) (fun _ => False) 0 0 0 d_Mod_digest 0 0 0 := by
  unfold d_Mod_digest
  exact (sn_sq (pm := 11) (m_blk h zz (by decide +kernel))
  (sn_sq (pm := 36) (sn_lop (pt := 17) (pu := 33) (p2 := 33) (px := 36) (kb2 := fun _ => False) (kc2 := fun _ => False) (sc_fo m_fo (sc_no (m_cat h zz (p1 := 14) (tgt := 36) (by decide +kernel) (by decide +kernel) (by decide))))
  (m_blk h zz (by decide +kernel))
  (m_blk h zz rfl) (m_goto h (off := (-22)) (by decide +kernel) (by decide)) zFU)
  (sn_sq (pm := 38) (m_blk h zz (by decide +kernel))
  (sn_sq (pm := 63) (sn_lop (pt := 43) (pu := 60) (p2 := 60) (px := 63) (kb2 := fun _ => False) (kc2 := fun _ => False) (sc_fo m_fo (sc_no (m_cat h zz (p1 := 40) (tgt := 63) (by decide +kernel) (by decide +kernel) (by decide))))
  (m_blk h zz (by decide +kernel))
  (m_blk h zz rfl) (m_goto h (off := (-22)) (by decide +kernel) (by decide)) zFU)
  (sn_sq (pm := 65) (m_blk h zz (by decide +kernel))
  (sn_sq (pm := 132) (sn_lop (pt := 71) (pu := 129) (p2 := 129) (px := 132) (kb2 := fun _ => False) (kc2 := fun _ => False) (sc_fo m_fo (sc_no (m_cat h zz (p1 := 68) (tgt := 132) (by decide +kernel) (by decide +kernel) (by decide))))
  (sn_sq (pm := 87) (m_blk h zz (by decide +kernel))
  (sn_sq (pm := 126) (sn_lop (pt := 105) (pu := 123) (p2 := 123) (px := 126) (kb2 := fun _ => False) (kc2 := fun _ => False) (sc_an (pm := 94) (sc_no (m_cat h zz (p1 := 91) (tgt := 126) (by decide +kernel) (by decide +kernel) (by decide))) (sc_no (m_cat h zz (p1 := 102) (tgt := 126) (by decide +kernel) (by decide +kernel) (by decide))))
  (m_blk h zz (by decide +kernel))
  (m_blk h zz rfl) (m_goto h (off := (-36)) (by decide +kernel) (by decide)) zFU)
  (m_blk h zz (by decide +kernel))))
  (m_blk h zz rfl) (m_goto h (off := (-64)) (by decide +kernel) (by decide)) zFU)
  (sn_sq (pm := 134) (m_blk h zz (by decide +kernel))
  (sn_sq (pm := 240) (sn_lop (pt := 145) (pu := 237) (p2 := 237) (px := 240) (kb2 := fun _ => False) (kc2 := fun _ => False) (sc_fo m_fo (sc_no (m_cat h zz (p1 := 142) (tgt := 240) (by decide +kernel) (by decide +kernel) (by decide))))
  (sn_sq (pm := 148) (m_blk h zz (by decide +kernel))
  (sn_sq (pm := 176) (sn_lop (pt := 155) (pu := 173) (p2 := 173) (px := 176) (kb2 := fun _ => False) (kc2 := fun _ => False) (sc_no (m_cat h zz (p1 := 152) (tgt := 176) (by decide +kernel) (by decide +kernel) (by decide)))
  (m_blk h zz (by decide +kernel))
  (m_blk h zz rfl) (m_goto h (off := (-25)) (by decide +kernel) (by decide)) zFU)
  (sn_sq (pm := 192) (m_blk h zz (by decide +kernel))
  (sn_sq (pm := 234) (sn_lop (pt := 199) (pu := 231) (p2 := 231) (px := 234) (kb2 := fun _ => False) (kc2 := fun _ => False) (sc_no (m_cat h zz (p1 := 196) (tgt := 234) (by decide +kernel) (by decide +kernel) (by decide)))
  (m_blk h zz (by decide +kernel))
  (m_blk h zz rfl) (m_goto h (off := (-39)) (by decide +kernel) (by decide)) zFU)
  (m_blk h zz (by decide +kernel))))))
  (m_blk h zz rfl) (m_goto h (off := (-103)) (by decide +kernel) (by decide)) zFU)
  (sn_sq (pm := 288) (m_blk h zz (by decide +kernel))
  (sn_sq (pm := 316) (sn_lop (pt := 296) (pu := 313) (p2 := 313) (px := 316) (kb2 := fun _ => False) (kc2 := fun _ => False) (sc_fo m_fo (sc_no (m_cat h zz (p1 := 293) (tgt := 316) (by decide +kernel) (by decide +kernel) (by decide))))
  (m_blk h zz (by decide +kernel))
  (m_blk h zz rfl) (m_goto h (off := (-25)) (by decide +kernel) (by decide)) zFU)
  (m_rtl h zz (p1 := 317) (by decide +kernel) (by decide +kernel) (Nat.zero_le _) (Nat.zero_le _))))))))))))
theorem ct_Mod_digest (w : Wd) (l : Launch) (hw : zWok w) : CT w l y_Mod_digest b_Mod_digest 5 (some .long) r_Mod_digest (exb false 5 d_Mod_digest) :=
  ct_plain (by decide +kernel) (fun p e s m args below meth c Q cx hnm => eo_Mod_digest hw cx) (fun p e s m args below meth c Q F h => sn_Mod_digest h)
theorem q_Mod_digest {a : Nat} {fs : List Value} {M : Hp} {nx : Nat}  (h : M a = some (cO 6 fs)) : x_Mod_digest [.ref a] (M, nx) = zres (d_Mod_digest ([some (.ref a), none, none, none, none], [], (M, nx))) := q_ofV [some (.ref a), none, none, none, none] h rfl (Nat.le_of_ble_eq_true rfl) (Or.inl rfl)
theorem lc_Mod_digest_182 : lookI (eC E_Mod_digest) (.invokevirtual 182) = some (2, x_Mod_counted) := rfl
theorem lc_Mod_digest_170 : lookI (eC E_Mod_digest) (.invokevirtual 170) = some (2, x_Mod_coilAt) := rfl
theorem lc_Mod_digest_40 : lookI (eC E_Mod_digest) (.invokestatic 40) = some (2, x_Mod_isAt) := rfl
theorem lc_Mod_digest_173 : lookI (eC E_Mod_digest) (.invokevirtual 173) = some (3, x_Mod_ofCoil) := rfl
theorem lc_Mod_digest_176 : lookI (eC E_Mod_digest) (.invokevirtual 176) = some (3, x_Mod_ofOrder) := rfl
theorem lc_Mod_digest_185 : lookI (eC E_Mod_digest) (.invokevirtual 185) = some (2, x_Mod_choiceFor) := rfl
theorem lc_Mod_digest_48 : lookI (eC E_Mod_digest) (.invokestatic 48) = some (3, x_Mod_by) := rfl
theorem lc_Mod_digest_191 : lookI (eC E_Mod_digest) (.invokevirtual 191) = some (4, x_Mod_byServing) := rfl
theorem lc_Mod_digest_195 : lookI (eC E_Mod_digest) (.invokevirtual 195) = some (1, x_Mod_best) := rfl
theorem lc_Mod_digest_201 : lookI (eC E_Mod_digest) (.invokevirtual 201) = some (1, x_Mod_bestPlace) := rfl
theorem lc_Mod_digest_204 : lookI (eC E_Mod_digest) (.invokevirtual 204) = some (1, x_Mod_share) := rfl
theorem lc_Mod_digest_212 : lookI (eC E_Mod_digest) (.invokestatic 212) = some (1, x_Dbl_doubleToLongBits) := rfl
theorem lf_Mod_digest_25 : lookN (eF E_Mod_digest) 25 = some (6, 6) := rfl
theorem lf_Mod_digest_7 : lookN (eF E_Mod_digest) 7 = some (6, 0) := rfl
theorem lf_Mod_digest_134 : lookN (eF E_Mod_digest) 134 = some (6, 5) := rfl
theorem lf_Mod_digest_19 : lookN (eF E_Mod_digest) 19 = some (6, 4) := rfl
theorem lk_Mod_digest_208 : lookN (eK E_Mod_digest) 208 = some (.long 2879) := rfl
theorem lk_Mod_digest_210 : lookN (eK E_Mod_digest) 210 = some (.long 31) := rfl
theorem lb_Mod_digest : eB E_Mod_digest = false := rfl
theorem lt_Mod_digest : eT E_Mod_digest = zST := rfl
end
end
