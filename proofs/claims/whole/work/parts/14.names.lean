/-! names and codes of the methods -/
def y_Hist_stateAt : MethodName := ⟨"CoilSlits$History", "stateAt", "(I)LCoilSlits$Yard;"⟩
abbrev b_Hist_stateAt : ByteArray := prog_4_method_5_code
def y_Grid_copyFrom : MethodName := ⟨"CoilSlits$Grid", "copyFrom", "(LCoilSlits$Grid;)V"⟩
abbrev b_Grid_copyFrom : ByteArray := prog_3_method_5_code
def y_Row_copyFrom : MethodName := ⟨"CoilSlits$Row", "copyFrom", "(LCoilSlits$Row;)V"⟩
abbrev b_Row_copyFrom : ByteArray := prog_5_method_5_code
def y_Yard_copyFrom : MethodName := ⟨"CoilSlits$Yard", "copyFrom", "(LCoilSlits$Yard;)V"⟩
abbrev b_Yard_copyFrom : ByteArray := prog_6_method_2_code
def y_Hist_save : MethodName := ⟨"CoilSlits$History", "save", "(LCoilSlits$Yard;)V"⟩
abbrev b_Hist_save : ByteArray := prog_4_method_3_code
def y_Grid_get : MethodName := ⟨"CoilSlits$Grid", "get", "(II)I"⟩
abbrev b_Grid_get : ByteArray := prog_3_method_2_code
def y_Yard_dearestBehind : MethodName := ⟨"CoilSlits$Yard", "dearestBehind", "(II)I"⟩
abbrev b_Yard_dearestBehind : ByteArray := prog_6_method_45_code
def y_Row_get : MethodName := ⟨"CoilSlits$Row", "get", "(I)I"⟩
abbrev b_Row_get : ByteArray := prog_5_method_2_code
def y_Yard_widthTaken : MethodName := ⟨"CoilSlits$Yard", "widthTaken", "(I)I"⟩
abbrev b_Yard_widthTaken : ByteArray := prog_6_method_36_code
def y_Yard_mismatch : MethodName := ⟨"CoilSlits$Yard", "mismatch", "(III)I"⟩
abbrev b_Yard_mismatch : ByteArray := prog_6_method_38_code
def y_Yard_coilsAbove : MethodName := ⟨"CoilSlits$Yard", "coilsAbove", "(I)I"⟩
abbrev b_Yard_coilsAbove : ByteArray := prog_6_method_14_code
def y_Slit_stackOf : MethodName := ⟨"CoilSlits", "stackOf", "(I)I"⟩
abbrev b_Slit_stackOf : ByteArray := prog_1_method_32_code
def y_Yard_roomBeside : MethodName := ⟨"CoilSlits$Yard", "roomBeside", "(I)I"⟩
abbrev b_Yard_roomBeside : ByteArray := prog_6_method_23_code
def y_Yard_stripsIn : MethodName := ⟨"CoilSlits$Yard", "stripsIn", "(II)I"⟩
abbrev b_Yard_stripsIn : ByteArray := prog_6_method_37_code
def y_Yard_worthByRule : MethodName := ⟨"CoilSlits$Yard", "worthByRule", "(IIII)I"⟩
abbrev b_Yard_worthByRule : ByteArray := prog_6_method_41_code
def y_Yard_choose : MethodName := ⟨"CoilSlits$Yard", "choose", "(I)I"⟩
abbrev b_Yard_choose : ByteArray := prog_6_method_40_code
def y_Yard_emptiestBeside : MethodName := ⟨"CoilSlits$Yard", "emptiestBeside", "(I)I"⟩
abbrev b_Yard_emptiestBeside : ByteArray := prog_6_method_25_code
def y_Grid_copyRow : MethodName := ⟨"CoilSlits$Grid", "copyRow", "(II)V"⟩
abbrev b_Grid_copyRow : ByteArray := prog_3_method_4_code
def y_Grid_put : MethodName := ⟨"CoilSlits$Grid", "put", "(III)V"⟩
abbrev b_Grid_put : ByteArray := prog_3_method_3_code
def y_Row_add : MethodName := ⟨"CoilSlits$Row", "add", "(II)V"⟩
abbrev b_Row_add : ByteArray := prog_5_method_4_code
def y_Yard_moveTop : MethodName := ⟨"CoilSlits$Yard", "moveTop", "(II)I"⟩
abbrev b_Yard_moveTop : ByteArray := prog_6_method_20_code
def y_Yard_digOut : MethodName := ⟨"CoilSlits$Yard", "digOut", "(I)I"⟩
abbrev b_Yard_digOut : ByteArray := prog_6_method_24_code
def y_Yard_takeTop : MethodName := ⟨"CoilSlits$Yard", "takeTop", "(I)V"⟩
abbrev b_Yard_takeTop : ByteArray := prog_6_method_19_code
def y_Yard_putOnTop : MethodName := ⟨"CoilSlits$Yard", "putOnTop", "(IIIII)I"⟩
abbrev b_Yard_putOnTop : ByteArray := prog_6_method_18_code
def y_Yard_cutTop : MethodName := ⟨"CoilSlits$Yard", "cutTop", "(II)I"⟩
abbrev b_Yard_cutTop : ByteArray := prog_6_method_42_code
def y_Yard_dropOrder : MethodName := ⟨"CoilSlits$Yard", "dropOrder", "(I)V"⟩
abbrev b_Yard_dropOrder : ByteArray := prog_6_method_30_code
def y_Yard_dropIfDone : MethodName := ⟨"CoilSlits$Yard", "dropIfDone", "(I)V"⟩
abbrev b_Yard_dropIfDone : ByteArray := prog_6_method_31_code
def y_Yard_fulfil : MethodName := ⟨"CoilSlits$Yard", "fulfil", "(I)I"⟩
abbrev b_Yard_fulfil : ByteArray := prog_6_method_43_code
def y_Yard_fulfilEach : MethodName := ⟨"CoilSlits$Yard", "fulfilEach", "()I"⟩
abbrev b_Yard_fulfilEach : ByteArray := prog_6_method_44_code
def y_Slit_serveAll : MethodName := ⟨"CoilSlits", "serveAll", "()I"⟩
abbrev b_Slit_serveAll : ByteArray := prog_1_method_10_code
def y_Slit_clearBuffer : MethodName := ⟨"CoilSlits", "clearBuffer", "()I"⟩
abbrev b_Slit_clearBuffer : ByteArray := prog_1_method_13_code
def y_Read_restart : MethodName := ⟨"CoilSlits$CoilReader", "restart", "()V"⟩
abbrev b_Read_restart : ByteArray := prog_2_method_2_code
def y_Read_expects : MethodName := ⟨"CoilSlits$CoilReader", "expects", "(I)Z"⟩
abbrev b_Read_expects : ByteArray := prog_2_method_9_code
def y_Read_beginsPart : MethodName := ⟨"CoilSlits$CoilReader", "beginsPart", "(I)Z"⟩
abbrev b_Read_beginsPart : ByteArray := prog_2_method_10_code
def y_Read_widens : MethodName := ⟨"CoilSlits$CoilReader", "widens", "(I)Z"⟩
abbrev b_Read_widens : ByteArray := prog_2_method_11_code
def y_Slit_within : MethodName := ⟨"CoilSlits", "within", "(III)Z"⟩
abbrev b_Slit_within : ByteArray := prog_1_method_29_code
def y_Read_takesGrade : MethodName := ⟨"CoilSlits$CoilReader", "takesGrade", "(I)Z"⟩
abbrev b_Read_takesGrade : ByteArray := prog_2_method_12_code
def y_Read_takesQuality : MethodName := ⟨"CoilSlits$CoilReader", "takesQuality", "(I)Z"⟩
abbrev b_Read_takesQuality : ByteArray := prog_2_method_13_code
def y_Slit_isStack : MethodName := ⟨"CoilSlits", "isStack", "(I)Z"⟩
abbrev b_Slit_isStack : ByteArray := prog_1_method_30_code
def y_Read_takesStack : MethodName := ⟨"CoilSlits$CoilReader", "takesStack", "(I)Z"⟩
abbrev b_Read_takesStack : ByteArray := prog_2_method_14_code
def y_Read_goesOn : MethodName := ⟨"CoilSlits$CoilReader", "goesOn", "(I)Z"⟩
abbrev b_Read_goesOn : ByteArray := prog_2_method_15_code
def y_Read_accepts : MethodName := ⟨"CoilSlits$CoilReader", "accepts", "(I)Z"⟩
abbrev b_Read_accepts : ByteArray := prog_2_method_8_code
def y_Slit_readBuffer : MethodName := ⟨"CoilSlits", "readBuffer", "()I"⟩
abbrev b_Slit_readBuffer : ByteArray := prog_1_method_38_code
def y_Slit_firstError : MethodName := ⟨"CoilSlits", "firstError", "()I"⟩
abbrev b_Slit_firstError : ByteArray := prog_1_method_14_code
def y_Row_put : MethodName := ⟨"CoilSlits$Row", "put", "(II)V"⟩
abbrev b_Row_put : ByteArray := prog_5_method_3_code
def y_Yard_changeSetting : MethodName := ⟨"CoilSlits$Yard", "changeSetting", "(II)V"⟩
abbrev b_Yard_changeSetting : ByteArray := prog_6_method_5_code
def y_Slit_beginTrial : MethodName := ⟨"CoilSlits", "beginTrial", "(I)V"⟩
abbrev b_Slit_beginTrial : ByteArray := prog_1_method_35_code
def y_Yard_tally : MethodName := ⟨"CoilSlits$Yard", "tally", "(I)I"⟩
abbrev b_Yard_tally : ByteArray := prog_6_method_3_code
def y_Slit_bestRule : MethodName := ⟨"CoilSlits", "bestRule", "()I"⟩
abbrev b_Slit_bestRule : ByteArray := prog_1_method_25_code
def y_Yard_widerThanTop : MethodName := ⟨"CoilSlits$Yard", "widerThanTop", "(I)I"⟩
abbrev b_Yard_widerThanTop : ByteArray := prog_6_method_15_code
def y_Yard_heightOf : MethodName := ⟨"CoilSlits$Yard", "heightOf", "(I)I"⟩
abbrev b_Yard_heightOf : ByteArray := prog_6_method_6_code
def y_Yard_hasRoom : MethodName := ⟨"CoilSlits$Yard", "hasRoom", "(I)Z"⟩
abbrev b_Yard_hasRoom : ByteArray := prog_6_method_7_code
def y_Slit_bestStack : MethodName := ⟨"CoilSlits", "bestStack", "()I"⟩
abbrev b_Slit_bestStack : ByteArray := prog_1_method_26_code
def y_Slit_used : MethodName := ⟨"CoilSlits", "used", "()D"⟩
abbrev b_Slit_used : ByteArray := prog_1_method_27_code
def y_Yard_coilCount : MethodName := ⟨"CoilSlits$Yard", "coilCount", "()I"⟩
abbrev b_Yard_coilCount : ByteArray := prog_6_method_11_code
def y_Yard_sumOfCoils : MethodName := ⟨"CoilSlits$Yard", "sumOfCoils", "(I)I"⟩
abbrev b_Yard_sumOfCoils : ByteArray := prog_6_method_12_code
def y_Yard_orderCount : MethodName := ⟨"CoilSlits$Yard", "orderCount", "()I"⟩
abbrev b_Yard_orderCount : ByteArray := prog_6_method_26_code
def y_Hist_kept : MethodName := ⟨"CoilSlits$History", "kept", "()I"⟩
abbrev b_Hist_kept : ByteArray := prog_4_method_2_code
def y_Slit_counted : MethodName := ⟨"CoilSlits", "counted", "(I)I"⟩
abbrev b_Slit_counted : ByteArray := prog_1_method_33_code
def y_Slit_hashed : MethodName := ⟨"CoilSlits", "hashed", "(JJ)J"⟩
abbrev b_Slit_hashed : ByteArray := prog_1_method_40_code
def y_Yard_settingNow : MethodName := ⟨"CoilSlits$Yard", "settingNow", "(I)I"⟩
abbrev b_Yard_settingNow : ByteArray := prog_6_method_4_code
def y_Yard_numberAt : MethodName := ⟨"CoilSlits$Yard", "numberAt", "(I)I"⟩
abbrev b_Yard_numberAt : ByteArray := prog_6_method_9_code
def y_Yard_coilProperty : MethodName := ⟨"CoilSlits$Yard", "coilProperty", "(II)I"⟩
abbrev b_Yard_coilProperty : ByteArray := prog_6_method_13_code
def y_Slit_hashedPlace : MethodName := ⟨"CoilSlits", "hashedPlace", "(JI)J"⟩
abbrev b_Slit_hashedPlace : ByteArray := prog_1_method_41_code
def y_Yard_suits : MethodName := ⟨"CoilSlits$Yard", "suits", "(III)Z"⟩
abbrev b_Yard_suits : ByteArray := prog_6_method_35_code
def y_Yard_coilsSuiting : MethodName := ⟨"CoilSlits$Yard", "coilsSuiting", "(I)I"⟩
abbrev b_Yard_coilsSuiting : ByteArray := prog_6_method_33_code
def y_Yard_stripsFitting : MethodName := ⟨"CoilSlits$Yard", "stripsFitting", "(I)I"⟩
abbrev b_Yard_stripsFitting : ByteArray := prog_6_method_34_code
def y_Yard_orderProperty : MethodName := ⟨"CoilSlits$Yard", "orderProperty", "(II)I"⟩
abbrev b_Yard_orderProperty : ByteArray := prog_6_method_32_code
def y_Slit_numberOfChoice : MethodName := ⟨"CoilSlits", "numberOfChoice", "(I)I"⟩
abbrev b_Slit_numberOfChoice : ByteArray := prog_1_method_34_code
def y_Slit_gained : MethodName := ⟨"CoilSlits", "gained", "(I)I"⟩
abbrev b_Slit_gained : ByteArray := prog_1_method_37_code
def y_Slit_gainOfTrial : MethodName := ⟨"CoilSlits", "gainOfTrial", "(I)I"⟩
abbrev b_Slit_gainOfTrial : ByteArray := prog_1_method_36_code
def y_Slit_hashedOrder : MethodName := ⟨"CoilSlits", "hashedOrder", "(JI)J"⟩
abbrev b_Slit_hashedOrder : ByteArray := prog_1_method_42_code
def y_Slit_bitsOf : MethodName := ⟨"CoilSlits", "bitsOf", "(D)J"⟩
abbrev b_Slit_bitsOf : ByteArray := prog_1_method_43_code
def y_Slit_digest : MethodName := ⟨"CoilSlits", "digest", "()J"⟩
abbrev b_Slit_digest : ByteArray := prog_1_method_28_code
def y_Slit_isSetting : MethodName := ⟨"CoilSlits", "isSetting", "(I)Z"⟩
abbrev b_Slit_isSetting : ByteArray := prog_1_method_31_code
def y_Read_stack : MethodName := ⟨"CoilSlits$CoilReader", "stack", "()I"⟩
abbrev b_Read_stack : ByteArray := prog_2_method_7_code
def y_Yard_emptiest : MethodName := ⟨"CoilSlits$Yard", "emptiest", "()I"⟩
abbrev b_Yard_emptiest : ByteArray := prog_6_method_16_code
def y_Read_width : MethodName := ⟨"CoilSlits$CoilReader", "width", "()I"⟩
abbrev b_Read_width : ByteArray := prog_2_method_4_code
def y_Read_grade : MethodName := ⟨"CoilSlits$CoilReader", "grade", "()I"⟩
abbrev b_Read_grade : ByteArray := prog_2_method_5_code
def y_Read_quality : MethodName := ⟨"CoilSlits$CoilReader", "quality", "()I"⟩
abbrev b_Read_quality : ByteArray := prog_2_method_6_code
def y_Yard_bringIn : MethodName := ⟨"CoilSlits$Yard", "bringIn", "(IIII)I"⟩
abbrev b_Yard_bringIn : ByteArray := prog_6_method_17_code
def y_Slit_bringInBuffer : MethodName := ⟨"CoilSlits", "bringInBuffer", "()I"⟩
abbrev b_Slit_bringInBuffer : ByteArray := prog_1_method_39_code
def y_Mod_thrown : MethodName := ⟨"CoilSlitsModel", "thrown", "()I"⟩
abbrev b_Mod_thrown : ByteArray := prog_8_method_2_code
def y_Mod_fails : MethodName := ⟨"CoilSlitsModel", "fails", "(I)I"⟩
abbrev b_Mod_fails : ByteArray := prog_8_method_3_code
def y_Mod_in : MethodName := ⟨"CoilSlitsModel", "in", "(III)Z"⟩
abbrev b_Mod_in : ByteArray := prog_8_method_4_code
def y_Mod_isStack : MethodName := ⟨"CoilSlitsModel", "isStack", "(I)Z"⟩
abbrev b_Mod_isStack : ByteArray := prog_8_method_5_code
def y_Mod_of : MethodName := ⟨"CoilSlitsModel", "of", "([III)I"⟩
abbrev b_Mod_of : ByteArray := prog_8_method_6_code
def y_Mod_by : MethodName := ⟨"CoilSlitsModel", "by", "([III)I"⟩
abbrev b_Mod_by : ByteArray := prog_8_method_7_code
def y_Mod_saves : MethodName := ⟨"CoilSlitsModel", "saves", "()V"⟩
abbrev b_Mod_saves : ByteArray := prog_8_method_8_code
def y_Mod_undo : MethodName := ⟨"CoilSlitsModel", "undo", "()I"⟩
abbrev b_Mod_undo : ByteArray := prog_8_method_9_code
def y_Mod_tries : MethodName := ⟨"CoilSlitsModel", "tries", "()V"⟩
abbrev b_Mod_tries : ByteArray := prog_8_method_10_code
def y_Mod_isAt : MethodName := ⟨"CoilSlitsModel", "isAt", "([II)Z"⟩
abbrev b_Mod_isAt : ByteArray := prog_8_method_11_code
def y_Mod_placeOf : MethodName := ⟨"CoilSlitsModel", "placeOf", "([II)I"⟩
abbrev b_Mod_placeOf : ByteArray := prog_8_method_12_code
def y_Mod_above : MethodName := ⟨"CoilSlitsModel", "above", "([II)I"⟩
abbrev b_Mod_above : ByteArray := prog_8_method_13_code
def y_Mod_orderAt : MethodName := ⟨"CoilSlitsModel", "orderAt", "([II)I"⟩
abbrev b_Mod_orderAt : ByteArray := prog_8_method_14_code
def y_Mod_far : MethodName := ⟨"CoilSlitsModel", "far", "(II)I"⟩
abbrev b_Mod_far : ByteArray := prog_8_method_15_code
def y_Mod_lays : MethodName := ⟨"CoilSlitsModel", "lays", "([IIIIIII)V"⟩
abbrev b_Mod_lays : ByteArray := prog_8_method_16_code
def y_Mod_topOf : MethodName := ⟨"CoilSlitsModel", "topOf", "([II)I"⟩
abbrev b_Mod_topOf : ByteArray := prog_8_method_17_code
def y_Mod_moves : MethodName := ⟨"CoilSlitsModel", "moves", "([III)I"⟩
abbrev b_Mod_moves : ByteArray := prog_8_method_18_code
def y_Mod_canDig : MethodName := ⟨"CoilSlitsModel", "canDig", "([II)Z"⟩
abbrev b_Mod_canDig : ByteArray := prog_8_method_19_code
def y_Mod_nearest : MethodName := ⟨"CoilSlitsModel", "nearest", "([II)I"⟩
abbrev b_Mod_nearest : ByteArray := prog_8_method_20_code
def y_Mod_digs : MethodName := ⟨"CoilSlitsModel", "digs", "([II)I"⟩
abbrev b_Mod_digs : ByteArray := prog_8_method_21_code
def y_Mod_fits : MethodName := ⟨"CoilSlitsModel", "fits", "([III)I"⟩
abbrev b_Mod_fits : ByteArray := prog_8_method_22_code
def y_Mod_reason : MethodName := ⟨"CoilSlitsModel", "reason", "([III)I"⟩
abbrev b_Mod_reason : ByteArray := prog_8_method_23_code
def y_Mod_cuts : MethodName := ⟨"CoilSlitsModel", "cuts", "([III)I"⟩
abbrev b_Mod_cuts : ByteArray := prog_8_method_24_code
def y_Mod_restOf : MethodName := ⟨"CoilSlitsModel", "restOf", "([III)I"⟩
abbrev b_Mod_restOf : ByteArray := prog_8_method_25_code
def y_Mod_chosen : MethodName := ⟨"CoilSlitsModel", "chosen", "([II)I"⟩
abbrev b_Mod_chosen : ByteArray := prog_8_method_26_code
def y_Mod_orderGoes : MethodName := ⟨"CoilSlitsModel", "orderGoes", "([II)V"⟩
abbrev b_Mod_orderGoes : ByteArray := prog_8_method_27_code
def y_Mod_slits : MethodName := ⟨"CoilSlitsModel", "slits", "([III)I"⟩
abbrev b_Mod_slits : ByteArray := prog_8_method_28_code
def y_Mod_serves : MethodName := ⟨"CoilSlitsModel", "serves", "([II)I"⟩
abbrev b_Mod_serves : ByteArray := prog_8_method_29_code
def y_Mod_nextOrder : MethodName := ⟨"CoilSlitsModel", "nextOrder", "([III)I"⟩
abbrev b_Mod_nextOrder : ByteArray := prog_8_method_30_code
def y_Mod_servesAll : MethodName := ⟨"CoilSlitsModel", "servesAll", "([I)I"⟩
abbrev b_Mod_servesAll : ByteArray := prog_8_method_31_code
def y_Mod_comes : MethodName := ⟨"CoilSlitsModel", "comes", "(IIII)I"⟩
abbrev b_Mod_comes : ByteArray := prog_8_method_32_code
def y_Mod_receive : MethodName := ⟨"CoilSlitsModel", "receive", "(IIII)I"⟩
abbrev b_Mod_receive : ByteArray := prog_8_method_33_code
def y_Mod_move : MethodName := ⟨"CoilSlitsModel", "move", "(II)I"⟩
abbrev b_Mod_move : ByteArray := prog_8_method_34_code
def y_Mod_mayDig : MethodName := ⟨"CoilSlitsModel", "mayDig", "(I)I"⟩
abbrev b_Mod_mayDig : ByteArray := prog_8_method_35_code
def y_Mod_dig : MethodName := ⟨"CoilSlitsModel", "dig", "(I)I"⟩
abbrev b_Mod_dig : ByteArray := prog_8_method_36_code
def y_Mod_sendAway : MethodName := ⟨"CoilSlitsModel", "sendAway", "(I)I"⟩
abbrev b_Mod_sendAway : ByteArray := prog_8_method_37_code
def y_Mod_order : MethodName := ⟨"CoilSlitsModel", "order", "(IIIII)I"⟩
abbrev b_Mod_order : ByteArray := prog_8_method_38_code
def y_Mod_cancel : MethodName := ⟨"CoilSlitsModel", "cancel", "(I)I"⟩
abbrev b_Mod_cancel : ByteArray := prog_8_method_39_code
def y_Mod_slit : MethodName := ⟨"CoilSlitsModel", "slit", "(II)I"⟩
abbrev b_Mod_slit : ByteArray := prog_8_method_40_code
def y_Mod_serve : MethodName := ⟨"CoilSlitsModel", "serve", "(I)I"⟩
abbrev b_Mod_serve : ByteArray := prog_8_method_41_code
def y_Mod_serveAll : MethodName := ⟨"CoilSlitsModel", "serveAll", "()I"⟩
abbrev b_Mod_serveAll : ByteArray := prog_8_method_42_code
def y_Mod_isFor : MethodName := ⟨"CoilSlitsModel", "isFor", "(II)Z"⟩
abbrev b_Mod_isFor : ByteArray := prog_8_method_43_code
def y_Mod_set : MethodName := ⟨"CoilSlitsModel", "set", "(II)I"⟩
abbrev b_Mod_set : ByteArray := prog_8_method_44_code
def y_Mod_append : MethodName := ⟨"CoilSlitsModel", "append", "(I)I"⟩
abbrev b_Mod_append : ByteArray := prog_8_method_45_code
def y_Mod_clearBuffer : MethodName := ⟨"CoilSlitsModel", "clearBuffer", "()I"⟩
abbrev b_Mod_clearBuffer : ByteArray := prog_8_method_46_code
def y_Mod_isNext : MethodName := ⟨"CoilSlitsModel", "isNext", "(II)Z"⟩
abbrev b_Mod_isNext : ByteArray := prog_8_method_47_code
def y_Mod_stops : MethodName := ⟨"CoilSlitsModel", "stops", "()Z"⟩
abbrev b_Mod_stops : ByteArray := prog_8_method_48_code
def y_Mod_isFigure : MethodName := ⟨"CoilSlitsModel", "isFigure", "(II)Z"⟩
abbrev b_Mod_isFigure : ByteArray := prog_8_method_49_code
def y_Mod_isWidth : MethodName := ⟨"CoilSlitsModel", "isWidth", "()Z"⟩
abbrev b_Mod_isWidth : ByteArray := prog_8_method_50_code
def y_Mod_isPart : MethodName := ⟨"CoilSlitsModel", "isPart", "()Z"⟩
abbrev b_Mod_isPart : ByteArray := prog_8_method_51_code
def y_Mod_isText : MethodName := ⟨"CoilSlitsModel", "isText", "()Z"⟩
abbrev b_Mod_isText : ByteArray := prog_8_method_52_code
def y_Mod_firstError : MethodName := ⟨"CoilSlitsModel", "firstError", "()I"⟩
abbrev b_Mod_firstError : ByteArray := prog_8_method_53_code
def y_Mod_lowest : MethodName := ⟨"CoilSlitsModel", "lowest", "()I"⟩
abbrev b_Mod_lowest : ByteArray := prog_8_method_54_code
def y_Mod_receiveAll : MethodName := ⟨"CoilSlitsModel", "receiveAll", "()I"⟩
abbrev b_Mod_receiveAll : ByteArray := prog_8_method_55_code
def y_Mod_coilAt : MethodName := ⟨"CoilSlitsModel", "coilAt", "(I)I"⟩
abbrev b_Mod_coilAt : ByteArray := prog_8_method_56_code
def y_Mod_at : MethodName := ⟨"CoilSlitsModel", "at", "(II)I"⟩
abbrev b_Mod_at : ByteArray := prog_8_method_57_code
def y_Mod_ofCoil : MethodName := ⟨"CoilSlitsModel", "ofCoil", "(II)I"⟩
abbrev b_Mod_ofCoil : ByteArray := prog_8_method_58_code
def y_Mod_coil : MethodName := ⟨"CoilSlitsModel", "coil", "(II)I"⟩
abbrev b_Mod_coil : ByteArray := prog_8_method_59_code
def y_Mod_ofOrder : MethodName := ⟨"CoilSlitsModel", "ofOrder", "(II)I"⟩
abbrev b_Mod_ofOrder : ByteArray := prog_8_method_60_code
def y_Mod_orderOf : MethodName := ⟨"CoilSlitsModel", "orderOf", "(II)I"⟩
abbrev b_Mod_orderOf : ByteArray := prog_8_method_61_code
def y_Mod_whyNot : MethodName := ⟨"CoilSlitsModel", "whyNot", "(II)I"⟩
abbrev b_Mod_whyNot : ByteArray := prog_8_method_62_code
def y_Mod_ofCoils : MethodName := ⟨"CoilSlitsModel", "ofCoils", "(I)I"⟩
abbrev b_Mod_ofCoils : ByteArray := prog_8_method_63_code
def y_Mod_counted : MethodName := ⟨"CoilSlitsModel", "counted", "(I)I"⟩
abbrev b_Mod_counted : ByteArray := prog_8_method_64_code
def y_Mod_count : MethodName := ⟨"CoilSlitsModel", "count", "(I)I"⟩
abbrev b_Mod_count : ByteArray := prog_8_method_65_code
def y_Mod_setting : MethodName := ⟨"CoilSlitsModel", "setting", "(I)I"⟩
abbrev b_Mod_setting : ByteArray := prog_8_method_66_code
def y_Mod_choiceFor : MethodName := ⟨"CoilSlitsModel", "choiceFor", "(I)I"⟩
abbrev b_Mod_choiceFor : ByteArray := prog_8_method_67_code
def y_Mod_choice : MethodName := ⟨"CoilSlitsModel", "choice", "(I)I"⟩
abbrev b_Mod_choice : ByteArray := prog_8_method_68_code
def y_Mod_byServing : MethodName := ⟨"CoilSlitsModel", "byServing", "(III)I"⟩
abbrev b_Mod_byServing : ByteArray := prog_8_method_69_code
def y_Mod_ifServed : MethodName := ⟨"CoilSlitsModel", "ifServed", "(III)I"⟩
abbrev b_Mod_ifServed : ByteArray := prog_8_method_70_code
def y_Mod_best : MethodName := ⟨"CoilSlitsModel", "best", "()I"⟩
abbrev b_Mod_best : ByteArray := prog_8_method_71_code
def y_Mod_bestRule : MethodName := ⟨"CoilSlitsModel", "bestRule", "()I"⟩
abbrev b_Mod_bestRule : ByteArray := prog_8_method_72_code
def y_Mod_wider : MethodName := ⟨"CoilSlitsModel", "wider", "(I)I"⟩
abbrev b_Mod_wider : ByteArray := prog_8_method_73_code
def y_Mod_bestPlace : MethodName := ⟨"CoilSlitsModel", "bestPlace", "()I"⟩
abbrev b_Mod_bestPlace : ByteArray := prog_8_method_74_code
def y_Mod_bestStack : MethodName := ⟨"CoilSlitsModel", "bestStack", "()I"⟩
abbrev b_Mod_bestStack : ByteArray := prog_8_method_75_code
def y_Mod_share : MethodName := ⟨"CoilSlitsModel", "share", "()D"⟩
abbrev b_Mod_share : ByteArray := prog_8_method_76_code
def y_Mod_used : MethodName := ⟨"CoilSlitsModel", "used", "()D"⟩
abbrev b_Mod_used : ByteArray := prog_8_method_77_code
def y_Dbl_isNaN : MethodName := ⟨"java/lang/Double", "isNaN", "(D)Z"⟩
abbrev b_Dbl_isNaN : ByteArray := prog_9_method_6_code
def y_Dbl_doubleToLongBits : MethodName := ⟨"java/lang/Double", "doubleToLongBits", "(D)J"⟩
abbrev b_Dbl_doubleToLongBits : ByteArray := prog_9_method_23_code
def y_Mod_digest : MethodName := ⟨"CoilSlitsModel", "digest", "()J"⟩
abbrev b_Mod_digest : ByteArray := prog_8_method_78_code
def y_Read_isComplete : MethodName := ⟨"CoilSlits$CoilReader", "isComplete", "()Z"⟩
abbrev b_Read_isComplete : ByteArray := prog_2_method_3_code
def y_Hist_restore : MethodName := ⟨"CoilSlits$History", "restore", "(LCoilSlits$Yard;)V"⟩
abbrev b_Hist_restore : ByteArray := prog_4_method_4_code
def y_Yard_hasSeen : MethodName := ⟨"CoilSlits$Yard", "hasSeen", "(I)Z"⟩
abbrev b_Yard_hasSeen : ByteArray := prog_6_method_8_code
def y_Yard_placeOf : MethodName := ⟨"CoilSlits$Yard", "placeOf", "(I)I"⟩
abbrev b_Yard_placeOf : ByteArray := prog_6_method_10_code
def y_Yard_sendTop : MethodName := ⟨"CoilSlits$Yard", "sendTop", "(I)I"⟩
abbrev b_Yard_sendTop : ByteArray := prog_6_method_21_code
def y_Yard_canDig : MethodName := ⟨"CoilSlits$Yard", "canDig", "(I)Z"⟩
abbrev b_Yard_canDig : ByteArray := prog_6_method_22_code
def y_Yard_orderColumn : MethodName := ⟨"CoilSlits$Yard", "orderColumn", "(II)I"⟩
abbrev b_Yard_orderColumn : ByteArray := prog_6_method_27_code
def y_Yard_indexOfOrder : MethodName := ⟨"CoilSlits$Yard", "indexOfOrder", "(I)I"⟩
abbrev b_Yard_indexOfOrder : ByteArray := prog_6_method_28_code
def y_Yard_takeOrder : MethodName := ⟨"CoilSlits$Yard", "takeOrder", "(IIIII)I"⟩
abbrev b_Yard_takeOrder : ByteArray := prog_6_method_29_code
def y_Yard_reasonAgainst : MethodName := ⟨"CoilSlits$Yard", "reasonAgainst", "(II)I"⟩
abbrev b_Yard_reasonAgainst : ByteArray := prog_6_method_39_code
def y_Row_init : MethodName := ⟨"CoilSlits$Row", "<init>", "(I)V"⟩
abbrev b_Row_init : ByteArray := prog_5_method_1_code
def y_Grid_init : MethodName := ⟨"CoilSlits$Grid", "<init>", "(II)V"⟩
abbrev b_Grid_init : ByteArray := prog_3_method_1_code
def y_Yard_init : MethodName := ⟨"CoilSlits$Yard", "<init>", "()V"⟩
abbrev b_Yard_init : ByteArray := prog_6_method_1_code
def y_Hist_init : MethodName := ⟨"CoilSlits$History", "<init>", "()V"⟩
abbrev b_Hist_init : ByteArray := prog_4_method_1_code
def y_Read_init : MethodName := ⟨"CoilSlits$CoilReader", "<init>", "()V"⟩
abbrev b_Read_init : ByteArray := prog_2_method_1_code
def y_Slit_init : MethodName := ⟨"CoilSlits", "<init>", "()V"⟩
abbrev b_Slit_init : ByteArray := prog_1_method_1_code
def y_Mod_init : MethodName := ⟨"CoilSlitsModel", "<init>", "()V"⟩
abbrev b_Mod_init : ByteArray := prog_8_method_1_code
def y_Slit_receive : MethodName := ⟨"CoilSlits", "receive", "(IIII)I"⟩
abbrev b_Slit_receive : ByteArray := prog_1_method_2_code
def y_Slit_move : MethodName := ⟨"CoilSlits", "move", "(II)I"⟩
abbrev b_Slit_move : ByteArray := prog_1_method_3_code
def y_Slit_dig : MethodName := ⟨"CoilSlits", "dig", "(I)I"⟩
abbrev b_Slit_dig : ByteArray := prog_1_method_4_code
def y_Slit_sendAway : MethodName := ⟨"CoilSlits", "sendAway", "(I)I"⟩
abbrev b_Slit_sendAway : ByteArray := prog_1_method_5_code
def y_Slit_order : MethodName := ⟨"CoilSlits", "order", "(IIIII)I"⟩
abbrev b_Slit_order : ByteArray := prog_1_method_6_code
def y_Slit_cancel : MethodName := ⟨"CoilSlits", "cancel", "(I)I"⟩
abbrev b_Slit_cancel : ByteArray := prog_1_method_7_code
def y_Slit_slit : MethodName := ⟨"CoilSlits", "slit", "(II)I"⟩
abbrev b_Slit_slit : ByteArray := prog_1_method_8_code
def y_Slit_serve : MethodName := ⟨"CoilSlits", "serve", "(I)I"⟩
abbrev b_Slit_serve : ByteArray := prog_1_method_9_code
def y_Slit_set : MethodName := ⟨"CoilSlits", "set", "(II)I"⟩
abbrev b_Slit_set : ByteArray := prog_1_method_11_code
def y_Slit_append : MethodName := ⟨"CoilSlits", "append", "(I)I"⟩
abbrev b_Slit_append : ByteArray := prog_1_method_12_code
def y_Slit_receiveAll : MethodName := ⟨"CoilSlits", "receiveAll", "()I"⟩
abbrev b_Slit_receiveAll : ByteArray := prog_1_method_15_code
def y_Slit_undo : MethodName := ⟨"CoilSlits", "undo", "()I"⟩
abbrev b_Slit_undo : ByteArray := prog_1_method_16_code
def y_Slit_at : MethodName := ⟨"CoilSlits", "at", "(II)I"⟩
abbrev b_Slit_at : ByteArray := prog_1_method_17_code
def y_Slit_coil : MethodName := ⟨"CoilSlits", "coil", "(II)I"⟩
abbrev b_Slit_coil : ByteArray := prog_1_method_18_code
def y_Slit_orderOf : MethodName := ⟨"CoilSlits", "orderOf", "(II)I"⟩
abbrev b_Slit_orderOf : ByteArray := prog_1_method_19_code
def y_Slit_whyNot : MethodName := ⟨"CoilSlits", "whyNot", "(II)I"⟩
abbrev b_Slit_whyNot : ByteArray := prog_1_method_20_code
def y_Slit_count : MethodName := ⟨"CoilSlits", "count", "(I)I"⟩
abbrev b_Slit_count : ByteArray := prog_1_method_21_code
def y_Slit_setting : MethodName := ⟨"CoilSlits", "setting", "(I)I"⟩
abbrev b_Slit_setting : ByteArray := prog_1_method_22_code
def y_Slit_choice : MethodName := ⟨"CoilSlits", "choice", "(I)I"⟩
abbrev b_Slit_choice : ByteArray := prog_1_method_23_code
def y_Slit_ifServed : MethodName := ⟨"CoilSlits", "ifServed", "(III)I"⟩
abbrev b_Slit_ifServed : ByteArray := prog_1_method_24_code
def y_Law_receive : MethodName := ⟨"CoilSlitsLaw", "receive", "(LCoilSlits;IIII[J)I"⟩
abbrev b_Law_receive : ByteArray := method_3_code
def y_Law_move : MethodName := ⟨"CoilSlitsLaw", "move", "(LCoilSlits;II[J)I"⟩
abbrev b_Law_move : ByteArray := method_4_code
def y_Law_dig : MethodName := ⟨"CoilSlitsLaw", "dig", "(LCoilSlits;I[J)I"⟩
abbrev b_Law_dig : ByteArray := method_5_code
def y_Law_sendAway : MethodName := ⟨"CoilSlitsLaw", "sendAway", "(LCoilSlits;I[J)I"⟩
abbrev b_Law_sendAway : ByteArray := method_6_code
def y_Law_order : MethodName := ⟨"CoilSlitsLaw", "order", "(LCoilSlits;IIIII[J)I"⟩
abbrev b_Law_order : ByteArray := method_7_code
def y_Law_cancel : MethodName := ⟨"CoilSlitsLaw", "cancel", "(LCoilSlits;I[J)I"⟩
abbrev b_Law_cancel : ByteArray := method_8_code
def y_Law_slit : MethodName := ⟨"CoilSlitsLaw", "slit", "(LCoilSlits;II[J)I"⟩
abbrev b_Law_slit : ByteArray := method_9_code
def y_Law_serve : MethodName := ⟨"CoilSlitsLaw", "serve", "(LCoilSlits;I[J)I"⟩
abbrev b_Law_serve : ByteArray := method_10_code
def y_Law_set : MethodName := ⟨"CoilSlitsLaw", "set", "(LCoilSlits;II[J)I"⟩
abbrev b_Law_set : ByteArray := method_11_code
def y_Law_append : MethodName := ⟨"CoilSlitsLaw", "append", "(LCoilSlits;I[J)I"⟩
abbrev b_Law_append : ByteArray := method_12_code
def y_Law_receiveAll : MethodName := ⟨"CoilSlitsLaw", "receiveAll", "(LCoilSlits;[J)I"⟩
abbrev b_Law_receiveAll : ByteArray := method_13_code
def y_Law_undo : MethodName := ⟨"CoilSlitsLaw", "undo", "(LCoilSlits;[J)I"⟩
abbrev b_Law_undo : ByteArray := method_14_code
def y_Law_at : MethodName := ⟨"CoilSlitsLaw", "at", "(LCoilSlits;II[J)I"⟩
abbrev b_Law_at : ByteArray := method_15_code
def y_Law_coil : MethodName := ⟨"CoilSlitsLaw", "coil", "(LCoilSlits;II[J)I"⟩
abbrev b_Law_coil : ByteArray := method_16_code
def y_Law_orderOf : MethodName := ⟨"CoilSlitsLaw", "orderOf", "(LCoilSlits;II[J)I"⟩
abbrev b_Law_orderOf : ByteArray := method_17_code
def y_Law_whyNot : MethodName := ⟨"CoilSlitsLaw", "whyNot", "(LCoilSlits;II[J)I"⟩
abbrev b_Law_whyNot : ByteArray := method_18_code
def y_Law_count : MethodName := ⟨"CoilSlitsLaw", "count", "(LCoilSlits;I[J)I"⟩
abbrev b_Law_count : ByteArray := method_19_code
def y_Law_setting : MethodName := ⟨"CoilSlitsLaw", "setting", "(LCoilSlits;I[J)I"⟩
abbrev b_Law_setting : ByteArray := method_20_code
def y_Law_choice : MethodName := ⟨"CoilSlitsLaw", "choice", "(LCoilSlits;I[J)I"⟩
abbrev b_Law_choice : ByteArray := method_21_code
def y_Law_ifServed : MethodName := ⟨"CoilSlitsLaw", "ifServed", "(LCoilSlits;III[J)I"⟩
abbrev b_Law_ifServed : ByteArray := method_22_code
/-! the words of the tables, by their places -/
theorem tw_1 : Cond.initialized "CoilSlits" ∈ lw_tbl := tb_mem 1 (by decide +kernel)
theorem tw_2 : Cond.initialized "CoilSlits$Yard" ∈ lw_tbl := tb_mem 2 (by decide +kernel)
theorem tw_3 : Cond.initialized "CoilSlits$Grid" ∈ lw_tbl := tb_mem 3 (by decide +kernel)
theorem tw_4 : Cond.initialized "java/lang/Math" ∈ lw_tbl := tb_mem 4 (by decide +kernel)
theorem tw_5 : Cond.initialized "CoilSlits$Row" ∈ lw_tbl := tb_mem 5 (by decide +kernel)
theorem tw_6 : Cond.initialized "CoilSlits$History" ∈ lw_tbl := tb_mem 6 (by decide +kernel)
theorem tw_7 : Cond.initialized "CoilSlits$CoilReader" ∈ lw_tbl := tb_mem 7 (by decide +kernel)
theorem tw_8 : Cond.initialized "CoilSlitsModel" ∈ lw_tbl := tb_mem 8 (by decide +kernel)
theorem tw_12 : Cond.initialized "java/lang/IndexOutOfBoundsException" ∈ lw_tbl := tb_mem 12 (by decide +kernel)
theorem tw_13 : Cond.initialized "java/lang/IllegalArgumentException" ∈ lw_tbl := tb_mem 13 (by decide +kernel)
theorem tw_14 : Cond.initialized "java/lang/IllegalStateException" ∈ lw_tbl := tb_mem 14 (by decide +kernel)
theorem tw_15 : Cond.initialized "java/lang/System" ∈ lw_tbl := tb_mem 15 (by decide +kernel)
theorem tw_16 : Cond.initialized "java/lang/Double" ∈ lw_tbl := tb_mem 16 (by decide +kernel)
theorem tw_22 : Cond.methodLink "CoilSlits" 3 objectInit ∈ lw_tbl := tb_mem 22 (by decide +kernel)
theorem tw_23 : Cond.instanceMethod objectInit ∈ lw_tbl := tb_mem 23 (by decide +kernel)
set_option maxRecDepth 100000 in
theorem tw_24 : Cond.code objectInit ⟨#[0xb1]⟩ 1 none ∈ lw_tbl := tb_mem 24 rfl
theorem tw_25 : Cond.classLink "CoilSlits" 9 "CoilSlits$Yard" ∈ lw_tbl := tb_mem 25 (by decide +kernel)
theorem tw_26 : Cond.instantiable "CoilSlits$Yard" 8 ∈ lw_tbl := tb_mem 26 (by decide +kernel)
theorem tw_27 : Cond.methodLink "CoilSlits" 11 y_Yard_init ∈ lw_tbl := tb_mem 27 (by decide +kernel)
theorem tw_28 : Cond.instanceMethod y_Yard_init ∈ lw_tbl := tb_mem 28 (by decide +kernel)
set_option maxRecDepth 100000 in
theorem tw_29 : Cond.code y_Yard_init b_Yard_init 2 none ∈ lw_tbl := tb_mem 29 rfl
theorem tw_30 : Cond.methodLink "CoilSlits$Yard" 3 objectInit ∈ lw_tbl := tb_mem 30 (by decide +kernel)
theorem tw_31 : Cond.classLink "CoilSlits$Yard" 9 "CoilSlits$Grid" ∈ lw_tbl := tb_mem 31 (by decide +kernel)
theorem tw_32 : Cond.instantiable "CoilSlits$Grid" 2 ∈ lw_tbl := tb_mem 32 (by decide +kernel)
theorem tw_33 : Cond.methodLink "CoilSlits$Yard" 11 y_Grid_init ∈ lw_tbl := tb_mem 33 (by decide +kernel)
theorem tw_34 : Cond.instanceMethod y_Grid_init ∈ lw_tbl := tb_mem 34 (by decide +kernel)
set_option maxRecDepth 100000 in
theorem tw_35 : Cond.code y_Grid_init b_Grid_init 3 none ∈ lw_tbl := tb_mem 35 rfl
theorem tw_36 : Cond.methodLink "CoilSlits$Grid" 1 objectInit ∈ lw_tbl := tb_mem 36 (by decide +kernel)
theorem tw_37 : Cond.methodLink "CoilSlits$Grid" 7 Lib.Math.max.name ∈ lw_tbl := tb_mem 37 (by decide +kernel)
theorem tw_38 : Cond.static Lib.Math.max.name ∈ lw_tbl := tb_mem 38 (by decide +kernel)
set_option maxRecDepth 100000 in
theorem tw_xMax : Cond.code Lib.Math.max.name Lib.Math.max.code 2 (some .int) ∈ lw_tbl := tb_mem 39 rfl
theorem tw_47 : Cond.arrayClass .int ∈ lw_tbl := tb_mem 47 (by decide +kernel)
theorem tw_48 : Cond.classLink "CoilSlits$Yard" 20 "CoilSlits$Row" ∈ lw_tbl := tb_mem 48 (by decide +kernel)
theorem tw_49 : Cond.instantiable "CoilSlits$Row" 1 ∈ lw_tbl := tb_mem 49 (by decide +kernel)
theorem tw_50 : Cond.methodLink "CoilSlits$Yard" 22 y_Row_init ∈ lw_tbl := tb_mem 50 (by decide +kernel)
theorem tw_51 : Cond.instanceMethod y_Row_init ∈ lw_tbl := tb_mem 51 (by decide +kernel)
set_option maxRecDepth 100000 in
theorem tw_52 : Cond.code y_Row_init b_Row_init 2 none ∈ lw_tbl := tb_mem 52 rfl
theorem tw_53 : Cond.methodLink "CoilSlits$Row" 1 objectInit ∈ lw_tbl := tb_mem 53 (by decide +kernel)
theorem tw_54 : Cond.methodLink "CoilSlits$Row" 7 Lib.Math.max.name ∈ lw_tbl := tb_mem 54 (by decide +kernel)
theorem tw_59 : Cond.methodLink "CoilSlits$Yard" 38 y_Grid_put ∈ lw_tbl := tb_mem 59 (by decide +kernel)
theorem tw_60 : Cond.instanceMethod y_Grid_put ∈ lw_tbl := tb_mem 60 (by decide +kernel)
theorem tw_61 : Cond.selects y_Grid_put.cls y_Grid_put y_Grid_put ∈ lw_tbl := tb_mem 61 (by decide +kernel)
set_option maxRecDepth 100000 in
theorem tw_62 : Cond.code y_Grid_put b_Grid_put 6 none ∈ lw_tbl := tb_mem 62 rfl
theorem tw_65 : Cond.methodLink "CoilSlits$Yard" 46 y_Row_put ∈ lw_tbl := tb_mem 65 (by decide +kernel)
theorem tw_66 : Cond.instanceMethod y_Row_put ∈ lw_tbl := tb_mem 66 (by decide +kernel)
theorem tw_67 : Cond.selects y_Row_put.cls y_Row_put y_Row_put ∈ lw_tbl := tb_mem 67 (by decide +kernel)
set_option maxRecDepth 100000 in
theorem tw_68 : Cond.code y_Row_put b_Row_put 3 none ∈ lw_tbl := tb_mem 68 rfl
theorem tw_94 : Cond.classLink "CoilSlits" 19 "CoilSlits$History" ∈ lw_tbl := tb_mem 94 (by decide +kernel)
theorem tw_95 : Cond.instantiable "CoilSlits$History" 3 ∈ lw_tbl := tb_mem 95 (by decide +kernel)
theorem tw_96 : Cond.methodLink "CoilSlits" 21 y_Hist_init ∈ lw_tbl := tb_mem 96 (by decide +kernel)
theorem tw_97 : Cond.instanceMethod y_Hist_init ∈ lw_tbl := tb_mem 97 (by decide +kernel)
set_option maxRecDepth 100000 in
theorem tw_98 : Cond.code y_Hist_init b_Hist_init 2 none ∈ lw_tbl := tb_mem 98 rfl
theorem tw_99 : Cond.methodLink "CoilSlits$History" 3 objectInit ∈ lw_tbl := tb_mem 99 (by decide +kernel)
theorem tw_100 : Cond.classLink "CoilSlits$History" 9 "CoilSlits$Yard" ∈ lw_tbl := tb_mem 100 (by decide +kernel)
theorem tw_102 : Cond.methodLink "CoilSlits$History" 17 y_Yard_init ∈ lw_tbl := tb_mem 102 (by decide +kernel)
theorem tw_113 : Cond.classLink "CoilSlits" 26 "CoilSlits$Row" ∈ lw_tbl := tb_mem 113 (by decide +kernel)
theorem tw_114 : Cond.methodLink "CoilSlits" 28 y_Row_init ∈ lw_tbl := tb_mem 114 (by decide +kernel)
theorem tw_115 : Cond.classLink "CoilSlits" 35 "CoilSlits$CoilReader" ∈ lw_tbl := tb_mem 115 (by decide +kernel)
theorem tw_116 : Cond.instantiable "CoilSlits$CoilReader" 5 ∈ lw_tbl := tb_mem 116 (by decide +kernel)
theorem tw_118 : Cond.instanceMethod y_Read_init ∈ lw_tbl := tb_mem 118 (by decide +kernel)
set_option maxRecDepth 100000 in
theorem tw_119 : Cond.code y_Read_init b_Read_init 1 none ∈ lw_tbl := tb_mem 119 rfl
theorem tw_120 : Cond.methodLink "CoilSlits$CoilReader" 3 objectInit ∈ lw_tbl := tb_mem 120 (by decide +kernel)
theorem tw_160 : Cond.methodLink "CoilSlits" 70 y_Hist_save ∈ lw_tbl := tb_mem 160 (by decide +kernel)
theorem tw_161 : Cond.instanceMethod y_Hist_save ∈ lw_tbl := tb_mem 161 (by decide +kernel)
theorem tw_162 : Cond.selects y_Hist_save.cls y_Hist_save y_Hist_save ∈ lw_tbl := tb_mem 162 (by decide +kernel)
set_option maxRecDepth 100000 in
theorem tw_163 : Cond.code y_Hist_save b_Hist_save 3 none ∈ lw_tbl := tb_mem 163 rfl
theorem tw_164 : Cond.methodLink "CoilSlits$History" 25 y_Hist_stateAt ∈ lw_tbl := tb_mem 164 (by decide +kernel)
theorem tw_166 : Cond.instanceMethod y_Hist_stateAt ∈ lw_tbl := tb_mem 166 (by decide +kernel)
set_option maxRecDepth 100000 in
theorem tw_167 : Cond.code y_Hist_stateAt b_Hist_stateAt 2 (some (.object "CoilSlits$Yard")) ∈ lw_tbl := tb_mem 167 rfl
theorem tw_168 : Cond.methodLink "CoilSlits$History" 29 y_Yard_copyFrom ∈ lw_tbl := tb_mem 168 (by decide +kernel)
theorem tw_169 : Cond.instanceMethod y_Yard_copyFrom ∈ lw_tbl := tb_mem 169 (by decide +kernel)
theorem tw_170 : Cond.selects y_Yard_copyFrom.cls y_Yard_copyFrom y_Yard_copyFrom ∈ lw_tbl := tb_mem 170 (by decide +kernel)
set_option maxRecDepth 100000 in
theorem tw_171 : Cond.code y_Yard_copyFrom b_Yard_copyFrom 2 none ∈ lw_tbl := tb_mem 171 rfl
theorem tw_172 : Cond.methodLink "CoilSlits$Yard" 48 y_Grid_copyFrom ∈ lw_tbl := tb_mem 172 (by decide +kernel)
theorem tw_173 : Cond.instanceMethod y_Grid_copyFrom ∈ lw_tbl := tb_mem 173 (by decide +kernel)
theorem tw_174 : Cond.selects y_Grid_copyFrom.cls y_Grid_copyFrom y_Grid_copyFrom ∈ lw_tbl := tb_mem 174 (by decide +kernel)
set_option maxRecDepth 100000 in
theorem tw_175 : Cond.code y_Grid_copyFrom b_Grid_copyFrom 3 none ∈ lw_tbl := tb_mem 175 rfl
theorem tw_176 : Cond.methodLink "CoilSlits$Grid" 29 Lib.Math.min.name ∈ lw_tbl := tb_mem 176 (by decide +kernel)
theorem tw_177 : Cond.static Lib.Math.min.name ∈ lw_tbl := tb_mem 177 (by decide +kernel)
set_option maxRecDepth 100000 in
theorem tw_xMin : Cond.code Lib.Math.min.name Lib.Math.min.code 2 (some .int) ∈ lw_tbl := tb_mem 178 rfl
theorem tw_179 : Cond.methodLink "CoilSlits$Grid" 23 arraycopyName ∈ lw_tbl := tb_mem 179 (by decide +kernel)
theorem tw_180 : Cond.static arraycopyName ∈ lw_tbl := tb_mem 180 (by decide +kernel)
theorem tw_181 : Cond.native arraycopyName ∈ lw_tbl := tb_mem 181 (by decide +kernel)
theorem tw_182 : Cond.methodLink "CoilSlits$Yard" 52 y_Row_copyFrom ∈ lw_tbl := tb_mem 182 (by decide +kernel)
theorem tw_183 : Cond.instanceMethod y_Row_copyFrom ∈ lw_tbl := tb_mem 183 (by decide +kernel)
theorem tw_184 : Cond.selects y_Row_copyFrom.cls y_Row_copyFrom y_Row_copyFrom ∈ lw_tbl := tb_mem 184 (by decide +kernel)
set_option maxRecDepth 100000 in
theorem tw_185 : Cond.code y_Row_copyFrom b_Row_copyFrom 3 none ∈ lw_tbl := tb_mem 185 rfl
theorem tw_186 : Cond.methodLink "CoilSlits$Row" 19 Lib.Math.min.name ∈ lw_tbl := tb_mem 186 (by decide +kernel)
theorem tw_187 : Cond.methodLink "CoilSlits$Row" 22 arraycopyName ∈ lw_tbl := tb_mem 187 (by decide +kernel)
theorem tw_188 : Cond.methodLink "CoilSlits$History" 33 Lib.Math.min.name ∈ lw_tbl := tb_mem 188 (by decide +kernel)
theorem tw_189 : Cond.methodLink "CoilSlits" 148 y_Yard_fulfilEach ∈ lw_tbl := tb_mem 189 (by decide +kernel)
theorem tw_190 : Cond.instanceMethod y_Yard_fulfilEach ∈ lw_tbl := tb_mem 190 (by decide +kernel)
theorem tw_191 : Cond.selects y_Yard_fulfilEach.cls y_Yard_fulfilEach y_Yard_fulfilEach ∈ lw_tbl := tb_mem 191 (by decide +kernel)
set_option maxRecDepth 100000 in
theorem tw_192 : Cond.code y_Yard_fulfilEach b_Yard_fulfilEach 6 (some .int) ∈ lw_tbl := tb_mem 192 rfl
theorem tw_193 : Cond.methodLink "CoilSlits$Yard" 154 y_Yard_dearestBehind ∈ lw_tbl := tb_mem 193 (by decide +kernel)
theorem tw_195 : Cond.instanceMethod y_Yard_dearestBehind ∈ lw_tbl := tb_mem 195 (by decide +kernel)
set_option maxRecDepth 100000 in
theorem tw_196 : Cond.code y_Yard_dearestBehind b_Yard_dearestBehind 7 (some .int) ∈ lw_tbl := tb_mem 196 rfl
theorem tw_197 : Cond.methodLink "CoilSlits$Yard" 69 y_Grid_get ∈ lw_tbl := tb_mem 197 (by decide +kernel)
theorem tw_198 : Cond.instanceMethod y_Grid_get ∈ lw_tbl := tb_mem 198 (by decide +kernel)
theorem tw_199 : Cond.selects y_Grid_get.cls y_Grid_get y_Grid_get ∈ lw_tbl := tb_mem 199 (by decide +kernel)
set_option maxRecDepth 100000 in
theorem tw_200 : Cond.code y_Grid_get b_Grid_get 5 (some .int) ∈ lw_tbl := tb_mem 200 rfl
theorem tw_201 : Cond.methodLink "CoilSlits$Yard" 157 y_Yard_fulfil ∈ lw_tbl := tb_mem 201 (by decide +kernel)
theorem tw_202 : Cond.instanceMethod y_Yard_fulfil ∈ lw_tbl := tb_mem 202 (by decide +kernel)
theorem tw_203 : Cond.selects y_Yard_fulfil.cls y_Yard_fulfil y_Yard_fulfil ∈ lw_tbl := tb_mem 203 (by decide +kernel)
set_option maxRecDepth 100000 in
theorem tw_204 : Cond.code y_Yard_fulfil b_Yard_fulfil 6 (some .int) ∈ lw_tbl := tb_mem 204 rfl
theorem tw_205 : Cond.methodLink "CoilSlits$Yard" 142 y_Yard_choose ∈ lw_tbl := tb_mem 205 (by decide +kernel)
theorem tw_206 : Cond.instanceMethod y_Yard_choose ∈ lw_tbl := tb_mem 206 (by decide +kernel)
theorem tw_207 : Cond.selects y_Yard_choose.cls y_Yard_choose y_Yard_choose ∈ lw_tbl := tb_mem 207 (by decide +kernel)
set_option maxRecDepth 100000 in
theorem tw_208 : Cond.code y_Yard_choose b_Yard_choose 9 (some .int) ∈ lw_tbl := tb_mem 208 rfl
theorem tw_209 : Cond.methodLink "CoilSlits$Yard" 114 y_Yard_widthTaken ∈ lw_tbl := tb_mem 209 (by decide +kernel)
theorem tw_211 : Cond.instanceMethod y_Yard_widthTaken ∈ lw_tbl := tb_mem 211 (by decide +kernel)
set_option maxRecDepth 100000 in
theorem tw_212 : Cond.code y_Yard_widthTaken b_Yard_widthTaken 2 (some .int) ∈ lw_tbl := tb_mem 212 rfl
theorem tw_213 : Cond.methodLink "CoilSlits$Yard" 65 y_Row_get ∈ lw_tbl := tb_mem 213 (by decide +kernel)
theorem tw_214 : Cond.instanceMethod y_Row_get ∈ lw_tbl := tb_mem 214 (by decide +kernel)
theorem tw_215 : Cond.selects y_Row_get.cls y_Row_get y_Row_get ∈ lw_tbl := tb_mem 215 (by decide +kernel)
set_option maxRecDepth 100000 in
theorem tw_216 : Cond.code y_Row_get b_Row_get 2 (some .int) ∈ lw_tbl := tb_mem 216 rfl
theorem tw_217 : Cond.methodLink "CoilSlits$Yard" 124 y_Yard_mismatch ∈ lw_tbl := tb_mem 217 (by decide +kernel)
theorem tw_219 : Cond.instanceMethod y_Yard_mismatch ∈ lw_tbl := tb_mem 219 (by decide +kernel)
set_option maxRecDepth 100000 in
theorem tw_220 : Cond.code y_Yard_mismatch b_Yard_mismatch 4 (some .int) ∈ lw_tbl := tb_mem 220 rfl
theorem tw_221 : Cond.methodLink "CoilSlits$Yard" 75 y_Yard_coilsAbove ∈ lw_tbl := tb_mem 221 (by decide +kernel)
theorem tw_222 : Cond.instanceMethod y_Yard_coilsAbove ∈ lw_tbl := tb_mem 222 (by decide +kernel)
theorem tw_223 : Cond.selects y_Yard_coilsAbove.cls y_Yard_coilsAbove y_Yard_coilsAbove ∈ lw_tbl := tb_mem 223 (by decide +kernel)
set_option maxRecDepth 100000 in
theorem tw_224 : Cond.code y_Yard_coilsAbove b_Yard_coilsAbove 2 (some .int) ∈ lw_tbl := tb_mem 224 rfl
theorem tw_226 : Cond.static y_Slit_stackOf ∈ lw_tbl := tb_mem 226 (by decide +kernel)
set_option maxRecDepth 100000 in
theorem tw_227 : Cond.code y_Slit_stackOf b_Slit_stackOf 1 (some .int) ∈ lw_tbl := tb_mem 227 rfl
theorem tw_228 : Cond.methodLink "CoilSlits$Yard" 96 y_Yard_roomBeside ∈ lw_tbl := tb_mem 228 (by decide +kernel)
theorem tw_230 : Cond.instanceMethod y_Yard_roomBeside ∈ lw_tbl := tb_mem 230 (by decide +kernel)
set_option maxRecDepth 100000 in
theorem tw_231 : Cond.code y_Yard_roomBeside b_Yard_roomBeside 4 (some .int) ∈ lw_tbl := tb_mem 231 rfl
theorem tw_232 : Cond.methodLink "CoilSlits$Yard" 132 y_Yard_worthByRule ∈ lw_tbl := tb_mem 232 (by decide +kernel)
theorem tw_234 : Cond.instanceMethod y_Yard_worthByRule ∈ lw_tbl := tb_mem 234 (by decide +kernel)
set_option maxRecDepth 100000 in
theorem tw_235 : Cond.code y_Yard_worthByRule b_Yard_worthByRule 6 (some .int) ∈ lw_tbl := tb_mem 235 rfl
theorem tw_236 : Cond.methodLink "CoilSlits$Yard" 121 y_Yard_stripsIn ∈ lw_tbl := tb_mem 236 (by decide +kernel)
theorem tw_237 : Cond.static y_Yard_stripsIn ∈ lw_tbl := tb_mem 237 (by decide +kernel)
set_option maxRecDepth 100000 in
theorem tw_238 : Cond.code y_Yard_stripsIn b_Yard_stripsIn 2 (some .int) ∈ lw_tbl := tb_mem 238 rfl
theorem tw_239 : Cond.methodLink "CoilSlits$Yard" 136 Lib.Math.min.name ∈ lw_tbl := tb_mem 239 (by decide +kernel)
theorem tw_240 : Cond.methodLink "CoilSlits$Yard" 145 y_Yard_digOut ∈ lw_tbl := tb_mem 240 (by decide +kernel)
theorem tw_241 : Cond.instanceMethod y_Yard_digOut ∈ lw_tbl := tb_mem 241 (by decide +kernel)
theorem tw_242 : Cond.selects y_Yard_digOut.cls y_Yard_digOut y_Yard_digOut ∈ lw_tbl := tb_mem 242 (by decide +kernel)
set_option maxRecDepth 100000 in
theorem tw_243 : Cond.code y_Yard_digOut b_Yard_digOut 5 (some .int) ∈ lw_tbl := tb_mem 243 rfl
theorem tw_244 : Cond.methodLink "CoilSlits$Yard" 99 y_Yard_emptiestBeside ∈ lw_tbl := tb_mem 244 (by decide +kernel)
theorem tw_246 : Cond.instanceMethod y_Yard_emptiestBeside ∈ lw_tbl := tb_mem 246 (by decide +kernel)
set_option maxRecDepth 100000 in
theorem tw_247 : Cond.code y_Yard_emptiestBeside b_Yard_emptiestBeside 7 (some .int) ∈ lw_tbl := tb_mem 247 rfl
theorem tw_248 : Cond.methodLink "CoilSlits$Yard" 88 Lib.Math.abs.name ∈ lw_tbl := tb_mem 248 (by decide +kernel)
theorem tw_249 : Cond.static Lib.Math.abs.name ∈ lw_tbl := tb_mem 249 (by decide +kernel)
set_option maxRecDepth 100000 in
theorem tw_xAbs : Cond.code Lib.Math.abs.name Lib.Math.abs.code 1 (some .int) ∈ lw_tbl := tb_mem 250 rfl
theorem tw_251 : Cond.methodLink "CoilSlits$Yard" 102 y_Yard_moveTop ∈ lw_tbl := tb_mem 251 (by decide +kernel)
theorem tw_252 : Cond.instanceMethod y_Yard_moveTop ∈ lw_tbl := tb_mem 252 (by decide +kernel)
theorem tw_253 : Cond.selects y_Yard_moveTop.cls y_Yard_moveTop y_Yard_moveTop ∈ lw_tbl := tb_mem 253 (by decide +kernel)
set_option maxRecDepth 100000 in
theorem tw_254 : Cond.code y_Yard_moveTop b_Yard_moveTop 5 (some .int) ∈ lw_tbl := tb_mem 254 rfl
theorem tw_255 : Cond.methodLink "CoilSlits$Yard" 85 y_Grid_copyRow ∈ lw_tbl := tb_mem 255 (by decide +kernel)
theorem tw_256 : Cond.instanceMethod y_Grid_copyRow ∈ lw_tbl := tb_mem 256 (by decide +kernel)
theorem tw_257 : Cond.selects y_Grid_copyRow.cls y_Grid_copyRow y_Grid_copyRow ∈ lw_tbl := tb_mem 257 (by decide +kernel)
set_option maxRecDepth 100000 in
theorem tw_258 : Cond.code y_Grid_copyRow b_Grid_copyRow 6 none ∈ lw_tbl := tb_mem 258 rfl
theorem tw_259 : Cond.methodLink "CoilSlits$Yard" 78 y_Row_add ∈ lw_tbl := tb_mem 259 (by decide +kernel)
theorem tw_260 : Cond.instanceMethod y_Row_add ∈ lw_tbl := tb_mem 260 (by decide +kernel)
theorem tw_261 : Cond.selects y_Row_add.cls y_Row_add y_Row_add ∈ lw_tbl := tb_mem 261 (by decide +kernel)
set_option maxRecDepth 100000 in
theorem tw_262 : Cond.code y_Row_add b_Row_add 3 none ∈ lw_tbl := tb_mem 262 rfl
theorem tw_263 : Cond.methodLink "CoilSlits$Yard" 148 y_Yard_cutTop ∈ lw_tbl := tb_mem 263 (by decide +kernel)
theorem tw_264 : Cond.instanceMethod y_Yard_cutTop ∈ lw_tbl := tb_mem 264 (by decide +kernel)
theorem tw_265 : Cond.selects y_Yard_cutTop.cls y_Yard_cutTop y_Yard_cutTop ∈ lw_tbl := tb_mem 265 (by decide +kernel)
set_option maxRecDepth 100000 in
theorem tw_266 : Cond.code y_Yard_cutTop b_Yard_cutTop 11 (some .int) ∈ lw_tbl := tb_mem 266 rfl
theorem tw_267 : Cond.methodLink "CoilSlits$Yard" 93 y_Yard_takeTop ∈ lw_tbl := tb_mem 267 (by decide +kernel)
theorem tw_269 : Cond.instanceMethod y_Yard_takeTop ∈ lw_tbl := tb_mem 269 (by decide +kernel)
set_option maxRecDepth 100000 in
theorem tw_270 : Cond.code y_Yard_takeTop b_Yard_takeTop 2 none ∈ lw_tbl := tb_mem 270 rfl
theorem tw_271 : Cond.methodLink "CoilSlits$Yard" 139 Lib.Math.max.name ∈ lw_tbl := tb_mem 271 (by decide +kernel)
theorem tw_272 : Cond.methodLink "CoilSlits$Yard" 81 y_Yard_putOnTop ∈ lw_tbl := tb_mem 272 (by decide +kernel)
theorem tw_274 : Cond.instanceMethod y_Yard_putOnTop ∈ lw_tbl := tb_mem 274 (by decide +kernel)
set_option maxRecDepth 100000 in
theorem tw_275 : Cond.code y_Yard_putOnTop b_Yard_putOnTop 8 (some .int) ∈ lw_tbl := tb_mem 275 rfl
theorem tw_276 : Cond.methodLink "CoilSlits$Yard" 151 y_Yard_dropIfDone ∈ lw_tbl := tb_mem 276 (by decide +kernel)
theorem tw_277 : Cond.instanceMethod y_Yard_dropIfDone ∈ lw_tbl := tb_mem 277 (by decide +kernel)
theorem tw_278 : Cond.selects y_Yard_dropIfDone.cls y_Yard_dropIfDone y_Yard_dropIfDone ∈ lw_tbl := tb_mem 278 (by decide +kernel)
set_option maxRecDepth 100000 in
theorem tw_279 : Cond.code y_Yard_dropIfDone b_Yard_dropIfDone 2 none ∈ lw_tbl := tb_mem 279 rfl
theorem tw_280 : Cond.methodLink "CoilSlits$Yard" 105 y_Yard_dropOrder ∈ lw_tbl := tb_mem 280 (by decide +kernel)
theorem tw_281 : Cond.instanceMethod y_Yard_dropOrder ∈ lw_tbl := tb_mem 281 (by decide +kernel)
theorem tw_282 : Cond.selects y_Yard_dropOrder.cls y_Yard_dropOrder y_Yard_dropOrder ∈ lw_tbl := tb_mem 282 (by decide +kernel)
set_option maxRecDepth 100000 in
theorem tw_283 : Cond.code y_Yard_dropOrder b_Yard_dropOrder 3 none ∈ lw_tbl := tb_mem 283 rfl
theorem tw_292 : Cond.methodLink "CoilSlits" 183 y_Slit_readBuffer ∈ lw_tbl := tb_mem 292 (by decide +kernel)
theorem tw_294 : Cond.instanceMethod y_Slit_readBuffer ∈ lw_tbl := tb_mem 294 (by decide +kernel)
set_option maxRecDepth 100000 in
theorem tw_295 : Cond.code y_Slit_readBuffer b_Slit_readBuffer 2 (some .int) ∈ lw_tbl := tb_mem 295 rfl
theorem tw_296 : Cond.methodLink "CoilSlits" 290 y_Read_restart ∈ lw_tbl := tb_mem 296 (by decide +kernel)
theorem tw_297 : Cond.instanceMethod y_Read_restart ∈ lw_tbl := tb_mem 297 (by decide +kernel)
theorem tw_298 : Cond.selects y_Read_restart.cls y_Read_restart y_Read_restart ∈ lw_tbl := tb_mem 298 (by decide +kernel)
set_option maxRecDepth 100000 in
theorem tw_299 : Cond.code y_Read_restart b_Read_restart 1 none ∈ lw_tbl := tb_mem 299 rfl
theorem tw_300 : Cond.methodLink "CoilSlits" 272 y_Row_get ∈ lw_tbl := tb_mem 300 (by decide +kernel)
theorem tw_301 : Cond.methodLink "CoilSlits" 293 y_Read_accepts ∈ lw_tbl := tb_mem 301 (by decide +kernel)
theorem tw_302 : Cond.instanceMethod y_Read_accepts ∈ lw_tbl := tb_mem 302 (by decide +kernel)
theorem tw_303 : Cond.selects y_Read_accepts.cls y_Read_accepts y_Read_accepts ∈ lw_tbl := tb_mem 303 (by decide +kernel)
set_option maxRecDepth 100000 in
theorem tw_304 : Cond.code y_Read_accepts b_Read_accepts 3 (some .boolean) ∈ lw_tbl := tb_mem 304 rfl
theorem tw_305 : Cond.methodLink "CoilSlits$CoilReader" 27 y_Read_beginsPart ∈ lw_tbl := tb_mem 305 (by decide +kernel)
theorem tw_307 : Cond.instanceMethod y_Read_beginsPart ∈ lw_tbl := tb_mem 307 (by decide +kernel)
set_option maxRecDepth 100000 in
theorem tw_308 : Cond.code y_Read_beginsPart b_Read_beginsPart 2 (some .boolean) ∈ lw_tbl := tb_mem 308 rfl
theorem tw_309 : Cond.methodLink "CoilSlits$CoilReader" 31 y_Read_expects ∈ lw_tbl := tb_mem 309 (by decide +kernel)
theorem tw_311 : Cond.instanceMethod y_Read_expects ∈ lw_tbl := tb_mem 311 (by decide +kernel)
set_option maxRecDepth 100000 in
theorem tw_312 : Cond.code y_Read_expects b_Read_expects 2 (some .boolean) ∈ lw_tbl := tb_mem 312 rfl
theorem tw_313 : Cond.methodLink "CoilSlits$CoilReader" 34 y_Read_widens ∈ lw_tbl := tb_mem 313 (by decide +kernel)
theorem tw_315 : Cond.instanceMethod y_Read_widens ∈ lw_tbl := tb_mem 315 (by decide +kernel)
set_option maxRecDepth 100000 in
theorem tw_316 : Cond.code y_Read_widens b_Read_widens 3 (some .boolean) ∈ lw_tbl := tb_mem 316 rfl
theorem tw_318 : Cond.static y_Slit_within ∈ lw_tbl := tb_mem 318 (by decide +kernel)
set_option maxRecDepth 100000 in
theorem tw_319 : Cond.code y_Slit_within b_Slit_within 3 (some .boolean) ∈ lw_tbl := tb_mem 319 rfl
theorem tw_320 : Cond.methodLink "CoilSlits$CoilReader" 41 y_Read_takesGrade ∈ lw_tbl := tb_mem 320 (by decide +kernel)
theorem tw_322 : Cond.instanceMethod y_Read_takesGrade ∈ lw_tbl := tb_mem 322 (by decide +kernel)
set_option maxRecDepth 100000 in
theorem tw_323 : Cond.code y_Read_takesGrade b_Read_takesGrade 2 (some .boolean) ∈ lw_tbl := tb_mem 323 rfl
theorem tw_324 : Cond.methodLink "CoilSlits$CoilReader" 44 y_Read_takesQuality ∈ lw_tbl := tb_mem 324 (by decide +kernel)
theorem tw_326 : Cond.instanceMethod y_Read_takesQuality ∈ lw_tbl := tb_mem 326 (by decide +kernel)
set_option maxRecDepth 100000 in
theorem tw_327 : Cond.code y_Read_takesQuality b_Read_takesQuality 2 (some .boolean) ∈ lw_tbl := tb_mem 327 rfl
theorem tw_329 : Cond.static y_Slit_isStack ∈ lw_tbl := tb_mem 329 (by decide +kernel)
set_option maxRecDepth 100000 in
theorem tw_330 : Cond.code y_Slit_isStack b_Slit_isStack 1 (some .boolean) ∈ lw_tbl := tb_mem 330 rfl
theorem tw_331 : Cond.methodLink "CoilSlits" 53 y_Slit_within ∈ lw_tbl := tb_mem 331 (by decide +kernel)
theorem tw_332 : Cond.methodLink "CoilSlits$CoilReader" 50 y_Read_takesStack ∈ lw_tbl := tb_mem 332 (by decide +kernel)
theorem tw_334 : Cond.instanceMethod y_Read_takesStack ∈ lw_tbl := tb_mem 334 (by decide +kernel)
set_option maxRecDepth 100000 in
theorem tw_335 : Cond.code y_Read_takesStack b_Read_takesStack 2 (some .boolean) ∈ lw_tbl := tb_mem 335 rfl
theorem tw_336 : Cond.methodLink "CoilSlits$CoilReader" 53 y_Read_goesOn ∈ lw_tbl := tb_mem 336 (by decide +kernel)
theorem tw_338 : Cond.instanceMethod y_Read_goesOn ∈ lw_tbl := tb_mem 338 (by decide +kernel)
set_option maxRecDepth 100000 in
theorem tw_339 : Cond.code y_Read_goesOn b_Read_goesOn 2 (some .boolean) ∈ lw_tbl := tb_mem 339 rfl
theorem tw_341 : Cond.instanceMethod y_Slit_bestRule ∈ lw_tbl := tb_mem 341 (by decide +kernel)
theorem tw_342 : Cond.selects y_Slit_bestRule.cls y_Slit_bestRule y_Slit_bestRule ∈ lw_tbl := tb_mem 342 (by decide +kernel)
set_option maxRecDepth 100000 in
theorem tw_343 : Cond.code y_Slit_bestRule b_Slit_bestRule 10 (some .int) ∈ lw_tbl := tb_mem 343 rfl
theorem tw_344 : Cond.methodLink "CoilSlits" 233 y_Slit_beginTrial ∈ lw_tbl := tb_mem 344 (by decide +kernel)
theorem tw_346 : Cond.instanceMethod y_Slit_beginTrial ∈ lw_tbl := tb_mem 346 (by decide +kernel)
set_option maxRecDepth 100000 in
theorem tw_347 : Cond.code y_Slit_beginTrial b_Slit_beginTrial 2 none ∈ lw_tbl := tb_mem 347 rfl
theorem tw_348 : Cond.methodLink "CoilSlits" 284 y_Yard_copyFrom ∈ lw_tbl := tb_mem 348 (by decide +kernel)
theorem tw_349 : Cond.methodLink "CoilSlits" 168 y_Yard_changeSetting ∈ lw_tbl := tb_mem 349 (by decide +kernel)
theorem tw_350 : Cond.instanceMethod y_Yard_changeSetting ∈ lw_tbl := tb_mem 350 (by decide +kernel)
theorem tw_351 : Cond.selects y_Yard_changeSetting.cls y_Yard_changeSetting y_Yard_changeSetting ∈ lw_tbl := tb_mem 351 (by decide +kernel)
set_option maxRecDepth 100000 in
theorem tw_352 : Cond.code y_Yard_changeSetting b_Yard_changeSetting 3 none ∈ lw_tbl := tb_mem 352 rfl
theorem tw_353 : Cond.methodLink "CoilSlits" 239 y_Yard_tally ∈ lw_tbl := tb_mem 353 (by decide +kernel)
theorem tw_354 : Cond.instanceMethod y_Yard_tally ∈ lw_tbl := tb_mem 354 (by decide +kernel)
theorem tw_355 : Cond.selects y_Yard_tally.cls y_Yard_tally y_Yard_tally ∈ lw_tbl := tb_mem 355 (by decide +kernel)
set_option maxRecDepth 100000 in
theorem tw_356 : Cond.code y_Yard_tally b_Yard_tally 2 (some .int) ∈ lw_tbl := tb_mem 356 rfl
theorem tw_358 : Cond.instanceMethod y_Slit_bestStack ∈ lw_tbl := tb_mem 358 (by decide +kernel)
theorem tw_359 : Cond.selects y_Slit_bestStack.cls y_Slit_bestStack y_Slit_bestStack ∈ lw_tbl := tb_mem 359 (by decide +kernel)
set_option maxRecDepth 100000 in
theorem tw_360 : Cond.code y_Slit_bestStack b_Slit_bestStack 7 (some .int) ∈ lw_tbl := tb_mem 360 rfl
theorem tw_361 : Cond.methodLink "CoilSlits" 242 y_Yard_widerThanTop ∈ lw_tbl := tb_mem 361 (by decide +kernel)
theorem tw_362 : Cond.instanceMethod y_Yard_widerThanTop ∈ lw_tbl := tb_mem 362 (by decide +kernel)
theorem tw_363 : Cond.selects y_Yard_widerThanTop.cls y_Yard_widerThanTop y_Yard_widerThanTop ∈ lw_tbl := tb_mem 363 (by decide +kernel)
set_option maxRecDepth 100000 in
theorem tw_364 : Cond.code y_Yard_widerThanTop b_Yard_widerThanTop 6 (some .int) ∈ lw_tbl := tb_mem 364 rfl
theorem tw_365 : Cond.methodLink "CoilSlits" 80 y_Yard_heightOf ∈ lw_tbl := tb_mem 365 (by decide +kernel)
theorem tw_366 : Cond.instanceMethod y_Yard_heightOf ∈ lw_tbl := tb_mem 366 (by decide +kernel)
theorem tw_367 : Cond.selects y_Yard_heightOf.cls y_Yard_heightOf y_Yard_heightOf ∈ lw_tbl := tb_mem 367 (by decide +kernel)
set_option maxRecDepth 100000 in
theorem tw_368 : Cond.code y_Yard_heightOf b_Yard_heightOf 2 (some .int) ∈ lw_tbl := tb_mem 368 rfl
theorem tw_369 : Cond.methodLink "CoilSlits" 62 y_Yard_hasRoom ∈ lw_tbl := tb_mem 369 (by decide +kernel)
theorem tw_370 : Cond.instanceMethod y_Yard_hasRoom ∈ lw_tbl := tb_mem 370 (by decide +kernel)
theorem tw_371 : Cond.selects y_Yard_hasRoom.cls y_Yard_hasRoom y_Yard_hasRoom ∈ lw_tbl := tb_mem 371 (by decide +kernel)
set_option maxRecDepth 100000 in
theorem tw_372 : Cond.code y_Yard_hasRoom b_Yard_hasRoom 2 (some .boolean) ∈ lw_tbl := tb_mem 372 rfl
theorem tw_374 : Cond.instanceMethod y_Slit_used ∈ lw_tbl := tb_mem 374 (by decide +kernel)
theorem tw_375 : Cond.selects y_Slit_used.cls y_Slit_used y_Slit_used ∈ lw_tbl := tb_mem 375 (by decide +kernel)
set_option maxRecDepth 100000 in
theorem tw_376 : Cond.code y_Slit_used b_Slit_used 3 (some .double) ∈ lw_tbl := tb_mem 376 rfl
theorem tw_382 : Cond.methodLink "CoilSlits" 225 y_Slit_counted ∈ lw_tbl := tb_mem 382 (by decide +kernel)
theorem tw_384 : Cond.instanceMethod y_Slit_counted ∈ lw_tbl := tb_mem 384 (by decide +kernel)
set_option maxRecDepth 100000 in
theorem tw_385 : Cond.code y_Slit_counted b_Slit_counted 2 (some .int) ∈ lw_tbl := tb_mem 385 rfl
theorem tw_386 : Cond.methodLink "CoilSlits" 275 y_Yard_coilCount ∈ lw_tbl := tb_mem 386 (by decide +kernel)
theorem tw_387 : Cond.instanceMethod y_Yard_coilCount ∈ lw_tbl := tb_mem 387 (by decide +kernel)
theorem tw_388 : Cond.selects y_Yard_coilCount.cls y_Yard_coilCount y_Yard_coilCount ∈ lw_tbl := tb_mem 388 (by decide +kernel)
set_option maxRecDepth 100000 in
theorem tw_389 : Cond.code y_Yard_coilCount b_Yard_coilCount 3 (some .int) ∈ lw_tbl := tb_mem 389 rfl
theorem tw_390 : Cond.methodLink "CoilSlits" 278 y_Yard_sumOfCoils ∈ lw_tbl := tb_mem 390 (by decide +kernel)
theorem tw_391 : Cond.instanceMethod y_Yard_sumOfCoils ∈ lw_tbl := tb_mem 391 (by decide +kernel)
theorem tw_392 : Cond.selects y_Yard_sumOfCoils.cls y_Yard_sumOfCoils y_Yard_sumOfCoils ∈ lw_tbl := tb_mem 392 (by decide +kernel)
set_option maxRecDepth 100000 in
theorem tw_393 : Cond.code y_Yard_sumOfCoils b_Yard_sumOfCoils 4 (some .int) ∈ lw_tbl := tb_mem 393 rfl
theorem tw_394 : Cond.methodLink "CoilSlits" 111 y_Yard_orderCount ∈ lw_tbl := tb_mem 394 (by decide +kernel)
theorem tw_395 : Cond.instanceMethod y_Yard_orderCount ∈ lw_tbl := tb_mem 395 (by decide +kernel)
theorem tw_396 : Cond.selects y_Yard_orderCount.cls y_Yard_orderCount y_Yard_orderCount ∈ lw_tbl := tb_mem 396 (by decide +kernel)
set_option maxRecDepth 100000 in
theorem tw_397 : Cond.code y_Yard_orderCount b_Yard_orderCount 1 (some .int) ∈ lw_tbl := tb_mem 397 rfl
theorem tw_398 : Cond.methodLink "CoilSlits" 195 y_Hist_kept ∈ lw_tbl := tb_mem 398 (by decide +kernel)
theorem tw_399 : Cond.instanceMethod y_Hist_kept ∈ lw_tbl := tb_mem 399 (by decide +kernel)
theorem tw_400 : Cond.selects y_Hist_kept.cls y_Hist_kept y_Hist_kept ∈ lw_tbl := tb_mem 400 (by decide +kernel)
set_option maxRecDepth 100000 in
theorem tw_401 : Cond.code y_Hist_kept b_Hist_kept 1 (some .int) ∈ lw_tbl := tb_mem 401 rfl
theorem tw_402 : Cond.methodLink "CoilSlits" 247 y_Slit_hashed ∈ lw_tbl := tb_mem 402 (by decide +kernel)
theorem tw_403 : Cond.static y_Slit_hashed ∈ lw_tbl := tb_mem 403 (by decide +kernel)
set_option maxRecDepth 100000 in
theorem tw_404 : Cond.code y_Slit_hashed b_Slit_hashed 4 (some .long) ∈ lw_tbl := tb_mem 404 rfl
theorem tw_406 : Cond.methodLink "CoilSlits" 165 y_Yard_settingNow ∈ lw_tbl := tb_mem 406 (by decide +kernel)
theorem tw_407 : Cond.instanceMethod y_Yard_settingNow ∈ lw_tbl := tb_mem 407 (by decide +kernel)
theorem tw_408 : Cond.selects y_Yard_settingNow.cls y_Yard_settingNow y_Yard_settingNow ∈ lw_tbl := tb_mem 408 (by decide +kernel)
set_option maxRecDepth 100000 in
theorem tw_409 : Cond.code y_Yard_settingNow b_Yard_settingNow 2 (some .int) ∈ lw_tbl := tb_mem 409 rfl
theorem tw_410 : Cond.methodLink "CoilSlits" 251 y_Slit_hashedPlace ∈ lw_tbl := tb_mem 410 (by decide +kernel)
theorem tw_412 : Cond.instanceMethod y_Slit_hashedPlace ∈ lw_tbl := tb_mem 412 (by decide +kernel)
set_option maxRecDepth 100000 in
theorem tw_413 : Cond.code y_Slit_hashedPlace b_Slit_hashedPlace 8 (some .long) ∈ lw_tbl := tb_mem 413 rfl
theorem tw_414 : Cond.methodLink "CoilSlits" 205 y_Yard_numberAt ∈ lw_tbl := tb_mem 414 (by decide +kernel)
theorem tw_415 : Cond.instanceMethod y_Yard_numberAt ∈ lw_tbl := tb_mem 415 (by decide +kernel)
theorem tw_416 : Cond.selects y_Yard_numberAt.cls y_Yard_numberAt y_Yard_numberAt ∈ lw_tbl := tb_mem 416 (by decide +kernel)
set_option maxRecDepth 100000 in
theorem tw_417 : Cond.code y_Yard_numberAt b_Yard_numberAt 2 (some .int) ∈ lw_tbl := tb_mem 417 rfl
theorem tw_418 : Cond.methodLink "CoilSlits" 215 y_Yard_coilProperty ∈ lw_tbl := tb_mem 418 (by decide +kernel)
theorem tw_419 : Cond.instanceMethod y_Yard_coilProperty ∈ lw_tbl := tb_mem 419 (by decide +kernel)
theorem tw_420 : Cond.selects y_Yard_coilProperty.cls y_Yard_coilProperty y_Yard_coilProperty ∈ lw_tbl := tb_mem 420 (by decide +kernel)
set_option maxRecDepth 100000 in
theorem tw_421 : Cond.code y_Yard_coilProperty b_Yard_coilProperty 3 (some .int) ∈ lw_tbl := tb_mem 421 rfl
theorem tw_422 : Cond.methodLink "CoilSlits" 255 y_Slit_hashedOrder ∈ lw_tbl := tb_mem 422 (by decide +kernel)
theorem tw_424 : Cond.instanceMethod y_Slit_hashedOrder ∈ lw_tbl := tb_mem 424 (by decide +kernel)
set_option maxRecDepth 100000 in
theorem tw_425 : Cond.code y_Slit_hashedOrder b_Slit_hashedOrder 8 (some .long) ∈ lw_tbl := tb_mem 425 rfl
theorem tw_426 : Cond.methodLink "CoilSlits" 220 y_Yard_orderProperty ∈ lw_tbl := tb_mem 426 (by decide +kernel)
theorem tw_427 : Cond.instanceMethod y_Yard_orderProperty ∈ lw_tbl := tb_mem 427 (by decide +kernel)
theorem tw_428 : Cond.selects y_Yard_orderProperty.cls y_Yard_orderProperty y_Yard_orderProperty ∈ lw_tbl := tb_mem 428 (by decide +kernel)
set_option maxRecDepth 100000 in
theorem tw_429 : Cond.code y_Yard_orderProperty b_Yard_orderProperty 3 (some .int) ∈ lw_tbl := tb_mem 429 rfl
theorem tw_430 : Cond.methodLink "CoilSlits$Yard" 108 y_Yard_coilsSuiting ∈ lw_tbl := tb_mem 430 (by decide +kernel)
theorem tw_432 : Cond.instanceMethod y_Yard_coilsSuiting ∈ lw_tbl := tb_mem 432 (by decide +kernel)
set_option maxRecDepth 100000 in
theorem tw_433 : Cond.code y_Yard_coilsSuiting b_Yard_coilsSuiting 5 (some .int) ∈ lw_tbl := tb_mem 433 rfl
theorem tw_434 : Cond.methodLink "CoilSlits$Yard" 117 y_Yard_suits ∈ lw_tbl := tb_mem 434 (by decide +kernel)
theorem tw_436 : Cond.instanceMethod y_Yard_suits ∈ lw_tbl := tb_mem 436 (by decide +kernel)
set_option maxRecDepth 100000 in
theorem tw_437 : Cond.code y_Yard_suits b_Yard_suits 4 (some .boolean) ∈ lw_tbl := tb_mem 437 rfl
theorem tw_438 : Cond.methodLink "CoilSlits$Yard" 111 y_Yard_stripsFitting ∈ lw_tbl := tb_mem 438 (by decide +kernel)
theorem tw_440 : Cond.instanceMethod y_Yard_stripsFitting ∈ lw_tbl := tb_mem 440 (by decide +kernel)
set_option maxRecDepth 100000 in
theorem tw_441 : Cond.code y_Yard_stripsFitting b_Yard_stripsFitting 5 (some .int) ∈ lw_tbl := tb_mem 441 rfl
theorem tw_442 : Cond.methodLink "CoilSlits" 228 y_Slit_numberOfChoice ∈ lw_tbl := tb_mem 442 (by decide +kernel)
theorem tw_444 : Cond.instanceMethod y_Slit_numberOfChoice ∈ lw_tbl := tb_mem 444 (by decide +kernel)
set_option maxRecDepth 100000 in
theorem tw_445 : Cond.code y_Slit_numberOfChoice b_Slit_numberOfChoice 3 (some .int) ∈ lw_tbl := tb_mem 445 rfl
theorem tw_446 : Cond.methodLink "CoilSlits" 281 y_Yard_choose ∈ lw_tbl := tb_mem 446 (by decide +kernel)
theorem tw_447 : Cond.methodLink "CoilSlits" 145 y_Yard_fulfil ∈ lw_tbl := tb_mem 447 (by decide +kernel)
theorem tw_448 : Cond.methodLink "CoilSlits" 236 y_Slit_gainOfTrial ∈ lw_tbl := tb_mem 448 (by decide +kernel)
theorem tw_450 : Cond.instanceMethod y_Slit_gainOfTrial ∈ lw_tbl := tb_mem 450 (by decide +kernel)
set_option maxRecDepth 100000 in
theorem tw_451 : Cond.code y_Slit_gainOfTrial b_Slit_gainOfTrial 2 (some .int) ∈ lw_tbl := tb_mem 451 rfl
theorem tw_452 : Cond.methodLink "CoilSlits" 287 y_Slit_gained ∈ lw_tbl := tb_mem 452 (by decide +kernel)
theorem tw_454 : Cond.instanceMethod y_Slit_gained ∈ lw_tbl := tb_mem 454 (by decide +kernel)
set_option maxRecDepth 100000 in
theorem tw_455 : Cond.code y_Slit_gained b_Slit_gained 2 (some .int) ∈ lw_tbl := tb_mem 455 rfl
theorem tw_456 : Cond.methodLink "CoilSlits" 258 y_Slit_bestRule ∈ lw_tbl := tb_mem 456 (by decide +kernel)
theorem tw_457 : Cond.methodLink "CoilSlits" 261 y_Slit_bestStack ∈ lw_tbl := tb_mem 457 (by decide +kernel)
theorem tw_458 : Cond.methodLink "CoilSlits" 264 y_Slit_used ∈ lw_tbl := tb_mem 458 (by decide +kernel)
theorem tw_459 : Cond.methodLink "CoilSlits" 268 y_Slit_bitsOf ∈ lw_tbl := tb_mem 459 (by decide +kernel)
theorem tw_460 : Cond.static y_Slit_bitsOf ∈ lw_tbl := tb_mem 460 (by decide +kernel)
set_option maxRecDepth 100000 in
theorem tw_461 : Cond.code y_Slit_bitsOf b_Slit_bitsOf 8 (some .long) ∈ lw_tbl := tb_mem 461 rfl
theorem tw_468 : Cond.classLink "CoilSlitsLaw" 13 "java/lang/IndexOutOfBoundsException" ∈ lw_tbl := tb_mem 468 (by decide +kernel)
theorem tw_469 : Cond.classLink "CoilSlitsLaw" 15 "java/lang/IllegalArgumentException" ∈ lw_tbl := tb_mem 469 (by decide +kernel)
theorem tw_470 : Cond.classLink "CoilSlitsLaw" 17 "java/lang/IllegalStateException" ∈ lw_tbl := tb_mem 470 (by decide +kernel)
theorem tw_471 : Cond.methodLink "CoilSlitsLaw" 7 y_Slit_receive ∈ lw_tbl := tb_mem 471 (by decide +kernel)
theorem tw_472 : Cond.instanceMethod y_Slit_receive ∈ lw_tbl := tb_mem 472 (by decide +kernel)
theorem tw_473 : Cond.selects y_Slit_receive.cls y_Slit_receive y_Slit_receive ∈ lw_tbl := tb_mem 473 (by decide +kernel)
set_option maxRecDepth 100000 in
theorem tw_474 : Cond.code y_Slit_receive b_Slit_receive 5 (some .int) ∈ lw_tbl := tb_mem 474 rfl
theorem tw_475 : Cond.methodLink "CoilSlits" 42 y_Slit_isStack ∈ lw_tbl := tb_mem 475 (by decide +kernel)
theorem tw_476 : Cond.classLink "CoilSlits" 46 "java/lang/IndexOutOfBoundsException" ∈ lw_tbl := tb_mem 476 (by decide +kernel)
theorem tw_544 : Cond.classLink "CoilSlits" 57 "java/lang/IllegalArgumentException" ∈ lw_tbl := tb_mem 544 (by decide +kernel)
theorem tw_560 : Cond.classLink "CoilSlits" 65 "java/lang/IllegalStateException" ∈ lw_tbl := tb_mem 560 (by decide +kernel)
theorem tw_576 : Cond.methodLink "CoilSlits" 74 y_Yard_bringIn ∈ lw_tbl := tb_mem 576 (by decide +kernel)
theorem tw_577 : Cond.instanceMethod y_Yard_bringIn ∈ lw_tbl := tb_mem 577 (by decide +kernel)
theorem tw_578 : Cond.selects y_Yard_bringIn.cls y_Yard_bringIn y_Yard_bringIn ∈ lw_tbl := tb_mem 578 (by decide +kernel)
set_option maxRecDepth 100000 in
theorem tw_579 : Cond.code y_Yard_bringIn b_Yard_bringIn 5 (some .int) ∈ lw_tbl := tb_mem 579 rfl
theorem tw_583 : Cond.methodLink "CoilSlitsLaw" 19 y_Slit_move ∈ lw_tbl := tb_mem 583 (by decide +kernel)
theorem tw_584 : Cond.instanceMethod y_Slit_move ∈ lw_tbl := tb_mem 584 (by decide +kernel)
theorem tw_585 : Cond.selects y_Slit_move.cls y_Slit_move y_Slit_move ∈ lw_tbl := tb_mem 585 (by decide +kernel)
set_option maxRecDepth 100000 in
theorem tw_586 : Cond.code y_Slit_move b_Slit_move 3 (some .int) ∈ lw_tbl := tb_mem 586 rfl
theorem tw_589 : Cond.methodLink "CoilSlits" 86 y_Yard_moveTop ∈ lw_tbl := tb_mem 589 (by decide +kernel)
theorem tw_593 : Cond.methodLink "CoilSlitsLaw" 23 y_Slit_dig ∈ lw_tbl := tb_mem 593 (by decide +kernel)
theorem tw_594 : Cond.instanceMethod y_Slit_dig ∈ lw_tbl := tb_mem 594 (by decide +kernel)
theorem tw_595 : Cond.selects y_Slit_dig.cls y_Slit_dig y_Slit_dig ∈ lw_tbl := tb_mem 595 (by decide +kernel)
set_option maxRecDepth 100000 in
theorem tw_596 : Cond.code y_Slit_dig b_Slit_dig 3 (some .int) ∈ lw_tbl := tb_mem 596 rfl
theorem tw_597 : Cond.methodLink "CoilSlits" 90 y_Yard_placeOf ∈ lw_tbl := tb_mem 597 (by decide +kernel)
theorem tw_598 : Cond.instanceMethod y_Yard_placeOf ∈ lw_tbl := tb_mem 598 (by decide +kernel)
theorem tw_599 : Cond.selects y_Yard_placeOf.cls y_Yard_placeOf y_Yard_placeOf ∈ lw_tbl := tb_mem 599 (by decide +kernel)
set_option maxRecDepth 100000 in
theorem tw_600 : Cond.code y_Yard_placeOf b_Yard_placeOf 3 (some .int) ∈ lw_tbl := tb_mem 600 rfl
theorem tw_602 : Cond.methodLink "CoilSlits" 95 y_Yard_canDig ∈ lw_tbl := tb_mem 602 (by decide +kernel)
theorem tw_603 : Cond.instanceMethod y_Yard_canDig ∈ lw_tbl := tb_mem 603 (by decide +kernel)
theorem tw_604 : Cond.selects y_Yard_canDig.cls y_Yard_canDig y_Yard_canDig ∈ lw_tbl := tb_mem 604 (by decide +kernel)
set_option maxRecDepth 100000 in
theorem tw_605 : Cond.code y_Yard_canDig b_Yard_canDig 2 (some .boolean) ∈ lw_tbl := tb_mem 605 rfl
theorem tw_607 : Cond.methodLink "CoilSlits" 100 y_Yard_digOut ∈ lw_tbl := tb_mem 607 (by decide +kernel)
theorem tw_611 : Cond.methodLink "CoilSlitsLaw" 27 y_Slit_sendAway ∈ lw_tbl := tb_mem 611 (by decide +kernel)
theorem tw_612 : Cond.instanceMethod y_Slit_sendAway ∈ lw_tbl := tb_mem 612 (by decide +kernel)
theorem tw_613 : Cond.selects y_Slit_sendAway.cls y_Slit_sendAway y_Slit_sendAway ∈ lw_tbl := tb_mem 613 (by decide +kernel)
set_option maxRecDepth 100000 in
theorem tw_614 : Cond.code y_Slit_sendAway b_Slit_sendAway 3 (some .int) ∈ lw_tbl := tb_mem 614 rfl
theorem tw_615 : Cond.methodLink "CoilSlits" 103 y_Slit_stackOf ∈ lw_tbl := tb_mem 615 (by decide +kernel)
theorem tw_616 : Cond.methodLink "CoilSlits" 106 y_Yard_sendTop ∈ lw_tbl := tb_mem 616 (by decide +kernel)
theorem tw_617 : Cond.instanceMethod y_Yard_sendTop ∈ lw_tbl := tb_mem 617 (by decide +kernel)
theorem tw_618 : Cond.selects y_Yard_sendTop.cls y_Yard_sendTop y_Yard_sendTop ∈ lw_tbl := tb_mem 618 (by decide +kernel)
set_option maxRecDepth 100000 in
theorem tw_619 : Cond.code y_Yard_sendTop b_Yard_sendTop 3 (some .int) ∈ lw_tbl := tb_mem 619 rfl
theorem tw_623 : Cond.methodLink "CoilSlitsLaw" 30 y_Slit_order ∈ lw_tbl := tb_mem 623 (by decide +kernel)
theorem tw_624 : Cond.instanceMethod y_Slit_order ∈ lw_tbl := tb_mem 624 (by decide +kernel)
theorem tw_625 : Cond.selects y_Slit_order.cls y_Slit_order y_Slit_order ∈ lw_tbl := tb_mem 625 (by decide +kernel)
set_option maxRecDepth 100000 in
theorem tw_626 : Cond.code y_Slit_order b_Slit_order 6 (some .int) ∈ lw_tbl := tb_mem 626 rfl
theorem tw_629 : Cond.methodLink "CoilSlits" 117 y_Yard_takeOrder ∈ lw_tbl := tb_mem 629 (by decide +kernel)
theorem tw_630 : Cond.instanceMethod y_Yard_takeOrder ∈ lw_tbl := tb_mem 630 (by decide +kernel)
theorem tw_631 : Cond.selects y_Yard_takeOrder.cls y_Yard_takeOrder y_Yard_takeOrder ∈ lw_tbl := tb_mem 631 (by decide +kernel)
set_option maxRecDepth 100000 in
theorem tw_632 : Cond.code y_Yard_takeOrder b_Yard_takeOrder 7 (some .int) ∈ lw_tbl := tb_mem 632 rfl
theorem tw_636 : Cond.methodLink "CoilSlitsLaw" 34 y_Slit_cancel ∈ lw_tbl := tb_mem 636 (by decide +kernel)
theorem tw_637 : Cond.instanceMethod y_Slit_cancel ∈ lw_tbl := tb_mem 637 (by decide +kernel)
theorem tw_638 : Cond.selects y_Slit_cancel.cls y_Slit_cancel y_Slit_cancel ∈ lw_tbl := tb_mem 638 (by decide +kernel)
set_option maxRecDepth 100000 in
theorem tw_639 : Cond.code y_Slit_cancel b_Slit_cancel 4 (some .int) ∈ lw_tbl := tb_mem 639 rfl
theorem tw_640 : Cond.methodLink "CoilSlits" 121 y_Yard_indexOfOrder ∈ lw_tbl := tb_mem 640 (by decide +kernel)
theorem tw_641 : Cond.instanceMethod y_Yard_indexOfOrder ∈ lw_tbl := tb_mem 641 (by decide +kernel)
theorem tw_642 : Cond.selects y_Yard_indexOfOrder.cls y_Yard_indexOfOrder y_Yard_indexOfOrder ∈ lw_tbl := tb_mem 642 (by decide +kernel)
set_option maxRecDepth 100000 in
theorem tw_643 : Cond.code y_Yard_indexOfOrder b_Yard_indexOfOrder 3 (some .int) ∈ lw_tbl := tb_mem 643 rfl
theorem tw_645 : Cond.methodLink "CoilSlits" 126 y_Yard_orderColumn ∈ lw_tbl := tb_mem 645 (by decide +kernel)
theorem tw_646 : Cond.instanceMethod y_Yard_orderColumn ∈ lw_tbl := tb_mem 646 (by decide +kernel)
theorem tw_647 : Cond.selects y_Yard_orderColumn.cls y_Yard_orderColumn y_Yard_orderColumn ∈ lw_tbl := tb_mem 647 (by decide +kernel)
set_option maxRecDepth 100000 in
theorem tw_648 : Cond.code y_Yard_orderColumn b_Yard_orderColumn 3 (some .int) ∈ lw_tbl := tb_mem 648 rfl
theorem tw_649 : Cond.methodLink "CoilSlits" 129 y_Yard_dropOrder ∈ lw_tbl := tb_mem 649 (by decide +kernel)
theorem tw_653 : Cond.methodLink "CoilSlitsLaw" 37 y_Slit_slit ∈ lw_tbl := tb_mem 653 (by decide +kernel)
theorem tw_654 : Cond.instanceMethod y_Slit_slit ∈ lw_tbl := tb_mem 654 (by decide +kernel)
theorem tw_655 : Cond.selects y_Slit_slit.cls y_Slit_slit y_Slit_slit ∈ lw_tbl := tb_mem 655 (by decide +kernel)
set_option maxRecDepth 100000 in
theorem tw_656 : Cond.code y_Slit_slit b_Slit_slit 6 (some .int) ∈ lw_tbl := tb_mem 656 rfl
theorem tw_658 : Cond.methodLink "CoilSlits" 134 y_Yard_reasonAgainst ∈ lw_tbl := tb_mem 658 (by decide +kernel)
theorem tw_659 : Cond.instanceMethod y_Yard_reasonAgainst ∈ lw_tbl := tb_mem 659 (by decide +kernel)
theorem tw_660 : Cond.selects y_Yard_reasonAgainst.cls y_Yard_reasonAgainst y_Yard_reasonAgainst ∈ lw_tbl := tb_mem 660 (by decide +kernel)
set_option maxRecDepth 100000 in
theorem tw_661 : Cond.code y_Yard_reasonAgainst b_Yard_reasonAgainst 4 (some .int) ∈ lw_tbl := tb_mem 661 rfl
theorem tw_662 : Cond.methodLink "CoilSlits$Yard" 128 y_Yard_canDig ∈ lw_tbl := tb_mem 662 (by decide +kernel)
theorem tw_664 : Cond.methodLink "CoilSlits" 139 y_Yard_cutTop ∈ lw_tbl := tb_mem 664 (by decide +kernel)
theorem tw_665 : Cond.methodLink "CoilSlits" 142 y_Yard_dropIfDone ∈ lw_tbl := tb_mem 665 (by decide +kernel)
theorem tw_669 : Cond.methodLink "CoilSlitsLaw" 40 y_Slit_serve ∈ lw_tbl := tb_mem 669 (by decide +kernel)
theorem tw_670 : Cond.instanceMethod y_Slit_serve ∈ lw_tbl := tb_mem 670 (by decide +kernel)
theorem tw_671 : Cond.selects y_Slit_serve.cls y_Slit_serve y_Slit_serve ∈ lw_tbl := tb_mem 671 (by decide +kernel)
set_option maxRecDepth 100000 in
theorem tw_672 : Cond.code y_Slit_serve b_Slit_serve 3 (some .int) ∈ lw_tbl := tb_mem 672 rfl
theorem tw_676 : Cond.methodLink "CoilSlitsLaw" 43 y_Slit_set ∈ lw_tbl := tb_mem 676 (by decide +kernel)
theorem tw_677 : Cond.instanceMethod y_Slit_set ∈ lw_tbl := tb_mem 677 (by decide +kernel)
theorem tw_678 : Cond.selects y_Slit_set.cls y_Slit_set y_Slit_set ∈ lw_tbl := tb_mem 678 (by decide +kernel)
set_option maxRecDepth 100000 in
theorem tw_679 : Cond.code y_Slit_set b_Slit_set 4 (some .int) ∈ lw_tbl := tb_mem 679 rfl
theorem tw_680 : Cond.methodLink "CoilSlits" 151 y_Slit_isSetting ∈ lw_tbl := tb_mem 680 (by decide +kernel)
theorem tw_681 : Cond.static y_Slit_isSetting ∈ lw_tbl := tb_mem 681 (by decide +kernel)
set_option maxRecDepth 100000 in
theorem tw_682 : Cond.code y_Slit_isSetting b_Slit_isSetting 1 (some .boolean) ∈ lw_tbl := tb_mem 682 rfl
theorem tw_692 : Cond.methodLink "CoilSlitsLaw" 46 y_Slit_append ∈ lw_tbl := tb_mem 692 (by decide +kernel)
theorem tw_693 : Cond.instanceMethod y_Slit_append ∈ lw_tbl := tb_mem 693 (by decide +kernel)
theorem tw_694 : Cond.selects y_Slit_append.cls y_Slit_append y_Slit_append ∈ lw_tbl := tb_mem 694 (by decide +kernel)
set_option maxRecDepth 100000 in
theorem tw_695 : Cond.code y_Slit_append b_Slit_append 2 (some .int) ∈ lw_tbl := tb_mem 695 rfl
theorem tw_698 : Cond.methodLink "CoilSlits" 180 y_Row_put ∈ lw_tbl := tb_mem 698 (by decide +kernel)
theorem tw_702 : Cond.methodLink "CoilSlitsLaw" 49 y_Slit_receiveAll ∈ lw_tbl := tb_mem 702 (by decide +kernel)
theorem tw_703 : Cond.instanceMethod y_Slit_receiveAll ∈ lw_tbl := tb_mem 703 (by decide +kernel)
theorem tw_704 : Cond.selects y_Slit_receiveAll.cls y_Slit_receiveAll y_Slit_receiveAll ∈ lw_tbl := tb_mem 704 (by decide +kernel)
set_option maxRecDepth 100000 in
theorem tw_705 : Cond.code y_Slit_receiveAll b_Slit_receiveAll 2 (some .int) ∈ lw_tbl := tb_mem 705 rfl
theorem tw_706 : Cond.methodLink "CoilSlits" 186 y_Read_isComplete ∈ lw_tbl := tb_mem 706 (by decide +kernel)
theorem tw_707 : Cond.instanceMethod y_Read_isComplete ∈ lw_tbl := tb_mem 707 (by decide +kernel)
theorem tw_708 : Cond.selects y_Read_isComplete.cls y_Read_isComplete y_Read_isComplete ∈ lw_tbl := tb_mem 708 (by decide +kernel)
set_option maxRecDepth 100000 in
theorem tw_709 : Cond.code y_Read_isComplete b_Read_isComplete 1 (some .boolean) ∈ lw_tbl := tb_mem 709 rfl
theorem tw_711 : Cond.methodLink "CoilSlits" 192 y_Slit_bringInBuffer ∈ lw_tbl := tb_mem 711 (by decide +kernel)
theorem tw_713 : Cond.instanceMethod y_Slit_bringInBuffer ∈ lw_tbl := tb_mem 713 (by decide +kernel)
set_option maxRecDepth 100000 in
theorem tw_714 : Cond.code y_Slit_bringInBuffer b_Slit_bringInBuffer 6 (some .int) ∈ lw_tbl := tb_mem 714 rfl
theorem tw_715 : Cond.methodLink "CoilSlits" 296 y_Read_stack ∈ lw_tbl := tb_mem 715 (by decide +kernel)
theorem tw_716 : Cond.instanceMethod y_Read_stack ∈ lw_tbl := tb_mem 716 (by decide +kernel)
theorem tw_717 : Cond.selects y_Read_stack.cls y_Read_stack y_Read_stack ∈ lw_tbl := tb_mem 717 (by decide +kernel)
set_option maxRecDepth 100000 in
theorem tw_718 : Cond.code y_Read_stack b_Read_stack 1 (some .int) ∈ lw_tbl := tb_mem 718 rfl
theorem tw_719 : Cond.methodLink "CoilSlits" 299 y_Yard_emptiest ∈ lw_tbl := tb_mem 719 (by decide +kernel)
theorem tw_720 : Cond.instanceMethod y_Yard_emptiest ∈ lw_tbl := tb_mem 720 (by decide +kernel)
theorem tw_721 : Cond.selects y_Yard_emptiest.cls y_Yard_emptiest y_Yard_emptiest ∈ lw_tbl := tb_mem 721 (by decide +kernel)
set_option maxRecDepth 100000 in
theorem tw_722 : Cond.code y_Yard_emptiest b_Yard_emptiest 3 (some .int) ∈ lw_tbl := tb_mem 722 rfl
theorem tw_723 : Cond.methodLink "CoilSlits" 302 y_Read_width ∈ lw_tbl := tb_mem 723 (by decide +kernel)
theorem tw_724 : Cond.instanceMethod y_Read_width ∈ lw_tbl := tb_mem 724 (by decide +kernel)
theorem tw_725 : Cond.selects y_Read_width.cls y_Read_width y_Read_width ∈ lw_tbl := tb_mem 725 (by decide +kernel)
set_option maxRecDepth 100000 in
theorem tw_726 : Cond.code y_Read_width b_Read_width 1 (some .int) ∈ lw_tbl := tb_mem 726 rfl
theorem tw_727 : Cond.methodLink "CoilSlits" 305 y_Read_grade ∈ lw_tbl := tb_mem 727 (by decide +kernel)
theorem tw_728 : Cond.instanceMethod y_Read_grade ∈ lw_tbl := tb_mem 728 (by decide +kernel)
theorem tw_729 : Cond.selects y_Read_grade.cls y_Read_grade y_Read_grade ∈ lw_tbl := tb_mem 729 (by decide +kernel)
set_option maxRecDepth 100000 in
theorem tw_730 : Cond.code y_Read_grade b_Read_grade 1 (some .int) ∈ lw_tbl := tb_mem 730 rfl
theorem tw_731 : Cond.methodLink "CoilSlits" 308 y_Read_quality ∈ lw_tbl := tb_mem 731 (by decide +kernel)
theorem tw_732 : Cond.instanceMethod y_Read_quality ∈ lw_tbl := tb_mem 732 (by decide +kernel)
theorem tw_733 : Cond.selects y_Read_quality.cls y_Read_quality y_Read_quality ∈ lw_tbl := tb_mem 733 (by decide +kernel)
set_option maxRecDepth 100000 in
theorem tw_734 : Cond.code y_Read_quality b_Read_quality 1 (some .int) ∈ lw_tbl := tb_mem 734 rfl
theorem tw_738 : Cond.methodLink "CoilSlitsLaw" 53 y_Slit_undo ∈ lw_tbl := tb_mem 738 (by decide +kernel)
theorem tw_739 : Cond.instanceMethod y_Slit_undo ∈ lw_tbl := tb_mem 739 (by decide +kernel)
theorem tw_740 : Cond.selects y_Slit_undo.cls y_Slit_undo y_Slit_undo ∈ lw_tbl := tb_mem 740 (by decide +kernel)
set_option maxRecDepth 100000 in
theorem tw_741 : Cond.code y_Slit_undo b_Slit_undo 1 (some .int) ∈ lw_tbl := tb_mem 741 rfl
theorem tw_743 : Cond.methodLink "CoilSlits" 200 y_Hist_restore ∈ lw_tbl := tb_mem 743 (by decide +kernel)
theorem tw_744 : Cond.instanceMethod y_Hist_restore ∈ lw_tbl := tb_mem 744 (by decide +kernel)
theorem tw_745 : Cond.selects y_Hist_restore.cls y_Hist_restore y_Hist_restore ∈ lw_tbl := tb_mem 745 (by decide +kernel)
set_option maxRecDepth 100000 in
theorem tw_746 : Cond.code y_Hist_restore b_Hist_restore 3 none ∈ lw_tbl := tb_mem 746 rfl
theorem tw_747 : Cond.methodLink "CoilSlits$History" 39 Lib.Math.max.name ∈ lw_tbl := tb_mem 747 (by decide +kernel)
theorem tw_751 : Cond.methodLink "CoilSlitsLaw" 56 y_Slit_at ∈ lw_tbl := tb_mem 751 (by decide +kernel)
theorem tw_752 : Cond.instanceMethod y_Slit_at ∈ lw_tbl := tb_mem 752 (by decide +kernel)
theorem tw_753 : Cond.selects y_Slit_at.cls y_Slit_at y_Slit_at ∈ lw_tbl := tb_mem 753 (by decide +kernel)
set_option maxRecDepth 100000 in
theorem tw_754 : Cond.code y_Slit_at b_Slit_at 3 (some .int) ∈ lw_tbl := tb_mem 754 rfl
theorem tw_759 : Cond.methodLink "CoilSlitsLaw" 59 y_Slit_coil ∈ lw_tbl := tb_mem 759 (by decide +kernel)
theorem tw_760 : Cond.instanceMethod y_Slit_coil ∈ lw_tbl := tb_mem 760 (by decide +kernel)
theorem tw_761 : Cond.selects y_Slit_coil.cls y_Slit_coil y_Slit_coil ∈ lw_tbl := tb_mem 761 (by decide +kernel)
set_option maxRecDepth 100000 in
theorem tw_762 : Cond.code y_Slit_coil b_Slit_coil 4 (some .int) ∈ lw_tbl := tb_mem 762 rfl
theorem tw_763 : Cond.methodLink "CoilSlits" 208 y_Yard_hasSeen ∈ lw_tbl := tb_mem 763 (by decide +kernel)
theorem tw_764 : Cond.instanceMethod y_Yard_hasSeen ∈ lw_tbl := tb_mem 764 (by decide +kernel)
theorem tw_765 : Cond.selects y_Yard_hasSeen.cls y_Yard_hasSeen y_Yard_hasSeen ∈ lw_tbl := tb_mem 765 (by decide +kernel)
set_option maxRecDepth 100000 in
theorem tw_766 : Cond.code y_Yard_hasSeen b_Yard_hasSeen 2 (some .boolean) ∈ lw_tbl := tb_mem 766 rfl
theorem tw_772 : Cond.methodLink "CoilSlitsLaw" 62 y_Slit_orderOf ∈ lw_tbl := tb_mem 772 (by decide +kernel)
theorem tw_773 : Cond.instanceMethod y_Slit_orderOf ∈ lw_tbl := tb_mem 773 (by decide +kernel)
theorem tw_774 : Cond.selects y_Slit_orderOf.cls y_Slit_orderOf y_Slit_orderOf ∈ lw_tbl := tb_mem 774 (by decide +kernel)
set_option maxRecDepth 100000 in
theorem tw_775 : Cond.code y_Slit_orderOf b_Slit_orderOf 3 (some .int) ∈ lw_tbl := tb_mem 775 rfl
theorem tw_780 : Cond.methodLink "CoilSlitsLaw" 65 y_Slit_whyNot ∈ lw_tbl := tb_mem 780 (by decide +kernel)
theorem tw_781 : Cond.instanceMethod y_Slit_whyNot ∈ lw_tbl := tb_mem 781 (by decide +kernel)
theorem tw_782 : Cond.selects y_Slit_whyNot.cls y_Slit_whyNot y_Slit_whyNot ∈ lw_tbl := tb_mem 782 (by decide +kernel)
set_option maxRecDepth 100000 in
theorem tw_783 : Cond.code y_Slit_whyNot b_Slit_whyNot 5 (some .int) ∈ lw_tbl := tb_mem 783 rfl
theorem tw_787 : Cond.methodLink "CoilSlitsLaw" 68 y_Slit_count ∈ lw_tbl := tb_mem 787 (by decide +kernel)
theorem tw_788 : Cond.instanceMethod y_Slit_count ∈ lw_tbl := tb_mem 788 (by decide +kernel)
theorem tw_789 : Cond.selects y_Slit_count.cls y_Slit_count y_Slit_count ∈ lw_tbl := tb_mem 789 (by decide +kernel)
set_option maxRecDepth 100000 in
theorem tw_790 : Cond.code y_Slit_count b_Slit_count 2 (some .int) ∈ lw_tbl := tb_mem 790 rfl
theorem tw_795 : Cond.methodLink "CoilSlitsLaw" 71 y_Slit_setting ∈ lw_tbl := tb_mem 795 (by decide +kernel)
theorem tw_796 : Cond.instanceMethod y_Slit_setting ∈ lw_tbl := tb_mem 796 (by decide +kernel)
theorem tw_797 : Cond.selects y_Slit_setting.cls y_Slit_setting y_Slit_setting ∈ lw_tbl := tb_mem 797 (by decide +kernel)
set_option maxRecDepth 100000 in
theorem tw_798 : Cond.code y_Slit_setting b_Slit_setting 2 (some .int) ∈ lw_tbl := tb_mem 798 rfl
theorem tw_802 : Cond.methodLink "CoilSlitsLaw" 74 y_Slit_choice ∈ lw_tbl := tb_mem 802 (by decide +kernel)
theorem tw_803 : Cond.instanceMethod y_Slit_choice ∈ lw_tbl := tb_mem 803 (by decide +kernel)
theorem tw_804 : Cond.selects y_Slit_choice.cls y_Slit_choice y_Slit_choice ∈ lw_tbl := tb_mem 804 (by decide +kernel)
set_option maxRecDepth 100000 in
theorem tw_805 : Cond.code y_Slit_choice b_Slit_choice 3 (some .int) ∈ lw_tbl := tb_mem 805 rfl
theorem tw_809 : Cond.methodLink "CoilSlitsLaw" 77 y_Slit_ifServed ∈ lw_tbl := tb_mem 809 (by decide +kernel)
theorem tw_810 : Cond.instanceMethod y_Slit_ifServed ∈ lw_tbl := tb_mem 810 (by decide +kernel)
theorem tw_811 : Cond.selects y_Slit_ifServed.cls y_Slit_ifServed y_Slit_ifServed ∈ lw_tbl := tb_mem 811 (by decide +kernel)
set_option maxRecDepth 100000 in
theorem tw_812 : Cond.code y_Slit_ifServed b_Slit_ifServed 5 (some .int) ∈ lw_tbl := tb_mem 812 rfl
theorem tw_819 : Cond.methodLink "CoilSlitsModel" 1 objectInit ∈ lw_tbl := tb_mem 819 (by decide +kernel)
theorem tw_862 : Cond.methodLink "CoilSlitsModel" 36 y_Mod_fails ∈ lw_tbl := tb_mem 862 (by decide +kernel)
theorem tw_864 : Cond.instanceMethod y_Mod_fails ∈ lw_tbl := tb_mem 864 (by decide +kernel)
set_option maxRecDepth 100000 in
theorem tw_865 : Cond.code y_Mod_fails b_Mod_fails 2 (some .int) ∈ lw_tbl := tb_mem 865 rfl
theorem tw_870 : Cond.methodLink "CoilSlitsModel" 109 y_Mod_isStack ∈ lw_tbl := tb_mem 870 (by decide +kernel)
theorem tw_871 : Cond.static y_Mod_isStack ∈ lw_tbl := tb_mem 871 (by decide +kernel)
set_option maxRecDepth 100000 in
theorem tw_872 : Cond.code y_Mod_isStack b_Mod_isStack 1 (some .boolean) ∈ lw_tbl := tb_mem 872 rfl
theorem tw_873 : Cond.methodLink "CoilSlitsModel" 29 y_Mod_in ∈ lw_tbl := tb_mem 873 (by decide +kernel)
theorem tw_874 : Cond.static y_Mod_in ∈ lw_tbl := tb_mem 874 (by decide +kernel)
set_option maxRecDepth 100000 in
theorem tw_875 : Cond.code y_Mod_in b_Mod_in 3 (some .boolean) ∈ lw_tbl := tb_mem 875 rfl
theorem tw_876 : Cond.methodLink "CoilSlitsModel" 113 y_Mod_saves ∈ lw_tbl := tb_mem 876 (by decide +kernel)
theorem tw_878 : Cond.instanceMethod y_Mod_saves ∈ lw_tbl := tb_mem 878 (by decide +kernel)
set_option maxRecDepth 100000 in
theorem tw_879 : Cond.code y_Mod_saves b_Mod_saves 2 none ∈ lw_tbl := tb_mem 879 rfl
theorem tw_880 : Cond.methodLink "CoilSlitsModel" 116 y_Mod_comes ∈ lw_tbl := tb_mem 880 (by decide +kernel)
theorem tw_882 : Cond.instanceMethod y_Mod_comes ∈ lw_tbl := tb_mem 882 (by decide +kernel)
set_option maxRecDepth 100000 in
theorem tw_883 : Cond.code y_Mod_comes b_Mod_comes 5 (some .int) ∈ lw_tbl := tb_mem 883 rfl
theorem tw_884 : Cond.methodLink "CoilSlitsModel" 55 y_Mod_lays ∈ lw_tbl := tb_mem 884 (by decide +kernel)
theorem tw_885 : Cond.static y_Mod_lays ∈ lw_tbl := tb_mem 885 (by decide +kernel)
set_option maxRecDepth 100000 in
theorem tw_886 : Cond.code y_Mod_lays b_Mod_lays 8 none ∈ lw_tbl := tb_mem 886 rfl
theorem tw_891 : Cond.methodLink "CoilSlitsModel" 69 y_Mod_moves ∈ lw_tbl := tb_mem 891 (by decide +kernel)
theorem tw_892 : Cond.static y_Mod_moves ∈ lw_tbl := tb_mem 892 (by decide +kernel)
set_option maxRecDepth 100000 in
theorem tw_893 : Cond.code y_Mod_moves b_Mod_moves 5 (some .int) ∈ lw_tbl := tb_mem 893 rfl
theorem tw_894 : Cond.methodLink "CoilSlitsModel" 51 y_Mod_topOf ∈ lw_tbl := tb_mem 894 (by decide +kernel)
theorem tw_895 : Cond.static y_Mod_topOf ∈ lw_tbl := tb_mem 895 (by decide +kernel)
set_option maxRecDepth 100000 in
theorem tw_896 : Cond.code y_Mod_topOf b_Mod_topOf 2 (some .int) ∈ lw_tbl := tb_mem 896 rfl
theorem tw_897 : Cond.methodLink "CoilSlitsModel" 44 y_Mod_of ∈ lw_tbl := tb_mem 897 (by decide +kernel)
theorem tw_898 : Cond.static y_Mod_of ∈ lw_tbl := tb_mem 898 (by decide +kernel)
set_option maxRecDepth 100000 in
theorem tw_899 : Cond.code y_Mod_of b_Mod_of 3 (some .int) ∈ lw_tbl := tb_mem 899 rfl
theorem tw_900 : Cond.methodLink "CoilSlitsModel" 59 y_Mod_far ∈ lw_tbl := tb_mem 900 (by decide +kernel)
theorem tw_901 : Cond.static y_Mod_far ∈ lw_tbl := tb_mem 901 (by decide +kernel)
set_option maxRecDepth 100000 in
theorem tw_902 : Cond.code y_Mod_far b_Mod_far 2 (some .int) ∈ lw_tbl := tb_mem 902 rfl
theorem tw_907 : Cond.methodLink "CoilSlitsModel" 120 y_Mod_placeOf ∈ lw_tbl := tb_mem 907 (by decide +kernel)
theorem tw_908 : Cond.static y_Mod_placeOf ∈ lw_tbl := tb_mem 908 (by decide +kernel)
set_option maxRecDepth 100000 in
theorem tw_909 : Cond.code y_Mod_placeOf b_Mod_placeOf 3 (some .int) ∈ lw_tbl := tb_mem 909 rfl
theorem tw_910 : Cond.methodLink "CoilSlitsModel" 40 y_Mod_isAt ∈ lw_tbl := tb_mem 910 (by decide +kernel)
theorem tw_911 : Cond.static y_Mod_isAt ∈ lw_tbl := tb_mem 911 (by decide +kernel)
set_option maxRecDepth 100000 in
theorem tw_912 : Cond.code y_Mod_isAt b_Mod_isAt 2 (some .boolean) ∈ lw_tbl := tb_mem 912 rfl
theorem tw_913 : Cond.methodLink "CoilSlitsModel" 123 y_Mod_mayDig ∈ lw_tbl := tb_mem 913 (by decide +kernel)
theorem tw_915 : Cond.instanceMethod y_Mod_mayDig ∈ lw_tbl := tb_mem 915 (by decide +kernel)
set_option maxRecDepth 100000 in
theorem tw_916 : Cond.code y_Mod_mayDig b_Mod_mayDig 2 (some .int) ∈ lw_tbl := tb_mem 916 rfl
theorem tw_917 : Cond.methodLink "CoilSlitsModel" 75 y_Mod_canDig ∈ lw_tbl := tb_mem 917 (by decide +kernel)
theorem tw_918 : Cond.static y_Mod_canDig ∈ lw_tbl := tb_mem 918 (by decide +kernel)
set_option maxRecDepth 100000 in
theorem tw_919 : Cond.code y_Mod_canDig b_Mod_canDig 4 (some .boolean) ∈ lw_tbl := tb_mem 919 rfl
theorem tw_920 : Cond.methodLink "CoilSlitsModel" 63 y_Mod_above ∈ lw_tbl := tb_mem 920 (by decide +kernel)
theorem tw_921 : Cond.static y_Mod_above ∈ lw_tbl := tb_mem 921 (by decide +kernel)
set_option maxRecDepth 100000 in
theorem tw_922 : Cond.code y_Mod_above b_Mod_above 2 (some .int) ∈ lw_tbl := tb_mem 922 rfl
theorem tw_923 : Cond.methodLink "CoilSlitsModel" 87 y_Mod_digs ∈ lw_tbl := tb_mem 923 (by decide +kernel)
theorem tw_924 : Cond.static y_Mod_digs ∈ lw_tbl := tb_mem 924 (by decide +kernel)
set_option maxRecDepth 100000 in
theorem tw_925 : Cond.code y_Mod_digs b_Mod_digs 4 (some .int) ∈ lw_tbl := tb_mem 925 rfl
theorem tw_926 : Cond.methodLink "CoilSlitsModel" 66 y_Mod_nearest ∈ lw_tbl := tb_mem 926 (by decide +kernel)
theorem tw_927 : Cond.static y_Mod_nearest ∈ lw_tbl := tb_mem 927 (by decide +kernel)
set_option maxRecDepth 100000 in
theorem tw_928 : Cond.code y_Mod_nearest b_Mod_nearest 6 (some .int) ∈ lw_tbl := tb_mem 928 rfl
theorem tw_941 : Cond.methodLink "CoilSlitsModel" 94 y_Mod_orderAt ∈ lw_tbl := tb_mem 941 (by decide +kernel)
theorem tw_942 : Cond.static y_Mod_orderAt ∈ lw_tbl := tb_mem 942 (by decide +kernel)
set_option maxRecDepth 100000 in
theorem tw_943 : Cond.code y_Mod_orderAt b_Mod_orderAt 3 (some .int) ∈ lw_tbl := tb_mem 943 rfl
theorem tw_944 : Cond.methodLink "CoilSlitsModel" 48 y_Mod_by ∈ lw_tbl := tb_mem 944 (by decide +kernel)
theorem tw_945 : Cond.static y_Mod_by ∈ lw_tbl := tb_mem 945 (by decide +kernel)
set_option maxRecDepth 100000 in
theorem tw_946 : Cond.code y_Mod_by b_Mod_by 3 (some .int) ∈ lw_tbl := tb_mem 946 rfl
theorem tw_947 : Cond.methodLink "CoilSlitsModel" 90 y_Mod_orderGoes ∈ lw_tbl := tb_mem 947 (by decide +kernel)
theorem tw_948 : Cond.static y_Mod_orderGoes ∈ lw_tbl := tb_mem 948 (by decide +kernel)
set_option maxRecDepth 100000 in
theorem tw_949 : Cond.code y_Mod_orderGoes b_Mod_orderGoes 3 none ∈ lw_tbl := tb_mem 949 rfl
theorem tw_954 : Cond.methodLink "CoilSlitsModel" 81 y_Mod_reason ∈ lw_tbl := tb_mem 954 (by decide +kernel)
theorem tw_955 : Cond.static y_Mod_reason ∈ lw_tbl := tb_mem 955 (by decide +kernel)
set_option maxRecDepth 100000 in
theorem tw_956 : Cond.code y_Mod_reason b_Mod_reason 3 (some .int) ∈ lw_tbl := tb_mem 956 rfl
theorem tw_957 : Cond.methodLink "CoilSlitsModel" 72 y_Mod_fits ∈ lw_tbl := tb_mem 957 (by decide +kernel)
theorem tw_958 : Cond.static y_Mod_fits ∈ lw_tbl := tb_mem 958 (by decide +kernel)
set_option maxRecDepth 100000 in
theorem tw_959 : Cond.code y_Mod_fits b_Mod_fits 3 (some .int) ∈ lw_tbl := tb_mem 959 rfl
theorem tw_960 : Cond.methodLink "CoilSlitsModel" 100 y_Mod_slits ∈ lw_tbl := tb_mem 960 (by decide +kernel)
theorem tw_961 : Cond.static y_Mod_slits ∈ lw_tbl := tb_mem 961 (by decide +kernel)
set_option maxRecDepth 100000 in
theorem tw_962 : Cond.code y_Mod_slits b_Mod_slits 6 (some .int) ∈ lw_tbl := tb_mem 962 rfl
theorem tw_963 : Cond.methodLink "CoilSlitsModel" 78 y_Mod_cuts ∈ lw_tbl := tb_mem 963 (by decide +kernel)
theorem tw_964 : Cond.static y_Mod_cuts ∈ lw_tbl := tb_mem 964 (by decide +kernel)
set_option maxRecDepth 100000 in
theorem tw_965 : Cond.code y_Mod_cuts b_Mod_cuts 4 (some .int) ∈ lw_tbl := tb_mem 965 rfl
theorem tw_966 : Cond.methodLink "CoilSlitsModel" 84 y_Mod_restOf ∈ lw_tbl := tb_mem 966 (by decide +kernel)
theorem tw_967 : Cond.static y_Mod_restOf ∈ lw_tbl := tb_mem 967 (by decide +kernel)
set_option maxRecDepth 100000 in
theorem tw_968 : Cond.code y_Mod_restOf b_Mod_restOf 3 (some .int) ∈ lw_tbl := tb_mem 968 rfl
theorem tw_973 : Cond.methodLink "CoilSlitsModel" 106 y_Mod_serves ∈ lw_tbl := tb_mem 973 (by decide +kernel)
theorem tw_974 : Cond.static y_Mod_serves ∈ lw_tbl := tb_mem 974 (by decide +kernel)
set_option maxRecDepth 100000 in
theorem tw_975 : Cond.code y_Mod_serves b_Mod_serves 5 (some .int) ∈ lw_tbl := tb_mem 975 rfl
theorem tw_976 : Cond.methodLink "CoilSlitsModel" 97 y_Mod_chosen ∈ lw_tbl := tb_mem 976 (by decide +kernel)
theorem tw_977 : Cond.static y_Mod_chosen ∈ lw_tbl := tb_mem 977 (by decide +kernel)
set_option maxRecDepth 100000 in
theorem tw_978 : Cond.code y_Mod_chosen b_Mod_chosen 7 (some .int) ∈ lw_tbl := tb_mem 978 rfl
theorem tw_983 : Cond.methodLink "CoilSlitsModel" 126 y_Mod_servesAll ∈ lw_tbl := tb_mem 983 (by decide +kernel)
theorem tw_984 : Cond.static y_Mod_servesAll ∈ lw_tbl := tb_mem 984 (by decide +kernel)
set_option maxRecDepth 100000 in
theorem tw_985 : Cond.code y_Mod_servesAll b_Mod_servesAll 5 (some .int) ∈ lw_tbl := tb_mem 985 rfl
theorem tw_986 : Cond.methodLink "CoilSlitsModel" 103 y_Mod_nextOrder ∈ lw_tbl := tb_mem 986 (by decide +kernel)
theorem tw_987 : Cond.static y_Mod_nextOrder ∈ lw_tbl := tb_mem 987 (by decide +kernel)
set_option maxRecDepth 100000 in
theorem tw_988 : Cond.code y_Mod_nextOrder b_Mod_nextOrder 6 (some .int) ∈ lw_tbl := tb_mem 988 rfl
theorem tw_993 : Cond.methodLink "CoilSlitsModel" 130 y_Mod_isFor ∈ lw_tbl := tb_mem 993 (by decide +kernel)
theorem tw_994 : Cond.static y_Mod_isFor ∈ lw_tbl := tb_mem 994 (by decide +kernel)
set_option maxRecDepth 100000 in
theorem tw_995 : Cond.code y_Mod_isFor b_Mod_isFor 2 (some .boolean) ∈ lw_tbl := tb_mem 995 rfl
theorem tw_1008 : Cond.methodLink "CoilSlitsModel" 163 y_Mod_isText ∈ lw_tbl := tb_mem 1008 (by decide +kernel)
theorem tw_1010 : Cond.instanceMethod y_Mod_isText ∈ lw_tbl := tb_mem 1010 (by decide +kernel)
set_option maxRecDepth 100000 in
theorem tw_1011 : Cond.code y_Mod_isText b_Mod_isText 2 (some .boolean) ∈ lw_tbl := tb_mem 1011 rfl
theorem tw_1012 : Cond.methodLink "CoilSlitsModel" 160 y_Mod_isPart ∈ lw_tbl := tb_mem 1012 (by decide +kernel)
theorem tw_1014 : Cond.instanceMethod y_Mod_isPart ∈ lw_tbl := tb_mem 1014 (by decide +kernel)
set_option maxRecDepth 100000 in
theorem tw_1015 : Cond.code y_Mod_isPart b_Mod_isPart 1 (some .boolean) ∈ lw_tbl := tb_mem 1015 rfl
theorem tw_1016 : Cond.methodLink "CoilSlitsModel" 154 y_Mod_isWidth ∈ lw_tbl := tb_mem 1016 (by decide +kernel)
theorem tw_1018 : Cond.instanceMethod y_Mod_isWidth ∈ lw_tbl := tb_mem 1018 (by decide +kernel)
set_option maxRecDepth 100000 in
theorem tw_1019 : Cond.code y_Mod_isWidth b_Mod_isWidth 2 (some .boolean) ∈ lw_tbl := tb_mem 1019 rfl
theorem tw_1020 : Cond.methodLink "CoilSlitsModel" 144 y_Mod_isNext ∈ lw_tbl := tb_mem 1020 (by decide +kernel)
theorem tw_1022 : Cond.instanceMethod y_Mod_isNext ∈ lw_tbl := tb_mem 1022 (by decide +kernel)
set_option maxRecDepth 100000 in
theorem tw_1023 : Cond.code y_Mod_isNext b_Mod_isNext 3 (some .boolean) ∈ lw_tbl := tb_mem 1023 rfl
theorem tw_1024 : Cond.methodLink "CoilSlitsModel" 147 y_Mod_stops ∈ lw_tbl := tb_mem 1024 (by decide +kernel)
theorem tw_1026 : Cond.instanceMethod y_Mod_stops ∈ lw_tbl := tb_mem 1026 (by decide +kernel)
set_option maxRecDepth 100000 in
theorem tw_1027 : Cond.code y_Mod_stops b_Mod_stops 1 (some .boolean) ∈ lw_tbl := tb_mem 1027 rfl
theorem tw_1028 : Cond.methodLink "CoilSlitsModel" 157 y_Mod_isFigure ∈ lw_tbl := tb_mem 1028 (by decide +kernel)
theorem tw_1030 : Cond.instanceMethod y_Mod_isFigure ∈ lw_tbl := tb_mem 1030 (by decide +kernel)
set_option maxRecDepth 100000 in
theorem tw_1031 : Cond.code y_Mod_isFigure b_Mod_isFigure 3 (some .boolean) ∈ lw_tbl := tb_mem 1031 rfl
theorem tw_1036 : Cond.methodLink "CoilSlitsModel" 166 y_Mod_lowest ∈ lw_tbl := tb_mem 1036 (by decide +kernel)
theorem tw_1038 : Cond.instanceMethod y_Mod_lowest ∈ lw_tbl := tb_mem 1038 (by decide +kernel)
set_option maxRecDepth 100000 in
theorem tw_1039 : Cond.code y_Mod_lowest b_Mod_lowest 3 (some .int) ∈ lw_tbl := tb_mem 1039 rfl
theorem tw_1044 : Cond.methodLink "CoilSlitsModel" 170 y_Mod_coilAt ∈ lw_tbl := tb_mem 1044 (by decide +kernel)
theorem tw_1046 : Cond.instanceMethod y_Mod_coilAt ∈ lw_tbl := tb_mem 1046 (by decide +kernel)
set_option maxRecDepth 100000 in
theorem tw_1047 : Cond.code y_Mod_coilAt b_Mod_coilAt 2 (some .int) ∈ lw_tbl := tb_mem 1047 rfl
theorem tw_1052 : Cond.methodLink "CoilSlitsModel" 173 y_Mod_ofCoil ∈ lw_tbl := tb_mem 1052 (by decide +kernel)
theorem tw_1054 : Cond.instanceMethod y_Mod_ofCoil ∈ lw_tbl := tb_mem 1054 (by decide +kernel)
set_option maxRecDepth 100000 in
theorem tw_1055 : Cond.code y_Mod_ofCoil b_Mod_ofCoil 3 (some .int) ∈ lw_tbl := tb_mem 1055 rfl
theorem tw_1060 : Cond.methodLink "CoilSlitsModel" 176 y_Mod_ofOrder ∈ lw_tbl := tb_mem 1060 (by decide +kernel)
theorem tw_1062 : Cond.instanceMethod y_Mod_ofOrder ∈ lw_tbl := tb_mem 1062 (by decide +kernel)
set_option maxRecDepth 100000 in
theorem tw_1063 : Cond.code y_Mod_ofOrder b_Mod_ofOrder 5 (some .int) ∈ lw_tbl := tb_mem 1063 rfl
theorem tw_1072 : Cond.methodLink "CoilSlitsModel" 182 y_Mod_counted ∈ lw_tbl := tb_mem 1072 (by decide +kernel)
theorem tw_1074 : Cond.instanceMethod y_Mod_counted ∈ lw_tbl := tb_mem 1074 (by decide +kernel)
set_option maxRecDepth 100000 in
theorem tw_1075 : Cond.code y_Mod_counted b_Mod_counted 2 (some .int) ∈ lw_tbl := tb_mem 1075 rfl
theorem tw_1076 : Cond.methodLink "CoilSlitsModel" 179 y_Mod_ofCoils ∈ lw_tbl := tb_mem 1076 (by decide +kernel)
theorem tw_1078 : Cond.instanceMethod y_Mod_ofCoils ∈ lw_tbl := tb_mem 1078 (by decide +kernel)
set_option maxRecDepth 100000 in
theorem tw_1079 : Cond.code y_Mod_ofCoils b_Mod_ofCoils 4 (some .int) ∈ lw_tbl := tb_mem 1079 rfl
theorem tw_1088 : Cond.methodLink "CoilSlitsModel" 185 y_Mod_choiceFor ∈ lw_tbl := tb_mem 1088 (by decide +kernel)
theorem tw_1090 : Cond.instanceMethod y_Mod_choiceFor ∈ lw_tbl := tb_mem 1090 (by decide +kernel)
set_option maxRecDepth 100000 in
theorem tw_1091 : Cond.code y_Mod_choiceFor b_Mod_choiceFor 3 (some .int) ∈ lw_tbl := tb_mem 1091 rfl
theorem tw_1096 : Cond.methodLink "CoilSlitsModel" 191 y_Mod_byServing ∈ lw_tbl := tb_mem 1096 (by decide +kernel)
theorem tw_1098 : Cond.instanceMethod y_Mod_byServing ∈ lw_tbl := tb_mem 1098 (by decide +kernel)
set_option maxRecDepth 100000 in
theorem tw_1099 : Cond.code y_Mod_byServing b_Mod_byServing 5 (some .int) ∈ lw_tbl := tb_mem 1099 rfl
theorem tw_1100 : Cond.methodLink "CoilSlitsModel" 188 y_Mod_tries ∈ lw_tbl := tb_mem 1100 (by decide +kernel)
theorem tw_1102 : Cond.instanceMethod y_Mod_tries ∈ lw_tbl := tb_mem 1102 (by decide +kernel)
set_option maxRecDepth 100000 in
theorem tw_1103 : Cond.code y_Mod_tries b_Mod_tries 2 none ∈ lw_tbl := tb_mem 1103 rfl
theorem tw_1108 : Cond.methodLink "CoilSlitsModel" 195 y_Mod_best ∈ lw_tbl := tb_mem 1108 (by decide +kernel)
theorem tw_1110 : Cond.instanceMethod y_Mod_best ∈ lw_tbl := tb_mem 1110 (by decide +kernel)
set_option maxRecDepth 100000 in
theorem tw_1111 : Cond.code y_Mod_best b_Mod_best 7 (some .int) ∈ lw_tbl := tb_mem 1111 rfl
theorem tw_1116 : Cond.methodLink "CoilSlitsModel" 201 y_Mod_bestPlace ∈ lw_tbl := tb_mem 1116 (by decide +kernel)
theorem tw_1118 : Cond.instanceMethod y_Mod_bestPlace ∈ lw_tbl := tb_mem 1118 (by decide +kernel)
set_option maxRecDepth 100000 in
theorem tw_1119 : Cond.code y_Mod_bestPlace b_Mod_bestPlace 5 (some .int) ∈ lw_tbl := tb_mem 1119 rfl
theorem tw_1120 : Cond.methodLink "CoilSlitsModel" 198 y_Mod_wider ∈ lw_tbl := tb_mem 1120 (by decide +kernel)
theorem tw_1122 : Cond.instanceMethod y_Mod_wider ∈ lw_tbl := tb_mem 1122 (by decide +kernel)
set_option maxRecDepth 100000 in
theorem tw_1123 : Cond.code y_Mod_wider b_Mod_wider 4 (some .int) ∈ lw_tbl := tb_mem 1123 rfl
theorem tw_1128 : Cond.methodLink "CoilSlitsModel" 204 y_Mod_share ∈ lw_tbl := tb_mem 1128 (by decide +kernel)
theorem tw_1130 : Cond.instanceMethod y_Mod_share ∈ lw_tbl := tb_mem 1130 (by decide +kernel)
set_option maxRecDepth 100000 in
theorem tw_1131 : Cond.code y_Mod_share b_Mod_share 2 (some .double) ∈ lw_tbl := tb_mem 1131 rfl
theorem tw_1138 : Cond.methodLink "CoilSlitsModel" 212 y_Dbl_doubleToLongBits ∈ lw_tbl := tb_mem 1138 (by decide +kernel)
theorem tw_1139 : Cond.static y_Dbl_doubleToLongBits ∈ lw_tbl := tb_mem 1139 (by decide +kernel)
set_option maxRecDepth 100000 in
theorem tw_1140 : Cond.code y_Dbl_doubleToLongBits b_Dbl_doubleToLongBits 2 (some .long) ∈ lw_tbl := tb_mem 1140 rfl
theorem tw_1141 : Cond.methodLink "java/lang/Double" 122 y_Dbl_isNaN ∈ lw_tbl := tb_mem 1141 (by decide +kernel)
theorem tw_1142 : Cond.static y_Dbl_isNaN ∈ lw_tbl := tb_mem 1142 (by decide +kernel)
set_option maxRecDepth 100000 in
theorem tw_1143 : Cond.code y_Dbl_isNaN b_Dbl_isNaN 2 (some .boolean) ∈ lw_tbl := tb_mem 1143 rfl
theorem tw_1144 : Cond.methodLink "java/lang/Double" 134 yRaw ∈ lw_tbl := tb_mem 1144 (by decide +kernel)
theorem tw_1145 : Cond.static yRaw ∈ lw_tbl := tb_mem 1145 (by decide +kernel)
theorem tw_1146 : Cond.native yRaw ∈ lw_tbl := tb_mem 1146 (by decide +kernel)
theorem tp_0 : Cond.selects y_Hist_stateAt.cls y_Hist_stateAt y_Hist_stateAt ∈ lw_tbl := tb_priv 0 (y := y_Hist_stateAt) rfl
theorem tp_1 : Cond.selects y_Yard_dearestBehind.cls y_Yard_dearestBehind y_Yard_dearestBehind ∈ lw_tbl := tb_priv 1 (y := y_Yard_dearestBehind) rfl
theorem tp_2 : Cond.selects y_Yard_widthTaken.cls y_Yard_widthTaken y_Yard_widthTaken ∈ lw_tbl := tb_priv 2 (y := y_Yard_widthTaken) rfl
theorem tp_3 : Cond.selects y_Yard_mismatch.cls y_Yard_mismatch y_Yard_mismatch ∈ lw_tbl := tb_priv 3 (y := y_Yard_mismatch) rfl
theorem tp_4 : Cond.selects y_Yard_roomBeside.cls y_Yard_roomBeside y_Yard_roomBeside ∈ lw_tbl := tb_priv 4 (y := y_Yard_roomBeside) rfl
theorem tp_5 : Cond.selects y_Yard_worthByRule.cls y_Yard_worthByRule y_Yard_worthByRule ∈ lw_tbl := tb_priv 5 (y := y_Yard_worthByRule) rfl
theorem tp_6 : Cond.selects y_Yard_emptiestBeside.cls y_Yard_emptiestBeside y_Yard_emptiestBeside ∈ lw_tbl := tb_priv 6 (y := y_Yard_emptiestBeside) rfl
theorem tp_7 : Cond.selects y_Yard_takeTop.cls y_Yard_takeTop y_Yard_takeTop ∈ lw_tbl := tb_priv 7 (y := y_Yard_takeTop) rfl
theorem tp_8 : Cond.selects y_Yard_putOnTop.cls y_Yard_putOnTop y_Yard_putOnTop ∈ lw_tbl := tb_priv 8 (y := y_Yard_putOnTop) rfl
theorem tp_9 : Cond.selects y_Slit_readBuffer.cls y_Slit_readBuffer y_Slit_readBuffer ∈ lw_tbl := tb_priv 9 (y := y_Slit_readBuffer) rfl
theorem tp_10 : Cond.selects y_Read_beginsPart.cls y_Read_beginsPart y_Read_beginsPart ∈ lw_tbl := tb_priv 10 (y := y_Read_beginsPart) rfl
theorem tp_11 : Cond.selects y_Read_expects.cls y_Read_expects y_Read_expects ∈ lw_tbl := tb_priv 11 (y := y_Read_expects) rfl
theorem tp_12 : Cond.selects y_Read_widens.cls y_Read_widens y_Read_widens ∈ lw_tbl := tb_priv 12 (y := y_Read_widens) rfl
theorem tp_13 : Cond.selects y_Read_takesGrade.cls y_Read_takesGrade y_Read_takesGrade ∈ lw_tbl := tb_priv 13 (y := y_Read_takesGrade) rfl
theorem tp_14 : Cond.selects y_Read_takesQuality.cls y_Read_takesQuality y_Read_takesQuality ∈ lw_tbl := tb_priv 14 (y := y_Read_takesQuality) rfl
theorem tp_15 : Cond.selects y_Read_takesStack.cls y_Read_takesStack y_Read_takesStack ∈ lw_tbl := tb_priv 15 (y := y_Read_takesStack) rfl
theorem tp_16 : Cond.selects y_Read_goesOn.cls y_Read_goesOn y_Read_goesOn ∈ lw_tbl := tb_priv 16 (y := y_Read_goesOn) rfl
theorem tp_17 : Cond.selects y_Slit_beginTrial.cls y_Slit_beginTrial y_Slit_beginTrial ∈ lw_tbl := tb_priv 17 (y := y_Slit_beginTrial) rfl
theorem tp_18 : Cond.selects y_Slit_counted.cls y_Slit_counted y_Slit_counted ∈ lw_tbl := tb_priv 18 (y := y_Slit_counted) rfl
theorem tp_19 : Cond.selects y_Slit_hashedPlace.cls y_Slit_hashedPlace y_Slit_hashedPlace ∈ lw_tbl := tb_priv 19 (y := y_Slit_hashedPlace) rfl
theorem tp_20 : Cond.selects y_Slit_hashedOrder.cls y_Slit_hashedOrder y_Slit_hashedOrder ∈ lw_tbl := tb_priv 20 (y := y_Slit_hashedOrder) rfl
theorem tp_21 : Cond.selects y_Yard_coilsSuiting.cls y_Yard_coilsSuiting y_Yard_coilsSuiting ∈ lw_tbl := tb_priv 21 (y := y_Yard_coilsSuiting) rfl
theorem tp_22 : Cond.selects y_Yard_suits.cls y_Yard_suits y_Yard_suits ∈ lw_tbl := tb_priv 22 (y := y_Yard_suits) rfl
theorem tp_23 : Cond.selects y_Yard_stripsFitting.cls y_Yard_stripsFitting y_Yard_stripsFitting ∈ lw_tbl := tb_priv 23 (y := y_Yard_stripsFitting) rfl
theorem tp_24 : Cond.selects y_Slit_numberOfChoice.cls y_Slit_numberOfChoice y_Slit_numberOfChoice ∈ lw_tbl := tb_priv 24 (y := y_Slit_numberOfChoice) rfl
theorem tp_25 : Cond.selects y_Slit_gainOfTrial.cls y_Slit_gainOfTrial y_Slit_gainOfTrial ∈ lw_tbl := tb_priv 25 (y := y_Slit_gainOfTrial) rfl
theorem tp_26 : Cond.selects y_Slit_gained.cls y_Slit_gained y_Slit_gained ∈ lw_tbl := tb_priv 26 (y := y_Slit_gained) rfl
theorem tp_28 : Cond.selects y_Slit_bringInBuffer.cls y_Slit_bringInBuffer y_Slit_bringInBuffer ∈ lw_tbl := tb_priv 28 (y := y_Slit_bringInBuffer) rfl
theorem tp_29 : Cond.selects y_Mod_fails.cls y_Mod_fails y_Mod_fails ∈ lw_tbl := tb_priv 29 (y := y_Mod_fails) rfl
theorem tp_30 : Cond.selects y_Mod_saves.cls y_Mod_saves y_Mod_saves ∈ lw_tbl := tb_priv 30 (y := y_Mod_saves) rfl
theorem tp_31 : Cond.selects y_Mod_comes.cls y_Mod_comes y_Mod_comes ∈ lw_tbl := tb_priv 31 (y := y_Mod_comes) rfl
theorem tp_32 : Cond.selects y_Mod_mayDig.cls y_Mod_mayDig y_Mod_mayDig ∈ lw_tbl := tb_priv 32 (y := y_Mod_mayDig) rfl
theorem tp_33 : Cond.selects y_Mod_isText.cls y_Mod_isText y_Mod_isText ∈ lw_tbl := tb_priv 33 (y := y_Mod_isText) rfl
theorem tp_34 : Cond.selects y_Mod_isPart.cls y_Mod_isPart y_Mod_isPart ∈ lw_tbl := tb_priv 34 (y := y_Mod_isPart) rfl
theorem tp_35 : Cond.selects y_Mod_isWidth.cls y_Mod_isWidth y_Mod_isWidth ∈ lw_tbl := tb_priv 35 (y := y_Mod_isWidth) rfl
theorem tp_36 : Cond.selects y_Mod_isNext.cls y_Mod_isNext y_Mod_isNext ∈ lw_tbl := tb_priv 36 (y := y_Mod_isNext) rfl
theorem tp_37 : Cond.selects y_Mod_stops.cls y_Mod_stops y_Mod_stops ∈ lw_tbl := tb_priv 37 (y := y_Mod_stops) rfl
theorem tp_38 : Cond.selects y_Mod_isFigure.cls y_Mod_isFigure y_Mod_isFigure ∈ lw_tbl := tb_priv 38 (y := y_Mod_isFigure) rfl
theorem tp_39 : Cond.selects y_Mod_lowest.cls y_Mod_lowest y_Mod_lowest ∈ lw_tbl := tb_priv 39 (y := y_Mod_lowest) rfl
theorem tp_40 : Cond.selects y_Mod_coilAt.cls y_Mod_coilAt y_Mod_coilAt ∈ lw_tbl := tb_priv 40 (y := y_Mod_coilAt) rfl
theorem tp_41 : Cond.selects y_Mod_ofCoil.cls y_Mod_ofCoil y_Mod_ofCoil ∈ lw_tbl := tb_priv 41 (y := y_Mod_ofCoil) rfl
theorem tp_42 : Cond.selects y_Mod_ofOrder.cls y_Mod_ofOrder y_Mod_ofOrder ∈ lw_tbl := tb_priv 42 (y := y_Mod_ofOrder) rfl
theorem tp_43 : Cond.selects y_Mod_counted.cls y_Mod_counted y_Mod_counted ∈ lw_tbl := tb_priv 43 (y := y_Mod_counted) rfl
theorem tp_44 : Cond.selects y_Mod_ofCoils.cls y_Mod_ofCoils y_Mod_ofCoils ∈ lw_tbl := tb_priv 44 (y := y_Mod_ofCoils) rfl
theorem tp_45 : Cond.selects y_Mod_choiceFor.cls y_Mod_choiceFor y_Mod_choiceFor ∈ lw_tbl := tb_priv 45 (y := y_Mod_choiceFor) rfl
theorem tp_46 : Cond.selects y_Mod_byServing.cls y_Mod_byServing y_Mod_byServing ∈ lw_tbl := tb_priv 46 (y := y_Mod_byServing) rfl
theorem tp_47 : Cond.selects y_Mod_tries.cls y_Mod_tries y_Mod_tries ∈ lw_tbl := tb_priv 47 (y := y_Mod_tries) rfl
theorem tp_48 : Cond.selects y_Mod_best.cls y_Mod_best y_Mod_best ∈ lw_tbl := tb_priv 48 (y := y_Mod_best) rfl
theorem tp_49 : Cond.selects y_Mod_bestPlace.cls y_Mod_bestPlace y_Mod_bestPlace ∈ lw_tbl := tb_priv 49 (y := y_Mod_bestPlace) rfl
theorem tp_50 : Cond.selects y_Mod_wider.cls y_Mod_wider y_Mod_wider ∈ lw_tbl := tb_priv 50 (y := y_Mod_wider) rfl
theorem tp_51 : Cond.selects y_Mod_share.cls y_Mod_share y_Mod_share ∈ lw_tbl := tb_priv 51 (y := y_Mod_share) rfl
