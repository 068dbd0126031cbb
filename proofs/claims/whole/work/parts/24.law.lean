/-! the words of the tables, by their places -/
theorem tw_0 : Cond.initialized "CoilSlitsLaw" ∈ lw_tbl := tb_mem 0 (by decide +kernel)
theorem tw_17 : Cond.classLink "CoilSlitsLaw" 8 "CoilSlits" ∈ lw_tbl := tb_mem 17 (by decide +kernel)
theorem tw_18 : Cond.instantiable "CoilSlits" 6 ∈ lw_tbl := tb_mem 18 (by decide +kernel)
theorem tw_19 : Cond.methodLink "CoilSlitsLaw" 81 y_Slit_init ∈ lw_tbl := tb_mem 19 (by decide +kernel)
theorem tw_20 : Cond.instanceMethod y_Slit_init ∈ lw_tbl := tb_mem 20 (by decide +kernel)
set_option maxRecDepth 100000 in
theorem tw_21 : Cond.code y_Slit_init b_Slit_init 1 none ∈ lw_tbl := tb_mem 21 rfl
theorem tw_156 : Cond.methodLink "CoilSlitsLaw" 118 y_Slit_serveAll ∈ lw_tbl := tb_mem 156 (by decide +kernel)
theorem tw_157 : Cond.instanceMethod y_Slit_serveAll ∈ lw_tbl := tb_mem 157 (by decide +kernel)
theorem tw_158 : Cond.selects y_Slit_serveAll.cls y_Slit_serveAll y_Slit_serveAll ∈ lw_tbl := tb_mem 158 (by decide +kernel)
set_option maxRecDepth 100000 in
theorem tw_159 : Cond.code y_Slit_serveAll b_Slit_serveAll 1 (some .int) ∈ lw_tbl := tb_mem 159 rfl
theorem tw_284 : Cond.methodLink "CoilSlitsLaw" 128 y_Slit_clearBuffer ∈ lw_tbl := tb_mem 284 (by decide +kernel)
theorem tw_285 : Cond.instanceMethod y_Slit_clearBuffer ∈ lw_tbl := tb_mem 285 (by decide +kernel)
theorem tw_286 : Cond.selects y_Slit_clearBuffer.cls y_Slit_clearBuffer y_Slit_clearBuffer ∈ lw_tbl := tb_mem 286 (by decide +kernel)
set_option maxRecDepth 100000 in
theorem tw_287 : Cond.code y_Slit_clearBuffer b_Slit_clearBuffer 2 (some .int) ∈ lw_tbl := tb_mem 287 rfl
theorem tw_288 : Cond.methodLink "CoilSlitsLaw" 132 y_Slit_firstError ∈ lw_tbl := tb_mem 288 (by decide +kernel)
theorem tw_289 : Cond.instanceMethod y_Slit_firstError ∈ lw_tbl := tb_mem 289 (by decide +kernel)
theorem tw_290 : Cond.selects y_Slit_firstError.cls y_Slit_firstError y_Slit_firstError ∈ lw_tbl := tb_mem 290 (by decide +kernel)
set_option maxRecDepth 100000 in
theorem tw_291 : Cond.code y_Slit_firstError b_Slit_firstError 1 (some .int) ∈ lw_tbl := tb_mem 291 rfl
theorem tw_340 : Cond.methodLink "CoilSlitsLaw" 168 y_Slit_bestRule ∈ lw_tbl := tb_mem 340 (by decide +kernel)
theorem tw_357 : Cond.methodLink "CoilSlitsLaw" 172 y_Slit_bestStack ∈ lw_tbl := tb_mem 357 (by decide +kernel)
theorem tw_373 : Cond.methodLink "CoilSlitsLaw" 176 y_Slit_used ∈ lw_tbl := tb_mem 373 (by decide +kernel)
theorem tw_377 : Cond.methodLink "CoilSlitsLaw" 181 y_Slit_digest ∈ lw_tbl := tb_mem 377 (by decide +kernel)
theorem tw_378 : Cond.instanceMethod y_Slit_digest ∈ lw_tbl := tb_mem 378 (by decide +kernel)
theorem tw_379 : Cond.selects y_Slit_digest.cls y_Slit_digest y_Slit_digest ∈ lw_tbl := tb_mem 379 (by decide +kernel)
set_option maxRecDepth 100000 in
theorem tw_380 : Cond.code y_Slit_digest b_Slit_digest 4 (some .long) ∈ lw_tbl := tb_mem 380 rfl
theorem tw_465 : Cond.methodLink "CoilSlitsLaw" 85 y_Law_receive ∈ lw_tbl := tb_mem 465 (by decide +kernel)
theorem tw_466 : Cond.static y_Law_receive ∈ lw_tbl := tb_mem 466 (by decide +kernel)
set_option maxRecDepth 100000 in
theorem tw_467 : Cond.codeWith y_Law_receive b_Law_receive 7 (some .int) (zhh 14 h_Law_receive) ∈ lw_tbl := tb_mem 467 rfl
theorem tw_580 : Cond.methodLink "CoilSlitsLaw" 94 y_Law_move ∈ lw_tbl := tb_mem 580 (by decide +kernel)
theorem tw_581 : Cond.static y_Law_move ∈ lw_tbl := tb_mem 581 (by decide +kernel)
set_option maxRecDepth 100000 in
theorem tw_582 : Cond.codeWith y_Law_move b_Law_move 5 (some .int) (zhh 10 h_Law_move) ∈ lw_tbl := tb_mem 582 rfl
theorem tw_590 : Cond.methodLink "CoilSlitsLaw" 98 y_Law_dig ∈ lw_tbl := tb_mem 590 (by decide +kernel)
theorem tw_591 : Cond.static y_Law_dig ∈ lw_tbl := tb_mem 591 (by decide +kernel)
set_option maxRecDepth 100000 in
theorem tw_592 : Cond.codeWith y_Law_dig b_Law_dig 4 (some .int) (zhh 9 h_Law_dig) ∈ lw_tbl := tb_mem 592 rfl
theorem tw_608 : Cond.methodLink "CoilSlitsLaw" 102 y_Law_sendAway ∈ lw_tbl := tb_mem 608 (by decide +kernel)
theorem tw_609 : Cond.static y_Law_sendAway ∈ lw_tbl := tb_mem 609 (by decide +kernel)
set_option maxRecDepth 100000 in
theorem tw_610 : Cond.codeWith y_Law_sendAway b_Law_sendAway 4 (some .int) (zhh 9 h_Law_sendAway) ∈ lw_tbl := tb_mem 610 rfl
theorem tw_620 : Cond.methodLink "CoilSlitsLaw" 105 y_Law_order ∈ lw_tbl := tb_mem 620 (by decide +kernel)
theorem tw_621 : Cond.static y_Law_order ∈ lw_tbl := tb_mem 621 (by decide +kernel)
set_option maxRecDepth 100000 in
theorem tw_622 : Cond.codeWith y_Law_order b_Law_order 8 (some .int) (zhh 16 h_Law_order) ∈ lw_tbl := tb_mem 622 rfl
theorem tw_633 : Cond.methodLink "CoilSlitsLaw" 109 y_Law_cancel ∈ lw_tbl := tb_mem 633 (by decide +kernel)
theorem tw_634 : Cond.static y_Law_cancel ∈ lw_tbl := tb_mem 634 (by decide +kernel)
set_option maxRecDepth 100000 in
theorem tw_635 : Cond.codeWith y_Law_cancel b_Law_cancel 4 (some .int) (zhh 9 h_Law_cancel) ∈ lw_tbl := tb_mem 635 rfl
theorem tw_650 : Cond.methodLink "CoilSlitsLaw" 112 y_Law_slit ∈ lw_tbl := tb_mem 650 (by decide +kernel)
theorem tw_651 : Cond.static y_Law_slit ∈ lw_tbl := tb_mem 651 (by decide +kernel)
set_option maxRecDepth 100000 in
theorem tw_652 : Cond.codeWith y_Law_slit b_Law_slit 5 (some .int) (zhh 10 h_Law_slit) ∈ lw_tbl := tb_mem 652 rfl
theorem tw_666 : Cond.methodLink "CoilSlitsLaw" 115 y_Law_serve ∈ lw_tbl := tb_mem 666 (by decide +kernel)
theorem tw_667 : Cond.static y_Law_serve ∈ lw_tbl := tb_mem 667 (by decide +kernel)
set_option maxRecDepth 100000 in
theorem tw_668 : Cond.codeWith y_Law_serve b_Law_serve 4 (some .int) (zhh 9 h_Law_serve) ∈ lw_tbl := tb_mem 668 rfl
theorem tw_673 : Cond.methodLink "CoilSlitsLaw" 122 y_Law_set ∈ lw_tbl := tb_mem 673 (by decide +kernel)
theorem tw_674 : Cond.static y_Law_set ∈ lw_tbl := tb_mem 674 (by decide +kernel)
set_option maxRecDepth 100000 in
theorem tw_675 : Cond.codeWith y_Law_set b_Law_set 5 (some .int) (zhh 10 h_Law_set) ∈ lw_tbl := tb_mem 675 rfl
theorem tw_689 : Cond.methodLink "CoilSlitsLaw" 125 y_Law_append ∈ lw_tbl := tb_mem 689 (by decide +kernel)
theorem tw_690 : Cond.static y_Law_append ∈ lw_tbl := tb_mem 690 (by decide +kernel)
set_option maxRecDepth 100000 in
theorem tw_691 : Cond.codeWith y_Law_append b_Law_append 4 (some .int) (zhh 9 h_Law_append) ∈ lw_tbl := tb_mem 691 rfl
theorem tw_699 : Cond.methodLink "CoilSlitsLaw" 136 y_Law_receiveAll ∈ lw_tbl := tb_mem 699 (by decide +kernel)
theorem tw_700 : Cond.static y_Law_receiveAll ∈ lw_tbl := tb_mem 700 (by decide +kernel)
set_option maxRecDepth 100000 in
theorem tw_701 : Cond.codeWith y_Law_receiveAll b_Law_receiveAll 3 (some .int) (zhh 8 h_Law_receiveAll) ∈ lw_tbl := tb_mem 701 rfl
theorem tw_735 : Cond.methodLink "CoilSlitsLaw" 140 y_Law_undo ∈ lw_tbl := tb_mem 735 (by decide +kernel)
theorem tw_736 : Cond.static y_Law_undo ∈ lw_tbl := tb_mem 736 (by decide +kernel)
set_option maxRecDepth 100000 in
theorem tw_737 : Cond.codeWith y_Law_undo b_Law_undo 3 (some .int) (zhh 8 h_Law_undo) ∈ lw_tbl := tb_mem 737 rfl
theorem tw_748 : Cond.methodLink "CoilSlitsLaw" 143 y_Law_at ∈ lw_tbl := tb_mem 748 (by decide +kernel)
theorem tw_749 : Cond.static y_Law_at ∈ lw_tbl := tb_mem 749 (by decide +kernel)
set_option maxRecDepth 100000 in
theorem tw_750 : Cond.codeWith y_Law_at b_Law_at 5 (some .int) (zhh 10 h_Law_at) ∈ lw_tbl := tb_mem 750 rfl
theorem tw_756 : Cond.methodLink "CoilSlitsLaw" 146 y_Law_coil ∈ lw_tbl := tb_mem 756 (by decide +kernel)
theorem tw_757 : Cond.static y_Law_coil ∈ lw_tbl := tb_mem 757 (by decide +kernel)
set_option maxRecDepth 100000 in
theorem tw_758 : Cond.codeWith y_Law_coil b_Law_coil 5 (some .int) (zhh 10 h_Law_coil) ∈ lw_tbl := tb_mem 758 rfl
theorem tw_769 : Cond.methodLink "CoilSlitsLaw" 149 y_Law_orderOf ∈ lw_tbl := tb_mem 769 (by decide +kernel)
theorem tw_770 : Cond.static y_Law_orderOf ∈ lw_tbl := tb_mem 770 (by decide +kernel)
set_option maxRecDepth 100000 in
theorem tw_771 : Cond.codeWith y_Law_orderOf b_Law_orderOf 5 (some .int) (zhh 10 h_Law_orderOf) ∈ lw_tbl := tb_mem 771 rfl
theorem tw_777 : Cond.methodLink "CoilSlitsLaw" 152 y_Law_whyNot ∈ lw_tbl := tb_mem 777 (by decide +kernel)
theorem tw_778 : Cond.static y_Law_whyNot ∈ lw_tbl := tb_mem 778 (by decide +kernel)
set_option maxRecDepth 100000 in
theorem tw_779 : Cond.codeWith y_Law_whyNot b_Law_whyNot 5 (some .int) (zhh 10 h_Law_whyNot) ∈ lw_tbl := tb_mem 779 rfl
theorem tw_784 : Cond.methodLink "CoilSlitsLaw" 155 y_Law_count ∈ lw_tbl := tb_mem 784 (by decide +kernel)
theorem tw_785 : Cond.static y_Law_count ∈ lw_tbl := tb_mem 785 (by decide +kernel)
set_option maxRecDepth 100000 in
theorem tw_786 : Cond.codeWith y_Law_count b_Law_count 4 (some .int) (zhh 9 h_Law_count) ∈ lw_tbl := tb_mem 786 rfl
theorem tw_792 : Cond.methodLink "CoilSlitsLaw" 158 y_Law_setting ∈ lw_tbl := tb_mem 792 (by decide +kernel)
theorem tw_793 : Cond.static y_Law_setting ∈ lw_tbl := tb_mem 793 (by decide +kernel)
set_option maxRecDepth 100000 in
theorem tw_794 : Cond.codeWith y_Law_setting b_Law_setting 4 (some .int) (zhh 9 h_Law_setting) ∈ lw_tbl := tb_mem 794 rfl
theorem tw_799 : Cond.methodLink "CoilSlitsLaw" 161 y_Law_choice ∈ lw_tbl := tb_mem 799 (by decide +kernel)
theorem tw_800 : Cond.static y_Law_choice ∈ lw_tbl := tb_mem 800 (by decide +kernel)
set_option maxRecDepth 100000 in
theorem tw_801 : Cond.codeWith y_Law_choice b_Law_choice 4 (some .int) (zhh 9 h_Law_choice) ∈ lw_tbl := tb_mem 801 rfl
theorem tw_806 : Cond.methodLink "CoilSlitsLaw" 164 y_Law_ifServed ∈ lw_tbl := tb_mem 806 (by decide +kernel)
theorem tw_807 : Cond.static y_Law_ifServed ∈ lw_tbl := tb_mem 807 (by decide +kernel)
set_option maxRecDepth 100000 in
theorem tw_808 : Cond.codeWith y_Law_ifServed b_Law_ifServed 6 (some .int) (zhh 12 h_Law_ifServed) ∈ lw_tbl := tb_mem 808 rfl
theorem tw_814 : Cond.classLink "CoilSlitsLaw" 82 "CoilSlitsModel" ∈ lw_tbl := tb_mem 814 (by decide +kernel)
theorem tw_815 : Cond.instantiable "CoilSlitsModel" 11 ∈ lw_tbl := tb_mem 815 (by decide +kernel)
theorem tw_816 : Cond.methodLink "CoilSlitsLaw" 84 y_Mod_init ∈ lw_tbl := tb_mem 816 (by decide +kernel)
theorem tw_817 : Cond.instanceMethod y_Mod_init ∈ lw_tbl := tb_mem 817 (by decide +kernel)
set_option maxRecDepth 100000 in
theorem tw_818 : Cond.code y_Mod_init b_Mod_init 1 none ∈ lw_tbl := tb_mem 818 rfl
theorem tw_854 : Cond.methodLink "CoilSlitsLaw" 91 y_Mod_thrown ∈ lw_tbl := tb_mem 854 (by decide +kernel)
theorem tw_855 : Cond.instanceMethod y_Mod_thrown ∈ lw_tbl := tb_mem 855 (by decide +kernel)
theorem tw_856 : Cond.selects y_Mod_thrown.cls y_Mod_thrown y_Mod_thrown ∈ lw_tbl := tb_mem 856 (by decide +kernel)
set_option maxRecDepth 100000 in
theorem tw_857 : Cond.code y_Mod_thrown b_Mod_thrown 1 (some .int) ∈ lw_tbl := tb_mem 857 rfl
theorem tw_858 : Cond.methodLink "CoilSlitsLaw" 142 y_Mod_undo ∈ lw_tbl := tb_mem 858 (by decide +kernel)
theorem tw_859 : Cond.instanceMethod y_Mod_undo ∈ lw_tbl := tb_mem 859 (by decide +kernel)
theorem tw_860 : Cond.selects y_Mod_undo.cls y_Mod_undo y_Mod_undo ∈ lw_tbl := tb_mem 860 (by decide +kernel)
set_option maxRecDepth 100000 in
theorem tw_861 : Cond.code y_Mod_undo b_Mod_undo 2 (some .int) ∈ lw_tbl := tb_mem 861 rfl
theorem tw_866 : Cond.methodLink "CoilSlitsLaw" 90 y_Mod_receive ∈ lw_tbl := tb_mem 866 (by decide +kernel)
theorem tw_867 : Cond.instanceMethod y_Mod_receive ∈ lw_tbl := tb_mem 867 (by decide +kernel)
theorem tw_868 : Cond.selects y_Mod_receive.cls y_Mod_receive y_Mod_receive ∈ lw_tbl := tb_mem 868 (by decide +kernel)
set_option maxRecDepth 100000 in
theorem tw_869 : Cond.code y_Mod_receive b_Mod_receive 5 (some .int) ∈ lw_tbl := tb_mem 869 rfl
theorem tw_887 : Cond.methodLink "CoilSlitsLaw" 97 y_Mod_move ∈ lw_tbl := tb_mem 887 (by decide +kernel)
theorem tw_888 : Cond.instanceMethod y_Mod_move ∈ lw_tbl := tb_mem 888 (by decide +kernel)
theorem tw_889 : Cond.selects y_Mod_move.cls y_Mod_move y_Mod_move ∈ lw_tbl := tb_mem 889 (by decide +kernel)
set_option maxRecDepth 100000 in
theorem tw_890 : Cond.code y_Mod_move b_Mod_move 3 (some .int) ∈ lw_tbl := tb_mem 890 rfl
theorem tw_903 : Cond.methodLink "CoilSlitsLaw" 101 y_Mod_dig ∈ lw_tbl := tb_mem 903 (by decide +kernel)
theorem tw_904 : Cond.instanceMethod y_Mod_dig ∈ lw_tbl := tb_mem 904 (by decide +kernel)
theorem tw_905 : Cond.selects y_Mod_dig.cls y_Mod_dig y_Mod_dig ∈ lw_tbl := tb_mem 905 (by decide +kernel)
set_option maxRecDepth 100000 in
theorem tw_906 : Cond.code y_Mod_dig b_Mod_dig 3 (some .int) ∈ lw_tbl := tb_mem 906 rfl
theorem tw_929 : Cond.methodLink "CoilSlitsLaw" 104 y_Mod_sendAway ∈ lw_tbl := tb_mem 929 (by decide +kernel)
theorem tw_930 : Cond.instanceMethod y_Mod_sendAway ∈ lw_tbl := tb_mem 930 (by decide +kernel)
theorem tw_931 : Cond.selects y_Mod_sendAway.cls y_Mod_sendAway y_Mod_sendAway ∈ lw_tbl := tb_mem 931 (by decide +kernel)
set_option maxRecDepth 100000 in
theorem tw_932 : Cond.code y_Mod_sendAway b_Mod_sendAway 3 (some .int) ∈ lw_tbl := tb_mem 932 rfl
theorem tw_933 : Cond.methodLink "CoilSlitsLaw" 108 y_Mod_order ∈ lw_tbl := tb_mem 933 (by decide +kernel)
theorem tw_934 : Cond.instanceMethod y_Mod_order ∈ lw_tbl := tb_mem 934 (by decide +kernel)
theorem tw_935 : Cond.selects y_Mod_order.cls y_Mod_order y_Mod_order ∈ lw_tbl := tb_mem 935 (by decide +kernel)
set_option maxRecDepth 100000 in
theorem tw_936 : Cond.code y_Mod_order b_Mod_order 7 (some .int) ∈ lw_tbl := tb_mem 936 rfl
theorem tw_937 : Cond.methodLink "CoilSlitsLaw" 111 y_Mod_cancel ∈ lw_tbl := tb_mem 937 (by decide +kernel)
theorem tw_938 : Cond.instanceMethod y_Mod_cancel ∈ lw_tbl := tb_mem 938 (by decide +kernel)
theorem tw_939 : Cond.selects y_Mod_cancel.cls y_Mod_cancel y_Mod_cancel ∈ lw_tbl := tb_mem 939 (by decide +kernel)
set_option maxRecDepth 100000 in
theorem tw_940 : Cond.code y_Mod_cancel b_Mod_cancel 4 (some .int) ∈ lw_tbl := tb_mem 940 rfl
theorem tw_950 : Cond.methodLink "CoilSlitsLaw" 114 y_Mod_slit ∈ lw_tbl := tb_mem 950 (by decide +kernel)
theorem tw_951 : Cond.instanceMethod y_Mod_slit ∈ lw_tbl := tb_mem 951 (by decide +kernel)
theorem tw_952 : Cond.selects y_Mod_slit.cls y_Mod_slit y_Mod_slit ∈ lw_tbl := tb_mem 952 (by decide +kernel)
set_option maxRecDepth 100000 in
theorem tw_953 : Cond.code y_Mod_slit b_Mod_slit 5 (some .int) ∈ lw_tbl := tb_mem 953 rfl
theorem tw_969 : Cond.methodLink "CoilSlitsLaw" 117 y_Mod_serve ∈ lw_tbl := tb_mem 969 (by decide +kernel)
theorem tw_970 : Cond.instanceMethod y_Mod_serve ∈ lw_tbl := tb_mem 970 (by decide +kernel)
theorem tw_971 : Cond.selects y_Mod_serve.cls y_Mod_serve y_Mod_serve ∈ lw_tbl := tb_mem 971 (by decide +kernel)
set_option maxRecDepth 100000 in
theorem tw_972 : Cond.code y_Mod_serve b_Mod_serve 2 (some .int) ∈ lw_tbl := tb_mem 972 rfl
theorem tw_979 : Cond.methodLink "CoilSlitsLaw" 121 y_Mod_serveAll ∈ lw_tbl := tb_mem 979 (by decide +kernel)
theorem tw_980 : Cond.instanceMethod y_Mod_serveAll ∈ lw_tbl := tb_mem 980 (by decide +kernel)
theorem tw_981 : Cond.selects y_Mod_serveAll.cls y_Mod_serveAll y_Mod_serveAll ∈ lw_tbl := tb_mem 981 (by decide +kernel)
set_option maxRecDepth 100000 in
theorem tw_982 : Cond.code y_Mod_serveAll b_Mod_serveAll 1 (some .int) ∈ lw_tbl := tb_mem 982 rfl
theorem tw_989 : Cond.methodLink "CoilSlitsLaw" 124 y_Mod_set ∈ lw_tbl := tb_mem 989 (by decide +kernel)
theorem tw_990 : Cond.instanceMethod y_Mod_set ∈ lw_tbl := tb_mem 990 (by decide +kernel)
theorem tw_991 : Cond.selects y_Mod_set.cls y_Mod_set y_Mod_set ∈ lw_tbl := tb_mem 991 (by decide +kernel)
set_option maxRecDepth 100000 in
theorem tw_992 : Cond.code y_Mod_set b_Mod_set 4 (some .int) ∈ lw_tbl := tb_mem 992 rfl
theorem tw_996 : Cond.methodLink "CoilSlitsLaw" 127 y_Mod_append ∈ lw_tbl := tb_mem 996 (by decide +kernel)
theorem tw_997 : Cond.instanceMethod y_Mod_append ∈ lw_tbl := tb_mem 997 (by decide +kernel)
theorem tw_998 : Cond.selects y_Mod_append.cls y_Mod_append y_Mod_append ∈ lw_tbl := tb_mem 998 (by decide +kernel)
set_option maxRecDepth 100000 in
theorem tw_999 : Cond.code y_Mod_append b_Mod_append 2 (some .int) ∈ lw_tbl := tb_mem 999 rfl
theorem tw_1000 : Cond.methodLink "CoilSlitsLaw" 131 y_Mod_clearBuffer ∈ lw_tbl := tb_mem 1000 (by decide +kernel)
theorem tw_1001 : Cond.instanceMethod y_Mod_clearBuffer ∈ lw_tbl := tb_mem 1001 (by decide +kernel)
theorem tw_1002 : Cond.selects y_Mod_clearBuffer.cls y_Mod_clearBuffer y_Mod_clearBuffer ∈ lw_tbl := tb_mem 1002 (by decide +kernel)
set_option maxRecDepth 100000 in
theorem tw_1003 : Cond.code y_Mod_clearBuffer b_Mod_clearBuffer 2 (some .int) ∈ lw_tbl := tb_mem 1003 rfl
theorem tw_1004 : Cond.methodLink "CoilSlitsLaw" 135 y_Mod_firstError ∈ lw_tbl := tb_mem 1004 (by decide +kernel)
theorem tw_1005 : Cond.instanceMethod y_Mod_firstError ∈ lw_tbl := tb_mem 1005 (by decide +kernel)
theorem tw_1006 : Cond.selects y_Mod_firstError.cls y_Mod_firstError y_Mod_firstError ∈ lw_tbl := tb_mem 1006 (by decide +kernel)
set_option maxRecDepth 100000 in
theorem tw_1007 : Cond.code y_Mod_firstError b_Mod_firstError 2 (some .int) ∈ lw_tbl := tb_mem 1007 rfl
theorem tw_1032 : Cond.methodLink "CoilSlitsLaw" 139 y_Mod_receiveAll ∈ lw_tbl := tb_mem 1032 (by decide +kernel)
theorem tw_1033 : Cond.instanceMethod y_Mod_receiveAll ∈ lw_tbl := tb_mem 1033 (by decide +kernel)
theorem tw_1034 : Cond.selects y_Mod_receiveAll.cls y_Mod_receiveAll y_Mod_receiveAll ∈ lw_tbl := tb_mem 1034 (by decide +kernel)
set_option maxRecDepth 100000 in
theorem tw_1035 : Cond.code y_Mod_receiveAll b_Mod_receiveAll 4 (some .int) ∈ lw_tbl := tb_mem 1035 rfl
theorem tw_1040 : Cond.methodLink "CoilSlitsLaw" 145 y_Mod_at ∈ lw_tbl := tb_mem 1040 (by decide +kernel)
theorem tw_1041 : Cond.instanceMethod y_Mod_at ∈ lw_tbl := tb_mem 1041 (by decide +kernel)
theorem tw_1042 : Cond.selects y_Mod_at.cls y_Mod_at y_Mod_at ∈ lw_tbl := tb_mem 1042 (by decide +kernel)
set_option maxRecDepth 100000 in
theorem tw_1043 : Cond.code y_Mod_at b_Mod_at 3 (some .int) ∈ lw_tbl := tb_mem 1043 rfl
theorem tw_1048 : Cond.methodLink "CoilSlitsLaw" 148 y_Mod_coil ∈ lw_tbl := tb_mem 1048 (by decide +kernel)
theorem tw_1049 : Cond.instanceMethod y_Mod_coil ∈ lw_tbl := tb_mem 1049 (by decide +kernel)
theorem tw_1050 : Cond.selects y_Mod_coil.cls y_Mod_coil y_Mod_coil ∈ lw_tbl := tb_mem 1050 (by decide +kernel)
set_option maxRecDepth 100000 in
theorem tw_1051 : Cond.code y_Mod_coil b_Mod_coil 4 (some .int) ∈ lw_tbl := tb_mem 1051 rfl
theorem tw_1056 : Cond.methodLink "CoilSlitsLaw" 151 y_Mod_orderOf ∈ lw_tbl := tb_mem 1056 (by decide +kernel)
theorem tw_1057 : Cond.instanceMethod y_Mod_orderOf ∈ lw_tbl := tb_mem 1057 (by decide +kernel)
theorem tw_1058 : Cond.selects y_Mod_orderOf.cls y_Mod_orderOf y_Mod_orderOf ∈ lw_tbl := tb_mem 1058 (by decide +kernel)
set_option maxRecDepth 100000 in
theorem tw_1059 : Cond.code y_Mod_orderOf b_Mod_orderOf 3 (some .int) ∈ lw_tbl := tb_mem 1059 rfl
theorem tw_1064 : Cond.methodLink "CoilSlitsLaw" 154 y_Mod_whyNot ∈ lw_tbl := tb_mem 1064 (by decide +kernel)
theorem tw_1065 : Cond.instanceMethod y_Mod_whyNot ∈ lw_tbl := tb_mem 1065 (by decide +kernel)
theorem tw_1066 : Cond.selects y_Mod_whyNot.cls y_Mod_whyNot y_Mod_whyNot ∈ lw_tbl := tb_mem 1066 (by decide +kernel)
set_option maxRecDepth 100000 in
theorem tw_1067 : Cond.code y_Mod_whyNot b_Mod_whyNot 5 (some .int) ∈ lw_tbl := tb_mem 1067 rfl
theorem tw_1068 : Cond.methodLink "CoilSlitsLaw" 157 y_Mod_count ∈ lw_tbl := tb_mem 1068 (by decide +kernel)
theorem tw_1069 : Cond.instanceMethod y_Mod_count ∈ lw_tbl := tb_mem 1069 (by decide +kernel)
theorem tw_1070 : Cond.selects y_Mod_count.cls y_Mod_count y_Mod_count ∈ lw_tbl := tb_mem 1070 (by decide +kernel)
set_option maxRecDepth 100000 in
theorem tw_1071 : Cond.code y_Mod_count b_Mod_count 2 (some .int) ∈ lw_tbl := tb_mem 1071 rfl
theorem tw_1080 : Cond.methodLink "CoilSlitsLaw" 160 y_Mod_setting ∈ lw_tbl := tb_mem 1080 (by decide +kernel)
theorem tw_1081 : Cond.instanceMethod y_Mod_setting ∈ lw_tbl := tb_mem 1081 (by decide +kernel)
theorem tw_1082 : Cond.selects y_Mod_setting.cls y_Mod_setting y_Mod_setting ∈ lw_tbl := tb_mem 1082 (by decide +kernel)
set_option maxRecDepth 100000 in
theorem tw_1083 : Cond.code y_Mod_setting b_Mod_setting 2 (some .int) ∈ lw_tbl := tb_mem 1083 rfl
theorem tw_1084 : Cond.methodLink "CoilSlitsLaw" 163 y_Mod_choice ∈ lw_tbl := tb_mem 1084 (by decide +kernel)
theorem tw_1085 : Cond.instanceMethod y_Mod_choice ∈ lw_tbl := tb_mem 1085 (by decide +kernel)
theorem tw_1086 : Cond.selects y_Mod_choice.cls y_Mod_choice y_Mod_choice ∈ lw_tbl := tb_mem 1086 (by decide +kernel)
set_option maxRecDepth 100000 in
theorem tw_1087 : Cond.code y_Mod_choice b_Mod_choice 3 (some .int) ∈ lw_tbl := tb_mem 1087 rfl
theorem tw_1092 : Cond.methodLink "CoilSlitsLaw" 167 y_Mod_ifServed ∈ lw_tbl := tb_mem 1092 (by decide +kernel)
theorem tw_1093 : Cond.instanceMethod y_Mod_ifServed ∈ lw_tbl := tb_mem 1093 (by decide +kernel)
theorem tw_1094 : Cond.selects y_Mod_ifServed.cls y_Mod_ifServed y_Mod_ifServed ∈ lw_tbl := tb_mem 1094 (by decide +kernel)
set_option maxRecDepth 100000 in
theorem tw_1095 : Cond.code y_Mod_ifServed b_Mod_ifServed 4 (some .int) ∈ lw_tbl := tb_mem 1095 rfl
theorem tw_1104 : Cond.methodLink "CoilSlitsLaw" 171 y_Mod_bestRule ∈ lw_tbl := tb_mem 1104 (by decide +kernel)
theorem tw_1105 : Cond.instanceMethod y_Mod_bestRule ∈ lw_tbl := tb_mem 1105 (by decide +kernel)
theorem tw_1106 : Cond.selects y_Mod_bestRule.cls y_Mod_bestRule y_Mod_bestRule ∈ lw_tbl := tb_mem 1106 (by decide +kernel)
set_option maxRecDepth 100000 in
theorem tw_1107 : Cond.code y_Mod_bestRule b_Mod_bestRule 1 (some .int) ∈ lw_tbl := tb_mem 1107 rfl
theorem tw_1112 : Cond.methodLink "CoilSlitsLaw" 175 y_Mod_bestStack ∈ lw_tbl := tb_mem 1112 (by decide +kernel)
theorem tw_1113 : Cond.instanceMethod y_Mod_bestStack ∈ lw_tbl := tb_mem 1113 (by decide +kernel)
theorem tw_1114 : Cond.selects y_Mod_bestStack.cls y_Mod_bestStack y_Mod_bestStack ∈ lw_tbl := tb_mem 1114 (by decide +kernel)
set_option maxRecDepth 100000 in
theorem tw_1115 : Cond.code y_Mod_bestStack b_Mod_bestStack 1 (some .int) ∈ lw_tbl := tb_mem 1115 rfl
theorem tw_1124 : Cond.methodLink "CoilSlitsLaw" 180 y_Mod_used ∈ lw_tbl := tb_mem 1124 (by decide +kernel)
theorem tw_1125 : Cond.instanceMethod y_Mod_used ∈ lw_tbl := tb_mem 1125 (by decide +kernel)
theorem tw_1126 : Cond.selects y_Mod_used.cls y_Mod_used y_Mod_used ∈ lw_tbl := tb_mem 1126 (by decide +kernel)
set_option maxRecDepth 100000 in
theorem tw_1127 : Cond.code y_Mod_used b_Mod_used 1 (some .double) ∈ lw_tbl := tb_mem 1127 rfl
theorem tw_1132 : Cond.methodLink "CoilSlitsLaw" 185 y_Mod_digest ∈ lw_tbl := tb_mem 1132 (by decide +kernel)
theorem tw_1133 : Cond.instanceMethod y_Mod_digest ∈ lw_tbl := tb_mem 1133 (by decide +kernel)
theorem tw_1134 : Cond.selects y_Mod_digest.cls y_Mod_digest y_Mod_digest ∈ lw_tbl := tb_mem 1134 (by decide +kernel)
set_option maxRecDepth 100000 in
theorem tw_1135 : Cond.code y_Mod_digest b_Mod_digest 5 (some .long) ∈ lw_tbl := tb_mem 1135 rfl
theorem tw_1148 : Cond.arrayClass .long ∈ lw_tbl := tb_mem 1148 (by decide +kernel)
section
variable {w : Wd} {p : Program} {l : Launch} {e : Jvm.Env} {s : State} {m : MethodId} {args : Array Value} {below : List Frame} {meth : Method} {c : Code} {Q : State → Prop} {F : Out → G → Prop} {cs ss : Nat} {T : Nat → Option (Nat × (Nat → Int32))}
-- the law
def E_Law_law (eTl : Nat → Option (Nat × (Nat → Int32))) : Env := (false, [], [(.invokevirtual 90, 5, x_Mod_receive), (.invokevirtual 91, 1, x_Mod_thrown), (.invokevirtual 97, 3, x_Mod_move), (.invokevirtual 101, 2, x_Mod_dig), (.invokevirtual 104, 2, x_Mod_sendAway), (.invokevirtual 108, 6, x_Mod_order), (.invokevirtual 111, 2, x_Mod_cancel), (.invokevirtual 114, 3, x_Mod_slit), (.invokevirtual 117, 2, x_Mod_serve), (.invokevirtual 118, 1, x_Slit_serveAll), (.invokevirtual 121, 1, x_Mod_serveAll), (.invokevirtual 124, 3, x_Mod_set), (.invokevirtual 127, 2, x_Mod_append), (.invokevirtual 128, 1, x_Slit_clearBuffer), (.invokevirtual 131, 1, x_Mod_clearBuffer), (.invokevirtual 132, 1, x_Slit_firstError), (.invokevirtual 135, 1, x_Mod_firstError), (.invokevirtual 139, 1, x_Mod_receiveAll), (.invokevirtual 142, 1, x_Mod_undo), (.invokevirtual 145, 3, x_Mod_at), (.invokevirtual 148, 3, x_Mod_coil), (.invokevirtual 151, 3, x_Mod_orderOf), (.invokevirtual 154, 3, x_Mod_whyNot), (.invokevirtual 157, 2, x_Mod_count), (.invokevirtual 160, 2, x_Mod_setting), (.invokevirtual 163, 2, x_Mod_choice), (.invokevirtual 167, 4, x_Mod_ifServed), (.invokevirtual 168, 1, x_Slit_bestRule), (.invokevirtual 171, 1, x_Mod_bestRule), (.invokevirtual 172, 1, x_Slit_bestStack), (.invokevirtual 175, 1, x_Mod_bestStack), (.invokevirtual 176, 1, x_Slit_used), (.invokevirtual 180, 1, x_Mod_used), (.invokevirtual 181, 1, x_Slit_digest), (.invokevirtual 185, 1, x_Mod_digest)], [], [], eTl, false)
def d_Law_c0 (T : Nat → Option (Nat × (Nat → Int32))) : Dn := (sq (blk (E_Law_law T) [.aload_n 1, .aload_n 0, .iload 4, .iconst 1, .iadd, .iaload, .aload_n 0, .iload 4, .iconst 2, .iadd, .iaload, .aload_n 0, .iload 4, .iconst 3, .iadd, .iaload, .aload_n 0, .iload 4, .iconst 4, .iadd, .iaload, .aload_n 3])
  (sq (calD 6 x_Law_receive)
  (sq (blk (E_Law_law T) [.istore 5, .aload_n 2, .aload_n 0, .iload 4, .iconst 1, .iadd, .iaload, .aload_n 0, .iload 4, .iconst 2, .iadd, .iaload, .aload_n 0, .iload 4, .iconst 3, .iadd, .iaload, .aload_n 0, .iload 4, .iconst 4, .iadd, .iaload, .invokevirtual 90, .istore 6])
  (sq (ite' (cno (cat (E_Law_law T) [.aload_n 2, .invokevirtual 91, .iload 5] (.if_icmp .eq 5)))
  (rtz (E_Law_law T) [.iconst 0])
  (blk (E_Law_law T) []))
  (sq (ite' (can (cno (cat (E_Law_law T) [.iload 5] (.ifCond .ne 15))) (cno (cat (E_Law_law T) [.aload_n 3, .iconst 0, .laload, .iload 6, .i2l, .lcmp] (.ifCond .eq 5))))
  (rtz (E_Law_law T) [.iconst 0])
  (blk (E_Law_law T) []))
  cnt)))))
set_option maxRecDepth 20000 in
theorem sn_Law_c0 (h : LC w p l e room_1 s m args below meth c Q code 9 "CoilSlitsLaw" (E_Law_law T)) (hF : ∀ g1, ¬ F (.inl (some (.int 0))) g1) (hKX : KX w s) (hw : zWok w) (hl : l.stackTraces = false) (h0R : cs ≤ room_1.cells ∧ ss ≤ room_1.slots) (h1R : cs + 1 ≤ room_1.cells ∧ ss + 6 ≤ room_1.slots) : Sn (zK w false p l e room_1 s m args below meth c Q 9) F (zK w false p l e room_1 s m args below meth c Q 9 (cs + 1) (ss + 6) 1578) (zK w false p l e room_1 s m args below meth c Q 9 (cs + 1) (ss + 6) 1572) cs ss 164 (d_Law_c0 T) (cs + 1) (ss + 6) 1572 := by
  unfold d_Law_c0
  exact (sn_sq (pm := 190) (c1 := cs) (s1 := ss) (l_blk h h0R (by decide +kernel))
  (sn_sq (pm := 193) (c1 := cs + 1) (s1 := ss + 6) (sn_cal (i := .invokestatic 85) (nn := 6) (mc := 1) (ms := 6) (f := x_Law_receive) (cs := cs) (ss := ss) (call_SW h.1 hKX (ct_Law_receive w l hw hl) tw_467 tw_465 tw_0 tw_466 (by decide +kernel) ⟨Nat.le_of_ble_eq_true rfl, Nat.le_of_ble_eq_true rfl⟩) (by decide +kernel) h1R.1 h1R.2)
  (sn_sq (pm := 225) (c1 := cs + 1) (s1 := ss + 6) (l_blk h h1R (by decide +kernel))
  (sn_sq (pm := 236) (c1 := cs + 1) (s1 := ss + 6) (sn_ite (pt := 234) (pf := 236) (sc_no (l_cat h h1R (p1 := 231) (tgt := 236) (by decide +kernel) (by decide +kernel) (by decide)))
  (l_ret0z h.1 hF)
  (l_blk h h1R rfl))
  (sn_sq (pm := 253) (c1 := cs + 1) (s1 := ss + 6) (sn_ite (pt := 251) (pf := 253) (sc_an (pm := 241) (sc_no (l_cat h h1R (p1 := 238) (tgt := 253) (by decide +kernel) (by decide +kernel) (by decide))) (sc_no (l_cat h h1R (p1 := 248) (tgt := 253) (by decide +kernel) (by decide +kernel) (by decide))))
  (l_ret0z h.1 hF)
  (l_blk h h1R rfl))
  (sn_cnt (l_gotoW h (off := 1319) (by decide +kernel) (by decide) (Nat.le_refl _) (Nat.le_refl _))))))))
def d_Law_c1 (T : Nat → Option (Nat × (Nat → Int32))) : Dn := (sq (blk (E_Law_law T) [.aload_n 1, .aload_n 0, .iload 4, .iconst 1, .iadd, .iaload, .aload_n 0, .iload 4, .iconst 2, .iadd, .iaload, .aload_n 3])
  (sq (calD 4 x_Law_move)
  (sq (blk (E_Law_law T) [.istore 5, .aload_n 2, .aload_n 0, .iload 4, .iconst 1, .iadd, .iaload, .aload_n 0, .iload 4, .iconst 2, .iadd, .iaload, .invokevirtual 97, .istore 6])
  (sq (ite' (cno (cat (E_Law_law T) [.aload_n 2, .invokevirtual 91, .iload 5] (.if_icmp .eq 5)))
  (rtz (E_Law_law T) [.iconst 0])
  (blk (E_Law_law T) []))
  (sq (ite' (can (cno (cat (E_Law_law T) [.iload 5] (.ifCond .ne 15))) (cno (cat (E_Law_law T) [.aload_n 3, .iconst 0, .laload, .iload 6, .i2l, .lcmp] (.ifCond .eq 5))))
  (rtz (E_Law_law T) [.iconst 0])
  (blk (E_Law_law T) []))
  cnt)))))
set_option maxRecDepth 20000 in
theorem sn_Law_c1 (h : LC w p l e room_1 s m args below meth c Q code 9 "CoilSlitsLaw" (E_Law_law T)) (hF : ∀ g1, ¬ F (.inl (some (.int 0))) g1) (hKX : KX w s) (hw : zWok w) (hl : l.stackTraces = false) (h0R : cs ≤ room_1.cells ∧ ss ≤ room_1.slots) (h1R : cs + 1 ≤ room_1.cells ∧ ss + 6 ≤ room_1.slots) : Sn (zK w false p l e room_1 s m args below meth c Q 9) F (zK w false p l e room_1 s m args below meth c Q 9 (cs + 1) (ss + 6) 1578) (zK w false p l e room_1 s m args below meth c Q 9 (cs + 1) (ss + 6) 1572) cs ss 256 (d_Law_c1 T) (cs + 1) (ss + 6) 1572 := by
  unfold d_Law_c1
  exact (sn_sq (pm := 270) (c1 := cs) (s1 := ss) (l_blk h h0R (by decide +kernel))
  (sn_sq (pm := 273) (c1 := cs + 1) (s1 := ss + 6) (sn_cal (i := .invokestatic 94) (nn := 4) (mc := 1) (ms := 6) (f := x_Law_move) (cs := cs) (ss := ss) (call_SW h.1 hKX (ct_Law_move w l hw hl) tw_582 tw_580 tw_0 tw_581 (by decide +kernel) ⟨Nat.le_of_ble_eq_true rfl, Nat.le_of_ble_eq_true rfl⟩) (by decide +kernel) h1R.1 h1R.2)
  (sn_sq (pm := 293) (c1 := cs + 1) (s1 := ss + 6) (l_blk h h1R (by decide +kernel))
  (sn_sq (pm := 304) (c1 := cs + 1) (s1 := ss + 6) (sn_ite (pt := 302) (pf := 304) (sc_no (l_cat h h1R (p1 := 299) (tgt := 304) (by decide +kernel) (by decide +kernel) (by decide)))
  (l_ret0z h.1 hF)
  (l_blk h h1R rfl))
  (sn_sq (pm := 321) (c1 := cs + 1) (s1 := ss + 6) (sn_ite (pt := 319) (pf := 321) (sc_an (pm := 309) (sc_no (l_cat h h1R (p1 := 306) (tgt := 321) (by decide +kernel) (by decide +kernel) (by decide))) (sc_no (l_cat h h1R (p1 := 316) (tgt := 321) (by decide +kernel) (by decide +kernel) (by decide))))
  (l_ret0z h.1 hF)
  (l_blk h h1R rfl))
  (sn_cnt (l_gotoW h (off := 1251) (by decide +kernel) (by decide) (Nat.le_refl _) (Nat.le_refl _))))))))
def d_Law_c2 (T : Nat → Option (Nat × (Nat → Int32))) : Dn := (sq (blk (E_Law_law T) [.aload_n 1, .aload_n 0, .iload 4, .iconst 1, .iadd, .iaload, .aload_n 3])
  (sq (calD 3 x_Law_dig)
  (sq (blk (E_Law_law T) [.istore 5, .aload_n 2, .aload_n 0, .iload 4, .iconst 1, .iadd, .iaload, .invokevirtual 101, .istore 6])
  (sq (ite' (cno (cat (E_Law_law T) [.aload_n 2, .invokevirtual 91, .iload 5] (.if_icmp .eq 5)))
  (rtz (E_Law_law T) [.iconst 0])
  (blk (E_Law_law T) []))
  (sq (ite' (can (cno (cat (E_Law_law T) [.iload 5] (.ifCond .ne 15))) (cno (cat (E_Law_law T) [.aload_n 3, .iconst 0, .laload, .iload 6, .i2l, .lcmp] (.ifCond .eq 5))))
  (rtz (E_Law_law T) [.iconst 0])
  (blk (E_Law_law T) []))
  cnt)))))
set_option maxRecDepth 20000 in
theorem sn_Law_c2 (h : LC w p l e room_1 s m args below meth c Q code 9 "CoilSlitsLaw" (E_Law_law T)) (hF : ∀ g1, ¬ F (.inl (some (.int 0))) g1) (hKX : KX w s) (hw : zWok w) (hl : l.stackTraces = false) (h0R : cs ≤ room_1.cells ∧ ss ≤ room_1.slots) (h1R : cs + 1 ≤ room_1.cells ∧ ss + 6 ≤ room_1.slots) : Sn (zK w false p l e room_1 s m args below meth c Q 9) F (zK w false p l e room_1 s m args below meth c Q 9 (cs + 1) (ss + 6) 1578) (zK w false p l e room_1 s m args below meth c Q 9 (cs + 1) (ss + 6) 1572) cs ss 324 (d_Law_c2 T) (cs + 1) (ss + 6) 1572 := by
  unfold d_Law_c2
  exact (sn_sq (pm := 332) (c1 := cs) (s1 := ss) (l_blk h h0R (by decide +kernel))
  (sn_sq (pm := 335) (c1 := cs + 1) (s1 := ss + 6) (sn_cal (i := .invokestatic 98) (nn := 3) (mc := 1) (ms := 6) (f := x_Law_dig) (cs := cs) (ss := ss) (call_SW h.1 hKX (ct_Law_dig w l hw hl) tw_592 tw_590 tw_0 tw_591 (by decide +kernel) ⟨Nat.le_of_ble_eq_true rfl, Nat.le_of_ble_eq_true rfl⟩) (by decide +kernel) h1R.1 h1R.2)
  (sn_sq (pm := 349) (c1 := cs + 1) (s1 := ss + 6) (l_blk h h1R (by decide +kernel))
  (sn_sq (pm := 360) (c1 := cs + 1) (s1 := ss + 6) (sn_ite (pt := 358) (pf := 360) (sc_no (l_cat h h1R (p1 := 355) (tgt := 360) (by decide +kernel) (by decide +kernel) (by decide)))
  (l_ret0z h.1 hF)
  (l_blk h h1R rfl))
  (sn_sq (pm := 377) (c1 := cs + 1) (s1 := ss + 6) (sn_ite (pt := 375) (pf := 377) (sc_an (pm := 365) (sc_no (l_cat h h1R (p1 := 362) (tgt := 377) (by decide +kernel) (by decide +kernel) (by decide))) (sc_no (l_cat h h1R (p1 := 372) (tgt := 377) (by decide +kernel) (by decide +kernel) (by decide))))
  (l_ret0z h.1 hF)
  (l_blk h h1R rfl))
  (sn_cnt (l_gotoW h (off := 1195) (by decide +kernel) (by decide) (Nat.le_refl _) (Nat.le_refl _))))))))
def d_Law_c3 (T : Nat → Option (Nat × (Nat → Int32))) : Dn := (sq (blk (E_Law_law T) [.aload_n 1, .aload_n 0, .iload 4, .iconst 1, .iadd, .iaload, .aload_n 3])
  (sq (calD 3 x_Law_sendAway)
  (sq (blk (E_Law_law T) [.istore 5, .aload_n 2, .aload_n 0, .iload 4, .iconst 1, .iadd, .iaload, .invokevirtual 104, .istore 6])
  (sq (ite' (cno (cat (E_Law_law T) [.aload_n 2, .invokevirtual 91, .iload 5] (.if_icmp .eq 5)))
  (rtz (E_Law_law T) [.iconst 0])
  (blk (E_Law_law T) []))
  (sq (ite' (can (cno (cat (E_Law_law T) [.iload 5] (.ifCond .ne 15))) (cno (cat (E_Law_law T) [.aload_n 3, .iconst 0, .laload, .iload 6, .i2l, .lcmp] (.ifCond .eq 5))))
  (rtz (E_Law_law T) [.iconst 0])
  (blk (E_Law_law T) []))
  cnt)))))
set_option maxRecDepth 20000 in
theorem sn_Law_c3 (h : LC w p l e room_1 s m args below meth c Q code 9 "CoilSlitsLaw" (E_Law_law T)) (hF : ∀ g1, ¬ F (.inl (some (.int 0))) g1) (hKX : KX w s) (hw : zWok w) (hl : l.stackTraces = false) (h0R : cs ≤ room_1.cells ∧ ss ≤ room_1.slots) (h1R : cs + 1 ≤ room_1.cells ∧ ss + 6 ≤ room_1.slots) : Sn (zK w false p l e room_1 s m args below meth c Q 9) F (zK w false p l e room_1 s m args below meth c Q 9 (cs + 1) (ss + 6) 1578) (zK w false p l e room_1 s m args below meth c Q 9 (cs + 1) (ss + 6) 1572) cs ss 380 (d_Law_c3 T) (cs + 1) (ss + 6) 1572 := by
  unfold d_Law_c3
  exact (sn_sq (pm := 388) (c1 := cs) (s1 := ss) (l_blk h h0R (by decide +kernel))
  (sn_sq (pm := 391) (c1 := cs + 1) (s1 := ss + 6) (sn_cal (i := .invokestatic 102) (nn := 3) (mc := 1) (ms := 6) (f := x_Law_sendAway) (cs := cs) (ss := ss) (call_SW h.1 hKX (ct_Law_sendAway w l hw hl) tw_610 tw_608 tw_0 tw_609 (by decide +kernel) ⟨Nat.le_of_ble_eq_true rfl, Nat.le_of_ble_eq_true rfl⟩) (by decide +kernel) h1R.1 h1R.2)
  (sn_sq (pm := 405) (c1 := cs + 1) (s1 := ss + 6) (l_blk h h1R (by decide +kernel))
  (sn_sq (pm := 416) (c1 := cs + 1) (s1 := ss + 6) (sn_ite (pt := 414) (pf := 416) (sc_no (l_cat h h1R (p1 := 411) (tgt := 416) (by decide +kernel) (by decide +kernel) (by decide)))
  (l_ret0z h.1 hF)
  (l_blk h h1R rfl))
  (sn_sq (pm := 433) (c1 := cs + 1) (s1 := ss + 6) (sn_ite (pt := 431) (pf := 433) (sc_an (pm := 421) (sc_no (l_cat h h1R (p1 := 418) (tgt := 433) (by decide +kernel) (by decide +kernel) (by decide))) (sc_no (l_cat h h1R (p1 := 428) (tgt := 433) (by decide +kernel) (by decide +kernel) (by decide))))
  (l_ret0z h.1 hF)
  (l_blk h h1R rfl))
  (sn_cnt (l_gotoW h (off := 1139) (by decide +kernel) (by decide) (Nat.le_refl _) (Nat.le_refl _))))))))
def d_Law_c4 (T : Nat → Option (Nat × (Nat → Int32))) : Dn := (sq (blk (E_Law_law T) [.aload_n 1, .aload_n 0, .iload 4, .iconst 1, .iadd, .iaload, .aload_n 0, .iload 4, .iconst 2, .iadd, .iaload, .aload_n 0, .iload 4, .iconst 3, .iadd, .iaload, .aload_n 0, .iload 4, .iconst 4, .iadd, .iaload, .aload_n 0, .iload 4, .iconst 5, .iadd, .iaload, .aload_n 3])
  (sq (calD 7 x_Law_order)
  (sq (blk (E_Law_law T) [.istore 5, .aload_n 2, .aload_n 0, .iload 4, .iconst 1, .iadd, .iaload, .aload_n 0, .iload 4, .iconst 2, .iadd, .iaload, .aload_n 0, .iload 4, .iconst 3, .iadd, .iaload, .aload_n 0, .iload 4, .iconst 4, .iadd, .iaload, .aload_n 0, .iload 4, .iconst 5, .iadd, .iaload, .invokevirtual 108, .istore 6])
  (sq (ite' (cno (cat (E_Law_law T) [.aload_n 2, .invokevirtual 91, .iload 5] (.if_icmp .eq 5)))
  (rtz (E_Law_law T) [.iconst 0])
  (blk (E_Law_law T) []))
  (sq (ite' (can (cno (cat (E_Law_law T) [.iload 5] (.ifCond .ne 15))) (cno (cat (E_Law_law T) [.aload_n 3, .iconst 0, .laload, .iload 6, .i2l, .lcmp] (.ifCond .eq 5))))
  (rtz (E_Law_law T) [.iconst 0])
  (blk (E_Law_law T) []))
  cnt)))))
set_option maxRecDepth 20000 in
theorem sn_Law_c4 (h : LC w p l e room_1 s m args below meth c Q code 9 "CoilSlitsLaw" (E_Law_law T)) (hF : ∀ g1, ¬ F (.inl (some (.int 0))) g1) (hKX : KX w s) (hw : zWok w) (hl : l.stackTraces = false) (h0R : cs ≤ room_1.cells ∧ ss ≤ room_1.slots) (h1R : cs + 1 ≤ room_1.cells ∧ ss + 6 ≤ room_1.slots) : Sn (zK w false p l e room_1 s m args below meth c Q 9) F (zK w false p l e room_1 s m args below meth c Q 9 (cs + 1) (ss + 6) 1578) (zK w false p l e room_1 s m args below meth c Q 9 (cs + 1) (ss + 6) 1572) cs ss 436 (d_Law_c4 T) (cs + 1) (ss + 6) 1572 := by
  unfold d_Law_c4
  exact (sn_sq (pm := 468) (c1 := cs) (s1 := ss) (l_blk h h0R (by decide +kernel))
  (sn_sq (pm := 471) (c1 := cs + 1) (s1 := ss + 6) (sn_cal (i := .invokestatic 105) (nn := 7) (mc := 1) (ms := 6) (f := x_Law_order) (cs := cs) (ss := ss) (call_SW h.1 hKX (ct_Law_order w l hw hl) tw_622 tw_620 tw_0 tw_621 (by decide +kernel) ⟨Nat.le_of_ble_eq_true rfl, Nat.le_of_ble_eq_true rfl⟩) (by decide +kernel) h1R.1 h1R.2)
  (sn_sq (pm := 509) (c1 := cs + 1) (s1 := ss + 6) (l_blk h h1R (by decide +kernel))
  (sn_sq (pm := 520) (c1 := cs + 1) (s1 := ss + 6) (sn_ite (pt := 518) (pf := 520) (sc_no (l_cat h h1R (p1 := 515) (tgt := 520) (by decide +kernel) (by decide +kernel) (by decide)))
  (l_ret0z h.1 hF)
  (l_blk h h1R rfl))
  (sn_sq (pm := 537) (c1 := cs + 1) (s1 := ss + 6) (sn_ite (pt := 535) (pf := 537) (sc_an (pm := 525) (sc_no (l_cat h h1R (p1 := 522) (tgt := 537) (by decide +kernel) (by decide +kernel) (by decide))) (sc_no (l_cat h h1R (p1 := 532) (tgt := 537) (by decide +kernel) (by decide +kernel) (by decide))))
  (l_ret0z h.1 hF)
  (l_blk h h1R rfl))
  (sn_cnt (l_gotoW h (off := 1035) (by decide +kernel) (by decide) (Nat.le_refl _) (Nat.le_refl _))))))))
def d_Law_c5 (T : Nat → Option (Nat × (Nat → Int32))) : Dn := (sq (blk (E_Law_law T) [.aload_n 1, .aload_n 0, .iload 4, .iconst 1, .iadd, .iaload, .aload_n 3])
  (sq (calD 3 x_Law_cancel)
  (sq (blk (E_Law_law T) [.istore 5, .aload_n 2, .aload_n 0, .iload 4, .iconst 1, .iadd, .iaload, .invokevirtual 111, .istore 6])
  (sq (ite' (cno (cat (E_Law_law T) [.aload_n 2, .invokevirtual 91, .iload 5] (.if_icmp .eq 5)))
  (rtz (E_Law_law T) [.iconst 0])
  (blk (E_Law_law T) []))
  (sq (ite' (can (cno (cat (E_Law_law T) [.iload 5] (.ifCond .ne 15))) (cno (cat (E_Law_law T) [.aload_n 3, .iconst 0, .laload, .iload 6, .i2l, .lcmp] (.ifCond .eq 5))))
  (rtz (E_Law_law T) [.iconst 0])
  (blk (E_Law_law T) []))
  cnt)))))
set_option maxRecDepth 20000 in
theorem sn_Law_c5 (h : LC w p l e room_1 s m args below meth c Q code 9 "CoilSlitsLaw" (E_Law_law T)) (hF : ∀ g1, ¬ F (.inl (some (.int 0))) g1) (hKX : KX w s) (hw : zWok w) (hl : l.stackTraces = false) (h0R : cs ≤ room_1.cells ∧ ss ≤ room_1.slots) (h1R : cs + 1 ≤ room_1.cells ∧ ss + 6 ≤ room_1.slots) : Sn (zK w false p l e room_1 s m args below meth c Q 9) F (zK w false p l e room_1 s m args below meth c Q 9 (cs + 1) (ss + 6) 1578) (zK w false p l e room_1 s m args below meth c Q 9 (cs + 1) (ss + 6) 1572) cs ss 540 (d_Law_c5 T) (cs + 1) (ss + 6) 1572 := by
  unfold d_Law_c5
  exact (sn_sq (pm := 548) (c1 := cs) (s1 := ss) (l_blk h h0R (by decide +kernel))
  (sn_sq (pm := 551) (c1 := cs + 1) (s1 := ss + 6) (sn_cal (i := .invokestatic 109) (nn := 3) (mc := 1) (ms := 6) (f := x_Law_cancel) (cs := cs) (ss := ss) (call_SW h.1 hKX (ct_Law_cancel w l hw hl) tw_635 tw_633 tw_0 tw_634 (by decide +kernel) ⟨Nat.le_of_ble_eq_true rfl, Nat.le_of_ble_eq_true rfl⟩) (by decide +kernel) h1R.1 h1R.2)
  (sn_sq (pm := 565) (c1 := cs + 1) (s1 := ss + 6) (l_blk h h1R (by decide +kernel))
  (sn_sq (pm := 576) (c1 := cs + 1) (s1 := ss + 6) (sn_ite (pt := 574) (pf := 576) (sc_no (l_cat h h1R (p1 := 571) (tgt := 576) (by decide +kernel) (by decide +kernel) (by decide)))
  (l_ret0z h.1 hF)
  (l_blk h h1R rfl))
  (sn_sq (pm := 593) (c1 := cs + 1) (s1 := ss + 6) (sn_ite (pt := 591) (pf := 593) (sc_an (pm := 581) (sc_no (l_cat h h1R (p1 := 578) (tgt := 593) (by decide +kernel) (by decide +kernel) (by decide))) (sc_no (l_cat h h1R (p1 := 588) (tgt := 593) (by decide +kernel) (by decide +kernel) (by decide))))
  (l_ret0z h.1 hF)
  (l_blk h h1R rfl))
  (sn_cnt (l_gotoW h (off := 979) (by decide +kernel) (by decide) (Nat.le_refl _) (Nat.le_refl _))))))))
def d_Law_c6 (T : Nat → Option (Nat × (Nat → Int32))) : Dn := (sq (blk (E_Law_law T) [.aload_n 1, .aload_n 0, .iload 4, .iconst 1, .iadd, .iaload, .aload_n 0, .iload 4, .iconst 2, .iadd, .iaload, .aload_n 3])
  (sq (calD 4 x_Law_slit)
  (sq (blk (E_Law_law T) [.istore 5, .aload_n 2, .aload_n 0, .iload 4, .iconst 1, .iadd, .iaload, .aload_n 0, .iload 4, .iconst 2, .iadd, .iaload, .invokevirtual 114, .istore 6])
  (sq (ite' (cno (cat (E_Law_law T) [.aload_n 2, .invokevirtual 91, .iload 5] (.if_icmp .eq 5)))
  (rtz (E_Law_law T) [.iconst 0])
  (blk (E_Law_law T) []))
  (sq (ite' (can (cno (cat (E_Law_law T) [.iload 5] (.ifCond .ne 15))) (cno (cat (E_Law_law T) [.aload_n 3, .iconst 0, .laload, .iload 6, .i2l, .lcmp] (.ifCond .eq 5))))
  (rtz (E_Law_law T) [.iconst 0])
  (blk (E_Law_law T) []))
  cnt)))))
set_option maxRecDepth 20000 in
theorem sn_Law_c6 (h : LC w p l e room_1 s m args below meth c Q code 9 "CoilSlitsLaw" (E_Law_law T)) (hF : ∀ g1, ¬ F (.inl (some (.int 0))) g1) (hKX : KX w s) (hw : zWok w) (hl : l.stackTraces = false) (h0R : cs ≤ room_1.cells ∧ ss ≤ room_1.slots) (h1R : cs + 1 ≤ room_1.cells ∧ ss + 6 ≤ room_1.slots) : Sn (zK w false p l e room_1 s m args below meth c Q 9) F (zK w false p l e room_1 s m args below meth c Q 9 (cs + 1) (ss + 6) 1578) (zK w false p l e room_1 s m args below meth c Q 9 (cs + 1) (ss + 6) 1572) cs ss 596 (d_Law_c6 T) (cs + 1) (ss + 6) 1572 := by
  unfold d_Law_c6
  exact (sn_sq (pm := 610) (c1 := cs) (s1 := ss) (l_blk h h0R (by decide +kernel))
  (sn_sq (pm := 613) (c1 := cs + 1) (s1 := ss + 6) (sn_cal (i := .invokestatic 112) (nn := 4) (mc := 1) (ms := 6) (f := x_Law_slit) (cs := cs) (ss := ss) (call_SW h.1 hKX (ct_Law_slit w l hw hl) tw_652 tw_650 tw_0 tw_651 (by decide +kernel) ⟨Nat.le_of_ble_eq_true rfl, Nat.le_of_ble_eq_true rfl⟩) (by decide +kernel) h1R.1 h1R.2)
  (sn_sq (pm := 633) (c1 := cs + 1) (s1 := ss + 6) (l_blk h h1R (by decide +kernel))
  (sn_sq (pm := 644) (c1 := cs + 1) (s1 := ss + 6) (sn_ite (pt := 642) (pf := 644) (sc_no (l_cat h h1R (p1 := 639) (tgt := 644) (by decide +kernel) (by decide +kernel) (by decide)))
  (l_ret0z h.1 hF)
  (l_blk h h1R rfl))
  (sn_sq (pm := 661) (c1 := cs + 1) (s1 := ss + 6) (sn_ite (pt := 659) (pf := 661) (sc_an (pm := 649) (sc_no (l_cat h h1R (p1 := 646) (tgt := 661) (by decide +kernel) (by decide +kernel) (by decide))) (sc_no (l_cat h h1R (p1 := 656) (tgt := 661) (by decide +kernel) (by decide +kernel) (by decide))))
  (l_ret0z h.1 hF)
  (l_blk h h1R rfl))
  (sn_cnt (l_gotoW h (off := 911) (by decide +kernel) (by decide) (Nat.le_refl _) (Nat.le_refl _))))))))
def d_Law_c7 (T : Nat → Option (Nat × (Nat → Int32))) : Dn := (sq (blk (E_Law_law T) [.aload_n 1, .aload_n 0, .iload 4, .iconst 1, .iadd, .iaload, .aload_n 3])
  (sq (calD 3 x_Law_serve)
  (sq (blk (E_Law_law T) [.istore 5, .aload_n 2, .aload_n 0, .iload 4, .iconst 1, .iadd, .iaload, .invokevirtual 117, .istore 6])
  (sq (ite' (cno (cat (E_Law_law T) [.aload_n 2, .invokevirtual 91, .iload 5] (.if_icmp .eq 5)))
  (rtz (E_Law_law T) [.iconst 0])
  (blk (E_Law_law T) []))
  (sq (ite' (can (cno (cat (E_Law_law T) [.iload 5] (.ifCond .ne 15))) (cno (cat (E_Law_law T) [.aload_n 3, .iconst 0, .laload, .iload 6, .i2l, .lcmp] (.ifCond .eq 5))))
  (rtz (E_Law_law T) [.iconst 0])
  (blk (E_Law_law T) []))
  cnt)))))
set_option maxRecDepth 20000 in
theorem sn_Law_c7 (h : LC w p l e room_1 s m args below meth c Q code 9 "CoilSlitsLaw" (E_Law_law T)) (hF : ∀ g1, ¬ F (.inl (some (.int 0))) g1) (hKX : KX w s) (hw : zWok w) (hl : l.stackTraces = false) (h0R : cs ≤ room_1.cells ∧ ss ≤ room_1.slots) (h1R : cs + 1 ≤ room_1.cells ∧ ss + 6 ≤ room_1.slots) : Sn (zK w false p l e room_1 s m args below meth c Q 9) F (zK w false p l e room_1 s m args below meth c Q 9 (cs + 1) (ss + 6) 1578) (zK w false p l e room_1 s m args below meth c Q 9 (cs + 1) (ss + 6) 1572) cs ss 664 (d_Law_c7 T) (cs + 1) (ss + 6) 1572 := by
  unfold d_Law_c7
  exact (sn_sq (pm := 672) (c1 := cs) (s1 := ss) (l_blk h h0R (by decide +kernel))
  (sn_sq (pm := 675) (c1 := cs + 1) (s1 := ss + 6) (sn_cal (i := .invokestatic 115) (nn := 3) (mc := 1) (ms := 6) (f := x_Law_serve) (cs := cs) (ss := ss) (call_SW h.1 hKX (ct_Law_serve w l hw hl) tw_668 tw_666 tw_0 tw_667 (by decide +kernel) ⟨Nat.le_of_ble_eq_true rfl, Nat.le_of_ble_eq_true rfl⟩) (by decide +kernel) h1R.1 h1R.2)
  (sn_sq (pm := 689) (c1 := cs + 1) (s1 := ss + 6) (l_blk h h1R (by decide +kernel))
  (sn_sq (pm := 700) (c1 := cs + 1) (s1 := ss + 6) (sn_ite (pt := 698) (pf := 700) (sc_no (l_cat h h1R (p1 := 695) (tgt := 700) (by decide +kernel) (by decide +kernel) (by decide)))
  (l_ret0z h.1 hF)
  (l_blk h h1R rfl))
  (sn_sq (pm := 717) (c1 := cs + 1) (s1 := ss + 6) (sn_ite (pt := 715) (pf := 717) (sc_an (pm := 705) (sc_no (l_cat h h1R (p1 := 702) (tgt := 717) (by decide +kernel) (by decide +kernel) (by decide))) (sc_no (l_cat h h1R (p1 := 712) (tgt := 717) (by decide +kernel) (by decide +kernel) (by decide))))
  (l_ret0z h.1 hF)
  (l_blk h h1R rfl))
  (sn_cnt (l_gotoW h (off := 855) (by decide +kernel) (by decide) (Nat.le_refl _) (Nat.le_refl _))))))))
def d_Law_c8 (T : Nat → Option (Nat × (Nat → Int32))) : Dn := (ite' (cno (cat (E_Law_law T) [.aload_n 1, .invokevirtual 118, .aload_n 2, .invokevirtual 121] (.if_icmp .eq 844)))
  (rtz (E_Law_law T) [.iconst 0])
  (blk (E_Law_law T) []))
set_option maxRecDepth 20000 in
theorem sn_Law_c8 (h : LC w p l e room_1 s m args below meth c Q code 9 "CoilSlitsLaw" (E_Law_law T)) (hF : ∀ g1, ¬ F (.inl (some (.int 0))) g1) (hKX : KX w s) (hw : zWok w) (hl : l.stackTraces = false) (h0R : cs ≤ room_1.cells ∧ ss ≤ room_1.slots) (h1R : cs + 1 ≤ room_1.cells ∧ ss + 6 ≤ room_1.slots) : Sn (zK w false p l e room_1 s m args below meth c Q 9) F (zK w false p l e room_1 s m args below meth c Q 9 (cs + 1) (ss + 6) 1578) (zK w false p l e room_1 s m args below meth c Q 9 (cs + 1) (ss + 6) 1572) cs ss 720 (d_Law_c8 T) (cs + 1) (ss + 6) 1572 := by
  unfold d_Law_c8
  exact (l_wide (c1 := cs) (s1 := ss) (c2 := cs + 1) (s2 := ss + 6) (Nat.le_add_right _ _) (Nat.le_add_right _ _) (sn_ite (pt := 731) (pf := 1572) (sc_no (l_cat h h0R (p1 := 728) (tgt := 1572) (by decide +kernel) (by decide +kernel) (by decide)))
  (l_ret0z h.1 hF)
  (l_blk h h0R rfl)))
def d_Law_c9 (T : Nat → Option (Nat × (Nat → Int32))) : Dn := (sq (blk (E_Law_law T) [.aload_n 1, .aload_n 0, .iload 4, .iconst 1, .iadd, .iaload, .aload_n 0, .iload 4, .iconst 2, .iadd, .iaload, .aload_n 3])
  (sq (calD 4 x_Law_set)
  (sq (blk (E_Law_law T) [.istore 5, .aload_n 2, .aload_n 0, .iload 4, .iconst 1, .iadd, .iaload, .aload_n 0, .iload 4, .iconst 2, .iadd, .iaload, .invokevirtual 124, .istore 6])
  (sq (ite' (cno (cat (E_Law_law T) [.aload_n 2, .invokevirtual 91, .iload 5] (.if_icmp .eq 5)))
  (rtz (E_Law_law T) [.iconst 0])
  (blk (E_Law_law T) []))
  (sq (ite' (can (cno (cat (E_Law_law T) [.iload 5] (.ifCond .ne 15))) (cno (cat (E_Law_law T) [.aload_n 3, .iconst 0, .laload, .iload 6, .i2l, .lcmp] (.ifCond .eq 5))))
  (rtz (E_Law_law T) [.iconst 0])
  (blk (E_Law_law T) []))
  cnt)))))
set_option maxRecDepth 20000 in
theorem sn_Law_c9 (h : LC w p l e room_1 s m args below meth c Q code 9 "CoilSlitsLaw" (E_Law_law T)) (hF : ∀ g1, ¬ F (.inl (some (.int 0))) g1) (hKX : KX w s) (hw : zWok w) (hl : l.stackTraces = false) (h0R : cs ≤ room_1.cells ∧ ss ≤ room_1.slots) (h1R : cs + 1 ≤ room_1.cells ∧ ss + 6 ≤ room_1.slots) : Sn (zK w false p l e room_1 s m args below meth c Q 9) F (zK w false p l e room_1 s m args below meth c Q 9 (cs + 1) (ss + 6) 1578) (zK w false p l e room_1 s m args below meth c Q 9 (cs + 1) (ss + 6) 1572) cs ss 733 (d_Law_c9 T) (cs + 1) (ss + 6) 1572 := by
  unfold d_Law_c9
  exact (sn_sq (pm := 747) (c1 := cs) (s1 := ss) (l_blk h h0R (by decide +kernel))
  (sn_sq (pm := 750) (c1 := cs + 1) (s1 := ss + 6) (sn_cal (i := .invokestatic 122) (nn := 4) (mc := 1) (ms := 6) (f := x_Law_set) (cs := cs) (ss := ss) (call_SW h.1 hKX (ct_Law_set w l hw hl) tw_675 tw_673 tw_0 tw_674 (by decide +kernel) ⟨Nat.le_of_ble_eq_true rfl, Nat.le_of_ble_eq_true rfl⟩) (by decide +kernel) h1R.1 h1R.2)
  (sn_sq (pm := 770) (c1 := cs + 1) (s1 := ss + 6) (l_blk h h1R (by decide +kernel))
  (sn_sq (pm := 781) (c1 := cs + 1) (s1 := ss + 6) (sn_ite (pt := 779) (pf := 781) (sc_no (l_cat h h1R (p1 := 776) (tgt := 781) (by decide +kernel) (by decide +kernel) (by decide)))
  (l_ret0z h.1 hF)
  (l_blk h h1R rfl))
  (sn_sq (pm := 798) (c1 := cs + 1) (s1 := ss + 6) (sn_ite (pt := 796) (pf := 798) (sc_an (pm := 786) (sc_no (l_cat h h1R (p1 := 783) (tgt := 798) (by decide +kernel) (by decide +kernel) (by decide))) (sc_no (l_cat h h1R (p1 := 793) (tgt := 798) (by decide +kernel) (by decide +kernel) (by decide))))
  (l_ret0z h.1 hF)
  (l_blk h h1R rfl))
  (sn_cnt (l_gotoW h (off := 774) (by decide +kernel) (by decide) (Nat.le_refl _) (Nat.le_refl _))))))))
def d_Law_c10 (T : Nat → Option (Nat × (Nat → Int32))) : Dn := (sq (blk (E_Law_law T) [.aload_n 1, .aload_n 0, .iload 4, .iconst 1, .iadd, .iaload, .aload_n 3])
  (sq (calD 3 x_Law_append)
  (sq (blk (E_Law_law T) [.istore 5, .aload_n 2, .aload_n 0, .iload 4, .iconst 1, .iadd, .iaload, .invokevirtual 127, .istore 6])
  (sq (ite' (cno (cat (E_Law_law T) [.aload_n 2, .invokevirtual 91, .iload 5] (.if_icmp .eq 5)))
  (rtz (E_Law_law T) [.iconst 0])
  (blk (E_Law_law T) []))
  (sq (ite' (can (cno (cat (E_Law_law T) [.iload 5] (.ifCond .ne 15))) (cno (cat (E_Law_law T) [.aload_n 3, .iconst 0, .laload, .iload 6, .i2l, .lcmp] (.ifCond .eq 5))))
  (rtz (E_Law_law T) [.iconst 0])
  (blk (E_Law_law T) []))
  cnt)))))
set_option maxRecDepth 20000 in
theorem sn_Law_c10 (h : LC w p l e room_1 s m args below meth c Q code 9 "CoilSlitsLaw" (E_Law_law T)) (hF : ∀ g1, ¬ F (.inl (some (.int 0))) g1) (hKX : KX w s) (hw : zWok w) (hl : l.stackTraces = false) (h0R : cs ≤ room_1.cells ∧ ss ≤ room_1.slots) (h1R : cs + 1 ≤ room_1.cells ∧ ss + 6 ≤ room_1.slots) : Sn (zK w false p l e room_1 s m args below meth c Q 9) F (zK w false p l e room_1 s m args below meth c Q 9 (cs + 1) (ss + 6) 1578) (zK w false p l e room_1 s m args below meth c Q 9 (cs + 1) (ss + 6) 1572) cs ss 801 (d_Law_c10 T) (cs + 1) (ss + 6) 1572 := by
  unfold d_Law_c10
  exact (sn_sq (pm := 809) (c1 := cs) (s1 := ss) (l_blk h h0R (by decide +kernel))
  (sn_sq (pm := 812) (c1 := cs + 1) (s1 := ss + 6) (sn_cal (i := .invokestatic 125) (nn := 3) (mc := 1) (ms := 6) (f := x_Law_append) (cs := cs) (ss := ss) (call_SW h.1 hKX (ct_Law_append w l hw hl) tw_691 tw_689 tw_0 tw_690 (by decide +kernel) ⟨Nat.le_of_ble_eq_true rfl, Nat.le_of_ble_eq_true rfl⟩) (by decide +kernel) h1R.1 h1R.2)
  (sn_sq (pm := 826) (c1 := cs + 1) (s1 := ss + 6) (l_blk h h1R (by decide +kernel))
  (sn_sq (pm := 837) (c1 := cs + 1) (s1 := ss + 6) (sn_ite (pt := 835) (pf := 837) (sc_no (l_cat h h1R (p1 := 832) (tgt := 837) (by decide +kernel) (by decide +kernel) (by decide)))
  (l_ret0z h.1 hF)
  (l_blk h h1R rfl))
  (sn_sq (pm := 854) (c1 := cs + 1) (s1 := ss + 6) (sn_ite (pt := 852) (pf := 854) (sc_an (pm := 842) (sc_no (l_cat h h1R (p1 := 839) (tgt := 854) (by decide +kernel) (by decide +kernel) (by decide))) (sc_no (l_cat h h1R (p1 := 849) (tgt := 854) (by decide +kernel) (by decide +kernel) (by decide))))
  (l_ret0z h.1 hF)
  (l_blk h h1R rfl))
  (sn_cnt (l_gotoW h (off := 718) (by decide +kernel) (by decide) (Nat.le_refl _) (Nat.le_refl _))))))))
def d_Law_c11 (T : Nat → Option (Nat × (Nat → Int32))) : Dn := (ite' (cno (cat (E_Law_law T) [.aload_n 1, .invokevirtual 128, .aload_n 2, .invokevirtual 131] (.if_icmp .eq 707)))
  (rtz (E_Law_law T) [.iconst 0])
  (blk (E_Law_law T) []))
set_option maxRecDepth 20000 in
theorem sn_Law_c11 (h : LC w p l e room_1 s m args below meth c Q code 9 "CoilSlitsLaw" (E_Law_law T)) (hF : ∀ g1, ¬ F (.inl (some (.int 0))) g1) (hKX : KX w s) (hw : zWok w) (hl : l.stackTraces = false) (h0R : cs ≤ room_1.cells ∧ ss ≤ room_1.slots) (h1R : cs + 1 ≤ room_1.cells ∧ ss + 6 ≤ room_1.slots) : Sn (zK w false p l e room_1 s m args below meth c Q 9) F (zK w false p l e room_1 s m args below meth c Q 9 (cs + 1) (ss + 6) 1578) (zK w false p l e room_1 s m args below meth c Q 9 (cs + 1) (ss + 6) 1572) cs ss 857 (d_Law_c11 T) (cs + 1) (ss + 6) 1572 := by
  unfold d_Law_c11
  exact (l_wide (c1 := cs) (s1 := ss) (c2 := cs + 1) (s2 := ss + 6) (Nat.le_add_right _ _) (Nat.le_add_right _ _) (sn_ite (pt := 868) (pf := 1572) (sc_no (l_cat h h0R (p1 := 865) (tgt := 1572) (by decide +kernel) (by decide +kernel) (by decide)))
  (l_ret0z h.1 hF)
  (l_blk h h0R rfl)))
def d_Law_c12 (T : Nat → Option (Nat × (Nat → Int32))) : Dn := (ite' (cno (cat (E_Law_law T) [.aload_n 1, .invokevirtual 132, .aload_n 2, .invokevirtual 135] (.if_icmp .eq 694)))
  (rtz (E_Law_law T) [.iconst 0])
  (blk (E_Law_law T) []))
set_option maxRecDepth 20000 in
theorem sn_Law_c12 (h : LC w p l e room_1 s m args below meth c Q code 9 "CoilSlitsLaw" (E_Law_law T)) (hF : ∀ g1, ¬ F (.inl (some (.int 0))) g1) (hKX : KX w s) (hw : zWok w) (hl : l.stackTraces = false) (h0R : cs ≤ room_1.cells ∧ ss ≤ room_1.slots) (h1R : cs + 1 ≤ room_1.cells ∧ ss + 6 ≤ room_1.slots) : Sn (zK w false p l e room_1 s m args below meth c Q 9) F (zK w false p l e room_1 s m args below meth c Q 9 (cs + 1) (ss + 6) 1578) (zK w false p l e room_1 s m args below meth c Q 9 (cs + 1) (ss + 6) 1572) cs ss 870 (d_Law_c12 T) (cs + 1) (ss + 6) 1572 := by
  unfold d_Law_c12
  exact (l_wide (c1 := cs) (s1 := ss) (c2 := cs + 1) (s2 := ss + 6) (Nat.le_add_right _ _) (Nat.le_add_right _ _) (sn_ite (pt := 881) (pf := 1572) (sc_no (l_cat h h0R (p1 := 878) (tgt := 1572) (by decide +kernel) (by decide +kernel) (by decide)))
  (l_ret0z h.1 hF)
  (l_blk h h0R rfl)))
def d_Law_c13 (T : Nat → Option (Nat × (Nat → Int32))) : Dn := (sq (blk (E_Law_law T) [.aload_n 1, .aload_n 3])
  (sq (calD 2 x_Law_receiveAll)
  (sq (blk (E_Law_law T) [.istore 5, .aload_n 2, .invokevirtual 139, .istore 6])
  (sq (ite' (cno (cat (E_Law_law T) [.aload_n 2, .invokevirtual 91, .iload 5] (.if_icmp .eq 5)))
  (rtz (E_Law_law T) [.iconst 0])
  (blk (E_Law_law T) []))
  (sq (ite' (can (cno (cat (E_Law_law T) [.iload 5] (.ifCond .ne 15))) (cno (cat (E_Law_law T) [.aload_n 3, .iconst 0, .laload, .iload 6, .i2l, .lcmp] (.ifCond .eq 5))))
  (rtz (E_Law_law T) [.iconst 0])
  (blk (E_Law_law T) []))
  cnt)))))
set_option maxRecDepth 20000 in
theorem sn_Law_c13 (h : LC w p l e room_1 s m args below meth c Q code 9 "CoilSlitsLaw" (E_Law_law T)) (hF : ∀ g1, ¬ F (.inl (some (.int 0))) g1) (hKX : KX w s) (hw : zWok w) (hl : l.stackTraces = false) (h0R : cs ≤ room_1.cells ∧ ss ≤ room_1.slots) (h1R : cs + 1 ≤ room_1.cells ∧ ss + 6 ≤ room_1.slots) : Sn (zK w false p l e room_1 s m args below meth c Q 9) F (zK w false p l e room_1 s m args below meth c Q 9 (cs + 1) (ss + 6) 1578) (zK w false p l e room_1 s m args below meth c Q 9 (cs + 1) (ss + 6) 1572) cs ss 883 (d_Law_c13 T) (cs + 1) (ss + 6) 1572 := by
  unfold d_Law_c13
  exact (sn_sq (pm := 885) (c1 := cs) (s1 := ss) (l_blk h h0R (by decide +kernel))
  (sn_sq (pm := 888) (c1 := cs + 1) (s1 := ss + 6) (sn_cal (i := .invokestatic 136) (nn := 2) (mc := 1) (ms := 6) (f := x_Law_receiveAll) (cs := cs) (ss := ss) (call_SW h.1 hKX (ct_Law_receiveAll w l hw hl) tw_701 tw_699 tw_0 tw_700 (by decide +kernel) ⟨Nat.le_of_ble_eq_true rfl, Nat.le_of_ble_eq_true rfl⟩) (by decide +kernel) h1R.1 h1R.2)
  (sn_sq (pm := 896) (c1 := cs + 1) (s1 := ss + 6) (l_blk h h1R (by decide +kernel))
  (sn_sq (pm := 907) (c1 := cs + 1) (s1 := ss + 6) (sn_ite (pt := 905) (pf := 907) (sc_no (l_cat h h1R (p1 := 902) (tgt := 907) (by decide +kernel) (by decide +kernel) (by decide)))
  (l_ret0z h.1 hF)
  (l_blk h h1R rfl))
  (sn_sq (pm := 924) (c1 := cs + 1) (s1 := ss + 6) (sn_ite (pt := 922) (pf := 924) (sc_an (pm := 912) (sc_no (l_cat h h1R (p1 := 909) (tgt := 924) (by decide +kernel) (by decide +kernel) (by decide))) (sc_no (l_cat h h1R (p1 := 919) (tgt := 924) (by decide +kernel) (by decide +kernel) (by decide))))
  (l_ret0z h.1 hF)
  (l_blk h h1R rfl))
  (sn_cnt (l_gotoW h (off := 648) (by decide +kernel) (by decide) (Nat.le_refl _) (Nat.le_refl _))))))))
def d_Law_c14 (T : Nat → Option (Nat × (Nat → Int32))) : Dn := (sq (blk (E_Law_law T) [.aload_n 1, .aload_n 3])
  (sq (calD 2 x_Law_undo)
  (sq (blk (E_Law_law T) [.istore 5, .aload_n 2, .invokevirtual 142, .istore 6])
  (sq (ite' (cno (cat (E_Law_law T) [.aload_n 2, .invokevirtual 91, .iload 5] (.if_icmp .eq 5)))
  (rtz (E_Law_law T) [.iconst 0])
  (blk (E_Law_law T) []))
  (sq (ite' (can (cno (cat (E_Law_law T) [.iload 5] (.ifCond .ne 15))) (cno (cat (E_Law_law T) [.aload_n 3, .iconst 0, .laload, .iload 6, .i2l, .lcmp] (.ifCond .eq 5))))
  (rtz (E_Law_law T) [.iconst 0])
  (blk (E_Law_law T) []))
  cnt)))))
set_option maxRecDepth 20000 in
theorem sn_Law_c14 (h : LC w p l e room_1 s m args below meth c Q code 9 "CoilSlitsLaw" (E_Law_law T)) (hF : ∀ g1, ¬ F (.inl (some (.int 0))) g1) (hKX : KX w s) (hw : zWok w) (hl : l.stackTraces = false) (h0R : cs ≤ room_1.cells ∧ ss ≤ room_1.slots) (h1R : cs + 1 ≤ room_1.cells ∧ ss + 6 ≤ room_1.slots) : Sn (zK w false p l e room_1 s m args below meth c Q 9) F (zK w false p l e room_1 s m args below meth c Q 9 (cs + 1) (ss + 6) 1578) (zK w false p l e room_1 s m args below meth c Q 9 (cs + 1) (ss + 6) 1572) cs ss 927 (d_Law_c14 T) (cs + 1) (ss + 6) 1572 := by
  unfold d_Law_c14
  exact (sn_sq (pm := 929) (c1 := cs) (s1 := ss) (l_blk h h0R (by decide +kernel))
  (sn_sq (pm := 932) (c1 := cs + 1) (s1 := ss + 6) (sn_cal (i := .invokestatic 140) (nn := 2) (mc := 1) (ms := 6) (f := x_Law_undo) (cs := cs) (ss := ss) (call_SW h.1 hKX (ct_Law_undo w l hw hl) tw_737 tw_735 tw_0 tw_736 (by decide +kernel) ⟨Nat.le_of_ble_eq_true rfl, Nat.le_of_ble_eq_true rfl⟩) (by decide +kernel) h1R.1 h1R.2)
  (sn_sq (pm := 940) (c1 := cs + 1) (s1 := ss + 6) (l_blk h h1R (by decide +kernel))
  (sn_sq (pm := 951) (c1 := cs + 1) (s1 := ss + 6) (sn_ite (pt := 949) (pf := 951) (sc_no (l_cat h h1R (p1 := 946) (tgt := 951) (by decide +kernel) (by decide +kernel) (by decide)))
  (l_ret0z h.1 hF)
  (l_blk h h1R rfl))
  (sn_sq (pm := 968) (c1 := cs + 1) (s1 := ss + 6) (sn_ite (pt := 966) (pf := 968) (sc_an (pm := 956) (sc_no (l_cat h h1R (p1 := 953) (tgt := 968) (by decide +kernel) (by decide +kernel) (by decide))) (sc_no (l_cat h h1R (p1 := 963) (tgt := 968) (by decide +kernel) (by decide +kernel) (by decide))))
  (l_ret0z h.1 hF)
  (l_blk h h1R rfl))
  (sn_cnt (l_gotoW h (off := 604) (by decide +kernel) (by decide) (Nat.le_refl _) (Nat.le_refl _))))))))
def d_Law_c15 (T : Nat → Option (Nat × (Nat → Int32))) : Dn := (sq (blk (E_Law_law T) [.aload_n 1, .aload_n 0, .iload 4, .iconst 1, .iadd, .iaload, .aload_n 0, .iload 4, .iconst 2, .iadd, .iaload, .aload_n 3])
  (sq (calD 4 x_Law_at)
  (sq (blk (E_Law_law T) [.istore 5, .aload_n 2, .aload_n 0, .iload 4, .iconst 1, .iadd, .iaload, .aload_n 0, .iload 4, .iconst 2, .iadd, .iaload, .invokevirtual 145, .istore 6])
  (sq (ite' (cno (cat (E_Law_law T) [.aload_n 2, .invokevirtual 91, .iload 5] (.if_icmp .eq 5)))
  (rtz (E_Law_law T) [.iconst 0])
  (blk (E_Law_law T) []))
  (sq (ite' (can (cno (cat (E_Law_law T) [.iload 5] (.ifCond .ne 15))) (cno (cat (E_Law_law T) [.aload_n 3, .iconst 0, .laload, .iload 6, .i2l, .lcmp] (.ifCond .eq 5))))
  (rtz (E_Law_law T) [.iconst 0])
  (blk (E_Law_law T) []))
  cnt)))))
set_option maxRecDepth 20000 in
theorem sn_Law_c15 (h : LC w p l e room_1 s m args below meth c Q code 9 "CoilSlitsLaw" (E_Law_law T)) (hF : ∀ g1, ¬ F (.inl (some (.int 0))) g1) (hKX : KX w s) (hw : zWok w) (hl : l.stackTraces = false) (h0R : cs ≤ room_1.cells ∧ ss ≤ room_1.slots) (h1R : cs + 1 ≤ room_1.cells ∧ ss + 6 ≤ room_1.slots) : Sn (zK w false p l e room_1 s m args below meth c Q 9) F (zK w false p l e room_1 s m args below meth c Q 9 (cs + 1) (ss + 6) 1578) (zK w false p l e room_1 s m args below meth c Q 9 (cs + 1) (ss + 6) 1572) cs ss 971 (d_Law_c15 T) (cs + 1) (ss + 6) 1572 := by
  unfold d_Law_c15
  exact (sn_sq (pm := 985) (c1 := cs) (s1 := ss) (l_blk h h0R (by decide +kernel))
  (sn_sq (pm := 988) (c1 := cs + 1) (s1 := ss + 6) (sn_cal (i := .invokestatic 143) (nn := 4) (mc := 1) (ms := 6) (f := x_Law_at) (cs := cs) (ss := ss) (call_SW h.1 hKX (ct_Law_at w l hw hl) tw_750 tw_748 tw_0 tw_749 (by decide +kernel) ⟨Nat.le_of_ble_eq_true rfl, Nat.le_of_ble_eq_true rfl⟩) (by decide +kernel) h1R.1 h1R.2)
  (sn_sq (pm := 1008) (c1 := cs + 1) (s1 := ss + 6) (l_blk h h1R (by decide +kernel))
  (sn_sq (pm := 1019) (c1 := cs + 1) (s1 := ss + 6) (sn_ite (pt := 1017) (pf := 1019) (sc_no (l_cat h h1R (p1 := 1014) (tgt := 1019) (by decide +kernel) (by decide +kernel) (by decide)))
  (l_ret0z h.1 hF)
  (l_blk h h1R rfl))
  (sn_sq (pm := 1036) (c1 := cs + 1) (s1 := ss + 6) (sn_ite (pt := 1034) (pf := 1036) (sc_an (pm := 1024) (sc_no (l_cat h h1R (p1 := 1021) (tgt := 1036) (by decide +kernel) (by decide +kernel) (by decide))) (sc_no (l_cat h h1R (p1 := 1031) (tgt := 1036) (by decide +kernel) (by decide +kernel) (by decide))))
  (l_ret0z h.1 hF)
  (l_blk h h1R rfl))
  (sn_cnt (l_gotoW h (off := 536) (by decide +kernel) (by decide) (Nat.le_refl _) (Nat.le_refl _))))))))
def d_Law_c16 (T : Nat → Option (Nat × (Nat → Int32))) : Dn := (sq (blk (E_Law_law T) [.aload_n 1, .aload_n 0, .iload 4, .iconst 1, .iadd, .iaload, .aload_n 0, .iload 4, .iconst 2, .iadd, .iaload, .aload_n 3])
  (sq (calD 4 x_Law_coil)
  (sq (blk (E_Law_law T) [.istore 5, .aload_n 2, .aload_n 0, .iload 4, .iconst 1, .iadd, .iaload, .aload_n 0, .iload 4, .iconst 2, .iadd, .iaload, .invokevirtual 148, .istore 6])
  (sq (ite' (cno (cat (E_Law_law T) [.aload_n 2, .invokevirtual 91, .iload 5] (.if_icmp .eq 5)))
  (rtz (E_Law_law T) [.iconst 0])
  (blk (E_Law_law T) []))
  (sq (ite' (can (cno (cat (E_Law_law T) [.iload 5] (.ifCond .ne 15))) (cno (cat (E_Law_law T) [.aload_n 3, .iconst 0, .laload, .iload 6, .i2l, .lcmp] (.ifCond .eq 5))))
  (rtz (E_Law_law T) [.iconst 0])
  (blk (E_Law_law T) []))
  cnt)))))
set_option maxRecDepth 20000 in
theorem sn_Law_c16 (h : LC w p l e room_1 s m args below meth c Q code 9 "CoilSlitsLaw" (E_Law_law T)) (hF : ∀ g1, ¬ F (.inl (some (.int 0))) g1) (hKX : KX w s) (hw : zWok w) (hl : l.stackTraces = false) (h0R : cs ≤ room_1.cells ∧ ss ≤ room_1.slots) (h1R : cs + 1 ≤ room_1.cells ∧ ss + 6 ≤ room_1.slots) : Sn (zK w false p l e room_1 s m args below meth c Q 9) F (zK w false p l e room_1 s m args below meth c Q 9 (cs + 1) (ss + 6) 1578) (zK w false p l e room_1 s m args below meth c Q 9 (cs + 1) (ss + 6) 1572) cs ss 1039 (d_Law_c16 T) (cs + 1) (ss + 6) 1572 := by
  unfold d_Law_c16
  exact (sn_sq (pm := 1053) (c1 := cs) (s1 := ss) (l_blk h h0R (by decide +kernel))
  (sn_sq (pm := 1056) (c1 := cs + 1) (s1 := ss + 6) (sn_cal (i := .invokestatic 146) (nn := 4) (mc := 1) (ms := 6) (f := x_Law_coil) (cs := cs) (ss := ss) (call_SW h.1 hKX (ct_Law_coil w l hw hl) tw_758 tw_756 tw_0 tw_757 (by decide +kernel) ⟨Nat.le_of_ble_eq_true rfl, Nat.le_of_ble_eq_true rfl⟩) (by decide +kernel) h1R.1 h1R.2)
  (sn_sq (pm := 1076) (c1 := cs + 1) (s1 := ss + 6) (l_blk h h1R (by decide +kernel))
  (sn_sq (pm := 1087) (c1 := cs + 1) (s1 := ss + 6) (sn_ite (pt := 1085) (pf := 1087) (sc_no (l_cat h h1R (p1 := 1082) (tgt := 1087) (by decide +kernel) (by decide +kernel) (by decide)))
  (l_ret0z h.1 hF)
  (l_blk h h1R rfl))
  (sn_sq (pm := 1104) (c1 := cs + 1) (s1 := ss + 6) (sn_ite (pt := 1102) (pf := 1104) (sc_an (pm := 1092) (sc_no (l_cat h h1R (p1 := 1089) (tgt := 1104) (by decide +kernel) (by decide +kernel) (by decide))) (sc_no (l_cat h h1R (p1 := 1099) (tgt := 1104) (by decide +kernel) (by decide +kernel) (by decide))))
  (l_ret0z h.1 hF)
  (l_blk h h1R rfl))
  (sn_cnt (l_gotoW h (off := 468) (by decide +kernel) (by decide) (Nat.le_refl _) (Nat.le_refl _))))))))
def d_Law_c17 (T : Nat → Option (Nat × (Nat → Int32))) : Dn := (sq (blk (E_Law_law T) [.aload_n 1, .aload_n 0, .iload 4, .iconst 1, .iadd, .iaload, .aload_n 0, .iload 4, .iconst 2, .iadd, .iaload, .aload_n 3])
  (sq (calD 4 x_Law_orderOf)
  (sq (blk (E_Law_law T) [.istore 5, .aload_n 2, .aload_n 0, .iload 4, .iconst 1, .iadd, .iaload, .aload_n 0, .iload 4, .iconst 2, .iadd, .iaload, .invokevirtual 151, .istore 6])
  (sq (ite' (cno (cat (E_Law_law T) [.aload_n 2, .invokevirtual 91, .iload 5] (.if_icmp .eq 5)))
  (rtz (E_Law_law T) [.iconst 0])
  (blk (E_Law_law T) []))
  (sq (ite' (can (cno (cat (E_Law_law T) [.iload 5] (.ifCond .ne 15))) (cno (cat (E_Law_law T) [.aload_n 3, .iconst 0, .laload, .iload 6, .i2l, .lcmp] (.ifCond .eq 5))))
  (rtz (E_Law_law T) [.iconst 0])
  (blk (E_Law_law T) []))
  cnt)))))
set_option maxRecDepth 20000 in
theorem sn_Law_c17 (h : LC w p l e room_1 s m args below meth c Q code 9 "CoilSlitsLaw" (E_Law_law T)) (hF : ∀ g1, ¬ F (.inl (some (.int 0))) g1) (hKX : KX w s) (hw : zWok w) (hl : l.stackTraces = false) (h0R : cs ≤ room_1.cells ∧ ss ≤ room_1.slots) (h1R : cs + 1 ≤ room_1.cells ∧ ss + 6 ≤ room_1.slots) : Sn (zK w false p l e room_1 s m args below meth c Q 9) F (zK w false p l e room_1 s m args below meth c Q 9 (cs + 1) (ss + 6) 1578) (zK w false p l e room_1 s m args below meth c Q 9 (cs + 1) (ss + 6) 1572) cs ss 1107 (d_Law_c17 T) (cs + 1) (ss + 6) 1572 := by
  unfold d_Law_c17
  exact (sn_sq (pm := 1121) (c1 := cs) (s1 := ss) (l_blk h h0R (by decide +kernel))
  (sn_sq (pm := 1124) (c1 := cs + 1) (s1 := ss + 6) (sn_cal (i := .invokestatic 149) (nn := 4) (mc := 1) (ms := 6) (f := x_Law_orderOf) (cs := cs) (ss := ss) (call_SW h.1 hKX (ct_Law_orderOf w l hw hl) tw_771 tw_769 tw_0 tw_770 (by decide +kernel) ⟨Nat.le_of_ble_eq_true rfl, Nat.le_of_ble_eq_true rfl⟩) (by decide +kernel) h1R.1 h1R.2)
  (sn_sq (pm := 1144) (c1 := cs + 1) (s1 := ss + 6) (l_blk h h1R (by decide +kernel))
  (sn_sq (pm := 1155) (c1 := cs + 1) (s1 := ss + 6) (sn_ite (pt := 1153) (pf := 1155) (sc_no (l_cat h h1R (p1 := 1150) (tgt := 1155) (by decide +kernel) (by decide +kernel) (by decide)))
  (l_ret0z h.1 hF)
  (l_blk h h1R rfl))
  (sn_sq (pm := 1172) (c1 := cs + 1) (s1 := ss + 6) (sn_ite (pt := 1170) (pf := 1172) (sc_an (pm := 1160) (sc_no (l_cat h h1R (p1 := 1157) (tgt := 1172) (by decide +kernel) (by decide +kernel) (by decide))) (sc_no (l_cat h h1R (p1 := 1167) (tgt := 1172) (by decide +kernel) (by decide +kernel) (by decide))))
  (l_ret0z h.1 hF)
  (l_blk h h1R rfl))
  (sn_cnt (l_gotoW h (off := 400) (by decide +kernel) (by decide) (Nat.le_refl _) (Nat.le_refl _))))))))
def d_Law_c18 (T : Nat → Option (Nat × (Nat → Int32))) : Dn := (sq (blk (E_Law_law T) [.aload_n 1, .aload_n 0, .iload 4, .iconst 1, .iadd, .iaload, .aload_n 0, .iload 4, .iconst 2, .iadd, .iaload, .aload_n 3])
  (sq (calD 4 x_Law_whyNot)
  (sq (blk (E_Law_law T) [.istore 5, .aload_n 2, .aload_n 0, .iload 4, .iconst 1, .iadd, .iaload, .aload_n 0, .iload 4, .iconst 2, .iadd, .iaload, .invokevirtual 154, .istore 6])
  (sq (ite' (cno (cat (E_Law_law T) [.aload_n 2, .invokevirtual 91, .iload 5] (.if_icmp .eq 5)))
  (rtz (E_Law_law T) [.iconst 0])
  (blk (E_Law_law T) []))
  (sq (ite' (can (cno (cat (E_Law_law T) [.iload 5] (.ifCond .ne 15))) (cno (cat (E_Law_law T) [.aload_n 3, .iconst 0, .laload, .iload 6, .i2l, .lcmp] (.ifCond .eq 5))))
  (rtz (E_Law_law T) [.iconst 0])
  (blk (E_Law_law T) []))
  cnt)))))
set_option maxRecDepth 20000 in
theorem sn_Law_c18 (h : LC w p l e room_1 s m args below meth c Q code 9 "CoilSlitsLaw" (E_Law_law T)) (hF : ∀ g1, ¬ F (.inl (some (.int 0))) g1) (hKX : KX w s) (hw : zWok w) (hl : l.stackTraces = false) (h0R : cs ≤ room_1.cells ∧ ss ≤ room_1.slots) (h1R : cs + 1 ≤ room_1.cells ∧ ss + 6 ≤ room_1.slots) : Sn (zK w false p l e room_1 s m args below meth c Q 9) F (zK w false p l e room_1 s m args below meth c Q 9 (cs + 1) (ss + 6) 1578) (zK w false p l e room_1 s m args below meth c Q 9 (cs + 1) (ss + 6) 1572) cs ss 1175 (d_Law_c18 T) (cs + 1) (ss + 6) 1572 := by
  unfold d_Law_c18
  exact (sn_sq (pm := 1189) (c1 := cs) (s1 := ss) (l_blk h h0R (by decide +kernel))
  (sn_sq (pm := 1192) (c1 := cs + 1) (s1 := ss + 6) (sn_cal (i := .invokestatic 152) (nn := 4) (mc := 1) (ms := 6) (f := x_Law_whyNot) (cs := cs) (ss := ss) (call_SW h.1 hKX (ct_Law_whyNot w l hw hl) tw_779 tw_777 tw_0 tw_778 (by decide +kernel) ⟨Nat.le_of_ble_eq_true rfl, Nat.le_of_ble_eq_true rfl⟩) (by decide +kernel) h1R.1 h1R.2)
  (sn_sq (pm := 1212) (c1 := cs + 1) (s1 := ss + 6) (l_blk h h1R (by decide +kernel))
  (sn_sq (pm := 1223) (c1 := cs + 1) (s1 := ss + 6) (sn_ite (pt := 1221) (pf := 1223) (sc_no (l_cat h h1R (p1 := 1218) (tgt := 1223) (by decide +kernel) (by decide +kernel) (by decide)))
  (l_ret0z h.1 hF)
  (l_blk h h1R rfl))
  (sn_sq (pm := 1240) (c1 := cs + 1) (s1 := ss + 6) (sn_ite (pt := 1238) (pf := 1240) (sc_an (pm := 1228) (sc_no (l_cat h h1R (p1 := 1225) (tgt := 1240) (by decide +kernel) (by decide +kernel) (by decide))) (sc_no (l_cat h h1R (p1 := 1235) (tgt := 1240) (by decide +kernel) (by decide +kernel) (by decide))))
  (l_ret0z h.1 hF)
  (l_blk h h1R rfl))
  (sn_cnt (l_gotoW h (off := 332) (by decide +kernel) (by decide) (Nat.le_refl _) (Nat.le_refl _))))))))
def d_Law_c19 (T : Nat → Option (Nat × (Nat → Int32))) : Dn := (sq (blk (E_Law_law T) [.aload_n 1, .aload_n 0, .iload 4, .iconst 1, .iadd, .iaload, .aload_n 3])
  (sq (calD 3 x_Law_count)
  (sq (blk (E_Law_law T) [.istore 5, .aload_n 2, .aload_n 0, .iload 4, .iconst 1, .iadd, .iaload, .invokevirtual 157, .istore 6])
  (sq (ite' (cno (cat (E_Law_law T) [.aload_n 2, .invokevirtual 91, .iload 5] (.if_icmp .eq 5)))
  (rtz (E_Law_law T) [.iconst 0])
  (blk (E_Law_law T) []))
  (sq (ite' (can (cno (cat (E_Law_law T) [.iload 5] (.ifCond .ne 15))) (cno (cat (E_Law_law T) [.aload_n 3, .iconst 0, .laload, .iload 6, .i2l, .lcmp] (.ifCond .eq 5))))
  (rtz (E_Law_law T) [.iconst 0])
  (blk (E_Law_law T) []))
  cnt)))))
set_option maxRecDepth 20000 in
theorem sn_Law_c19 (h : LC w p l e room_1 s m args below meth c Q code 9 "CoilSlitsLaw" (E_Law_law T)) (hF : ∀ g1, ¬ F (.inl (some (.int 0))) g1) (hKX : KX w s) (hw : zWok w) (hl : l.stackTraces = false) (h0R : cs ≤ room_1.cells ∧ ss ≤ room_1.slots) (h1R : cs + 1 ≤ room_1.cells ∧ ss + 6 ≤ room_1.slots) : Sn (zK w false p l e room_1 s m args below meth c Q 9) F (zK w false p l e room_1 s m args below meth c Q 9 (cs + 1) (ss + 6) 1578) (zK w false p l e room_1 s m args below meth c Q 9 (cs + 1) (ss + 6) 1572) cs ss 1243 (d_Law_c19 T) (cs + 1) (ss + 6) 1572 := by
  unfold d_Law_c19
  exact (sn_sq (pm := 1251) (c1 := cs) (s1 := ss) (l_blk h h0R (by decide +kernel))
  (sn_sq (pm := 1254) (c1 := cs + 1) (s1 := ss + 6) (sn_cal (i := .invokestatic 155) (nn := 3) (mc := 1) (ms := 6) (f := x_Law_count) (cs := cs) (ss := ss) (call_SW h.1 hKX (ct_Law_count w l hw hl) tw_786 tw_784 tw_0 tw_785 (by decide +kernel) ⟨Nat.le_of_ble_eq_true rfl, Nat.le_of_ble_eq_true rfl⟩) (by decide +kernel) h1R.1 h1R.2)
  (sn_sq (pm := 1268) (c1 := cs + 1) (s1 := ss + 6) (l_blk h h1R (by decide +kernel))
  (sn_sq (pm := 1279) (c1 := cs + 1) (s1 := ss + 6) (sn_ite (pt := 1277) (pf := 1279) (sc_no (l_cat h h1R (p1 := 1274) (tgt := 1279) (by decide +kernel) (by decide +kernel) (by decide)))
  (l_ret0z h.1 hF)
  (l_blk h h1R rfl))
  (sn_sq (pm := 1296) (c1 := cs + 1) (s1 := ss + 6) (sn_ite (pt := 1294) (pf := 1296) (sc_an (pm := 1284) (sc_no (l_cat h h1R (p1 := 1281) (tgt := 1296) (by decide +kernel) (by decide +kernel) (by decide))) (sc_no (l_cat h h1R (p1 := 1291) (tgt := 1296) (by decide +kernel) (by decide +kernel) (by decide))))
  (l_ret0z h.1 hF)
  (l_blk h h1R rfl))
  (sn_cnt (l_gotoW h (off := 276) (by decide +kernel) (by decide) (Nat.le_refl _) (Nat.le_refl _))))))))
def d_Law_c20 (T : Nat → Option (Nat × (Nat → Int32))) : Dn := (sq (blk (E_Law_law T) [.aload_n 1, .aload_n 0, .iload 4, .iconst 1, .iadd, .iaload, .aload_n 3])
  (sq (calD 3 x_Law_setting)
  (sq (blk (E_Law_law T) [.istore 5, .aload_n 2, .aload_n 0, .iload 4, .iconst 1, .iadd, .iaload, .invokevirtual 160, .istore 6])
  (sq (ite' (cno (cat (E_Law_law T) [.aload_n 2, .invokevirtual 91, .iload 5] (.if_icmp .eq 5)))
  (rtz (E_Law_law T) [.iconst 0])
  (blk (E_Law_law T) []))
  (sq (ite' (can (cno (cat (E_Law_law T) [.iload 5] (.ifCond .ne 15))) (cno (cat (E_Law_law T) [.aload_n 3, .iconst 0, .laload, .iload 6, .i2l, .lcmp] (.ifCond .eq 5))))
  (rtz (E_Law_law T) [.iconst 0])
  (blk (E_Law_law T) []))
  cnt)))))
set_option maxRecDepth 20000 in
theorem sn_Law_c20 (h : LC w p l e room_1 s m args below meth c Q code 9 "CoilSlitsLaw" (E_Law_law T)) (hF : ∀ g1, ¬ F (.inl (some (.int 0))) g1) (hKX : KX w s) (hw : zWok w) (hl : l.stackTraces = false) (h0R : cs ≤ room_1.cells ∧ ss ≤ room_1.slots) (h1R : cs + 1 ≤ room_1.cells ∧ ss + 6 ≤ room_1.slots) : Sn (zK w false p l e room_1 s m args below meth c Q 9) F (zK w false p l e room_1 s m args below meth c Q 9 (cs + 1) (ss + 6) 1578) (zK w false p l e room_1 s m args below meth c Q 9 (cs + 1) (ss + 6) 1572) cs ss 1299 (d_Law_c20 T) (cs + 1) (ss + 6) 1572 := by
  unfold d_Law_c20
  exact (sn_sq (pm := 1307) (c1 := cs) (s1 := ss) (l_blk h h0R (by decide +kernel))
  (sn_sq (pm := 1310) (c1 := cs + 1) (s1 := ss + 6) (sn_cal (i := .invokestatic 158) (nn := 3) (mc := 1) (ms := 6) (f := x_Law_setting) (cs := cs) (ss := ss) (call_SW h.1 hKX (ct_Law_setting w l hw hl) tw_794 tw_792 tw_0 tw_793 (by decide +kernel) ⟨Nat.le_of_ble_eq_true rfl, Nat.le_of_ble_eq_true rfl⟩) (by decide +kernel) h1R.1 h1R.2)
  (sn_sq (pm := 1324) (c1 := cs + 1) (s1 := ss + 6) (l_blk h h1R (by decide +kernel))
  (sn_sq (pm := 1335) (c1 := cs + 1) (s1 := ss + 6) (sn_ite (pt := 1333) (pf := 1335) (sc_no (l_cat h h1R (p1 := 1330) (tgt := 1335) (by decide +kernel) (by decide +kernel) (by decide)))
  (l_ret0z h.1 hF)
  (l_blk h h1R rfl))
  (sn_sq (pm := 1352) (c1 := cs + 1) (s1 := ss + 6) (sn_ite (pt := 1350) (pf := 1352) (sc_an (pm := 1340) (sc_no (l_cat h h1R (p1 := 1337) (tgt := 1352) (by decide +kernel) (by decide +kernel) (by decide))) (sc_no (l_cat h h1R (p1 := 1347) (tgt := 1352) (by decide +kernel) (by decide +kernel) (by decide))))
  (l_ret0z h.1 hF)
  (l_blk h h1R rfl))
  (sn_cnt (l_gotoW h (off := 220) (by decide +kernel) (by decide) (Nat.le_refl _) (Nat.le_refl _))))))))
def d_Law_c21 (T : Nat → Option (Nat × (Nat → Int32))) : Dn := (sq (blk (E_Law_law T) [.aload_n 1, .aload_n 0, .iload 4, .iconst 1, .iadd, .iaload, .aload_n 3])
  (sq (calD 3 x_Law_choice)
  (sq (blk (E_Law_law T) [.istore 5, .aload_n 2, .aload_n 0, .iload 4, .iconst 1, .iadd, .iaload, .invokevirtual 163, .istore 6])
  (sq (ite' (cno (cat (E_Law_law T) [.aload_n 2, .invokevirtual 91, .iload 5] (.if_icmp .eq 5)))
  (rtz (E_Law_law T) [.iconst 0])
  (blk (E_Law_law T) []))
  (sq (ite' (can (cno (cat (E_Law_law T) [.iload 5] (.ifCond .ne 15))) (cno (cat (E_Law_law T) [.aload_n 3, .iconst 0, .laload, .iload 6, .i2l, .lcmp] (.ifCond .eq 5))))
  (rtz (E_Law_law T) [.iconst 0])
  (blk (E_Law_law T) []))
  cnt)))))
set_option maxRecDepth 20000 in
theorem sn_Law_c21 (h : LC w p l e room_1 s m args below meth c Q code 9 "CoilSlitsLaw" (E_Law_law T)) (hF : ∀ g1, ¬ F (.inl (some (.int 0))) g1) (hKX : KX w s) (hw : zWok w) (hl : l.stackTraces = false) (h0R : cs ≤ room_1.cells ∧ ss ≤ room_1.slots) (h1R : cs + 1 ≤ room_1.cells ∧ ss + 6 ≤ room_1.slots) : Sn (zK w false p l e room_1 s m args below meth c Q 9) F (zK w false p l e room_1 s m args below meth c Q 9 (cs + 1) (ss + 6) 1578) (zK w false p l e room_1 s m args below meth c Q 9 (cs + 1) (ss + 6) 1572) cs ss 1355 (d_Law_c21 T) (cs + 1) (ss + 6) 1572 := by
  unfold d_Law_c21
  exact (sn_sq (pm := 1363) (c1 := cs) (s1 := ss) (l_blk h h0R (by decide +kernel))
  (sn_sq (pm := 1366) (c1 := cs + 1) (s1 := ss + 6) (sn_cal (i := .invokestatic 161) (nn := 3) (mc := 1) (ms := 6) (f := x_Law_choice) (cs := cs) (ss := ss) (call_SW h.1 hKX (ct_Law_choice w l hw hl) tw_801 tw_799 tw_0 tw_800 (by decide +kernel) ⟨Nat.le_of_ble_eq_true rfl, Nat.le_of_ble_eq_true rfl⟩) (by decide +kernel) h1R.1 h1R.2)
  (sn_sq (pm := 1380) (c1 := cs + 1) (s1 := ss + 6) (l_blk h h1R (by decide +kernel))
  (sn_sq (pm := 1391) (c1 := cs + 1) (s1 := ss + 6) (sn_ite (pt := 1389) (pf := 1391) (sc_no (l_cat h h1R (p1 := 1386) (tgt := 1391) (by decide +kernel) (by decide +kernel) (by decide)))
  (l_ret0z h.1 hF)
  (l_blk h h1R rfl))
  (sn_sq (pm := 1408) (c1 := cs + 1) (s1 := ss + 6) (sn_ite (pt := 1406) (pf := 1408) (sc_an (pm := 1396) (sc_no (l_cat h h1R (p1 := 1393) (tgt := 1408) (by decide +kernel) (by decide +kernel) (by decide))) (sc_no (l_cat h h1R (p1 := 1403) (tgt := 1408) (by decide +kernel) (by decide +kernel) (by decide))))
  (l_ret0z h.1 hF)
  (l_blk h h1R rfl))
  (sn_cnt (l_gotoW h (off := 164) (by decide +kernel) (by decide) (Nat.le_refl _) (Nat.le_refl _))))))))
def d_Law_c22 (T : Nat → Option (Nat × (Nat → Int32))) : Dn := (sq (blk (E_Law_law T) [.aload_n 1, .aload_n 0, .iload 4, .iconst 1, .iadd, .iaload, .aload_n 0, .iload 4, .iconst 2, .iadd, .iaload, .aload_n 0, .iload 4, .iconst 3, .iadd, .iaload, .aload_n 3])
  (sq (calD 5 x_Law_ifServed)
  (sq (blk (E_Law_law T) [.istore 5, .aload_n 2, .aload_n 0, .iload 4, .iconst 1, .iadd, .iaload, .aload_n 0, .iload 4, .iconst 2, .iadd, .iaload, .aload_n 0, .iload 4, .iconst 3, .iadd, .iaload, .invokevirtual 167, .istore 6])
  (sq (ite' (cno (cat (E_Law_law T) [.aload_n 2, .invokevirtual 91, .iload 5] (.if_icmp .eq 5)))
  (rtz (E_Law_law T) [.iconst 0])
  (blk (E_Law_law T) []))
  (sq (ite' (can (cno (cat (E_Law_law T) [.iload 5] (.ifCond .ne 15))) (cno (cat (E_Law_law T) [.aload_n 3, .iconst 0, .laload, .iload 6, .i2l, .lcmp] (.ifCond .eq 5))))
  (rtz (E_Law_law T) [.iconst 0])
  (blk (E_Law_law T) []))
  cnt)))))
set_option maxRecDepth 20000 in
theorem sn_Law_c22 (h : LC w p l e room_1 s m args below meth c Q code 9 "CoilSlitsLaw" (E_Law_law T)) (hF : ∀ g1, ¬ F (.inl (some (.int 0))) g1) (hKX : KX w s) (hw : zWok w) (hl : l.stackTraces = false) (h0R : cs ≤ room_1.cells ∧ ss ≤ room_1.slots) (h1R : cs + 1 ≤ room_1.cells ∧ ss + 6 ≤ room_1.slots) : Sn (zK w false p l e room_1 s m args below meth c Q 9) F (zK w false p l e room_1 s m args below meth c Q 9 (cs + 1) (ss + 6) 1578) (zK w false p l e room_1 s m args below meth c Q 9 (cs + 1) (ss + 6) 1572) cs ss 1411 (d_Law_c22 T) (cs + 1) (ss + 6) 1572 := by
  unfold d_Law_c22
  exact (sn_sq (pm := 1431) (c1 := cs) (s1 := ss) (l_blk h h0R (by decide +kernel))
  (sn_sq (pm := 1434) (c1 := cs + 1) (s1 := ss + 6) (sn_cal (i := .invokestatic 164) (nn := 5) (mc := 1) (ms := 6) (f := x_Law_ifServed) (cs := cs) (ss := ss) (call_SW h.1 hKX (ct_Law_ifServed w l hw hl) tw_808 tw_806 tw_0 tw_807 (by decide +kernel) ⟨Nat.le_of_ble_eq_true rfl, Nat.le_of_ble_eq_true rfl⟩) (by decide +kernel) h1R.1 h1R.2)
  (sn_sq (pm := 1460) (c1 := cs + 1) (s1 := ss + 6) (l_blk h h1R (by decide +kernel))
  (sn_sq (pm := 1471) (c1 := cs + 1) (s1 := ss + 6) (sn_ite (pt := 1469) (pf := 1471) (sc_no (l_cat h h1R (p1 := 1466) (tgt := 1471) (by decide +kernel) (by decide +kernel) (by decide)))
  (l_ret0z h.1 hF)
  (l_blk h h1R rfl))
  (sn_sq (pm := 1488) (c1 := cs + 1) (s1 := ss + 6) (sn_ite (pt := 1486) (pf := 1488) (sc_an (pm := 1476) (sc_no (l_cat h h1R (p1 := 1473) (tgt := 1488) (by decide +kernel) (by decide +kernel) (by decide))) (sc_no (l_cat h h1R (p1 := 1483) (tgt := 1488) (by decide +kernel) (by decide +kernel) (by decide))))
  (l_ret0z h.1 hF)
  (l_blk h h1R rfl))
  (sn_cnt (l_gotoW h (off := 84) (by decide +kernel) (by decide) (Nat.le_refl _) (Nat.le_refl _))))))))
def d_Law_c23 (T : Nat → Option (Nat × (Nat → Int32))) : Dn := (ite' (cno (cat (E_Law_law T) [.aload_n 1, .invokevirtual 168, .aload_n 2, .invokevirtual 171] (.if_icmp .eq 73)))
  (rtz (E_Law_law T) [.iconst 0])
  (blk (E_Law_law T) []))
set_option maxRecDepth 20000 in
theorem sn_Law_c23 (h : LC w p l e room_1 s m args below meth c Q code 9 "CoilSlitsLaw" (E_Law_law T)) (hF : ∀ g1, ¬ F (.inl (some (.int 0))) g1) (hKX : KX w s) (hw : zWok w) (hl : l.stackTraces = false) (h0R : cs ≤ room_1.cells ∧ ss ≤ room_1.slots) (h1R : cs + 1 ≤ room_1.cells ∧ ss + 6 ≤ room_1.slots) : Sn (zK w false p l e room_1 s m args below meth c Q 9) F (zK w false p l e room_1 s m args below meth c Q 9 (cs + 1) (ss + 6) 1578) (zK w false p l e room_1 s m args below meth c Q 9 (cs + 1) (ss + 6) 1572) cs ss 1491 (d_Law_c23 T) (cs + 1) (ss + 6) 1572 := by
  unfold d_Law_c23
  exact (l_wide (c1 := cs) (s1 := ss) (c2 := cs + 1) (s2 := ss + 6) (Nat.le_add_right _ _) (Nat.le_add_right _ _) (sn_ite (pt := 1502) (pf := 1572) (sc_no (l_cat h h0R (p1 := 1499) (tgt := 1572) (by decide +kernel) (by decide +kernel) (by decide)))
  (l_ret0z h.1 hF)
  (l_blk h h0R rfl)))
def d_Law_c24 (T : Nat → Option (Nat × (Nat → Int32))) : Dn := (ite' (cno (cat (E_Law_law T) [.aload_n 1, .invokevirtual 172, .aload_n 2, .invokevirtual 175] (.if_icmp .eq 60)))
  (rtz (E_Law_law T) [.iconst 0])
  (blk (E_Law_law T) []))
set_option maxRecDepth 20000 in
theorem sn_Law_c24 (h : LC w p l e room_1 s m args below meth c Q code 9 "CoilSlitsLaw" (E_Law_law T)) (hF : ∀ g1, ¬ F (.inl (some (.int 0))) g1) (hKX : KX w s) (hw : zWok w) (hl : l.stackTraces = false) (h0R : cs ≤ room_1.cells ∧ ss ≤ room_1.slots) (h1R : cs + 1 ≤ room_1.cells ∧ ss + 6 ≤ room_1.slots) : Sn (zK w false p l e room_1 s m args below meth c Q 9) F (zK w false p l e room_1 s m args below meth c Q 9 (cs + 1) (ss + 6) 1578) (zK w false p l e room_1 s m args below meth c Q 9 (cs + 1) (ss + 6) 1572) cs ss 1504 (d_Law_c24 T) (cs + 1) (ss + 6) 1572 := by
  unfold d_Law_c24
  exact (l_wide (c1 := cs) (s1 := ss) (c2 := cs + 1) (s2 := ss + 6) (Nat.le_add_right _ _) (Nat.le_add_right _ _) (sn_ite (pt := 1515) (pf := 1572) (sc_no (l_cat h h0R (p1 := 1512) (tgt := 1572) (by decide +kernel) (by decide +kernel) (by decide)))
  (l_ret0z h.1 hF)
  (l_blk h h0R rfl)))
def d_Law_c25 (T : Nat → Option (Nat × (Nat → Int32))) : Dn := (sq (blk (E_Law_law T) [.aload_n 1, .invokevirtual 176, .dstore 5, .aload_n 2, .invokevirtual 180, .dstore 7])
  (sq (ite' (can (cno (cat (E_Law_law T) [.dload 5, .dload 7, .dcmp .l] (.ifCond .eq 21))) (cor (cat (E_Law_law T) [.dload 5, .dload 5, .dcmp .l] (.ifCond .eq 11)) (cno (cat (E_Law_law T) [.dload 7, .dload 7, .dcmp .l] (.ifCond .ne 5)))))
  (rtz (E_Law_law T) [.iconst 0])
  (blk (E_Law_law T) []))
  cnt))
set_option maxRecDepth 20000 in
theorem sn_Law_c25 (h : LC w p l e room_1 s m args below meth c Q code 9 "CoilSlitsLaw" (E_Law_law T)) (hF : ∀ g1, ¬ F (.inl (some (.int 0))) g1) (hKX : KX w s) (hw : zWok w) (hl : l.stackTraces = false) (h0R : cs ≤ room_1.cells ∧ ss ≤ room_1.slots) (h1R : cs + 1 ≤ room_1.cells ∧ ss + 6 ≤ room_1.slots) : Sn (zK w false p l e room_1 s m args below meth c Q 9) F (zK w false p l e room_1 s m args below meth c Q 9 (cs + 1) (ss + 6) 1578) (zK w false p l e room_1 s m args below meth c Q 9 (cs + 1) (ss + 6) 1572) cs ss 1517 (d_Law_c25 T) (cs + 1) (ss + 6) 1572 := by
  unfold d_Law_c25
  exact (l_wide (c1 := cs) (s1 := ss) (c2 := cs + 1) (s2 := ss + 6) (Nat.le_add_right _ _) (Nat.le_add_right _ _) (sn_sq (pm := 1529) (c1 := cs) (s1 := ss) (l_blk h h0R (by decide +kernel))
  (sn_sq (pm := 1555) (c1 := cs) (s1 := ss) (sn_ite (pt := 1553) (pf := 1555) (sc_an (pm := 1537) (sc_no (l_cat h h0R (p1 := 1534) (tgt := 1555) (by decide +kernel) (by decide +kernel) (by decide))) (sc_or (pm := 1545) (l_cat h h0R (p1 := 1542) (tgt := 1553) (by decide +kernel) (by decide +kernel) (by decide)) (sc_no (l_cat h h0R (p1 := 1550) (tgt := 1555) (by decide +kernel) (by decide +kernel) (by decide)))))
  (l_ret0z h.1 hF)
  (l_blk h h0R rfl))
  (sn_cnt (l_gotoW h (off := 17) (by decide +kernel) (by decide) (Nat.le_add_right _ _) (Nat.le_add_right _ _))))))
def d_Law_c26 (T : Nat → Option (Nat × (Nat → Int32))) : Dn := (ite' (cno (cat (E_Law_law T) [.aload_n 1, .invokevirtual 181, .aload_n 2, .invokevirtual 185, .lcmp] (.ifCond .eq 5)))
  (rtz (E_Law_law T) [.iconst 0])
  (blk (E_Law_law T) []))
set_option maxRecDepth 20000 in
theorem sn_Law_c26 (h : LC w p l e room_1 s m args below meth c Q code 9 "CoilSlitsLaw" (E_Law_law T)) (hF : ∀ g1, ¬ F (.inl (some (.int 0))) g1) (hKX : KX w s) (hw : zWok w) (hl : l.stackTraces = false) (h0R : cs ≤ room_1.cells ∧ ss ≤ room_1.slots) (h1R : cs + 1 ≤ room_1.cells ∧ ss + 6 ≤ room_1.slots) : Sn (zK w false p l e room_1 s m args below meth c Q 9) F (zK w false p l e room_1 s m args below meth c Q 9 (cs + 1) (ss + 6) 1578) (zK w false p l e room_1 s m args below meth c Q 9 (cs + 1) (ss + 6) 1572) cs ss 1558 (d_Law_c26 T) (cs + 1) (ss + 6) 1572 := by
  unfold d_Law_c26
  exact (l_wide (c1 := cs) (s1 := ss) (c2 := cs + 1) (s2 := ss + 6) (Nat.le_add_right _ _) (Nat.le_add_right _ _) (sn_ite (pt := 1570) (pf := 1572) (sc_no (l_cat h h0R (p1 := 1567) (tgt := 1572) (by decide +kernel) (by decide +kernel) (by decide)))
  (l_ret0z h.1 hF)
  (l_blk h h0R rfl)))
def d_Law_body (T : Nat → Option (Nat × (Nat → Int32))) : Dn := (swi (E_Law_law T) [.aload_n 0, .iload 4, .iaload, .bipush 31, .iand] [(0, d_Law_c0 T), (1, d_Law_c1 T), (2, d_Law_c2 T), (3, d_Law_c3 T), (4, d_Law_c4 T), (5, d_Law_c5 T), (6, d_Law_c6 T), (7, d_Law_c7 T), (8, d_Law_c8 T), (9, d_Law_c9 T), (10, d_Law_c10 T), (11, d_Law_c11 T), (12, d_Law_c12 T), (13, d_Law_c13 T), (14, d_Law_c14 T), (15, d_Law_c15 T), (16, d_Law_c16 T), (17, d_Law_c17 T), (18, d_Law_c18 T), (19, d_Law_c19 T), (20, d_Law_c20 T), (21, d_Law_c21 T), (22, d_Law_c22 T), (23, d_Law_c23 T), (24, d_Law_c24 T), (25, d_Law_c25 T), (26, d_Law_c26 T)]
  (blk (E_Law_law T) []))
set_option maxRecDepth 20000 in
theorem sn_Law_body (h : LC w p l e room_1 s m args below meth c Q code 9 "CoilSlitsLaw" (E_Law_law T)) (hF : ∀ g1, ¬ F (.inl (some (.int 0))) g1) (hKX : KX w s) (hw : zWok w) (hl : l.stackTraces = false) (h0R : cs ≤ room_1.cells ∧ ss ≤ room_1.slots) (h1R : cs + 1 ≤ room_1.cells ∧ ss + 6 ≤ room_1.slots) : Sn (zK w false p l e room_1 s m args below meth c Q 9) F (zK w false p l e room_1 s m args below meth c Q 9 (cs + 1) (ss + 6) 1578) (zK w false p l e room_1 s m args below meth c Q 9 (cs + 1) (ss + 6) 1572) cs ss 33 (d_Law_body T) (cs + 1) (ss + 6) 1572 := by
  unfold d_Law_body
  exact (l_sw h h0R (p1 := 40) (pd := 1572) [(0, 164), (1, 256), (2, 324), (3, 380), (4, 436), (5, 540), (6, 596), (7, 664), (8, 720), (9, 733), (10, 801), (11, 857), (12, 870), (13, 883), (14, 927), (15, 971), (16, 1039), (17, 1107), (18, 1175), (19, 1243), (20, 1299), (21, 1355), (22, 1411), (23, 1491), (24, 1504), (25, 1517), (26, 1558)] (by decide +kernel) (by decide +kernel)
  (swl_cons (sn_Law_c0 h hF hKX hw hl h0R h1R)
  (swl_cons (sn_Law_c1 h hF hKX hw hl h0R h1R)
  (swl_cons (sn_Law_c2 h hF hKX hw hl h0R h1R)
  (swl_cons (sn_Law_c3 h hF hKX hw hl h0R h1R)
  (swl_cons (sn_Law_c4 h hF hKX hw hl h0R h1R)
  (swl_cons (sn_Law_c5 h hF hKX hw hl h0R h1R)
  (swl_cons (sn_Law_c6 h hF hKX hw hl h0R h1R)
  (swl_cons (sn_Law_c7 h hF hKX hw hl h0R h1R)
  (swl_cons (sn_Law_c8 h hF hKX hw hl h0R h1R)
  (swl_cons (sn_Law_c9 h hF hKX hw hl h0R h1R)
  (swl_cons (sn_Law_c10 h hF hKX hw hl h0R h1R)
  (swl_cons (sn_Law_c11 h hF hKX hw hl h0R h1R)
  (swl_cons (sn_Law_c12 h hF hKX hw hl h0R h1R)
  (swl_cons (sn_Law_c13 h hF hKX hw hl h0R h1R)
  (swl_cons (sn_Law_c14 h hF hKX hw hl h0R h1R)
  (swl_cons (sn_Law_c15 h hF hKX hw hl h0R h1R)
  (swl_cons (sn_Law_c16 h hF hKX hw hl h0R h1R)
  (swl_cons (sn_Law_c17 h hF hKX hw hl h0R h1R)
  (swl_cons (sn_Law_c18 h hF hKX hw hl h0R h1R)
  (swl_cons (sn_Law_c19 h hF hKX hw hl h0R h1R)
  (swl_cons (sn_Law_c20 h hF hKX hw hl h0R h1R)
  (swl_cons (sn_Law_c21 h hF hKX hw hl h0R h1R)
  (swl_cons (sn_Law_c22 h hF hKX hw hl h0R h1R)
  (swl_cons (sn_Law_c23 h hF hKX hw hl h0R h1R)
  (swl_cons (sn_Law_c24 h hF hKX hw hl h0R h1R)
  (swl_cons (sn_Law_c25 h hF hKX hw hl h0R h1R)
  (swl_cons (sn_Law_c26 h hF hKX hw hl h0R h1R)
  swl_nil)))))))))))))))))))))))))))
  (l_wide (c1 := cs) (s1 := ss) (c2 := cs + 1) (s2 := ss + 6) (Nat.le_add_right _ _) (Nat.le_add_right _ _) (l_blk h h0R rfl)))
def c_Law (T : Nat → Option (Nat × (Nat → Int32))) : Cn := (cfo [5, 6, 7] (cno (cat (E_Law_law T) [.iload 4, .aload_n 0, .arraylength, .bipush 6, .isub] (.if_icmp .gt 1548))))
def u_Law (T : Nat → Option (Nat × (Nat → Int32))) : Dn := (blk (E_Law_law T) [.iinc 4 6])
theorem sn_Law_loop (h : LC w p l e room_1 s m args below meth c Q code 9 "CoilSlitsLaw" (E_Law_law T)) (hF : ∀ g1, ¬ F (.inl (some (.int 0))) g1) (hKX : KX w s) (hw : zWok w) (hl : l.stackTraces = false) {kb kc : St → Prop} (N : Nat) (h1 : cs + 1 * N ≤ room_1.cells) (h2 : ss + 6 * N ≤ room_1.slots) : Sn (zK w false p l e room_1 s m args below meth c Q 9) F kb kc cs ss 23 (lop (c_Law T) (d_Law_body T) (u_Law T) N) (cs + 1 * N) (ss + 6 * N) 1578 :=
  sn_lopA (C1 := room_1.cells) (S1 := room_1.slots) (pt := 33) (pu := 1572) (p2 := 1575) (fun cs ss a1 a2 => by
    have h0R : cs ≤ room_1.cells ∧ ss ≤ room_1.slots := ⟨a1, a2⟩
    unfold c_Law
    exact (sc_fo m_fo (sc_no (l_cat h h0R (p1 := 30) (tgt := 1578) (by decide +kernel) (by decide +kernel) (by decide))))) (fun cs ss a1 a2 => sn_Law_body h hF hKX hw hl ⟨Nat.le_trans (Nat.le_add_right _ _) a1, Nat.le_trans (Nat.le_add_right _ _) a2⟩ ⟨a1, a2⟩) (fun cs ss a1 a2 => l_blk h ⟨a1, a2⟩ (by decide +kernel)) (fun cs ss st k => l_goto h (off := (-1552)) (by decide +kernel) (by decide) st k) N cs ss h1 h2
def d_Law_pre (T : Nat → Option (Nat × (Nat → Int32))) : Dn := (sq (newO 5)
  (sq (blk (E_Law_law T) [.dup])
  (sq (calD 1 x_Slit_init)
  (sq (blk (E_Law_law T) [.astore_n 1])
  (sq (newO 6)
  (sq (blk (E_Law_law T) [.dup])
  (sq (calD 1 x_Mod_init)
  (sq (blk (E_Law_law T) [.astore_n 2, .iconst 1])
  (sq (newJ 1)
  (blk (E_Law_law T) [.astore_n 3, .iconst 0, .istore 4]))))))))))
theorem sn_Law_pre (h : LC w p l e room_1 s m args below meth c Q code 9 "CoilSlitsLaw" (E_Law_law T)) (hw : zWok w) {kb kc : St → Prop} : Sn (zK w false p l e room_1 s m args below meth c Q 9) F kb kc 0 0 0 (d_Law_pre T) 101 5941 23 := by
  unfold d_Law_pre
  exact (sn_sq (pm := 3) (c1 := 1) (s1 := 6) (sn_newO (cs := 0) (ss := 0) h.1 (by decide +kernel) (Nat.le_of_ble_eq_true rfl) rfl rfl tw_17 tw_18 tw_1 (Nat.le_of_ble_eq_true rfl) (Nat.le_of_ble_eq_true rfl))
  (sn_sq (pm := 4) (c1 := 1) (s1 := 6) (l_blk h ⟨Nat.le_of_ble_eq_true rfl, Nat.le_of_ble_eq_true rfl⟩ (by decide +kernel))
  (sn_sq (pm := 7) (c1 := 94) (s1 := 4041) (sn_cal (i := .invokespecial 81) (nn := 1) (mc := 93) (ms := 4035) (f := x_Slit_init) (cs := 1) (ss := 6) (call_I h.1 (ct_Slit_init w l hw) rfl tw_21 tw_19 tw_1 tw_20 (by decide +kernel) ⟨Nat.le_of_ble_eq_true rfl, Nat.le_of_ble_eq_true rfl⟩) (by decide +kernel) (Nat.le_of_ble_eq_true rfl) (Nat.le_of_ble_eq_true rfl))
  (sn_sq (pm := 8) (c1 := 94) (s1 := 4041) (l_blk h ⟨Nat.le_of_ble_eq_true rfl, Nat.le_of_ble_eq_true rfl⟩ (by decide +kernel))
  (sn_sq (pm := 11) (c1 := 95) (s1 := 4052) (sn_newO (cs := 94) (ss := 4041) h.1 (by decide +kernel) (Nat.le_of_ble_eq_true rfl) rfl rfl tw_814 tw_815 tw_8 (Nat.le_of_ble_eq_true rfl) (Nat.le_of_ble_eq_true rfl))
  (sn_sq (pm := 12) (c1 := 95) (s1 := 4052) (l_blk h ⟨Nat.le_of_ble_eq_true rfl, Nat.le_of_ble_eq_true rfl⟩ (by decide +kernel))
  (sn_sq (pm := 15) (c1 := 100) (s1 := 5940) (sn_cal (i := .invokespecial 84) (nn := 1) (mc := 5) (ms := 1888) (f := x_Mod_init) (cs := 95) (ss := 4052) (call_I h.1 (ct_Mod_init w l hw) rfl tw_818 tw_816 tw_8 tw_817 (by decide +kernel) ⟨Nat.le_of_ble_eq_true rfl, Nat.le_of_ble_eq_true rfl⟩) (by decide +kernel) (Nat.le_of_ble_eq_true rfl) (Nat.le_of_ble_eq_true rfl))
  (sn_sq (pm := 17) (c1 := 100) (s1 := 5940) (l_blk h ⟨Nat.le_of_ble_eq_true rfl, Nat.le_of_ble_eq_true rfl⟩ (by decide +kernel))
  (sn_sq (pm := 19) (c1 := 101) (s1 := 5941) (sn_newJ (N := 1) (cs := 100) (ss := 5940) h.1 (by decide +kernel) tw_1148 (by decide) (Nat.le_of_ble_eq_true rfl) (Nat.le_of_ble_eq_true rfl))
  (l_blk h ⟨Nat.le_of_ble_eq_true rfl, Nat.le_of_ble_eq_true rfl⟩ (by decide +kernel)))))))))))
set_option maxRecDepth 20000 in
theorem eo_Law (hw : zWok w) (hT : ∀ k a, T k = some a → w.2.2.2.2 k = some a) (cx : CX w p s m args c code 9 "CoilSlitsLaw") : EnvOk w false p l e room_1 s m args below meth c Q code 9 "CoilSlitsLaw" (E_Law_law T) :=
  ⟨rfl, fun q hq => absurd hq List.not_mem_nil, fun q hq => absurd hq List.not_mem_nil, fun q hq => absurd hq List.not_mem_nil, hT, fun h => absurd h Bool.false_ne_true,
  List.forall_mem_cons.mpr ⟨call_V cx (ct_Mod_receive w l hw) tw_869 tw_866 tw_8 tw_867 tw_868 (ci := 6) (Nat.le_of_ble_eq_true rfl) rfl (by decide +kernel) ⟨Nat.le_of_ble_eq_true rfl, Nat.le_of_ble_eq_true rfl⟩, List.forall_mem_cons.mpr ⟨call_V cx (ct_Mod_thrown w l hw) tw_857 tw_854 tw_8 tw_855 tw_856 (ci := 6) (Nat.le_of_ble_eq_true rfl) rfl (by decide +kernel) ⟨Nat.le_of_ble_eq_true rfl, Nat.le_of_ble_eq_true rfl⟩, List.forall_mem_cons.mpr ⟨call_V cx (ct_Mod_move w l hw) tw_890 tw_887 tw_8 tw_888 tw_889 (ci := 6) (Nat.le_of_ble_eq_true rfl) rfl (by decide +kernel) ⟨Nat.le_of_ble_eq_true rfl, Nat.le_of_ble_eq_true rfl⟩, List.forall_mem_cons.mpr ⟨call_V cx (ct_Mod_dig w l hw) tw_906 tw_903 tw_8 tw_904 tw_905 (ci := 6) (Nat.le_of_ble_eq_true rfl) rfl (by decide +kernel) ⟨Nat.le_of_ble_eq_true rfl, Nat.le_of_ble_eq_true rfl⟩, List.forall_mem_cons.mpr ⟨call_V cx (ct_Mod_sendAway w l hw) tw_932 tw_929 tw_8 tw_930 tw_931 (ci := 6) (Nat.le_of_ble_eq_true rfl) rfl (by decide +kernel) ⟨Nat.le_of_ble_eq_true rfl, Nat.le_of_ble_eq_true rfl⟩, List.forall_mem_cons.mpr ⟨call_V cx (ct_Mod_order w l hw) tw_936 tw_933 tw_8 tw_934 tw_935 (ci := 6) (Nat.le_of_ble_eq_true rfl) rfl (by decide +kernel) ⟨Nat.le_of_ble_eq_true rfl, Nat.le_of_ble_eq_true rfl⟩, List.forall_mem_cons.mpr ⟨call_V cx (ct_Mod_cancel w l hw) tw_940 tw_937 tw_8 tw_938 tw_939 (ci := 6) (Nat.le_of_ble_eq_true rfl) rfl (by decide +kernel) ⟨Nat.le_of_ble_eq_true rfl, Nat.le_of_ble_eq_true rfl⟩, List.forall_mem_cons.mpr ⟨call_V cx (ct_Mod_slit w l hw) tw_953 tw_950 tw_8 tw_951 tw_952 (ci := 6) (Nat.le_of_ble_eq_true rfl) rfl (by decide +kernel) ⟨Nat.le_of_ble_eq_true rfl, Nat.le_of_ble_eq_true rfl⟩, List.forall_mem_cons.mpr ⟨call_V cx (ct_Mod_serve w l hw) tw_972 tw_969 tw_8 tw_970 tw_971 (ci := 6) (Nat.le_of_ble_eq_true rfl) rfl (by decide +kernel) ⟨Nat.le_of_ble_eq_true rfl, Nat.le_of_ble_eq_true rfl⟩, List.forall_mem_cons.mpr ⟨call_V cx (ct_Slit_serveAll w l hw) tw_159 tw_156 tw_1 tw_157 tw_158 (ci := 5) (Nat.le_of_ble_eq_true rfl) rfl (by decide +kernel) ⟨Nat.le_of_ble_eq_true rfl, Nat.le_of_ble_eq_true rfl⟩, List.forall_mem_cons.mpr ⟨call_V cx (ct_Mod_serveAll w l hw) tw_982 tw_979 tw_8 tw_980 tw_981 (ci := 6) (Nat.le_of_ble_eq_true rfl) rfl (by decide +kernel) ⟨Nat.le_of_ble_eq_true rfl, Nat.le_of_ble_eq_true rfl⟩, List.forall_mem_cons.mpr ⟨call_V cx (ct_Mod_set w l hw) tw_992 tw_989 tw_8 tw_990 tw_991 (ci := 6) (Nat.le_of_ble_eq_true rfl) rfl (by decide +kernel) ⟨Nat.le_of_ble_eq_true rfl, Nat.le_of_ble_eq_true rfl⟩, List.forall_mem_cons.mpr ⟨call_V cx (ct_Mod_append w l hw) tw_999 tw_996 tw_8 tw_997 tw_998 (ci := 6) (Nat.le_of_ble_eq_true rfl) rfl (by decide +kernel) ⟨Nat.le_of_ble_eq_true rfl, Nat.le_of_ble_eq_true rfl⟩, List.forall_mem_cons.mpr ⟨call_V cx (ct_Slit_clearBuffer w l hw) tw_287 tw_284 tw_1 tw_285 tw_286 (ci := 5) (Nat.le_of_ble_eq_true rfl) rfl (by decide +kernel) ⟨Nat.le_of_ble_eq_true rfl, Nat.le_of_ble_eq_true rfl⟩, List.forall_mem_cons.mpr ⟨call_V cx (ct_Mod_clearBuffer w l hw) tw_1003 tw_1000 tw_8 tw_1001 tw_1002 (ci := 6) (Nat.le_of_ble_eq_true rfl) rfl (by decide +kernel) ⟨Nat.le_of_ble_eq_true rfl, Nat.le_of_ble_eq_true rfl⟩, List.forall_mem_cons.mpr ⟨call_V cx (ct_Slit_firstError w l hw) tw_291 tw_288 tw_1 tw_289 tw_290 (ci := 5) (Nat.le_of_ble_eq_true rfl) rfl (by decide +kernel) ⟨Nat.le_of_ble_eq_true rfl, Nat.le_of_ble_eq_true rfl⟩, List.forall_mem_cons.mpr ⟨call_V cx (ct_Mod_firstError w l hw) tw_1007 tw_1004 tw_8 tw_1005 tw_1006 (ci := 6) (Nat.le_of_ble_eq_true rfl) rfl (by decide +kernel) ⟨Nat.le_of_ble_eq_true rfl, Nat.le_of_ble_eq_true rfl⟩, List.forall_mem_cons.mpr ⟨call_V cx (ct_Mod_receiveAll w l hw) tw_1035 tw_1032 tw_8 tw_1033 tw_1034 (ci := 6) (Nat.le_of_ble_eq_true rfl) rfl (by decide +kernel) ⟨Nat.le_of_ble_eq_true rfl, Nat.le_of_ble_eq_true rfl⟩, List.forall_mem_cons.mpr ⟨call_V cx (ct_Mod_undo w l hw) tw_861 tw_858 tw_8 tw_859 tw_860 (ci := 6) (Nat.le_of_ble_eq_true rfl) rfl (by decide +kernel) ⟨Nat.le_of_ble_eq_true rfl, Nat.le_of_ble_eq_true rfl⟩, List.forall_mem_cons.mpr ⟨call_V cx (ct_Mod_at w l hw) tw_1043 tw_1040 tw_8 tw_1041 tw_1042 (ci := 6) (Nat.le_of_ble_eq_true rfl) rfl (by decide +kernel) ⟨Nat.le_of_ble_eq_true rfl, Nat.le_of_ble_eq_true rfl⟩, List.forall_mem_cons.mpr ⟨call_V cx (ct_Mod_coil w l hw) tw_1051 tw_1048 tw_8 tw_1049 tw_1050 (ci := 6) (Nat.le_of_ble_eq_true rfl) rfl (by decide +kernel) ⟨Nat.le_of_ble_eq_true rfl, Nat.le_of_ble_eq_true rfl⟩, List.forall_mem_cons.mpr ⟨call_V cx (ct_Mod_orderOf w l hw) tw_1059 tw_1056 tw_8 tw_1057 tw_1058 (ci := 6) (Nat.le_of_ble_eq_true rfl) rfl (by decide +kernel) ⟨Nat.le_of_ble_eq_true rfl, Nat.le_of_ble_eq_true rfl⟩, List.forall_mem_cons.mpr ⟨call_V cx (ct_Mod_whyNot w l hw) tw_1067 tw_1064 tw_8 tw_1065 tw_1066 (ci := 6) (Nat.le_of_ble_eq_true rfl) rfl (by decide +kernel) ⟨Nat.le_of_ble_eq_true rfl, Nat.le_of_ble_eq_true rfl⟩, List.forall_mem_cons.mpr ⟨call_V cx (ct_Mod_count w l hw) tw_1071 tw_1068 tw_8 tw_1069 tw_1070 (ci := 6) (Nat.le_of_ble_eq_true rfl) rfl (by decide +kernel) ⟨Nat.le_of_ble_eq_true rfl, Nat.le_of_ble_eq_true rfl⟩, List.forall_mem_cons.mpr ⟨call_V cx (ct_Mod_setting w l hw) tw_1083 tw_1080 tw_8 tw_1081 tw_1082 (ci := 6) (Nat.le_of_ble_eq_true rfl) rfl (by decide +kernel) ⟨Nat.le_of_ble_eq_true rfl, Nat.le_of_ble_eq_true rfl⟩, List.forall_mem_cons.mpr ⟨call_V cx (ct_Mod_choice w l hw) tw_1087 tw_1084 tw_8 tw_1085 tw_1086 (ci := 6) (Nat.le_of_ble_eq_true rfl) rfl (by decide +kernel) ⟨Nat.le_of_ble_eq_true rfl, Nat.le_of_ble_eq_true rfl⟩, List.forall_mem_cons.mpr ⟨call_V cx (ct_Mod_ifServed w l hw) tw_1095 tw_1092 tw_8 tw_1093 tw_1094 (ci := 6) (Nat.le_of_ble_eq_true rfl) rfl (by decide +kernel) ⟨Nat.le_of_ble_eq_true rfl, Nat.le_of_ble_eq_true rfl⟩, List.forall_mem_cons.mpr ⟨call_V cx (ct_Slit_bestRule w l hw) tw_343 tw_340 tw_1 tw_341 tw_342 (ci := 5) (Nat.le_of_ble_eq_true rfl) rfl (by decide +kernel) ⟨Nat.le_of_ble_eq_true rfl, Nat.le_of_ble_eq_true rfl⟩, List.forall_mem_cons.mpr ⟨call_V cx (ct_Mod_bestRule w l hw) tw_1107 tw_1104 tw_8 tw_1105 tw_1106 (ci := 6) (Nat.le_of_ble_eq_true rfl) rfl (by decide +kernel) ⟨Nat.le_of_ble_eq_true rfl, Nat.le_of_ble_eq_true rfl⟩, List.forall_mem_cons.mpr ⟨call_V cx (ct_Slit_bestStack w l hw) tw_360 tw_357 tw_1 tw_358 tw_359 (ci := 5) (Nat.le_of_ble_eq_true rfl) rfl (by decide +kernel) ⟨Nat.le_of_ble_eq_true rfl, Nat.le_of_ble_eq_true rfl⟩, List.forall_mem_cons.mpr ⟨call_V cx (ct_Mod_bestStack w l hw) tw_1115 tw_1112 tw_8 tw_1113 tw_1114 (ci := 6) (Nat.le_of_ble_eq_true rfl) rfl (by decide +kernel) ⟨Nat.le_of_ble_eq_true rfl, Nat.le_of_ble_eq_true rfl⟩, List.forall_mem_cons.mpr ⟨call_V cx (ct_Slit_used w l hw) tw_376 tw_373 tw_1 tw_374 tw_375 (ci := 5) (Nat.le_of_ble_eq_true rfl) rfl (by decide +kernel) ⟨Nat.le_of_ble_eq_true rfl, Nat.le_of_ble_eq_true rfl⟩, List.forall_mem_cons.mpr ⟨call_V cx (ct_Mod_used w l hw) tw_1127 tw_1124 tw_8 tw_1125 tw_1126 (ci := 6) (Nat.le_of_ble_eq_true rfl) rfl (by decide +kernel) ⟨Nat.le_of_ble_eq_true rfl, Nat.le_of_ble_eq_true rfl⟩, List.forall_mem_cons.mpr ⟨call_V cx (ct_Slit_digest w l hw) tw_380 tw_377 tw_1 tw_378 tw_379 (ci := 5) (Nat.le_of_ble_eq_true rfl) rfl (by decide +kernel) ⟨Nat.le_of_ble_eq_true rfl, Nat.le_of_ble_eq_true rfl⟩, List.forall_mem_cons.mpr ⟨call_V cx (ct_Mod_digest w l hw) tw_1135 tw_1132 tw_8 tw_1133 tw_1134 (ci := 6) (Nat.le_of_ble_eq_true rfl) rfl (by decide +kernel) ⟨Nat.le_of_ble_eq_true rfl, Nat.le_of_ble_eq_true rfl⟩, fun q hq => absurd hq List.not_mem_nil⟩⟩⟩⟩⟩⟩⟩⟩⟩⟩⟩⟩⟩⟩⟩⟩⟩⟩⟩⟩⟩⟩⟩⟩⟩⟩⟩⟩⟩⟩⟩⟩⟩⟩⟩⟩
theorem lc_Law_90 : lookI (eC (E_Law_law T)) (.invokevirtual 90) = some (5, x_Mod_receive) := rfl
theorem lc_Law_91 : lookI (eC (E_Law_law T)) (.invokevirtual 91) = some (1, x_Mod_thrown) := rfl
theorem lc_Law_97 : lookI (eC (E_Law_law T)) (.invokevirtual 97) = some (3, x_Mod_move) := rfl
theorem lc_Law_101 : lookI (eC (E_Law_law T)) (.invokevirtual 101) = some (2, x_Mod_dig) := rfl
theorem lc_Law_104 : lookI (eC (E_Law_law T)) (.invokevirtual 104) = some (2, x_Mod_sendAway) := rfl
theorem lc_Law_108 : lookI (eC (E_Law_law T)) (.invokevirtual 108) = some (6, x_Mod_order) := rfl
theorem lc_Law_111 : lookI (eC (E_Law_law T)) (.invokevirtual 111) = some (2, x_Mod_cancel) := rfl
theorem lc_Law_114 : lookI (eC (E_Law_law T)) (.invokevirtual 114) = some (3, x_Mod_slit) := rfl
theorem lc_Law_117 : lookI (eC (E_Law_law T)) (.invokevirtual 117) = some (2, x_Mod_serve) := rfl
theorem lc_Law_118 : lookI (eC (E_Law_law T)) (.invokevirtual 118) = some (1, x_Slit_serveAll) := rfl
theorem lc_Law_121 : lookI (eC (E_Law_law T)) (.invokevirtual 121) = some (1, x_Mod_serveAll) := rfl
theorem lc_Law_124 : lookI (eC (E_Law_law T)) (.invokevirtual 124) = some (3, x_Mod_set) := rfl
theorem lc_Law_127 : lookI (eC (E_Law_law T)) (.invokevirtual 127) = some (2, x_Mod_append) := rfl
theorem lc_Law_128 : lookI (eC (E_Law_law T)) (.invokevirtual 128) = some (1, x_Slit_clearBuffer) := rfl
theorem lc_Law_131 : lookI (eC (E_Law_law T)) (.invokevirtual 131) = some (1, x_Mod_clearBuffer) := rfl
theorem lc_Law_132 : lookI (eC (E_Law_law T)) (.invokevirtual 132) = some (1, x_Slit_firstError) := rfl
theorem lc_Law_135 : lookI (eC (E_Law_law T)) (.invokevirtual 135) = some (1, x_Mod_firstError) := rfl
theorem lc_Law_139 : lookI (eC (E_Law_law T)) (.invokevirtual 139) = some (1, x_Mod_receiveAll) := rfl
theorem lc_Law_142 : lookI (eC (E_Law_law T)) (.invokevirtual 142) = some (1, x_Mod_undo) := rfl
theorem lc_Law_145 : lookI (eC (E_Law_law T)) (.invokevirtual 145) = some (3, x_Mod_at) := rfl
theorem lc_Law_148 : lookI (eC (E_Law_law T)) (.invokevirtual 148) = some (3, x_Mod_coil) := rfl
theorem lc_Law_151 : lookI (eC (E_Law_law T)) (.invokevirtual 151) = some (3, x_Mod_orderOf) := rfl
theorem lc_Law_154 : lookI (eC (E_Law_law T)) (.invokevirtual 154) = some (3, x_Mod_whyNot) := rfl
theorem lc_Law_157 : lookI (eC (E_Law_law T)) (.invokevirtual 157) = some (2, x_Mod_count) := rfl
theorem lc_Law_160 : lookI (eC (E_Law_law T)) (.invokevirtual 160) = some (2, x_Mod_setting) := rfl
theorem lc_Law_163 : lookI (eC (E_Law_law T)) (.invokevirtual 163) = some (2, x_Mod_choice) := rfl
theorem lc_Law_167 : lookI (eC (E_Law_law T)) (.invokevirtual 167) = some (4, x_Mod_ifServed) := rfl
theorem lc_Law_168 : lookI (eC (E_Law_law T)) (.invokevirtual 168) = some (1, x_Slit_bestRule) := rfl
theorem lc_Law_171 : lookI (eC (E_Law_law T)) (.invokevirtual 171) = some (1, x_Mod_bestRule) := rfl
theorem lc_Law_172 : lookI (eC (E_Law_law T)) (.invokevirtual 172) = some (1, x_Slit_bestStack) := rfl
theorem lc_Law_175 : lookI (eC (E_Law_law T)) (.invokevirtual 175) = some (1, x_Mod_bestStack) := rfl
theorem lc_Law_176 : lookI (eC (E_Law_law T)) (.invokevirtual 176) = some (1, x_Slit_used) := rfl
theorem lc_Law_180 : lookI (eC (E_Law_law T)) (.invokevirtual 180) = some (1, x_Mod_used) := rfl
theorem lc_Law_181 : lookI (eC (E_Law_law T)) (.invokevirtual 181) = some (1, x_Slit_digest) := rfl
theorem lc_Law_185 : lookI (eC (E_Law_law T)) (.invokevirtual 185) = some (1, x_Mod_digest) := rfl
theorem lb_Law : eB (E_Law_law T) = false := rfl
theorem lt_Law : eT (E_Law_law T) = T := rfl
end
