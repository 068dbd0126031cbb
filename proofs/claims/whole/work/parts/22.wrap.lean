def zE0 : Env := (true, [], [], [], [], fun _ => none, false)
-- CoilSlitsLaw.receive
def h_Law_receive : List Hd := [("java/lang/IndexOutOfBoundsException", 13, 17, 6, 1), ("java/lang/IllegalArgumentException", 15, 21, 6, 2), ("java/lang/IllegalStateException", 17, 25, 6, 3)]
def x_Law_receive : Ex := xwrap zE0 7 [.aload 5, .iconst 0, .aload_n 0, .iload_n 1, .iload_n 2, .iload_n 3, .iload 4] 5 x_Slit_receive h_Law_receive
abbrev r_Law_receive : Room := ({ frames := 7, cells := 1, slots := 6, locals := 149 } : Room)
theorem ct_Law_receive (w : Wd) (l : Launch) (hw : zWok w) (hl : l.stackTraces = false) : CTW w l y_Law_receive b_Law_receive 7 (some .int) (zhh 14 h_Law_receive) r_Law_receive x_Law_receive :=
  ct_wrap (ci := 5) (E := zE0) (yM := y_Slit_receive) (bM := b_Slit_receive) (nM := 5) (rmM := r_Slit_receive) (nn := 4) (hs := h_Law_receive) (f := exb true 5 d_Slit_receive) (pc0 := 9) (p5 := 14) (pend := 29) (off := 15) (idx := 7) (by decide +kernel) rfl rfl (ct_Slit_receive w l hw hl) rfl rfl (by decide +kernel) (by decide +kernel) (by decide +kernel) (by decide +kernel) (by decide) (by decide +kernel) (by decide +kernel) (by decide)
  (List.forall_mem_cons.mpr ⟨⟨by decide +kernel, Nat.le_of_ble_eq_true rfl, by decide +kernel, by decide, tw_468⟩, List.forall_mem_cons.mpr ⟨⟨by decide +kernel, Nat.le_of_ble_eq_true rfl, by decide +kernel, by decide, tw_469⟩, List.forall_mem_cons.mpr ⟨⟨by decide +kernel, Nat.le_of_ble_eq_true rfl, by decide +kernel, by decide, tw_470⟩, fun q hq => absurd hq List.not_mem_nil⟩⟩⟩)
  tw_474 tw_471 tw_1 tw_472 tw_473 (Nat.le_of_ble_eq_true rfl) rfl (by decide +kernel) ⟨Nat.le_of_ble_eq_true rfl, Nat.le_of_ble_eq_true rfl⟩
-- CoilSlitsLaw.move
def h_Law_move : List Hd := [("java/lang/IndexOutOfBoundsException", 13, 13, 4, 1), ("java/lang/IllegalArgumentException", 15, 17, 4, 2), ("java/lang/IllegalStateException", 17, 21, 4, 3)]
def x_Law_move : Ex := xwrap zE0 5 [.aload_n 3, .iconst 0, .aload_n 0, .iload_n 1, .iload_n 2] 3 x_Slit_move h_Law_move
abbrev r_Law_move : Room := ({ frames := 7, cells := 1, slots := 6, locals := 147 } : Room)
theorem ct_Law_move (w : Wd) (l : Launch) (hw : zWok w) (hl : l.stackTraces = false) : CTW w l y_Law_move b_Law_move 5 (some .int) (zhh 10 h_Law_move) r_Law_move x_Law_move :=
  ct_wrap (ci := 5) (E := zE0) (yM := y_Slit_move) (bM := b_Slit_move) (nM := 3) (rmM := r_Slit_move) (nn := 2) (hs := h_Law_move) (f := exb true 3 d_Slit_move) (pc0 := 5) (p5 := 10) (pend := 25) (off := 15) (idx := 19) (by decide +kernel) rfl rfl (ct_Slit_move w l hw hl) rfl rfl (by decide +kernel) (by decide +kernel) (by decide +kernel) (by decide +kernel) (by decide) (by decide +kernel) (by decide +kernel) (by decide)
  (List.forall_mem_cons.mpr ⟨⟨by decide +kernel, Nat.le_of_ble_eq_true rfl, by decide +kernel, by decide, tw_468⟩, List.forall_mem_cons.mpr ⟨⟨by decide +kernel, Nat.le_of_ble_eq_true rfl, by decide +kernel, by decide, tw_469⟩, List.forall_mem_cons.mpr ⟨⟨by decide +kernel, Nat.le_of_ble_eq_true rfl, by decide +kernel, by decide, tw_470⟩, fun q hq => absurd hq List.not_mem_nil⟩⟩⟩)
  tw_586 tw_583 tw_1 tw_584 tw_585 (Nat.le_of_ble_eq_true rfl) rfl (by decide +kernel) ⟨Nat.le_of_ble_eq_true rfl, Nat.le_of_ble_eq_true rfl⟩
-- CoilSlitsLaw.dig
def h_Law_dig : List Hd := [("java/lang/IndexOutOfBoundsException", 13, 12, 3, 1), ("java/lang/IllegalStateException", 17, 15, 3, 2)]
def x_Law_dig : Ex := xwrap zE0 4 [.aload_n 2, .iconst 0, .aload_n 0, .iload_n 1] 2 x_Slit_dig h_Law_dig
abbrev r_Law_dig : Room := ({ frames := 7, cells := 1, slots := 6, locals := 155 } : Room)
theorem ct_Law_dig (w : Wd) (l : Launch) (hw : zWok w) (hl : l.stackTraces = false) : CTW w l y_Law_dig b_Law_dig 4 (some .int) (zhh 9 h_Law_dig) r_Law_dig x_Law_dig :=
  ct_wrap (ci := 5) (E := zE0) (yM := y_Slit_dig) (bM := b_Slit_dig) (nM := 3) (rmM := r_Slit_dig) (nn := 1) (hs := h_Law_dig) (f := exb true 3 d_Slit_dig) (pc0 := 4) (p5 := 9) (pend := 18) (off := 9) (idx := 23) (by decide +kernel) rfl rfl (ct_Slit_dig w l hw hl) rfl rfl (by decide +kernel) (by decide +kernel) (by decide +kernel) (by decide +kernel) (by decide) (by decide +kernel) (by decide +kernel) (by decide)
  (List.forall_mem_cons.mpr ⟨⟨by decide +kernel, Nat.le_of_ble_eq_true rfl, by decide +kernel, by decide, tw_468⟩, List.forall_mem_cons.mpr ⟨⟨by decide +kernel, Nat.le_of_ble_eq_true rfl, by decide +kernel, by decide, tw_470⟩, fun q hq => absurd hq List.not_mem_nil⟩⟩)
  tw_596 tw_593 tw_1 tw_594 tw_595 (Nat.le_of_ble_eq_true rfl) rfl (by decide +kernel) ⟨Nat.le_of_ble_eq_true rfl, Nat.le_of_ble_eq_true rfl⟩
-- CoilSlitsLaw.sendAway
def h_Law_sendAway : List Hd := [("java/lang/IndexOutOfBoundsException", 13, 12, 3, 1), ("java/lang/IllegalStateException", 17, 15, 3, 2)]
def x_Law_sendAway : Ex := xwrap zE0 4 [.aload_n 2, .iconst 0, .aload_n 0, .iload_n 1] 2 x_Slit_sendAway h_Law_sendAway
abbrev r_Law_sendAway : Room := ({ frames := 7, cells := 1, slots := 6, locals := 155 } : Room)
theorem ct_Law_sendAway (w : Wd) (l : Launch) (hw : zWok w) (hl : l.stackTraces = false) : CTW w l y_Law_sendAway b_Law_sendAway 4 (some .int) (zhh 9 h_Law_sendAway) r_Law_sendAway x_Law_sendAway :=
  ct_wrap (ci := 5) (E := zE0) (yM := y_Slit_sendAway) (bM := b_Slit_sendAway) (nM := 3) (rmM := r_Slit_sendAway) (nn := 1) (hs := h_Law_sendAway) (f := exb true 3 d_Slit_sendAway) (pc0 := 4) (p5 := 9) (pend := 18) (off := 9) (idx := 27) (by decide +kernel) rfl rfl (ct_Slit_sendAway w l hw hl) rfl rfl (by decide +kernel) (by decide +kernel) (by decide +kernel) (by decide +kernel) (by decide) (by decide +kernel) (by decide +kernel) (by decide)
  (List.forall_mem_cons.mpr ⟨⟨by decide +kernel, Nat.le_of_ble_eq_true rfl, by decide +kernel, by decide, tw_468⟩, List.forall_mem_cons.mpr ⟨⟨by decide +kernel, Nat.le_of_ble_eq_true rfl, by decide +kernel, by decide, tw_470⟩, fun q hq => absurd hq List.not_mem_nil⟩⟩)
  tw_614 tw_611 tw_1 tw_612 tw_613 (Nat.le_of_ble_eq_true rfl) rfl (by decide +kernel) ⟨Nat.le_of_ble_eq_true rfl, Nat.le_of_ble_eq_true rfl⟩
-- CoilSlitsLaw.order
def h_Law_order : List Hd := [("java/lang/IllegalArgumentException", 15, 19, 7, 1), ("java/lang/IllegalStateException", 17, 23, 7, 2)]
def x_Law_order : Ex := xwrap zE0 8 [.aload 6, .iconst 0, .aload_n 0, .iload_n 1, .iload_n 2, .iload_n 3, .iload 4, .iload 5] 6 x_Slit_order h_Law_order
abbrev r_Law_order : Room := ({ frames := 7, cells := 1, slots := 6, locals := 150 } : Room)
theorem ct_Law_order (w : Wd) (l : Launch) (hw : zWok w) (hl : l.stackTraces = false) : CTW w l y_Law_order b_Law_order 8 (some .int) (zhh 16 h_Law_order) r_Law_order x_Law_order :=
  ct_wrap (ci := 5) (E := zE0) (yM := y_Slit_order) (bM := b_Slit_order) (nM := 6) (rmM := r_Slit_order) (nn := 5) (hs := h_Law_order) (f := exb true 6 d_Slit_order) (pc0 := 11) (p5 := 16) (pend := 27) (off := 11) (idx := 30) (by decide +kernel) rfl rfl (ct_Slit_order w l hw hl) rfl rfl (by decide +kernel) (by decide +kernel) (by decide +kernel) (by decide +kernel) (by decide) (by decide +kernel) (by decide +kernel) (by decide)
  (List.forall_mem_cons.mpr ⟨⟨by decide +kernel, Nat.le_of_ble_eq_true rfl, by decide +kernel, by decide, tw_469⟩, List.forall_mem_cons.mpr ⟨⟨by decide +kernel, Nat.le_of_ble_eq_true rfl, by decide +kernel, by decide, tw_470⟩, fun q hq => absurd hq List.not_mem_nil⟩⟩)
  tw_626 tw_623 tw_1 tw_624 tw_625 (Nat.le_of_ble_eq_true rfl) rfl (by decide +kernel) ⟨Nat.le_of_ble_eq_true rfl, Nat.le_of_ble_eq_true rfl⟩
-- CoilSlitsLaw.cancel
def h_Law_cancel : List Hd := [("java/lang/IndexOutOfBoundsException", 13, 12, 3, 1)]
def x_Law_cancel : Ex := xwrap zE0 4 [.aload_n 2, .iconst 0, .aload_n 0, .iload_n 1] 2 x_Slit_cancel h_Law_cancel
abbrev r_Law_cancel : Room := ({ frames := 7, cells := 1, slots := 6, locals := 148 } : Room)
theorem ct_Law_cancel (w : Wd) (l : Launch) (hw : zWok w) (hl : l.stackTraces = false) : CTW w l y_Law_cancel b_Law_cancel 4 (some .int) (zhh 9 h_Law_cancel) r_Law_cancel x_Law_cancel :=
  ct_wrap (ci := 5) (E := zE0) (yM := y_Slit_cancel) (bM := b_Slit_cancel) (nM := 4) (rmM := r_Slit_cancel) (nn := 1) (hs := h_Law_cancel) (f := exb true 4 d_Slit_cancel) (pc0 := 4) (p5 := 9) (pend := 15) (off := 6) (idx := 34) (by decide +kernel) rfl rfl (ct_Slit_cancel w l hw hl) rfl rfl (by decide +kernel) (by decide +kernel) (by decide +kernel) (by decide +kernel) (by decide) (by decide +kernel) (by decide +kernel) (by decide)
  (List.forall_mem_cons.mpr ⟨⟨by decide +kernel, Nat.le_of_ble_eq_true rfl, by decide +kernel, by decide, tw_468⟩, fun q hq => absurd hq List.not_mem_nil⟩)
  tw_639 tw_636 tw_1 tw_637 tw_638 (Nat.le_of_ble_eq_true rfl) rfl (by decide +kernel) ⟨Nat.le_of_ble_eq_true rfl, Nat.le_of_ble_eq_true rfl⟩
-- CoilSlitsLaw.slit
def h_Law_slit : List Hd := [("java/lang/IndexOutOfBoundsException", 13, 13, 4, 1), ("java/lang/IllegalStateException", 17, 17, 4, 2)]
def x_Law_slit : Ex := xwrap zE0 5 [.aload_n 3, .iconst 0, .aload_n 0, .iload_n 1, .iload_n 2] 3 x_Slit_slit h_Law_slit
abbrev r_Law_slit : Room := ({ frames := 7, cells := 1, slots := 6, locals := 158 } : Room)
theorem ct_Law_slit (w : Wd) (l : Launch) (hw : zWok w) (hl : l.stackTraces = false) : CTW w l y_Law_slit b_Law_slit 5 (some .int) (zhh 10 h_Law_slit) r_Law_slit x_Law_slit :=
  ct_wrap (ci := 5) (E := zE0) (yM := y_Slit_slit) (bM := b_Slit_slit) (nM := 6) (rmM := r_Slit_slit) (nn := 2) (hs := h_Law_slit) (f := exb true 6 d_Slit_slit) (pc0 := 5) (p5 := 10) (pend := 21) (off := 11) (idx := 37) (by decide +kernel) rfl rfl (ct_Slit_slit w l hw hl) rfl rfl (by decide +kernel) (by decide +kernel) (by decide +kernel) (by decide +kernel) (by decide) (by decide +kernel) (by decide +kernel) (by decide)
  (List.forall_mem_cons.mpr ⟨⟨by decide +kernel, Nat.le_of_ble_eq_true rfl, by decide +kernel, by decide, tw_468⟩, List.forall_mem_cons.mpr ⟨⟨by decide +kernel, Nat.le_of_ble_eq_true rfl, by decide +kernel, by decide, tw_470⟩, fun q hq => absurd hq List.not_mem_nil⟩⟩)
  tw_656 tw_653 tw_1 tw_654 tw_655 (Nat.le_of_ble_eq_true rfl) rfl (by decide +kernel) ⟨Nat.le_of_ble_eq_true rfl, Nat.le_of_ble_eq_true rfl⟩
-- CoilSlitsLaw.serve
def h_Law_serve : List Hd := [("java/lang/IndexOutOfBoundsException", 13, 12, 3, 1)]
def x_Law_serve : Ex := xwrap zE0 4 [.aload_n 2, .iconst 0, .aload_n 0, .iload_n 1] 2 x_Slit_serve h_Law_serve
abbrev r_Law_serve : Room := ({ frames := 7, cells := 1, slots := 6, locals := 180 } : Room)
theorem ct_Law_serve (w : Wd) (l : Launch) (hw : zWok w) (hl : l.stackTraces = false) : CTW w l y_Law_serve b_Law_serve 4 (some .int) (zhh 9 h_Law_serve) r_Law_serve x_Law_serve :=
  ct_wrap (ci := 5) (E := zE0) (yM := y_Slit_serve) (bM := b_Slit_serve) (nM := 3) (rmM := r_Slit_serve) (nn := 1) (hs := h_Law_serve) (f := exb true 3 d_Slit_serve) (pc0 := 4) (p5 := 9) (pend := 15) (off := 6) (idx := 40) (by decide +kernel) rfl rfl (ct_Slit_serve w l hw hl) rfl rfl (by decide +kernel) (by decide +kernel) (by decide +kernel) (by decide +kernel) (by decide) (by decide +kernel) (by decide +kernel) (by decide)
  (List.forall_mem_cons.mpr ⟨⟨by decide +kernel, Nat.le_of_ble_eq_true rfl, by decide +kernel, by decide, tw_468⟩, fun q hq => absurd hq List.not_mem_nil⟩)
  tw_672 tw_669 tw_1 tw_670 tw_671 (Nat.le_of_ble_eq_true rfl) rfl (by decide +kernel) ⟨Nat.le_of_ble_eq_true rfl, Nat.le_of_ble_eq_true rfl⟩
-- CoilSlitsLaw.set
def h_Law_set : List Hd := [("java/lang/IndexOutOfBoundsException", 13, 13, 4, 1), ("java/lang/IllegalArgumentException", 15, 17, 4, 2)]
def x_Law_set : Ex := xwrap zE0 5 [.aload_n 3, .iconst 0, .aload_n 0, .iload_n 1, .iload_n 2] 3 x_Slit_set h_Law_set
abbrev r_Law_set : Room := ({ frames := 7, cells := 1, slots := 6, locals := 148 } : Room)
theorem ct_Law_set (w : Wd) (l : Launch) (hw : zWok w) (hl : l.stackTraces = false) : CTW w l y_Law_set b_Law_set 5 (some .int) (zhh 10 h_Law_set) r_Law_set x_Law_set :=
  ct_wrap (ci := 5) (E := zE0) (yM := y_Slit_set) (bM := b_Slit_set) (nM := 4) (rmM := r_Slit_set) (nn := 2) (hs := h_Law_set) (f := exb true 4 d_Slit_set) (pc0 := 5) (p5 := 10) (pend := 21) (off := 11) (idx := 43) (by decide +kernel) rfl rfl (ct_Slit_set w l hw hl) rfl rfl (by decide +kernel) (by decide +kernel) (by decide +kernel) (by decide +kernel) (by decide) (by decide +kernel) (by decide +kernel) (by decide)
  (List.forall_mem_cons.mpr ⟨⟨by decide +kernel, Nat.le_of_ble_eq_true rfl, by decide +kernel, by decide, tw_468⟩, List.forall_mem_cons.mpr ⟨⟨by decide +kernel, Nat.le_of_ble_eq_true rfl, by decide +kernel, by decide, tw_469⟩, fun q hq => absurd hq List.not_mem_nil⟩⟩)
  tw_679 tw_676 tw_1 tw_677 tw_678 (Nat.le_of_ble_eq_true rfl) rfl (by decide +kernel) ⟨Nat.le_of_ble_eq_true rfl, Nat.le_of_ble_eq_true rfl⟩
-- CoilSlitsLaw.append
def h_Law_append : List Hd := [("java/lang/IllegalArgumentException", 15, 12, 3, 1), ("java/lang/IllegalStateException", 17, 15, 3, 2)]
def x_Law_append : Ex := xwrap zE0 4 [.aload_n 2, .iconst 0, .aload_n 0, .iload_n 1] 2 x_Slit_append h_Law_append
abbrev r_Law_append : Room := ({ frames := 7, cells := 1, slots := 6, locals := 103 } : Room)
theorem ct_Law_append (w : Wd) (l : Launch) (hw : zWok w) (hl : l.stackTraces = false) : CTW w l y_Law_append b_Law_append 4 (some .int) (zhh 9 h_Law_append) r_Law_append x_Law_append :=
  ct_wrap (ci := 5) (E := zE0) (yM := y_Slit_append) (bM := b_Slit_append) (nM := 2) (rmM := r_Slit_append) (nn := 1) (hs := h_Law_append) (f := exb true 2 d_Slit_append) (pc0 := 4) (p5 := 9) (pend := 18) (off := 9) (idx := 46) (by decide +kernel) rfl rfl (ct_Slit_append w l hw hl) rfl rfl (by decide +kernel) (by decide +kernel) (by decide +kernel) (by decide +kernel) (by decide) (by decide +kernel) (by decide +kernel) (by decide)
  (List.forall_mem_cons.mpr ⟨⟨by decide +kernel, Nat.le_of_ble_eq_true rfl, by decide +kernel, by decide, tw_469⟩, List.forall_mem_cons.mpr ⟨⟨by decide +kernel, Nat.le_of_ble_eq_true rfl, by decide +kernel, by decide, tw_470⟩, fun q hq => absurd hq List.not_mem_nil⟩⟩)
  tw_695 tw_692 tw_1 tw_693 tw_694 (Nat.le_of_ble_eq_true rfl) rfl (by decide +kernel) ⟨Nat.le_of_ble_eq_true rfl, Nat.le_of_ble_eq_true rfl⟩
-- CoilSlitsLaw.receiveAll
def h_Law_receiveAll : List Hd := [("java/lang/IllegalArgumentException", 15, 11, 2, 1)]
def x_Law_receiveAll : Ex := xwrap zE0 3 [.aload_n 1, .iconst 0, .aload_n 0] 1 x_Slit_receiveAll h_Law_receiveAll
abbrev r_Law_receiveAll : Room := ({ frames := 7, cells := 1, slots := 6, locals := 146 } : Room)
theorem ct_Law_receiveAll (w : Wd) (l : Launch) (hw : zWok w) (hl : l.stackTraces = false) : CTW w l y_Law_receiveAll b_Law_receiveAll 3 (some .int) (zhh 8 h_Law_receiveAll) r_Law_receiveAll x_Law_receiveAll :=
  ct_wrap (ci := 5) (E := zE0) (yM := y_Slit_receiveAll) (bM := b_Slit_receiveAll) (nM := 2) (rmM := r_Slit_receiveAll) (nn := 0) (hs := h_Law_receiveAll) (f := exb true 2 d_Slit_receiveAll) (pc0 := 3) (p5 := 8) (pend := 14) (off := 6) (idx := 49) (by decide +kernel) rfl rfl (ct_Slit_receiveAll w l hw hl) rfl rfl (by decide +kernel) (by decide +kernel) (by decide +kernel) (by decide +kernel) (by decide) (by decide +kernel) (by decide +kernel) (by decide)
  (List.forall_mem_cons.mpr ⟨⟨by decide +kernel, Nat.le_of_ble_eq_true rfl, by decide +kernel, by decide, tw_469⟩, fun q hq => absurd hq List.not_mem_nil⟩)
  tw_705 tw_702 tw_1 tw_703 tw_704 (Nat.le_of_ble_eq_true rfl) rfl (by decide +kernel) ⟨Nat.le_of_ble_eq_true rfl, Nat.le_of_ble_eq_true rfl⟩
-- CoilSlitsLaw.undo
def h_Law_undo : List Hd := [("java/lang/IllegalStateException", 17, 11, 2, 1)]
def x_Law_undo : Ex := xwrap zE0 3 [.aload_n 1, .iconst 0, .aload_n 0] 1 x_Slit_undo h_Law_undo
abbrev r_Law_undo : Room := ({ frames := 7, cells := 1, slots := 6, locals := 145 } : Room)
theorem ct_Law_undo (w : Wd) (l : Launch) (hw : zWok w) (hl : l.stackTraces = false) : CTW w l y_Law_undo b_Law_undo 3 (some .int) (zhh 8 h_Law_undo) r_Law_undo x_Law_undo :=
  ct_wrap (ci := 5) (E := zE0) (yM := y_Slit_undo) (bM := b_Slit_undo) (nM := 1) (rmM := r_Slit_undo) (nn := 0) (hs := h_Law_undo) (f := exb true 1 d_Slit_undo) (pc0 := 3) (p5 := 8) (pend := 14) (off := 6) (idx := 53) (by decide +kernel) rfl rfl (ct_Slit_undo w l hw hl) rfl rfl (by decide +kernel) (by decide +kernel) (by decide +kernel) (by decide +kernel) (by decide) (by decide +kernel) (by decide +kernel) (by decide)
  (List.forall_mem_cons.mpr ⟨⟨by decide +kernel, Nat.le_of_ble_eq_true rfl, by decide +kernel, by decide, tw_470⟩, fun q hq => absurd hq List.not_mem_nil⟩)
  tw_741 tw_738 tw_1 tw_739 tw_740 (Nat.le_of_ble_eq_true rfl) rfl (by decide +kernel) ⟨Nat.le_of_ble_eq_true rfl, Nat.le_of_ble_eq_true rfl⟩
-- CoilSlitsLaw.at
def h_Law_at : List Hd := [("java/lang/IndexOutOfBoundsException", 13, 13, 4, 1), ("java/lang/IllegalArgumentException", 15, 17, 4, 2)]
def x_Law_at : Ex := xwrap zE0 5 [.aload_n 3, .iconst 0, .aload_n 0, .iload_n 1, .iload_n 2] 3 x_Slit_at h_Law_at
abbrev r_Law_at : Room := ({ frames := 7, cells := 1, slots := 6, locals := 104 } : Room)
theorem ct_Law_at (w : Wd) (l : Launch) (hw : zWok w) (hl : l.stackTraces = false) : CTW w l y_Law_at b_Law_at 5 (some .int) (zhh 10 h_Law_at) r_Law_at x_Law_at :=
  ct_wrap (ci := 5) (E := zE0) (yM := y_Slit_at) (bM := b_Slit_at) (nM := 3) (rmM := r_Slit_at) (nn := 2) (hs := h_Law_at) (f := exb true 3 d_Slit_at) (pc0 := 5) (p5 := 10) (pend := 21) (off := 11) (idx := 56) (by decide +kernel) rfl rfl (ct_Slit_at w l hw hl) rfl rfl (by decide +kernel) (by decide +kernel) (by decide +kernel) (by decide +kernel) (by decide) (by decide +kernel) (by decide +kernel) (by decide)
  (List.forall_mem_cons.mpr ⟨⟨by decide +kernel, Nat.le_of_ble_eq_true rfl, by decide +kernel, by decide, tw_468⟩, List.forall_mem_cons.mpr ⟨⟨by decide +kernel, Nat.le_of_ble_eq_true rfl, by decide +kernel, by decide, tw_469⟩, fun q hq => absurd hq List.not_mem_nil⟩⟩)
  tw_754 tw_751 tw_1 tw_752 tw_753 (Nat.le_of_ble_eq_true rfl) rfl (by decide +kernel) ⟨Nat.le_of_ble_eq_true rfl, Nat.le_of_ble_eq_true rfl⟩
-- CoilSlitsLaw.coil
def h_Law_coil : List Hd := [("java/lang/IndexOutOfBoundsException", 13, 13, 4, 1), ("java/lang/IllegalArgumentException", 15, 17, 4, 2)]
def x_Law_coil : Ex := xwrap zE0 5 [.aload_n 3, .iconst 0, .aload_n 0, .iload_n 1, .iload_n 2] 3 x_Slit_coil h_Law_coil
abbrev r_Law_coil : Room := ({ frames := 7, cells := 1, slots := 6, locals := 105 } : Room)
theorem ct_Law_coil (w : Wd) (l : Launch) (hw : zWok w) (hl : l.stackTraces = false) : CTW w l y_Law_coil b_Law_coil 5 (some .int) (zhh 10 h_Law_coil) r_Law_coil x_Law_coil :=
  ct_wrap (ci := 5) (E := zE0) (yM := y_Slit_coil) (bM := b_Slit_coil) (nM := 4) (rmM := r_Slit_coil) (nn := 2) (hs := h_Law_coil) (f := exb true 4 d_Slit_coil) (pc0 := 5) (p5 := 10) (pend := 21) (off := 11) (idx := 59) (by decide +kernel) rfl rfl (ct_Slit_coil w l hw hl) rfl rfl (by decide +kernel) (by decide +kernel) (by decide +kernel) (by decide +kernel) (by decide) (by decide +kernel) (by decide +kernel) (by decide)
  (List.forall_mem_cons.mpr ⟨⟨by decide +kernel, Nat.le_of_ble_eq_true rfl, by decide +kernel, by decide, tw_468⟩, List.forall_mem_cons.mpr ⟨⟨by decide +kernel, Nat.le_of_ble_eq_true rfl, by decide +kernel, by decide, tw_469⟩, fun q hq => absurd hq List.not_mem_nil⟩⟩)
  tw_762 tw_759 tw_1 tw_760 tw_761 (Nat.le_of_ble_eq_true rfl) rfl (by decide +kernel) ⟨Nat.le_of_ble_eq_true rfl, Nat.le_of_ble_eq_true rfl⟩
-- CoilSlitsLaw.orderOf
def h_Law_orderOf : List Hd := [("java/lang/IllegalArgumentException", 15, 13, 4, 1)]
def x_Law_orderOf : Ex := xwrap zE0 5 [.aload_n 3, .iconst 0, .aload_n 0, .iload_n 1, .iload_n 2] 3 x_Slit_orderOf h_Law_orderOf
abbrev r_Law_orderOf : Room := ({ frames := 7, cells := 1, slots := 6, locals := 138 } : Room)
theorem ct_Law_orderOf (w : Wd) (l : Launch) (hw : zWok w) (hl : l.stackTraces = false) : CTW w l y_Law_orderOf b_Law_orderOf 5 (some .int) (zhh 10 h_Law_orderOf) r_Law_orderOf x_Law_orderOf :=
  ct_wrap (ci := 5) (E := zE0) (yM := y_Slit_orderOf) (bM := b_Slit_orderOf) (nM := 3) (rmM := r_Slit_orderOf) (nn := 2) (hs := h_Law_orderOf) (f := exb true 3 d_Slit_orderOf) (pc0 := 5) (p5 := 10) (pend := 17) (off := 7) (idx := 62) (by decide +kernel) rfl rfl (ct_Slit_orderOf w l hw hl) rfl rfl (by decide +kernel) (by decide +kernel) (by decide +kernel) (by decide +kernel) (by decide) (by decide +kernel) (by decide +kernel) (by decide)
  (List.forall_mem_cons.mpr ⟨⟨by decide +kernel, Nat.le_of_ble_eq_true rfl, by decide +kernel, by decide, tw_469⟩, fun q hq => absurd hq List.not_mem_nil⟩)
  tw_775 tw_772 tw_1 tw_773 tw_774 (Nat.le_of_ble_eq_true rfl) rfl (by decide +kernel) ⟨Nat.le_of_ble_eq_true rfl, Nat.le_of_ble_eq_true rfl⟩
-- CoilSlitsLaw.whyNot
def h_Law_whyNot : List Hd := [("java/lang/IndexOutOfBoundsException", 13, 13, 4, 1)]
def x_Law_whyNot : Ex := xwrap zE0 5 [.aload_n 3, .iconst 0, .aload_n 0, .iload_n 1, .iload_n 2] 3 x_Slit_whyNot h_Law_whyNot
abbrev r_Law_whyNot : Room := ({ frames := 7, cells := 1, slots := 6, locals := 112 } : Room)
theorem ct_Law_whyNot (w : Wd) (l : Launch) (hw : zWok w) (hl : l.stackTraces = false) : CTW w l y_Law_whyNot b_Law_whyNot 5 (some .int) (zhh 10 h_Law_whyNot) r_Law_whyNot x_Law_whyNot :=
  ct_wrap (ci := 5) (E := zE0) (yM := y_Slit_whyNot) (bM := b_Slit_whyNot) (nM := 5) (rmM := r_Slit_whyNot) (nn := 2) (hs := h_Law_whyNot) (f := exb true 5 d_Slit_whyNot) (pc0 := 5) (p5 := 10) (pend := 17) (off := 7) (idx := 65) (by decide +kernel) rfl rfl (ct_Slit_whyNot w l hw hl) rfl rfl (by decide +kernel) (by decide +kernel) (by decide +kernel) (by decide +kernel) (by decide) (by decide +kernel) (by decide +kernel) (by decide)
  (List.forall_mem_cons.mpr ⟨⟨by decide +kernel, Nat.le_of_ble_eq_true rfl, by decide +kernel, by decide, tw_468⟩, fun q hq => absurd hq List.not_mem_nil⟩)
  tw_783 tw_780 tw_1 tw_781 tw_782 (Nat.le_of_ble_eq_true rfl) rfl (by decide +kernel) ⟨Nat.le_of_ble_eq_true rfl, Nat.le_of_ble_eq_true rfl⟩
-- CoilSlitsLaw.count
def h_Law_count : List Hd := [("java/lang/IllegalArgumentException", 15, 12, 3, 1)]
def x_Law_count : Ex := xwrap zE0 4 [.aload_n 2, .iconst 0, .aload_n 0, .iload_n 1] 2 x_Slit_count h_Law_count
abbrev r_Law_count : Room := ({ frames := 7, cells := 1, slots := 6, locals := 103 } : Room)
theorem ct_Law_count (w : Wd) (l : Launch) (hw : zWok w) (hl : l.stackTraces = false) : CTW w l y_Law_count b_Law_count 4 (some .int) (zhh 9 h_Law_count) r_Law_count x_Law_count :=
  ct_wrap (ci := 5) (E := zE0) (yM := y_Slit_count) (bM := b_Slit_count) (nM := 2) (rmM := r_Slit_count) (nn := 1) (hs := h_Law_count) (f := exb true 2 d_Slit_count) (pc0 := 4) (p5 := 9) (pend := 15) (off := 6) (idx := 68) (by decide +kernel) rfl rfl (ct_Slit_count w l hw hl) rfl rfl (by decide +kernel) (by decide +kernel) (by decide +kernel) (by decide +kernel) (by decide) (by decide +kernel) (by decide +kernel) (by decide)
  (List.forall_mem_cons.mpr ⟨⟨by decide +kernel, Nat.le_of_ble_eq_true rfl, by decide +kernel, by decide, tw_469⟩, fun q hq => absurd hq List.not_mem_nil⟩)
  tw_790 tw_787 tw_1 tw_788 tw_789 (Nat.le_of_ble_eq_true rfl) rfl (by decide +kernel) ⟨Nat.le_of_ble_eq_true rfl, Nat.le_of_ble_eq_true rfl⟩
-- CoilSlitsLaw.setting
def h_Law_setting : List Hd := [("java/lang/IndexOutOfBoundsException", 13, 12, 3, 1)]
def x_Law_setting : Ex := xwrap zE0 4 [.aload_n 2, .iconst 0, .aload_n 0, .iload_n 1] 2 x_Slit_setting h_Law_setting
abbrev r_Law_setting : Room := ({ frames := 7, cells := 1, slots := 6, locals := 103 } : Room)
theorem ct_Law_setting (w : Wd) (l : Launch) (hw : zWok w) (hl : l.stackTraces = false) : CTW w l y_Law_setting b_Law_setting 4 (some .int) (zhh 9 h_Law_setting) r_Law_setting x_Law_setting :=
  ct_wrap (ci := 5) (E := zE0) (yM := y_Slit_setting) (bM := b_Slit_setting) (nM := 2) (rmM := r_Slit_setting) (nn := 1) (hs := h_Law_setting) (f := exb true 2 d_Slit_setting) (pc0 := 4) (p5 := 9) (pend := 15) (off := 6) (idx := 71) (by decide +kernel) rfl rfl (ct_Slit_setting w l hw hl) rfl rfl (by decide +kernel) (by decide +kernel) (by decide +kernel) (by decide +kernel) (by decide) (by decide +kernel) (by decide +kernel) (by decide)
  (List.forall_mem_cons.mpr ⟨⟨by decide +kernel, Nat.le_of_ble_eq_true rfl, by decide +kernel, by decide, tw_468⟩, fun q hq => absurd hq List.not_mem_nil⟩)
  tw_798 tw_795 tw_1 tw_796 tw_797 (Nat.le_of_ble_eq_true rfl) rfl (by decide +kernel) ⟨Nat.le_of_ble_eq_true rfl, Nat.le_of_ble_eq_true rfl⟩
-- CoilSlitsLaw.choice
def h_Law_choice : List Hd := [("java/lang/IndexOutOfBoundsException", 13, 12, 3, 1)]
def x_Law_choice : Ex := xwrap zE0 4 [.aload_n 2, .iconst 0, .aload_n 0, .iload_n 1] 2 x_Slit_choice h_Law_choice
abbrev r_Law_choice : Room := ({ frames := 7, cells := 1, slots := 6, locals := 121 } : Room)
theorem ct_Law_choice (w : Wd) (l : Launch) (hw : zWok w) (hl : l.stackTraces = false) : CTW w l y_Law_choice b_Law_choice 4 (some .int) (zhh 9 h_Law_choice) r_Law_choice x_Law_choice :=
  ct_wrap (ci := 5) (E := zE0) (yM := y_Slit_choice) (bM := b_Slit_choice) (nM := 3) (rmM := r_Slit_choice) (nn := 1) (hs := h_Law_choice) (f := exb true 3 d_Slit_choice) (pc0 := 4) (p5 := 9) (pend := 15) (off := 6) (idx := 74) (by decide +kernel) rfl rfl (ct_Slit_choice w l hw hl) rfl rfl (by decide +kernel) (by decide +kernel) (by decide +kernel) (by decide +kernel) (by decide) (by decide +kernel) (by decide +kernel) (by decide)
  (List.forall_mem_cons.mpr ⟨⟨by decide +kernel, Nat.le_of_ble_eq_true rfl, by decide +kernel, by decide, tw_468⟩, fun q hq => absurd hq List.not_mem_nil⟩)
  tw_805 tw_802 tw_1 tw_803 tw_804 (Nat.le_of_ble_eq_true rfl) rfl (by decide +kernel) ⟨Nat.le_of_ble_eq_true rfl, Nat.le_of_ble_eq_true rfl⟩
-- CoilSlitsLaw.ifServed
def h_Law_ifServed : List Hd := [("java/lang/IndexOutOfBoundsException", 13, 15, 5, 1), ("java/lang/IllegalArgumentException", 15, 19, 5, 2)]
def x_Law_ifServed : Ex := xwrap zE0 6 [.aload 4, .iconst 0, .aload_n 0, .iload_n 1, .iload_n 2, .iload_n 3] 4 x_Slit_ifServed h_Law_ifServed
abbrev r_Law_ifServed : Room := ({ frames := 7, cells := 1, slots := 6, locals := 182 } : Room)
theorem ct_Law_ifServed (w : Wd) (l : Launch) (hw : zWok w) (hl : l.stackTraces = false) : CTW w l y_Law_ifServed b_Law_ifServed 6 (some .int) (zhh 12 h_Law_ifServed) r_Law_ifServed x_Law_ifServed :=
  ct_wrap (ci := 5) (E := zE0) (yM := y_Slit_ifServed) (bM := b_Slit_ifServed) (nM := 5) (rmM := r_Slit_ifServed) (nn := 3) (hs := h_Law_ifServed) (f := exb true 5 d_Slit_ifServed) (pc0 := 7) (p5 := 12) (pend := 23) (off := 11) (idx := 77) (by decide +kernel) rfl rfl (ct_Slit_ifServed w l hw hl) rfl rfl (by decide +kernel) (by decide +kernel) (by decide +kernel) (by decide +kernel) (by decide) (by decide +kernel) (by decide +kernel) (by decide)
  (List.forall_mem_cons.mpr ⟨⟨by decide +kernel, Nat.le_of_ble_eq_true rfl, by decide +kernel, by decide, tw_468⟩, List.forall_mem_cons.mpr ⟨⟨by decide +kernel, Nat.le_of_ble_eq_true rfl, by decide +kernel, by decide, tw_469⟩, fun q hq => absurd hq List.not_mem_nil⟩⟩)
  tw_812 tw_809 tw_1 tw_810 tw_811 (Nat.le_of_ble_eq_true rfl) rfl (by decide +kernel) ⟨Nat.le_of_ble_eq_true rfl, Nat.le_of_ble_eq_true rfl⟩
