section
variable {w : Wd} {p : Program} {l : Launch} {e : Jvm.Env} {s : State} {m : MethodId} {args : Array Value} {below : List Frame} {meth : Method} {c : Code} {Q : State → Prop} {F : Out → G → Prop} {R : Room}
-- CoilSlits.receive
def E_Slit_receive : Env := (true, [(12, 5, 0), (22, 5, 2)], [(.invokestatic 42, 1, x_Slit_isStack), (.invokestatic 53, 3, x_Slit_within), (.invokevirtual 62, 2, x_Yard_hasRoom), (.invokevirtual 70, 2, x_Hist_save), (.invokevirtual 74, 5, x_Yard_bringIn)], [], [], zST, false)
def d_Slit_receive : Dn := (sq (ite' (cno (cat E_Slit_receive [.iload 4, .invokestatic 42] (.ifCond .ne 13)))
  (thw "java/lang/IndexOutOfBoundsException")
  (blk E_Slit_receive []))
  (sq (ite' (cor (cat E_Slit_receive [.iload_n 1, .iconst 1, .sipush 200, .invokestatic 53] (.ifCond .eq 22)) (cor (cat E_Slit_receive [.iload_n 2, .iconst 0, .iconst 3, .invokestatic 53] (.ifCond .eq 13)) (cno (cat E_Slit_receive [.iload_n 3, .iconst 0, .bipush 9, .invokestatic 53] (.ifCond .ne 13)))))
  (thw "java/lang/IllegalArgumentException")
  (blk E_Slit_receive []))
  (sq (ite' (cno (cat E_Slit_receive [.aload_n 0, .getfield 12, .iload 4, .invokevirtual 62] (.ifCond .ne 13)))
  (thw "java/lang/IllegalStateException")
  (blk E_Slit_receive []))
  (rti E_Slit_receive [.aload_n 0, .getfield 22, .aload_n 0, .getfield 12, .invokevirtual 70, .aload_n 0, .getfield 12, .iload 4, .iload_n 1, .iload_n 2, .iload_n 3, .invokevirtual 74]))))
def x_Slit_receive : Ex := zrv 5 (exb true 5 d_Slit_receive)
abbrev r_Slit_receive : Room := ({ frames := 6, cells := 1, slots := 6, locals := 125 } : Room)
theorem eo_Slit_receive (hw : zWok w) (cx : CX w p s m args c b_Slit_receive 5 "CoilSlits") : EnvOk w true p l e r_Slit_receive s m args below meth c Q b_Slit_receive 5 "CoilSlits" E_Slit_receive :=
  ⟨rfl, by decide +kernel, by decide +kernel, by decide +kernel, hw, fun h => absurd h (by decide),
  List.forall_mem_cons.mpr ⟨call_S cx (ct_Slit_isStack w l hw) tw_330 tw_475 tw_1 tw_329 (by decide +kernel) ⟨Nat.le_of_ble_eq_true rfl, Nat.le_of_ble_eq_true rfl⟩, List.forall_mem_cons.mpr ⟨call_S cx (ct_Slit_within w l hw) tw_319 tw_331 tw_1 tw_318 (by decide +kernel) ⟨Nat.le_of_ble_eq_true rfl, Nat.le_of_ble_eq_true rfl⟩, List.forall_mem_cons.mpr ⟨call_V cx (ct_Yard_hasRoom w l hw) tw_372 tw_369 tw_2 tw_370 tw_371 (ci := 2) (Nat.le_of_ble_eq_true rfl) rfl (by decide +kernel) ⟨Nat.le_of_ble_eq_true rfl, Nat.le_of_ble_eq_true rfl⟩, List.forall_mem_cons.mpr ⟨call_V cx (ct_Hist_save w l hw) tw_163 tw_160 tw_6 tw_161 tw_162 (ci := 3) (Nat.le_of_ble_eq_true rfl) rfl (by decide +kernel) ⟨Nat.le_of_ble_eq_true rfl, Nat.le_of_ble_eq_true rfl⟩, List.forall_mem_cons.mpr ⟨call_V cx (ct_Yard_bringIn w l hw) tw_579 tw_576 tw_2 tw_577 tw_578 (ci := 2) (Nat.le_of_ble_eq_true rfl) rfl (by decide +kernel) ⟨Nat.le_of_ble_eq_true rfl, Nat.le_of_ble_eq_true rfl⟩, fun q hq => absurd hq List.not_mem_nil⟩⟩⟩⟩⟩⟩
theorem sn_Slit_receive (h : MC w true p l e r_Slit_receive s m args below meth c Q b_Slit_receive 5 "CoilSlits" E_Slit_receive 1 6 F (some .int)) (hx : MX2 w p l e r_Slit_receive s m args below meth c Q 1 6 F) : Sn (zK w true p l e r_Slit_receive s m args below meth c Q 5) F (fun _ => False) (fun _ => False) 0 0 0 d_Slit_receive 1 6 0 := by
  unfold d_Slit_receive
  exact (sn_sq (pm := 18) (sn_ite (pt := 8) (pf := 18) (sc_no (m_cat h zz (p1 := 5) (tgt := 18) (by decide +kernel) (by decide +kernel) (by decide)))
  (m_thw h hx (X := "java/lang/IndexOutOfBoundsException") (text := "no such stack") (ik := 46) (is := 48) (ic := 50) (by decide +kernel) tw_476 tw_12 (by decide +kernel) (by decide +kernel) zat_all (by decide +kernel) (by decide +kernel) (by decide +kernel) (by decide +kernel) (by decide +kernel) ⟨Nat.le_of_ble_eq_true rfl, Nat.le_of_ble_eq_true rfl, Nat.le_of_ble_eq_true rfl, Nat.le_of_ble_eq_true rfl⟩ (Nat.le_of_ble_eq_true rfl) (Nat.le_of_ble_eq_true rfl))
  (m_blk h zz rfl))
  (sn_sq (pm := 58) (sn_ite (pt := 48) (pf := 58) (sc_or (pm := 29) (m_cat h zz (p1 := 26) (tgt := 48) (by decide +kernel) (by decide +kernel) (by decide)) (sc_or (pm := 38) (m_cat h zz (p1 := 35) (tgt := 48) (by decide +kernel) (by decide +kernel) (by decide)) (sc_no (m_cat h zz (p1 := 45) (tgt := 58) (by decide +kernel) (by decide +kernel) (by decide)))))
  (m_thw h hx (X := "java/lang/IllegalArgumentException") (text := "width, grade or quality out of range") (ik := 57) (is := 59) (ic := 61) (by decide +kernel) tw_544 tw_13 (by decide +kernel) (by decide +kernel) zat_all2 (by decide +kernel) (by decide +kernel) (by decide +kernel) (by decide +kernel) (by decide +kernel) ⟨Nat.le_of_ble_eq_true rfl, Nat.le_of_ble_eq_true rfl, Nat.le_of_ble_eq_true rfl, Nat.le_of_ble_eq_true rfl⟩ (Nat.le_of_ble_eq_true rfl) (Nat.le_of_ble_eq_true rfl))
  (m_blk h zz rfl))
  (sn_sq (pm := 80) (sn_ite (pt := 70) (pf := 80) (sc_no (m_cat h zz (p1 := 67) (tgt := 80) (by decide +kernel) (by decide +kernel) (by decide)))
  (m_thw h hx (X := "java/lang/IllegalStateException") (text := "no room in the stack") (ik := 65) (is := 67) (ic := 69) (by decide +kernel) tw_560 tw_14 (by decide +kernel) (by decide +kernel) zat_all3 (by decide +kernel) (by decide +kernel) (by decide +kernel) (by decide +kernel) (by decide +kernel) ⟨Nat.le_of_ble_eq_true rfl, Nat.le_of_ble_eq_true rfl, Nat.le_of_ble_eq_true rfl, Nat.le_of_ble_eq_true rfl⟩ (Nat.le_of_ble_eq_true rfl) (Nat.le_of_ble_eq_true rfl))
  (m_blk h zz rfl))
  (m_rti h zz (p1 := 103) (by decide +kernel) (by decide +kernel) (Nat.zero_le _) (Nat.zero_le _)))))
theorem ct_Slit_receive (w : Wd) (l : Launch) (hw : zWok w) (hl : l.stackTraces = false) : CTX w l y_Slit_receive b_Slit_receive 5 (some .int) r_Slit_receive (exb true 5 d_Slit_receive) :=
  ctx_of hl (by decide +kernel) (fun p e s m args below meth c Q cx hnm => eo_Slit_receive hw cx) (fun p e s m args below meth c Q F h hx => sn_Slit_receive h hx)
theorem q_Slit_receive {a : Nat} {fs : List Value} {M : Hp} {nx : Nat} (x0 : Int32) (x1 : Int32) (x2 : Int32) (x3 : Int32) (h : M a = some (cO 5 fs)) : x_Slit_receive [.ref a, .int x0, .int x1, .int x2, .int x3] (M, nx) = zres (d_Slit_receive ([some (.ref a), some (.int x0), some (.int x1), some (.int x2), some (.int x3)], [], (M, nx))) := q_ofV [some (.ref a), some (.int x0), some (.int x1), some (.int x2), some (.int x3)] h rfl (Nat.le_of_ble_eq_true rfl) (Or.inr rfl)
theorem lc_Slit_receive_42 : lookI (eC E_Slit_receive) (.invokestatic 42) = some (1, x_Slit_isStack) := rfl
theorem lc_Slit_receive_53 : lookI (eC E_Slit_receive) (.invokestatic 53) = some (3, x_Slit_within) := rfl
theorem lc_Slit_receive_62 : lookI (eC E_Slit_receive) (.invokevirtual 62) = some (2, x_Yard_hasRoom) := rfl
theorem lc_Slit_receive_70 : lookI (eC E_Slit_receive) (.invokevirtual 70) = some (2, x_Hist_save) := rfl
theorem lc_Slit_receive_74 : lookI (eC E_Slit_receive) (.invokevirtual 74) = some (5, x_Yard_bringIn) := rfl
theorem lf_Slit_receive_12 : lookN (eF E_Slit_receive) 12 = some (5, 0) := rfl
theorem lf_Slit_receive_22 : lookN (eF E_Slit_receive) 22 = some (5, 2) := rfl
theorem lb_Slit_receive : eB E_Slit_receive = true := rfl
theorem lt_Slit_receive : eT E_Slit_receive = zST := rfl
-- CoilSlits.move
def E_Slit_move : Env := (true, [(12, 5, 0), (22, 5, 2)], [(.invokestatic 42, 1, x_Slit_isStack), (.invokevirtual 80, 2, x_Yard_heightOf), (.invokevirtual 62, 2, x_Yard_hasRoom), (.invokevirtual 70, 2, x_Hist_save), (.invokevirtual 86, 3, x_Yard_moveTop)], [], [], zST, false)
def d_Slit_move : Dn := (sq (ite' (cor (cat E_Slit_move [.iload_n 1, .invokestatic 42] (.ifCond .eq 10)) (cno (cat E_Slit_move [.iload_n 2, .invokestatic 42] (.ifCond .ne 13))))
  (thw "java/lang/IndexOutOfBoundsException")
  (blk E_Slit_move []))
  (sq (ite' (cno (cat E_Slit_move [.iload_n 1, .iload_n 2] (.if_icmp .ne 13)))
  (thw "java/lang/IllegalArgumentException")
  (blk E_Slit_move []))
  (sq (ite' (cor (cat E_Slit_move [.aload_n 0, .getfield 12, .iload_n 1, .invokevirtual 80] (.ifCond .eq 14)) (cno (cat E_Slit_move [.aload_n 0, .getfield 12, .iload_n 2, .invokevirtual 62] (.ifCond .ne 13))))
  (thw "java/lang/IllegalStateException")
  (blk E_Slit_move []))
  (rti E_Slit_move [.aload_n 0, .getfield 22, .aload_n 0, .getfield 12, .invokevirtual 70, .aload_n 0, .getfield 12, .iload_n 1, .iload_n 2, .invokevirtual 86]))))
def x_Slit_move : Ex := zrv 5 (exb true 3 d_Slit_move)
abbrev r_Slit_move : Room := ({ frames := 6, cells := 1, slots := 6, locals := 125 } : Room)
theorem eo_Slit_move (hw : zWok w) (cx : CX w p s m args c b_Slit_move 3 "CoilSlits") : EnvOk w true p l e r_Slit_move s m args below meth c Q b_Slit_move 3 "CoilSlits" E_Slit_move :=
  ⟨rfl, by decide +kernel, by decide +kernel, by decide +kernel, hw, fun h => absurd h (by decide),
  List.forall_mem_cons.mpr ⟨call_S cx (ct_Slit_isStack w l hw) tw_330 tw_475 tw_1 tw_329 (by decide +kernel) ⟨Nat.le_of_ble_eq_true rfl, Nat.le_of_ble_eq_true rfl⟩, List.forall_mem_cons.mpr ⟨call_V cx (ct_Yard_heightOf w l hw) tw_368 tw_365 tw_2 tw_366 tw_367 (ci := 2) (Nat.le_of_ble_eq_true rfl) rfl (by decide +kernel) ⟨Nat.le_of_ble_eq_true rfl, Nat.le_of_ble_eq_true rfl⟩, List.forall_mem_cons.mpr ⟨call_V cx (ct_Yard_hasRoom w l hw) tw_372 tw_369 tw_2 tw_370 tw_371 (ci := 2) (Nat.le_of_ble_eq_true rfl) rfl (by decide +kernel) ⟨Nat.le_of_ble_eq_true rfl, Nat.le_of_ble_eq_true rfl⟩, List.forall_mem_cons.mpr ⟨call_V cx (ct_Hist_save w l hw) tw_163 tw_160 tw_6 tw_161 tw_162 (ci := 3) (Nat.le_of_ble_eq_true rfl) rfl (by decide +kernel) ⟨Nat.le_of_ble_eq_true rfl, Nat.le_of_ble_eq_true rfl⟩, List.forall_mem_cons.mpr ⟨call_V cx (ct_Yard_moveTop w l hw) tw_254 tw_589 tw_2 tw_252 tw_253 (ci := 2) (Nat.le_of_ble_eq_true rfl) rfl (by decide +kernel) ⟨Nat.le_of_ble_eq_true rfl, Nat.le_of_ble_eq_true rfl⟩, fun q hq => absurd hq List.not_mem_nil⟩⟩⟩⟩⟩⟩
theorem sn_Slit_move (h : MC w true p l e r_Slit_move s m args below meth c Q b_Slit_move 3 "CoilSlits" E_Slit_move 1 6 F (some .int)) (hx : MX2 w p l e r_Slit_move s m args below meth c Q 1 6 F) : Sn (zK w true p l e r_Slit_move s m args below meth c Q 3) F (fun _ => False) (fun _ => False) 0 0 0 d_Slit_move 1 6 0 := by
  unfold d_Slit_move
  exact (sn_sq (pm := 24) (sn_ite (pt := 14) (pf := 24) (sc_or (pm := 7) (m_cat h zz (p1 := 4) (tgt := 14) (by decide +kernel) (by decide +kernel) (by decide)) (sc_no (m_cat h zz (p1 := 11) (tgt := 24) (by decide +kernel) (by decide +kernel) (by decide))))
  (m_thw h hx (X := "java/lang/IndexOutOfBoundsException") (text := "no such stack") (ik := 46) (is := 48) (ic := 50) (by decide +kernel) tw_476 tw_12 (by decide +kernel) (by decide +kernel) zat_all (by decide +kernel) (by decide +kernel) (by decide +kernel) (by decide +kernel) (by decide +kernel) ⟨Nat.le_of_ble_eq_true rfl, Nat.le_of_ble_eq_true rfl, Nat.le_of_ble_eq_true rfl, Nat.le_of_ble_eq_true rfl⟩ (Nat.le_of_ble_eq_true rfl) (Nat.le_of_ble_eq_true rfl))
  (m_blk h zz rfl))
  (sn_sq (pm := 39) (sn_ite (pt := 29) (pf := 39) (sc_no (m_cat h zz (p1 := 26) (tgt := 39) (by decide +kernel) (by decide +kernel) (by decide)))
  (m_thw h hx (X := "java/lang/IllegalArgumentException") (text := "both stacks are the same") (ik := 57) (is := 78) (ic := 61) (by decide +kernel) tw_544 tw_13 (by decide +kernel) (by decide +kernel) zat_all2 (by decide +kernel) (by decide +kernel) (by decide +kernel) (by decide +kernel) (by decide +kernel) ⟨Nat.le_of_ble_eq_true rfl, Nat.le_of_ble_eq_true rfl, Nat.le_of_ble_eq_true rfl, Nat.le_of_ble_eq_true rfl⟩ (Nat.le_of_ble_eq_true rfl) (Nat.le_of_ble_eq_true rfl))
  (m_blk h zz rfl))
  (sn_sq (pm := 71) (sn_ite (pt := 61) (pf := 71) (sc_or (pm := 50) (m_cat h zz (p1 := 47) (tgt := 61) (by decide +kernel) (by decide +kernel) (by decide)) (sc_no (m_cat h zz (p1 := 58) (tgt := 71) (by decide +kernel) (by decide +kernel) (by decide))))
  (m_thw h hx (X := "java/lang/IllegalStateException") (text := "no coil to move, or no room for it") (ik := 65) (is := 84) (ic := 69) (by decide +kernel) tw_560 tw_14 (by decide +kernel) (by decide +kernel) zat_all3 (by decide +kernel) (by decide +kernel) (by decide +kernel) (by decide +kernel) (by decide +kernel) ⟨Nat.le_of_ble_eq_true rfl, Nat.le_of_ble_eq_true rfl, Nat.le_of_ble_eq_true rfl, Nat.le_of_ble_eq_true rfl⟩ (Nat.le_of_ble_eq_true rfl) (Nat.le_of_ble_eq_true rfl))
  (m_blk h zz rfl))
  (m_rti h zz (p1 := 91) (by decide +kernel) (by decide +kernel) (Nat.zero_le _) (Nat.zero_le _)))))
theorem ct_Slit_move (w : Wd) (l : Launch) (hw : zWok w) (hl : l.stackTraces = false) : CTX w l y_Slit_move b_Slit_move 3 (some .int) r_Slit_move (exb true 3 d_Slit_move) :=
  ctx_of hl (by decide +kernel) (fun p e s m args below meth c Q cx hnm => eo_Slit_move hw cx) (fun p e s m args below meth c Q F h hx => sn_Slit_move h hx)
theorem q_Slit_move {a : Nat} {fs : List Value} {M : Hp} {nx : Nat} (x0 : Int32) (x1 : Int32) (h : M a = some (cO 5 fs)) : x_Slit_move [.ref a, .int x0, .int x1] (M, nx) = zres (d_Slit_move ([some (.ref a), some (.int x0), some (.int x1)], [], (M, nx))) := q_ofV [some (.ref a), some (.int x0), some (.int x1)] h rfl (Nat.le_of_ble_eq_true rfl) (Or.inr rfl)
theorem lc_Slit_move_42 : lookI (eC E_Slit_move) (.invokestatic 42) = some (1, x_Slit_isStack) := rfl
theorem lc_Slit_move_80 : lookI (eC E_Slit_move) (.invokevirtual 80) = some (2, x_Yard_heightOf) := rfl
theorem lc_Slit_move_62 : lookI (eC E_Slit_move) (.invokevirtual 62) = some (2, x_Yard_hasRoom) := rfl
theorem lc_Slit_move_70 : lookI (eC E_Slit_move) (.invokevirtual 70) = some (2, x_Hist_save) := rfl
theorem lc_Slit_move_86 : lookI (eC E_Slit_move) (.invokevirtual 86) = some (3, x_Yard_moveTop) := rfl
theorem lf_Slit_move_12 : lookN (eF E_Slit_move) 12 = some (5, 0) := rfl
theorem lf_Slit_move_22 : lookN (eF E_Slit_move) 22 = some (5, 2) := rfl
theorem lb_Slit_move : eB E_Slit_move = true := rfl
theorem lt_Slit_move : eT E_Slit_move = zST := rfl
-- CoilSlits.dig
def E_Slit_dig : Env := (true, [(12, 5, 0), (22, 5, 2)], [(.invokevirtual 90, 2, x_Yard_placeOf), (.invokevirtual 95, 2, x_Yard_canDig), (.invokevirtual 70, 2, x_Hist_save), (.invokevirtual 100, 2, x_Yard_digOut)], [], [], zST, false)
def d_Slit_dig : Dn := (sq (blk E_Slit_dig [.aload_n 0, .getfield 12, .iload_n 1, .invokevirtual 90, .istore_n 2])
  (sq (ite' (cno (cat E_Slit_dig [.iload_n 2, .iconst (-1)] (.if_icmp .ne 13)))
  (thw "java/lang/IndexOutOfBoundsException")
  (blk E_Slit_dig []))
  (sq (ite' (cno (cat E_Slit_dig [.aload_n 0, .getfield 12, .iload_n 2, .invokevirtual 95] (.ifCond .ne 13)))
  (thw "java/lang/IllegalStateException")
  (blk E_Slit_dig []))
  (rti E_Slit_dig [.aload_n 0, .getfield 22, .aload_n 0, .getfield 12, .invokevirtual 70, .aload_n 0, .getfield 12, .iload_n 2, .invokevirtual 100]))))
def x_Slit_dig : Ex := zrv 5 (exb true 3 d_Slit_dig)
abbrev r_Slit_dig : Room := ({ frames := 6, cells := 1, slots := 6, locals := 133 } : Room)
theorem eo_Slit_dig (hw : zWok w) (cx : CX w p s m args c b_Slit_dig 3 "CoilSlits") : EnvOk w true p l e r_Slit_dig s m args below meth c Q b_Slit_dig 3 "CoilSlits" E_Slit_dig :=
  ⟨rfl, by decide +kernel, by decide +kernel, by decide +kernel, hw, fun h => absurd h (by decide),
  List.forall_mem_cons.mpr ⟨call_V cx (ct_Yard_placeOf w l hw) tw_600 tw_597 tw_2 tw_598 tw_599 (ci := 2) (Nat.le_of_ble_eq_true rfl) rfl (by decide +kernel) ⟨Nat.le_of_ble_eq_true rfl, Nat.le_of_ble_eq_true rfl⟩, List.forall_mem_cons.mpr ⟨call_V cx (ct_Yard_canDig w l hw) tw_605 tw_602 tw_2 tw_603 tw_604 (ci := 2) (Nat.le_of_ble_eq_true rfl) rfl (by decide +kernel) ⟨Nat.le_of_ble_eq_true rfl, Nat.le_of_ble_eq_true rfl⟩, List.forall_mem_cons.mpr ⟨call_V cx (ct_Hist_save w l hw) tw_163 tw_160 tw_6 tw_161 tw_162 (ci := 3) (Nat.le_of_ble_eq_true rfl) rfl (by decide +kernel) ⟨Nat.le_of_ble_eq_true rfl, Nat.le_of_ble_eq_true rfl⟩, List.forall_mem_cons.mpr ⟨call_V cx (ct_Yard_digOut w l hw) tw_243 tw_607 tw_2 tw_241 tw_242 (ci := 2) (Nat.le_of_ble_eq_true rfl) rfl (by decide +kernel) ⟨Nat.le_of_ble_eq_true rfl, Nat.le_of_ble_eq_true rfl⟩, fun q hq => absurd hq List.not_mem_nil⟩⟩⟩⟩⟩
theorem sn_Slit_dig (h : MC w true p l e r_Slit_dig s m args below meth c Q b_Slit_dig 3 "CoilSlits" E_Slit_dig 1 6 F (some .int)) (hx : MX2 w p l e r_Slit_dig s m args below meth c Q 1 6 F) : Sn (zK w true p l e r_Slit_dig s m args below meth c Q 3) F (fun _ => False) (fun _ => False) 0 0 0 d_Slit_dig 1 6 0 := by
  unfold d_Slit_dig
  exact (sn_sq (pm := 9) (m_blk h zz (by decide +kernel))
  (sn_sq (pm := 24) (sn_ite (pt := 14) (pf := 24) (sc_no (m_cat h zz (p1 := 11) (tgt := 24) (by decide +kernel) (by decide +kernel) (by decide)))
  (m_thw h hx (X := "java/lang/IndexOutOfBoundsException") (text := "no such coil in the yard") (ik := 46) (is := 93) (ic := 50) (by decide +kernel) tw_476 tw_12 (by decide +kernel) (by decide +kernel) zat_all (by decide +kernel) (by decide +kernel) (by decide +kernel) (by decide +kernel) (by decide +kernel) ⟨Nat.le_of_ble_eq_true rfl, Nat.le_of_ble_eq_true rfl, Nat.le_of_ble_eq_true rfl, Nat.le_of_ble_eq_true rfl⟩ (Nat.le_of_ble_eq_true rfl) (Nat.le_of_ble_eq_true rfl))
  (m_blk h zz rfl))
  (sn_sq (pm := 45) (sn_ite (pt := 35) (pf := 45) (sc_no (m_cat h zz (p1 := 32) (tgt := 45) (by decide +kernel) (by decide +kernel) (by decide)))
  (m_thw h hx (X := "java/lang/IllegalStateException") (text := "the coil cannot be dug out") (ik := 65) (is := 98) (ic := 69) (by decide +kernel) tw_560 tw_14 (by decide +kernel) (by decide +kernel) zat_all3 (by decide +kernel) (by decide +kernel) (by decide +kernel) (by decide +kernel) (by decide +kernel) ⟨Nat.le_of_ble_eq_true rfl, Nat.le_of_ble_eq_true rfl, Nat.le_of_ble_eq_true rfl, Nat.le_of_ble_eq_true rfl⟩ (Nat.le_of_ble_eq_true rfl) (Nat.le_of_ble_eq_true rfl))
  (m_blk h zz rfl))
  (m_rti h zz (p1 := 64) (by decide +kernel) (by decide +kernel) (Nat.zero_le _) (Nat.zero_le _)))))
theorem ct_Slit_dig (w : Wd) (l : Launch) (hw : zWok w) (hl : l.stackTraces = false) : CTX w l y_Slit_dig b_Slit_dig 3 (some .int) r_Slit_dig (exb true 3 d_Slit_dig) :=
  ctx_of hl (by decide +kernel) (fun p e s m args below meth c Q cx hnm => eo_Slit_dig hw cx) (fun p e s m args below meth c Q F h hx => sn_Slit_dig h hx)
theorem q_Slit_dig {a : Nat} {fs : List Value} {M : Hp} {nx : Nat} (x0 : Int32) (h : M a = some (cO 5 fs)) : x_Slit_dig [.ref a, .int x0] (M, nx) = zres (d_Slit_dig ([some (.ref a), some (.int x0), none], [], (M, nx))) := q_ofV [some (.ref a), some (.int x0), none] h rfl (Nat.le_of_ble_eq_true rfl) (Or.inr rfl)
theorem lc_Slit_dig_90 : lookI (eC E_Slit_dig) (.invokevirtual 90) = some (2, x_Yard_placeOf) := rfl
theorem lc_Slit_dig_95 : lookI (eC E_Slit_dig) (.invokevirtual 95) = some (2, x_Yard_canDig) := rfl
theorem lc_Slit_dig_70 : lookI (eC E_Slit_dig) (.invokevirtual 70) = some (2, x_Hist_save) := rfl
theorem lc_Slit_dig_100 : lookI (eC E_Slit_dig) (.invokevirtual 100) = some (2, x_Yard_digOut) := rfl
theorem lf_Slit_dig_12 : lookN (eF E_Slit_dig) 12 = some (5, 0) := rfl
theorem lf_Slit_dig_22 : lookN (eF E_Slit_dig) 22 = some (5, 2) := rfl
theorem lb_Slit_dig : eB E_Slit_dig = true := rfl
theorem lt_Slit_dig : eT E_Slit_dig = zST := rfl
-- CoilSlits.sendAway
def E_Slit_sendAway : Env := (true, [(12, 5, 0), (22, 5, 2)], [(.invokevirtual 90, 2, x_Yard_placeOf), (.invokevirtual 95, 2, x_Yard_canDig), (.invokevirtual 70, 2, x_Hist_save), (.invokevirtual 100, 2, x_Yard_digOut), (.invokestatic 103, 1, x_Slit_stackOf), (.invokevirtual 106, 2, x_Yard_sendTop)], [], [], zST, false)
def d_Slit_sendAway : Dn := (sq (blk E_Slit_sendAway [.aload_n 0, .getfield 12, .iload_n 1, .invokevirtual 90, .istore_n 2])
  (sq (ite' (cno (cat E_Slit_sendAway [.iload_n 2, .iconst (-1)] (.if_icmp .ne 13)))
  (thw "java/lang/IndexOutOfBoundsException")
  (blk E_Slit_sendAway []))
  (sq (ite' (cno (cat E_Slit_sendAway [.aload_n 0, .getfield 12, .iload_n 2, .invokevirtual 95] (.ifCond .ne 13)))
  (thw "java/lang/IllegalStateException")
  (blk E_Slit_sendAway []))
  (rti E_Slit_sendAway [.aload_n 0, .getfield 22, .aload_n 0, .getfield 12, .invokevirtual 70, .aload_n 0, .getfield 12, .iload_n 2, .invokevirtual 100, .pop, .aload_n 0, .getfield 12, .iload_n 2, .invokestatic 103, .invokevirtual 106]))))
def x_Slit_sendAway : Ex := zrv 5 (exb true 3 d_Slit_sendAway)
abbrev r_Slit_sendAway : Room := ({ frames := 6, cells := 1, slots := 6, locals := 133 } : Room)
theorem eo_Slit_sendAway (hw : zWok w) (cx : CX w p s m args c b_Slit_sendAway 3 "CoilSlits") : EnvOk w true p l e r_Slit_sendAway s m args below meth c Q b_Slit_sendAway 3 "CoilSlits" E_Slit_sendAway :=
  ⟨rfl, by decide +kernel, by decide +kernel, by decide +kernel, hw, fun h => absurd h (by decide),
  List.forall_mem_cons.mpr ⟨call_V cx (ct_Yard_placeOf w l hw) tw_600 tw_597 tw_2 tw_598 tw_599 (ci := 2) (Nat.le_of_ble_eq_true rfl) rfl (by decide +kernel) ⟨Nat.le_of_ble_eq_true rfl, Nat.le_of_ble_eq_true rfl⟩, List.forall_mem_cons.mpr ⟨call_V cx (ct_Yard_canDig w l hw) tw_605 tw_602 tw_2 tw_603 tw_604 (ci := 2) (Nat.le_of_ble_eq_true rfl) rfl (by decide +kernel) ⟨Nat.le_of_ble_eq_true rfl, Nat.le_of_ble_eq_true rfl⟩, List.forall_mem_cons.mpr ⟨call_V cx (ct_Hist_save w l hw) tw_163 tw_160 tw_6 tw_161 tw_162 (ci := 3) (Nat.le_of_ble_eq_true rfl) rfl (by decide +kernel) ⟨Nat.le_of_ble_eq_true rfl, Nat.le_of_ble_eq_true rfl⟩, List.forall_mem_cons.mpr ⟨call_V cx (ct_Yard_digOut w l hw) tw_243 tw_607 tw_2 tw_241 tw_242 (ci := 2) (Nat.le_of_ble_eq_true rfl) rfl (by decide +kernel) ⟨Nat.le_of_ble_eq_true rfl, Nat.le_of_ble_eq_true rfl⟩, List.forall_mem_cons.mpr ⟨call_S cx (ct_Slit_stackOf w l hw) tw_227 tw_615 tw_1 tw_226 (by decide +kernel) ⟨Nat.le_of_ble_eq_true rfl, Nat.le_of_ble_eq_true rfl⟩, List.forall_mem_cons.mpr ⟨call_V cx (ct_Yard_sendTop w l hw) tw_619 tw_616 tw_2 tw_617 tw_618 (ci := 2) (Nat.le_of_ble_eq_true rfl) rfl (by decide +kernel) ⟨Nat.le_of_ble_eq_true rfl, Nat.le_of_ble_eq_true rfl⟩, fun q hq => absurd hq List.not_mem_nil⟩⟩⟩⟩⟩⟩⟩
theorem sn_Slit_sendAway (h : MC w true p l e r_Slit_sendAway s m args below meth c Q b_Slit_sendAway 3 "CoilSlits" E_Slit_sendAway 1 6 F (some .int)) (hx : MX2 w p l e r_Slit_sendAway s m args below meth c Q 1 6 F) : Sn (zK w true p l e r_Slit_sendAway s m args below meth c Q 3) F (fun _ => False) (fun _ => False) 0 0 0 d_Slit_sendAway 1 6 0 := by
  unfold d_Slit_sendAway
  exact (sn_sq (pm := 9) (m_blk h zz (by decide +kernel))
  (sn_sq (pm := 24) (sn_ite (pt := 14) (pf := 24) (sc_no (m_cat h zz (p1 := 11) (tgt := 24) (by decide +kernel) (by decide +kernel) (by decide)))
  (m_thw h hx (X := "java/lang/IndexOutOfBoundsException") (text := "no such coil in the yard") (ik := 46) (is := 93) (ic := 50) (by decide +kernel) tw_476 tw_12 (by decide +kernel) (by decide +kernel) zat_all (by decide +kernel) (by decide +kernel) (by decide +kernel) (by decide +kernel) (by decide +kernel) ⟨Nat.le_of_ble_eq_true rfl, Nat.le_of_ble_eq_true rfl, Nat.le_of_ble_eq_true rfl, Nat.le_of_ble_eq_true rfl⟩ (Nat.le_of_ble_eq_true rfl) (Nat.le_of_ble_eq_true rfl))
  (m_blk h zz rfl))
  (sn_sq (pm := 45) (sn_ite (pt := 35) (pf := 45) (sc_no (m_cat h zz (p1 := 32) (tgt := 45) (by decide +kernel) (by decide +kernel) (by decide)))
  (m_thw h hx (X := "java/lang/IllegalStateException") (text := "the coil cannot be dug out") (ik := 65) (is := 98) (ic := 69) (by decide +kernel) tw_560 tw_14 (by decide +kernel) (by decide +kernel) zat_all3 (by decide +kernel) (by decide +kernel) (by decide +kernel) (by decide +kernel) (by decide +kernel) ⟨Nat.le_of_ble_eq_true rfl, Nat.le_of_ble_eq_true rfl, Nat.le_of_ble_eq_true rfl, Nat.le_of_ble_eq_true rfl⟩ (Nat.le_of_ble_eq_true rfl) (Nat.le_of_ble_eq_true rfl))
  (m_blk h zz rfl))
  (m_rti h zz (p1 := 76) (by decide +kernel) (by decide +kernel) (Nat.zero_le _) (Nat.zero_le _)))))
theorem ct_Slit_sendAway (w : Wd) (l : Launch) (hw : zWok w) (hl : l.stackTraces = false) : CTX w l y_Slit_sendAway b_Slit_sendAway 3 (some .int) r_Slit_sendAway (exb true 3 d_Slit_sendAway) :=
  ctx_of hl (by decide +kernel) (fun p e s m args below meth c Q cx hnm => eo_Slit_sendAway hw cx) (fun p e s m args below meth c Q F h hx => sn_Slit_sendAway h hx)
theorem q_Slit_sendAway {a : Nat} {fs : List Value} {M : Hp} {nx : Nat} (x0 : Int32) (h : M a = some (cO 5 fs)) : x_Slit_sendAway [.ref a, .int x0] (M, nx) = zres (d_Slit_sendAway ([some (.ref a), some (.int x0), none], [], (M, nx))) := q_ofV [some (.ref a), some (.int x0), none] h rfl (Nat.le_of_ble_eq_true rfl) (Or.inr rfl)
theorem lc_Slit_sendAway_90 : lookI (eC E_Slit_sendAway) (.invokevirtual 90) = some (2, x_Yard_placeOf) := rfl
theorem lc_Slit_sendAway_95 : lookI (eC E_Slit_sendAway) (.invokevirtual 95) = some (2, x_Yard_canDig) := rfl
theorem lc_Slit_sendAway_70 : lookI (eC E_Slit_sendAway) (.invokevirtual 70) = some (2, x_Hist_save) := rfl
theorem lc_Slit_sendAway_100 : lookI (eC E_Slit_sendAway) (.invokevirtual 100) = some (2, x_Yard_digOut) := rfl
theorem lc_Slit_sendAway_103 : lookI (eC E_Slit_sendAway) (.invokestatic 103) = some (1, x_Slit_stackOf) := rfl
theorem lc_Slit_sendAway_106 : lookI (eC E_Slit_sendAway) (.invokevirtual 106) = some (2, x_Yard_sendTop) := rfl
theorem lf_Slit_sendAway_12 : lookN (eF E_Slit_sendAway) 12 = some (5, 0) := rfl
theorem lf_Slit_sendAway_22 : lookN (eF E_Slit_sendAway) 22 = some (5, 2) := rfl
theorem lb_Slit_sendAway : eB E_Slit_sendAway = true := rfl
theorem lt_Slit_sendAway : eT E_Slit_sendAway = zST := rfl
-- CoilSlits.order
def E_Slit_order : Env := (true, [(12, 5, 0), (22, 5, 2)], [(.invokestatic 53, 3, x_Slit_within), (.invokevirtual 111, 1, x_Yard_orderCount), (.invokevirtual 70, 2, x_Hist_save), (.invokevirtual 117, 6, x_Yard_takeOrder)], [], [], zST, false)
def d_Slit_order : Dn := (sq (ite' (cor (cat E_Slit_order [.iload_n 1, .iconst 0, .iconst 3, .invokestatic 53] (.ifCond .eq 45)) (cor (cat E_Slit_order [.iload_n 2, .iconst 0, .bipush 9, .invokestatic 53] (.ifCond .eq 35)) (cor (cat E_Slit_order [.iload_n 3, .iconst 2, .bipush 100, .invokestatic 53] (.ifCond .eq 25)) (cor (cat E_Slit_order [.iload 4, .iconst 1, .bipush 40, .invokestatic 53] (.ifCond .eq 14)) (cno (cat E_Slit_order [.iload 5, .iconst 1, .bipush 99, .invokestatic 53] (.ifCond .ne 13)))))))
  (thw "java/lang/IllegalArgumentException")
  (blk E_Slit_order []))
  (sq (ite' (cno (cat E_Slit_order [.aload_n 0, .getfield 12, .invokevirtual 111, .bipush 8] (.if_icmp .lt 13)))
  (thw "java/lang/IllegalStateException")
  (blk E_Slit_order []))
  (rti E_Slit_order [.aload_n 0, .getfield 22, .aload_n 0, .getfield 12, .invokevirtual 70, .aload_n 0, .getfield 12, .iload_n 1, .iload_n 2, .iload_n 3, .iload 4, .iload 5, .invokevirtual 117])))
def x_Slit_order : Ex := zrv 5 (exb true 6 d_Slit_order)
abbrev r_Slit_order : Room := ({ frames := 6, cells := 1, slots := 6, locals := 125 } : Room)
theorem eo_Slit_order (hw : zWok w) (cx : CX w p s m args c b_Slit_order 6 "CoilSlits") : EnvOk w true p l e r_Slit_order s m args below meth c Q b_Slit_order 6 "CoilSlits" E_Slit_order :=
  ⟨rfl, by decide +kernel, by decide +kernel, by decide +kernel, hw, fun h => absurd h (by decide),
  List.forall_mem_cons.mpr ⟨call_S cx (ct_Slit_within w l hw) tw_319 tw_331 tw_1 tw_318 (by decide +kernel) ⟨Nat.le_of_ble_eq_true rfl, Nat.le_of_ble_eq_true rfl⟩, List.forall_mem_cons.mpr ⟨call_V cx (ct_Yard_orderCount w l hw) tw_397 tw_394 tw_2 tw_395 tw_396 (ci := 2) (Nat.le_of_ble_eq_true rfl) rfl (by decide +kernel) ⟨Nat.le_of_ble_eq_true rfl, Nat.le_of_ble_eq_true rfl⟩, List.forall_mem_cons.mpr ⟨call_V cx (ct_Hist_save w l hw) tw_163 tw_160 tw_6 tw_161 tw_162 (ci := 3) (Nat.le_of_ble_eq_true rfl) rfl (by decide +kernel) ⟨Nat.le_of_ble_eq_true rfl, Nat.le_of_ble_eq_true rfl⟩, List.forall_mem_cons.mpr ⟨call_V cx (ct_Yard_takeOrder w l hw) tw_632 tw_629 tw_2 tw_630 tw_631 (ci := 2) (Nat.le_of_ble_eq_true rfl) rfl (by decide +kernel) ⟨Nat.le_of_ble_eq_true rfl, Nat.le_of_ble_eq_true rfl⟩, fun q hq => absurd hq List.not_mem_nil⟩⟩⟩⟩⟩
theorem sn_Slit_order (h : MC w true p l e r_Slit_order s m args below meth c Q b_Slit_order 6 "CoilSlits" E_Slit_order 1 6 F (some .int)) (hx : MX2 w p l e r_Slit_order s m args below meth c Q 1 6 F) : Sn (zK w true p l e r_Slit_order s m args below meth c Q 6) F (fun _ => False) (fun _ => False) 0 0 0 d_Slit_order 1 6 0 := by
  unfold d_Slit_order
  exact (sn_sq (pm := 61) (sn_ite (pt := 51) (pf := 61) (sc_or (pm := 9) (m_cat h zz (p1 := 6) (tgt := 51) (by decide +kernel) (by decide +kernel) (by decide)) (sc_or (pm := 19) (m_cat h zz (p1 := 16) (tgt := 51) (by decide +kernel) (by decide +kernel) (by decide)) (sc_or (pm := 29) (m_cat h zz (p1 := 26) (tgt := 51) (by decide +kernel) (by decide +kernel) (by decide)) (sc_or (pm := 40) (m_cat h zz (p1 := 37) (tgt := 51) (by decide +kernel) (by decide +kernel) (by decide)) (sc_no (m_cat h zz (p1 := 48) (tgt := 61) (by decide +kernel) (by decide +kernel) (by decide)))))))
  (m_thw h hx (X := "java/lang/IllegalArgumentException") (text := "an argument is out of range") (ik := 57) (is := 109) (ic := 61) (by decide +kernel) tw_544 tw_13 (by decide +kernel) (by decide +kernel) zat_all2 (by decide +kernel) (by decide +kernel) (by decide +kernel) (by decide +kernel) (by decide +kernel) ⟨Nat.le_of_ble_eq_true rfl, Nat.le_of_ble_eq_true rfl, Nat.le_of_ble_eq_true rfl, Nat.le_of_ble_eq_true rfl⟩ (Nat.le_of_ble_eq_true rfl) (Nat.le_of_ble_eq_true rfl))
  (m_blk h zz rfl))
  (sn_sq (pm := 83) (sn_ite (pt := 73) (pf := 83) (sc_no (m_cat h zz (p1 := 70) (tgt := 83) (by decide +kernel) (by decide +kernel) (by decide)))
  (m_thw h hx (X := "java/lang/IllegalStateException") (text := "no more orders can be taken") (ik := 65) (is := 115) (ic := 69) (by decide +kernel) tw_560 tw_14 (by decide +kernel) (by decide +kernel) zat_all3 (by decide +kernel) (by decide +kernel) (by decide +kernel) (by decide +kernel) (by decide +kernel) ⟨Nat.le_of_ble_eq_true rfl, Nat.le_of_ble_eq_true rfl, Nat.le_of_ble_eq_true rfl, Nat.le_of_ble_eq_true rfl⟩ (Nat.le_of_ble_eq_true rfl) (Nat.le_of_ble_eq_true rfl))
  (m_blk h zz rfl))
  (m_rti h zz (p1 := 108) (by decide +kernel) (by decide +kernel) (Nat.zero_le _) (Nat.zero_le _))))
theorem ct_Slit_order (w : Wd) (l : Launch) (hw : zWok w) (hl : l.stackTraces = false) : CTX w l y_Slit_order b_Slit_order 6 (some .int) r_Slit_order (exb true 6 d_Slit_order) :=
  ctx_of hl (by decide +kernel) (fun p e s m args below meth c Q cx hnm => eo_Slit_order hw cx) (fun p e s m args below meth c Q F h hx => sn_Slit_order h hx)
theorem q_Slit_order {a : Nat} {fs : List Value} {M : Hp} {nx : Nat} (x0 : Int32) (x1 : Int32) (x2 : Int32) (x3 : Int32) (x4 : Int32) (h : M a = some (cO 5 fs)) : x_Slit_order [.ref a, .int x0, .int x1, .int x2, .int x3, .int x4] (M, nx) = zres (d_Slit_order ([some (.ref a), some (.int x0), some (.int x1), some (.int x2), some (.int x3), some (.int x4)], [], (M, nx))) := q_ofV [some (.ref a), some (.int x0), some (.int x1), some (.int x2), some (.int x3), some (.int x4)] h rfl (Nat.le_of_ble_eq_true rfl) (Or.inr rfl)
theorem lc_Slit_order_53 : lookI (eC E_Slit_order) (.invokestatic 53) = some (3, x_Slit_within) := rfl
theorem lc_Slit_order_111 : lookI (eC E_Slit_order) (.invokevirtual 111) = some (1, x_Yard_orderCount) := rfl
theorem lc_Slit_order_70 : lookI (eC E_Slit_order) (.invokevirtual 70) = some (2, x_Hist_save) := rfl
theorem lc_Slit_order_117 : lookI (eC E_Slit_order) (.invokevirtual 117) = some (6, x_Yard_takeOrder) := rfl
theorem lf_Slit_order_12 : lookN (eF E_Slit_order) 12 = some (5, 0) := rfl
theorem lf_Slit_order_22 : lookN (eF E_Slit_order) 22 = some (5, 2) := rfl
theorem lb_Slit_order : eB E_Slit_order = true := rfl
theorem lt_Slit_order : eT E_Slit_order = zST := rfl
-- CoilSlits.cancel
def E_Slit_cancel : Env := (true, [(12, 5, 0), (22, 5, 2)], [(.invokevirtual 121, 2, x_Yard_indexOfOrder), (.invokevirtual 70, 2, x_Hist_save), (.invokevirtual 126, 3, x_Yard_orderColumn), (.invokevirtual 129, 2, x_Yard_dropOrder)], [], [], zST, false)
def d_Slit_cancel : Dn := (sq (blk E_Slit_cancel [.aload_n 0, .getfield 12, .iload_n 1, .invokevirtual 121, .istore_n 2])
  (sq (ite' (cno (cat E_Slit_cancel [.iload_n 2, .iconst (-1)] (.if_icmp .ne 13)))
  (thw "java/lang/IndexOutOfBoundsException")
  (blk E_Slit_cancel []))
  (rti E_Slit_cancel [.aload_n 0, .getfield 22, .aload_n 0, .getfield 12, .invokevirtual 70, .aload_n 0, .getfield 12, .iload_n 2, .iconst 4, .invokevirtual 126, .istore_n 3, .aload_n 0, .getfield 12, .iload_n 2, .invokevirtual 129, .iload_n 3])))
def x_Slit_cancel : Ex := zrv 5 (exb true 4 d_Slit_cancel)
abbrev r_Slit_cancel : Room := ({ frames := 6, cells := 1, slots := 6, locals := 125 } : Room)
theorem eo_Slit_cancel (hw : zWok w) (cx : CX w p s m args c b_Slit_cancel 4 "CoilSlits") : EnvOk w true p l e r_Slit_cancel s m args below meth c Q b_Slit_cancel 4 "CoilSlits" E_Slit_cancel :=
  ⟨rfl, by decide +kernel, by decide +kernel, by decide +kernel, hw, fun h => absurd h (by decide),
  List.forall_mem_cons.mpr ⟨call_V cx (ct_Yard_indexOfOrder w l hw) tw_643 tw_640 tw_2 tw_641 tw_642 (ci := 2) (Nat.le_of_ble_eq_true rfl) rfl (by decide +kernel) ⟨Nat.le_of_ble_eq_true rfl, Nat.le_of_ble_eq_true rfl⟩, List.forall_mem_cons.mpr ⟨call_V cx (ct_Hist_save w l hw) tw_163 tw_160 tw_6 tw_161 tw_162 (ci := 3) (Nat.le_of_ble_eq_true rfl) rfl (by decide +kernel) ⟨Nat.le_of_ble_eq_true rfl, Nat.le_of_ble_eq_true rfl⟩, List.forall_mem_cons.mpr ⟨call_V cx (ct_Yard_orderColumn w l hw) tw_648 tw_645 tw_2 tw_646 tw_647 (ci := 2) (Nat.le_of_ble_eq_true rfl) rfl (by decide +kernel) ⟨Nat.le_of_ble_eq_true rfl, Nat.le_of_ble_eq_true rfl⟩, List.forall_mem_cons.mpr ⟨call_V cx (ct_Yard_dropOrder w l hw) tw_283 tw_649 tw_2 tw_281 tw_282 (ci := 2) (Nat.le_of_ble_eq_true rfl) rfl (by decide +kernel) ⟨Nat.le_of_ble_eq_true rfl, Nat.le_of_ble_eq_true rfl⟩, fun q hq => absurd hq List.not_mem_nil⟩⟩⟩⟩⟩
theorem sn_Slit_cancel (h : MC w true p l e r_Slit_cancel s m args below meth c Q b_Slit_cancel 4 "CoilSlits" E_Slit_cancel 1 6 F (some .int)) (hx : MX2 w p l e r_Slit_cancel s m args below meth c Q 1 6 F) : Sn (zK w true p l e r_Slit_cancel s m args below meth c Q 4) F (fun _ => False) (fun _ => False) 0 0 0 d_Slit_cancel 1 6 0 := by
  unfold d_Slit_cancel
  exact (sn_sq (pm := 9) (m_blk h zz (by decide +kernel))
  (sn_sq (pm := 24) (sn_ite (pt := 14) (pf := 24) (sc_no (m_cat h zz (p1 := 11) (tgt := 24) (by decide +kernel) (by decide +kernel) (by decide)))
  (m_thw h hx (X := "java/lang/IndexOutOfBoundsException") (text := "no such order") (ik := 46) (is := 124) (ic := 50) (by decide +kernel) tw_476 tw_12 (by decide +kernel) (by decide +kernel) zat_all (by decide +kernel) (by decide +kernel) (by decide +kernel) (by decide +kernel) (by decide +kernel) ⟨Nat.le_of_ble_eq_true rfl, Nat.le_of_ble_eq_true rfl, Nat.le_of_ble_eq_true rfl, Nat.le_of_ble_eq_true rfl⟩ (Nat.le_of_ble_eq_true rfl) (Nat.le_of_ble_eq_true rfl))
  (m_blk h zz rfl))
  (m_rti h zz (p1 := 54) (by decide +kernel) (by decide +kernel) (Nat.zero_le _) (Nat.zero_le _))))
theorem ct_Slit_cancel (w : Wd) (l : Launch) (hw : zWok w) (hl : l.stackTraces = false) : CTX w l y_Slit_cancel b_Slit_cancel 4 (some .int) r_Slit_cancel (exb true 4 d_Slit_cancel) :=
  ctx_of hl (by decide +kernel) (fun p e s m args below meth c Q cx hnm => eo_Slit_cancel hw cx) (fun p e s m args below meth c Q F h hx => sn_Slit_cancel h hx)
theorem q_Slit_cancel {a : Nat} {fs : List Value} {M : Hp} {nx : Nat} (x0 : Int32) (h : M a = some (cO 5 fs)) : x_Slit_cancel [.ref a, .int x0] (M, nx) = zres (d_Slit_cancel ([some (.ref a), some (.int x0), none, none], [], (M, nx))) := q_ofV [some (.ref a), some (.int x0), none, none] h rfl (Nat.le_of_ble_eq_true rfl) (Or.inr rfl)
theorem lc_Slit_cancel_121 : lookI (eC E_Slit_cancel) (.invokevirtual 121) = some (2, x_Yard_indexOfOrder) := rfl
theorem lc_Slit_cancel_70 : lookI (eC E_Slit_cancel) (.invokevirtual 70) = some (2, x_Hist_save) := rfl
theorem lc_Slit_cancel_126 : lookI (eC E_Slit_cancel) (.invokevirtual 126) = some (3, x_Yard_orderColumn) := rfl
theorem lc_Slit_cancel_129 : lookI (eC E_Slit_cancel) (.invokevirtual 129) = some (2, x_Yard_dropOrder) := rfl
theorem lf_Slit_cancel_12 : lookN (eF E_Slit_cancel) 12 = some (5, 0) := rfl
theorem lf_Slit_cancel_22 : lookN (eF E_Slit_cancel) 22 = some (5, 2) := rfl
theorem lb_Slit_cancel : eB E_Slit_cancel = true := rfl
theorem lt_Slit_cancel : eT E_Slit_cancel = zST := rfl
-- CoilSlits.slit
def E_Slit_slit : Env := (true, [(12, 5, 0), (22, 5, 2)], [(.invokevirtual 121, 2, x_Yard_indexOfOrder), (.invokevirtual 90, 2, x_Yard_placeOf), (.invokevirtual 134, 3, x_Yard_reasonAgainst), (.invokevirtual 70, 2, x_Hist_save), (.invokevirtual 100, 2, x_Yard_digOut), (.invokestatic 103, 1, x_Slit_stackOf), (.invokevirtual 139, 3, x_Yard_cutTop), (.invokevirtual 142, 2, x_Yard_dropIfDone)], [], [], zST, false)
def d_Slit_slit : Dn := (sq (blk E_Slit_slit [.aload_n 0, .getfield 12, .iload_n 1, .invokevirtual 121, .istore_n 3, .aload_n 0, .getfield 12, .iload_n 2, .invokevirtual 90, .istore 4])
  (sq (ite' (cor (cat E_Slit_slit [.iload_n 3, .iconst (-1)] (.if_icmp .eq 9)) (cno (cat E_Slit_slit [.iload 4, .iconst (-1)] (.if_icmp .ne 13))))
  (thw "java/lang/IndexOutOfBoundsException")
  (blk E_Slit_slit []))
  (sq (ite' (cno (cat E_Slit_slit [.aload_n 0, .getfield 12, .iload_n 3, .iload 4, .invokevirtual 134] (.ifCond .eq 13)))
  (thw "java/lang/IllegalStateException")
  (blk E_Slit_slit []))
  (rti E_Slit_slit [.aload_n 0, .getfield 22, .aload_n 0, .getfield 12, .invokevirtual 70, .aload_n 0, .getfield 12, .iload 4, .invokevirtual 100, .pop, .aload_n 0, .getfield 12, .iload_n 3, .iload 4, .invokestatic 103, .invokevirtual 139, .istore 5, .aload_n 0, .getfield 12, .iload_n 3, .invokevirtual 142, .iload 5]))))
def x_Slit_slit : Ex := zrv 5 (exb true 6 d_Slit_slit)
abbrev r_Slit_slit : Room := ({ frames := 6, cells := 1, slots := 6, locals := 133 } : Room)
theorem eo_Slit_slit (hw : zWok w) (cx : CX w p s m args c b_Slit_slit 6 "CoilSlits") : EnvOk w true p l e r_Slit_slit s m args below meth c Q b_Slit_slit 6 "CoilSlits" E_Slit_slit :=
  ⟨rfl, by decide +kernel, by decide +kernel, by decide +kernel, hw, fun h => absurd h (by decide),
  List.forall_mem_cons.mpr ⟨call_V cx (ct_Yard_indexOfOrder w l hw) tw_643 tw_640 tw_2 tw_641 tw_642 (ci := 2) (Nat.le_of_ble_eq_true rfl) rfl (by decide +kernel) ⟨Nat.le_of_ble_eq_true rfl, Nat.le_of_ble_eq_true rfl⟩, List.forall_mem_cons.mpr ⟨call_V cx (ct_Yard_placeOf w l hw) tw_600 tw_597 tw_2 tw_598 tw_599 (ci := 2) (Nat.le_of_ble_eq_true rfl) rfl (by decide +kernel) ⟨Nat.le_of_ble_eq_true rfl, Nat.le_of_ble_eq_true rfl⟩, List.forall_mem_cons.mpr ⟨call_V cx (ct_Yard_reasonAgainst w l hw) tw_661 tw_658 tw_2 tw_659 tw_660 (ci := 2) (Nat.le_of_ble_eq_true rfl) rfl (by decide +kernel) ⟨Nat.le_of_ble_eq_true rfl, Nat.le_of_ble_eq_true rfl⟩, List.forall_mem_cons.mpr ⟨call_V cx (ct_Hist_save w l hw) tw_163 tw_160 tw_6 tw_161 tw_162 (ci := 3) (Nat.le_of_ble_eq_true rfl) rfl (by decide +kernel) ⟨Nat.le_of_ble_eq_true rfl, Nat.le_of_ble_eq_true rfl⟩, List.forall_mem_cons.mpr ⟨call_V cx (ct_Yard_digOut w l hw) tw_243 tw_607 tw_2 tw_241 tw_242 (ci := 2) (Nat.le_of_ble_eq_true rfl) rfl (by decide +kernel) ⟨Nat.le_of_ble_eq_true rfl, Nat.le_of_ble_eq_true rfl⟩, List.forall_mem_cons.mpr ⟨call_S cx (ct_Slit_stackOf w l hw) tw_227 tw_615 tw_1 tw_226 (by decide +kernel) ⟨Nat.le_of_ble_eq_true rfl, Nat.le_of_ble_eq_true rfl⟩, List.forall_mem_cons.mpr ⟨call_V cx (ct_Yard_cutTop w l hw) tw_266 tw_664 tw_2 tw_264 tw_265 (ci := 2) (Nat.le_of_ble_eq_true rfl) rfl (by decide +kernel) ⟨Nat.le_of_ble_eq_true rfl, Nat.le_of_ble_eq_true rfl⟩, List.forall_mem_cons.mpr ⟨call_V cx (ct_Yard_dropIfDone w l hw) tw_279 tw_665 tw_2 tw_277 tw_278 (ci := 2) (Nat.le_of_ble_eq_true rfl) rfl (by decide +kernel) ⟨Nat.le_of_ble_eq_true rfl, Nat.le_of_ble_eq_true rfl⟩, fun q hq => absurd hq List.not_mem_nil⟩⟩⟩⟩⟩⟩⟩⟩⟩
theorem sn_Slit_slit (h : MC w true p l e r_Slit_slit s m args below meth c Q b_Slit_slit 6 "CoilSlits" E_Slit_slit 1 6 F (some .int)) (hx : MX2 w p l e r_Slit_slit s m args below meth c Q 1 6 F) : Sn (zK w true p l e r_Slit_slit s m args below meth c Q 6) F (fun _ => False) (fun _ => False) 0 0 0 d_Slit_slit 1 6 0 := by
  unfold d_Slit_slit
  exact (sn_sq (pm := 19) (m_blk h zz (by decide +kernel))
  (sn_sq (pm := 40) (sn_ite (pt := 30) (pf := 40) (sc_or (pm := 24) (m_cat h zz (p1 := 21) (tgt := 30) (by decide +kernel) (by decide +kernel) (by decide)) (sc_no (m_cat h zz (p1 := 27) (tgt := 40) (by decide +kernel) (by decide +kernel) (by decide))))
  (m_thw h hx (X := "java/lang/IndexOutOfBoundsException") (text := "no such order, or no such coil in the yard") (ik := 46) (is := 132) (ic := 50) (by decide +kernel) tw_476 tw_12 (by decide +kernel) (by decide +kernel) zat_all (by decide +kernel) (by decide +kernel) (by decide +kernel) (by decide +kernel) (by decide +kernel) ⟨Nat.le_of_ble_eq_true rfl, Nat.le_of_ble_eq_true rfl, Nat.le_of_ble_eq_true rfl, Nat.le_of_ble_eq_true rfl⟩ (Nat.le_of_ble_eq_true rfl) (Nat.le_of_ble_eq_true rfl))
  (m_blk h zz rfl))
  (sn_sq (pm := 63) (sn_ite (pt := 53) (pf := 63) (sc_no (m_cat h zz (p1 := 50) (tgt := 63) (by decide +kernel) (by decide +kernel) (by decide)))
  (m_thw h hx (X := "java/lang/IllegalStateException") (text := "the coil does not suit, or cannot be dug out") (ik := 65) (is := 137) (ic := 69) (by decide +kernel) tw_560 tw_14 (by decide +kernel) (by decide +kernel) zat_all3 (by decide +kernel) (by decide +kernel) (by decide +kernel) (by decide +kernel) (by decide +kernel) ⟨Nat.le_of_ble_eq_true rfl, Nat.le_of_ble_eq_true rfl, Nat.le_of_ble_eq_true rfl, Nat.le_of_ble_eq_true rfl⟩ (Nat.le_of_ble_eq_true rfl) (Nat.le_of_ble_eq_true rfl))
  (m_blk h zz rfl))
  (m_rti h zz (p1 := 109) (by decide +kernel) (by decide +kernel) (Nat.zero_le _) (Nat.zero_le _)))))
theorem ct_Slit_slit (w : Wd) (l : Launch) (hw : zWok w) (hl : l.stackTraces = false) : CTX w l y_Slit_slit b_Slit_slit 6 (some .int) r_Slit_slit (exb true 6 d_Slit_slit) :=
  ctx_of hl (by decide +kernel) (fun p e s m args below meth c Q cx hnm => eo_Slit_slit hw cx) (fun p e s m args below meth c Q F h hx => sn_Slit_slit h hx)
theorem q_Slit_slit {a : Nat} {fs : List Value} {M : Hp} {nx : Nat} (x0 : Int32) (x1 : Int32) (h : M a = some (cO 5 fs)) : x_Slit_slit [.ref a, .int x0, .int x1] (M, nx) = zres (d_Slit_slit ([some (.ref a), some (.int x0), some (.int x1), none, none, none], [], (M, nx))) := q_ofV [some (.ref a), some (.int x0), some (.int x1), none, none, none] h rfl (Nat.le_of_ble_eq_true rfl) (Or.inr rfl)
theorem lc_Slit_slit_121 : lookI (eC E_Slit_slit) (.invokevirtual 121) = some (2, x_Yard_indexOfOrder) := rfl
theorem lc_Slit_slit_90 : lookI (eC E_Slit_slit) (.invokevirtual 90) = some (2, x_Yard_placeOf) := rfl
theorem lc_Slit_slit_134 : lookI (eC E_Slit_slit) (.invokevirtual 134) = some (3, x_Yard_reasonAgainst) := rfl
theorem lc_Slit_slit_70 : lookI (eC E_Slit_slit) (.invokevirtual 70) = some (2, x_Hist_save) := rfl
theorem lc_Slit_slit_100 : lookI (eC E_Slit_slit) (.invokevirtual 100) = some (2, x_Yard_digOut) := rfl
theorem lc_Slit_slit_103 : lookI (eC E_Slit_slit) (.invokestatic 103) = some (1, x_Slit_stackOf) := rfl
theorem lc_Slit_slit_139 : lookI (eC E_Slit_slit) (.invokevirtual 139) = some (3, x_Yard_cutTop) := rfl
theorem lc_Slit_slit_142 : lookI (eC E_Slit_slit) (.invokevirtual 142) = some (2, x_Yard_dropIfDone) := rfl
theorem lf_Slit_slit_12 : lookN (eF E_Slit_slit) 12 = some (5, 0) := rfl
theorem lf_Slit_slit_22 : lookN (eF E_Slit_slit) 22 = some (5, 2) := rfl
theorem lb_Slit_slit : eB E_Slit_slit = true := rfl
theorem lt_Slit_slit : eT E_Slit_slit = zST := rfl
-- CoilSlits.serve
def E_Slit_serve : Env := (true, [(12, 5, 0), (22, 5, 2)], [(.invokevirtual 121, 2, x_Yard_indexOfOrder), (.invokevirtual 70, 2, x_Hist_save), (.invokevirtual 145, 2, x_Yard_fulfil)], [], [], zST, false)
def d_Slit_serve : Dn := (sq (blk E_Slit_serve [.aload_n 0, .getfield 12, .iload_n 1, .invokevirtual 121, .istore_n 2])
  (sq (ite' (cno (cat E_Slit_serve [.iload_n 2, .iconst (-1)] (.if_icmp .ne 13)))
  (thw "java/lang/IndexOutOfBoundsException")
  (blk E_Slit_serve []))
  (rti E_Slit_serve [.aload_n 0, .getfield 22, .aload_n 0, .getfield 12, .invokevirtual 70, .aload_n 0, .getfield 12, .iload_n 2, .invokevirtual 145])))
def x_Slit_serve : Ex := zrv 5 (exb true 3 d_Slit_serve)
abbrev r_Slit_serve : Room := ({ frames := 6, cells := 1, slots := 6, locals := 158 } : Room)
theorem eo_Slit_serve (hw : zWok w) (cx : CX w p s m args c b_Slit_serve 3 "CoilSlits") : EnvOk w true p l e r_Slit_serve s m args below meth c Q b_Slit_serve 3 "CoilSlits" E_Slit_serve :=
  ⟨rfl, by decide +kernel, by decide +kernel, by decide +kernel, hw, fun h => absurd h (by decide),
  List.forall_mem_cons.mpr ⟨call_V cx (ct_Yard_indexOfOrder w l hw) tw_643 tw_640 tw_2 tw_641 tw_642 (ci := 2) (Nat.le_of_ble_eq_true rfl) rfl (by decide +kernel) ⟨Nat.le_of_ble_eq_true rfl, Nat.le_of_ble_eq_true rfl⟩, List.forall_mem_cons.mpr ⟨call_V cx (ct_Hist_save w l hw) tw_163 tw_160 tw_6 tw_161 tw_162 (ci := 3) (Nat.le_of_ble_eq_true rfl) rfl (by decide +kernel) ⟨Nat.le_of_ble_eq_true rfl, Nat.le_of_ble_eq_true rfl⟩, List.forall_mem_cons.mpr ⟨call_V cx (ct_Yard_fulfil w l hw) tw_204 tw_447 tw_2 tw_202 tw_203 (ci := 2) (Nat.le_of_ble_eq_true rfl) rfl (by decide +kernel) ⟨Nat.le_of_ble_eq_true rfl, Nat.le_of_ble_eq_true rfl⟩, fun q hq => absurd hq List.not_mem_nil⟩⟩⟩⟩
theorem sn_Slit_serve (h : MC w true p l e r_Slit_serve s m args below meth c Q b_Slit_serve 3 "CoilSlits" E_Slit_serve 1 6 F (some .int)) (hx : MX2 w p l e r_Slit_serve s m args below meth c Q 1 6 F) : Sn (zK w true p l e r_Slit_serve s m args below meth c Q 3) F (fun _ => False) (fun _ => False) 0 0 0 d_Slit_serve 1 6 0 := by
  unfold d_Slit_serve
  exact (sn_sq (pm := 9) (m_blk h zz (by decide +kernel))
  (sn_sq (pm := 24) (sn_ite (pt := 14) (pf := 24) (sc_no (m_cat h zz (p1 := 11) (tgt := 24) (by decide +kernel) (by decide +kernel) (by decide)))
  (m_thw h hx (X := "java/lang/IndexOutOfBoundsException") (text := "no such order") (ik := 46) (is := 124) (ic := 50) (by decide +kernel) tw_476 tw_12 (by decide +kernel) (by decide +kernel) zat_all (by decide +kernel) (by decide +kernel) (by decide +kernel) (by decide +kernel) (by decide +kernel) ⟨Nat.le_of_ble_eq_true rfl, Nat.le_of_ble_eq_true rfl, Nat.le_of_ble_eq_true rfl, Nat.le_of_ble_eq_true rfl⟩ (Nat.le_of_ble_eq_true rfl) (Nat.le_of_ble_eq_true rfl))
  (m_blk h zz rfl))
  (m_rti h zz (p1 := 43) (by decide +kernel) (by decide +kernel) (Nat.zero_le _) (Nat.zero_le _))))
theorem ct_Slit_serve (w : Wd) (l : Launch) (hw : zWok w) (hl : l.stackTraces = false) : CTX w l y_Slit_serve b_Slit_serve 3 (some .int) r_Slit_serve (exb true 3 d_Slit_serve) :=
  ctx_of hl (by decide +kernel) (fun p e s m args below meth c Q cx hnm => eo_Slit_serve hw cx) (fun p e s m args below meth c Q F h hx => sn_Slit_serve h hx)
theorem q_Slit_serve {a : Nat} {fs : List Value} {M : Hp} {nx : Nat} (x0 : Int32) (h : M a = some (cO 5 fs)) : x_Slit_serve [.ref a, .int x0] (M, nx) = zres (d_Slit_serve ([some (.ref a), some (.int x0), none], [], (M, nx))) := q_ofV [some (.ref a), some (.int x0), none] h rfl (Nat.le_of_ble_eq_true rfl) (Or.inr rfl)
theorem lc_Slit_serve_121 : lookI (eC E_Slit_serve) (.invokevirtual 121) = some (2, x_Yard_indexOfOrder) := rfl
theorem lc_Slit_serve_70 : lookI (eC E_Slit_serve) (.invokevirtual 70) = some (2, x_Hist_save) := rfl
theorem lc_Slit_serve_145 : lookI (eC E_Slit_serve) (.invokevirtual 145) = some (2, x_Yard_fulfil) := rfl
theorem lf_Slit_serve_12 : lookN (eF E_Slit_serve) 12 = some (5, 0) := rfl
theorem lf_Slit_serve_22 : lookN (eF E_Slit_serve) 22 = some (5, 2) := rfl
theorem lb_Slit_serve : eB E_Slit_serve = true := rfl
theorem lt_Slit_serve : eT E_Slit_serve = zST := rfl
-- CoilSlits.set
def E_Slit_set : Env := (true, [(22, 5, 2), (12, 5, 0)], [(.invokestatic 151, 1, x_Slit_isSetting), (.invokestatic 53, 3, x_Slit_within), (.invokevirtual 70, 2, x_Hist_save), (.invokevirtual 165, 2, x_Yard_settingNow), (.invokevirtual 168, 3, x_Yard_changeSetting)], [], [(156, 1), (160, 2)], zST, false)
def d_Slit_set : Dn := (sq (ite' (cno (cat E_Slit_set [.iload_n 1, .invokestatic 151] (.ifCond .ne 13)))
  (thw "java/lang/IndexOutOfBoundsException")
  (blk E_Slit_set []))
  (sq (ite' (cno (cat E_Slit_set [.iload_n 2, .getstatic 156, .iload_n 1, .iaload, .getstatic 160, .iload_n 1, .iaload, .invokestatic 53] (.ifCond .ne 13)))
  (thw "java/lang/IllegalArgumentException")
  (blk E_Slit_set []))
  (rti E_Slit_set [.aload_n 0, .getfield 22, .aload_n 0, .getfield 12, .invokevirtual 70, .aload_n 0, .getfield 12, .iload_n 1, .invokevirtual 165, .istore_n 3, .aload_n 0, .getfield 12, .iload_n 1, .iload_n 2, .invokevirtual 168, .iload_n 3])))
def x_Slit_set : Ex := zrv 5 (exb true 4 d_Slit_set)
abbrev r_Slit_set : Room := ({ frames := 6, cells := 1, slots := 6, locals := 125 } : Room)
theorem eo_Slit_set (hw : zWok w) (cx : CX w p s m args c b_Slit_set 4 "CoilSlits") : EnvOk w true p l e r_Slit_set s m args below meth c Q b_Slit_set 4 "CoilSlits" E_Slit_set :=
  ⟨rfl, by decide +kernel, by decide +kernel, by decide +kernel, hw, fun h => absurd h (by decide),
  List.forall_mem_cons.mpr ⟨call_S cx (ct_Slit_isSetting w l hw) tw_682 tw_680 tw_1 tw_681 (by decide +kernel) ⟨Nat.le_of_ble_eq_true rfl, Nat.le_of_ble_eq_true rfl⟩, List.forall_mem_cons.mpr ⟨call_S cx (ct_Slit_within w l hw) tw_319 tw_331 tw_1 tw_318 (by decide +kernel) ⟨Nat.le_of_ble_eq_true rfl, Nat.le_of_ble_eq_true rfl⟩, List.forall_mem_cons.mpr ⟨call_V cx (ct_Hist_save w l hw) tw_163 tw_160 tw_6 tw_161 tw_162 (ci := 3) (Nat.le_of_ble_eq_true rfl) rfl (by decide +kernel) ⟨Nat.le_of_ble_eq_true rfl, Nat.le_of_ble_eq_true rfl⟩, List.forall_mem_cons.mpr ⟨call_V cx (ct_Yard_settingNow w l hw) tw_409 tw_406 tw_2 tw_407 tw_408 (ci := 2) (Nat.le_of_ble_eq_true rfl) rfl (by decide +kernel) ⟨Nat.le_of_ble_eq_true rfl, Nat.le_of_ble_eq_true rfl⟩, List.forall_mem_cons.mpr ⟨call_V cx (ct_Yard_changeSetting w l hw) tw_352 tw_349 tw_2 tw_350 tw_351 (ci := 2) (Nat.le_of_ble_eq_true rfl) rfl (by decide +kernel) ⟨Nat.le_of_ble_eq_true rfl, Nat.le_of_ble_eq_true rfl⟩, fun q hq => absurd hq List.not_mem_nil⟩⟩⟩⟩⟩⟩
theorem sn_Slit_set (h : MC w true p l e r_Slit_set s m args below meth c Q b_Slit_set 4 "CoilSlits" E_Slit_set 1 6 F (some .int)) (hx : MX2 w p l e r_Slit_set s m args below meth c Q 1 6 F) : Sn (zK w true p l e r_Slit_set s m args below meth c Q 4) F (fun _ => False) (fun _ => False) 0 0 0 d_Slit_set 1 6 0 := by
  unfold d_Slit_set
  exact (sn_sq (pm := 17) (sn_ite (pt := 7) (pf := 17) (sc_no (m_cat h zz (p1 := 4) (tgt := 17) (by decide +kernel) (by decide +kernel) (by decide)))
  (m_thw h hx (X := "java/lang/IndexOutOfBoundsException") (text := "no such setting") (ik := 46) (is := 154) (ic := 50) (by decide +kernel) tw_476 tw_12 (by decide +kernel) (by decide +kernel) zat_all (by decide +kernel) (by decide +kernel) (by decide +kernel) (by decide +kernel) (by decide +kernel) ⟨Nat.le_of_ble_eq_true rfl, Nat.le_of_ble_eq_true rfl, Nat.le_of_ble_eq_true rfl, Nat.le_of_ble_eq_true rfl⟩ (Nat.le_of_ble_eq_true rfl) (Nat.le_of_ble_eq_true rfl))
  (m_blk h zz rfl))
  (sn_sq (pm := 44) (sn_ite (pt := 34) (pf := 44) (sc_no (m_cat h zz (p1 := 31) (tgt := 44) (by decide +kernel) (by decide +kernel) (by decide)))
  (m_thw h hx (X := "java/lang/IllegalArgumentException") (text := "the value is out of range") (ik := 57) (is := 163) (ic := 61) (by decide +kernel) tw_544 tw_13 (by decide +kernel) (by decide +kernel) zat_all2 (by decide +kernel) (by decide +kernel) (by decide +kernel) (by decide +kernel) (by decide +kernel) ⟨Nat.le_of_ble_eq_true rfl, Nat.le_of_ble_eq_true rfl, Nat.le_of_ble_eq_true rfl, Nat.le_of_ble_eq_true rfl⟩ (Nat.le_of_ble_eq_true rfl) (Nat.le_of_ble_eq_true rfl))
  (m_blk h zz rfl))
  (m_rti h zz (p1 := 74) (by decide +kernel) (by decide +kernel) (Nat.zero_le _) (Nat.zero_le _))))
theorem ct_Slit_set (w : Wd) (l : Launch) (hw : zWok w) (hl : l.stackTraces = false) : CTX w l y_Slit_set b_Slit_set 4 (some .int) r_Slit_set (exb true 4 d_Slit_set) :=
  ctx_of hl (by decide +kernel) (fun p e s m args below meth c Q cx hnm => eo_Slit_set hw cx) (fun p e s m args below meth c Q F h hx => sn_Slit_set h hx)
theorem q_Slit_set {a : Nat} {fs : List Value} {M : Hp} {nx : Nat} (x0 : Int32) (x1 : Int32) (h : M a = some (cO 5 fs)) : x_Slit_set [.ref a, .int x0, .int x1] (M, nx) = zres (d_Slit_set ([some (.ref a), some (.int x0), some (.int x1), none], [], (M, nx))) := q_ofV [some (.ref a), some (.int x0), some (.int x1), none] h rfl (Nat.le_of_ble_eq_true rfl) (Or.inr rfl)
theorem lc_Slit_set_151 : lookI (eC E_Slit_set) (.invokestatic 151) = some (1, x_Slit_isSetting) := rfl
theorem lc_Slit_set_53 : lookI (eC E_Slit_set) (.invokestatic 53) = some (3, x_Slit_within) := rfl
theorem lc_Slit_set_70 : lookI (eC E_Slit_set) (.invokevirtual 70) = some (2, x_Hist_save) := rfl
theorem lc_Slit_set_165 : lookI (eC E_Slit_set) (.invokevirtual 165) = some (2, x_Yard_settingNow) := rfl
theorem lc_Slit_set_168 : lookI (eC E_Slit_set) (.invokevirtual 168) = some (3, x_Yard_changeSetting) := rfl
theorem lf_Slit_set_22 : lookN (eF E_Slit_set) 22 = some (5, 2) := rfl
theorem lf_Slit_set_12 : lookN (eF E_Slit_set) 12 = some (5, 0) := rfl
theorem ls_Slit_set_156 : lookN (eS E_Slit_set) 156 = some 1 := rfl
theorem ls_Slit_set_160 : lookN (eS E_Slit_set) 160 = some 2 := rfl
theorem lb_Slit_set : eB E_Slit_set = true := rfl
theorem lt_Slit_set : eT E_Slit_set = zST := rfl
-- CoilSlits.append
def E_Slit_append : Env := (true, [(174, 5, 5), (31, 5, 3)], [(.invokestatic 53, 3, x_Slit_within), (.invokevirtual 180, 3, x_Row_put)], [], [], zST, false)
def d_Slit_append : Dn := (sq (ite' (cno (cat E_Slit_append [.iload_n 1, .bipush 33, .bipush 126, .invokestatic 53] (.ifCond .ne 13)))
  (thw "java/lang/IllegalArgumentException")
  (blk E_Slit_append []))
  (sq (ite' (cno (cat E_Slit_append [.aload_n 0, .getfield 174, .bipush 60] (.if_icmp .lt 13)))
  (thw "java/lang/IllegalStateException")
  (blk E_Slit_append []))
  (rti E_Slit_append [.aload_n 0, .getfield 31, .aload_n 0, .getfield 174, .iload_n 1, .invokevirtual 180, .aload_n 0, .dup, .getfield 174, .iconst 1, .iadd, .putfield 174, .aload_n 0, .getfield 174])))
def x_Slit_append : Ex := zrv 5 (exb true 2 d_Slit_append)
abbrev r_Slit_append : Room := ({ frames := 6, cells := 1, slots := 6, locals := 82 } : Room)
theorem eo_Slit_append (hw : zWok w) (cx : CX w p s m args c b_Slit_append 2 "CoilSlits") : EnvOk w true p l e r_Slit_append s m args below meth c Q b_Slit_append 2 "CoilSlits" E_Slit_append :=
  ⟨rfl, by decide +kernel, by decide +kernel, by decide +kernel, hw, fun h => absurd h (by decide),
  List.forall_mem_cons.mpr ⟨call_S cx (ct_Slit_within w l hw) tw_319 tw_331 tw_1 tw_318 (by decide +kernel) ⟨Nat.le_of_ble_eq_true rfl, Nat.le_of_ble_eq_true rfl⟩, List.forall_mem_cons.mpr ⟨call_V cx (ct_Row_put w l hw) tw_68 tw_698 tw_5 tw_66 tw_67 (ci := 0) (Nat.le_of_ble_eq_true rfl) rfl (by decide +kernel) ⟨Nat.le_of_ble_eq_true rfl, Nat.le_of_ble_eq_true rfl⟩, fun q hq => absurd hq List.not_mem_nil⟩⟩⟩
theorem sn_Slit_append (h : MC w true p l e r_Slit_append s m args below meth c Q b_Slit_append 2 "CoilSlits" E_Slit_append 1 6 F (some .int)) (hx : MX2 w p l e r_Slit_append s m args below meth c Q 1 6 F) : Sn (zK w true p l e r_Slit_append s m args below meth c Q 2) F (fun _ => False) (fun _ => False) 0 0 0 d_Slit_append 1 6 0 := by
  unfold d_Slit_append
  exact (sn_sq (pm := 21) (sn_ite (pt := 11) (pf := 21) (sc_no (m_cat h zz (p1 := 8) (tgt := 21) (by decide +kernel) (by decide +kernel) (by decide)))
  (m_thw h hx (X := "java/lang/IllegalArgumentException") (text := "the character code is out of range") (ik := 57) (is := 172) (ic := 61) (by decide +kernel) tw_544 tw_13 (by decide +kernel) (by decide +kernel) zat_all2 (by decide +kernel) (by decide +kernel) (by decide +kernel) (by decide +kernel) (by decide +kernel) ⟨Nat.le_of_ble_eq_true rfl, Nat.le_of_ble_eq_true rfl, Nat.le_of_ble_eq_true rfl, Nat.le_of_ble_eq_true rfl⟩ (Nat.le_of_ble_eq_true rfl) (Nat.le_of_ble_eq_true rfl))
  (m_blk h zz rfl))
  (sn_sq (pm := 40) (sn_ite (pt := 30) (pf := 40) (sc_no (m_cat h zz (p1 := 27) (tgt := 40) (by decide +kernel) (by decide +kernel) (by decide)))
  (m_thw h hx (X := "java/lang/IllegalStateException") (text := "the buffer is full") (ik := 65) (is := 178) (ic := 69) (by decide +kernel) tw_560 tw_14 (by decide +kernel) (by decide +kernel) zat_all3 (by decide +kernel) (by decide +kernel) (by decide +kernel) (by decide +kernel) (by decide +kernel) ⟨Nat.le_of_ble_eq_true rfl, Nat.le_of_ble_eq_true rfl, Nat.le_of_ble_eq_true rfl, Nat.le_of_ble_eq_true rfl⟩ (Nat.le_of_ble_eq_true rfl) (Nat.le_of_ble_eq_true rfl))
  (m_blk h zz rfl))
  (m_rti h zz (p1 := 66) (by decide +kernel) (by decide +kernel) (Nat.zero_le _) (Nat.zero_le _))))
theorem ct_Slit_append (w : Wd) (l : Launch) (hw : zWok w) (hl : l.stackTraces = false) : CTX w l y_Slit_append b_Slit_append 2 (some .int) r_Slit_append (exb true 2 d_Slit_append) :=
  ctx_of hl (by decide +kernel) (fun p e s m args below meth c Q cx hnm => eo_Slit_append hw cx) (fun p e s m args below meth c Q F h hx => sn_Slit_append h hx)
theorem q_Slit_append {a : Nat} {fs : List Value} {M : Hp} {nx : Nat} (x0 : Int32) (h : M a = some (cO 5 fs)) : x_Slit_append [.ref a, .int x0] (M, nx) = zres (d_Slit_append ([some (.ref a), some (.int x0)], [], (M, nx))) := q_ofV [some (.ref a), some (.int x0)] h rfl (Nat.le_of_ble_eq_true rfl) (Or.inr rfl)
theorem lc_Slit_append_53 : lookI (eC E_Slit_append) (.invokestatic 53) = some (3, x_Slit_within) := rfl
theorem lc_Slit_append_180 : lookI (eC E_Slit_append) (.invokevirtual 180) = some (3, x_Row_put) := rfl
theorem lf_Slit_append_174 : lookN (eF E_Slit_append) 174 = some (5, 5) := rfl
theorem lf_Slit_append_31 : lookN (eF E_Slit_append) 31 = some (5, 3) := rfl
theorem lb_Slit_append : eB E_Slit_append = true := rfl
theorem lt_Slit_append : eT E_Slit_append = zST := rfl
-- CoilSlits.receiveAll
def E_Slit_receiveAll : Env := (true, [(174, 5, 5), (38, 5, 4), (22, 5, 2), (12, 5, 0)], [(.invokevirtual 183, 1, x_Slit_readBuffer), (.invokevirtual 186, 1, x_Read_isComplete), (.invokevirtual 70, 2, x_Hist_save), (.invokevirtual 192, 1, x_Slit_bringInBuffer)], [], [], zST, false)
def d_Slit_receiveAll : Dn := (sq (ite' (cor (cat E_Slit_receiveAll [.aload_n 0, .invokevirtual 183, .aload_n 0, .getfield 174] (.if_icmp .lt 13)) (cno (cat E_Slit_receiveAll [.aload_n 0, .getfield 38, .invokevirtual 186] (.ifCond .ne 13))))
  (thw "java/lang/IllegalArgumentException")
  (blk E_Slit_receiveAll []))
  (rti E_Slit_receiveAll [.aload_n 0, .getfield 22, .aload_n 0, .getfield 12, .invokevirtual 70, .aload_n 0, .invokevirtual 192, .istore_n 1, .aload_n 0, .iconst 0, .putfield 174, .iload_n 1]))
def x_Slit_receiveAll : Ex := zrv 5 (exb true 2 d_Slit_receiveAll)
abbrev r_Slit_receiveAll : Room := ({ frames := 6, cells := 1, slots := 6, locals := 125 } : Room)
theorem eo_Slit_receiveAll (hw : zWok w) (cx : CX w p s m args c b_Slit_receiveAll 2 "CoilSlits") : EnvOk w true p l e r_Slit_receiveAll s m args below meth c Q b_Slit_receiveAll 2 "CoilSlits" E_Slit_receiveAll :=
  ⟨rfl, by decide +kernel, by decide +kernel, by decide +kernel, hw, fun h => absurd h (by decide),
  List.forall_mem_cons.mpr ⟨call_V cx (ct_Slit_readBuffer w l hw) tw_295 tw_292 tw_1 tw_294 tp_9 (ci := 5) (Nat.le_of_ble_eq_true rfl) rfl (by decide +kernel) ⟨Nat.le_of_ble_eq_true rfl, Nat.le_of_ble_eq_true rfl⟩, List.forall_mem_cons.mpr ⟨call_V cx (ct_Read_isComplete w l hw) tw_709 tw_706 tw_7 tw_707 tw_708 (ci := 4) (Nat.le_of_ble_eq_true rfl) rfl (by decide +kernel) ⟨Nat.le_of_ble_eq_true rfl, Nat.le_of_ble_eq_true rfl⟩, List.forall_mem_cons.mpr ⟨call_V cx (ct_Hist_save w l hw) tw_163 tw_160 tw_6 tw_161 tw_162 (ci := 3) (Nat.le_of_ble_eq_true rfl) rfl (by decide +kernel) ⟨Nat.le_of_ble_eq_true rfl, Nat.le_of_ble_eq_true rfl⟩, List.forall_mem_cons.mpr ⟨call_V cx (ct_Slit_bringInBuffer w l hw) tw_714 tw_711 tw_1 tw_713 tp_28 (ci := 5) (Nat.le_of_ble_eq_true rfl) rfl (by decide +kernel) ⟨Nat.le_of_ble_eq_true rfl, Nat.le_of_ble_eq_true rfl⟩, fun q hq => absurd hq List.not_mem_nil⟩⟩⟩⟩⟩
theorem sn_Slit_receiveAll (h : MC w true p l e r_Slit_receiveAll s m args below meth c Q b_Slit_receiveAll 2 "CoilSlits" E_Slit_receiveAll 1 6 F (some .int)) (hx : MX2 w p l e r_Slit_receiveAll s m args below meth c Q 1 6 F) : Sn (zK w true p l e r_Slit_receiveAll s m args below meth c Q 2) F (fun _ => False) (fun _ => False) 0 0 0 d_Slit_receiveAll 1 6 0 := by
  unfold d_Slit_receiveAll
  exact (sn_sq (pm := 31) (sn_ite (pt := 21) (pf := 31) (sc_or (pm := 11) (m_cat h zz (p1 := 8) (tgt := 21) (by decide +kernel) (by decide +kernel) (by decide)) (sc_no (m_cat h zz (p1 := 18) (tgt := 31) (by decide +kernel) (by decide +kernel) (by decide))))
  (m_thw h hx (X := "java/lang/IllegalArgumentException") (text := "the buffer is not complete coils as a text") (ik := 57) (is := 190) (ic := 61) (by decide +kernel) tw_544 tw_13 (by decide +kernel) (by decide +kernel) zat_all2 (by decide +kernel) (by decide +kernel) (by decide +kernel) (by decide +kernel) (by decide +kernel) ⟨Nat.le_of_ble_eq_true rfl, Nat.le_of_ble_eq_true rfl, Nat.le_of_ble_eq_true rfl, Nat.le_of_ble_eq_true rfl⟩ (Nat.le_of_ble_eq_true rfl) (Nat.le_of_ble_eq_true rfl))
  (m_blk h zz rfl))
  (m_rti h zz (p1 := 53) (by decide +kernel) (by decide +kernel) (Nat.zero_le _) (Nat.zero_le _)))
theorem ct_Slit_receiveAll (w : Wd) (l : Launch) (hw : zWok w) (hl : l.stackTraces = false) : CTX w l y_Slit_receiveAll b_Slit_receiveAll 2 (some .int) r_Slit_receiveAll (exb true 2 d_Slit_receiveAll) :=
  ctx_of hl (by decide +kernel) (fun p e s m args below meth c Q cx hnm => eo_Slit_receiveAll hw cx) (fun p e s m args below meth c Q F h hx => sn_Slit_receiveAll h hx)
theorem q_Slit_receiveAll {a : Nat} {fs : List Value} {M : Hp} {nx : Nat}  (h : M a = some (cO 5 fs)) : x_Slit_receiveAll [.ref a] (M, nx) = zres (d_Slit_receiveAll ([some (.ref a), none], [], (M, nx))) := q_ofV [some (.ref a), none] h rfl (Nat.le_of_ble_eq_true rfl) (Or.inr rfl)
theorem lc_Slit_receiveAll_183 : lookI (eC E_Slit_receiveAll) (.invokevirtual 183) = some (1, x_Slit_readBuffer) := rfl
theorem lc_Slit_receiveAll_186 : lookI (eC E_Slit_receiveAll) (.invokevirtual 186) = some (1, x_Read_isComplete) := rfl
theorem lc_Slit_receiveAll_70 : lookI (eC E_Slit_receiveAll) (.invokevirtual 70) = some (2, x_Hist_save) := rfl
theorem lc_Slit_receiveAll_192 : lookI (eC E_Slit_receiveAll) (.invokevirtual 192) = some (1, x_Slit_bringInBuffer) := rfl
theorem lf_Slit_receiveAll_174 : lookN (eF E_Slit_receiveAll) 174 = some (5, 5) := rfl
theorem lf_Slit_receiveAll_38 : lookN (eF E_Slit_receiveAll) 38 = some (5, 4) := rfl
theorem lf_Slit_receiveAll_22 : lookN (eF E_Slit_receiveAll) 22 = some (5, 2) := rfl
theorem lf_Slit_receiveAll_12 : lookN (eF E_Slit_receiveAll) 12 = some (5, 0) := rfl
theorem lb_Slit_receiveAll : eB E_Slit_receiveAll = true := rfl
theorem lt_Slit_receiveAll : eT E_Slit_receiveAll = zST := rfl
-- CoilSlits.undo
def E_Slit_undo : Env := (true, [(22, 5, 2), (12, 5, 0)], [(.invokevirtual 195, 1, x_Hist_kept), (.invokevirtual 200, 2, x_Hist_restore)], [], [], zST, false)
def d_Slit_undo : Dn := (sq (ite' (cno (cat E_Slit_undo [.aload_n 0, .getfield 22, .invokevirtual 195] (.ifCond .ne 13)))
  (thw "java/lang/IllegalStateException")
  (blk E_Slit_undo []))
  (rti E_Slit_undo [.aload_n 0, .getfield 22, .aload_n 0, .getfield 12, .invokevirtual 200, .aload_n 0, .getfield 22, .invokevirtual 195]))
def x_Slit_undo : Ex := zrv 5 (exb true 1 d_Slit_undo)
abbrev r_Slit_undo : Room := ({ frames := 6, cells := 1, slots := 6, locals := 125 } : Room)
theorem eo_Slit_undo (hw : zWok w) (cx : CX w p s m args c b_Slit_undo 1 "CoilSlits") : EnvOk w true p l e r_Slit_undo s m args below meth c Q b_Slit_undo 1 "CoilSlits" E_Slit_undo :=
  ⟨rfl, by decide +kernel, by decide +kernel, by decide +kernel, hw, fun h => absurd h (by decide),
  List.forall_mem_cons.mpr ⟨call_V cx (ct_Hist_kept w l hw) tw_401 tw_398 tw_6 tw_399 tw_400 (ci := 3) (Nat.le_of_ble_eq_true rfl) rfl (by decide +kernel) ⟨Nat.le_of_ble_eq_true rfl, Nat.le_of_ble_eq_true rfl⟩, List.forall_mem_cons.mpr ⟨call_V cx (ct_Hist_restore w l hw) tw_746 tw_743 tw_6 tw_744 tw_745 (ci := 3) (Nat.le_of_ble_eq_true rfl) rfl (by decide +kernel) ⟨Nat.le_of_ble_eq_true rfl, Nat.le_of_ble_eq_true rfl⟩, fun q hq => absurd hq List.not_mem_nil⟩⟩⟩
theorem sn_Slit_undo (h : MC w true p l e r_Slit_undo s m args below meth c Q b_Slit_undo 1 "CoilSlits" E_Slit_undo 1 6 F (some .int)) (hx : MX2 w p l e r_Slit_undo s m args below meth c Q 1 6 F) : Sn (zK w true p l e r_Slit_undo s m args below meth c Q 1) F (fun _ => False) (fun _ => False) 0 0 0 d_Slit_undo 1 6 0 := by
  unfold d_Slit_undo
  exact (sn_sq (pm := 20) (sn_ite (pt := 10) (pf := 20) (sc_no (m_cat h zz (p1 := 7) (tgt := 20) (by decide +kernel) (by decide +kernel) (by decide)))
  (m_thw h hx (X := "java/lang/IllegalStateException") (text := "no state is saved") (ik := 65) (is := 198) (ic := 69) (by decide +kernel) tw_560 tw_14 (by decide +kernel) (by decide +kernel) zat_all3 (by decide +kernel) (by decide +kernel) (by decide +kernel) (by decide +kernel) (by decide +kernel) ⟨Nat.le_of_ble_eq_true rfl, Nat.le_of_ble_eq_true rfl, Nat.le_of_ble_eq_true rfl, Nat.le_of_ble_eq_true rfl⟩ (Nat.le_of_ble_eq_true rfl) (Nat.le_of_ble_eq_true rfl))
  (m_blk h zz rfl))
  (m_rti h zz (p1 := 38) (by decide +kernel) (by decide +kernel) (Nat.zero_le _) (Nat.zero_le _)))
theorem ct_Slit_undo (w : Wd) (l : Launch) (hw : zWok w) (hl : l.stackTraces = false) : CTX w l y_Slit_undo b_Slit_undo 1 (some .int) r_Slit_undo (exb true 1 d_Slit_undo) :=
  ctx_of hl (by decide +kernel) (fun p e s m args below meth c Q cx hnm => eo_Slit_undo hw cx) (fun p e s m args below meth c Q F h hx => sn_Slit_undo h hx)
theorem q_Slit_undo {a : Nat} {fs : List Value} {M : Hp} {nx : Nat}  (h : M a = some (cO 5 fs)) : x_Slit_undo [.ref a] (M, nx) = zres (d_Slit_undo ([some (.ref a)], [], (M, nx))) := q_ofV [some (.ref a)] h rfl (Nat.le_of_ble_eq_true rfl) (Or.inr rfl)
theorem lc_Slit_undo_195 : lookI (eC E_Slit_undo) (.invokevirtual 195) = some (1, x_Hist_kept) := rfl
theorem lc_Slit_undo_200 : lookI (eC E_Slit_undo) (.invokevirtual 200) = some (2, x_Hist_restore) := rfl
theorem lf_Slit_undo_22 : lookN (eF E_Slit_undo) 22 = some (5, 2) := rfl
theorem lf_Slit_undo_12 : lookN (eF E_Slit_undo) 12 = some (5, 0) := rfl
theorem lb_Slit_undo : eB E_Slit_undo = true := rfl
theorem lt_Slit_undo : eT E_Slit_undo = zST := rfl
-- CoilSlits.at
def E_Slit_at : Env := (true, [(12, 5, 0)], [(.invokestatic 42, 1, x_Slit_isStack), (.invokestatic 53, 3, x_Slit_within), (.invokevirtual 205, 2, x_Yard_numberAt)], [], [], zST, false)
def d_Slit_at : Dn := (sq (ite' (cno (cat E_Slit_at [.iload_n 1, .invokestatic 42] (.ifCond .ne 13)))
  (thw "java/lang/IndexOutOfBoundsException")
  (blk E_Slit_at []))
  (sq (ite' (cno (cat E_Slit_at [.iload_n 2, .iconst 0, .iconst 4, .invokestatic 53] (.ifCond .ne 13)))
  (thw "java/lang/IllegalArgumentException")
  (blk E_Slit_at []))
  (rti E_Slit_at [.aload_n 0, .getfield 12, .iload_n 1, .iconst 5, .imul, .iload_n 2, .iadd, .invokevirtual 205])))
def x_Slit_at : Ex := zrv 5 (exb true 3 d_Slit_at)
abbrev r_Slit_at : Room := ({ frames := 6, cells := 1, slots := 6, locals := 82 } : Room)
theorem eo_Slit_at (hw : zWok w) (cx : CX w p s m args c b_Slit_at 3 "CoilSlits") : EnvOk w true p l e r_Slit_at s m args below meth c Q b_Slit_at 3 "CoilSlits" E_Slit_at :=
  ⟨rfl, by decide +kernel, by decide +kernel, by decide +kernel, hw, fun h => absurd h (by decide),
  List.forall_mem_cons.mpr ⟨call_S cx (ct_Slit_isStack w l hw) tw_330 tw_475 tw_1 tw_329 (by decide +kernel) ⟨Nat.le_of_ble_eq_true rfl, Nat.le_of_ble_eq_true rfl⟩, List.forall_mem_cons.mpr ⟨call_S cx (ct_Slit_within w l hw) tw_319 tw_331 tw_1 tw_318 (by decide +kernel) ⟨Nat.le_of_ble_eq_true rfl, Nat.le_of_ble_eq_true rfl⟩, List.forall_mem_cons.mpr ⟨call_V cx (ct_Yard_numberAt w l hw) tw_417 tw_414 tw_2 tw_415 tw_416 (ci := 2) (Nat.le_of_ble_eq_true rfl) rfl (by decide +kernel) ⟨Nat.le_of_ble_eq_true rfl, Nat.le_of_ble_eq_true rfl⟩, fun q hq => absurd hq List.not_mem_nil⟩⟩⟩⟩
theorem sn_Slit_at (h : MC w true p l e r_Slit_at s m args below meth c Q b_Slit_at 3 "CoilSlits" E_Slit_at 1 6 F (some .int)) (hx : MX2 w p l e r_Slit_at s m args below meth c Q 1 6 F) : Sn (zK w true p l e r_Slit_at s m args below meth c Q 3) F (fun _ => False) (fun _ => False) 0 0 0 d_Slit_at 1 6 0 := by
  unfold d_Slit_at
  exact (sn_sq (pm := 17) (sn_ite (pt := 7) (pf := 17) (sc_no (m_cat h zz (p1 := 4) (tgt := 17) (by decide +kernel) (by decide +kernel) (by decide)))
  (m_thw h hx (X := "java/lang/IndexOutOfBoundsException") (text := "no such stack") (ik := 46) (is := 48) (ic := 50) (by decide +kernel) tw_476 tw_12 (by decide +kernel) (by decide +kernel) zat_all (by decide +kernel) (by decide +kernel) (by decide +kernel) (by decide +kernel) (by decide +kernel) ⟨Nat.le_of_ble_eq_true rfl, Nat.le_of_ble_eq_true rfl, Nat.le_of_ble_eq_true rfl, Nat.le_of_ble_eq_true rfl⟩ (Nat.le_of_ble_eq_true rfl) (Nat.le_of_ble_eq_true rfl))
  (m_blk h zz rfl))
  (sn_sq (pm := 36) (sn_ite (pt := 26) (pf := 36) (sc_no (m_cat h zz (p1 := 23) (tgt := 36) (by decide +kernel) (by decide +kernel) (by decide)))
  (m_thw h hx (X := "java/lang/IllegalArgumentException") (text := "the height is out of range") (ik := 57) (is := 203) (ic := 61) (by decide +kernel) tw_544 tw_13 (by decide +kernel) (by decide +kernel) zat_all2 (by decide +kernel) (by decide +kernel) (by decide +kernel) (by decide +kernel) (by decide +kernel) ⟨Nat.le_of_ble_eq_true rfl, Nat.le_of_ble_eq_true rfl, Nat.le_of_ble_eq_true rfl, Nat.le_of_ble_eq_true rfl⟩ (Nat.le_of_ble_eq_true rfl) (Nat.le_of_ble_eq_true rfl))
  (m_blk h zz rfl))
  (m_rti h zz (p1 := 48) (by decide +kernel) (by decide +kernel) (Nat.zero_le _) (Nat.zero_le _))))
theorem ct_Slit_at (w : Wd) (l : Launch) (hw : zWok w) (hl : l.stackTraces = false) : CTX w l y_Slit_at b_Slit_at 3 (some .int) r_Slit_at (exb true 3 d_Slit_at) :=
  ctx_of hl (by decide +kernel) (fun p e s m args below meth c Q cx hnm => eo_Slit_at hw cx) (fun p e s m args below meth c Q F h hx => sn_Slit_at h hx)
theorem q_Slit_at {a : Nat} {fs : List Value} {M : Hp} {nx : Nat} (x0 : Int32) (x1 : Int32) (h : M a = some (cO 5 fs)) : x_Slit_at [.ref a, .int x0, .int x1] (M, nx) = zres (d_Slit_at ([some (.ref a), some (.int x0), some (.int x1)], [], (M, nx))) := q_ofV [some (.ref a), some (.int x0), some (.int x1)] h rfl (Nat.le_of_ble_eq_true rfl) (Or.inr rfl)
theorem lc_Slit_at_42 : lookI (eC E_Slit_at) (.invokestatic 42) = some (1, x_Slit_isStack) := rfl
theorem lc_Slit_at_53 : lookI (eC E_Slit_at) (.invokestatic 53) = some (3, x_Slit_within) := rfl
theorem lc_Slit_at_205 : lookI (eC E_Slit_at) (.invokevirtual 205) = some (2, x_Yard_numberAt) := rfl
theorem lf_Slit_at_12 : lookN (eF E_Slit_at) 12 = some (5, 0) := rfl
theorem lb_Slit_at : eB E_Slit_at = true := rfl
theorem lt_Slit_at : eT E_Slit_at = zST := rfl
-- CoilSlits.coil
def E_Slit_coil : Env := (true, [(12, 5, 0)], [(.invokevirtual 208, 2, x_Yard_hasSeen), (.invokestatic 53, 3, x_Slit_within), (.invokevirtual 90, 2, x_Yard_placeOf), (.invokevirtual 215, 3, x_Yard_coilProperty)], [], [], zST, false)
def d_Slit_coil : Dn := (sq (ite' (cno (cat E_Slit_coil [.aload_n 0, .getfield 12, .iload_n 1, .invokevirtual 208] (.ifCond .ne 13)))
  (thw "java/lang/IndexOutOfBoundsException")
  (blk E_Slit_coil []))
  (sq (ite' (cno (cat E_Slit_coil [.iload_n 2, .iconst 0, .iconst 5, .invokestatic 53] (.ifCond .ne 13)))
  (thw "java/lang/IllegalArgumentException")
  (blk E_Slit_coil []))
  (sq (blk E_Slit_coil [.aload_n 0, .getfield 12, .iload_n 1, .invokevirtual 90, .istore_n 3])
  (sq (ite' (cno (cat E_Slit_coil [.iload_n 3, .iconst (-1)] (.if_icmp .ne 7)))
  (blk E_Slit_coil [.iconst (-1)])
  (blk E_Slit_coil [.aload_n 0, .getfield 12, .iload_n 3, .iload_n 2, .invokevirtual 215]))
  (rti E_Slit_coil [])))))
def x_Slit_coil : Ex := zrv 5 (exb true 4 d_Slit_coil)
abbrev r_Slit_coil : Room := ({ frames := 6, cells := 1, slots := 6, locals := 82 } : Room)
theorem eo_Slit_coil (hw : zWok w) (cx : CX w p s m args c b_Slit_coil 4 "CoilSlits") : EnvOk w true p l e r_Slit_coil s m args below meth c Q b_Slit_coil 4 "CoilSlits" E_Slit_coil :=
  ⟨rfl, by decide +kernel, by decide +kernel, by decide +kernel, hw, fun h => absurd h (by decide),
  List.forall_mem_cons.mpr ⟨call_V cx (ct_Yard_hasSeen w l hw) tw_766 tw_763 tw_2 tw_764 tw_765 (ci := 2) (Nat.le_of_ble_eq_true rfl) rfl (by decide +kernel) ⟨Nat.le_of_ble_eq_true rfl, Nat.le_of_ble_eq_true rfl⟩, List.forall_mem_cons.mpr ⟨call_S cx (ct_Slit_within w l hw) tw_319 tw_331 tw_1 tw_318 (by decide +kernel) ⟨Nat.le_of_ble_eq_true rfl, Nat.le_of_ble_eq_true rfl⟩, List.forall_mem_cons.mpr ⟨call_V cx (ct_Yard_placeOf w l hw) tw_600 tw_597 tw_2 tw_598 tw_599 (ci := 2) (Nat.le_of_ble_eq_true rfl) rfl (by decide +kernel) ⟨Nat.le_of_ble_eq_true rfl, Nat.le_of_ble_eq_true rfl⟩, List.forall_mem_cons.mpr ⟨call_V cx (ct_Yard_coilProperty w l hw) tw_421 tw_418 tw_2 tw_419 tw_420 (ci := 2) (Nat.le_of_ble_eq_true rfl) rfl (by decide +kernel) ⟨Nat.le_of_ble_eq_true rfl, Nat.le_of_ble_eq_true rfl⟩, fun q hq => absurd hq List.not_mem_nil⟩⟩⟩⟩⟩
theorem sn_Slit_coil (h : MC w true p l e r_Slit_coil s m args below meth c Q b_Slit_coil 4 "CoilSlits" E_Slit_coil 1 6 F (some .int)) (hx : MX2 w p l e r_Slit_coil s m args below meth c Q 1 6 F) : Sn (zK w true p l e r_Slit_coil s m args below meth c Q 4) F (fun _ => False) (fun _ => False) 0 0 0 d_Slit_coil 1 6 0 := by
  unfold d_Slit_coil
  exact (sn_sq (pm := 21) (sn_ite (pt := 11) (pf := 21) (sc_no (m_cat h zz (p1 := 8) (tgt := 21) (by decide +kernel) (by decide +kernel) (by decide)))
  (m_thw h hx (X := "java/lang/IndexOutOfBoundsException") (text := "no coil has had this number") (ik := 46) (is := 211) (ic := 50) (by decide +kernel) tw_476 tw_12 (by decide +kernel) (by decide +kernel) zat_all (by decide +kernel) (by decide +kernel) (by decide +kernel) (by decide +kernel) (by decide +kernel) ⟨Nat.le_of_ble_eq_true rfl, Nat.le_of_ble_eq_true rfl, Nat.le_of_ble_eq_true rfl, Nat.le_of_ble_eq_true rfl⟩ (Nat.le_of_ble_eq_true rfl) (Nat.le_of_ble_eq_true rfl))
  (m_blk h zz rfl))
  (sn_sq (pm := 40) (sn_ite (pt := 30) (pf := 40) (sc_no (m_cat h zz (p1 := 27) (tgt := 40) (by decide +kernel) (by decide +kernel) (by decide)))
  (m_thw h hx (X := "java/lang/IllegalArgumentException") (text := "no such property of a coil") (ik := 57) (is := 213) (ic := 61) (by decide +kernel) tw_544 tw_13 (by decide +kernel) (by decide +kernel) zat_all2 (by decide +kernel) (by decide +kernel) (by decide +kernel) (by decide +kernel) (by decide +kernel) ⟨Nat.le_of_ble_eq_true rfl, Nat.le_of_ble_eq_true rfl, Nat.le_of_ble_eq_true rfl, Nat.le_of_ble_eq_true rfl⟩ (Nat.le_of_ble_eq_true rfl) (Nat.le_of_ble_eq_true rfl))
  (m_blk h zz rfl))
  (sn_sq (pm := 49) (m_blk h zz (by decide +kernel))
  (sn_sq (pm := 67) (sn_ite (pt := 54) (pf := 58) (sc_no (m_cat h zz (p1 := 51) (tgt := 58) (by decide +kernel) (by decide +kernel) (by decide)))
  (sn_goto (pm := 55) (m_blk h zz (by decide +kernel)) (m_goto h (off := 12) (by decide +kernel) (by decide)))
  (m_blk h zz (by decide +kernel)))
  (m_rti h zz (p1 := 67) (by decide +kernel) (by decide +kernel) (Nat.zero_le _) (Nat.zero_le _))))))
theorem ct_Slit_coil (w : Wd) (l : Launch) (hw : zWok w) (hl : l.stackTraces = false) : CTX w l y_Slit_coil b_Slit_coil 4 (some .int) r_Slit_coil (exb true 4 d_Slit_coil) :=
  ctx_of hl (by decide +kernel) (fun p e s m args below meth c Q cx hnm => eo_Slit_coil hw cx) (fun p e s m args below meth c Q F h hx => sn_Slit_coil h hx)
theorem q_Slit_coil {a : Nat} {fs : List Value} {M : Hp} {nx : Nat} (x0 : Int32) (x1 : Int32) (h : M a = some (cO 5 fs)) : x_Slit_coil [.ref a, .int x0, .int x1] (M, nx) = zres (d_Slit_coil ([some (.ref a), some (.int x0), some (.int x1), none], [], (M, nx))) := q_ofV [some (.ref a), some (.int x0), some (.int x1), none] h rfl (Nat.le_of_ble_eq_true rfl) (Or.inr rfl)
theorem lc_Slit_coil_208 : lookI (eC E_Slit_coil) (.invokevirtual 208) = some (2, x_Yard_hasSeen) := rfl
theorem lc_Slit_coil_53 : lookI (eC E_Slit_coil) (.invokestatic 53) = some (3, x_Slit_within) := rfl
theorem lc_Slit_coil_90 : lookI (eC E_Slit_coil) (.invokevirtual 90) = some (2, x_Yard_placeOf) := rfl
theorem lc_Slit_coil_215 : lookI (eC E_Slit_coil) (.invokevirtual 215) = some (3, x_Yard_coilProperty) := rfl
theorem lf_Slit_coil_12 : lookN (eF E_Slit_coil) 12 = some (5, 0) := rfl
theorem lb_Slit_coil : eB E_Slit_coil = true := rfl
theorem lt_Slit_coil : eT E_Slit_coil = zST := rfl
-- CoilSlits.orderOf
def E_Slit_orderOf : Env := (true, [(12, 5, 0)], [(.invokestatic 53, 3, x_Slit_within), (.invokevirtual 111, 1, x_Yard_orderCount), (.invokevirtual 220, 3, x_Yard_orderProperty)], [], [], zST, false)
def d_Slit_orderOf : Dn := (sq (ite' (cor (cat E_Slit_orderOf [.iload_n 1] (.ifCond .lt 13)) (cno (cat E_Slit_orderOf [.iload_n 2, .iconst 0, .bipush 7, .invokestatic 53] (.ifCond .ne 13))))
  (thw "java/lang/IllegalArgumentException")
  (blk E_Slit_orderOf []))
  (sq (ite' (cno (cat E_Slit_orderOf [.iload_n 1, .aload_n 0, .getfield 12, .invokevirtual 111] (.if_icmp .ge 15)))
  (blk E_Slit_orderOf [.aload_n 0, .getfield 12, .iload_n 1, .iload_n 2, .invokevirtual 220])
  (blk E_Slit_orderOf [.iconst (-1)]))
  (rti E_Slit_orderOf [])))
def x_Slit_orderOf : Ex := zrv 5 (exb true 3 d_Slit_orderOf)
abbrev r_Slit_orderOf : Room := ({ frames := 6, cells := 1, slots := 6, locals := 116 } : Room)
theorem eo_Slit_orderOf (hw : zWok w) (cx : CX w p s m args c b_Slit_orderOf 3 "CoilSlits") : EnvOk w true p l e r_Slit_orderOf s m args below meth c Q b_Slit_orderOf 3 "CoilSlits" E_Slit_orderOf :=
  ⟨rfl, by decide +kernel, by decide +kernel, by decide +kernel, hw, fun h => absurd h (by decide),
  List.forall_mem_cons.mpr ⟨call_S cx (ct_Slit_within w l hw) tw_319 tw_331 tw_1 tw_318 (by decide +kernel) ⟨Nat.le_of_ble_eq_true rfl, Nat.le_of_ble_eq_true rfl⟩, List.forall_mem_cons.mpr ⟨call_V cx (ct_Yard_orderCount w l hw) tw_397 tw_394 tw_2 tw_395 tw_396 (ci := 2) (Nat.le_of_ble_eq_true rfl) rfl (by decide +kernel) ⟨Nat.le_of_ble_eq_true rfl, Nat.le_of_ble_eq_true rfl⟩, List.forall_mem_cons.mpr ⟨call_V cx (ct_Yard_orderProperty w l hw) tw_429 tw_426 tw_2 tw_427 tw_428 (ci := 2) (Nat.le_of_ble_eq_true rfl) rfl (by decide +kernel) ⟨Nat.le_of_ble_eq_true rfl, Nat.le_of_ble_eq_true rfl⟩, fun q hq => absurd hq List.not_mem_nil⟩⟩⟩⟩
theorem sn_Slit_orderOf (h : MC w true p l e r_Slit_orderOf s m args below meth c Q b_Slit_orderOf 3 "CoilSlits" E_Slit_orderOf 1 6 F (some .int)) (hx : MX2 w p l e r_Slit_orderOf s m args below meth c Q 1 6 F) : Sn (zK w true p l e r_Slit_orderOf s m args below meth c Q 3) F (fun _ => False) (fun _ => False) 0 0 0 d_Slit_orderOf 1 6 0 := by
  unfold d_Slit_orderOf
  exact (sn_sq (pm := 24) (sn_ite (pt := 14) (pf := 24) (sc_or (pm := 4) (m_cat h zz (p1 := 1) (tgt := 14) (by decide +kernel) (by decide +kernel) (by decide)) (sc_no (m_cat h zz (p1 := 11) (tgt := 24) (by decide +kernel) (by decide +kernel) (by decide))))
  (m_thw h hx (X := "java/lang/IllegalArgumentException") (text := "no such place, or no such property of an order") (ik := 57) (is := 218) (ic := 61) (by decide +kernel) tw_544 tw_13 (by decide +kernel) (by decide +kernel) zat_all2 (by decide +kernel) (by decide +kernel) (by decide +kernel) (by decide +kernel) (by decide +kernel) ⟨Nat.le_of_ble_eq_true rfl, Nat.le_of_ble_eq_true rfl, Nat.le_of_ble_eq_true rfl, Nat.le_of_ble_eq_true rfl⟩ (Nat.le_of_ble_eq_true rfl) (Nat.le_of_ble_eq_true rfl))
  (m_blk h zz rfl))
  (sn_sq (pm := 48) (sn_ite (pt := 35) (pf := 47) (sc_no (m_cat h zz (p1 := 32) (tgt := 47) (by decide +kernel) (by decide +kernel) (by decide)))
  (sn_goto (pm := 44) (m_blk h zz (by decide +kernel)) (m_goto h (off := 4) (by decide +kernel) (by decide)))
  (m_blk h zz (by decide +kernel)))
  (m_rti h zz (p1 := 48) (by decide +kernel) (by decide +kernel) (Nat.zero_le _) (Nat.zero_le _))))
theorem ct_Slit_orderOf (w : Wd) (l : Launch) (hw : zWok w) (hl : l.stackTraces = false) : CTX w l y_Slit_orderOf b_Slit_orderOf 3 (some .int) r_Slit_orderOf (exb true 3 d_Slit_orderOf) :=
  ctx_of hl (by decide +kernel) (fun p e s m args below meth c Q cx hnm => eo_Slit_orderOf hw cx) (fun p e s m args below meth c Q F h hx => sn_Slit_orderOf h hx)
theorem q_Slit_orderOf {a : Nat} {fs : List Value} {M : Hp} {nx : Nat} (x0 : Int32) (x1 : Int32) (h : M a = some (cO 5 fs)) : x_Slit_orderOf [.ref a, .int x0, .int x1] (M, nx) = zres (d_Slit_orderOf ([some (.ref a), some (.int x0), some (.int x1)], [], (M, nx))) := q_ofV [some (.ref a), some (.int x0), some (.int x1)] h rfl (Nat.le_of_ble_eq_true rfl) (Or.inr rfl)
theorem lc_Slit_orderOf_53 : lookI (eC E_Slit_orderOf) (.invokestatic 53) = some (3, x_Slit_within) := rfl
theorem lc_Slit_orderOf_111 : lookI (eC E_Slit_orderOf) (.invokevirtual 111) = some (1, x_Yard_orderCount) := rfl
theorem lc_Slit_orderOf_220 : lookI (eC E_Slit_orderOf) (.invokevirtual 220) = some (3, x_Yard_orderProperty) := rfl
theorem lf_Slit_orderOf_12 : lookN (eF E_Slit_orderOf) 12 = some (5, 0) := rfl
theorem lb_Slit_orderOf : eB E_Slit_orderOf = true := rfl
theorem lt_Slit_orderOf : eT E_Slit_orderOf = zST := rfl
-- CoilSlits.whyNot
def E_Slit_whyNot : Env := (true, [(12, 5, 0)], [(.invokevirtual 121, 2, x_Yard_indexOfOrder), (.invokevirtual 90, 2, x_Yard_placeOf), (.invokevirtual 134, 3, x_Yard_reasonAgainst)], [], [], zST, false)
def d_Slit_whyNot : Dn := (sq (blk E_Slit_whyNot [.aload_n 0, .getfield 12, .iload_n 1, .invokevirtual 121, .istore_n 3, .aload_n 0, .getfield 12, .iload_n 2, .invokevirtual 90, .istore 4])
  (sq (ite' (cor (cat E_Slit_whyNot [.iload_n 3, .iconst (-1)] (.if_icmp .eq 9)) (cno (cat E_Slit_whyNot [.iload 4, .iconst (-1)] (.if_icmp .ne 13))))
  (thw "java/lang/IndexOutOfBoundsException")
  (blk E_Slit_whyNot []))
  (rti E_Slit_whyNot [.aload_n 0, .getfield 12, .iload_n 3, .iload 4, .invokevirtual 134])))
def x_Slit_whyNot : Ex := zrv 5 (exb true 5 d_Slit_whyNot)
abbrev r_Slit_whyNot : Room := ({ frames := 6, cells := 1, slots := 6, locals := 88 } : Room)
theorem eo_Slit_whyNot (hw : zWok w) (cx : CX w p s m args c b_Slit_whyNot 5 "CoilSlits") : EnvOk w true p l e r_Slit_whyNot s m args below meth c Q b_Slit_whyNot 5 "CoilSlits" E_Slit_whyNot :=
  ⟨rfl, by decide +kernel, by decide +kernel, by decide +kernel, hw, fun h => absurd h (by decide),
  List.forall_mem_cons.mpr ⟨call_V cx (ct_Yard_indexOfOrder w l hw) tw_643 tw_640 tw_2 tw_641 tw_642 (ci := 2) (Nat.le_of_ble_eq_true rfl) rfl (by decide +kernel) ⟨Nat.le_of_ble_eq_true rfl, Nat.le_of_ble_eq_true rfl⟩, List.forall_mem_cons.mpr ⟨call_V cx (ct_Yard_placeOf w l hw) tw_600 tw_597 tw_2 tw_598 tw_599 (ci := 2) (Nat.le_of_ble_eq_true rfl) rfl (by decide +kernel) ⟨Nat.le_of_ble_eq_true rfl, Nat.le_of_ble_eq_true rfl⟩, List.forall_mem_cons.mpr ⟨call_V cx (ct_Yard_reasonAgainst w l hw) tw_661 tw_658 tw_2 tw_659 tw_660 (ci := 2) (Nat.le_of_ble_eq_true rfl) rfl (by decide +kernel) ⟨Nat.le_of_ble_eq_true rfl, Nat.le_of_ble_eq_true rfl⟩, fun q hq => absurd hq List.not_mem_nil⟩⟩⟩⟩
theorem sn_Slit_whyNot (h : MC w true p l e r_Slit_whyNot s m args below meth c Q b_Slit_whyNot 5 "CoilSlits" E_Slit_whyNot 1 6 F (some .int)) (hx : MX2 w p l e r_Slit_whyNot s m args below meth c Q 1 6 F) : Sn (zK w true p l e r_Slit_whyNot s m args below meth c Q 5) F (fun _ => False) (fun _ => False) 0 0 0 d_Slit_whyNot 1 6 0 := by
  unfold d_Slit_whyNot
  exact (sn_sq (pm := 19) (m_blk h zz (by decide +kernel))
  (sn_sq (pm := 40) (sn_ite (pt := 30) (pf := 40) (sc_or (pm := 24) (m_cat h zz (p1 := 21) (tgt := 30) (by decide +kernel) (by decide +kernel) (by decide)) (sc_no (m_cat h zz (p1 := 27) (tgt := 40) (by decide +kernel) (by decide +kernel) (by decide))))
  (m_thw h hx (X := "java/lang/IndexOutOfBoundsException") (text := "no such order, or no such coil in the yard") (ik := 46) (is := 132) (ic := 50) (by decide +kernel) tw_476 tw_12 (by decide +kernel) (by decide +kernel) zat_all (by decide +kernel) (by decide +kernel) (by decide +kernel) (by decide +kernel) (by decide +kernel) ⟨Nat.le_of_ble_eq_true rfl, Nat.le_of_ble_eq_true rfl, Nat.le_of_ble_eq_true rfl, Nat.le_of_ble_eq_true rfl⟩ (Nat.le_of_ble_eq_true rfl) (Nat.le_of_ble_eq_true rfl))
  (m_blk h zz rfl))
  (m_rti h zz (p1 := 50) (by decide +kernel) (by decide +kernel) (Nat.zero_le _) (Nat.zero_le _))))
theorem ct_Slit_whyNot (w : Wd) (l : Launch) (hw : zWok w) (hl : l.stackTraces = false) : CTX w l y_Slit_whyNot b_Slit_whyNot 5 (some .int) r_Slit_whyNot (exb true 5 d_Slit_whyNot) :=
  ctx_of hl (by decide +kernel) (fun p e s m args below meth c Q cx hnm => eo_Slit_whyNot hw cx) (fun p e s m args below meth c Q F h hx => sn_Slit_whyNot h hx)
theorem q_Slit_whyNot {a : Nat} {fs : List Value} {M : Hp} {nx : Nat} (x0 : Int32) (x1 : Int32) (h : M a = some (cO 5 fs)) : x_Slit_whyNot [.ref a, .int x0, .int x1] (M, nx) = zres (d_Slit_whyNot ([some (.ref a), some (.int x0), some (.int x1), none, none], [], (M, nx))) := q_ofV [some (.ref a), some (.int x0), some (.int x1), none, none] h rfl (Nat.le_of_ble_eq_true rfl) (Or.inr rfl)
theorem lc_Slit_whyNot_121 : lookI (eC E_Slit_whyNot) (.invokevirtual 121) = some (2, x_Yard_indexOfOrder) := rfl
theorem lc_Slit_whyNot_90 : lookI (eC E_Slit_whyNot) (.invokevirtual 90) = some (2, x_Yard_placeOf) := rfl
theorem lc_Slit_whyNot_134 : lookI (eC E_Slit_whyNot) (.invokevirtual 134) = some (3, x_Yard_reasonAgainst) := rfl
theorem lf_Slit_whyNot_12 : lookN (eF E_Slit_whyNot) 12 = some (5, 0) := rfl
theorem lb_Slit_whyNot : eB E_Slit_whyNot = true := rfl
theorem lt_Slit_whyNot : eT E_Slit_whyNot = zST := rfl
-- CoilSlits.count
def E_Slit_count : Env := (true, [], [(.invokestatic 53, 3, x_Slit_within), (.invokevirtual 225, 2, x_Slit_counted)], [], [], zST, false)
def d_Slit_count : Dn := (sq (ite' (cno (cat E_Slit_count [.iload_n 1, .iconst 0, .bipush 13, .invokestatic 53] (.ifCond .ne 13)))
  (thw "java/lang/IllegalArgumentException")
  (blk E_Slit_count []))
  (rti E_Slit_count [.aload_n 0, .iload_n 1, .invokevirtual 225]))
def x_Slit_count : Ex := zrv 5 (exb true 2 d_Slit_count)
abbrev r_Slit_count : Room := ({ frames := 6, cells := 1, slots := 6, locals := 82 } : Room)
theorem eo_Slit_count (hw : zWok w) (cx : CX w p s m args c b_Slit_count 2 "CoilSlits") : EnvOk w true p l e r_Slit_count s m args below meth c Q b_Slit_count 2 "CoilSlits" E_Slit_count :=
  ⟨rfl, by decide +kernel, by decide +kernel, by decide +kernel, hw, fun h => absurd h (by decide),
  List.forall_mem_cons.mpr ⟨call_S cx (ct_Slit_within w l hw) tw_319 tw_331 tw_1 tw_318 (by decide +kernel) ⟨Nat.le_of_ble_eq_true rfl, Nat.le_of_ble_eq_true rfl⟩, List.forall_mem_cons.mpr ⟨call_V cx (ct_Slit_counted w l hw) tw_385 tw_382 tw_1 tw_384 tp_18 (ci := 5) (Nat.le_of_ble_eq_true rfl) rfl (by decide +kernel) ⟨Nat.le_of_ble_eq_true rfl, Nat.le_of_ble_eq_true rfl⟩, fun q hq => absurd hq List.not_mem_nil⟩⟩⟩
theorem sn_Slit_count (h : MC w true p l e r_Slit_count s m args below meth c Q b_Slit_count 2 "CoilSlits" E_Slit_count 1 6 F (some .int)) (hx : MX2 w p l e r_Slit_count s m args below meth c Q 1 6 F) : Sn (zK w true p l e r_Slit_count s m args below meth c Q 2) F (fun _ => False) (fun _ => False) 0 0 0 d_Slit_count 1 6 0 := by
  unfold d_Slit_count
  exact (sn_sq (pm := 20) (sn_ite (pt := 10) (pf := 20) (sc_no (m_cat h zz (p1 := 7) (tgt := 20) (by decide +kernel) (by decide +kernel) (by decide)))
  (m_thw h hx (X := "java/lang/IllegalArgumentException") (text := "nothing of this kind is counted") (ik := 57) (is := 223) (ic := 61) (by decide +kernel) tw_544 tw_13 (by decide +kernel) (by decide +kernel) zat_all2 (by decide +kernel) (by decide +kernel) (by decide +kernel) (by decide +kernel) (by decide +kernel) ⟨Nat.le_of_ble_eq_true rfl, Nat.le_of_ble_eq_true rfl, Nat.le_of_ble_eq_true rfl, Nat.le_of_ble_eq_true rfl⟩ (Nat.le_of_ble_eq_true rfl) (Nat.le_of_ble_eq_true rfl))
  (m_blk h zz rfl))
  (m_rti h zz (p1 := 25) (by decide +kernel) (by decide +kernel) (Nat.zero_le _) (Nat.zero_le _)))
theorem ct_Slit_count (w : Wd) (l : Launch) (hw : zWok w) (hl : l.stackTraces = false) : CTX w l y_Slit_count b_Slit_count 2 (some .int) r_Slit_count (exb true 2 d_Slit_count) :=
  ctx_of hl (by decide +kernel) (fun p e s m args below meth c Q cx hnm => eo_Slit_count hw cx) (fun p e s m args below meth c Q F h hx => sn_Slit_count h hx)
theorem q_Slit_count {a : Nat} {fs : List Value} {M : Hp} {nx : Nat} (x0 : Int32) (h : M a = some (cO 5 fs)) : x_Slit_count [.ref a, .int x0] (M, nx) = zres (d_Slit_count ([some (.ref a), some (.int x0)], [], (M, nx))) := q_ofV [some (.ref a), some (.int x0)] h rfl (Nat.le_of_ble_eq_true rfl) (Or.inr rfl)
theorem lc_Slit_count_53 : lookI (eC E_Slit_count) (.invokestatic 53) = some (3, x_Slit_within) := rfl
theorem lc_Slit_count_225 : lookI (eC E_Slit_count) (.invokevirtual 225) = some (2, x_Slit_counted) := rfl
theorem lb_Slit_count : eB E_Slit_count = true := rfl
theorem lt_Slit_count : eT E_Slit_count = zST := rfl
-- CoilSlits.setting
def E_Slit_setting : Env := (true, [(12, 5, 0)], [(.invokestatic 151, 1, x_Slit_isSetting), (.invokevirtual 165, 2, x_Yard_settingNow)], [], [], zST, false)
def d_Slit_setting : Dn := (sq (ite' (cno (cat E_Slit_setting [.iload_n 1, .invokestatic 151] (.ifCond .ne 13)))
  (thw "java/lang/IndexOutOfBoundsException")
  (blk E_Slit_setting []))
  (rti E_Slit_setting [.aload_n 0, .getfield 12, .iload_n 1, .invokevirtual 165]))
def x_Slit_setting : Ex := zrv 5 (exb true 2 d_Slit_setting)
abbrev r_Slit_setting : Room := ({ frames := 6, cells := 1, slots := 6, locals := 82 } : Room)
theorem eo_Slit_setting (hw : zWok w) (cx : CX w p s m args c b_Slit_setting 2 "CoilSlits") : EnvOk w true p l e r_Slit_setting s m args below meth c Q b_Slit_setting 2 "CoilSlits" E_Slit_setting :=
  ⟨rfl, by decide +kernel, by decide +kernel, by decide +kernel, hw, fun h => absurd h (by decide),
  List.forall_mem_cons.mpr ⟨call_S cx (ct_Slit_isSetting w l hw) tw_682 tw_680 tw_1 tw_681 (by decide +kernel) ⟨Nat.le_of_ble_eq_true rfl, Nat.le_of_ble_eq_true rfl⟩, List.forall_mem_cons.mpr ⟨call_V cx (ct_Yard_settingNow w l hw) tw_409 tw_406 tw_2 tw_407 tw_408 (ci := 2) (Nat.le_of_ble_eq_true rfl) rfl (by decide +kernel) ⟨Nat.le_of_ble_eq_true rfl, Nat.le_of_ble_eq_true rfl⟩, fun q hq => absurd hq List.not_mem_nil⟩⟩⟩
theorem sn_Slit_setting (h : MC w true p l e r_Slit_setting s m args below meth c Q b_Slit_setting 2 "CoilSlits" E_Slit_setting 1 6 F (some .int)) (hx : MX2 w p l e r_Slit_setting s m args below meth c Q 1 6 F) : Sn (zK w true p l e r_Slit_setting s m args below meth c Q 2) F (fun _ => False) (fun _ => False) 0 0 0 d_Slit_setting 1 6 0 := by
  unfold d_Slit_setting
  exact (sn_sq (pm := 17) (sn_ite (pt := 7) (pf := 17) (sc_no (m_cat h zz (p1 := 4) (tgt := 17) (by decide +kernel) (by decide +kernel) (by decide)))
  (m_thw h hx (X := "java/lang/IndexOutOfBoundsException") (text := "no such setting") (ik := 46) (is := 154) (ic := 50) (by decide +kernel) tw_476 tw_12 (by decide +kernel) (by decide +kernel) zat_all (by decide +kernel) (by decide +kernel) (by decide +kernel) (by decide +kernel) (by decide +kernel) ⟨Nat.le_of_ble_eq_true rfl, Nat.le_of_ble_eq_true rfl, Nat.le_of_ble_eq_true rfl, Nat.le_of_ble_eq_true rfl⟩ (Nat.le_of_ble_eq_true rfl) (Nat.le_of_ble_eq_true rfl))
  (m_blk h zz rfl))
  (m_rti h zz (p1 := 25) (by decide +kernel) (by decide +kernel) (Nat.zero_le _) (Nat.zero_le _)))
theorem ct_Slit_setting (w : Wd) (l : Launch) (hw : zWok w) (hl : l.stackTraces = false) : CTX w l y_Slit_setting b_Slit_setting 2 (some .int) r_Slit_setting (exb true 2 d_Slit_setting) :=
  ctx_of hl (by decide +kernel) (fun p e s m args below meth c Q cx hnm => eo_Slit_setting hw cx) (fun p e s m args below meth c Q F h hx => sn_Slit_setting h hx)
theorem q_Slit_setting {a : Nat} {fs : List Value} {M : Hp} {nx : Nat} (x0 : Int32) (h : M a = some (cO 5 fs)) : x_Slit_setting [.ref a, .int x0] (M, nx) = zres (d_Slit_setting ([some (.ref a), some (.int x0)], [], (M, nx))) := q_ofV [some (.ref a), some (.int x0)] h rfl (Nat.le_of_ble_eq_true rfl) (Or.inr rfl)
theorem lc_Slit_setting_151 : lookI (eC E_Slit_setting) (.invokestatic 151) = some (1, x_Slit_isSetting) := rfl
theorem lc_Slit_setting_165 : lookI (eC E_Slit_setting) (.invokevirtual 165) = some (2, x_Yard_settingNow) := rfl
theorem lf_Slit_setting_12 : lookN (eF E_Slit_setting) 12 = some (5, 0) := rfl
theorem lb_Slit_setting : eB E_Slit_setting = true := rfl
theorem lt_Slit_setting : eT E_Slit_setting = zST := rfl
-- CoilSlits.choice
def E_Slit_choice : Env := (true, [(12, 5, 0)], [(.invokevirtual 121, 2, x_Yard_indexOfOrder), (.invokevirtual 228, 2, x_Slit_numberOfChoice)], [], [], zST, false)
def d_Slit_choice : Dn := (sq (blk E_Slit_choice [.aload_n 0, .getfield 12, .iload_n 1, .invokevirtual 121, .istore_n 2])
  (sq (ite' (cno (cat E_Slit_choice [.iload_n 2, .iconst (-1)] (.if_icmp .ne 13)))
  (thw "java/lang/IndexOutOfBoundsException")
  (blk E_Slit_choice []))
  (rti E_Slit_choice [.aload_n 0, .iload_n 2, .invokevirtual 228])))
def x_Slit_choice : Ex := zrv 5 (exb true 3 d_Slit_choice)
abbrev r_Slit_choice : Room := ({ frames := 6, cells := 1, slots := 6, locals := 99 } : Room)
theorem eo_Slit_choice (hw : zWok w) (cx : CX w p s m args c b_Slit_choice 3 "CoilSlits") : EnvOk w true p l e r_Slit_choice s m args below meth c Q b_Slit_choice 3 "CoilSlits" E_Slit_choice :=
  ⟨rfl, by decide +kernel, by decide +kernel, by decide +kernel, hw, fun h => absurd h (by decide),
  List.forall_mem_cons.mpr ⟨call_V cx (ct_Yard_indexOfOrder w l hw) tw_643 tw_640 tw_2 tw_641 tw_642 (ci := 2) (Nat.le_of_ble_eq_true rfl) rfl (by decide +kernel) ⟨Nat.le_of_ble_eq_true rfl, Nat.le_of_ble_eq_true rfl⟩, List.forall_mem_cons.mpr ⟨call_V cx (ct_Slit_numberOfChoice w l hw) tw_445 tw_442 tw_1 tw_444 tp_24 (ci := 5) (Nat.le_of_ble_eq_true rfl) rfl (by decide +kernel) ⟨Nat.le_of_ble_eq_true rfl, Nat.le_of_ble_eq_true rfl⟩, fun q hq => absurd hq List.not_mem_nil⟩⟩⟩
theorem sn_Slit_choice (h : MC w true p l e r_Slit_choice s m args below meth c Q b_Slit_choice 3 "CoilSlits" E_Slit_choice 1 6 F (some .int)) (hx : MX2 w p l e r_Slit_choice s m args below meth c Q 1 6 F) : Sn (zK w true p l e r_Slit_choice s m args below meth c Q 3) F (fun _ => False) (fun _ => False) 0 0 0 d_Slit_choice 1 6 0 := by
  unfold d_Slit_choice
  exact (sn_sq (pm := 9) (m_blk h zz (by decide +kernel))
  (sn_sq (pm := 24) (sn_ite (pt := 14) (pf := 24) (sc_no (m_cat h zz (p1 := 11) (tgt := 24) (by decide +kernel) (by decide +kernel) (by decide)))
  (m_thw h hx (X := "java/lang/IndexOutOfBoundsException") (text := "no such order") (ik := 46) (is := 124) (ic := 50) (by decide +kernel) tw_476 tw_12 (by decide +kernel) (by decide +kernel) zat_all (by decide +kernel) (by decide +kernel) (by decide +kernel) (by decide +kernel) (by decide +kernel) ⟨Nat.le_of_ble_eq_true rfl, Nat.le_of_ble_eq_true rfl, Nat.le_of_ble_eq_true rfl, Nat.le_of_ble_eq_true rfl⟩ (Nat.le_of_ble_eq_true rfl) (Nat.le_of_ble_eq_true rfl))
  (m_blk h zz rfl))
  (m_rti h zz (p1 := 29) (by decide +kernel) (by decide +kernel) (Nat.zero_le _) (Nat.zero_le _))))
theorem ct_Slit_choice (w : Wd) (l : Launch) (hw : zWok w) (hl : l.stackTraces = false) : CTX w l y_Slit_choice b_Slit_choice 3 (some .int) r_Slit_choice (exb true 3 d_Slit_choice) :=
  ctx_of hl (by decide +kernel) (fun p e s m args below meth c Q cx hnm => eo_Slit_choice hw cx) (fun p e s m args below meth c Q F h hx => sn_Slit_choice h hx)
theorem q_Slit_choice {a : Nat} {fs : List Value} {M : Hp} {nx : Nat} (x0 : Int32) (h : M a = some (cO 5 fs)) : x_Slit_choice [.ref a, .int x0] (M, nx) = zres (d_Slit_choice ([some (.ref a), some (.int x0), none], [], (M, nx))) := q_ofV [some (.ref a), some (.int x0), none] h rfl (Nat.le_of_ble_eq_true rfl) (Or.inr rfl)
theorem lc_Slit_choice_121 : lookI (eC E_Slit_choice) (.invokevirtual 121) = some (2, x_Yard_indexOfOrder) := rfl
theorem lc_Slit_choice_228 : lookI (eC E_Slit_choice) (.invokevirtual 228) = some (2, x_Slit_numberOfChoice) := rfl
theorem lf_Slit_choice_12 : lookN (eF E_Slit_choice) 12 = some (5, 0) := rfl
theorem lb_Slit_choice : eB E_Slit_choice = true := rfl
theorem lt_Slit_choice : eT E_Slit_choice = zST := rfl
-- CoilSlits.ifServed
def E_Slit_ifServed : Env := (true, [(12, 5, 0), (16, 5, 1)], [(.invokevirtual 121, 2, x_Yard_indexOfOrder), (.invokestatic 53, 3, x_Slit_within), (.invokevirtual 233, 2, x_Slit_beginTrial), (.invokevirtual 145, 2, x_Yard_fulfil), (.invokevirtual 236, 2, x_Slit_gainOfTrial)], [], [], zST, false)
def d_Slit_ifServed : Dn := (sq (blk E_Slit_ifServed [.aload_n 0, .getfield 12, .iload_n 1, .invokevirtual 121, .istore 4])
  (sq (ite' (cno (cat E_Slit_ifServed [.iload 4, .iconst (-1)] (.if_icmp .ne 13)))
  (thw "java/lang/IndexOutOfBoundsException")
  (blk E_Slit_ifServed []))
  (sq (ite' (cor (cat E_Slit_ifServed [.iload_n 2, .iconst 0, .iconst 2, .invokestatic 53] (.ifCond .eq 12)) (cno (cat E_Slit_ifServed [.iload_n 3, .iconst 0, .iconst 3, .invokestatic 53] (.ifCond .ne 13))))
  (thw "java/lang/IllegalArgumentException")
  (blk E_Slit_ifServed []))
  (rti E_Slit_ifServed [.aload_n 0, .iload_n 2, .invokevirtual 233, .aload_n 0, .getfield 16, .iload 4, .invokevirtual 145, .pop, .aload_n 0, .iload_n 3, .invokevirtual 236]))))
def x_Slit_ifServed : Ex := zrv 5 (exb true 5 d_Slit_ifServed)
abbrev r_Slit_ifServed : Room := ({ frames := 6, cells := 1, slots := 6, locals := 158 } : Room)
theorem eo_Slit_ifServed (hw : zWok w) (cx : CX w p s m args c b_Slit_ifServed 5 "CoilSlits") : EnvOk w true p l e r_Slit_ifServed s m args below meth c Q b_Slit_ifServed 5 "CoilSlits" E_Slit_ifServed :=
  ⟨rfl, by decide +kernel, by decide +kernel, by decide +kernel, hw, fun h => absurd h (by decide),
  List.forall_mem_cons.mpr ⟨call_V cx (ct_Yard_indexOfOrder w l hw) tw_643 tw_640 tw_2 tw_641 tw_642 (ci := 2) (Nat.le_of_ble_eq_true rfl) rfl (by decide +kernel) ⟨Nat.le_of_ble_eq_true rfl, Nat.le_of_ble_eq_true rfl⟩, List.forall_mem_cons.mpr ⟨call_S cx (ct_Slit_within w l hw) tw_319 tw_331 tw_1 tw_318 (by decide +kernel) ⟨Nat.le_of_ble_eq_true rfl, Nat.le_of_ble_eq_true rfl⟩, List.forall_mem_cons.mpr ⟨call_V cx (ct_Slit_beginTrial w l hw) tw_347 tw_344 tw_1 tw_346 tp_17 (ci := 5) (Nat.le_of_ble_eq_true rfl) rfl (by decide +kernel) ⟨Nat.le_of_ble_eq_true rfl, Nat.le_of_ble_eq_true rfl⟩, List.forall_mem_cons.mpr ⟨call_V cx (ct_Yard_fulfil w l hw) tw_204 tw_447 tw_2 tw_202 tw_203 (ci := 2) (Nat.le_of_ble_eq_true rfl) rfl (by decide +kernel) ⟨Nat.le_of_ble_eq_true rfl, Nat.le_of_ble_eq_true rfl⟩, List.forall_mem_cons.mpr ⟨call_V cx (ct_Slit_gainOfTrial w l hw) tw_451 tw_448 tw_1 tw_450 tp_25 (ci := 5) (Nat.le_of_ble_eq_true rfl) rfl (by decide +kernel) ⟨Nat.le_of_ble_eq_true rfl, Nat.le_of_ble_eq_true rfl⟩, fun q hq => absurd hq List.not_mem_nil⟩⟩⟩⟩⟩⟩
theorem sn_Slit_ifServed (h : MC w true p l e r_Slit_ifServed s m args below meth c Q b_Slit_ifServed 5 "CoilSlits" E_Slit_ifServed 1 6 F (some .int)) (hx : MX2 w p l e r_Slit_ifServed s m args below meth c Q 1 6 F) : Sn (zK w true p l e r_Slit_ifServed s m args below meth c Q 5) F (fun _ => False) (fun _ => False) 0 0 0 d_Slit_ifServed 1 6 0 := by
  unfold d_Slit_ifServed
  exact (sn_sq (pm := 10) (m_blk h zz (by decide +kernel))
  (sn_sq (pm := 26) (sn_ite (pt := 16) (pf := 26) (sc_no (m_cat h zz (p1 := 13) (tgt := 26) (by decide +kernel) (by decide +kernel) (by decide)))
  (m_thw h hx (X := "java/lang/IndexOutOfBoundsException") (text := "no such order") (ik := 46) (is := 124) (ic := 50) (by decide +kernel) tw_476 tw_12 (by decide +kernel) (by decide +kernel) zat_all (by decide +kernel) (by decide +kernel) (by decide +kernel) (by decide +kernel) (by decide +kernel) ⟨Nat.le_of_ble_eq_true rfl, Nat.le_of_ble_eq_true rfl, Nat.le_of_ble_eq_true rfl, Nat.le_of_ble_eq_true rfl⟩ (Nat.le_of_ble_eq_true rfl) (Nat.le_of_ble_eq_true rfl))
  (m_blk h zz rfl))
  (sn_sq (pm := 54) (sn_ite (pt := 44) (pf := 54) (sc_or (pm := 35) (m_cat h zz (p1 := 32) (tgt := 44) (by decide +kernel) (by decide +kernel) (by decide)) (sc_no (m_cat h zz (p1 := 41) (tgt := 54) (by decide +kernel) (by decide +kernel) (by decide))))
  (m_thw h hx (X := "java/lang/IllegalArgumentException") (text := "rule or what is out of range") (ik := 57) (is := 231) (ic := 61) (by decide +kernel) tw_544 tw_13 (by decide +kernel) (by decide +kernel) zat_all2 (by decide +kernel) (by decide +kernel) (by decide +kernel) (by decide +kernel) (by decide +kernel) ⟨Nat.le_of_ble_eq_true rfl, Nat.le_of_ble_eq_true rfl, Nat.le_of_ble_eq_true rfl, Nat.le_of_ble_eq_true rfl⟩ (Nat.le_of_ble_eq_true rfl) (Nat.le_of_ble_eq_true rfl))
  (m_blk h zz rfl))
  (m_rti h zz (p1 := 74) (by decide +kernel) (by decide +kernel) (Nat.zero_le _) (Nat.zero_le _)))))
theorem ct_Slit_ifServed (w : Wd) (l : Launch) (hw : zWok w) (hl : l.stackTraces = false) : CTX w l y_Slit_ifServed b_Slit_ifServed 5 (some .int) r_Slit_ifServed (exb true 5 d_Slit_ifServed) :=
  ctx_of hl (by decide +kernel) (fun p e s m args below meth c Q cx hnm => eo_Slit_ifServed hw cx) (fun p e s m args below meth c Q F h hx => sn_Slit_ifServed h hx)
theorem q_Slit_ifServed {a : Nat} {fs : List Value} {M : Hp} {nx : Nat} (x0 : Int32) (x1 : Int32) (x2 : Int32) (h : M a = some (cO 5 fs)) : x_Slit_ifServed [.ref a, .int x0, .int x1, .int x2] (M, nx) = zres (d_Slit_ifServed ([some (.ref a), some (.int x0), some (.int x1), some (.int x2), none], [], (M, nx))) := q_ofV [some (.ref a), some (.int x0), some (.int x1), some (.int x2), none] h rfl (Nat.le_of_ble_eq_true rfl) (Or.inr rfl)
theorem lc_Slit_ifServed_121 : lookI (eC E_Slit_ifServed) (.invokevirtual 121) = some (2, x_Yard_indexOfOrder) := rfl
theorem lc_Slit_ifServed_53 : lookI (eC E_Slit_ifServed) (.invokestatic 53) = some (3, x_Slit_within) := rfl
theorem lc_Slit_ifServed_233 : lookI (eC E_Slit_ifServed) (.invokevirtual 233) = some (2, x_Slit_beginTrial) := rfl
theorem lc_Slit_ifServed_145 : lookI (eC E_Slit_ifServed) (.invokevirtual 145) = some (2, x_Yard_fulfil) := rfl
theorem lc_Slit_ifServed_236 : lookI (eC E_Slit_ifServed) (.invokevirtual 236) = some (2, x_Slit_gainOfTrial) := rfl
theorem lf_Slit_ifServed_12 : lookN (eF E_Slit_ifServed) 12 = some (5, 0) := rfl
theorem lf_Slit_ifServed_16 : lookN (eF E_Slit_ifServed) 16 = some (5, 1) := rfl
theorem lb_Slit_ifServed : eB E_Slit_ifServed = true := rfl
theorem lt_Slit_ifServed : eT E_Slit_ifServed = zST := rfl
end
