section
variable {w : Wd} {p : Program} {l : Launch} {e : Jvm.Env} {s : State} {m : MethodId} {args : Array Value} {below : List Frame} {meth : Method} {c : Code} {Q : State → Prop} {F : Out → G → Prop} {R : Room}
-- CoilSlits$Yard.copyFrom
def E_Yard_copyFrom : Env := (true, [(14, 2, 0), (25, 2, 1), (29, 2, 2), (32, 2, 3), (35, 2, 4), (55, 2, 5), (59, 2, 6), (62, 2, 7)], [(.invokevirtual 48, 2, x_Grid_copyFrom), (.invokevirtual 52, 2, x_Row_copyFrom)], [], [], zST, false)
def d_Yard_copyFrom : Dn := (rtv E_Yard_copyFrom [.aload_n 0, .getfield 14, .aload_n 1, .getfield 14, .invokevirtual 48, .aload_n 0, .getfield 25, .aload_n 1, .getfield 25, .invokevirtual 52, .aload_n 0, .getfield 29, .aload_n 1, .getfield 29, .invokevirtual 48, .aload_n 0, .getfield 32, .aload_n 1, .getfield 32, .invokevirtual 52, .aload_n 0, .getfield 35, .aload_n 1, .getfield 35, .invokevirtual 52, .aload_n 0, .aload_n 1, .getfield 55, .putfield 55, .aload_n 0, .aload_n 1, .getfield 59, .putfield 59, .aload_n 0, .aload_n 1, .getfield 62, .putfield 62])
def x_Yard_copyFrom : Ex := zrv 2 (exb true 2 d_Yard_copyFrom)
abbrev r_Yard_copyFrom : Room := ({ frames := 2, cells := 0, slots := 0, locals := 82 } : Room)
theorem eo_Yard_copyFrom (hw : zWok w) (cx : CX w p s m args c b_Yard_copyFrom 2 "CoilSlits$Yard") : EnvOk w true p l e r_Yard_copyFrom s m args below meth c Q b_Yard_copyFrom 2 "CoilSlits$Yard" E_Yard_copyFrom :=
  ⟨rfl, by decide +kernel, by decide +kernel, by decide +kernel, hw, fun h => absurd h (by decide),
  List.forall_mem_cons.mpr ⟨call_V cx (ct_Grid_copyFrom w l hw) tw_175 tw_172 tw_3 tw_173 tw_174 (ci := 1) (Nat.le_of_ble_eq_true rfl) rfl (by decide +kernel) ⟨Nat.le_of_ble_eq_true rfl, Nat.le_of_ble_eq_true rfl⟩, List.forall_mem_cons.mpr ⟨call_V cx (ct_Row_copyFrom w l hw) tw_185 tw_182 tw_5 tw_183 tw_184 (ci := 0) (Nat.le_of_ble_eq_true rfl) rfl (by decide +kernel) ⟨Nat.le_of_ble_eq_true rfl, Nat.le_of_ble_eq_true rfl⟩, fun q hq => absurd hq List.not_mem_nil⟩⟩⟩
theorem sn_Yard_copyFrom (h : MC w true p l e R s m args below meth c Q b_Yard_copyFrom 2 "CoilSlits$Yard" E_Yard_copyFrom 0 0 F none) : Sn (zK w true p l e R s m args below meth c Q 2) F (fun _ => False) (fun _ => False) 0 0 0 d_Yard_copyFrom 0 0 0 := by
  unfold d_Yard_copyFrom
  exact (m_rtv h zz (p1 := 79) (by decide +kernel) (by decide +kernel) (Nat.zero_le _) (Nat.zero_le _))
theorem ct_Yard_copyFrom (w : Wd) (l : Launch) (hw : zWok w) : CT w l y_Yard_copyFrom b_Yard_copyFrom 2 none r_Yard_copyFrom (exb true 2 d_Yard_copyFrom) :=
  ct_plain (by decide +kernel) (fun p e s m args below meth c Q cx hnm => eo_Yard_copyFrom hw cx) (fun p e s m args below meth c Q F h => sn_Yard_copyFrom h)
theorem q_Yard_copyFrom {a : Nat} {fs : List Value} {M : Hp} {nx : Nat} (x0 : Nat) (h : M a = some (cO 2 fs)) : x_Yard_copyFrom [.ref a, .ref x0] (M, nx) = zres (d_Yard_copyFrom ([some (.ref a), some (.ref x0)], [], (M, nx))) := q_ofV [some (.ref a), some (.ref x0)] h rfl (Nat.le_of_ble_eq_true rfl) (Or.inr rfl)
theorem lc_Yard_copyFrom_48 : lookI (eC E_Yard_copyFrom) (.invokevirtual 48) = some (2, x_Grid_copyFrom) := rfl
theorem lc_Yard_copyFrom_52 : lookI (eC E_Yard_copyFrom) (.invokevirtual 52) = some (2, x_Row_copyFrom) := rfl
theorem lf_Yard_copyFrom_14 : lookN (eF E_Yard_copyFrom) 14 = some (2, 0) := rfl
theorem lf_Yard_copyFrom_25 : lookN (eF E_Yard_copyFrom) 25 = some (2, 1) := rfl
theorem lf_Yard_copyFrom_29 : lookN (eF E_Yard_copyFrom) 29 = some (2, 2) := rfl
theorem lf_Yard_copyFrom_32 : lookN (eF E_Yard_copyFrom) 32 = some (2, 3) := rfl
theorem lf_Yard_copyFrom_35 : lookN (eF E_Yard_copyFrom) 35 = some (2, 4) := rfl
theorem lf_Yard_copyFrom_55 : lookN (eF E_Yard_copyFrom) 55 = some (2, 5) := rfl
theorem lf_Yard_copyFrom_59 : lookN (eF E_Yard_copyFrom) 59 = some (2, 6) := rfl
theorem lf_Yard_copyFrom_62 : lookN (eF E_Yard_copyFrom) 62 = some (2, 7) := rfl
theorem lb_Yard_copyFrom : eB E_Yard_copyFrom = true := rfl
-- CoilSlits$Yard.dearestBehind
def E_Yard_dearestBehind : Env := (true, [(55, 2, 5), (29, 2, 2)], [(.invokevirtual 69, 3, x_Grid_get)], [], [], zST, false)
def d_Yard_dearestBehind : Dn := (sq (blk E_Yard_dearestBehind [.iconst (-1), .istore_n 3, .iconst 0, .istore 4])
  (sq (lop (cfo [5, 6] (cno (cat E_Yard_dearestBehind [.iload 4, .aload_n 0, .getfield 55] (.if_icmp .ge 81))))
  (sq (blk E_Yard_dearestBehind [.aload_n 0, .getfield 29, .iload 4, .iconst 5, .invokevirtual 69, .istore 5])
  (sq (ite' (cor (cat E_Yard_dearestBehind [.iload 5, .iload_n 1] (.if_icmp .lt 23)) (can (cno (cat E_Yard_dearestBehind [.iload 5, .iload_n 1] (.if_icmp .ne 21))) (cno (cat E_Yard_dearestBehind [.aload_n 0, .getfield 29, .iload 4, .iconst 0, .invokevirtual 69, .iload_n 2] (.if_icmp .le 7)))))
  (blk E_Yard_dearestBehind [.iconst 1])
  (blk E_Yard_dearestBehind [.iconst 0]))
  (sq (blk E_Yard_dearestBehind [.istore 6])
  (sq (ite' (can (cno (cat E_Yard_dearestBehind [.iload 6] (.ifCond .eq 25))) (cor (cat E_Yard_dearestBehind [.iload_n 3, .iconst (-1)] (.if_icmp .eq 17)) (cno (cat E_Yard_dearestBehind [.iload 5, .aload_n 0, .getfield 29, .iload_n 3, .iconst 5, .invokevirtual 69] (.if_icmp .le 6)))))
  (blk E_Yard_dearestBehind [.iload 4, .istore_n 3])
  (blk E_Yard_dearestBehind []))
  (blk E_Yard_dearestBehind [.iinc 4 1])))))
  (blk E_Yard_dearestBehind []) zFU)
  (rti E_Yard_dearestBehind [.iload_n 3])))
def x_Yard_dearestBehind : Ex := zrv 2 (exb true 7 d_Yard_dearestBehind)
abbrev r_Yard_dearestBehind : Room := ({ frames := 1, cells := 0, slots := 0, locals := 24 } : Room)
theorem eo_Yard_dearestBehind (hw : zWok w) (cx : CX w p s m args c b_Yard_dearestBehind 7 "CoilSlits$Yard") : EnvOk w true p l e r_Yard_dearestBehind s m args below meth c Q b_Yard_dearestBehind 7 "CoilSlits$Yard" E_Yard_dearestBehind :=
  ⟨rfl, by decide +kernel, by decide +kernel, by decide +kernel, hw, fun h => absurd h (by decide),
  List.forall_mem_cons.mpr ⟨call_V cx (ct_Grid_get w l hw) tw_200 tw_197 tw_3 tw_198 tw_199 (ci := 1) (Nat.le_of_ble_eq_true rfl) rfl (by decide +kernel) ⟨Nat.le_of_ble_eq_true rfl, Nat.le_of_ble_eq_true rfl⟩, fun q hq => absurd hq List.not_mem_nil⟩⟩
theorem sn_Yard_dearestBehind (h : MC w true p l e R s m args below meth c Q b_Yard_dearestBehind 7 "CoilSlits$Yard" E_Yard_dearestBehind 0 0 F (some .int)) : Sn (zK w true p l e R s m args below meth c Q 7) F (fun _ => False) (fun _ => False) 0 0 0 d_Yard_dearestBehind 0 0 0 := by
  unfold d_Yard_dearestBehind
  exact (sn_sq (pm := 5) (m_blk h zz (by decide +kernel))
  (sn_sq (pm := 92) (sn_lop (pt := 14) (pu := 89) (p2 := 89) (px := 92) (kb2 := fun _ => False) (kc2 := fun _ => False) (sc_fo m_fo (sc_no (m_cat h zz (p1 := 11) (tgt := 92) (by decide +kernel) (by decide +kernel) (by decide))))
  (sn_sq (pm := 26) (m_blk h zz (by decide +kernel))
  (sn_sq (pm := 57) (sn_ite (pt := 52) (pf := 56) (sc_or (pm := 32) (m_cat h zz (p1 := 29) (tgt := 52) (by decide +kernel) (by decide +kernel) (by decide)) (sc_an (pm := 38) (sc_no (m_cat h zz (p1 := 35) (tgt := 56) (by decide +kernel) (by decide +kernel) (by decide))) (sc_no (m_cat h zz (p1 := 49) (tgt := 56) (by decide +kernel) (by decide +kernel) (by decide)))))
  (sn_goto (pm := 53) (m_blk h zz (by decide +kernel)) (m_goto h (off := 4) (by decide +kernel) (by decide)))
  (m_blk h zz (by decide +kernel)))
  (sn_sq (pm := 59) (m_blk h zz (by decide +kernel))
  (sn_sq (pm := 86) (sn_ite (pt := 83) (pf := 86) (sc_an (pm := 64) (sc_no (m_cat h zz (p1 := 61) (tgt := 86) (by decide +kernel) (by decide +kernel) (by decide))) (sc_or (pm := 69) (m_cat h zz (p1 := 66) (tgt := 83) (by decide +kernel) (by decide +kernel) (by decide)) (sc_no (m_cat h zz (p1 := 80) (tgt := 86) (by decide +kernel) (by decide +kernel) (by decide)))))
  (m_blk h zz (by decide +kernel))
  (m_blk h zz rfl))
  (m_blk h zz (by decide +kernel))))))
  (m_blk h zz rfl) (m_goto h (off := (-84)) (by decide +kernel) (by decide)) zFU)
  (m_rti h zz (p1 := 93) (by decide +kernel) (by decide +kernel) (Nat.zero_le _) (Nat.zero_le _))))
theorem ct_Yard_dearestBehind (w : Wd) (l : Launch) (hw : zWok w) : CT w l y_Yard_dearestBehind b_Yard_dearestBehind 7 (some .int) r_Yard_dearestBehind (exb true 7 d_Yard_dearestBehind) :=
  ct_plain (by decide +kernel) (fun p e s m args below meth c Q cx hnm => eo_Yard_dearestBehind hw cx) (fun p e s m args below meth c Q F h => sn_Yard_dearestBehind h)
theorem q_Yard_dearestBehind {a : Nat} {fs : List Value} {M : Hp} {nx : Nat} (x0 : Int32) (x1 : Int32) (h : M a = some (cO 2 fs)) : x_Yard_dearestBehind [.ref a, .int x0, .int x1] (M, nx) = zres (d_Yard_dearestBehind ([some (.ref a), some (.int x0), some (.int x1), none, none, none, none], [], (M, nx))) := q_ofV [some (.ref a), some (.int x0), some (.int x1), none, none, none, none] h rfl (Nat.le_of_ble_eq_true rfl) (Or.inr rfl)
theorem lc_Yard_dearestBehind_69 : lookI (eC E_Yard_dearestBehind) (.invokevirtual 69) = some (3, x_Grid_get) := rfl
theorem lf_Yard_dearestBehind_55 : lookN (eF E_Yard_dearestBehind) 55 = some (2, 5) := rfl
theorem lf_Yard_dearestBehind_29 : lookN (eF E_Yard_dearestBehind) 29 = some (2, 2) := rfl
theorem lb_Yard_dearestBehind : eB E_Yard_dearestBehind = true := rfl
-- CoilSlits$Yard.widthTaken
def E_Yard_widthTaken : Env := (true, [(29, 2, 2), (32, 2, 3)], [(.invokevirtual 69, 3, x_Grid_get), (.invokevirtual 65, 2, x_Row_get)], [], [], zST, false)
def d_Yard_widthTaken : Dn := (rti E_Yard_widthTaken [.aload_n 0, .getfield 29, .iload_n 1, .iconst 3, .invokevirtual 69, .aload_n 0, .getfield 32, .iconst 1, .invokevirtual 65, .iadd])
def x_Yard_widthTaken : Ex := zrv 2 (exb true 2 d_Yard_widthTaken)
abbrev r_Yard_widthTaken : Room := ({ frames := 1, cells := 0, slots := 0, locals := 24 } : Room)
theorem eo_Yard_widthTaken (hw : zWok w) (cx : CX w p s m args c b_Yard_widthTaken 2 "CoilSlits$Yard") : EnvOk w true p l e r_Yard_widthTaken s m args below meth c Q b_Yard_widthTaken 2 "CoilSlits$Yard" E_Yard_widthTaken :=
  ⟨rfl, by decide +kernel, by decide +kernel, by decide +kernel, hw, fun h => absurd h (by decide),
  List.forall_mem_cons.mpr ⟨call_V cx (ct_Grid_get w l hw) tw_200 tw_197 tw_3 tw_198 tw_199 (ci := 1) (Nat.le_of_ble_eq_true rfl) rfl (by decide +kernel) ⟨Nat.le_of_ble_eq_true rfl, Nat.le_of_ble_eq_true rfl⟩, List.forall_mem_cons.mpr ⟨call_V cx (ct_Row_get w l hw) tw_216 tw_213 tw_5 tw_214 tw_215 (ci := 0) (Nat.le_of_ble_eq_true rfl) rfl (by decide +kernel) ⟨Nat.le_of_ble_eq_true rfl, Nat.le_of_ble_eq_true rfl⟩, fun q hq => absurd hq List.not_mem_nil⟩⟩⟩
theorem sn_Yard_widthTaken (h : MC w true p l e R s m args below meth c Q b_Yard_widthTaken 2 "CoilSlits$Yard" E_Yard_widthTaken 0 0 F (some .int)) : Sn (zK w true p l e R s m args below meth c Q 2) F (fun _ => False) (fun _ => False) 0 0 0 d_Yard_widthTaken 0 0 0 := by
  unfold d_Yard_widthTaken
  exact (m_rti h zz (p1 := 18) (by decide +kernel) (by decide +kernel) (Nat.zero_le _) (Nat.zero_le _))
theorem ct_Yard_widthTaken (w : Wd) (l : Launch) (hw : zWok w) : CT w l y_Yard_widthTaken b_Yard_widthTaken 2 (some .int) r_Yard_widthTaken (exb true 2 d_Yard_widthTaken) :=
  ct_plain (by decide +kernel) (fun p e s m args below meth c Q cx hnm => eo_Yard_widthTaken hw cx) (fun p e s m args below meth c Q F h => sn_Yard_widthTaken h)
theorem q_Yard_widthTaken {a : Nat} {fs : List Value} {M : Hp} {nx : Nat} (x0 : Int32) (h : M a = some (cO 2 fs)) : x_Yard_widthTaken [.ref a, .int x0] (M, nx) = zres (d_Yard_widthTaken ([some (.ref a), some (.int x0)], [], (M, nx))) := q_ofV [some (.ref a), some (.int x0)] h rfl (Nat.le_of_ble_eq_true rfl) (Or.inr rfl)
theorem lc_Yard_widthTaken_69 : lookI (eC E_Yard_widthTaken) (.invokevirtual 69) = some (3, x_Grid_get) := rfl
theorem lc_Yard_widthTaken_65 : lookI (eC E_Yard_widthTaken) (.invokevirtual 65) = some (2, x_Row_get) := rfl
theorem lf_Yard_widthTaken_29 : lookN (eF E_Yard_widthTaken) 29 = some (2, 2) := rfl
theorem lf_Yard_widthTaken_32 : lookN (eF E_Yard_widthTaken) 32 = some (2, 3) := rfl
theorem lb_Yard_widthTaken : eB E_Yard_widthTaken = true := rfl
-- CoilSlits$Yard.mismatch
def E_Yard_mismatch : Env := (true, [(14, 2, 0), (29, 2, 2)], [(.invokevirtual 69, 3, x_Grid_get)], [], [], zST, false)
def d_Yard_mismatch : Dn := (sq (ite' (cno (cat E_Yard_mismatch [.aload_n 0, .getfield 14, .iload_n 2, .iconst 1, .invokevirtual 69, .aload_n 0, .getfield 29, .iload_n 1, .iconst 1, .invokevirtual 69] (.if_icmp .eq 5)))
  (rti E_Yard_mismatch [.iconst 1])
  (blk E_Yard_mismatch []))
  (sq (ite' (cno (cat E_Yard_mismatch [.aload_n 0, .getfield 14, .iload_n 2, .iconst 2, .invokevirtual 69, .aload_n 0, .getfield 29, .iload_n 1, .iconst 2, .invokevirtual 69] (.if_icmp .ge 5)))
  (rti E_Yard_mismatch [.iconst 2])
  (blk E_Yard_mismatch []))
  (sq (ite' (cno (cat E_Yard_mismatch [.aload_n 0, .getfield 14, .iload_n 2, .iconst 0, .invokevirtual 69, .iload_n 3] (.if_icmp .ge 7)))
  (blk E_Yard_mismatch [.iconst 3])
  (blk E_Yard_mismatch [.iconst 0]))
  (rti E_Yard_mismatch []))))
def x_Yard_mismatch : Ex := zrv 2 (exb true 4 d_Yard_mismatch)
abbrev r_Yard_mismatch : Room := ({ frames := 1, cells := 0, slots := 0, locals := 24 } : Room)
theorem eo_Yard_mismatch (hw : zWok w) (cx : CX w p s m args c b_Yard_mismatch 4 "CoilSlits$Yard") : EnvOk w true p l e r_Yard_mismatch s m args below meth c Q b_Yard_mismatch 4 "CoilSlits$Yard" E_Yard_mismatch :=
  ⟨rfl, by decide +kernel, by decide +kernel, by decide +kernel, hw, fun h => absurd h (by decide),
  List.forall_mem_cons.mpr ⟨call_V cx (ct_Grid_get w l hw) tw_200 tw_197 tw_3 tw_198 tw_199 (ci := 1) (Nat.le_of_ble_eq_true rfl) rfl (by decide +kernel) ⟨Nat.le_of_ble_eq_true rfl, Nat.le_of_ble_eq_true rfl⟩, fun q hq => absurd hq List.not_mem_nil⟩⟩
theorem sn_Yard_mismatch (h : MC w true p l e R s m args below meth c Q b_Yard_mismatch 4 "CoilSlits$Yard" E_Yard_mismatch 0 0 F (some .int)) : Sn (zK w true p l e R s m args below meth c Q 4) F (fun _ => False) (fun _ => False) 0 0 0 d_Yard_mismatch 0 0 0 := by
  unfold d_Yard_mismatch
  exact (sn_sq (pm := 23) (sn_ite (pt := 21) (pf := 23) (sc_no (m_cat h zz (p1 := 18) (tgt := 23) (by decide +kernel) (by decide +kernel) (by decide)))
  (m_rti h zz (p1 := 22) (by decide +kernel) (by decide +kernel) (Nat.zero_le _) (Nat.zero_le _))
  (m_blk h zz rfl))
  (sn_sq (pm := 46) (sn_ite (pt := 44) (pf := 46) (sc_no (m_cat h zz (p1 := 41) (tgt := 46) (by decide +kernel) (by decide +kernel) (by decide)))
  (m_rti h zz (p1 := 45) (by decide +kernel) (by decide +kernel) (Nat.zero_le _) (Nat.zero_le _))
  (m_blk h zz rfl))
  (sn_sq (pm := 64) (sn_ite (pt := 59) (pf := 63) (sc_no (m_cat h zz (p1 := 56) (tgt := 63) (by decide +kernel) (by decide +kernel) (by decide)))
  (sn_goto (pm := 60) (m_blk h zz (by decide +kernel)) (m_goto h (off := 4) (by decide +kernel) (by decide)))
  (m_blk h zz (by decide +kernel)))
  (m_rti h zz (p1 := 64) (by decide +kernel) (by decide +kernel) (Nat.zero_le _) (Nat.zero_le _)))))
theorem ct_Yard_mismatch (w : Wd) (l : Launch) (hw : zWok w) : CT w l y_Yard_mismatch b_Yard_mismatch 4 (some .int) r_Yard_mismatch (exb true 4 d_Yard_mismatch) :=
  ct_plain (by decide +kernel) (fun p e s m args below meth c Q cx hnm => eo_Yard_mismatch hw cx) (fun p e s m args below meth c Q F h => sn_Yard_mismatch h)
theorem q_Yard_mismatch {a : Nat} {fs : List Value} {M : Hp} {nx : Nat} (x0 : Int32) (x1 : Int32) (x2 : Int32) (h : M a = some (cO 2 fs)) : x_Yard_mismatch [.ref a, .int x0, .int x1, .int x2] (M, nx) = zres (d_Yard_mismatch ([some (.ref a), some (.int x0), some (.int x1), some (.int x2)], [], (M, nx))) := q_ofV [some (.ref a), some (.int x0), some (.int x1), some (.int x2)] h rfl (Nat.le_of_ble_eq_true rfl) (Or.inr rfl)
theorem lc_Yard_mismatch_69 : lookI (eC E_Yard_mismatch) (.invokevirtual 69) = some (3, x_Grid_get) := rfl
theorem lf_Yard_mismatch_14 : lookN (eF E_Yard_mismatch) 14 = some (2, 0) := rfl
theorem lf_Yard_mismatch_29 : lookN (eF E_Yard_mismatch) 29 = some (2, 2) := rfl
theorem lb_Yard_mismatch : eB E_Yard_mismatch = true := rfl
-- CoilSlits$Yard.coilsAbove
def E_Yard_coilsAbove : Env := (true, [(25, 2, 1)], [(.invokevirtual 65, 2, x_Row_get)], [], [], zST, false)
def d_Yard_coilsAbove : Dn := (rti E_Yard_coilsAbove [.aload_n 0, .getfield 25, .iload_n 1, .iconst 5, .idiv, .invokevirtual 65, .iconst 1, .isub, .iload_n 1, .iconst 5, .irem, .isub])
def x_Yard_coilsAbove : Ex := zrv 2 (exb true 2 d_Yard_coilsAbove)
abbrev r_Yard_coilsAbove : Room := ({ frames := 1, cells := 0, slots := 0, locals := 21 } : Room)
theorem eo_Yard_coilsAbove (hw : zWok w) (cx : CX w p s m args c b_Yard_coilsAbove 2 "CoilSlits$Yard") : EnvOk w true p l e r_Yard_coilsAbove s m args below meth c Q b_Yard_coilsAbove 2 "CoilSlits$Yard" E_Yard_coilsAbove :=
  ⟨rfl, by decide +kernel, by decide +kernel, by decide +kernel, hw, fun h => absurd h (by decide),
  List.forall_mem_cons.mpr ⟨call_V cx (ct_Row_get w l hw) tw_216 tw_213 tw_5 tw_214 tw_215 (ci := 0) (Nat.le_of_ble_eq_true rfl) rfl (by decide +kernel) ⟨Nat.le_of_ble_eq_true rfl, Nat.le_of_ble_eq_true rfl⟩, fun q hq => absurd hq List.not_mem_nil⟩⟩
theorem sn_Yard_coilsAbove (h : MC w true p l e R s m args below meth c Q b_Yard_coilsAbove 2 "CoilSlits$Yard" E_Yard_coilsAbove 0 0 F (some .int)) : Sn (zK w true p l e R s m args below meth c Q 2) F (fun _ => False) (fun _ => False) 0 0 0 d_Yard_coilsAbove 0 0 0 := by
  unfold d_Yard_coilsAbove
  exact (m_rti h zz (p1 := 16) (by decide +kernel) (by decide +kernel) (Nat.zero_le _) (Nat.zero_le _))
theorem ct_Yard_coilsAbove (w : Wd) (l : Launch) (hw : zWok w) : CT w l y_Yard_coilsAbove b_Yard_coilsAbove 2 (some .int) r_Yard_coilsAbove (exb true 2 d_Yard_coilsAbove) :=
  ct_plain (by decide +kernel) (fun p e s m args below meth c Q cx hnm => eo_Yard_coilsAbove hw cx) (fun p e s m args below meth c Q F h => sn_Yard_coilsAbove h)
theorem q_Yard_coilsAbove {a : Nat} {fs : List Value} {M : Hp} {nx : Nat} (x0 : Int32) (h : M a = some (cO 2 fs)) : x_Yard_coilsAbove [.ref a, .int x0] (M, nx) = zres (d_Yard_coilsAbove ([some (.ref a), some (.int x0)], [], (M, nx))) := q_ofV [some (.ref a), some (.int x0)] h rfl (Nat.le_of_ble_eq_true rfl) (Or.inr rfl)
theorem lc_Yard_coilsAbove_65 : lookI (eC E_Yard_coilsAbove) (.invokevirtual 65) = some (2, x_Row_get) := rfl
theorem lf_Yard_coilsAbove_25 : lookN (eF E_Yard_coilsAbove) 25 = some (2, 1) := rfl
theorem lb_Yard_coilsAbove : eB E_Yard_coilsAbove = true := rfl
-- CoilSlits$Yard.roomBeside
def E_Yard_roomBeside : Env := (true, [(25, 2, 1)], [(.invokevirtual 65, 2, x_Row_get)], [], [], zST, false)
def d_Yard_roomBeside : Dn := (sq (blk E_Yard_roomBeside [.iconst 0, .istore_n 2, .iconst 0, .istore_n 3])
  (sq (lop (cno (cat E_Yard_roomBeside [.iload_n 3, .bipush 6] (.if_icmp .ge 27)))
  (sq (ite' (cno (cat E_Yard_roomBeside [.iload_n 3, .iload_n 1] (.if_icmp .eq 16)))
  (blk E_Yard_roomBeside [.iload_n 2, .iconst 5, .aload_n 0, .getfield 25, .iload_n 3, .invokevirtual 65, .isub, .iadd, .istore_n 2])
  (blk E_Yard_roomBeside []))
  (blk E_Yard_roomBeside [.iinc 3 1]))
  (blk E_Yard_roomBeside []) zFU)
  (rti E_Yard_roomBeside [.iload_n 2])))
def x_Yard_roomBeside : Ex := zrv 2 (exb true 4 d_Yard_roomBeside)
abbrev r_Yard_roomBeside : Room := ({ frames := 1, cells := 0, slots := 0, locals := 21 } : Room)
theorem eo_Yard_roomBeside (hw : zWok w) (cx : CX w p s m args c b_Yard_roomBeside 4 "CoilSlits$Yard") : EnvOk w true p l e r_Yard_roomBeside s m args below meth c Q b_Yard_roomBeside 4 "CoilSlits$Yard" E_Yard_roomBeside :=
  ⟨rfl, by decide +kernel, by decide +kernel, by decide +kernel, hw, fun h => absurd h (by decide),
  List.forall_mem_cons.mpr ⟨call_V cx (ct_Row_get w l hw) tw_216 tw_213 tw_5 tw_214 tw_215 (ci := 0) (Nat.le_of_ble_eq_true rfl) rfl (by decide +kernel) ⟨Nat.le_of_ble_eq_true rfl, Nat.le_of_ble_eq_true rfl⟩, fun q hq => absurd hq List.not_mem_nil⟩⟩
theorem sn_Yard_roomBeside (h : MC w true p l e R s m args below meth c Q b_Yard_roomBeside 4 "CoilSlits$Yard" E_Yard_roomBeside 0 0 F (some .int)) : Sn (zK w true p l e R s m args below meth c Q 4) F (fun _ => False) (fun _ => False) 0 0 0 d_Yard_roomBeside 0 0 0 := by
  unfold d_Yard_roomBeside
  exact (sn_sq (pm := 4) (m_blk h zz (by decide +kernel))
  (sn_sq (pm := 34) (sn_lop (pt := 10) (pu := 31) (p2 := 31) (px := 34) (kb2 := fun _ => False) (kc2 := fun _ => False) (sc_no (m_cat h zz (p1 := 7) (tgt := 34) (by decide +kernel) (by decide +kernel) (by decide)))
  (sn_sq (pm := 28) (sn_ite (pt := 15) (pf := 28) (sc_no (m_cat h zz (p1 := 12) (tgt := 28) (by decide +kernel) (by decide +kernel) (by decide)))
  (m_blk h zz (by decide +kernel))
  (m_blk h zz rfl))
  (m_blk h zz (by decide +kernel)))
  (m_blk h zz rfl) (m_goto h (off := (-27)) (by decide +kernel) (by decide)) zFU)
  (m_rti h zz (p1 := 35) (by decide +kernel) (by decide +kernel) (Nat.zero_le _) (Nat.zero_le _))))
theorem ct_Yard_roomBeside (w : Wd) (l : Launch) (hw : zWok w) : CT w l y_Yard_roomBeside b_Yard_roomBeside 4 (some .int) r_Yard_roomBeside (exb true 4 d_Yard_roomBeside) :=
  ct_plain (by decide +kernel) (fun p e s m args below meth c Q cx hnm => eo_Yard_roomBeside hw cx) (fun p e s m args below meth c Q F h => sn_Yard_roomBeside h)
theorem q_Yard_roomBeside {a : Nat} {fs : List Value} {M : Hp} {nx : Nat} (x0 : Int32) (h : M a = some (cO 2 fs)) : x_Yard_roomBeside [.ref a, .int x0] (M, nx) = zres (d_Yard_roomBeside ([some (.ref a), some (.int x0), none, none], [], (M, nx))) := q_ofV [some (.ref a), some (.int x0), none, none] h rfl (Nat.le_of_ble_eq_true rfl) (Or.inr rfl)
theorem lc_Yard_roomBeside_65 : lookI (eC E_Yard_roomBeside) (.invokevirtual 65) = some (2, x_Row_get) := rfl
theorem lf_Yard_roomBeside_25 : lookN (eF E_Yard_roomBeside) 25 = some (2, 1) := rfl
theorem lb_Yard_roomBeside : eB E_Yard_roomBeside = true := rfl
-- CoilSlits$Yard.stripsIn
def E_Yard_stripsIn : Env := (true, [], [], [], [], zST, false)
def d_Yard_stripsIn : Dn := (sq (ite' (cno (cat E_Yard_stripsIn [.iload_n 1] (.ifCond .le 9)))
  (blk E_Yard_stripsIn [.iload_n 0, .iload_n 1, .idiv])
  (blk E_Yard_stripsIn [.iconst 0]))
  (rti E_Yard_stripsIn []))
def x_Yard_stripsIn : Ex := exb true 2 d_Yard_stripsIn
abbrev r_Yard_stripsIn : Room := ({ frames := 0, cells := 0, slots := 0, locals := 0 } : Room)
theorem eo_Yard_stripsIn (hw : zWok w) (cx : CX w p s m args c b_Yard_stripsIn 2 "CoilSlits$Yard") : EnvOk w true p l e r_Yard_stripsIn s m args below meth c Q b_Yard_stripsIn 2 "CoilSlits$Yard" E_Yard_stripsIn :=
  ⟨rfl, by decide +kernel, by decide +kernel, by decide +kernel, hw, fun h => absurd h (by decide),
  fun q hq => absurd hq List.not_mem_nil⟩
theorem sn_Yard_stripsIn (h : MC w true p l e R s m args below meth c Q b_Yard_stripsIn 2 "CoilSlits$Yard" E_Yard_stripsIn 0 0 F (some .int)) : Sn (zK w true p l e R s m args below meth c Q 2) F (fun _ => False) (fun _ => False) 0 0 0 d_Yard_stripsIn 0 0 0 := by
  unfold d_Yard_stripsIn
  exact (sn_sq (pm := 11) (sn_ite (pt := 4) (pf := 10) (sc_no (m_cat h zz (p1 := 1) (tgt := 10) (by decide +kernel) (by decide +kernel) (by decide)))
  (sn_goto (pm := 7) (m_blk h zz (by decide +kernel)) (m_goto h (off := 4) (by decide +kernel) (by decide)))
  (m_blk h zz (by decide +kernel)))
  (m_rti h zz (p1 := 11) (by decide +kernel) (by decide +kernel) (Nat.zero_le _) (Nat.zero_le _)))
theorem ct_Yard_stripsIn (w : Wd) (l : Launch) (hw : zWok w) : CT w l y_Yard_stripsIn b_Yard_stripsIn 2 (some .int) r_Yard_stripsIn (exb true 2 d_Yard_stripsIn) :=
  ct_plain (by decide +kernel) (fun p e s m args below meth c Q cx hnm => eo_Yard_stripsIn hw cx) (fun p e s m args below meth c Q F h => sn_Yard_stripsIn h)
theorem q_Yard_stripsIn (x0 : Int32) (x1 : Int32) (g : G) : x_Yard_stripsIn [.int x0, .int x1] g = zres (d_Yard_stripsIn ([some (.int x0), some (.int x1)], [], g)) := q_of [some (.int x0), some (.int x1)] rfl (Nat.le_of_ble_eq_true rfl) (Or.inr rfl)
theorem lb_Yard_stripsIn : eB E_Yard_stripsIn = true := rfl
-- CoilSlits$Yard.worthByRule
def E_Yard_worthByRule : Env := (true, [(14, 2, 0), (32, 2, 3), (29, 2, 2)], [(.invokevirtual 69, 3, x_Grid_get), (.invokevirtual 65, 2, x_Row_get), (.invokestatic 121, 2, x_Yard_stripsIn), (.invokestatic 136, 2, xMin)], [], [], zST, false)
def d_Yard_worthByRule : Dn := (swi E_Yard_worthByRule [.aload_n 0, .getfield 14, .iload_n 2, .iconst 0, .invokevirtual 69, .istore 5, .aload_n 0, .getfield 32, .iconst 3, .invokevirtual 65] [(0, (rti E_Yard_worthByRule [.iload 5, .iload_n 3, .iload 5, .iload_n 3, .invokestatic 121, .aload_n 0, .getfield 29, .iload_n 1, .iconst 4, .invokevirtual 69, .invokestatic 136, .imul, .isub])), (1, (rti E_Yard_worthByRule [.iload 4]))]
  (rti E_Yard_worthByRule [.aload_n 0, .getfield 14, .iload_n 2, .iconst 2, .invokevirtual 69]))
def x_Yard_worthByRule : Ex := zrv 2 (exb true 6 d_Yard_worthByRule)
abbrev r_Yard_worthByRule : Room := ({ frames := 1, cells := 0, slots := 0, locals := 24 } : Room)
theorem eo_Yard_worthByRule (hw : zWok w) (cx : CX w p s m args c b_Yard_worthByRule 6 "CoilSlits$Yard") : EnvOk w true p l e r_Yard_worthByRule s m args below meth c Q b_Yard_worthByRule 6 "CoilSlits$Yard" E_Yard_worthByRule :=
  ⟨rfl, by decide +kernel, by decide +kernel, by decide +kernel, hw, fun h => absurd h (by decide),
  List.forall_mem_cons.mpr ⟨call_V cx (ct_Grid_get w l hw) tw_200 tw_197 tw_3 tw_198 tw_199 (ci := 1) (Nat.le_of_ble_eq_true rfl) rfl (by decide +kernel) ⟨Nat.le_of_ble_eq_true rfl, Nat.le_of_ble_eq_true rfl⟩, List.forall_mem_cons.mpr ⟨call_V cx (ct_Row_get w l hw) tw_216 tw_213 tw_5 tw_214 tw_215 (ci := 0) (Nat.le_of_ble_eq_true rfl) rfl (by decide +kernel) ⟨Nat.le_of_ble_eq_true rfl, Nat.le_of_ble_eq_true rfl⟩, List.forall_mem_cons.mpr ⟨call_S cx (ct_Yard_stripsIn w l hw) tw_238 tw_236 tw_2 tw_237 (by decide +kernel) ⟨Nat.le_of_ble_eq_true rfl, Nat.le_of_ble_eq_true rfl⟩, List.forall_mem_cons.mpr ⟨call_min cx tw_239 tw_177 tw_4 tw_xMin ⟨Nat.le_of_ble_eq_true rfl, Nat.le_of_ble_eq_true rfl⟩, fun q hq => absurd hq List.not_mem_nil⟩⟩⟩⟩⟩
theorem sn_Yard_worthByRule (h : MC w true p l e R s m args below meth c Q b_Yard_worthByRule 6 "CoilSlits$Yard" E_Yard_worthByRule 0 0 F (some .int)) : Sn (zK w true p l e R s m args below meth c Q 6) F (fun _ => False) (fun _ => False) 0 0 0 d_Yard_worthByRule 0 0 0 := by
  unfold d_Yard_worthByRule
  exact (m_sw h zz (p1 := 19) (pd := 71) [(0, 44), (1, 68)] (by decide +kernel) (by decide +kernel)
  (swl_cons (m_rti h zz (p1 := 67) (by decide +kernel) (by decide +kernel) (Nat.zero_le _) (Nat.zero_le _))
  (swl_cons (m_rti h zz (p1 := 70) (by decide +kernel) (by decide +kernel) (Nat.zero_le _) (Nat.zero_le _))
  swl_nil))
  (m_rti h zz (p1 := 80) (by decide +kernel) (by decide +kernel) (Nat.zero_le _) (Nat.zero_le _)))
theorem ct_Yard_worthByRule (w : Wd) (l : Launch) (hw : zWok w) : CT w l y_Yard_worthByRule b_Yard_worthByRule 6 (some .int) r_Yard_worthByRule (exb true 6 d_Yard_worthByRule) :=
  ct_plain (by decide +kernel) (fun p e s m args below meth c Q cx hnm => eo_Yard_worthByRule hw cx) (fun p e s m args below meth c Q F h => sn_Yard_worthByRule h)
theorem q_Yard_worthByRule {a : Nat} {fs : List Value} {M : Hp} {nx : Nat} (x0 : Int32) (x1 : Int32) (x2 : Int32) (x3 : Int32) (h : M a = some (cO 2 fs)) : x_Yard_worthByRule [.ref a, .int x0, .int x1, .int x2, .int x3] (M, nx) = zres (d_Yard_worthByRule ([some (.ref a), some (.int x0), some (.int x1), some (.int x2), some (.int x3), none], [], (M, nx))) := q_ofV [some (.ref a), some (.int x0), some (.int x1), some (.int x2), some (.int x3), none] h rfl (Nat.le_of_ble_eq_true rfl) (Or.inr rfl)
theorem lc_Yard_worthByRule_69 : lookI (eC E_Yard_worthByRule) (.invokevirtual 69) = some (3, x_Grid_get) := rfl
theorem lc_Yard_worthByRule_65 : lookI (eC E_Yard_worthByRule) (.invokevirtual 65) = some (2, x_Row_get) := rfl
theorem lc_Yard_worthByRule_121 : lookI (eC E_Yard_worthByRule) (.invokestatic 121) = some (2, x_Yard_stripsIn) := rfl
theorem lc_Yard_worthByRule_136 : lookI (eC E_Yard_worthByRule) (.invokestatic 136) = some (2, xMin) := rfl
theorem lf_Yard_worthByRule_14 : lookN (eF E_Yard_worthByRule) 14 = some (2, 0) := rfl
theorem lf_Yard_worthByRule_32 : lookN (eF E_Yard_worthByRule) 32 = some (2, 3) := rfl
theorem lf_Yard_worthByRule_29 : lookN (eF E_Yard_worthByRule) 29 = some (2, 2) := rfl
theorem lb_Yard_worthByRule : eB E_Yard_worthByRule = true := rfl
-- CoilSlits$Yard.choose
def E_Yard_choose : Env := (true, [(14, 2, 0)], [(.invokevirtual 114, 2, x_Yard_widthTaken), (.invokevirtual 69, 3, x_Grid_get), (.invokevirtual 124, 4, x_Yard_mismatch), (.invokevirtual 75, 2, x_Yard_coilsAbove), (.invokestatic 72, 1, x_Slit_stackOf), (.invokevirtual 96, 2, x_Yard_roomBeside), (.invokevirtual 132, 5, x_Yard_worthByRule)], [], [], zST, false)
def d_Yard_choose : Dn := (sq (blk E_Yard_choose [.aload_n 0, .iload_n 1, .invokevirtual 114, .istore_n 2, .iconst (-1), .istore_n 3, .iconst 0, .istore 4, .iconst 0, .istore 5])
  (sq (lop (cfo [6, 7, 8] (cno (cat E_Yard_choose [.iload 5, .bipush 30] (.if_icmp .ge 134))))
  (ite' (cno (cat E_Yard_choose [.aload_n 0, .getfield 14, .iload 5, .iconst 4, .invokevirtual 69, .iconst (-1)] (.if_icmp .eq 114)))
  (sq (ite' (cno (cat E_Yard_choose [.aload_n 0, .iload_n 1, .iload 5, .iload_n 2, .invokevirtual 124] (.ifCond .eq 6)))
  cnt
  (blk E_Yard_choose []))
  (sq (blk E_Yard_choose [.aload_n 0, .iload 5, .invokevirtual 75, .istore 6])
  (sq (ite' (cno (cat E_Yard_choose [.iload 6, .aload_n 0, .iload 5, .invokestatic 72, .invokevirtual 96] (.if_icmp .le 6)))
  cnt
  (blk E_Yard_choose []))
  (sq (blk E_Yard_choose [.aload_n 0, .iload_n 1, .iload 5, .iload_n 2, .iload 6, .invokevirtual 132, .istore 7])
  (sq (ite' (cno (cat E_Yard_choose [.aload_n 0, .getfield 14, .iload 5, .iconst 4, .invokevirtual 69, .aload_n 0, .getfield 14, .iload_n 3, .iconst 4, .invokevirtual 69] (.if_icmp .ge 7)))
  (blk E_Yard_choose [.iconst 1])
  (blk E_Yard_choose [.iconst 0]))
  (sq (blk E_Yard_choose [.istore 8])
  (ite' (cor (cat E_Yard_choose [.iload_n 3, .iconst (-1)] (.if_icmp .eq 22)) (cor (cat E_Yard_choose [.iload 7, .iload 4] (.if_icmp .lt 15)) (can (cno (cat E_Yard_choose [.iload 7, .iload 4] (.if_icmp .ne 15))) (cno (cat E_Yard_choose [.iload 8] (.ifCond .eq 10))))))
  (blk E_Yard_choose [.iload 5, .istore_n 3, .iload 7, .istore 4])
  (blk E_Yard_choose []))))))))
  (blk E_Yard_choose []))
  (blk E_Yard_choose [.iinc 5 1]) zFU)
  (rti E_Yard_choose [.iload_n 3])))
def x_Yard_choose : Ex := zrv 2 (exb true 9 d_Yard_choose)
abbrev r_Yard_choose : Room := ({ frames := 2, cells := 0, slots := 0, locals := 49 } : Room)
theorem eo_Yard_choose (hw : zWok w) (cx : CX w p s m args c b_Yard_choose 9 "CoilSlits$Yard") : EnvOk w true p l e r_Yard_choose s m args below meth c Q b_Yard_choose 9 "CoilSlits$Yard" E_Yard_choose :=
  ⟨rfl, by decide +kernel, by decide +kernel, by decide +kernel, hw, fun h => absurd h (by decide),
  List.forall_mem_cons.mpr ⟨call_V cx (ct_Yard_widthTaken w l hw) tw_212 tw_209 tw_2 tw_211 tp_2 (ci := 2) (Nat.le_of_ble_eq_true rfl) rfl (by decide +kernel) ⟨Nat.le_of_ble_eq_true rfl, Nat.le_of_ble_eq_true rfl⟩, List.forall_mem_cons.mpr ⟨call_V cx (ct_Grid_get w l hw) tw_200 tw_197 tw_3 tw_198 tw_199 (ci := 1) (Nat.le_of_ble_eq_true rfl) rfl (by decide +kernel) ⟨Nat.le_of_ble_eq_true rfl, Nat.le_of_ble_eq_true rfl⟩, List.forall_mem_cons.mpr ⟨call_V cx (ct_Yard_mismatch w l hw) tw_220 tw_217 tw_2 tw_219 tp_3 (ci := 2) (Nat.le_of_ble_eq_true rfl) rfl (by decide +kernel) ⟨Nat.le_of_ble_eq_true rfl, Nat.le_of_ble_eq_true rfl⟩, List.forall_mem_cons.mpr ⟨call_V cx (ct_Yard_coilsAbove w l hw) tw_224 tw_221 tw_2 tw_222 tw_223 (ci := 2) (Nat.le_of_ble_eq_true rfl) rfl (by decide +kernel) ⟨Nat.le_of_ble_eq_true rfl, Nat.le_of_ble_eq_true rfl⟩, List.forall_mem_cons.mpr ⟨call_SN cx (host := "CoilSlits") (ct_Slit_stackOf w l hw) tw_227 (by decide +kernel) tw_1 tw_226 (by decide +kernel) ⟨Nat.le_of_ble_eq_true rfl, Nat.le_of_ble_eq_true rfl⟩, List.forall_mem_cons.mpr ⟨call_V cx (ct_Yard_roomBeside w l hw) tw_231 tw_228 tw_2 tw_230 tp_4 (ci := 2) (Nat.le_of_ble_eq_true rfl) rfl (by decide +kernel) ⟨Nat.le_of_ble_eq_true rfl, Nat.le_of_ble_eq_true rfl⟩, List.forall_mem_cons.mpr ⟨call_V cx (ct_Yard_worthByRule w l hw) tw_235 tw_232 tw_2 tw_234 tp_5 (ci := 2) (Nat.le_of_ble_eq_true rfl) rfl (by decide +kernel) ⟨Nat.le_of_ble_eq_true rfl, Nat.le_of_ble_eq_true rfl⟩, fun q hq => absurd hq List.not_mem_nil⟩⟩⟩⟩⟩⟩⟩⟩
theorem sn_Yard_choose (h : MC w true p l e R s m args below meth c Q b_Yard_choose 9 "CoilSlits$Yard" E_Yard_choose 0 0 F (some .int)) : Sn (zK w true p l e R s m args below meth c Q 9) F (fun _ => False) (fun _ => False) 0 0 0 d_Yard_choose 0 0 0 := by
  unfold d_Yard_choose
  exact (sn_sq (pm := 14) (m_blk h zz (by decide +kernel))
  (sn_sq (pm := 152) (sn_lop (pt := 21) (pu := 146) (p2 := 149) (px := 152) (kb2 := fun _ => False) (kc2 := fun _ => False) (sc_fo m_fo (sc_no (m_cat h zz (p1 := 18) (tgt := 152) (by decide +kernel) (by decide +kernel) (by decide))))
  (sn_ite (pt := 35) (pf := 146) (sc_no (m_cat h zz (p1 := 32) (tgt := 146) (by decide +kernel) (by decide +kernel) (by decide)))
  (sn_sq (pm := 49) (sn_ite (pt := 46) (pf := 49) (sc_no (m_cat h zz (p1 := 43) (tgt := 49) (by decide +kernel) (by decide +kernel) (by decide)))
  (sn_cnt (m_goto h (off := 100) (by decide +kernel) (by decide)))
  (m_blk h zz rfl))
  (sn_sq (pm := 57) (m_blk h zz (by decide +kernel))
  (sn_sq (pm := 74) (sn_ite (pt := 71) (pf := 74) (sc_no (m_cat h zz (p1 := 68) (tgt := 74) (by decide +kernel) (by decide +kernel) (by decide)))
  (sn_cnt (m_goto h (off := 75) (by decide +kernel) (by decide)))
  (m_blk h zz rfl))
  (sn_sq (pm := 86) (m_blk h zz (by decide +kernel))
  (sn_sq (pm := 113) (sn_ite (pt := 108) (pf := 112) (sc_no (m_cat h zz (p1 := 105) (tgt := 112) (by decide +kernel) (by decide +kernel) (by decide)))
  (sn_goto (pm := 109) (m_blk h zz (by decide +kernel)) (m_goto h (off := 4) (by decide +kernel) (by decide)))
  (m_blk h zz (by decide +kernel)))
  (sn_sq (pm := 115) (m_blk h zz (by decide +kernel))
  (sn_ite (pt := 139) (pf := 146) (sc_or (pm := 120) (m_cat h zz (p1 := 117) (tgt := 139) (by decide +kernel) (by decide +kernel) (by decide)) (sc_or (pm := 127) (m_cat h zz (p1 := 124) (tgt := 139) (by decide +kernel) (by decide +kernel) (by decide)) (sc_an (pm := 134) (sc_no (m_cat h zz (p1 := 131) (tgt := 146) (by decide +kernel) (by decide +kernel) (by decide))) (sc_no (m_cat h zz (p1 := 136) (tgt := 146) (by decide +kernel) (by decide +kernel) (by decide))))))
  (m_blk h zz (by decide +kernel))
  (m_blk h zz rfl))))))))
  (m_blk h zz rfl))
  (m_blk h zz (by decide +kernel)) (m_goto h (off := (-135)) (by decide +kernel) (by decide)) zFU)
  (m_rti h zz (p1 := 153) (by decide +kernel) (by decide +kernel) (Nat.zero_le _) (Nat.zero_le _))))
theorem ct_Yard_choose (w : Wd) (l : Launch) (hw : zWok w) : CT w l y_Yard_choose b_Yard_choose 9 (some .int) r_Yard_choose (exb true 9 d_Yard_choose) :=
  ct_plain (by decide +kernel) (fun p e s m args below meth c Q cx hnm => eo_Yard_choose hw cx) (fun p e s m args below meth c Q F h => sn_Yard_choose h)
theorem q_Yard_choose {a : Nat} {fs : List Value} {M : Hp} {nx : Nat} (x0 : Int32) (h : M a = some (cO 2 fs)) : x_Yard_choose [.ref a, .int x0] (M, nx) = zres (d_Yard_choose ([some (.ref a), some (.int x0), none, none, none, none, none, none, none], [], (M, nx))) := q_ofV [some (.ref a), some (.int x0), none, none, none, none, none, none, none] h rfl (Nat.le_of_ble_eq_true rfl) (Or.inr rfl)
theorem lc_Yard_choose_114 : lookI (eC E_Yard_choose) (.invokevirtual 114) = some (2, x_Yard_widthTaken) := rfl
theorem lc_Yard_choose_69 : lookI (eC E_Yard_choose) (.invokevirtual 69) = some (3, x_Grid_get) := rfl
theorem lc_Yard_choose_124 : lookI (eC E_Yard_choose) (.invokevirtual 124) = some (4, x_Yard_mismatch) := rfl
theorem lc_Yard_choose_75 : lookI (eC E_Yard_choose) (.invokevirtual 75) = some (2, x_Yard_coilsAbove) := rfl
theorem lc_Yard_choose_72 : lookI (eC E_Yard_choose) (.invokestatic 72) = some (1, x_Slit_stackOf) := rfl
theorem lc_Yard_choose_96 : lookI (eC E_Yard_choose) (.invokevirtual 96) = some (2, x_Yard_roomBeside) := rfl
theorem lc_Yard_choose_132 : lookI (eC E_Yard_choose) (.invokevirtual 132) = some (5, x_Yard_worthByRule) := rfl
theorem lf_Yard_choose_14 : lookN (eF E_Yard_choose) 14 = some (2, 0) := rfl
theorem lb_Yard_choose : eB E_Yard_choose = true := rfl
-- CoilSlits$Yard.emptiestBeside
def E_Yard_emptiestBeside : Env := (true, [(25, 2, 1)], [(.invokevirtual 65, 2, x_Row_get), (.invokestatic 88, 1, xAbs)], [], [], zST, false)
def d_Yard_emptiestBeside : Dn := (sq (blk E_Yard_emptiestBeside [.iconst (-1), .istore_n 2, .iconst 0, .istore_n 3])
  (sq (lop (cfo [4, 5, 6] (cno (cat E_Yard_emptiestBeside [.iload_n 3, .bipush 6] (.if_icmp .ge 110))))
  (sq (ite' (cno (cat E_Yard_emptiestBeside [.aload_n 0, .getfield 25, .iload_n 3, .invokevirtual 65, .aload_n 0, .getfield 25, .iload_n 2, .invokevirtual 65] (.if_icmp .ge 7)))
  (blk E_Yard_emptiestBeside [.iconst 1])
  (blk E_Yard_emptiestBeside [.iconst 0]))
  (sq (blk E_Yard_emptiestBeside [.istore 4])
  (sq (ite' (cno (cat E_Yard_emptiestBeside [.aload_n 0, .getfield 25, .iload_n 3, .invokevirtual 65, .aload_n 0, .getfield 25, .iload_n 2, .invokevirtual 65] (.if_icmp .ne 7)))
  (blk E_Yard_emptiestBeside [.iconst 1])
  (blk E_Yard_emptiestBeside [.iconst 0]))
  (sq (blk E_Yard_emptiestBeside [.istore 5])
  (sq (ite' (cno (cat E_Yard_emptiestBeside [.iload_n 3, .iload_n 1, .isub, .invokestatic 88, .iload_n 2, .iload_n 1, .isub, .invokestatic 88] (.if_icmp .ge 7)))
  (blk E_Yard_emptiestBeside [.iconst 1])
  (blk E_Yard_emptiestBeside [.iconst 0]))
  (sq (blk E_Yard_emptiestBeside [.istore 6])
  (sq (ite' (can (cno (cat E_Yard_emptiestBeside [.iload_n 3, .iload_n 1] (.if_icmp .eq 25))) (cor (cat E_Yard_emptiestBeside [.iload_n 2, .iconst (-1)] (.if_icmp .eq 18)) (cor (cat E_Yard_emptiestBeside [.iload 4] (.ifCond .ne 13)) (can (cno (cat E_Yard_emptiestBeside [.iload 5] (.ifCond .eq 10))) (cno (cat E_Yard_emptiestBeside [.iload 6] (.ifCond .eq 5)))))))
  (blk E_Yard_emptiestBeside [.iload_n 3, .istore_n 2])
  (blk E_Yard_emptiestBeside []))
  (blk E_Yard_emptiestBeside [.iinc 3 1]))))))))
  (blk E_Yard_emptiestBeside []) zFU)
  (rti E_Yard_emptiestBeside [.iload_n 2])))
def x_Yard_emptiestBeside : Ex := zrv 2 (exb true 7 d_Yard_emptiestBeside)
abbrev r_Yard_emptiestBeside : Room := ({ frames := 1, cells := 0, slots := 0, locals := 21 } : Room)
theorem eo_Yard_emptiestBeside (hw : zWok w) (cx : CX w p s m args c b_Yard_emptiestBeside 7 "CoilSlits$Yard") : EnvOk w true p l e r_Yard_emptiestBeside s m args below meth c Q b_Yard_emptiestBeside 7 "CoilSlits$Yard" E_Yard_emptiestBeside :=
  ⟨rfl, by decide +kernel, by decide +kernel, by decide +kernel, hw, fun h => absurd h (by decide),
  List.forall_mem_cons.mpr ⟨call_V cx (ct_Row_get w l hw) tw_216 tw_213 tw_5 tw_214 tw_215 (ci := 0) (Nat.le_of_ble_eq_true rfl) rfl (by decide +kernel) ⟨Nat.le_of_ble_eq_true rfl, Nat.le_of_ble_eq_true rfl⟩, List.forall_mem_cons.mpr ⟨call_abs cx tw_248 tw_249 tw_4 tw_xAbs ⟨Nat.le_of_ble_eq_true rfl, Nat.le_of_ble_eq_true rfl⟩, fun q hq => absurd hq List.not_mem_nil⟩⟩⟩
theorem sn_Yard_emptiestBeside (h : MC w true p l e R s m args below meth c Q b_Yard_emptiestBeside 7 "CoilSlits$Yard" E_Yard_emptiestBeside 0 0 F (some .int)) : Sn (zK w true p l e R s m args below meth c Q 7) F (fun _ => False) (fun _ => False) 0 0 0 d_Yard_emptiestBeside 0 0 0 := by
  unfold d_Yard_emptiestBeside
  exact (sn_sq (pm := 4) (m_blk h zz (by decide +kernel))
  (sn_sq (pm := 117) (sn_lop (pt := 10) (pu := 114) (p2 := 114) (px := 117) (kb2 := fun _ => False) (kc2 := fun _ => False) (sc_fo m_fo (sc_no (m_cat h zz (p1 := 7) (tgt := 117) (by decide +kernel) (by decide +kernel) (by decide))))
  (sn_sq (pm := 34) (sn_ite (pt := 29) (pf := 33) (sc_no (m_cat h zz (p1 := 26) (tgt := 33) (by decide +kernel) (by decide +kernel) (by decide)))
  (sn_goto (pm := 30) (m_blk h zz (by decide +kernel)) (m_goto h (off := 4) (by decide +kernel) (by decide)))
  (m_blk h zz (by decide +kernel)))
  (sn_sq (pm := 36) (m_blk h zz (by decide +kernel))
  (sn_sq (pm := 60) (sn_ite (pt := 55) (pf := 59) (sc_no (m_cat h zz (p1 := 52) (tgt := 59) (by decide +kernel) (by decide +kernel) (by decide)))
  (sn_goto (pm := 56) (m_blk h zz (by decide +kernel)) (m_goto h (off := 4) (by decide +kernel) (by decide)))
  (m_blk h zz (by decide +kernel)))
  (sn_sq (pm := 62) (m_blk h zz (by decide +kernel))
  (sn_sq (pm := 82) (sn_ite (pt := 77) (pf := 81) (sc_no (m_cat h zz (p1 := 74) (tgt := 81) (by decide +kernel) (by decide +kernel) (by decide)))
  (sn_goto (pm := 78) (m_blk h zz (by decide +kernel)) (m_goto h (off := 4) (by decide +kernel) (by decide)))
  (m_blk h zz (by decide +kernel)))
  (sn_sq (pm := 84) (m_blk h zz (by decide +kernel))
  (sn_sq (pm := 111) (sn_ite (pt := 109) (pf := 111) (sc_an (pm := 89) (sc_no (m_cat h zz (p1 := 86) (tgt := 111) (by decide +kernel) (by decide +kernel) (by decide))) (sc_or (pm := 94) (m_cat h zz (p1 := 91) (tgt := 109) (by decide +kernel) (by decide +kernel) (by decide)) (sc_or (pm := 99) (m_cat h zz (p1 := 96) (tgt := 109) (by decide +kernel) (by decide +kernel) (by decide)) (sc_an (pm := 104) (sc_no (m_cat h zz (p1 := 101) (tgt := 111) (by decide +kernel) (by decide +kernel) (by decide))) (sc_no (m_cat h zz (p1 := 106) (tgt := 111) (by decide +kernel) (by decide +kernel) (by decide)))))))
  (m_blk h zz (by decide +kernel))
  (m_blk h zz rfl))
  (m_blk h zz (by decide +kernel)))))))))
  (m_blk h zz rfl) (m_goto h (off := (-110)) (by decide +kernel) (by decide)) zFU)
  (m_rti h zz (p1 := 118) (by decide +kernel) (by decide +kernel) (Nat.zero_le _) (Nat.zero_le _))))
theorem ct_Yard_emptiestBeside (w : Wd) (l : Launch) (hw : zWok w) : CT w l y_Yard_emptiestBeside b_Yard_emptiestBeside 7 (some .int) r_Yard_emptiestBeside (exb true 7 d_Yard_emptiestBeside) :=
  ct_plain (by decide +kernel) (fun p e s m args below meth c Q cx hnm => eo_Yard_emptiestBeside hw cx) (fun p e s m args below meth c Q F h => sn_Yard_emptiestBeside h)
theorem q_Yard_emptiestBeside {a : Nat} {fs : List Value} {M : Hp} {nx : Nat} (x0 : Int32) (h : M a = some (cO 2 fs)) : x_Yard_emptiestBeside [.ref a, .int x0] (M, nx) = zres (d_Yard_emptiestBeside ([some (.ref a), some (.int x0), none, none, none, none, none], [], (M, nx))) := q_ofV [some (.ref a), some (.int x0), none, none, none, none, none] h rfl (Nat.le_of_ble_eq_true rfl) (Or.inr rfl)
theorem lc_Yard_emptiestBeside_65 : lookI (eC E_Yard_emptiestBeside) (.invokevirtual 65) = some (2, x_Row_get) := rfl
theorem lc_Yard_emptiestBeside_88 : lookI (eC E_Yard_emptiestBeside) (.invokestatic 88) = some (1, xAbs) := rfl
theorem lf_Yard_emptiestBeside_25 : lookN (eF E_Yard_emptiestBeside) 25 = some (2, 1) := rfl
theorem lb_Yard_emptiestBeside : eB E_Yard_emptiestBeside = true := rfl
-- CoilSlits$Yard.moveTop
def E_Yard_moveTop : Env := (true, [(25, 2, 1), (14, 2, 0), (35, 2, 4)], [(.invokevirtual 65, 2, x_Row_get), (.invokevirtual 69, 3, x_Grid_get), (.invokevirtual 85, 3, x_Grid_copyRow), (.invokevirtual 38, 4, x_Grid_put), (.invokevirtual 78, 3, x_Row_add), (.invokestatic 88, 1, xAbs)], [], [], zST, false)
def d_Yard_moveTop : Dn := (rti E_Yard_moveTop [.iload_n 1, .iconst 5, .imul, .aload_n 0, .getfield 25, .iload_n 1, .invokevirtual 65, .iadd, .iconst 1, .isub, .istore_n 3, .aload_n 0, .getfield 14, .iload_n 3, .iconst 4, .invokevirtual 69, .istore 4, .aload_n 0, .getfield 14, .iload_n 3, .iload_n 2, .iconst 5, .imul, .aload_n 0, .getfield 25, .iload_n 2, .invokevirtual 65, .iadd, .invokevirtual 85, .aload_n 0, .getfield 14, .iload_n 3, .iconst 4, .iconst (-1), .invokevirtual 38, .aload_n 0, .getfield 25, .iload_n 1, .iconst (-1), .invokevirtual 78, .aload_n 0, .getfield 25, .iload_n 2, .iconst 1, .invokevirtual 78, .aload_n 0, .getfield 35, .iconst 4, .iconst 1, .invokevirtual 78, .aload_n 0, .getfield 35, .iconst 5, .iload_n 1, .iload_n 2, .isub, .invokestatic 88, .invokevirtual 78, .iload 4])
def x_Yard_moveTop : Ex := zrv 2 (exb true 5 d_Yard_moveTop)
abbrev r_Yard_moveTop : Room := ({ frames := 2, cells := 0, slots := 0, locals := 85 } : Room)
theorem eo_Yard_moveTop (hw : zWok w) (cx : CX w p s m args c b_Yard_moveTop 5 "CoilSlits$Yard") : EnvOk w true p l e r_Yard_moveTop s m args below meth c Q b_Yard_moveTop 5 "CoilSlits$Yard" E_Yard_moveTop :=
  ⟨rfl, by decide +kernel, by decide +kernel, by decide +kernel, hw, fun h => absurd h (by decide),
  List.forall_mem_cons.mpr ⟨call_V cx (ct_Row_get w l hw) tw_216 tw_213 tw_5 tw_214 tw_215 (ci := 0) (Nat.le_of_ble_eq_true rfl) rfl (by decide +kernel) ⟨Nat.le_of_ble_eq_true rfl, Nat.le_of_ble_eq_true rfl⟩, List.forall_mem_cons.mpr ⟨call_V cx (ct_Grid_get w l hw) tw_200 tw_197 tw_3 tw_198 tw_199 (ci := 1) (Nat.le_of_ble_eq_true rfl) rfl (by decide +kernel) ⟨Nat.le_of_ble_eq_true rfl, Nat.le_of_ble_eq_true rfl⟩, List.forall_mem_cons.mpr ⟨call_V cx (ct_Grid_copyRow w l hw) tw_258 tw_255 tw_3 tw_256 tw_257 (ci := 1) (Nat.le_of_ble_eq_true rfl) rfl (by decide +kernel) ⟨Nat.le_of_ble_eq_true rfl, Nat.le_of_ble_eq_true rfl⟩, List.forall_mem_cons.mpr ⟨call_V cx (ct_Grid_put w l hw) tw_62 tw_59 tw_3 tw_60 tw_61 (ci := 1) (Nat.le_of_ble_eq_true rfl) rfl (by decide +kernel) ⟨Nat.le_of_ble_eq_true rfl, Nat.le_of_ble_eq_true rfl⟩, List.forall_mem_cons.mpr ⟨call_V cx (ct_Row_add w l hw) tw_262 tw_259 tw_5 tw_260 tw_261 (ci := 0) (Nat.le_of_ble_eq_true rfl) rfl (by decide +kernel) ⟨Nat.le_of_ble_eq_true rfl, Nat.le_of_ble_eq_true rfl⟩, List.forall_mem_cons.mpr ⟨call_abs cx tw_248 tw_249 tw_4 tw_xAbs ⟨Nat.le_of_ble_eq_true rfl, Nat.le_of_ble_eq_true rfl⟩, fun q hq => absurd hq List.not_mem_nil⟩⟩⟩⟩⟩⟩⟩
theorem sn_Yard_moveTop (h : MC w true p l e R s m args below meth c Q b_Yard_moveTop 5 "CoilSlits$Yard" E_Yard_moveTop 0 0 F (some .int)) : Sn (zK w true p l e R s m args below meth c Q 5) F (fun _ => False) (fun _ => False) 0 0 0 d_Yard_moveTop 0 0 0 := by
  unfold d_Yard_moveTop
  exact (m_rti h zz (p1 := 99) (by decide +kernel) (by decide +kernel) (Nat.zero_le _) (Nat.zero_le _))
theorem ct_Yard_moveTop (w : Wd) (l : Launch) (hw : zWok w) : CT w l y_Yard_moveTop b_Yard_moveTop 5 (some .int) r_Yard_moveTop (exb true 5 d_Yard_moveTop) :=
  ct_plain (by decide +kernel) (fun p e s m args below meth c Q cx hnm => eo_Yard_moveTop hw cx) (fun p e s m args below meth c Q F h => sn_Yard_moveTop h)
theorem q_Yard_moveTop {a : Nat} {fs : List Value} {M : Hp} {nx : Nat} (x0 : Int32) (x1 : Int32) (h : M a = some (cO 2 fs)) : x_Yard_moveTop [.ref a, .int x0, .int x1] (M, nx) = zres (d_Yard_moveTop ([some (.ref a), some (.int x0), some (.int x1), none, none], [], (M, nx))) := q_ofV [some (.ref a), some (.int x0), some (.int x1), none, none] h rfl (Nat.le_of_ble_eq_true rfl) (Or.inr rfl)
theorem lc_Yard_moveTop_65 : lookI (eC E_Yard_moveTop) (.invokevirtual 65) = some (2, x_Row_get) := rfl
theorem lc_Yard_moveTop_69 : lookI (eC E_Yard_moveTop) (.invokevirtual 69) = some (3, x_Grid_get) := rfl
theorem lc_Yard_moveTop_85 : lookI (eC E_Yard_moveTop) (.invokevirtual 85) = some (3, x_Grid_copyRow) := rfl
theorem lc_Yard_moveTop_38 : lookI (eC E_Yard_moveTop) (.invokevirtual 38) = some (4, x_Grid_put) := rfl
theorem lc_Yard_moveTop_78 : lookI (eC E_Yard_moveTop) (.invokevirtual 78) = some (3, x_Row_add) := rfl
theorem lc_Yard_moveTop_88 : lookI (eC E_Yard_moveTop) (.invokestatic 88) = some (1, xAbs) := rfl
theorem lf_Yard_moveTop_25 : lookN (eF E_Yard_moveTop) 25 = some (2, 1) := rfl
theorem lf_Yard_moveTop_14 : lookN (eF E_Yard_moveTop) 14 = some (2, 0) := rfl
theorem lf_Yard_moveTop_35 : lookN (eF E_Yard_moveTop) 35 = some (2, 4) := rfl
theorem lb_Yard_moveTop : eB E_Yard_moveTop = true := rfl
-- CoilSlits$Yard.digOut
def E_Yard_digOut : Env := (true, [], [(.invokestatic 72, 1, x_Slit_stackOf), (.invokevirtual 75, 2, x_Yard_coilsAbove), (.invokevirtual 99, 2, x_Yard_emptiestBeside), (.invokevirtual 102, 3, x_Yard_moveTop)], [], [], zST, false)
def d_Yard_digOut : Dn := (sq (blk E_Yard_digOut [.iload_n 1, .invokestatic 72, .istore_n 2, .aload_n 0, .iload_n 1, .invokevirtual 75, .istore_n 3, .iconst 0, .istore 4])
  (sq (lop (cno (cat E_Yard_digOut [.iload 4, .iload_n 3] (.if_icmp .ge 20)))
  (blk E_Yard_digOut [.aload_n 0, .iload_n 2, .aload_n 0, .iload_n 2, .invokevirtual 99, .invokevirtual 102, .pop, .iinc 4 1])
  (blk E_Yard_digOut []) zFU)
  (rti E_Yard_digOut [.iload_n 3])))
def x_Yard_digOut : Ex := zrv 2 (exb true 5 d_Yard_digOut)
abbrev r_Yard_digOut : Room := ({ frames := 3, cells := 0, slots := 0, locals := 109 } : Room)
theorem eo_Yard_digOut (hw : zWok w) (cx : CX w p s m args c b_Yard_digOut 5 "CoilSlits$Yard") : EnvOk w true p l e r_Yard_digOut s m args below meth c Q b_Yard_digOut 5 "CoilSlits$Yard" E_Yard_digOut :=
  ⟨rfl, by decide +kernel, by decide +kernel, by decide +kernel, hw, fun h => absurd h (by decide),
  List.forall_mem_cons.mpr ⟨call_SN cx (host := "CoilSlits") (ct_Slit_stackOf w l hw) tw_227 (by decide +kernel) tw_1 tw_226 (by decide +kernel) ⟨Nat.le_of_ble_eq_true rfl, Nat.le_of_ble_eq_true rfl⟩, List.forall_mem_cons.mpr ⟨call_V cx (ct_Yard_coilsAbove w l hw) tw_224 tw_221 tw_2 tw_222 tw_223 (ci := 2) (Nat.le_of_ble_eq_true rfl) rfl (by decide +kernel) ⟨Nat.le_of_ble_eq_true rfl, Nat.le_of_ble_eq_true rfl⟩, List.forall_mem_cons.mpr ⟨call_V cx (ct_Yard_emptiestBeside w l hw) tw_247 tw_244 tw_2 tw_246 tp_6 (ci := 2) (Nat.le_of_ble_eq_true rfl) rfl (by decide +kernel) ⟨Nat.le_of_ble_eq_true rfl, Nat.le_of_ble_eq_true rfl⟩, List.forall_mem_cons.mpr ⟨call_V cx (ct_Yard_moveTop w l hw) tw_254 tw_251 tw_2 tw_252 tw_253 (ci := 2) (Nat.le_of_ble_eq_true rfl) rfl (by decide +kernel) ⟨Nat.le_of_ble_eq_true rfl, Nat.le_of_ble_eq_true rfl⟩, fun q hq => absurd hq List.not_mem_nil⟩⟩⟩⟩⟩
theorem sn_Yard_digOut (h : MC w true p l e R s m args below meth c Q b_Yard_digOut 5 "CoilSlits$Yard" E_Yard_digOut 0 0 F (some .int)) : Sn (zK w true p l e R s m args below meth c Q 5) F (fun _ => False) (fun _ => False) 0 0 0 d_Yard_digOut 0 0 0 := by
  unfold d_Yard_digOut
  exact (sn_sq (pm := 14) (m_blk h zz (by decide +kernel))
  (sn_sq (pm := 37) (sn_lop (pt := 20) (pu := 34) (p2 := 34) (px := 37) (kb2 := fun _ => False) (kc2 := fun _ => False) (sc_no (m_cat h zz (p1 := 17) (tgt := 37) (by decide +kernel) (by decide +kernel) (by decide)))
  (m_blk h zz (by decide +kernel))
  (m_blk h zz rfl) (m_goto h (off := (-20)) (by decide +kernel) (by decide)) zFU)
  (m_rti h zz (p1 := 38) (by decide +kernel) (by decide +kernel) (Nat.zero_le _) (Nat.zero_le _))))
theorem ct_Yard_digOut (w : Wd) (l : Launch) (hw : zWok w) : CT w l y_Yard_digOut b_Yard_digOut 5 (some .int) r_Yard_digOut (exb true 5 d_Yard_digOut) :=
  ct_plain (by decide +kernel) (fun p e s m args below meth c Q cx hnm => eo_Yard_digOut hw cx) (fun p e s m args below meth c Q F h => sn_Yard_digOut h)
theorem q_Yard_digOut {a : Nat} {fs : List Value} {M : Hp} {nx : Nat} (x0 : Int32) (h : M a = some (cO 2 fs)) : x_Yard_digOut [.ref a, .int x0] (M, nx) = zres (d_Yard_digOut ([some (.ref a), some (.int x0), none, none, none], [], (M, nx))) := q_ofV [some (.ref a), some (.int x0), none, none, none] h rfl (Nat.le_of_ble_eq_true rfl) (Or.inr rfl)
theorem lc_Yard_digOut_72 : lookI (eC E_Yard_digOut) (.invokestatic 72) = some (1, x_Slit_stackOf) := rfl
theorem lc_Yard_digOut_75 : lookI (eC E_Yard_digOut) (.invokevirtual 75) = some (2, x_Yard_coilsAbove) := rfl
theorem lc_Yard_digOut_99 : lookI (eC E_Yard_digOut) (.invokevirtual 99) = some (2, x_Yard_emptiestBeside) := rfl
theorem lc_Yard_digOut_102 : lookI (eC E_Yard_digOut) (.invokevirtual 102) = some (3, x_Yard_moveTop) := rfl
theorem lb_Yard_digOut : eB E_Yard_digOut = true := rfl
-- CoilSlits$Yard.takeTop
def E_Yard_takeTop : Env := (true, [(14, 2, 0), (25, 2, 1)], [(.invokevirtual 65, 2, x_Row_get), (.invokevirtual 38, 4, x_Grid_put), (.invokevirtual 78, 3, x_Row_add)], [], [], zST, false)
def d_Yard_takeTop : Dn := (rtv E_Yard_takeTop [.aload_n 0, .getfield 14, .iload_n 1, .iconst 5, .imul, .aload_n 0, .getfield 25, .iload_n 1, .invokevirtual 65, .iadd, .iconst 1, .isub, .iconst 4, .iconst (-1), .invokevirtual 38, .aload_n 0, .getfield 25, .iload_n 1, .iconst (-1), .invokevirtual 78])
def x_Yard_takeTop : Ex := zrv 2 (exb true 2 d_Yard_takeTop)
abbrev r_Yard_takeTop : Room := ({ frames := 1, cells := 0, slots := 0, locals := 25 } : Room)
theorem eo_Yard_takeTop (hw : zWok w) (cx : CX w p s m args c b_Yard_takeTop 2 "CoilSlits$Yard") : EnvOk w true p l e r_Yard_takeTop s m args below meth c Q b_Yard_takeTop 2 "CoilSlits$Yard" E_Yard_takeTop :=
  ⟨rfl, by decide +kernel, by decide +kernel, by decide +kernel, hw, fun h => absurd h (by decide),
  List.forall_mem_cons.mpr ⟨call_V cx (ct_Row_get w l hw) tw_216 tw_213 tw_5 tw_214 tw_215 (ci := 0) (Nat.le_of_ble_eq_true rfl) rfl (by decide +kernel) ⟨Nat.le_of_ble_eq_true rfl, Nat.le_of_ble_eq_true rfl⟩, List.forall_mem_cons.mpr ⟨call_V cx (ct_Grid_put w l hw) tw_62 tw_59 tw_3 tw_60 tw_61 (ci := 1) (Nat.le_of_ble_eq_true rfl) rfl (by decide +kernel) ⟨Nat.le_of_ble_eq_true rfl, Nat.le_of_ble_eq_true rfl⟩, List.forall_mem_cons.mpr ⟨call_V cx (ct_Row_add w l hw) tw_262 tw_259 tw_5 tw_260 tw_261 (ci := 0) (Nat.le_of_ble_eq_true rfl) rfl (by decide +kernel) ⟨Nat.le_of_ble_eq_true rfl, Nat.le_of_ble_eq_true rfl⟩, fun q hq => absurd hq List.not_mem_nil⟩⟩⟩⟩
theorem sn_Yard_takeTop (h : MC w true p l e R s m args below meth c Q b_Yard_takeTop 2 "CoilSlits$Yard" E_Yard_takeTop 0 0 F none) : Sn (zK w true p l e R s m args below meth c Q 2) F (fun _ => False) (fun _ => False) 0 0 0 d_Yard_takeTop 0 0 0 := by
  unfold d_Yard_takeTop
  exact (m_rtv h zz (p1 := 32) (by decide +kernel) (by decide +kernel) (Nat.zero_le _) (Nat.zero_le _))
theorem ct_Yard_takeTop (w : Wd) (l : Launch) (hw : zWok w) : CT w l y_Yard_takeTop b_Yard_takeTop 2 none r_Yard_takeTop (exb true 2 d_Yard_takeTop) :=
  ct_plain (by decide +kernel) (fun p e s m args below meth c Q cx hnm => eo_Yard_takeTop hw cx) (fun p e s m args below meth c Q F h => sn_Yard_takeTop h)
theorem q_Yard_takeTop {a : Nat} {fs : List Value} {M : Hp} {nx : Nat} (x0 : Int32) (h : M a = some (cO 2 fs)) : x_Yard_takeTop [.ref a, .int x0] (M, nx) = zres (d_Yard_takeTop ([some (.ref a), some (.int x0)], [], (M, nx))) := q_ofV [some (.ref a), some (.int x0)] h rfl (Nat.le_of_ble_eq_true rfl) (Or.inr rfl)
theorem lc_Yard_takeTop_65 : lookI (eC E_Yard_takeTop) (.invokevirtual 65) = some (2, x_Row_get) := rfl
theorem lc_Yard_takeTop_38 : lookI (eC E_Yard_takeTop) (.invokevirtual 38) = some (4, x_Grid_put) := rfl
theorem lc_Yard_takeTop_78 : lookI (eC E_Yard_takeTop) (.invokevirtual 78) = some (3, x_Row_add) := rfl
theorem lf_Yard_takeTop_14 : lookN (eF E_Yard_takeTop) 14 = some (2, 0) := rfl
theorem lf_Yard_takeTop_25 : lookN (eF E_Yard_takeTop) 25 = some (2, 1) := rfl
theorem lb_Yard_takeTop : eB E_Yard_takeTop = true := rfl
-- CoilSlits$Yard.putOnTop
def E_Yard_putOnTop : Env := (true, [(25, 2, 1), (59, 2, 6), (14, 2, 0)], [(.invokevirtual 65, 2, x_Row_get), (.invokevirtual 38, 4, x_Grid_put), (.invokevirtual 78, 3, x_Row_add)], [], [], zST, false)
def d_Yard_putOnTop : Dn := (rti E_Yard_putOnTop [.iload_n 1, .iconst 5, .imul, .aload_n 0, .getfield 25, .iload_n 1, .invokevirtual 65, .iadd, .istore 6, .aload_n 0, .getfield 59, .istore 7, .aload_n 0, .getfield 14, .iload 6, .iconst 4, .iload 7, .invokevirtual 38, .aload_n 0, .getfield 14, .iload 6, .iconst 0, .iload_n 2, .invokevirtual 38, .aload_n 0, .getfield 14, .iload 6, .iconst 1, .iload_n 3, .invokevirtual 38, .aload_n 0, .getfield 14, .iload 6, .iconst 2, .iload 4, .invokevirtual 38, .aload_n 0, .getfield 14, .iload 6, .iconst 3, .iload 5, .invokevirtual 38, .aload_n 0, .getfield 25, .iload_n 1, .iconst 1, .invokevirtual 78, .aload_n 0, .dup, .getfield 59, .iconst 1, .iadd, .putfield 59, .iload 7])
def x_Yard_putOnTop : Ex := zrv 2 (exb true 8 d_Yard_putOnTop)
abbrev r_Yard_putOnTop : Room := ({ frames := 1, cells := 0, slots := 0, locals := 25 } : Room)
theorem eo_Yard_putOnTop (hw : zWok w) (cx : CX w p s m args c b_Yard_putOnTop 8 "CoilSlits$Yard") : EnvOk w true p l e r_Yard_putOnTop s m args below meth c Q b_Yard_putOnTop 8 "CoilSlits$Yard" E_Yard_putOnTop :=
  ⟨rfl, by decide +kernel, by decide +kernel, by decide +kernel, hw, fun h => absurd h (by decide),
  List.forall_mem_cons.mpr ⟨call_V cx (ct_Row_get w l hw) tw_216 tw_213 tw_5 tw_214 tw_215 (ci := 0) (Nat.le_of_ble_eq_true rfl) rfl (by decide +kernel) ⟨Nat.le_of_ble_eq_true rfl, Nat.le_of_ble_eq_true rfl⟩, List.forall_mem_cons.mpr ⟨call_V cx (ct_Grid_put w l hw) tw_62 tw_59 tw_3 tw_60 tw_61 (ci := 1) (Nat.le_of_ble_eq_true rfl) rfl (by decide +kernel) ⟨Nat.le_of_ble_eq_true rfl, Nat.le_of_ble_eq_true rfl⟩, List.forall_mem_cons.mpr ⟨call_V cx (ct_Row_add w l hw) tw_262 tw_259 tw_5 tw_260 tw_261 (ci := 0) (Nat.le_of_ble_eq_true rfl) rfl (by decide +kernel) ⟨Nat.le_of_ble_eq_true rfl, Nat.le_of_ble_eq_true rfl⟩, fun q hq => absurd hq List.not_mem_nil⟩⟩⟩⟩
theorem sn_Yard_putOnTop (h : MC w true p l e R s m args below meth c Q b_Yard_putOnTop 8 "CoilSlits$Yard" E_Yard_putOnTop 0 0 F (some .int)) : Sn (zK w true p l e R s m args below meth c Q 8) F (fun _ => False) (fun _ => False) 0 0 0 d_Yard_putOnTop 0 0 0 := by
  unfold d_Yard_putOnTop
  exact (m_rti h zz (p1 := 99) (by decide +kernel) (by decide +kernel) (Nat.zero_le _) (Nat.zero_le _))
theorem ct_Yard_putOnTop (w : Wd) (l : Launch) (hw : zWok w) : CT w l y_Yard_putOnTop b_Yard_putOnTop 8 (some .int) r_Yard_putOnTop (exb true 8 d_Yard_putOnTop) :=
  ct_plain (by decide +kernel) (fun p e s m args below meth c Q cx hnm => eo_Yard_putOnTop hw cx) (fun p e s m args below meth c Q F h => sn_Yard_putOnTop h)
theorem q_Yard_putOnTop {a : Nat} {fs : List Value} {M : Hp} {nx : Nat} (x0 : Int32) (x1 : Int32) (x2 : Int32) (x3 : Int32) (x4 : Int32) (h : M a = some (cO 2 fs)) : x_Yard_putOnTop [.ref a, .int x0, .int x1, .int x2, .int x3, .int x4] (M, nx) = zres (d_Yard_putOnTop ([some (.ref a), some (.int x0), some (.int x1), some (.int x2), some (.int x3), some (.int x4), none, none], [], (M, nx))) := q_ofV [some (.ref a), some (.int x0), some (.int x1), some (.int x2), some (.int x3), some (.int x4), none, none] h rfl (Nat.le_of_ble_eq_true rfl) (Or.inr rfl)
theorem lc_Yard_putOnTop_65 : lookI (eC E_Yard_putOnTop) (.invokevirtual 65) = some (2, x_Row_get) := rfl
theorem lc_Yard_putOnTop_38 : lookI (eC E_Yard_putOnTop) (.invokevirtual 38) = some (4, x_Grid_put) := rfl
theorem lc_Yard_putOnTop_78 : lookI (eC E_Yard_putOnTop) (.invokevirtual 78) = some (3, x_Row_add) := rfl
theorem lf_Yard_putOnTop_25 : lookN (eF E_Yard_putOnTop) 25 = some (2, 1) := rfl
theorem lf_Yard_putOnTop_59 : lookN (eF E_Yard_putOnTop) 59 = some (2, 6) := rfl
theorem lf_Yard_putOnTop_14 : lookN (eF E_Yard_putOnTop) 14 = some (2, 0) := rfl
theorem lb_Yard_putOnTop : eB E_Yard_putOnTop = true := rfl
-- CoilSlits$Yard.cutTop
def E_Yard_cutTop : Env := (true, [(25, 2, 1), (14, 2, 0), (29, 2, 2), (35, 2, 4), (32, 2, 3)], [(.invokevirtual 65, 2, x_Row_get), (.invokevirtual 69, 3, x_Grid_get), (.invokevirtual 114, 2, x_Yard_widthTaken), (.invokestatic 121, 2, x_Yard_stripsIn), (.invokestatic 136, 2, xMin), (.invokevirtual 93, 2, x_Yard_takeTop), (.invokevirtual 38, 4, x_Grid_put), (.invokevirtual 78, 3, x_Row_add), (.invokestatic 139, 2, xMax), (.invokevirtual 81, 6, x_Yard_putOnTop)], [], [], zST, false)
def d_Yard_cutTop : Dn := (sq (blk E_Yard_cutTop [.iload_n 2, .iconst 5, .imul, .aload_n 0, .getfield 25, .iload_n 2, .invokevirtual 65, .iadd, .iconst 1, .isub, .istore_n 3, .aload_n 0, .getfield 14, .iload_n 3, .iconst 1, .invokevirtual 69, .istore 4, .aload_n 0, .getfield 14, .iload_n 3, .iconst 2, .invokevirtual 69, .istore 5, .aload_n 0, .getfield 14, .iload_n 3, .iconst 0, .invokevirtual 69, .istore 6, .aload_n 0, .iload_n 1, .invokevirtual 114, .istore 7, .aload_n 0, .getfield 29, .iload_n 1, .iconst 4, .invokevirtual 69, .istore 8, .iload 6, .iload 7, .invokestatic 121, .iload 8, .invokestatic 136, .istore 9, .iload 6, .iload 9, .iload 7, .imul, .isub, .istore 10, .aload_n 0, .iload_n 2, .invokevirtual 93, .aload_n 0, .getfield 29, .iload_n 1, .iconst 4, .iload 8, .iload 9, .isub, .invokevirtual 38, .aload_n 0, .getfield 35, .bipush 6, .iload 9, .invokevirtual 78, .aload_n 0, .getfield 35, .bipush 7, .iload 9, .aload_n 0, .getfield 29, .iload_n 1, .iconst 3, .invokevirtual 69, .imul, .invokevirtual 78, .aload_n 0, .getfield 35, .bipush 8, .iload 9, .aload_n 0, .getfield 32, .iconst 1, .invokevirtual 65, .imul, .invokevirtual 78, .aload_n 0, .getfield 35, .bipush 10, .iload 9, .aload_n 0, .getfield 29, .iload_n 1, .iconst 5, .invokevirtual 69, .imul, .invokevirtual 78])
  (sq (ite' (cno (cat E_Yard_cutTop [.iload 10, .aload_n 0, .getfield 32, .iconst 0, .invokevirtual 65] (.if_icmp .lt 32)))
  (blk E_Yard_cutTop [.aload_n 0, .iload_n 2, .iload 10, .iload 4, .iload 5, .aload_n 0, .getfield 32, .iconst 2, .invokevirtual 65, .isub, .iconst 0, .invokestatic 139, .iconst 1, .invokevirtual 81, .pop])
  (blk E_Yard_cutTop [.aload_n 0, .getfield 35, .bipush 9, .iload 10, .invokevirtual 78]))
  (rti E_Yard_cutTop [.iload 9])))
def x_Yard_cutTop : Ex := zrv 2 (exb true 11 d_Yard_cutTop)
abbrev r_Yard_cutTop : Room := ({ frames := 2, cells := 0, slots := 0, locals := 52 } : Room)
theorem eo_Yard_cutTop (hw : zWok w) (cx : CX w p s m args c b_Yard_cutTop 11 "CoilSlits$Yard") : EnvOk w true p l e r_Yard_cutTop s m args below meth c Q b_Yard_cutTop 11 "CoilSlits$Yard" E_Yard_cutTop :=
  ⟨rfl, by decide +kernel, by decide +kernel, by decide +kernel, hw, fun h => absurd h (by decide),
  List.forall_mem_cons.mpr ⟨call_V cx (ct_Row_get w l hw) tw_216 tw_213 tw_5 tw_214 tw_215 (ci := 0) (Nat.le_of_ble_eq_true rfl) rfl (by decide +kernel) ⟨Nat.le_of_ble_eq_true rfl, Nat.le_of_ble_eq_true rfl⟩, List.forall_mem_cons.mpr ⟨call_V cx (ct_Grid_get w l hw) tw_200 tw_197 tw_3 tw_198 tw_199 (ci := 1) (Nat.le_of_ble_eq_true rfl) rfl (by decide +kernel) ⟨Nat.le_of_ble_eq_true rfl, Nat.le_of_ble_eq_true rfl⟩, List.forall_mem_cons.mpr ⟨call_V cx (ct_Yard_widthTaken w l hw) tw_212 tw_209 tw_2 tw_211 tp_2 (ci := 2) (Nat.le_of_ble_eq_true rfl) rfl (by decide +kernel) ⟨Nat.le_of_ble_eq_true rfl, Nat.le_of_ble_eq_true rfl⟩, List.forall_mem_cons.mpr ⟨call_S cx (ct_Yard_stripsIn w l hw) tw_238 tw_236 tw_2 tw_237 (by decide +kernel) ⟨Nat.le_of_ble_eq_true rfl, Nat.le_of_ble_eq_true rfl⟩, List.forall_mem_cons.mpr ⟨call_min cx tw_239 tw_177 tw_4 tw_xMin ⟨Nat.le_of_ble_eq_true rfl, Nat.le_of_ble_eq_true rfl⟩, List.forall_mem_cons.mpr ⟨call_V cx (ct_Yard_takeTop w l hw) tw_270 tw_267 tw_2 tw_269 tp_7 (ci := 2) (Nat.le_of_ble_eq_true rfl) rfl (by decide +kernel) ⟨Nat.le_of_ble_eq_true rfl, Nat.le_of_ble_eq_true rfl⟩, List.forall_mem_cons.mpr ⟨call_V cx (ct_Grid_put w l hw) tw_62 tw_59 tw_3 tw_60 tw_61 (ci := 1) (Nat.le_of_ble_eq_true rfl) rfl (by decide +kernel) ⟨Nat.le_of_ble_eq_true rfl, Nat.le_of_ble_eq_true rfl⟩, List.forall_mem_cons.mpr ⟨call_V cx (ct_Row_add w l hw) tw_262 tw_259 tw_5 tw_260 tw_261 (ci := 0) (Nat.le_of_ble_eq_true rfl) rfl (by decide +kernel) ⟨Nat.le_of_ble_eq_true rfl, Nat.le_of_ble_eq_true rfl⟩, List.forall_mem_cons.mpr ⟨call_max cx tw_271 tw_38 tw_4 tw_xMax ⟨Nat.le_of_ble_eq_true rfl, Nat.le_of_ble_eq_true rfl⟩, List.forall_mem_cons.mpr ⟨call_V cx (ct_Yard_putOnTop w l hw) tw_275 tw_272 tw_2 tw_274 tp_8 (ci := 2) (Nat.le_of_ble_eq_true rfl) rfl (by decide +kernel) ⟨Nat.le_of_ble_eq_true rfl, Nat.le_of_ble_eq_true rfl⟩, fun q hq => absurd hq List.not_mem_nil⟩⟩⟩⟩⟩⟩⟩⟩⟩⟩⟩
theorem sn_Yard_cutTop (h : MC w true p l e R s m args below meth c Q b_Yard_cutTop 11 "CoilSlits$Yard" E_Yard_cutTop 0 0 F (some .int)) : Sn (zK w true p l e R s m args below meth c Q 11) F (fun _ => False) (fun _ => False) 0 0 0 d_Yard_cutTop 0 0 0 := by
  unfold d_Yard_cutTop
  exact (sn_sq (pm := 182) (m_blk h zz (by decide +kernel))
  (sn_sq (pm := 235) (sn_ite (pt := 195) (pf := 224) (sc_no (m_cat h zz (p1 := 192) (tgt := 224) (by decide +kernel) (by decide +kernel) (by decide)))
  (sn_goto (pm := 221) (m_blk h zz (by decide +kernel)) (m_goto h (off := 14) (by decide +kernel) (by decide)))
  (m_blk h zz (by decide +kernel)))
  (m_rti h zz (p1 := 237) (by decide +kernel) (by decide +kernel) (Nat.zero_le _) (Nat.zero_le _))))
theorem ct_Yard_cutTop (w : Wd) (l : Launch) (hw : zWok w) : CT w l y_Yard_cutTop b_Yard_cutTop 11 (some .int) r_Yard_cutTop (exb true 11 d_Yard_cutTop) :=
  ct_plain (by decide +kernel) (fun p e s m args below meth c Q cx hnm => eo_Yard_cutTop hw cx) (fun p e s m args below meth c Q F h => sn_Yard_cutTop h)
theorem q_Yard_cutTop {a : Nat} {fs : List Value} {M : Hp} {nx : Nat} (x0 : Int32) (x1 : Int32) (h : M a = some (cO 2 fs)) : x_Yard_cutTop [.ref a, .int x0, .int x1] (M, nx) = zres (d_Yard_cutTop ([some (.ref a), some (.int x0), some (.int x1), none, none, none, none, none, none, none, none], [], (M, nx))) := q_ofV [some (.ref a), some (.int x0), some (.int x1), none, none, none, none, none, none, none, none] h rfl (Nat.le_of_ble_eq_true rfl) (Or.inr rfl)
theorem lc_Yard_cutTop_65 : lookI (eC E_Yard_cutTop) (.invokevirtual 65) = some (2, x_Row_get) := rfl
theorem lc_Yard_cutTop_69 : lookI (eC E_Yard_cutTop) (.invokevirtual 69) = some (3, x_Grid_get) := rfl
theorem lc_Yard_cutTop_114 : lookI (eC E_Yard_cutTop) (.invokevirtual 114) = some (2, x_Yard_widthTaken) := rfl
theorem lc_Yard_cutTop_121 : lookI (eC E_Yard_cutTop) (.invokestatic 121) = some (2, x_Yard_stripsIn) := rfl
theorem lc_Yard_cutTop_136 : lookI (eC E_Yard_cutTop) (.invokestatic 136) = some (2, xMin) := rfl
theorem lc_Yard_cutTop_93 : lookI (eC E_Yard_cutTop) (.invokevirtual 93) = some (2, x_Yard_takeTop) := rfl
theorem lc_Yard_cutTop_38 : lookI (eC E_Yard_cutTop) (.invokevirtual 38) = some (4, x_Grid_put) := rfl
theorem lc_Yard_cutTop_78 : lookI (eC E_Yard_cutTop) (.invokevirtual 78) = some (3, x_Row_add) := rfl
theorem lc_Yard_cutTop_139 : lookI (eC E_Yard_cutTop) (.invokestatic 139) = some (2, xMax) := rfl
theorem lc_Yard_cutTop_81 : lookI (eC E_Yard_cutTop) (.invokevirtual 81) = some (6, x_Yard_putOnTop) := rfl
theorem lf_Yard_cutTop_25 : lookN (eF E_Yard_cutTop) 25 = some (2, 1) := rfl
theorem lf_Yard_cutTop_14 : lookN (eF E_Yard_cutTop) 14 = some (2, 0) := rfl
theorem lf_Yard_cutTop_29 : lookN (eF E_Yard_cutTop) 29 = some (2, 2) := rfl
theorem lf_Yard_cutTop_35 : lookN (eF E_Yard_cutTop) 35 = some (2, 4) := rfl
theorem lf_Yard_cutTop_32 : lookN (eF E_Yard_cutTop) 32 = some (2, 3) := rfl
theorem lb_Yard_cutTop : eB E_Yard_cutTop = true := rfl
-- CoilSlits$Yard.dropOrder
def E_Yard_dropOrder : Env := (true, [(55, 2, 5), (29, 2, 2)], [(.invokevirtual 85, 3, x_Grid_copyRow)], [], [], zST, false)
def d_Yard_dropOrder : Dn := (sq (blk E_Yard_dropOrder [.iload_n 1, .istore_n 2])
  (sq (lop (cno (cat E_Yard_dropOrder [.iload_n 2, .aload_n 0, .getfield 55, .iconst 1, .isub] (.if_icmp .ge 20)))
  (blk E_Yard_dropOrder [.aload_n 0, .getfield 29, .iload_n 2, .iconst 1, .iadd, .iload_n 2, .invokevirtual 85, .iinc 2 1])
  (blk E_Yard_dropOrder []) zFU)
  (rtv E_Yard_dropOrder [.aload_n 0, .dup, .getfield 55, .iconst 1, .isub, .putfield 55])))
def x_Yard_dropOrder : Ex := zrv 2 (exb true 3 d_Yard_dropOrder)
abbrev r_Yard_dropOrder : Room := ({ frames := 2, cells := 0, slots := 0, locals := 85 } : Room)
theorem eo_Yard_dropOrder (hw : zWok w) (cx : CX w p s m args c b_Yard_dropOrder 3 "CoilSlits$Yard") : EnvOk w true p l e r_Yard_dropOrder s m args below meth c Q b_Yard_dropOrder 3 "CoilSlits$Yard" E_Yard_dropOrder :=
  ⟨rfl, by decide +kernel, by decide +kernel, by decide +kernel, hw, fun h => absurd h (by decide),
  List.forall_mem_cons.mpr ⟨call_V cx (ct_Grid_copyRow w l hw) tw_258 tw_255 tw_3 tw_256 tw_257 (ci := 1) (Nat.le_of_ble_eq_true rfl) rfl (by decide +kernel) ⟨Nat.le_of_ble_eq_true rfl, Nat.le_of_ble_eq_true rfl⟩, fun q hq => absurd hq List.not_mem_nil⟩⟩
theorem sn_Yard_dropOrder (h : MC w true p l e R s m args below meth c Q b_Yard_dropOrder 3 "CoilSlits$Yard" E_Yard_dropOrder 0 0 F none) : Sn (zK w true p l e R s m args below meth c Q 3) F (fun _ => False) (fun _ => False) 0 0 0 d_Yard_dropOrder 0 0 0 := by
  unfold d_Yard_dropOrder
  exact (sn_sq (pm := 2) (m_blk h zz (by decide +kernel))
  (sn_sq (pm := 29) (sn_lop (pt := 12) (pu := 26) (p2 := 26) (px := 29) (kb2 := fun _ => False) (kc2 := fun _ => False) (sc_no (m_cat h zz (p1 := 9) (tgt := 29) (by decide +kernel) (by decide +kernel) (by decide)))
  (m_blk h zz (by decide +kernel))
  (m_blk h zz rfl) (m_goto h (off := (-24)) (by decide +kernel) (by decide)) zFU)
  (m_rtv h zz (p1 := 39) (by decide +kernel) (by decide +kernel) (Nat.zero_le _) (Nat.zero_le _))))
theorem ct_Yard_dropOrder (w : Wd) (l : Launch) (hw : zWok w) : CT w l y_Yard_dropOrder b_Yard_dropOrder 3 none r_Yard_dropOrder (exb true 3 d_Yard_dropOrder) :=
  ct_plain (by decide +kernel) (fun p e s m args below meth c Q cx hnm => eo_Yard_dropOrder hw cx) (fun p e s m args below meth c Q F h => sn_Yard_dropOrder h)
theorem q_Yard_dropOrder {a : Nat} {fs : List Value} {M : Hp} {nx : Nat} (x0 : Int32) (h : M a = some (cO 2 fs)) : x_Yard_dropOrder [.ref a, .int x0] (M, nx) = zres (d_Yard_dropOrder ([some (.ref a), some (.int x0), none], [], (M, nx))) := q_ofV [some (.ref a), some (.int x0), none] h rfl (Nat.le_of_ble_eq_true rfl) (Or.inr rfl)
theorem lc_Yard_dropOrder_85 : lookI (eC E_Yard_dropOrder) (.invokevirtual 85) = some (3, x_Grid_copyRow) := rfl
theorem lf_Yard_dropOrder_55 : lookN (eF E_Yard_dropOrder) 55 = some (2, 5) := rfl
theorem lf_Yard_dropOrder_29 : lookN (eF E_Yard_dropOrder) 29 = some (2, 2) := rfl
theorem lb_Yard_dropOrder : eB E_Yard_dropOrder = true := rfl
-- CoilSlits$Yard.dropIfDone
def E_Yard_dropIfDone : Env := (true, [(29, 2, 2)], [(.invokevirtual 69, 3, x_Grid_get), (.invokevirtual 105, 2, x_Yard_dropOrder)], [], [], zST, false)
def d_Yard_dropIfDone : Dn := (sq (ite' (cno (cat E_Yard_dropIfDone [.aload_n 0, .getfield 29, .iload_n 1, .iconst 4, .invokevirtual 69] (.ifCond .ne 8)))
  (blk E_Yard_dropIfDone [.aload_n 0, .iload_n 1, .invokevirtual 105])
  (blk E_Yard_dropIfDone []))
  (rtv E_Yard_dropIfDone []))
def x_Yard_dropIfDone : Ex := zrv 2 (exb true 2 d_Yard_dropIfDone)
abbrev r_Yard_dropIfDone : Room := ({ frames := 3, cells := 0, slots := 0, locals := 107 } : Room)
theorem eo_Yard_dropIfDone (hw : zWok w) (cx : CX w p s m args c b_Yard_dropIfDone 2 "CoilSlits$Yard") : EnvOk w true p l e r_Yard_dropIfDone s m args below meth c Q b_Yard_dropIfDone 2 "CoilSlits$Yard" E_Yard_dropIfDone :=
  ⟨rfl, by decide +kernel, by decide +kernel, by decide +kernel, hw, fun h => absurd h (by decide),
  List.forall_mem_cons.mpr ⟨call_V cx (ct_Grid_get w l hw) tw_200 tw_197 tw_3 tw_198 tw_199 (ci := 1) (Nat.le_of_ble_eq_true rfl) rfl (by decide +kernel) ⟨Nat.le_of_ble_eq_true rfl, Nat.le_of_ble_eq_true rfl⟩, List.forall_mem_cons.mpr ⟨call_V cx (ct_Yard_dropOrder w l hw) tw_283 tw_280 tw_2 tw_281 tw_282 (ci := 2) (Nat.le_of_ble_eq_true rfl) rfl (by decide +kernel) ⟨Nat.le_of_ble_eq_true rfl, Nat.le_of_ble_eq_true rfl⟩, fun q hq => absurd hq List.not_mem_nil⟩⟩⟩
theorem sn_Yard_dropIfDone (h : MC w true p l e R s m args below meth c Q b_Yard_dropIfDone 2 "CoilSlits$Yard" E_Yard_dropIfDone 0 0 F none) : Sn (zK w true p l e R s m args below meth c Q 2) F (fun _ => False) (fun _ => False) 0 0 0 d_Yard_dropIfDone 0 0 0 := by
  unfold d_Yard_dropIfDone
  exact (sn_sq (pm := 17) (sn_ite (pt := 12) (pf := 17) (sc_no (m_cat h zz (p1 := 9) (tgt := 17) (by decide +kernel) (by decide +kernel) (by decide)))
  (m_blk h zz (by decide +kernel))
  (m_blk h zz rfl))
  (m_rtv h zz (p1 := 17) (by decide +kernel) (by decide +kernel) (Nat.zero_le _) (Nat.zero_le _)))
theorem ct_Yard_dropIfDone (w : Wd) (l : Launch) (hw : zWok w) : CT w l y_Yard_dropIfDone b_Yard_dropIfDone 2 none r_Yard_dropIfDone (exb true 2 d_Yard_dropIfDone) :=
  ct_plain (by decide +kernel) (fun p e s m args below meth c Q cx hnm => eo_Yard_dropIfDone hw cx) (fun p e s m args below meth c Q F h => sn_Yard_dropIfDone h)
theorem q_Yard_dropIfDone {a : Nat} {fs : List Value} {M : Hp} {nx : Nat} (x0 : Int32) (h : M a = some (cO 2 fs)) : x_Yard_dropIfDone [.ref a, .int x0] (M, nx) = zres (d_Yard_dropIfDone ([some (.ref a), some (.int x0)], [], (M, nx))) := q_ofV [some (.ref a), some (.int x0)] h rfl (Nat.le_of_ble_eq_true rfl) (Or.inr rfl)
theorem lc_Yard_dropIfDone_69 : lookI (eC E_Yard_dropIfDone) (.invokevirtual 69) = some (3, x_Grid_get) := rfl
theorem lc_Yard_dropIfDone_105 : lookI (eC E_Yard_dropIfDone) (.invokevirtual 105) = some (2, x_Yard_dropOrder) := rfl
theorem lf_Yard_dropIfDone_29 : lookN (eF E_Yard_dropIfDone) 29 = some (2, 2) := rfl
theorem lb_Yard_dropIfDone : eB E_Yard_dropIfDone = true := rfl
-- CoilSlits$Yard.fulfil
def E_Yard_fulfil : Env := (true, [(29, 2, 2)], [(.invokevirtual 69, 3, x_Grid_get), (.invokevirtual 142, 2, x_Yard_choose), (.invokevirtual 145, 2, x_Yard_digOut), (.invokestatic 72, 1, x_Slit_stackOf), (.invokevirtual 148, 3, x_Yard_cutTop), (.invokevirtual 151, 2, x_Yard_dropIfDone)], [], [], zST, false)
def d_Yard_fulfil : Dn := (sq (blk E_Yard_fulfil [.aload_n 0, .getfield 29, .iload_n 1, .iconst 4, .invokevirtual 69, .istore_n 2, .iconst 0, .istore_n 3, .iconst 0, .istore 4])
  (sq (lop (cfo [5] (can (cno (cat E_Yard_fulfil [.iload 4, .bipush 40] (.if_icmp .ge 50))) (cno (cat E_Yard_fulfil [.iload_n 3, .iload_n 2] (.if_icmp .ge 45)))))
  (sq (blk E_Yard_fulfil [.aload_n 0, .iload_n 1, .invokevirtual 142, .istore 5])
  (sq (ite' (cno (cat E_Yard_fulfil [.iload 5, .iconst (-1)] (.if_icmp .ne 6)))
  brk
  (blk E_Yard_fulfil []))
  (blk E_Yard_fulfil [.aload_n 0, .iload 5, .invokevirtual 145, .pop, .iload_n 3, .aload_n 0, .iload_n 1, .iload 5, .invokestatic 72, .invokevirtual 148, .iadd, .istore_n 3, .iinc 4 1])))
  (blk E_Yard_fulfil []) zFU)
  (rti E_Yard_fulfil [.aload_n 0, .iload_n 1, .invokevirtual 151, .iload_n 3])))
def x_Yard_fulfil : Ex := zrv 2 (exb true 6 d_Yard_fulfil)
abbrev r_Yard_fulfil : Room := ({ frames := 4, cells := 0, slots := 0, locals := 133 } : Room)
theorem eo_Yard_fulfil (hw : zWok w) (cx : CX w p s m args c b_Yard_fulfil 6 "CoilSlits$Yard") : EnvOk w true p l e r_Yard_fulfil s m args below meth c Q b_Yard_fulfil 6 "CoilSlits$Yard" E_Yard_fulfil :=
  ⟨rfl, by decide +kernel, by decide +kernel, by decide +kernel, hw, fun h => absurd h (by decide),
  List.forall_mem_cons.mpr ⟨call_V cx (ct_Grid_get w l hw) tw_200 tw_197 tw_3 tw_198 tw_199 (ci := 1) (Nat.le_of_ble_eq_true rfl) rfl (by decide +kernel) ⟨Nat.le_of_ble_eq_true rfl, Nat.le_of_ble_eq_true rfl⟩, List.forall_mem_cons.mpr ⟨call_V cx (ct_Yard_choose w l hw) tw_208 tw_205 tw_2 tw_206 tw_207 (ci := 2) (Nat.le_of_ble_eq_true rfl) rfl (by decide +kernel) ⟨Nat.le_of_ble_eq_true rfl, Nat.le_of_ble_eq_true rfl⟩, List.forall_mem_cons.mpr ⟨call_V cx (ct_Yard_digOut w l hw) tw_243 tw_240 tw_2 tw_241 tw_242 (ci := 2) (Nat.le_of_ble_eq_true rfl) rfl (by decide +kernel) ⟨Nat.le_of_ble_eq_true rfl, Nat.le_of_ble_eq_true rfl⟩, List.forall_mem_cons.mpr ⟨call_SN cx (host := "CoilSlits") (ct_Slit_stackOf w l hw) tw_227 (by decide +kernel) tw_1 tw_226 (by decide +kernel) ⟨Nat.le_of_ble_eq_true rfl, Nat.le_of_ble_eq_true rfl⟩, List.forall_mem_cons.mpr ⟨call_V cx (ct_Yard_cutTop w l hw) tw_266 tw_263 tw_2 tw_264 tw_265 (ci := 2) (Nat.le_of_ble_eq_true rfl) rfl (by decide +kernel) ⟨Nat.le_of_ble_eq_true rfl, Nat.le_of_ble_eq_true rfl⟩, List.forall_mem_cons.mpr ⟨call_V cx (ct_Yard_dropIfDone w l hw) tw_279 tw_276 tw_2 tw_277 tw_278 (ci := 2) (Nat.le_of_ble_eq_true rfl) rfl (by decide +kernel) ⟨Nat.le_of_ble_eq_true rfl, Nat.le_of_ble_eq_true rfl⟩, fun q hq => absurd hq List.not_mem_nil⟩⟩⟩⟩⟩⟩⟩
theorem sn_Yard_fulfil (h : MC w true p l e R s m args below meth c Q b_Yard_fulfil 6 "CoilSlits$Yard" E_Yard_fulfil 0 0 F (some .int)) : Sn (zK w true p l e R s m args below meth c Q 6) F (fun _ => False) (fun _ => False) 0 0 0 d_Yard_fulfil 0 0 0 := by
  unfold d_Yard_fulfil
  exact (sn_sq (pm := 15) (m_blk h zz (by decide +kernel))
  (sn_sq (pm := 69) (sn_lop (pt := 27) (pu := 66) (p2 := 66) (px := 69) (kb2 := fun _ => False) (kc2 := fun _ => False) (sc_fo m_fo (sc_an (pm := 22) (sc_no (m_cat h zz (p1 := 19) (tgt := 69) (by decide +kernel) (by decide +kernel) (by decide))) (sc_no (m_cat h zz (p1 := 24) (tgt := 69) (by decide +kernel) (by decide +kernel) (by decide)))))
  (sn_sq (pm := 34) (m_blk h zz (by decide +kernel))
  (sn_sq (pm := 43) (sn_ite (pt := 40) (pf := 43) (sc_no (m_cat h zz (p1 := 37) (tgt := 43) (by decide +kernel) (by decide +kernel) (by decide)))
  (sn_brk (m_goto h (off := 29) (by decide +kernel) (by decide)))
  (m_blk h zz rfl))
  (m_blk h zz (by decide +kernel))))
  (m_blk h zz rfl) (m_goto h (off := (-51)) (by decide +kernel) (by decide)) zFU)
  (m_rti h zz (p1 := 75) (by decide +kernel) (by decide +kernel) (Nat.zero_le _) (Nat.zero_le _))))
theorem ct_Yard_fulfil (w : Wd) (l : Launch) (hw : zWok w) : CT w l y_Yard_fulfil b_Yard_fulfil 6 (some .int) r_Yard_fulfil (exb true 6 d_Yard_fulfil) :=
  ct_plain (by decide +kernel) (fun p e s m args below meth c Q cx hnm => eo_Yard_fulfil hw cx) (fun p e s m args below meth c Q F h => sn_Yard_fulfil h)
theorem q_Yard_fulfil {a : Nat} {fs : List Value} {M : Hp} {nx : Nat} (x0 : Int32) (h : M a = some (cO 2 fs)) : x_Yard_fulfil [.ref a, .int x0] (M, nx) = zres (d_Yard_fulfil ([some (.ref a), some (.int x0), none, none, none, none], [], (M, nx))) := q_ofV [some (.ref a), some (.int x0), none, none, none, none] h rfl (Nat.le_of_ble_eq_true rfl) (Or.inr rfl)
theorem lc_Yard_fulfil_69 : lookI (eC E_Yard_fulfil) (.invokevirtual 69) = some (3, x_Grid_get) := rfl
theorem lc_Yard_fulfil_142 : lookI (eC E_Yard_fulfil) (.invokevirtual 142) = some (2, x_Yard_choose) := rfl
theorem lc_Yard_fulfil_145 : lookI (eC E_Yard_fulfil) (.invokevirtual 145) = some (2, x_Yard_digOut) := rfl
theorem lc_Yard_fulfil_72 : lookI (eC E_Yard_fulfil) (.invokestatic 72) = some (1, x_Slit_stackOf) := rfl
theorem lc_Yard_fulfil_148 : lookI (eC E_Yard_fulfil) (.invokevirtual 148) = some (3, x_Yard_cutTop) := rfl
theorem lc_Yard_fulfil_151 : lookI (eC E_Yard_fulfil) (.invokevirtual 151) = some (2, x_Yard_dropIfDone) := rfl
theorem lf_Yard_fulfil_29 : lookN (eF E_Yard_fulfil) 29 = some (2, 2) := rfl
theorem lb_Yard_fulfil : eB E_Yard_fulfil = true := rfl
-- CoilSlits$Yard.fulfilEach
def E_Yard_fulfilEach : Env := (true, [(55, 2, 5), (29, 2, 2)], [(.invokevirtual 154, 3, x_Yard_dearestBehind), (.invokevirtual 69, 3, x_Grid_get), (.invokevirtual 157, 2, x_Yard_fulfil)], [], [], zST, false)
def d_Yard_fulfilEach : Dn := (sq (blk E_Yard_fulfilEach [.aload_n 0, .getfield 55, .istore_n 1, .bipush 100, .istore_n 2, .iconst (-1), .istore_n 3, .iconst 0, .istore 4])
  (sq (lop (cfo [5] (cno (cat E_Yard_fulfilEach [.iload 4, .bipush 8] (.if_icmp .ge 55))))
  (sq (blk E_Yard_fulfilEach [.aload_n 0, .iload_n 2, .iload_n 3, .invokevirtual 154, .istore 5])
  (sq (ite' (cno (cat E_Yard_fulfilEach [.iload 5, .iconst (-1)] (.if_icmp .ne 6)))
  brk
  (blk E_Yard_fulfilEach []))
  (blk E_Yard_fulfilEach [.aload_n 0, .getfield 29, .iload 5, .iconst 5, .invokevirtual 69, .istore_n 2, .aload_n 0, .getfield 29, .iload 5, .iconst 0, .invokevirtual 69, .istore_n 3, .aload_n 0, .iload 5, .invokevirtual 157, .pop, .iinc 4 1])))
  (blk E_Yard_fulfilEach []) zFU)
  (rti E_Yard_fulfilEach [.iload_n 1, .aload_n 0, .getfield 55, .isub])))
def x_Yard_fulfilEach : Ex := zrv 2 (exb true 6 d_Yard_fulfilEach)
abbrev r_Yard_fulfilEach : Room := ({ frames := 5, cells := 0, slots := 0, locals := 158 } : Room)
theorem eo_Yard_fulfilEach (hw : zWok w) (cx : CX w p s m args c b_Yard_fulfilEach 6 "CoilSlits$Yard") : EnvOk w true p l e r_Yard_fulfilEach s m args below meth c Q b_Yard_fulfilEach 6 "CoilSlits$Yard" E_Yard_fulfilEach :=
  ⟨rfl, by decide +kernel, by decide +kernel, by decide +kernel, hw, fun h => absurd h (by decide),
  List.forall_mem_cons.mpr ⟨call_V cx (ct_Yard_dearestBehind w l hw) tw_196 tw_193 tw_2 tw_195 tp_1 (ci := 2) (Nat.le_of_ble_eq_true rfl) rfl (by decide +kernel) ⟨Nat.le_of_ble_eq_true rfl, Nat.le_of_ble_eq_true rfl⟩, List.forall_mem_cons.mpr ⟨call_V cx (ct_Grid_get w l hw) tw_200 tw_197 tw_3 tw_198 tw_199 (ci := 1) (Nat.le_of_ble_eq_true rfl) rfl (by decide +kernel) ⟨Nat.le_of_ble_eq_true rfl, Nat.le_of_ble_eq_true rfl⟩, List.forall_mem_cons.mpr ⟨call_V cx (ct_Yard_fulfil w l hw) tw_204 tw_201 tw_2 tw_202 tw_203 (ci := 2) (Nat.le_of_ble_eq_true rfl) rfl (by decide +kernel) ⟨Nat.le_of_ble_eq_true rfl, Nat.le_of_ble_eq_true rfl⟩, fun q hq => absurd hq List.not_mem_nil⟩⟩⟩⟩
theorem sn_Yard_fulfilEach (h : MC w true p l e R s m args below meth c Q b_Yard_fulfilEach 6 "CoilSlits$Yard" E_Yard_fulfilEach 0 0 F (some .int)) : Sn (zK w true p l e R s m args below meth c Q 6) F (fun _ => False) (fun _ => False) 0 0 0 d_Yard_fulfilEach 0 0 0 := by
  unfold d_Yard_fulfilEach
  exact (sn_sq (pm := 13) (m_blk h zz (by decide +kernel))
  (sn_sq (pm := 72) (sn_lop (pt := 20) (pu := 69) (p2 := 69) (px := 72) (kb2 := fun _ => False) (kc2 := fun _ => False) (sc_fo m_fo (sc_no (m_cat h zz (p1 := 17) (tgt := 72) (by decide +kernel) (by decide +kernel) (by decide))))
  (sn_sq (pm := 28) (m_blk h zz (by decide +kernel))
  (sn_sq (pm := 37) (sn_ite (pt := 34) (pf := 37) (sc_no (m_cat h zz (p1 := 31) (tgt := 37) (by decide +kernel) (by decide +kernel) (by decide)))
  (sn_brk (m_goto h (off := 38) (by decide +kernel) (by decide)))
  (m_blk h zz rfl))
  (m_blk h zz (by decide +kernel))))
  (m_blk h zz rfl) (m_goto h (off := (-56)) (by decide +kernel) (by decide)) zFU)
  (m_rti h zz (p1 := 78) (by decide +kernel) (by decide +kernel) (Nat.zero_le _) (Nat.zero_le _))))
theorem ct_Yard_fulfilEach (w : Wd) (l : Launch) (hw : zWok w) : CT w l y_Yard_fulfilEach b_Yard_fulfilEach 6 (some .int) r_Yard_fulfilEach (exb true 6 d_Yard_fulfilEach) :=
  ct_plain (by decide +kernel) (fun p e s m args below meth c Q cx hnm => eo_Yard_fulfilEach hw cx) (fun p e s m args below meth c Q F h => sn_Yard_fulfilEach h)
theorem q_Yard_fulfilEach {a : Nat} {fs : List Value} {M : Hp} {nx : Nat}  (h : M a = some (cO 2 fs)) : x_Yard_fulfilEach [.ref a] (M, nx) = zres (d_Yard_fulfilEach ([some (.ref a), none, none, none, none, none], [], (M, nx))) := q_ofV [some (.ref a), none, none, none, none, none] h rfl (Nat.le_of_ble_eq_true rfl) (Or.inr rfl)
theorem lc_Yard_fulfilEach_154 : lookI (eC E_Yard_fulfilEach) (.invokevirtual 154) = some (3, x_Yard_dearestBehind) := rfl
theorem lc_Yard_fulfilEach_69 : lookI (eC E_Yard_fulfilEach) (.invokevirtual 69) = some (3, x_Grid_get) := rfl
theorem lc_Yard_fulfilEach_157 : lookI (eC E_Yard_fulfilEach) (.invokevirtual 157) = some (2, x_Yard_fulfil) := rfl
theorem lf_Yard_fulfilEach_55 : lookN (eF E_Yard_fulfilEach) 55 = some (2, 5) := rfl
theorem lf_Yard_fulfilEach_29 : lookN (eF E_Yard_fulfilEach) 29 = some (2, 2) := rfl
theorem lb_Yard_fulfilEach : eB E_Yard_fulfilEach = true := rfl
-- CoilSlits$Yard.changeSetting
def E_Yard_changeSetting : Env := (true, [(32, 2, 3)], [(.invokevirtual 46, 3, x_Row_put)], [], [], zST, false)
def d_Yard_changeSetting : Dn := (rtv E_Yard_changeSetting [.aload_n 0, .getfield 32, .iload_n 1, .iload_n 2, .invokevirtual 46])
def x_Yard_changeSetting : Ex := zrv 2 (exb true 3 d_Yard_changeSetting)
abbrev r_Yard_changeSetting : Room := ({ frames := 1, cells := 0, slots := 0, locals := 22 } : Room)
theorem eo_Yard_changeSetting (hw : zWok w) (cx : CX w p s m args c b_Yard_changeSetting 3 "CoilSlits$Yard") : EnvOk w true p l e r_Yard_changeSetting s m args below meth c Q b_Yard_changeSetting 3 "CoilSlits$Yard" E_Yard_changeSetting :=
  ⟨rfl, by decide +kernel, by decide +kernel, by decide +kernel, hw, fun h => absurd h (by decide),
  List.forall_mem_cons.mpr ⟨call_V cx (ct_Row_put w l hw) tw_68 tw_65 tw_5 tw_66 tw_67 (ci := 0) (Nat.le_of_ble_eq_true rfl) rfl (by decide +kernel) ⟨Nat.le_of_ble_eq_true rfl, Nat.le_of_ble_eq_true rfl⟩, fun q hq => absurd hq List.not_mem_nil⟩⟩
theorem sn_Yard_changeSetting (h : MC w true p l e R s m args below meth c Q b_Yard_changeSetting 3 "CoilSlits$Yard" E_Yard_changeSetting 0 0 F none) : Sn (zK w true p l e R s m args below meth c Q 3) F (fun _ => False) (fun _ => False) 0 0 0 d_Yard_changeSetting 0 0 0 := by
  unfold d_Yard_changeSetting
  exact (m_rtv h zz (p1 := 9) (by decide +kernel) (by decide +kernel) (Nat.zero_le _) (Nat.zero_le _))
theorem ct_Yard_changeSetting (w : Wd) (l : Launch) (hw : zWok w) : CT w l y_Yard_changeSetting b_Yard_changeSetting 3 none r_Yard_changeSetting (exb true 3 d_Yard_changeSetting) :=
  ct_plain (by decide +kernel) (fun p e s m args below meth c Q cx hnm => eo_Yard_changeSetting hw cx) (fun p e s m args below meth c Q F h => sn_Yard_changeSetting h)
theorem q_Yard_changeSetting {a : Nat} {fs : List Value} {M : Hp} {nx : Nat} (x0 : Int32) (x1 : Int32) (h : M a = some (cO 2 fs)) : x_Yard_changeSetting [.ref a, .int x0, .int x1] (M, nx) = zres (d_Yard_changeSetting ([some (.ref a), some (.int x0), some (.int x1)], [], (M, nx))) := q_ofV [some (.ref a), some (.int x0), some (.int x1)] h rfl (Nat.le_of_ble_eq_true rfl) (Or.inr rfl)
theorem lc_Yard_changeSetting_46 : lookI (eC E_Yard_changeSetting) (.invokevirtual 46) = some (3, x_Row_put) := rfl
theorem lf_Yard_changeSetting_32 : lookN (eF E_Yard_changeSetting) 32 = some (2, 3) := rfl
theorem lb_Yard_changeSetting : eB E_Yard_changeSetting = true := rfl
-- CoilSlits$Yard.tally
def E_Yard_tally : Env := (true, [(35, 2, 4)], [(.invokevirtual 65, 2, x_Row_get)], [], [], zST, false)
def d_Yard_tally : Dn := (rti E_Yard_tally [.aload_n 0, .getfield 35, .iload_n 1, .invokevirtual 65])
def x_Yard_tally : Ex := zrv 2 (exb true 2 d_Yard_tally)
abbrev r_Yard_tally : Room := ({ frames := 1, cells := 0, slots := 0, locals := 21 } : Room)
theorem eo_Yard_tally (hw : zWok w) (cx : CX w p s m args c b_Yard_tally 2 "CoilSlits$Yard") : EnvOk w true p l e r_Yard_tally s m args below meth c Q b_Yard_tally 2 "CoilSlits$Yard" E_Yard_tally :=
  ⟨rfl, by decide +kernel, by decide +kernel, by decide +kernel, hw, fun h => absurd h (by decide),
  List.forall_mem_cons.mpr ⟨call_V cx (ct_Row_get w l hw) tw_216 tw_213 tw_5 tw_214 tw_215 (ci := 0) (Nat.le_of_ble_eq_true rfl) rfl (by decide +kernel) ⟨Nat.le_of_ble_eq_true rfl, Nat.le_of_ble_eq_true rfl⟩, fun q hq => absurd hq List.not_mem_nil⟩⟩
theorem sn_Yard_tally (h : MC w true p l e R s m args below meth c Q b_Yard_tally 2 "CoilSlits$Yard" E_Yard_tally 0 0 F (some .int)) : Sn (zK w true p l e R s m args below meth c Q 2) F (fun _ => False) (fun _ => False) 0 0 0 d_Yard_tally 0 0 0 := by
  unfold d_Yard_tally
  exact (m_rti h zz (p1 := 8) (by decide +kernel) (by decide +kernel) (Nat.zero_le _) (Nat.zero_le _))
theorem ct_Yard_tally (w : Wd) (l : Launch) (hw : zWok w) : CT w l y_Yard_tally b_Yard_tally 2 (some .int) r_Yard_tally (exb true 2 d_Yard_tally) :=
  ct_plain (by decide +kernel) (fun p e s m args below meth c Q cx hnm => eo_Yard_tally hw cx) (fun p e s m args below meth c Q F h => sn_Yard_tally h)
theorem q_Yard_tally {a : Nat} {fs : List Value} {M : Hp} {nx : Nat} (x0 : Int32) (h : M a = some (cO 2 fs)) : x_Yard_tally [.ref a, .int x0] (M, nx) = zres (d_Yard_tally ([some (.ref a), some (.int x0)], [], (M, nx))) := q_ofV [some (.ref a), some (.int x0)] h rfl (Nat.le_of_ble_eq_true rfl) (Or.inr rfl)
theorem lc_Yard_tally_65 : lookI (eC E_Yard_tally) (.invokevirtual 65) = some (2, x_Row_get) := rfl
theorem lf_Yard_tally_35 : lookN (eF E_Yard_tally) 35 = some (2, 4) := rfl
theorem lb_Yard_tally : eB E_Yard_tally = true := rfl
-- CoilSlits$Yard.widerThanTop
def E_Yard_widerThanTop : Env := (true, [(25, 2, 1), (14, 2, 0)], [(.invokevirtual 65, 2, x_Row_get), (.invokevirtual 69, 3, x_Grid_get)], [], [], zST, false)
def d_Yard_widerThanTop : Dn := (sq (blk E_Yard_widerThanTop [.iload_n 1, .iconst 5, .imul, .istore_n 2, .iload_n 2, .aload_n 0, .getfield 25, .iload_n 1, .invokevirtual 65, .iadd, .iconst 1, .isub, .istore_n 3, .iconst 0, .istore 4, .iload_n 2, .istore 5])
  (sq (lop (cfo [2] (cno (cat E_Yard_widerThanTop [.iload 5, .iload_n 3] (.if_icmp .ge 34))))
  (sq (ite' (cno (cat E_Yard_widerThanTop [.aload_n 0, .getfield 14, .iload 5, .iconst 0, .invokevirtual 69, .aload_n 0, .getfield 14, .iload_n 3, .iconst 0, .invokevirtual 69] (.if_icmp .le 6)))
  (blk E_Yard_widerThanTop [.iinc 4 1])
  (blk E_Yard_widerThanTop []))
  (blk E_Yard_widerThanTop [.iinc 5 1]))
  (blk E_Yard_widerThanTop []) zFU)
  (rti E_Yard_widerThanTop [.iload 4])))
def x_Yard_widerThanTop : Ex := zrv 2 (exb true 6 d_Yard_widerThanTop)
abbrev r_Yard_widerThanTop : Room := ({ frames := 1, cells := 0, slots := 0, locals := 24 } : Room)
theorem eo_Yard_widerThanTop (hw : zWok w) (cx : CX w p s m args c b_Yard_widerThanTop 6 "CoilSlits$Yard") : EnvOk w true p l e r_Yard_widerThanTop s m args below meth c Q b_Yard_widerThanTop 6 "CoilSlits$Yard" E_Yard_widerThanTop :=
  ⟨rfl, by decide +kernel, by decide +kernel, by decide +kernel, hw, fun h => absurd h (by decide),
  List.forall_mem_cons.mpr ⟨call_V cx (ct_Row_get w l hw) tw_216 tw_213 tw_5 tw_214 tw_215 (ci := 0) (Nat.le_of_ble_eq_true rfl) rfl (by decide +kernel) ⟨Nat.le_of_ble_eq_true rfl, Nat.le_of_ble_eq_true rfl⟩, List.forall_mem_cons.mpr ⟨call_V cx (ct_Grid_get w l hw) tw_200 tw_197 tw_3 tw_198 tw_199 (ci := 1) (Nat.le_of_ble_eq_true rfl) rfl (by decide +kernel) ⟨Nat.le_of_ble_eq_true rfl, Nat.le_of_ble_eq_true rfl⟩, fun q hq => absurd hq List.not_mem_nil⟩⟩⟩
theorem sn_Yard_widerThanTop (h : MC w true p l e R s m args below meth c Q b_Yard_widerThanTop 6 "CoilSlits$Yard" E_Yard_widerThanTop 0 0 F (some .int)) : Sn (zK w true p l e R s m args below meth c Q 6) F (fun _ => False) (fun _ => False) 0 0 0 d_Yard_widerThanTop 0 0 0 := by
  unfold d_Yard_widerThanTop
  exact (sn_sq (pm := 23) (m_blk h zz (by decide +kernel))
  (sn_sq (pm := 60) (sn_lop (pt := 29) (pu := 57) (p2 := 57) (px := 60) (kb2 := fun _ => False) (kc2 := fun _ => False) (sc_fo m_fo (sc_no (m_cat h zz (p1 := 26) (tgt := 60) (by decide +kernel) (by decide +kernel) (by decide))))
  (sn_sq (pm := 54) (sn_ite (pt := 51) (pf := 54) (sc_no (m_cat h zz (p1 := 48) (tgt := 54) (by decide +kernel) (by decide +kernel) (by decide)))
  (m_blk h zz (by decide +kernel))
  (m_blk h zz rfl))
  (m_blk h zz (by decide +kernel)))
  (m_blk h zz rfl) (m_goto h (off := (-34)) (by decide +kernel) (by decide)) zFU)
  (m_rti h zz (p1 := 62) (by decide +kernel) (by decide +kernel) (Nat.zero_le _) (Nat.zero_le _))))
theorem ct_Yard_widerThanTop (w : Wd) (l : Launch) (hw : zWok w) : CT w l y_Yard_widerThanTop b_Yard_widerThanTop 6 (some .int) r_Yard_widerThanTop (exb true 6 d_Yard_widerThanTop) :=
  ct_plain (by decide +kernel) (fun p e s m args below meth c Q cx hnm => eo_Yard_widerThanTop hw cx) (fun p e s m args below meth c Q F h => sn_Yard_widerThanTop h)
theorem q_Yard_widerThanTop {a : Nat} {fs : List Value} {M : Hp} {nx : Nat} (x0 : Int32) (h : M a = some (cO 2 fs)) : x_Yard_widerThanTop [.ref a, .int x0] (M, nx) = zres (d_Yard_widerThanTop ([some (.ref a), some (.int x0), none, none, none, none], [], (M, nx))) := q_ofV [some (.ref a), some (.int x0), none, none, none, none] h rfl (Nat.le_of_ble_eq_true rfl) (Or.inr rfl)
theorem lc_Yard_widerThanTop_65 : lookI (eC E_Yard_widerThanTop) (.invokevirtual 65) = some (2, x_Row_get) := rfl
theorem lc_Yard_widerThanTop_69 : lookI (eC E_Yard_widerThanTop) (.invokevirtual 69) = some (3, x_Grid_get) := rfl
theorem lf_Yard_widerThanTop_25 : lookN (eF E_Yard_widerThanTop) 25 = some (2, 1) := rfl
theorem lf_Yard_widerThanTop_14 : lookN (eF E_Yard_widerThanTop) 14 = some (2, 0) := rfl
theorem lb_Yard_widerThanTop : eB E_Yard_widerThanTop = true := rfl
-- CoilSlits$Yard.heightOf
def E_Yard_heightOf : Env := (true, [(25, 2, 1)], [(.invokevirtual 65, 2, x_Row_get)], [], [], zST, false)
def d_Yard_heightOf : Dn := (rti E_Yard_heightOf [.aload_n 0, .getfield 25, .iload_n 1, .invokevirtual 65])
def x_Yard_heightOf : Ex := zrv 2 (exb true 2 d_Yard_heightOf)
abbrev r_Yard_heightOf : Room := ({ frames := 1, cells := 0, slots := 0, locals := 21 } : Room)
theorem eo_Yard_heightOf (hw : zWok w) (cx : CX w p s m args c b_Yard_heightOf 2 "CoilSlits$Yard") : EnvOk w true p l e r_Yard_heightOf s m args below meth c Q b_Yard_heightOf 2 "CoilSlits$Yard" E_Yard_heightOf :=
  ⟨rfl, by decide +kernel, by decide +kernel, by decide +kernel, hw, fun h => absurd h (by decide),
  List.forall_mem_cons.mpr ⟨call_V cx (ct_Row_get w l hw) tw_216 tw_213 tw_5 tw_214 tw_215 (ci := 0) (Nat.le_of_ble_eq_true rfl) rfl (by decide +kernel) ⟨Nat.le_of_ble_eq_true rfl, Nat.le_of_ble_eq_true rfl⟩, fun q hq => absurd hq List.not_mem_nil⟩⟩
theorem sn_Yard_heightOf (h : MC w true p l e R s m args below meth c Q b_Yard_heightOf 2 "CoilSlits$Yard" E_Yard_heightOf 0 0 F (some .int)) : Sn (zK w true p l e R s m args below meth c Q 2) F (fun _ => False) (fun _ => False) 0 0 0 d_Yard_heightOf 0 0 0 := by
  unfold d_Yard_heightOf
  exact (m_rti h zz (p1 := 8) (by decide +kernel) (by decide +kernel) (Nat.zero_le _) (Nat.zero_le _))
theorem ct_Yard_heightOf (w : Wd) (l : Launch) (hw : zWok w) : CT w l y_Yard_heightOf b_Yard_heightOf 2 (some .int) r_Yard_heightOf (exb true 2 d_Yard_heightOf) :=
  ct_plain (by decide +kernel) (fun p e s m args below meth c Q cx hnm => eo_Yard_heightOf hw cx) (fun p e s m args below meth c Q F h => sn_Yard_heightOf h)
theorem q_Yard_heightOf {a : Nat} {fs : List Value} {M : Hp} {nx : Nat} (x0 : Int32) (h : M a = some (cO 2 fs)) : x_Yard_heightOf [.ref a, .int x0] (M, nx) = zres (d_Yard_heightOf ([some (.ref a), some (.int x0)], [], (M, nx))) := q_ofV [some (.ref a), some (.int x0)] h rfl (Nat.le_of_ble_eq_true rfl) (Or.inr rfl)
theorem lc_Yard_heightOf_65 : lookI (eC E_Yard_heightOf) (.invokevirtual 65) = some (2, x_Row_get) := rfl
theorem lf_Yard_heightOf_25 : lookN (eF E_Yard_heightOf) 25 = some (2, 1) := rfl
theorem lb_Yard_heightOf : eB E_Yard_heightOf = true := rfl
-- CoilSlits$Yard.hasRoom
def E_Yard_hasRoom : Env := (true, [(25, 2, 1)], [(.invokevirtual 65, 2, x_Row_get)], [], [], zST, false)
def d_Yard_hasRoom : Dn := (sq (ite' (cno (cat E_Yard_hasRoom [.aload_n 0, .getfield 25, .iload_n 1, .invokevirtual 65, .iconst 5] (.if_icmp .ge 7)))
  (blk E_Yard_hasRoom [.iconst 1])
  (blk E_Yard_hasRoom [.iconst 0]))
  (rtz E_Yard_hasRoom []))
def x_Yard_hasRoom : Ex := zrv 2 (exb true 2 d_Yard_hasRoom)
abbrev r_Yard_hasRoom : Room := ({ frames := 1, cells := 0, slots := 0, locals := 21 } : Room)
theorem eo_Yard_hasRoom (hw : zWok w) (cx : CX w p s m args c b_Yard_hasRoom 2 "CoilSlits$Yard") : EnvOk w true p l e r_Yard_hasRoom s m args below meth c Q b_Yard_hasRoom 2 "CoilSlits$Yard" E_Yard_hasRoom :=
  ⟨rfl, by decide +kernel, by decide +kernel, by decide +kernel, hw, fun h => absurd h (by decide),
  List.forall_mem_cons.mpr ⟨call_V cx (ct_Row_get w l hw) tw_216 tw_213 tw_5 tw_214 tw_215 (ci := 0) (Nat.le_of_ble_eq_true rfl) rfl (by decide +kernel) ⟨Nat.le_of_ble_eq_true rfl, Nat.le_of_ble_eq_true rfl⟩, fun q hq => absurd hq List.not_mem_nil⟩⟩
theorem sn_Yard_hasRoom (h : MC w true p l e R s m args below meth c Q b_Yard_hasRoom 2 "CoilSlits$Yard" E_Yard_hasRoom 0 0 F (some .boolean)) : Sn (zK w true p l e R s m args below meth c Q 2) F (fun _ => False) (fun _ => False) 0 0 0 d_Yard_hasRoom 0 0 0 := by
  unfold d_Yard_hasRoom
  exact (sn_sq (pm := 17) (sn_ite (pt := 12) (pf := 16) (sc_no (m_cat h zz (p1 := 9) (tgt := 16) (by decide +kernel) (by decide +kernel) (by decide)))
  (sn_goto (pm := 13) (m_blk h zz (by decide +kernel)) (m_goto h (off := 4) (by decide +kernel) (by decide)))
  (m_blk h zz (by decide +kernel)))
  (m_rtz h zz (p1 := 17) (by decide +kernel) (by decide +kernel) (Nat.zero_le _) (Nat.zero_le _)))
theorem ct_Yard_hasRoom (w : Wd) (l : Launch) (hw : zWok w) : CT w l y_Yard_hasRoom b_Yard_hasRoom 2 (some .boolean) r_Yard_hasRoom (exb true 2 d_Yard_hasRoom) :=
  ct_plain (by decide +kernel) (fun p e s m args below meth c Q cx hnm => eo_Yard_hasRoom hw cx) (fun p e s m args below meth c Q F h => sn_Yard_hasRoom h)
theorem q_Yard_hasRoom {a : Nat} {fs : List Value} {M : Hp} {nx : Nat} (x0 : Int32) (h : M a = some (cO 2 fs)) : x_Yard_hasRoom [.ref a, .int x0] (M, nx) = zres (d_Yard_hasRoom ([some (.ref a), some (.int x0)], [], (M, nx))) := q_ofV [some (.ref a), some (.int x0)] h rfl (Nat.le_of_ble_eq_true rfl) (Or.inr rfl)
theorem lc_Yard_hasRoom_65 : lookI (eC E_Yard_hasRoom) (.invokevirtual 65) = some (2, x_Row_get) := rfl
theorem lf_Yard_hasRoom_25 : lookN (eF E_Yard_hasRoom) 25 = some (2, 1) := rfl
theorem lb_Yard_hasRoom : eB E_Yard_hasRoom = true := rfl
-- CoilSlits$Yard.coilCount
def E_Yard_coilCount : Env := (true, [(25, 2, 1)], [(.invokevirtual 65, 2, x_Row_get)], [], [], zST, false)
def d_Yard_coilCount : Dn := (sq (blk E_Yard_coilCount [.iconst 0, .istore_n 1, .iconst 0, .istore_n 2])
  (sq (lop (cno (cat E_Yard_coilCount [.iload_n 2, .bipush 6] (.if_icmp .ge 20)))
  (blk E_Yard_coilCount [.iload_n 1, .aload_n 0, .getfield 25, .iload_n 2, .invokevirtual 65, .iadd, .istore_n 1, .iinc 2 1])
  (blk E_Yard_coilCount []) zFU)
  (rti E_Yard_coilCount [.iload_n 1])))
def x_Yard_coilCount : Ex := zrv 2 (exb true 3 d_Yard_coilCount)
abbrev r_Yard_coilCount : Room := ({ frames := 1, cells := 0, slots := 0, locals := 21 } : Room)
theorem eo_Yard_coilCount (hw : zWok w) (cx : CX w p s m args c b_Yard_coilCount 3 "CoilSlits$Yard") : EnvOk w true p l e r_Yard_coilCount s m args below meth c Q b_Yard_coilCount 3 "CoilSlits$Yard" E_Yard_coilCount :=
  ⟨rfl, by decide +kernel, by decide +kernel, by decide +kernel, hw, fun h => absurd h (by decide),
  List.forall_mem_cons.mpr ⟨call_V cx (ct_Row_get w l hw) tw_216 tw_213 tw_5 tw_214 tw_215 (ci := 0) (Nat.le_of_ble_eq_true rfl) rfl (by decide +kernel) ⟨Nat.le_of_ble_eq_true rfl, Nat.le_of_ble_eq_true rfl⟩, fun q hq => absurd hq List.not_mem_nil⟩⟩
theorem sn_Yard_coilCount (h : MC w true p l e R s m args below meth c Q b_Yard_coilCount 3 "CoilSlits$Yard" E_Yard_coilCount 0 0 F (some .int)) : Sn (zK w true p l e R s m args below meth c Q 3) F (fun _ => False) (fun _ => False) 0 0 0 d_Yard_coilCount 0 0 0 := by
  unfold d_Yard_coilCount
  exact (sn_sq (pm := 4) (m_blk h zz (by decide +kernel))
  (sn_sq (pm := 27) (sn_lop (pt := 10) (pu := 24) (p2 := 24) (px := 27) (kb2 := fun _ => False) (kc2 := fun _ => False) (sc_no (m_cat h zz (p1 := 7) (tgt := 27) (by decide +kernel) (by decide +kernel) (by decide)))
  (m_blk h zz (by decide +kernel))
  (m_blk h zz rfl) (m_goto h (off := (-20)) (by decide +kernel) (by decide)) zFU)
  (m_rti h zz (p1 := 28) (by decide +kernel) (by decide +kernel) (Nat.zero_le _) (Nat.zero_le _))))
theorem ct_Yard_coilCount (w : Wd) (l : Launch) (hw : zWok w) : CT w l y_Yard_coilCount b_Yard_coilCount 3 (some .int) r_Yard_coilCount (exb true 3 d_Yard_coilCount) :=
  ct_plain (by decide +kernel) (fun p e s m args below meth c Q cx hnm => eo_Yard_coilCount hw cx) (fun p e s m args below meth c Q F h => sn_Yard_coilCount h)
theorem q_Yard_coilCount {a : Nat} {fs : List Value} {M : Hp} {nx : Nat}  (h : M a = some (cO 2 fs)) : x_Yard_coilCount [.ref a] (M, nx) = zres (d_Yard_coilCount ([some (.ref a), none, none], [], (M, nx))) := q_ofV [some (.ref a), none, none] h rfl (Nat.le_of_ble_eq_true rfl) (Or.inr rfl)
theorem lc_Yard_coilCount_65 : lookI (eC E_Yard_coilCount) (.invokevirtual 65) = some (2, x_Row_get) := rfl
theorem lf_Yard_coilCount_25 : lookN (eF E_Yard_coilCount) 25 = some (2, 1) := rfl
theorem lb_Yard_coilCount : eB E_Yard_coilCount = true := rfl
-- CoilSlits$Yard.sumOfCoils
def E_Yard_sumOfCoils : Env := (true, [(14, 2, 0)], [(.invokevirtual 69, 3, x_Grid_get)], [], [], zST, false)
def d_Yard_sumOfCoils : Dn := (sq (blk E_Yard_sumOfCoils [.iconst 0, .istore_n 2, .iconst 0, .istore_n 3])
  (sq (lop (cno (cat E_Yard_sumOfCoils [.iload_n 3, .bipush 30] (.if_icmp .ge 34)))
  (sq (ite' (cno (cat E_Yard_sumOfCoils [.aload_n 0, .getfield 14, .iload_n 3, .iconst 4, .invokevirtual 69, .iconst (-1)] (.if_icmp .eq 15)))
  (blk E_Yard_sumOfCoils [.iload_n 2, .aload_n 0, .getfield 14, .iload_n 3, .iload_n 1, .invokevirtual 69, .iadd, .istore_n 2])
  (blk E_Yard_sumOfCoils []))
  (blk E_Yard_sumOfCoils [.iinc 3 1]))
  (blk E_Yard_sumOfCoils []) zFU)
  (rti E_Yard_sumOfCoils [.iload_n 2])))
def x_Yard_sumOfCoils : Ex := zrv 2 (exb true 4 d_Yard_sumOfCoils)
abbrev r_Yard_sumOfCoils : Room := ({ frames := 1, cells := 0, slots := 0, locals := 24 } : Room)
theorem eo_Yard_sumOfCoils (hw : zWok w) (cx : CX w p s m args c b_Yard_sumOfCoils 4 "CoilSlits$Yard") : EnvOk w true p l e r_Yard_sumOfCoils s m args below meth c Q b_Yard_sumOfCoils 4 "CoilSlits$Yard" E_Yard_sumOfCoils :=
  ⟨rfl, by decide +kernel, by decide +kernel, by decide +kernel, hw, fun h => absurd h (by decide),
  List.forall_mem_cons.mpr ⟨call_V cx (ct_Grid_get w l hw) tw_200 tw_197 tw_3 tw_198 tw_199 (ci := 1) (Nat.le_of_ble_eq_true rfl) rfl (by decide +kernel) ⟨Nat.le_of_ble_eq_true rfl, Nat.le_of_ble_eq_true rfl⟩, fun q hq => absurd hq List.not_mem_nil⟩⟩
theorem sn_Yard_sumOfCoils (h : MC w true p l e R s m args below meth c Q b_Yard_sumOfCoils 4 "CoilSlits$Yard" E_Yard_sumOfCoils 0 0 F (some .int)) : Sn (zK w true p l e R s m args below meth c Q 4) F (fun _ => False) (fun _ => False) 0 0 0 d_Yard_sumOfCoils 0 0 0 := by
  unfold d_Yard_sumOfCoils
  exact (sn_sq (pm := 4) (m_blk h zz (by decide +kernel))
  (sn_sq (pm := 41) (sn_lop (pt := 10) (pu := 38) (p2 := 38) (px := 41) (kb2 := fun _ => False) (kc2 := fun _ => False) (sc_no (m_cat h zz (p1 := 7) (tgt := 41) (by decide +kernel) (by decide +kernel) (by decide)))
  (sn_sq (pm := 35) (sn_ite (pt := 23) (pf := 35) (sc_no (m_cat h zz (p1 := 20) (tgt := 35) (by decide +kernel) (by decide +kernel) (by decide)))
  (m_blk h zz (by decide +kernel))
  (m_blk h zz rfl))
  (m_blk h zz (by decide +kernel)))
  (m_blk h zz rfl) (m_goto h (off := (-34)) (by decide +kernel) (by decide)) zFU)
  (m_rti h zz (p1 := 42) (by decide +kernel) (by decide +kernel) (Nat.zero_le _) (Nat.zero_le _))))
theorem ct_Yard_sumOfCoils (w : Wd) (l : Launch) (hw : zWok w) : CT w l y_Yard_sumOfCoils b_Yard_sumOfCoils 4 (some .int) r_Yard_sumOfCoils (exb true 4 d_Yard_sumOfCoils) :=
  ct_plain (by decide +kernel) (fun p e s m args below meth c Q cx hnm => eo_Yard_sumOfCoils hw cx) (fun p e s m args below meth c Q F h => sn_Yard_sumOfCoils h)
theorem q_Yard_sumOfCoils {a : Nat} {fs : List Value} {M : Hp} {nx : Nat} (x0 : Int32) (h : M a = some (cO 2 fs)) : x_Yard_sumOfCoils [.ref a, .int x0] (M, nx) = zres (d_Yard_sumOfCoils ([some (.ref a), some (.int x0), none, none], [], (M, nx))) := q_ofV [some (.ref a), some (.int x0), none, none] h rfl (Nat.le_of_ble_eq_true rfl) (Or.inr rfl)
theorem lc_Yard_sumOfCoils_69 : lookI (eC E_Yard_sumOfCoils) (.invokevirtual 69) = some (3, x_Grid_get) := rfl
theorem lf_Yard_sumOfCoils_14 : lookN (eF E_Yard_sumOfCoils) 14 = some (2, 0) := rfl
theorem lb_Yard_sumOfCoils : eB E_Yard_sumOfCoils = true := rfl
-- CoilSlits$Yard.orderCount
def E_Yard_orderCount : Env := (true, [(55, 2, 5)], [], [], [], zST, false)
def d_Yard_orderCount : Dn := (rti E_Yard_orderCount [.aload_n 0, .getfield 55])
def x_Yard_orderCount : Ex := zrv 2 (exb true 1 d_Yard_orderCount)
abbrev r_Yard_orderCount : Room := ({ frames := 0, cells := 0, slots := 0, locals := 0 } : Room)
theorem eo_Yard_orderCount (hw : zWok w) (cx : CX w p s m args c b_Yard_orderCount 1 "CoilSlits$Yard") : EnvOk w true p l e r_Yard_orderCount s m args below meth c Q b_Yard_orderCount 1 "CoilSlits$Yard" E_Yard_orderCount :=
  ⟨rfl, by decide +kernel, by decide +kernel, by decide +kernel, hw, fun h => absurd h (by decide),
  fun q hq => absurd hq List.not_mem_nil⟩
theorem sn_Yard_orderCount (h : MC w true p l e R s m args below meth c Q b_Yard_orderCount 1 "CoilSlits$Yard" E_Yard_orderCount 0 0 F (some .int)) : Sn (zK w true p l e R s m args below meth c Q 1) F (fun _ => False) (fun _ => False) 0 0 0 d_Yard_orderCount 0 0 0 := by
  unfold d_Yard_orderCount
  exact (m_rti h zz (p1 := 4) (by decide +kernel) (by decide +kernel) (Nat.zero_le _) (Nat.zero_le _))
theorem ct_Yard_orderCount (w : Wd) (l : Launch) (hw : zWok w) : CT w l y_Yard_orderCount b_Yard_orderCount 1 (some .int) r_Yard_orderCount (exb true 1 d_Yard_orderCount) :=
  ct_plain (by decide +kernel) (fun p e s m args below meth c Q cx hnm => eo_Yard_orderCount hw cx) (fun p e s m args below meth c Q F h => sn_Yard_orderCount h)
theorem q_Yard_orderCount {a : Nat} {fs : List Value} {M : Hp} {nx : Nat}  (h : M a = some (cO 2 fs)) : x_Yard_orderCount [.ref a] (M, nx) = zres (d_Yard_orderCount ([some (.ref a)], [], (M, nx))) := q_ofV [some (.ref a)] h rfl (Nat.le_of_ble_eq_true rfl) (Or.inr rfl)
theorem lf_Yard_orderCount_55 : lookN (eF E_Yard_orderCount) 55 = some (2, 5) := rfl
theorem lb_Yard_orderCount : eB E_Yard_orderCount = true := rfl
-- CoilSlits$Yard.settingNow
def E_Yard_settingNow : Env := (true, [(32, 2, 3)], [(.invokevirtual 65, 2, x_Row_get)], [], [], zST, false)
def d_Yard_settingNow : Dn := (rti E_Yard_settingNow [.aload_n 0, .getfield 32, .iload_n 1, .invokevirtual 65])
def x_Yard_settingNow : Ex := zrv 2 (exb true 2 d_Yard_settingNow)
abbrev r_Yard_settingNow : Room := ({ frames := 1, cells := 0, slots := 0, locals := 21 } : Room)
theorem eo_Yard_settingNow (hw : zWok w) (cx : CX w p s m args c b_Yard_settingNow 2 "CoilSlits$Yard") : EnvOk w true p l e r_Yard_settingNow s m args below meth c Q b_Yard_settingNow 2 "CoilSlits$Yard" E_Yard_settingNow :=
  ⟨rfl, by decide +kernel, by decide +kernel, by decide +kernel, hw, fun h => absurd h (by decide),
  List.forall_mem_cons.mpr ⟨call_V cx (ct_Row_get w l hw) tw_216 tw_213 tw_5 tw_214 tw_215 (ci := 0) (Nat.le_of_ble_eq_true rfl) rfl (by decide +kernel) ⟨Nat.le_of_ble_eq_true rfl, Nat.le_of_ble_eq_true rfl⟩, fun q hq => absurd hq List.not_mem_nil⟩⟩
theorem sn_Yard_settingNow (h : MC w true p l e R s m args below meth c Q b_Yard_settingNow 2 "CoilSlits$Yard" E_Yard_settingNow 0 0 F (some .int)) : Sn (zK w true p l e R s m args below meth c Q 2) F (fun _ => False) (fun _ => False) 0 0 0 d_Yard_settingNow 0 0 0 := by
  unfold d_Yard_settingNow
  exact (m_rti h zz (p1 := 8) (by decide +kernel) (by decide +kernel) (Nat.zero_le _) (Nat.zero_le _))
theorem ct_Yard_settingNow (w : Wd) (l : Launch) (hw : zWok w) : CT w l y_Yard_settingNow b_Yard_settingNow 2 (some .int) r_Yard_settingNow (exb true 2 d_Yard_settingNow) :=
  ct_plain (by decide +kernel) (fun p e s m args below meth c Q cx hnm => eo_Yard_settingNow hw cx) (fun p e s m args below meth c Q F h => sn_Yard_settingNow h)
theorem q_Yard_settingNow {a : Nat} {fs : List Value} {M : Hp} {nx : Nat} (x0 : Int32) (h : M a = some (cO 2 fs)) : x_Yard_settingNow [.ref a, .int x0] (M, nx) = zres (d_Yard_settingNow ([some (.ref a), some (.int x0)], [], (M, nx))) := q_ofV [some (.ref a), some (.int x0)] h rfl (Nat.le_of_ble_eq_true rfl) (Or.inr rfl)
theorem lc_Yard_settingNow_65 : lookI (eC E_Yard_settingNow) (.invokevirtual 65) = some (2, x_Row_get) := rfl
theorem lf_Yard_settingNow_32 : lookN (eF E_Yard_settingNow) 32 = some (2, 3) := rfl
theorem lb_Yard_settingNow : eB E_Yard_settingNow = true := rfl
-- CoilSlits$Yard.numberAt
def E_Yard_numberAt : Env := (true, [(14, 2, 0)], [(.invokevirtual 69, 3, x_Grid_get)], [], [], zST, false)
def d_Yard_numberAt : Dn := (rti E_Yard_numberAt [.aload_n 0, .getfield 14, .iload_n 1, .iconst 4, .invokevirtual 69])
def x_Yard_numberAt : Ex := zrv 2 (exb true 2 d_Yard_numberAt)
abbrev r_Yard_numberAt : Room := ({ frames := 1, cells := 0, slots := 0, locals := 24 } : Room)
theorem eo_Yard_numberAt (hw : zWok w) (cx : CX w p s m args c b_Yard_numberAt 2 "CoilSlits$Yard") : EnvOk w true p l e r_Yard_numberAt s m args below meth c Q b_Yard_numberAt 2 "CoilSlits$Yard" E_Yard_numberAt :=
  ⟨rfl, by decide +kernel, by decide +kernel, by decide +kernel, hw, fun h => absurd h (by decide),
  List.forall_mem_cons.mpr ⟨call_V cx (ct_Grid_get w l hw) tw_200 tw_197 tw_3 tw_198 tw_199 (ci := 1) (Nat.le_of_ble_eq_true rfl) rfl (by decide +kernel) ⟨Nat.le_of_ble_eq_true rfl, Nat.le_of_ble_eq_true rfl⟩, fun q hq => absurd hq List.not_mem_nil⟩⟩
theorem sn_Yard_numberAt (h : MC w true p l e R s m args below meth c Q b_Yard_numberAt 2 "CoilSlits$Yard" E_Yard_numberAt 0 0 F (some .int)) : Sn (zK w true p l e R s m args below meth c Q 2) F (fun _ => False) (fun _ => False) 0 0 0 d_Yard_numberAt 0 0 0 := by
  unfold d_Yard_numberAt
  exact (m_rti h zz (p1 := 9) (by decide +kernel) (by decide +kernel) (Nat.zero_le _) (Nat.zero_le _))
theorem ct_Yard_numberAt (w : Wd) (l : Launch) (hw : zWok w) : CT w l y_Yard_numberAt b_Yard_numberAt 2 (some .int) r_Yard_numberAt (exb true 2 d_Yard_numberAt) :=
  ct_plain (by decide +kernel) (fun p e s m args below meth c Q cx hnm => eo_Yard_numberAt hw cx) (fun p e s m args below meth c Q F h => sn_Yard_numberAt h)
theorem q_Yard_numberAt {a : Nat} {fs : List Value} {M : Hp} {nx : Nat} (x0 : Int32) (h : M a = some (cO 2 fs)) : x_Yard_numberAt [.ref a, .int x0] (M, nx) = zres (d_Yard_numberAt ([some (.ref a), some (.int x0)], [], (M, nx))) := q_ofV [some (.ref a), some (.int x0)] h rfl (Nat.le_of_ble_eq_true rfl) (Or.inr rfl)
theorem lc_Yard_numberAt_69 : lookI (eC E_Yard_numberAt) (.invokevirtual 69) = some (3, x_Grid_get) := rfl
theorem lf_Yard_numberAt_14 : lookN (eF E_Yard_numberAt) 14 = some (2, 0) := rfl
theorem lb_Yard_numberAt : eB E_Yard_numberAt = true := rfl
-- CoilSlits$Yard.coilProperty
def E_Yard_coilProperty : Env := (true, [(14, 2, 0)], [(.invokestatic 72, 1, x_Slit_stackOf), (.invokevirtual 75, 2, x_Yard_coilsAbove), (.invokevirtual 69, 3, x_Grid_get)], [], [], zST, false)
def d_Yard_coilProperty : Dn := (swi E_Yard_coilProperty [.iload_n 2] [(3, (rti E_Yard_coilProperty [.iload_n 1, .invokestatic 72])), (4, (rti E_Yard_coilProperty [.aload_n 0, .iload_n 1, .invokevirtual 75])), (5, (rti E_Yard_coilProperty [.aload_n 0, .getfield 14, .iload_n 1, .iconst 3, .invokevirtual 69]))]
  (rti E_Yard_coilProperty [.aload_n 0, .getfield 14, .iload_n 1, .iload_n 2, .invokevirtual 69]))
def x_Yard_coilProperty : Ex := zrv 2 (exb true 3 d_Yard_coilProperty)
abbrev r_Yard_coilProperty : Room := ({ frames := 2, cells := 0, slots := 0, locals := 42 } : Room)
theorem eo_Yard_coilProperty (hw : zWok w) (cx : CX w p s m args c b_Yard_coilProperty 3 "CoilSlits$Yard") : EnvOk w true p l e r_Yard_coilProperty s m args below meth c Q b_Yard_coilProperty 3 "CoilSlits$Yard" E_Yard_coilProperty :=
  ⟨rfl, by decide +kernel, by decide +kernel, by decide +kernel, hw, fun h => absurd h (by decide),
  List.forall_mem_cons.mpr ⟨call_SN cx (host := "CoilSlits") (ct_Slit_stackOf w l hw) tw_227 (by decide +kernel) tw_1 tw_226 (by decide +kernel) ⟨Nat.le_of_ble_eq_true rfl, Nat.le_of_ble_eq_true rfl⟩, List.forall_mem_cons.mpr ⟨call_V cx (ct_Yard_coilsAbove w l hw) tw_224 tw_221 tw_2 tw_222 tw_223 (ci := 2) (Nat.le_of_ble_eq_true rfl) rfl (by decide +kernel) ⟨Nat.le_of_ble_eq_true rfl, Nat.le_of_ble_eq_true rfl⟩, List.forall_mem_cons.mpr ⟨call_V cx (ct_Grid_get w l hw) tw_200 tw_197 tw_3 tw_198 tw_199 (ci := 1) (Nat.le_of_ble_eq_true rfl) rfl (by decide +kernel) ⟨Nat.le_of_ble_eq_true rfl, Nat.le_of_ble_eq_true rfl⟩, fun q hq => absurd hq List.not_mem_nil⟩⟩⟩⟩
theorem sn_Yard_coilProperty (h : MC w true p l e R s m args below meth c Q b_Yard_coilProperty 3 "CoilSlits$Yard" E_Yard_coilProperty 0 0 F (some .int)) : Sn (zK w true p l e R s m args below meth c Q 3) F (fun _ => False) (fun _ => False) 0 0 0 d_Yard_coilProperty 0 0 0 := by
  unfold d_Yard_coilProperty
  exact (m_sw h zz (p1 := 1) (pd := 49) [(3, 28), (4, 33), (5, 39)] (by decide +kernel) (by decide +kernel)
  (swl_cons (m_rti h zz (p1 := 32) (by decide +kernel) (by decide +kernel) (Nat.zero_le _) (Nat.zero_le _))
  (swl_cons (m_rti h zz (p1 := 38) (by decide +kernel) (by decide +kernel) (Nat.zero_le _) (Nat.zero_le _))
  (swl_cons (m_rti h zz (p1 := 48) (by decide +kernel) (by decide +kernel) (Nat.zero_le _) (Nat.zero_le _))
  swl_nil)))
  (m_rti h zz (p1 := 58) (by decide +kernel) (by decide +kernel) (Nat.zero_le _) (Nat.zero_le _)))
theorem ct_Yard_coilProperty (w : Wd) (l : Launch) (hw : zWok w) : CT w l y_Yard_coilProperty b_Yard_coilProperty 3 (some .int) r_Yard_coilProperty (exb true 3 d_Yard_coilProperty) :=
  ct_plain (by decide +kernel) (fun p e s m args below meth c Q cx hnm => eo_Yard_coilProperty hw cx) (fun p e s m args below meth c Q F h => sn_Yard_coilProperty h)
theorem q_Yard_coilProperty {a : Nat} {fs : List Value} {M : Hp} {nx : Nat} (x0 : Int32) (x1 : Int32) (h : M a = some (cO 2 fs)) : x_Yard_coilProperty [.ref a, .int x0, .int x1] (M, nx) = zres (d_Yard_coilProperty ([some (.ref a), some (.int x0), some (.int x1)], [], (M, nx))) := q_ofV [some (.ref a), some (.int x0), some (.int x1)] h rfl (Nat.le_of_ble_eq_true rfl) (Or.inr rfl)
theorem lc_Yard_coilProperty_72 : lookI (eC E_Yard_coilProperty) (.invokestatic 72) = some (1, x_Slit_stackOf) := rfl
theorem lc_Yard_coilProperty_75 : lookI (eC E_Yard_coilProperty) (.invokevirtual 75) = some (2, x_Yard_coilsAbove) := rfl
theorem lc_Yard_coilProperty_69 : lookI (eC E_Yard_coilProperty) (.invokevirtual 69) = some (3, x_Grid_get) := rfl
theorem lf_Yard_coilProperty_14 : lookN (eF E_Yard_coilProperty) 14 = some (2, 0) := rfl
theorem lb_Yard_coilProperty : eB E_Yard_coilProperty = true := rfl
-- CoilSlits$Yard.suits
def E_Yard_suits : Env := (true, [(14, 2, 0)], [(.invokevirtual 69, 3, x_Grid_get), (.invokevirtual 124, 4, x_Yard_mismatch)], [], [], zST, false)
def d_Yard_suits : Dn := (sq (ite' (can (cno (cat E_Yard_suits [.aload_n 0, .getfield 14, .iload_n 2, .iconst 4, .invokevirtual 69, .iconst (-1)] (.if_icmp .eq 17))) (cno (cat E_Yard_suits [.aload_n 0, .iload_n 1, .iload_n 2, .iload_n 3, .invokevirtual 124] (.ifCond .ne 7))))
  (blk E_Yard_suits [.iconst 1])
  (blk E_Yard_suits [.iconst 0]))
  (rtz E_Yard_suits []))
def x_Yard_suits : Ex := zrv 2 (exb true 4 d_Yard_suits)
abbrev r_Yard_suits : Room := ({ frames := 2, cells := 0, slots := 0, locals := 47 } : Room)
theorem eo_Yard_suits (hw : zWok w) (cx : CX w p s m args c b_Yard_suits 4 "CoilSlits$Yard") : EnvOk w true p l e r_Yard_suits s m args below meth c Q b_Yard_suits 4 "CoilSlits$Yard" E_Yard_suits :=
  ⟨rfl, by decide +kernel, by decide +kernel, by decide +kernel, hw, fun h => absurd h (by decide),
  List.forall_mem_cons.mpr ⟨call_V cx (ct_Grid_get w l hw) tw_200 tw_197 tw_3 tw_198 tw_199 (ci := 1) (Nat.le_of_ble_eq_true rfl) rfl (by decide +kernel) ⟨Nat.le_of_ble_eq_true rfl, Nat.le_of_ble_eq_true rfl⟩, List.forall_mem_cons.mpr ⟨call_V cx (ct_Yard_mismatch w l hw) tw_220 tw_217 tw_2 tw_219 tp_3 (ci := 2) (Nat.le_of_ble_eq_true rfl) rfl (by decide +kernel) ⟨Nat.le_of_ble_eq_true rfl, Nat.le_of_ble_eq_true rfl⟩, fun q hq => absurd hq List.not_mem_nil⟩⟩⟩
theorem sn_Yard_suits (h : MC w true p l e R s m args below meth c Q b_Yard_suits 4 "CoilSlits$Yard" E_Yard_suits 0 0 F (some .boolean)) : Sn (zK w true p l e R s m args below meth c Q 4) F (fun _ => False) (fun _ => False) 0 0 0 d_Yard_suits 0 0 0 := by
  unfold d_Yard_suits
  exact (sn_sq (pm := 28) (sn_ite (pt := 23) (pf := 27) (sc_an (pm := 13) (sc_no (m_cat h zz (p1 := 10) (tgt := 27) (by decide +kernel) (by decide +kernel) (by decide))) (sc_no (m_cat h zz (p1 := 20) (tgt := 27) (by decide +kernel) (by decide +kernel) (by decide))))
  (sn_goto (pm := 24) (m_blk h zz (by decide +kernel)) (m_goto h (off := 4) (by decide +kernel) (by decide)))
  (m_blk h zz (by decide +kernel)))
  (m_rtz h zz (p1 := 28) (by decide +kernel) (by decide +kernel) (Nat.zero_le _) (Nat.zero_le _)))
theorem ct_Yard_suits (w : Wd) (l : Launch) (hw : zWok w) : CT w l y_Yard_suits b_Yard_suits 4 (some .boolean) r_Yard_suits (exb true 4 d_Yard_suits) :=
  ct_plain (by decide +kernel) (fun p e s m args below meth c Q cx hnm => eo_Yard_suits hw cx) (fun p e s m args below meth c Q F h => sn_Yard_suits h)
theorem q_Yard_suits {a : Nat} {fs : List Value} {M : Hp} {nx : Nat} (x0 : Int32) (x1 : Int32) (x2 : Int32) (h : M a = some (cO 2 fs)) : x_Yard_suits [.ref a, .int x0, .int x1, .int x2] (M, nx) = zres (d_Yard_suits ([some (.ref a), some (.int x0), some (.int x1), some (.int x2)], [], (M, nx))) := q_ofV [some (.ref a), some (.int x0), some (.int x1), some (.int x2)] h rfl (Nat.le_of_ble_eq_true rfl) (Or.inr rfl)
theorem lc_Yard_suits_69 : lookI (eC E_Yard_suits) (.invokevirtual 69) = some (3, x_Grid_get) := rfl
theorem lc_Yard_suits_124 : lookI (eC E_Yard_suits) (.invokevirtual 124) = some (4, x_Yard_mismatch) := rfl
theorem lf_Yard_suits_14 : lookN (eF E_Yard_suits) 14 = some (2, 0) := rfl
theorem lb_Yard_suits : eB E_Yard_suits = true := rfl
-- CoilSlits$Yard.coilsSuiting
def E_Yard_coilsSuiting : Env := (true, [], [(.invokevirtual 114, 2, x_Yard_widthTaken), (.invokevirtual 117, 4, x_Yard_suits)], [], [], zST, false)
def d_Yard_coilsSuiting : Dn := (sq (blk E_Yard_coilsSuiting [.aload_n 0, .iload_n 1, .invokevirtual 114, .istore_n 2, .iconst 0, .istore_n 3, .iconst 0, .istore 4])
  (sq (lop (cno (cat E_Yard_coilsSuiting [.iload 4, .bipush 30] (.if_icmp .ge 23)))
  (sq (ite' (cno (cat E_Yard_coilsSuiting [.aload_n 0, .iload_n 1, .iload 4, .iload_n 2, .invokevirtual 117] (.ifCond .eq 6)))
  (blk E_Yard_coilsSuiting [.iinc 3 1])
  (blk E_Yard_coilsSuiting []))
  (blk E_Yard_coilsSuiting [.iinc 4 1]))
  (blk E_Yard_coilsSuiting []) zFU)
  (rti E_Yard_coilsSuiting [.iload_n 3])))
def x_Yard_coilsSuiting : Ex := zrv 2 (exb true 5 d_Yard_coilsSuiting)
abbrev r_Yard_coilsSuiting : Room := ({ frames := 3, cells := 0, slots := 0, locals := 70 } : Room)
theorem eo_Yard_coilsSuiting (hw : zWok w) (cx : CX w p s m args c b_Yard_coilsSuiting 5 "CoilSlits$Yard") : EnvOk w true p l e r_Yard_coilsSuiting s m args below meth c Q b_Yard_coilsSuiting 5 "CoilSlits$Yard" E_Yard_coilsSuiting :=
  ⟨rfl, by decide +kernel, by decide +kernel, by decide +kernel, hw, fun h => absurd h (by decide),
  List.forall_mem_cons.mpr ⟨call_V cx (ct_Yard_widthTaken w l hw) tw_212 tw_209 tw_2 tw_211 tp_2 (ci := 2) (Nat.le_of_ble_eq_true rfl) rfl (by decide +kernel) ⟨Nat.le_of_ble_eq_true rfl, Nat.le_of_ble_eq_true rfl⟩, List.forall_mem_cons.mpr ⟨call_V cx (ct_Yard_suits w l hw) tw_437 tw_434 tw_2 tw_436 tp_22 (ci := 2) (Nat.le_of_ble_eq_true rfl) rfl (by decide +kernel) ⟨Nat.le_of_ble_eq_true rfl, Nat.le_of_ble_eq_true rfl⟩, fun q hq => absurd hq List.not_mem_nil⟩⟩⟩
theorem sn_Yard_coilsSuiting (h : MC w true p l e R s m args below meth c Q b_Yard_coilsSuiting 5 "CoilSlits$Yard" E_Yard_coilsSuiting 0 0 F (some .int)) : Sn (zK w true p l e R s m args below meth c Q 5) F (fun _ => False) (fun _ => False) 0 0 0 d_Yard_coilsSuiting 0 0 0 := by
  unfold d_Yard_coilsSuiting
  exact (sn_sq (pm := 11) (m_blk h zz (by decide +kernel))
  (sn_sq (pm := 38) (sn_lop (pt := 18) (pu := 35) (p2 := 35) (px := 38) (kb2 := fun _ => False) (kc2 := fun _ => False) (sc_no (m_cat h zz (p1 := 15) (tgt := 38) (by decide +kernel) (by decide +kernel) (by decide)))
  (sn_sq (pm := 32) (sn_ite (pt := 29) (pf := 32) (sc_no (m_cat h zz (p1 := 26) (tgt := 32) (by decide +kernel) (by decide +kernel) (by decide)))
  (m_blk h zz (by decide +kernel))
  (m_blk h zz rfl))
  (m_blk h zz (by decide +kernel)))
  (m_blk h zz rfl) (m_goto h (off := (-24)) (by decide +kernel) (by decide)) zFU)
  (m_rti h zz (p1 := 39) (by decide +kernel) (by decide +kernel) (Nat.zero_le _) (Nat.zero_le _))))
theorem ct_Yard_coilsSuiting (w : Wd) (l : Launch) (hw : zWok w) : CT w l y_Yard_coilsSuiting b_Yard_coilsSuiting 5 (some .int) r_Yard_coilsSuiting (exb true 5 d_Yard_coilsSuiting) :=
  ct_plain (by decide +kernel) (fun p e s m args below meth c Q cx hnm => eo_Yard_coilsSuiting hw cx) (fun p e s m args below meth c Q F h => sn_Yard_coilsSuiting h)
theorem q_Yard_coilsSuiting {a : Nat} {fs : List Value} {M : Hp} {nx : Nat} (x0 : Int32) (h : M a = some (cO 2 fs)) : x_Yard_coilsSuiting [.ref a, .int x0] (M, nx) = zres (d_Yard_coilsSuiting ([some (.ref a), some (.int x0), none, none, none], [], (M, nx))) := q_ofV [some (.ref a), some (.int x0), none, none, none] h rfl (Nat.le_of_ble_eq_true rfl) (Or.inr rfl)
theorem lc_Yard_coilsSuiting_114 : lookI (eC E_Yard_coilsSuiting) (.invokevirtual 114) = some (2, x_Yard_widthTaken) := rfl
theorem lc_Yard_coilsSuiting_117 : lookI (eC E_Yard_coilsSuiting) (.invokevirtual 117) = some (4, x_Yard_suits) := rfl
theorem lb_Yard_coilsSuiting : eB E_Yard_coilsSuiting = true := rfl
-- CoilSlits$Yard.stripsFitting
def E_Yard_stripsFitting : Env := (true, [(14, 2, 0)], [(.invokevirtual 114, 2, x_Yard_widthTaken), (.invokevirtual 117, 4, x_Yard_suits), (.invokevirtual 69, 3, x_Grid_get), (.invokestatic 121, 2, x_Yard_stripsIn)], [], [], zST, false)
def d_Yard_stripsFitting : Dn := (sq (blk E_Yard_stripsFitting [.aload_n 0, .iload_n 1, .invokevirtual 114, .istore_n 2, .iconst 0, .istore_n 3, .iconst 0, .istore 4])
  (sq (lop (cno (cat E_Yard_stripsFitting [.iload 4, .bipush 30] (.if_icmp .ge 37)))
  (sq (ite' (cno (cat E_Yard_stripsFitting [.aload_n 0, .iload_n 1, .iload 4, .iload_n 2, .invokevirtual 117] (.ifCond .eq 20)))
  (blk E_Yard_stripsFitting [.iload_n 3, .aload_n 0, .getfield 14, .iload 4, .iconst 0, .invokevirtual 69, .iload_n 2, .invokestatic 121, .iadd, .istore_n 3])
  (blk E_Yard_stripsFitting []))
  (blk E_Yard_stripsFitting [.iinc 4 1]))
  (blk E_Yard_stripsFitting []) zFU)
  (rti E_Yard_stripsFitting [.iload_n 3])))
def x_Yard_stripsFitting : Ex := zrv 2 (exb true 5 d_Yard_stripsFitting)
abbrev r_Yard_stripsFitting : Room := ({ frames := 3, cells := 0, slots := 0, locals := 70 } : Room)
theorem eo_Yard_stripsFitting (hw : zWok w) (cx : CX w p s m args c b_Yard_stripsFitting 5 "CoilSlits$Yard") : EnvOk w true p l e r_Yard_stripsFitting s m args below meth c Q b_Yard_stripsFitting 5 "CoilSlits$Yard" E_Yard_stripsFitting :=
  ⟨rfl, by decide +kernel, by decide +kernel, by decide +kernel, hw, fun h => absurd h (by decide),
  List.forall_mem_cons.mpr ⟨call_V cx (ct_Yard_widthTaken w l hw) tw_212 tw_209 tw_2 tw_211 tp_2 (ci := 2) (Nat.le_of_ble_eq_true rfl) rfl (by decide +kernel) ⟨Nat.le_of_ble_eq_true rfl, Nat.le_of_ble_eq_true rfl⟩, List.forall_mem_cons.mpr ⟨call_V cx (ct_Yard_suits w l hw) tw_437 tw_434 tw_2 tw_436 tp_22 (ci := 2) (Nat.le_of_ble_eq_true rfl) rfl (by decide +kernel) ⟨Nat.le_of_ble_eq_true rfl, Nat.le_of_ble_eq_true rfl⟩, List.forall_mem_cons.mpr ⟨call_V cx (ct_Grid_get w l hw) tw_200 tw_197 tw_3 tw_198 tw_199 (ci := 1) (Nat.le_of_ble_eq_true rfl) rfl (by decide +kernel) ⟨Nat.le_of_ble_eq_true rfl, Nat.le_of_ble_eq_true rfl⟩, List.forall_mem_cons.mpr ⟨call_S cx (ct_Yard_stripsIn w l hw) tw_238 tw_236 tw_2 tw_237 (by decide +kernel) ⟨Nat.le_of_ble_eq_true rfl, Nat.le_of_ble_eq_true rfl⟩, fun q hq => absurd hq List.not_mem_nil⟩⟩⟩⟩⟩
theorem sn_Yard_stripsFitting (h : MC w true p l e R s m args below meth c Q b_Yard_stripsFitting 5 "CoilSlits$Yard" E_Yard_stripsFitting 0 0 F (some .int)) : Sn (zK w true p l e R s m args below meth c Q 5) F (fun _ => False) (fun _ => False) 0 0 0 d_Yard_stripsFitting 0 0 0 := by
  unfold d_Yard_stripsFitting
  exact (sn_sq (pm := 11) (m_blk h zz (by decide +kernel))
  (sn_sq (pm := 52) (sn_lop (pt := 18) (pu := 49) (p2 := 49) (px := 52) (kb2 := fun _ => False) (kc2 := fun _ => False) (sc_no (m_cat h zz (p1 := 15) (tgt := 52) (by decide +kernel) (by decide +kernel) (by decide)))
  (sn_sq (pm := 46) (sn_ite (pt := 29) (pf := 46) (sc_no (m_cat h zz (p1 := 26) (tgt := 46) (by decide +kernel) (by decide +kernel) (by decide)))
  (m_blk h zz (by decide +kernel))
  (m_blk h zz rfl))
  (m_blk h zz (by decide +kernel)))
  (m_blk h zz rfl) (m_goto h (off := (-38)) (by decide +kernel) (by decide)) zFU)
  (m_rti h zz (p1 := 53) (by decide +kernel) (by decide +kernel) (Nat.zero_le _) (Nat.zero_le _))))
theorem ct_Yard_stripsFitting (w : Wd) (l : Launch) (hw : zWok w) : CT w l y_Yard_stripsFitting b_Yard_stripsFitting 5 (some .int) r_Yard_stripsFitting (exb true 5 d_Yard_stripsFitting) :=
  ct_plain (by decide +kernel) (fun p e s m args below meth c Q cx hnm => eo_Yard_stripsFitting hw cx) (fun p e s m args below meth c Q F h => sn_Yard_stripsFitting h)
theorem q_Yard_stripsFitting {a : Nat} {fs : List Value} {M : Hp} {nx : Nat} (x0 : Int32) (h : M a = some (cO 2 fs)) : x_Yard_stripsFitting [.ref a, .int x0] (M, nx) = zres (d_Yard_stripsFitting ([some (.ref a), some (.int x0), none, none, none], [], (M, nx))) := q_ofV [some (.ref a), some (.int x0), none, none, none] h rfl (Nat.le_of_ble_eq_true rfl) (Or.inr rfl)
theorem lc_Yard_stripsFitting_114 : lookI (eC E_Yard_stripsFitting) (.invokevirtual 114) = some (2, x_Yard_widthTaken) := rfl
theorem lc_Yard_stripsFitting_117 : lookI (eC E_Yard_stripsFitting) (.invokevirtual 117) = some (4, x_Yard_suits) := rfl
theorem lc_Yard_stripsFitting_69 : lookI (eC E_Yard_stripsFitting) (.invokevirtual 69) = some (3, x_Grid_get) := rfl
theorem lc_Yard_stripsFitting_121 : lookI (eC E_Yard_stripsFitting) (.invokestatic 121) = some (2, x_Yard_stripsIn) := rfl
theorem lf_Yard_stripsFitting_14 : lookN (eF E_Yard_stripsFitting) 14 = some (2, 0) := rfl
theorem lb_Yard_stripsFitting : eB E_Yard_stripsFitting = true := rfl
-- CoilSlits$Yard.orderProperty
def E_Yard_orderProperty : Env := (true, [(29, 2, 2)], [(.invokevirtual 108, 2, x_Yard_coilsSuiting), (.invokevirtual 111, 2, x_Yard_stripsFitting), (.invokevirtual 69, 3, x_Grid_get)], [], [], zST, false)
def d_Yard_orderProperty : Dn := (swi E_Yard_orderProperty [.iload_n 2] [(6, (rti E_Yard_orderProperty [.aload_n 0, .iload_n 1, .invokevirtual 108])), (7, (rti E_Yard_orderProperty [.aload_n 0, .iload_n 1, .invokevirtual 111]))]
  (rti E_Yard_orderProperty [.aload_n 0, .getfield 29, .iload_n 1, .iload_n 2, .invokevirtual 69]))
def x_Yard_orderProperty : Ex := zrv 2 (exb true 3 d_Yard_orderProperty)
abbrev r_Yard_orderProperty : Room := ({ frames := 4, cells := 0, slots := 0, locals := 94 } : Room)
theorem eo_Yard_orderProperty (hw : zWok w) (cx : CX w p s m args c b_Yard_orderProperty 3 "CoilSlits$Yard") : EnvOk w true p l e r_Yard_orderProperty s m args below meth c Q b_Yard_orderProperty 3 "CoilSlits$Yard" E_Yard_orderProperty :=
  ⟨rfl, by decide +kernel, by decide +kernel, by decide +kernel, hw, fun h => absurd h (by decide),
  List.forall_mem_cons.mpr ⟨call_V cx (ct_Yard_coilsSuiting w l hw) tw_433 tw_430 tw_2 tw_432 tp_21 (ci := 2) (Nat.le_of_ble_eq_true rfl) rfl (by decide +kernel) ⟨Nat.le_of_ble_eq_true rfl, Nat.le_of_ble_eq_true rfl⟩, List.forall_mem_cons.mpr ⟨call_V cx (ct_Yard_stripsFitting w l hw) tw_441 tw_438 tw_2 tw_440 tp_23 (ci := 2) (Nat.le_of_ble_eq_true rfl) rfl (by decide +kernel) ⟨Nat.le_of_ble_eq_true rfl, Nat.le_of_ble_eq_true rfl⟩, List.forall_mem_cons.mpr ⟨call_V cx (ct_Grid_get w l hw) tw_200 tw_197 tw_3 tw_198 tw_199 (ci := 1) (Nat.le_of_ble_eq_true rfl) rfl (by decide +kernel) ⟨Nat.le_of_ble_eq_true rfl, Nat.le_of_ble_eq_true rfl⟩, fun q hq => absurd hq List.not_mem_nil⟩⟩⟩⟩
theorem sn_Yard_orderProperty (h : MC w true p l e R s m args below meth c Q b_Yard_orderProperty 3 "CoilSlits$Yard" E_Yard_orderProperty 0 0 F (some .int)) : Sn (zK w true p l e R s m args below meth c Q 3) F (fun _ => False) (fun _ => False) 0 0 0 d_Yard_orderProperty 0 0 0 := by
  unfold d_Yard_orderProperty
  exact (m_sw h zz (p1 := 1) (pd := 40) [(6, 28), (7, 34)] (by decide +kernel) (by decide +kernel)
  (swl_cons (m_rti h zz (p1 := 33) (by decide +kernel) (by decide +kernel) (Nat.zero_le _) (Nat.zero_le _))
  (swl_cons (m_rti h zz (p1 := 39) (by decide +kernel) (by decide +kernel) (Nat.zero_le _) (Nat.zero_le _))
  swl_nil))
  (m_rti h zz (p1 := 49) (by decide +kernel) (by decide +kernel) (Nat.zero_le _) (Nat.zero_le _)))
theorem ct_Yard_orderProperty (w : Wd) (l : Launch) (hw : zWok w) : CT w l y_Yard_orderProperty b_Yard_orderProperty 3 (some .int) r_Yard_orderProperty (exb true 3 d_Yard_orderProperty) :=
  ct_plain (by decide +kernel) (fun p e s m args below meth c Q cx hnm => eo_Yard_orderProperty hw cx) (fun p e s m args below meth c Q F h => sn_Yard_orderProperty h)
theorem q_Yard_orderProperty {a : Nat} {fs : List Value} {M : Hp} {nx : Nat} (x0 : Int32) (x1 : Int32) (h : M a = some (cO 2 fs)) : x_Yard_orderProperty [.ref a, .int x0, .int x1] (M, nx) = zres (d_Yard_orderProperty ([some (.ref a), some (.int x0), some (.int x1)], [], (M, nx))) := q_ofV [some (.ref a), some (.int x0), some (.int x1)] h rfl (Nat.le_of_ble_eq_true rfl) (Or.inr rfl)
theorem lc_Yard_orderProperty_108 : lookI (eC E_Yard_orderProperty) (.invokevirtual 108) = some (2, x_Yard_coilsSuiting) := rfl
theorem lc_Yard_orderProperty_111 : lookI (eC E_Yard_orderProperty) (.invokevirtual 111) = some (2, x_Yard_stripsFitting) := rfl
theorem lc_Yard_orderProperty_69 : lookI (eC E_Yard_orderProperty) (.invokevirtual 69) = some (3, x_Grid_get) := rfl
theorem lf_Yard_orderProperty_29 : lookN (eF E_Yard_orderProperty) 29 = some (2, 2) := rfl
theorem lb_Yard_orderProperty : eB E_Yard_orderProperty = true := rfl
-- CoilSlits$Yard.emptiest
def E_Yard_emptiest : Env := (true, [(25, 2, 1)], [(.invokevirtual 65, 2, x_Row_get)], [], [], zST, false)
def d_Yard_emptiest : Dn := (sq (blk E_Yard_emptiest [.iconst 0, .istore_n 1, .iconst 1, .istore_n 2])
  (sq (lop (cno (cat E_Yard_emptiest [.iload_n 2, .bipush 6] (.if_icmp .ge 30)))
  (sq (ite' (cno (cat E_Yard_emptiest [.aload_n 0, .getfield 25, .iload_n 2, .invokevirtual 65, .aload_n 0, .getfield 25, .iload_n 1, .invokevirtual 65] (.if_icmp .ge 5)))
  (blk E_Yard_emptiest [.iload_n 2, .istore_n 1])
  (blk E_Yard_emptiest []))
  (blk E_Yard_emptiest [.iinc 2 1]))
  (blk E_Yard_emptiest []) zFU)
  (rti E_Yard_emptiest [.iload_n 1])))
def x_Yard_emptiest : Ex := zrv 2 (exb true 3 d_Yard_emptiest)
abbrev r_Yard_emptiest : Room := ({ frames := 1, cells := 0, slots := 0, locals := 21 } : Room)
theorem eo_Yard_emptiest (hw : zWok w) (cx : CX w p s m args c b_Yard_emptiest 3 "CoilSlits$Yard") : EnvOk w true p l e r_Yard_emptiest s m args below meth c Q b_Yard_emptiest 3 "CoilSlits$Yard" E_Yard_emptiest :=
  ⟨rfl, by decide +kernel, by decide +kernel, by decide +kernel, hw, fun h => absurd h (by decide),
  List.forall_mem_cons.mpr ⟨call_V cx (ct_Row_get w l hw) tw_216 tw_213 tw_5 tw_214 tw_215 (ci := 0) (Nat.le_of_ble_eq_true rfl) rfl (by decide +kernel) ⟨Nat.le_of_ble_eq_true rfl, Nat.le_of_ble_eq_true rfl⟩, fun q hq => absurd hq List.not_mem_nil⟩⟩
theorem sn_Yard_emptiest (h : MC w true p l e R s m args below meth c Q b_Yard_emptiest 3 "CoilSlits$Yard" E_Yard_emptiest 0 0 F (some .int)) : Sn (zK w true p l e R s m args below meth c Q 3) F (fun _ => False) (fun _ => False) 0 0 0 d_Yard_emptiest 0 0 0 := by
  unfold d_Yard_emptiest
  exact (sn_sq (pm := 4) (m_blk h zz (by decide +kernel))
  (sn_sq (pm := 37) (sn_lop (pt := 10) (pu := 34) (p2 := 34) (px := 37) (kb2 := fun _ => False) (kc2 := fun _ => False) (sc_no (m_cat h zz (p1 := 7) (tgt := 37) (by decide +kernel) (by decide +kernel) (by decide)))
  (sn_sq (pm := 31) (sn_ite (pt := 29) (pf := 31) (sc_no (m_cat h zz (p1 := 26) (tgt := 31) (by decide +kernel) (by decide +kernel) (by decide)))
  (m_blk h zz (by decide +kernel))
  (m_blk h zz rfl))
  (m_blk h zz (by decide +kernel)))
  (m_blk h zz rfl) (m_goto h (off := (-30)) (by decide +kernel) (by decide)) zFU)
  (m_rti h zz (p1 := 38) (by decide +kernel) (by decide +kernel) (Nat.zero_le _) (Nat.zero_le _))))
theorem ct_Yard_emptiest (w : Wd) (l : Launch) (hw : zWok w) : CT w l y_Yard_emptiest b_Yard_emptiest 3 (some .int) r_Yard_emptiest (exb true 3 d_Yard_emptiest) :=
  ct_plain (by decide +kernel) (fun p e s m args below meth c Q cx hnm => eo_Yard_emptiest hw cx) (fun p e s m args below meth c Q F h => sn_Yard_emptiest h)
theorem q_Yard_emptiest {a : Nat} {fs : List Value} {M : Hp} {nx : Nat}  (h : M a = some (cO 2 fs)) : x_Yard_emptiest [.ref a] (M, nx) = zres (d_Yard_emptiest ([some (.ref a), none, none], [], (M, nx))) := q_ofV [some (.ref a), none, none] h rfl (Nat.le_of_ble_eq_true rfl) (Or.inr rfl)
theorem lc_Yard_emptiest_65 : lookI (eC E_Yard_emptiest) (.invokevirtual 65) = some (2, x_Row_get) := rfl
theorem lf_Yard_emptiest_25 : lookN (eF E_Yard_emptiest) 25 = some (2, 1) := rfl
theorem lb_Yard_emptiest : eB E_Yard_emptiest = true := rfl
-- CoilSlits$Yard.bringIn
def E_Yard_bringIn : Env := (true, [(35, 2, 4)], [(.invokevirtual 78, 3, x_Row_add), (.invokevirtual 81, 6, x_Yard_putOnTop)], [], [], zST, false)
def d_Yard_bringIn : Dn := (rti E_Yard_bringIn [.aload_n 0, .getfield 35, .bipush 11, .iload_n 2, .invokevirtual 78, .aload_n 0, .iload_n 1, .iload_n 2, .iload_n 3, .iload 4, .iconst 0, .invokevirtual 81])
def x_Yard_bringIn : Ex := zrv 2 (exb true 5 d_Yard_bringIn)
abbrev r_Yard_bringIn : Room := ({ frames := 2, cells := 0, slots := 0, locals := 52 } : Room)
theorem eo_Yard_bringIn (hw : zWok w) (cx : CX w p s m args c b_Yard_bringIn 5 "CoilSlits$Yard") : EnvOk w true p l e r_Yard_bringIn s m args below meth c Q b_Yard_bringIn 5 "CoilSlits$Yard" E_Yard_bringIn :=
  ⟨rfl, by decide +kernel, by decide +kernel, by decide +kernel, hw, fun h => absurd h (by decide),
  List.forall_mem_cons.mpr ⟨call_V cx (ct_Row_add w l hw) tw_262 tw_259 tw_5 tw_260 tw_261 (ci := 0) (Nat.le_of_ble_eq_true rfl) rfl (by decide +kernel) ⟨Nat.le_of_ble_eq_true rfl, Nat.le_of_ble_eq_true rfl⟩, List.forall_mem_cons.mpr ⟨call_V cx (ct_Yard_putOnTop w l hw) tw_275 tw_272 tw_2 tw_274 tp_8 (ci := 2) (Nat.le_of_ble_eq_true rfl) rfl (by decide +kernel) ⟨Nat.le_of_ble_eq_true rfl, Nat.le_of_ble_eq_true rfl⟩, fun q hq => absurd hq List.not_mem_nil⟩⟩⟩
theorem sn_Yard_bringIn (h : MC w true p l e R s m args below meth c Q b_Yard_bringIn 5 "CoilSlits$Yard" E_Yard_bringIn 0 0 F (some .int)) : Sn (zK w true p l e R s m args below meth c Q 5) F (fun _ => False) (fun _ => False) 0 0 0 d_Yard_bringIn 0 0 0 := by
  unfold d_Yard_bringIn
  exact (m_rti h zz (p1 := 20) (by decide +kernel) (by decide +kernel) (Nat.zero_le _) (Nat.zero_le _))
theorem ct_Yard_bringIn (w : Wd) (l : Launch) (hw : zWok w) : CT w l y_Yard_bringIn b_Yard_bringIn 5 (some .int) r_Yard_bringIn (exb true 5 d_Yard_bringIn) :=
  ct_plain (by decide +kernel) (fun p e s m args below meth c Q cx hnm => eo_Yard_bringIn hw cx) (fun p e s m args below meth c Q F h => sn_Yard_bringIn h)
theorem q_Yard_bringIn {a : Nat} {fs : List Value} {M : Hp} {nx : Nat} (x0 : Int32) (x1 : Int32) (x2 : Int32) (x3 : Int32) (h : M a = some (cO 2 fs)) : x_Yard_bringIn [.ref a, .int x0, .int x1, .int x2, .int x3] (M, nx) = zres (d_Yard_bringIn ([some (.ref a), some (.int x0), some (.int x1), some (.int x2), some (.int x3)], [], (M, nx))) := q_ofV [some (.ref a), some (.int x0), some (.int x1), some (.int x2), some (.int x3)] h rfl (Nat.le_of_ble_eq_true rfl) (Or.inr rfl)
theorem lc_Yard_bringIn_78 : lookI (eC E_Yard_bringIn) (.invokevirtual 78) = some (3, x_Row_add) := rfl
theorem lc_Yard_bringIn_81 : lookI (eC E_Yard_bringIn) (.invokevirtual 81) = some (6, x_Yard_putOnTop) := rfl
theorem lf_Yard_bringIn_35 : lookN (eF E_Yard_bringIn) 35 = some (2, 4) := rfl
theorem lb_Yard_bringIn : eB E_Yard_bringIn = true := rfl
-- CoilSlits$Yard.hasSeen
def E_Yard_hasSeen : Env := (true, [(59, 2, 6)], [], [], [], zST, false)
def d_Yard_hasSeen : Dn := (sq (ite' (can (cno (cat E_Yard_hasSeen [.iload_n 1] (.ifCond .lt 15))) (cno (cat E_Yard_hasSeen [.iload_n 1, .aload_n 0, .getfield 59] (.if_icmp .ge 7))))
  (blk E_Yard_hasSeen [.iconst 1])
  (blk E_Yard_hasSeen [.iconst 0]))
  (rtz E_Yard_hasSeen []))
def x_Yard_hasSeen : Ex := zrv 2 (exb true 2 d_Yard_hasSeen)
abbrev r_Yard_hasSeen : Room := ({ frames := 0, cells := 0, slots := 0, locals := 0 } : Room)
theorem eo_Yard_hasSeen (hw : zWok w) (cx : CX w p s m args c b_Yard_hasSeen 2 "CoilSlits$Yard") : EnvOk w true p l e r_Yard_hasSeen s m args below meth c Q b_Yard_hasSeen 2 "CoilSlits$Yard" E_Yard_hasSeen :=
  ⟨rfl, by decide +kernel, by decide +kernel, by decide +kernel, hw, fun h => absurd h (by decide),
  fun q hq => absurd hq List.not_mem_nil⟩
theorem sn_Yard_hasSeen (h : MC w true p l e R s m args below meth c Q b_Yard_hasSeen 2 "CoilSlits$Yard" E_Yard_hasSeen 0 0 F (some .boolean)) : Sn (zK w true p l e R s m args below meth c Q 2) F (fun _ => False) (fun _ => False) 0 0 0 d_Yard_hasSeen 0 0 0 := by
  unfold d_Yard_hasSeen
  exact (sn_sq (pm := 17) (sn_ite (pt := 12) (pf := 16) (sc_an (pm := 4) (sc_no (m_cat h zz (p1 := 1) (tgt := 16) (by decide +kernel) (by decide +kernel) (by decide))) (sc_no (m_cat h zz (p1 := 9) (tgt := 16) (by decide +kernel) (by decide +kernel) (by decide))))
  (sn_goto (pm := 13) (m_blk h zz (by decide +kernel)) (m_goto h (off := 4) (by decide +kernel) (by decide)))
  (m_blk h zz (by decide +kernel)))
  (m_rtz h zz (p1 := 17) (by decide +kernel) (by decide +kernel) (Nat.zero_le _) (Nat.zero_le _)))
theorem ct_Yard_hasSeen (w : Wd) (l : Launch) (hw : zWok w) : CT w l y_Yard_hasSeen b_Yard_hasSeen 2 (some .boolean) r_Yard_hasSeen (exb true 2 d_Yard_hasSeen) :=
  ct_plain (by decide +kernel) (fun p e s m args below meth c Q cx hnm => eo_Yard_hasSeen hw cx) (fun p e s m args below meth c Q F h => sn_Yard_hasSeen h)
theorem q_Yard_hasSeen {a : Nat} {fs : List Value} {M : Hp} {nx : Nat} (x0 : Int32) (h : M a = some (cO 2 fs)) : x_Yard_hasSeen [.ref a, .int x0] (M, nx) = zres (d_Yard_hasSeen ([some (.ref a), some (.int x0)], [], (M, nx))) := q_ofV [some (.ref a), some (.int x0)] h rfl (Nat.le_of_ble_eq_true rfl) (Or.inr rfl)
theorem lf_Yard_hasSeen_59 : lookN (eF E_Yard_hasSeen) 59 = some (2, 6) := rfl
theorem lb_Yard_hasSeen : eB E_Yard_hasSeen = true := rfl
-- CoilSlits$Yard.placeOf
def E_Yard_placeOf : Env := (true, [(14, 2, 0)], [(.invokevirtual 69, 3, x_Grid_get)], [], [], zST, false)
def d_Yard_placeOf : Dn := (sq (ite' (cno (cat E_Yard_placeOf [.iload_n 1] (.ifCond .ge 5)))
  (rti E_Yard_placeOf [.iconst (-1)])
  (blk E_Yard_placeOf []))
  (sq (blk E_Yard_placeOf [.iconst 0, .istore_n 2])
  (sq (lop (cno (cat E_Yard_placeOf [.iload_n 2, .bipush 30] (.if_icmp .ge 24)))
  (sq (ite' (cno (cat E_Yard_placeOf [.aload_n 0, .getfield 14, .iload_n 2, .iconst 4, .invokevirtual 69, .iload_n 1] (.if_icmp .ne 5)))
  (rti E_Yard_placeOf [.iload_n 2])
  (blk E_Yard_placeOf []))
  (blk E_Yard_placeOf [.iinc 2 1]))
  (blk E_Yard_placeOf []) zFU)
  (rti E_Yard_placeOf [.iconst (-1)]))))
def x_Yard_placeOf : Ex := zrv 2 (exb true 3 d_Yard_placeOf)
abbrev r_Yard_placeOf : Room := ({ frames := 1, cells := 0, slots := 0, locals := 24 } : Room)
theorem eo_Yard_placeOf (hw : zWok w) (cx : CX w p s m args c b_Yard_placeOf 3 "CoilSlits$Yard") : EnvOk w true p l e r_Yard_placeOf s m args below meth c Q b_Yard_placeOf 3 "CoilSlits$Yard" E_Yard_placeOf :=
  ⟨rfl, by decide +kernel, by decide +kernel, by decide +kernel, hw, fun h => absurd h (by decide),
  List.forall_mem_cons.mpr ⟨call_V cx (ct_Grid_get w l hw) tw_200 tw_197 tw_3 tw_198 tw_199 (ci := 1) (Nat.le_of_ble_eq_true rfl) rfl (by decide +kernel) ⟨Nat.le_of_ble_eq_true rfl, Nat.le_of_ble_eq_true rfl⟩, fun q hq => absurd hq List.not_mem_nil⟩⟩
theorem sn_Yard_placeOf (h : MC w true p l e R s m args below meth c Q b_Yard_placeOf 3 "CoilSlits$Yard" E_Yard_placeOf 0 0 F (some .int)) : Sn (zK w true p l e R s m args below meth c Q 3) F (fun _ => False) (fun _ => False) 0 0 0 d_Yard_placeOf 0 0 0 := by
  unfold d_Yard_placeOf
  exact (sn_sq (pm := 6) (sn_ite (pt := 4) (pf := 6) (sc_no (m_cat h zz (p1 := 1) (tgt := 6) (by decide +kernel) (by decide +kernel) (by decide)))
  (m_rti h zz (p1 := 5) (by decide +kernel) (by decide +kernel) (Nat.zero_le _) (Nat.zero_le _))
  (m_blk h zz rfl))
  (sn_sq (pm := 8) (m_blk h zz (by decide +kernel))
  (sn_sq (pm := 35) (sn_lop (pt := 14) (pu := 32) (p2 := 32) (px := 35) (kb2 := fun _ => False) (kc2 := fun _ => False) (sc_no (m_cat h zz (p1 := 11) (tgt := 35) (by decide +kernel) (by decide +kernel) (by decide)))
  (sn_sq (pm := 29) (sn_ite (pt := 27) (pf := 29) (sc_no (m_cat h zz (p1 := 24) (tgt := 29) (by decide +kernel) (by decide +kernel) (by decide)))
  (m_rti h zz (p1 := 28) (by decide +kernel) (by decide +kernel) (Nat.zero_le _) (Nat.zero_le _))
  (m_blk h zz rfl))
  (m_blk h zz (by decide +kernel)))
  (m_blk h zz rfl) (m_goto h (off := (-24)) (by decide +kernel) (by decide)) zFU)
  (m_rti h zz (p1 := 36) (by decide +kernel) (by decide +kernel) (Nat.zero_le _) (Nat.zero_le _)))))
theorem ct_Yard_placeOf (w : Wd) (l : Launch) (hw : zWok w) : CT w l y_Yard_placeOf b_Yard_placeOf 3 (some .int) r_Yard_placeOf (exb true 3 d_Yard_placeOf) :=
  ct_plain (by decide +kernel) (fun p e s m args below meth c Q cx hnm => eo_Yard_placeOf hw cx) (fun p e s m args below meth c Q F h => sn_Yard_placeOf h)
theorem q_Yard_placeOf {a : Nat} {fs : List Value} {M : Hp} {nx : Nat} (x0 : Int32) (h : M a = some (cO 2 fs)) : x_Yard_placeOf [.ref a, .int x0] (M, nx) = zres (d_Yard_placeOf ([some (.ref a), some (.int x0), none], [], (M, nx))) := q_ofV [some (.ref a), some (.int x0), none] h rfl (Nat.le_of_ble_eq_true rfl) (Or.inr rfl)
theorem lc_Yard_placeOf_69 : lookI (eC E_Yard_placeOf) (.invokevirtual 69) = some (3, x_Grid_get) := rfl
theorem lf_Yard_placeOf_14 : lookN (eF E_Yard_placeOf) 14 = some (2, 0) := rfl
theorem lb_Yard_placeOf : eB E_Yard_placeOf = true := rfl
-- CoilSlits$Yard.sendTop
def E_Yard_sendTop : Env := (true, [(14, 2, 0), (25, 2, 1), (35, 2, 4)], [(.invokevirtual 65, 2, x_Row_get), (.invokevirtual 69, 3, x_Grid_get), (.invokevirtual 78, 3, x_Row_add), (.invokevirtual 93, 2, x_Yard_takeTop)], [], [], zST, false)
def d_Yard_sendTop : Dn := (rti E_Yard_sendTop [.aload_n 0, .getfield 14, .iload_n 1, .iconst 5, .imul, .aload_n 0, .getfield 25, .iload_n 1, .invokevirtual 65, .iadd, .iconst 1, .isub, .iconst 0, .invokevirtual 69, .istore_n 2, .aload_n 0, .getfield 35, .bipush 12, .iload_n 2, .invokevirtual 78, .aload_n 0, .iload_n 1, .invokevirtual 93, .iload_n 2])
def x_Yard_sendTop : Ex := zrv 2 (exb true 3 d_Yard_sendTop)
abbrev r_Yard_sendTop : Room := ({ frames := 2, cells := 0, slots := 0, locals := 46 } : Room)
theorem eo_Yard_sendTop (hw : zWok w) (cx : CX w p s m args c b_Yard_sendTop 3 "CoilSlits$Yard") : EnvOk w true p l e r_Yard_sendTop s m args below meth c Q b_Yard_sendTop 3 "CoilSlits$Yard" E_Yard_sendTop :=
  ⟨rfl, by decide +kernel, by decide +kernel, by decide +kernel, hw, fun h => absurd h (by decide),
  List.forall_mem_cons.mpr ⟨call_V cx (ct_Row_get w l hw) tw_216 tw_213 tw_5 tw_214 tw_215 (ci := 0) (Nat.le_of_ble_eq_true rfl) rfl (by decide +kernel) ⟨Nat.le_of_ble_eq_true rfl, Nat.le_of_ble_eq_true rfl⟩, List.forall_mem_cons.mpr ⟨call_V cx (ct_Grid_get w l hw) tw_200 tw_197 tw_3 tw_198 tw_199 (ci := 1) (Nat.le_of_ble_eq_true rfl) rfl (by decide +kernel) ⟨Nat.le_of_ble_eq_true rfl, Nat.le_of_ble_eq_true rfl⟩, List.forall_mem_cons.mpr ⟨call_V cx (ct_Row_add w l hw) tw_262 tw_259 tw_5 tw_260 tw_261 (ci := 0) (Nat.le_of_ble_eq_true rfl) rfl (by decide +kernel) ⟨Nat.le_of_ble_eq_true rfl, Nat.le_of_ble_eq_true rfl⟩, List.forall_mem_cons.mpr ⟨call_V cx (ct_Yard_takeTop w l hw) tw_270 tw_267 tw_2 tw_269 tp_7 (ci := 2) (Nat.le_of_ble_eq_true rfl) rfl (by decide +kernel) ⟨Nat.le_of_ble_eq_true rfl, Nat.le_of_ble_eq_true rfl⟩, fun q hq => absurd hq List.not_mem_nil⟩⟩⟩⟩⟩
theorem sn_Yard_sendTop (h : MC w true p l e R s m args below meth c Q b_Yard_sendTop 3 "CoilSlits$Yard" E_Yard_sendTop 0 0 F (some .int)) : Sn (zK w true p l e R s m args below meth c Q 3) F (fun _ => False) (fun _ => False) 0 0 0 d_Yard_sendTop 0 0 0 := by
  unfold d_Yard_sendTop
  exact (m_rti h zz (p1 := 39) (by decide +kernel) (by decide +kernel) (Nat.zero_le _) (Nat.zero_le _))
theorem ct_Yard_sendTop (w : Wd) (l : Launch) (hw : zWok w) : CT w l y_Yard_sendTop b_Yard_sendTop 3 (some .int) r_Yard_sendTop (exb true 3 d_Yard_sendTop) :=
  ct_plain (by decide +kernel) (fun p e s m args below meth c Q cx hnm => eo_Yard_sendTop hw cx) (fun p e s m args below meth c Q F h => sn_Yard_sendTop h)
theorem q_Yard_sendTop {a : Nat} {fs : List Value} {M : Hp} {nx : Nat} (x0 : Int32) (h : M a = some (cO 2 fs)) : x_Yard_sendTop [.ref a, .int x0] (M, nx) = zres (d_Yard_sendTop ([some (.ref a), some (.int x0), none], [], (M, nx))) := q_ofV [some (.ref a), some (.int x0), none] h rfl (Nat.le_of_ble_eq_true rfl) (Or.inr rfl)
theorem lc_Yard_sendTop_65 : lookI (eC E_Yard_sendTop) (.invokevirtual 65) = some (2, x_Row_get) := rfl
theorem lc_Yard_sendTop_69 : lookI (eC E_Yard_sendTop) (.invokevirtual 69) = some (3, x_Grid_get) := rfl
theorem lc_Yard_sendTop_78 : lookI (eC E_Yard_sendTop) (.invokevirtual 78) = some (3, x_Row_add) := rfl
theorem lc_Yard_sendTop_93 : lookI (eC E_Yard_sendTop) (.invokevirtual 93) = some (2, x_Yard_takeTop) := rfl
theorem lf_Yard_sendTop_14 : lookN (eF E_Yard_sendTop) 14 = some (2, 0) := rfl
theorem lf_Yard_sendTop_25 : lookN (eF E_Yard_sendTop) 25 = some (2, 1) := rfl
theorem lf_Yard_sendTop_35 : lookN (eF E_Yard_sendTop) 35 = some (2, 4) := rfl
theorem lb_Yard_sendTop : eB E_Yard_sendTop = true := rfl
-- CoilSlits$Yard.canDig
def E_Yard_canDig : Env := (true, [], [(.invokevirtual 75, 2, x_Yard_coilsAbove), (.invokestatic 72, 1, x_Slit_stackOf), (.invokevirtual 96, 2, x_Yard_roomBeside)], [], [], zST, false)
def d_Yard_canDig : Dn := (sq (ite' (cno (cat E_Yard_canDig [.aload_n 0, .iload_n 1, .invokevirtual 75, .aload_n 0, .iload_n 1, .invokestatic 72, .invokevirtual 96] (.if_icmp .gt 7)))
  (blk E_Yard_canDig [.iconst 1])
  (blk E_Yard_canDig [.iconst 0]))
  (rtz E_Yard_canDig []))
def x_Yard_canDig : Ex := zrv 2 (exb true 2 d_Yard_canDig)
abbrev r_Yard_canDig : Room := ({ frames := 2, cells := 0, slots := 0, locals := 44 } : Room)
theorem eo_Yard_canDig (hw : zWok w) (cx : CX w p s m args c b_Yard_canDig 2 "CoilSlits$Yard") : EnvOk w true p l e r_Yard_canDig s m args below meth c Q b_Yard_canDig 2 "CoilSlits$Yard" E_Yard_canDig :=
  ⟨rfl, by decide +kernel, by decide +kernel, by decide +kernel, hw, fun h => absurd h (by decide),
  List.forall_mem_cons.mpr ⟨call_V cx (ct_Yard_coilsAbove w l hw) tw_224 tw_221 tw_2 tw_222 tw_223 (ci := 2) (Nat.le_of_ble_eq_true rfl) rfl (by decide +kernel) ⟨Nat.le_of_ble_eq_true rfl, Nat.le_of_ble_eq_true rfl⟩, List.forall_mem_cons.mpr ⟨call_SN cx (host := "CoilSlits") (ct_Slit_stackOf w l hw) tw_227 (by decide +kernel) tw_1 tw_226 (by decide +kernel) ⟨Nat.le_of_ble_eq_true rfl, Nat.le_of_ble_eq_true rfl⟩, List.forall_mem_cons.mpr ⟨call_V cx (ct_Yard_roomBeside w l hw) tw_231 tw_228 tw_2 tw_230 tp_4 (ci := 2) (Nat.le_of_ble_eq_true rfl) rfl (by decide +kernel) ⟨Nat.le_of_ble_eq_true rfl, Nat.le_of_ble_eq_true rfl⟩, fun q hq => absurd hq List.not_mem_nil⟩⟩⟩⟩
theorem sn_Yard_canDig (h : MC w true p l e R s m args below meth c Q b_Yard_canDig 2 "CoilSlits$Yard" E_Yard_canDig 0 0 F (some .boolean)) : Sn (zK w true p l e R s m args below meth c Q 2) F (fun _ => False) (fun _ => False) 0 0 0 d_Yard_canDig 0 0 0 := by
  unfold d_Yard_canDig
  exact (sn_sq (pm := 21) (sn_ite (pt := 16) (pf := 20) (sc_no (m_cat h zz (p1 := 13) (tgt := 20) (by decide +kernel) (by decide +kernel) (by decide)))
  (sn_goto (pm := 17) (m_blk h zz (by decide +kernel)) (m_goto h (off := 4) (by decide +kernel) (by decide)))
  (m_blk h zz (by decide +kernel)))
  (m_rtz h zz (p1 := 21) (by decide +kernel) (by decide +kernel) (Nat.zero_le _) (Nat.zero_le _)))
theorem ct_Yard_canDig (w : Wd) (l : Launch) (hw : zWok w) : CT w l y_Yard_canDig b_Yard_canDig 2 (some .boolean) r_Yard_canDig (exb true 2 d_Yard_canDig) :=
  ct_plain (by decide +kernel) (fun p e s m args below meth c Q cx hnm => eo_Yard_canDig hw cx) (fun p e s m args below meth c Q F h => sn_Yard_canDig h)
theorem q_Yard_canDig {a : Nat} {fs : List Value} {M : Hp} {nx : Nat} (x0 : Int32) (h : M a = some (cO 2 fs)) : x_Yard_canDig [.ref a, .int x0] (M, nx) = zres (d_Yard_canDig ([some (.ref a), some (.int x0)], [], (M, nx))) := q_ofV [some (.ref a), some (.int x0)] h rfl (Nat.le_of_ble_eq_true rfl) (Or.inr rfl)
theorem lc_Yard_canDig_75 : lookI (eC E_Yard_canDig) (.invokevirtual 75) = some (2, x_Yard_coilsAbove) := rfl
theorem lc_Yard_canDig_72 : lookI (eC E_Yard_canDig) (.invokestatic 72) = some (1, x_Slit_stackOf) := rfl
theorem lc_Yard_canDig_96 : lookI (eC E_Yard_canDig) (.invokevirtual 96) = some (2, x_Yard_roomBeside) := rfl
theorem lb_Yard_canDig : eB E_Yard_canDig = true := rfl
-- CoilSlits$Yard.orderColumn
def E_Yard_orderColumn : Env := (true, [(29, 2, 2)], [(.invokevirtual 69, 3, x_Grid_get)], [], [], zST, false)
def d_Yard_orderColumn : Dn := (rti E_Yard_orderColumn [.aload_n 0, .getfield 29, .iload_n 1, .iload_n 2, .invokevirtual 69])
def x_Yard_orderColumn : Ex := zrv 2 (exb true 3 d_Yard_orderColumn)
abbrev r_Yard_orderColumn : Room := ({ frames := 1, cells := 0, slots := 0, locals := 24 } : Room)
theorem eo_Yard_orderColumn (hw : zWok w) (cx : CX w p s m args c b_Yard_orderColumn 3 "CoilSlits$Yard") : EnvOk w true p l e r_Yard_orderColumn s m args below meth c Q b_Yard_orderColumn 3 "CoilSlits$Yard" E_Yard_orderColumn :=
  ⟨rfl, by decide +kernel, by decide +kernel, by decide +kernel, hw, fun h => absurd h (by decide),
  List.forall_mem_cons.mpr ⟨call_V cx (ct_Grid_get w l hw) tw_200 tw_197 tw_3 tw_198 tw_199 (ci := 1) (Nat.le_of_ble_eq_true rfl) rfl (by decide +kernel) ⟨Nat.le_of_ble_eq_true rfl, Nat.le_of_ble_eq_true rfl⟩, fun q hq => absurd hq List.not_mem_nil⟩⟩
theorem sn_Yard_orderColumn (h : MC w true p l e R s m args below meth c Q b_Yard_orderColumn 3 "CoilSlits$Yard" E_Yard_orderColumn 0 0 F (some .int)) : Sn (zK w true p l e R s m args below meth c Q 3) F (fun _ => False) (fun _ => False) 0 0 0 d_Yard_orderColumn 0 0 0 := by
  unfold d_Yard_orderColumn
  exact (m_rti h zz (p1 := 9) (by decide +kernel) (by decide +kernel) (Nat.zero_le _) (Nat.zero_le _))
theorem ct_Yard_orderColumn (w : Wd) (l : Launch) (hw : zWok w) : CT w l y_Yard_orderColumn b_Yard_orderColumn 3 (some .int) r_Yard_orderColumn (exb true 3 d_Yard_orderColumn) :=
  ct_plain (by decide +kernel) (fun p e s m args below meth c Q cx hnm => eo_Yard_orderColumn hw cx) (fun p e s m args below meth c Q F h => sn_Yard_orderColumn h)
theorem q_Yard_orderColumn {a : Nat} {fs : List Value} {M : Hp} {nx : Nat} (x0 : Int32) (x1 : Int32) (h : M a = some (cO 2 fs)) : x_Yard_orderColumn [.ref a, .int x0, .int x1] (M, nx) = zres (d_Yard_orderColumn ([some (.ref a), some (.int x0), some (.int x1)], [], (M, nx))) := q_ofV [some (.ref a), some (.int x0), some (.int x1)] h rfl (Nat.le_of_ble_eq_true rfl) (Or.inr rfl)
theorem lc_Yard_orderColumn_69 : lookI (eC E_Yard_orderColumn) (.invokevirtual 69) = some (3, x_Grid_get) := rfl
theorem lf_Yard_orderColumn_29 : lookN (eF E_Yard_orderColumn) 29 = some (2, 2) := rfl
theorem lb_Yard_orderColumn : eB E_Yard_orderColumn = true := rfl
-- CoilSlits$Yard.indexOfOrder
def E_Yard_indexOfOrder : Env := (true, [(55, 2, 5), (29, 2, 2)], [(.invokevirtual 69, 3, x_Grid_get)], [], [], zST, false)
def d_Yard_indexOfOrder : Dn := (sq (blk E_Yard_indexOfOrder [.iconst 0, .istore_n 2])
  (sq (lop (cno (cat E_Yard_indexOfOrder [.iload_n 2, .aload_n 0, .getfield 55] (.if_icmp .ge 24)))
  (sq (ite' (cno (cat E_Yard_indexOfOrder [.aload_n 0, .getfield 29, .iload_n 2, .iconst 0, .invokevirtual 69, .iload_n 1] (.if_icmp .ne 5)))
  (rti E_Yard_indexOfOrder [.iload_n 2])
  (blk E_Yard_indexOfOrder []))
  (blk E_Yard_indexOfOrder [.iinc 2 1]))
  (blk E_Yard_indexOfOrder []) zFU)
  (rti E_Yard_indexOfOrder [.iconst (-1)])))
def x_Yard_indexOfOrder : Ex := zrv 2 (exb true 3 d_Yard_indexOfOrder)
abbrev r_Yard_indexOfOrder : Room := ({ frames := 1, cells := 0, slots := 0, locals := 24 } : Room)
theorem eo_Yard_indexOfOrder (hw : zWok w) (cx : CX w p s m args c b_Yard_indexOfOrder 3 "CoilSlits$Yard") : EnvOk w true p l e r_Yard_indexOfOrder s m args below meth c Q b_Yard_indexOfOrder 3 "CoilSlits$Yard" E_Yard_indexOfOrder :=
  ⟨rfl, by decide +kernel, by decide +kernel, by decide +kernel, hw, fun h => absurd h (by decide),
  List.forall_mem_cons.mpr ⟨call_V cx (ct_Grid_get w l hw) tw_200 tw_197 tw_3 tw_198 tw_199 (ci := 1) (Nat.le_of_ble_eq_true rfl) rfl (by decide +kernel) ⟨Nat.le_of_ble_eq_true rfl, Nat.le_of_ble_eq_true rfl⟩, fun q hq => absurd hq List.not_mem_nil⟩⟩
theorem sn_Yard_indexOfOrder (h : MC w true p l e R s m args below meth c Q b_Yard_indexOfOrder 3 "CoilSlits$Yard" E_Yard_indexOfOrder 0 0 F (some .int)) : Sn (zK w true p l e R s m args below meth c Q 3) F (fun _ => False) (fun _ => False) 0 0 0 d_Yard_indexOfOrder 0 0 0 := by
  unfold d_Yard_indexOfOrder
  exact (sn_sq (pm := 2) (m_blk h zz (by decide +kernel))
  (sn_sq (pm := 31) (sn_lop (pt := 10) (pu := 28) (p2 := 28) (px := 31) (kb2 := fun _ => False) (kc2 := fun _ => False) (sc_no (m_cat h zz (p1 := 7) (tgt := 31) (by decide +kernel) (by decide +kernel) (by decide)))
  (sn_sq (pm := 25) (sn_ite (pt := 23) (pf := 25) (sc_no (m_cat h zz (p1 := 20) (tgt := 25) (by decide +kernel) (by decide +kernel) (by decide)))
  (m_rti h zz (p1 := 24) (by decide +kernel) (by decide +kernel) (Nat.zero_le _) (Nat.zero_le _))
  (m_blk h zz rfl))
  (m_blk h zz (by decide +kernel)))
  (m_blk h zz rfl) (m_goto h (off := (-26)) (by decide +kernel) (by decide)) zFU)
  (m_rti h zz (p1 := 32) (by decide +kernel) (by decide +kernel) (Nat.zero_le _) (Nat.zero_le _))))
theorem ct_Yard_indexOfOrder (w : Wd) (l : Launch) (hw : zWok w) : CT w l y_Yard_indexOfOrder b_Yard_indexOfOrder 3 (some .int) r_Yard_indexOfOrder (exb true 3 d_Yard_indexOfOrder) :=
  ct_plain (by decide +kernel) (fun p e s m args below meth c Q cx hnm => eo_Yard_indexOfOrder hw cx) (fun p e s m args below meth c Q F h => sn_Yard_indexOfOrder h)
theorem q_Yard_indexOfOrder {a : Nat} {fs : List Value} {M : Hp} {nx : Nat} (x0 : Int32) (h : M a = some (cO 2 fs)) : x_Yard_indexOfOrder [.ref a, .int x0] (M, nx) = zres (d_Yard_indexOfOrder ([some (.ref a), some (.int x0), none], [], (M, nx))) := q_ofV [some (.ref a), some (.int x0), none] h rfl (Nat.le_of_ble_eq_true rfl) (Or.inr rfl)
theorem lc_Yard_indexOfOrder_69 : lookI (eC E_Yard_indexOfOrder) (.invokevirtual 69) = some (3, x_Grid_get) := rfl
theorem lf_Yard_indexOfOrder_55 : lookN (eF E_Yard_indexOfOrder) 55 = some (2, 5) := rfl
theorem lf_Yard_indexOfOrder_29 : lookN (eF E_Yard_indexOfOrder) 29 = some (2, 2) := rfl
theorem lb_Yard_indexOfOrder : eB E_Yard_indexOfOrder = true := rfl
-- CoilSlits$Yard.takeOrder
def E_Yard_takeOrder : Env := (true, [(62, 2, 7), (29, 2, 2), (55, 2, 5)], [(.invokevirtual 38, 4, x_Grid_put)], [], [], zST, false)
def d_Yard_takeOrder : Dn := (rti E_Yard_takeOrder [.aload_n 0, .getfield 62, .istore 6, .aload_n 0, .getfield 29, .aload_n 0, .getfield 55, .iconst 0, .iload 6, .invokevirtual 38, .aload_n 0, .getfield 29, .aload_n 0, .getfield 55, .iconst 1, .iload_n 1, .invokevirtual 38, .aload_n 0, .getfield 29, .aload_n 0, .getfield 55, .iconst 2, .iload_n 2, .invokevirtual 38, .aload_n 0, .getfield 29, .aload_n 0, .getfield 55, .iconst 3, .iload_n 3, .invokevirtual 38, .aload_n 0, .getfield 29, .aload_n 0, .getfield 55, .iconst 4, .iload 4, .invokevirtual 38, .aload_n 0, .getfield 29, .aload_n 0, .getfield 55, .iconst 5, .iload 5, .invokevirtual 38, .aload_n 0, .dup, .getfield 55, .iconst 1, .iadd, .putfield 55, .aload_n 0, .dup, .getfield 62, .iconst 1, .iadd, .putfield 62, .iload 6])
def x_Yard_takeOrder : Ex := zrv 2 (exb true 7 d_Yard_takeOrder)
abbrev r_Yard_takeOrder : Room := ({ frames := 1, cells := 0, slots := 0, locals := 25 } : Room)
theorem eo_Yard_takeOrder (hw : zWok w) (cx : CX w p s m args c b_Yard_takeOrder 7 "CoilSlits$Yard") : EnvOk w true p l e r_Yard_takeOrder s m args below meth c Q b_Yard_takeOrder 7 "CoilSlits$Yard" E_Yard_takeOrder :=
  ⟨rfl, by decide +kernel, by decide +kernel, by decide +kernel, hw, fun h => absurd h (by decide),
  List.forall_mem_cons.mpr ⟨call_V cx (ct_Grid_put w l hw) tw_62 tw_59 tw_3 tw_60 tw_61 (ci := 1) (Nat.le_of_ble_eq_true rfl) rfl (by decide +kernel) ⟨Nat.le_of_ble_eq_true rfl, Nat.le_of_ble_eq_true rfl⟩, fun q hq => absurd hq List.not_mem_nil⟩⟩
theorem sn_Yard_takeOrder (h : MC w true p l e R s m args below meth c Q b_Yard_takeOrder 7 "CoilSlits$Yard" E_Yard_takeOrder 0 0 F (some .int)) : Sn (zK w true p l e R s m args below meth c Q 7) F (fun _ => False) (fun _ => False) 0 0 0 d_Yard_takeOrder 0 0 0 := by
  unfold d_Yard_takeOrder
  exact (m_rti h zz (p1 := 109) (by decide +kernel) (by decide +kernel) (Nat.zero_le _) (Nat.zero_le _))
theorem ct_Yard_takeOrder (w : Wd) (l : Launch) (hw : zWok w) : CT w l y_Yard_takeOrder b_Yard_takeOrder 7 (some .int) r_Yard_takeOrder (exb true 7 d_Yard_takeOrder) :=
  ct_plain (by decide +kernel) (fun p e s m args below meth c Q cx hnm => eo_Yard_takeOrder hw cx) (fun p e s m args below meth c Q F h => sn_Yard_takeOrder h)
theorem q_Yard_takeOrder {a : Nat} {fs : List Value} {M : Hp} {nx : Nat} (x0 : Int32) (x1 : Int32) (x2 : Int32) (x3 : Int32) (x4 : Int32) (h : M a = some (cO 2 fs)) : x_Yard_takeOrder [.ref a, .int x0, .int x1, .int x2, .int x3, .int x4] (M, nx) = zres (d_Yard_takeOrder ([some (.ref a), some (.int x0), some (.int x1), some (.int x2), some (.int x3), some (.int x4), none], [], (M, nx))) := q_ofV [some (.ref a), some (.int x0), some (.int x1), some (.int x2), some (.int x3), some (.int x4), none] h rfl (Nat.le_of_ble_eq_true rfl) (Or.inr rfl)
theorem lc_Yard_takeOrder_38 : lookI (eC E_Yard_takeOrder) (.invokevirtual 38) = some (4, x_Grid_put) := rfl
theorem lf_Yard_takeOrder_62 : lookN (eF E_Yard_takeOrder) 62 = some (2, 7) := rfl
theorem lf_Yard_takeOrder_29 : lookN (eF E_Yard_takeOrder) 29 = some (2, 2) := rfl
theorem lf_Yard_takeOrder_55 : lookN (eF E_Yard_takeOrder) 55 = some (2, 5) := rfl
theorem lb_Yard_takeOrder : eB E_Yard_takeOrder = true := rfl
-- CoilSlits$Yard.reasonAgainst
def E_Yard_reasonAgainst : Env := (true, [], [(.invokevirtual 114, 2, x_Yard_widthTaken), (.invokevirtual 124, 4, x_Yard_mismatch), (.invokevirtual 128, 2, x_Yard_canDig)], [], [], zST, false)
def d_Yard_reasonAgainst : Dn := (sq (blk E_Yard_reasonAgainst [.aload_n 0, .iload_n 1, .iload_n 2, .aload_n 0, .iload_n 1, .invokevirtual 114, .invokevirtual 124, .istore_n 3])
  (sq (ite' (cno (cat E_Yard_reasonAgainst [.iload_n 3] (.ifCond .eq 5)))
  (rti E_Yard_reasonAgainst [.iload_n 3])
  (blk E_Yard_reasonAgainst []))
  (sq (ite' (cno (cat E_Yard_reasonAgainst [.aload_n 0, .iload_n 2, .invokevirtual 128] (.ifCond .eq 7)))
  (blk E_Yard_reasonAgainst [.iconst 0])
  (blk E_Yard_reasonAgainst [.iconst 4]))
  (rti E_Yard_reasonAgainst []))))
def x_Yard_reasonAgainst : Ex := zrv 2 (exb true 4 d_Yard_reasonAgainst)
abbrev r_Yard_reasonAgainst : Room := ({ frames := 3, cells := 0, slots := 0, locals := 65 } : Room)
theorem eo_Yard_reasonAgainst (hw : zWok w) (cx : CX w p s m args c b_Yard_reasonAgainst 4 "CoilSlits$Yard") : EnvOk w true p l e r_Yard_reasonAgainst s m args below meth c Q b_Yard_reasonAgainst 4 "CoilSlits$Yard" E_Yard_reasonAgainst :=
  ⟨rfl, by decide +kernel, by decide +kernel, by decide +kernel, hw, fun h => absurd h (by decide),
  List.forall_mem_cons.mpr ⟨call_V cx (ct_Yard_widthTaken w l hw) tw_212 tw_209 tw_2 tw_211 tp_2 (ci := 2) (Nat.le_of_ble_eq_true rfl) rfl (by decide +kernel) ⟨Nat.le_of_ble_eq_true rfl, Nat.le_of_ble_eq_true rfl⟩, List.forall_mem_cons.mpr ⟨call_V cx (ct_Yard_mismatch w l hw) tw_220 tw_217 tw_2 tw_219 tp_3 (ci := 2) (Nat.le_of_ble_eq_true rfl) rfl (by decide +kernel) ⟨Nat.le_of_ble_eq_true rfl, Nat.le_of_ble_eq_true rfl⟩, List.forall_mem_cons.mpr ⟨call_V cx (ct_Yard_canDig w l hw) tw_605 tw_662 tw_2 tw_603 tw_604 (ci := 2) (Nat.le_of_ble_eq_true rfl) rfl (by decide +kernel) ⟨Nat.le_of_ble_eq_true rfl, Nat.le_of_ble_eq_true rfl⟩, fun q hq => absurd hq List.not_mem_nil⟩⟩⟩⟩
theorem sn_Yard_reasonAgainst (h : MC w true p l e R s m args below meth c Q b_Yard_reasonAgainst 4 "CoilSlits$Yard" E_Yard_reasonAgainst 0 0 F (some .int)) : Sn (zK w true p l e R s m args below meth c Q 4) F (fun _ => False) (fun _ => False) 0 0 0 d_Yard_reasonAgainst 0 0 0 := by
  unfold d_Yard_reasonAgainst
  exact (sn_sq (pm := 12) (m_blk h zz (by decide +kernel))
  (sn_sq (pm := 18) (sn_ite (pt := 16) (pf := 18) (sc_no (m_cat h zz (p1 := 13) (tgt := 18) (by decide +kernel) (by decide +kernel) (by decide)))
  (m_rti h zz (p1 := 17) (by decide +kernel) (by decide +kernel) (Nat.zero_le _) (Nat.zero_le _))
  (m_blk h zz rfl))
  (sn_sq (pm := 31) (sn_ite (pt := 26) (pf := 30) (sc_no (m_cat h zz (p1 := 23) (tgt := 30) (by decide +kernel) (by decide +kernel) (by decide)))
  (sn_goto (pm := 27) (m_blk h zz (by decide +kernel)) (m_goto h (off := 4) (by decide +kernel) (by decide)))
  (m_blk h zz (by decide +kernel)))
  (m_rti h zz (p1 := 31) (by decide +kernel) (by decide +kernel) (Nat.zero_le _) (Nat.zero_le _)))))
theorem ct_Yard_reasonAgainst (w : Wd) (l : Launch) (hw : zWok w) : CT w l y_Yard_reasonAgainst b_Yard_reasonAgainst 4 (some .int) r_Yard_reasonAgainst (exb true 4 d_Yard_reasonAgainst) :=
  ct_plain (by decide +kernel) (fun p e s m args below meth c Q cx hnm => eo_Yard_reasonAgainst hw cx) (fun p e s m args below meth c Q F h => sn_Yard_reasonAgainst h)
theorem q_Yard_reasonAgainst {a : Nat} {fs : List Value} {M : Hp} {nx : Nat} (x0 : Int32) (x1 : Int32) (h : M a = some (cO 2 fs)) : x_Yard_reasonAgainst [.ref a, .int x0, .int x1] (M, nx) = zres (d_Yard_reasonAgainst ([some (.ref a), some (.int x0), some (.int x1), none], [], (M, nx))) := q_ofV [some (.ref a), some (.int x0), some (.int x1), none] h rfl (Nat.le_of_ble_eq_true rfl) (Or.inr rfl)
theorem lc_Yard_reasonAgainst_114 : lookI (eC E_Yard_reasonAgainst) (.invokevirtual 114) = some (2, x_Yard_widthTaken) := rfl
theorem lc_Yard_reasonAgainst_124 : lookI (eC E_Yard_reasonAgainst) (.invokevirtual 124) = some (4, x_Yard_mismatch) := rfl
theorem lc_Yard_reasonAgainst_128 : lookI (eC E_Yard_reasonAgainst) (.invokevirtual 128) = some (2, x_Yard_canDig) := rfl
theorem lb_Yard_reasonAgainst : eB E_Yard_reasonAgainst = true := rfl
end
