section
variable {w : Wd} {p : Program} {l : Launch} {e : Jvm.Env} {s : State} {m : MethodId} {args : Array Value} {below : List Frame} {meth : Method} {c : Code} {Q : State → Prop} {F : Out → G → Prop} {R : Room}
-- CoilSlits$Grid.copyFrom
def E_Grid_copyFrom : Env := (true, [(19, 1, 1)], [(.invokestatic 29, 2, xMin), (.invokestatic 23, 5, xCopy)], [], [], zST, false)
def d_Grid_copyFrom : Dn := (rtv E_Grid_copyFrom [.aload_n 0, .getfield 19, .arraylength, .aload_n 1, .getfield 19, .arraylength, .invokestatic 29, .istore_n 2, .aload_n 1, .getfield 19, .iconst 0, .aload_n 0, .getfield 19, .iconst 0, .iload_n 2, .invokestatic 23])
def x_Grid_copyFrom : Ex := zrv 1 (exb true 3 d_Grid_copyFrom)
abbrev r_Grid_copyFrom : Room := ({ frames := 1, cells := 0, slots := 0, locals := 60 } : Room)
theorem eo_Grid_copyFrom (hw : zWok w) (cx : CX w p s m args c b_Grid_copyFrom 3 "CoilSlits$Grid") : EnvOk w true p l e r_Grid_copyFrom s m args below meth c Q b_Grid_copyFrom 3 "CoilSlits$Grid" E_Grid_copyFrom :=
  ⟨rfl, by decide +kernel, by decide +kernel, by decide +kernel, hw, fun h => absurd h (by decide),
  List.forall_mem_cons.mpr ⟨call_min cx tw_176 tw_177 tw_4 tw_xMin ⟨Nat.le_of_ble_eq_true rfl, Nat.le_of_ble_eq_true rfl⟩, List.forall_mem_cons.mpr ⟨call_copy cx tw_179 tw_181 tw_180 tw_15 ⟨Nat.le_of_ble_eq_true rfl, Nat.le_of_ble_eq_true rfl⟩, fun q hq => absurd hq List.not_mem_nil⟩⟩⟩
theorem sn_Grid_copyFrom (h : MC w true p l e R s m args below meth c Q b_Grid_copyFrom 3 "CoilSlits$Grid" E_Grid_copyFrom 0 0 F none) : Sn (zK w true p l e R s m args below meth c Q 3) F (fun _ => False) (fun _ => False) 0 0 0 d_Grid_copyFrom 0 0 0 := by
  unfold d_Grid_copyFrom
  exact (m_rtv h zz (p1 := 28) (by decide +kernel) (by decide +kernel) (Nat.zero_le _) (Nat.zero_le _))
theorem ct_Grid_copyFrom (w : Wd) (l : Launch) (hw : zWok w) : CT w l y_Grid_copyFrom b_Grid_copyFrom 3 none r_Grid_copyFrom (exb true 3 d_Grid_copyFrom) :=
  ct_plain (by decide +kernel) (fun p e s m args below meth c Q cx hnm => eo_Grid_copyFrom hw cx) (fun p e s m args below meth c Q F h => sn_Grid_copyFrom h)
theorem q_Grid_copyFrom {a : Nat} {fs : List Value} {M : Hp} {nx : Nat} (x0 : Nat) (h : M a = some (cO 1 fs)) : x_Grid_copyFrom [.ref a, .ref x0] (M, nx) = zres (d_Grid_copyFrom ([some (.ref a), some (.ref x0), none], [], (M, nx))) := q_ofV [some (.ref a), some (.ref x0), none] h rfl (Nat.le_of_ble_eq_true rfl) (Or.inr rfl)
theorem lc_Grid_copyFrom_29 : lookI (eC E_Grid_copyFrom) (.invokestatic 29) = some (2, xMin) := rfl
theorem lc_Grid_copyFrom_23 : lookI (eC E_Grid_copyFrom) (.invokestatic 23) = some (5, xCopy) := rfl
theorem lf_Grid_copyFrom_19 : lookN (eF E_Grid_copyFrom) 19 = some (1, 1) := rfl
theorem lb_Grid_copyFrom : eB E_Grid_copyFrom = true := rfl
theorem lt_Grid_copyFrom : eT E_Grid_copyFrom = zST := rfl
-- CoilSlits$Row.copyFrom
def E_Row_copyFrom : Env := (true, [(13, 0, 0)], [(.invokestatic 19, 2, xMin), (.invokestatic 22, 5, xCopy)], [], [], zST, false)
def d_Row_copyFrom : Dn := (rtv E_Row_copyFrom [.aload_n 0, .getfield 13, .arraylength, .aload_n 1, .getfield 13, .arraylength, .invokestatic 19, .istore_n 2, .aload_n 1, .getfield 13, .iconst 0, .aload_n 0, .getfield 13, .iconst 0, .iload_n 2, .invokestatic 22])
def x_Row_copyFrom : Ex := zrv 0 (exb true 3 d_Row_copyFrom)
abbrev r_Row_copyFrom : Room := ({ frames := 1, cells := 0, slots := 0, locals := 60 } : Room)
theorem eo_Row_copyFrom (hw : zWok w) (cx : CX w p s m args c b_Row_copyFrom 3 "CoilSlits$Row") : EnvOk w true p l e r_Row_copyFrom s m args below meth c Q b_Row_copyFrom 3 "CoilSlits$Row" E_Row_copyFrom :=
  ⟨rfl, by decide +kernel, by decide +kernel, by decide +kernel, hw, fun h => absurd h (by decide),
  List.forall_mem_cons.mpr ⟨call_min cx tw_186 tw_177 tw_4 tw_xMin ⟨Nat.le_of_ble_eq_true rfl, Nat.le_of_ble_eq_true rfl⟩, List.forall_mem_cons.mpr ⟨call_copy cx tw_187 tw_181 tw_180 tw_15 ⟨Nat.le_of_ble_eq_true rfl, Nat.le_of_ble_eq_true rfl⟩, fun q hq => absurd hq List.not_mem_nil⟩⟩⟩
theorem sn_Row_copyFrom (h : MC w true p l e R s m args below meth c Q b_Row_copyFrom 3 "CoilSlits$Row" E_Row_copyFrom 0 0 F none) : Sn (zK w true p l e R s m args below meth c Q 3) F (fun _ => False) (fun _ => False) 0 0 0 d_Row_copyFrom 0 0 0 := by
  unfold d_Row_copyFrom
  exact (m_rtv h zz (p1 := 28) (by decide +kernel) (by decide +kernel) (Nat.zero_le _) (Nat.zero_le _))
theorem ct_Row_copyFrom (w : Wd) (l : Launch) (hw : zWok w) : CT w l y_Row_copyFrom b_Row_copyFrom 3 none r_Row_copyFrom (exb true 3 d_Row_copyFrom) :=
  ct_plain (by decide +kernel) (fun p e s m args below meth c Q cx hnm => eo_Row_copyFrom hw cx) (fun p e s m args below meth c Q F h => sn_Row_copyFrom h)
theorem q_Row_copyFrom {a : Nat} {fs : List Value} {M : Hp} {nx : Nat} (x0 : Nat) (h : M a = some (cO 0 fs)) : x_Row_copyFrom [.ref a, .ref x0] (M, nx) = zres (d_Row_copyFrom ([some (.ref a), some (.ref x0), none], [], (M, nx))) := q_ofV [some (.ref a), some (.ref x0), none] h rfl (Nat.le_of_ble_eq_true rfl) (Or.inr rfl)
theorem lc_Row_copyFrom_19 : lookI (eC E_Row_copyFrom) (.invokestatic 19) = some (2, xMin) := rfl
theorem lc_Row_copyFrom_22 : lookI (eC E_Row_copyFrom) (.invokestatic 22) = some (5, xCopy) := rfl
theorem lf_Row_copyFrom_13 : lookN (eF E_Row_copyFrom) 13 = some (0, 0) := rfl
theorem lb_Row_copyFrom : eB E_Row_copyFrom = true := rfl
theorem lt_Row_copyFrom : eT E_Row_copyFrom = zST := rfl
-- CoilSlits$Grid.get
def E_Grid_get : Env := (true, [(13, 1, 0), (19, 1, 1)], [], [], [], zST, false)
def d_Grid_get : Dn := (sq (blk E_Grid_get [.iload_n 1, .aload_n 0, .getfield 13, .imul, .iload_n 2, .iadd, .istore_n 3])
  (sq (ite' (can (cno (cat E_Grid_get [.iload_n 2] (.ifCond .lt 15))) (cno (cat E_Grid_get [.iload_n 2, .aload_n 0, .getfield 13] (.if_icmp .ge 7))))
  (blk E_Grid_get [.iconst 1])
  (blk E_Grid_get [.iconst 0]))
  (sq (blk E_Grid_get [.istore 4])
  (sq (ite' (can (cno (cat E_Grid_get [.iload 4] (.ifCond .eq 25))) (can (cno (cat E_Grid_get [.iload_n 3] (.ifCond .lt 21))) (cno (cat E_Grid_get [.iload_n 3, .aload_n 0, .getfield 19, .arraylength] (.if_icmp .ge 12)))))
  (blk E_Grid_get [.aload_n 0, .getfield 19, .iload_n 3, .iaload])
  (blk E_Grid_get [.iconst 0]))
  (rti E_Grid_get [])))))
def x_Grid_get : Ex := zrv 1 (exb true 5 d_Grid_get)
abbrev r_Grid_get : Room := ({ frames := 0, cells := 0, slots := 0, locals := 0 } : Room)
theorem eo_Grid_get (hw : zWok w) (cx : CX w p s m args c b_Grid_get 5 "CoilSlits$Grid") : EnvOk w true p l e r_Grid_get s m args below meth c Q b_Grid_get 5 "CoilSlits$Grid" E_Grid_get :=
  ⟨rfl, by decide +kernel, by decide +kernel, by decide +kernel, hw, fun h => absurd h (by decide),
  fun q hq => absurd hq List.not_mem_nil⟩
theorem sn_Grid_get (h : MC w true p l e R s m args below meth c Q b_Grid_get 5 "CoilSlits$Grid" E_Grid_get 0 0 F (some .int)) : Sn (zK w true p l e R s m args below meth c Q 5) F (fun _ => False) (fun _ => False) 0 0 0 d_Grid_get 0 0 0 := by
  unfold d_Grid_get
  exact (sn_sq (pm := 9) (m_blk h zz (by decide +kernel))
  (sn_sq (pm := 26) (sn_ite (pt := 21) (pf := 25) (sc_an (pm := 13) (sc_no (m_cat h zz (p1 := 10) (tgt := 25) (by decide +kernel) (by decide +kernel) (by decide))) (sc_no (m_cat h zz (p1 := 18) (tgt := 25) (by decide +kernel) (by decide +kernel) (by decide))))
  (sn_goto (pm := 22) (m_blk h zz (by decide +kernel)) (m_goto h (off := 4) (by decide +kernel) (by decide)))
  (m_blk h zz (by decide +kernel)))
  (sn_sq (pm := 28) (m_blk h zz (by decide +kernel))
  (sn_sq (pm := 56) (sn_ite (pt := 46) (pf := 55) (sc_an (pm := 33) (sc_no (m_cat h zz (p1 := 30) (tgt := 55) (by decide +kernel) (by decide +kernel) (by decide))) (sc_an (pm := 37) (sc_no (m_cat h zz (p1 := 34) (tgt := 55) (by decide +kernel) (by decide +kernel) (by decide))) (sc_no (m_cat h zz (p1 := 43) (tgt := 55) (by decide +kernel) (by decide +kernel) (by decide)))))
  (sn_goto (pm := 52) (m_blk h zz (by decide +kernel)) (m_goto h (off := 4) (by decide +kernel) (by decide)))
  (m_blk h zz (by decide +kernel)))
  (m_rti h zz (p1 := 56) (by decide +kernel) (by decide +kernel) (Nat.zero_le _) (Nat.zero_le _))))))
theorem ct_Grid_get (w : Wd) (l : Launch) (hw : zWok w) : CT w l y_Grid_get b_Grid_get 5 (some .int) r_Grid_get (exb true 5 d_Grid_get) :=
  ct_plain (by decide +kernel) (fun p e s m args below meth c Q cx hnm => eo_Grid_get hw cx) (fun p e s m args below meth c Q F h => sn_Grid_get h)
theorem q_Grid_get {a : Nat} {fs : List Value} {M : Hp} {nx : Nat} (x0 : Int32) (x1 : Int32) (h : M a = some (cO 1 fs)) : x_Grid_get [.ref a, .int x0, .int x1] (M, nx) = zres (d_Grid_get ([some (.ref a), some (.int x0), some (.int x1), none, none], [], (M, nx))) := q_ofV [some (.ref a), some (.int x0), some (.int x1), none, none] h rfl (Nat.le_of_ble_eq_true rfl) (Or.inr rfl)
theorem lf_Grid_get_13 : lookN (eF E_Grid_get) 13 = some (1, 0) := rfl
theorem lf_Grid_get_19 : lookN (eF E_Grid_get) 19 = some (1, 1) := rfl
theorem lb_Grid_get : eB E_Grid_get = true := rfl
theorem lt_Grid_get : eT E_Grid_get = zST := rfl
-- CoilSlits$Row.get
def E_Row_get : Env := (true, [(13, 0, 0)], [], [], [], zST, false)
def d_Row_get : Dn := (sq (ite' (can (cno (cat E_Row_get [.iload_n 1] (.ifCond .lt 21))) (cno (cat E_Row_get [.iload_n 1, .aload_n 0, .getfield 13, .arraylength] (.if_icmp .ge 12))))
  (blk E_Row_get [.aload_n 0, .getfield 13, .iload_n 1, .iaload])
  (blk E_Row_get [.iconst 0]))
  (rti E_Row_get []))
def x_Row_get : Ex := zrv 0 (exb true 2 d_Row_get)
abbrev r_Row_get : Room := ({ frames := 0, cells := 0, slots := 0, locals := 0 } : Room)
theorem eo_Row_get (hw : zWok w) (cx : CX w p s m args c b_Row_get 2 "CoilSlits$Row") : EnvOk w true p l e r_Row_get s m args below meth c Q b_Row_get 2 "CoilSlits$Row" E_Row_get :=
  ⟨rfl, by decide +kernel, by decide +kernel, by decide +kernel, hw, fun h => absurd h (by decide),
  fun q hq => absurd hq List.not_mem_nil⟩
theorem sn_Row_get (h : MC w true p l e R s m args below meth c Q b_Row_get 2 "CoilSlits$Row" E_Row_get 0 0 F (some .int)) : Sn (zK w true p l e R s m args below meth c Q 2) F (fun _ => False) (fun _ => False) 0 0 0 d_Row_get 0 0 0 := by
  unfold d_Row_get
  exact (sn_sq (pm := 23) (sn_ite (pt := 13) (pf := 22) (sc_an (pm := 4) (sc_no (m_cat h zz (p1 := 1) (tgt := 22) (by decide +kernel) (by decide +kernel) (by decide))) (sc_no (m_cat h zz (p1 := 10) (tgt := 22) (by decide +kernel) (by decide +kernel) (by decide))))
  (sn_goto (pm := 19) (m_blk h zz (by decide +kernel)) (m_goto h (off := 4) (by decide +kernel) (by decide)))
  (m_blk h zz (by decide +kernel)))
  (m_rti h zz (p1 := 23) (by decide +kernel) (by decide +kernel) (Nat.zero_le _) (Nat.zero_le _)))
theorem ct_Row_get (w : Wd) (l : Launch) (hw : zWok w) : CT w l y_Row_get b_Row_get 2 (some .int) r_Row_get (exb true 2 d_Row_get) :=
  ct_plain (by decide +kernel) (fun p e s m args below meth c Q cx hnm => eo_Row_get hw cx) (fun p e s m args below meth c Q F h => sn_Row_get h)
theorem q_Row_get {a : Nat} {fs : List Value} {M : Hp} {nx : Nat} (x0 : Int32) (h : M a = some (cO 0 fs)) : x_Row_get [.ref a, .int x0] (M, nx) = zres (d_Row_get ([some (.ref a), some (.int x0)], [], (M, nx))) := q_ofV [some (.ref a), some (.int x0)] h rfl (Nat.le_of_ble_eq_true rfl) (Or.inr rfl)
theorem lf_Row_get_13 : lookN (eF E_Row_get) 13 = some (0, 0) := rfl
theorem lb_Row_get : eB E_Row_get = true := rfl
theorem lt_Row_get : eT E_Row_get = zST := rfl
-- CoilSlits$Grid.copyRow
def E_Grid_copyRow : Env := (true, [(13, 1, 0), (19, 1, 1)], [(.invokestatic 23, 5, xCopy)], [], [], zST, false)
def d_Grid_copyRow : Dn := (sq (blk E_Grid_copyRow [.iload_n 1, .aload_n 0, .getfield 13, .imul, .istore_n 3, .iload_n 2, .aload_n 0, .getfield 13, .imul, .istore 4, .aload_n 0, .getfield 19, .arraylength, .aload_n 0, .getfield 13, .isub, .istore 5])
  (sq (ite' (can (cno (cat E_Grid_copyRow [.iload_n 3] (.ifCond .lt 39))) (can (cno (cat E_Grid_copyRow [.iload_n 3, .iload 5] (.if_icmp .gt 33))) (can (cno (cat E_Grid_copyRow [.iload 4] (.ifCond .lt 28))) (cno (cat E_Grid_copyRow [.iload 4, .iload 5] (.if_icmp .gt 21))))))
  (blk E_Grid_copyRow [.aload_n 0, .getfield 19, .iload_n 3, .aload_n 0, .getfield 19, .iload 4, .aload_n 0, .getfield 13, .invokestatic 23])
  (blk E_Grid_copyRow []))
  (rtv E_Grid_copyRow [])))
def x_Grid_copyRow : Ex := zrv 1 (exb true 6 d_Grid_copyRow)
abbrev r_Grid_copyRow : Room := ({ frames := 1, cells := 0, slots := 0, locals := 60 } : Room)
theorem eo_Grid_copyRow (hw : zWok w) (cx : CX w p s m args c b_Grid_copyRow 6 "CoilSlits$Grid") : EnvOk w true p l e r_Grid_copyRow s m args below meth c Q b_Grid_copyRow 6 "CoilSlits$Grid" E_Grid_copyRow :=
  ⟨rfl, by decide +kernel, by decide +kernel, by decide +kernel, hw, fun h => absurd h (by decide),
  List.forall_mem_cons.mpr ⟨call_copy cx tw_179 tw_181 tw_180 tw_15 ⟨Nat.le_of_ble_eq_true rfl, Nat.le_of_ble_eq_true rfl⟩, fun q hq => absurd hq List.not_mem_nil⟩⟩
theorem sn_Grid_copyRow (h : MC w true p l e R s m args below meth c Q b_Grid_copyRow 6 "CoilSlits$Grid" E_Grid_copyRow 0 0 F none) : Sn (zK w true p l e R s m args below meth c Q 6) F (fun _ => False) (fun _ => False) 0 0 0 d_Grid_copyRow 0 0 0 := by
  unfold d_Grid_copyRow
  exact (sn_sq (pm := 27) (m_blk h zz (by decide +kernel))
  (sn_sq (pm := 67) (sn_ite (pt := 49) (pf := 67) (sc_an (pm := 31) (sc_no (m_cat h zz (p1 := 28) (tgt := 67) (by decide +kernel) (by decide +kernel) (by decide))) (sc_an (pm := 37) (sc_no (m_cat h zz (p1 := 34) (tgt := 67) (by decide +kernel) (by decide +kernel) (by decide))) (sc_an (pm := 42) (sc_no (m_cat h zz (p1 := 39) (tgt := 67) (by decide +kernel) (by decide +kernel) (by decide))) (sc_no (m_cat h zz (p1 := 46) (tgt := 67) (by decide +kernel) (by decide +kernel) (by decide))))))
  (m_blk h zz (by decide +kernel))
  (m_blk h zz rfl))
  (m_rtv h zz (p1 := 67) (by decide +kernel) (by decide +kernel) (Nat.zero_le _) (Nat.zero_le _))))
theorem ct_Grid_copyRow (w : Wd) (l : Launch) (hw : zWok w) : CT w l y_Grid_copyRow b_Grid_copyRow 6 none r_Grid_copyRow (exb true 6 d_Grid_copyRow) :=
  ct_plain (by decide +kernel) (fun p e s m args below meth c Q cx hnm => eo_Grid_copyRow hw cx) (fun p e s m args below meth c Q F h => sn_Grid_copyRow h)
theorem q_Grid_copyRow {a : Nat} {fs : List Value} {M : Hp} {nx : Nat} (x0 : Int32) (x1 : Int32) (h : M a = some (cO 1 fs)) : x_Grid_copyRow [.ref a, .int x0, .int x1] (M, nx) = zres (d_Grid_copyRow ([some (.ref a), some (.int x0), some (.int x1), none, none, none], [], (M, nx))) := q_ofV [some (.ref a), some (.int x0), some (.int x1), none, none, none] h rfl (Nat.le_of_ble_eq_true rfl) (Or.inr rfl)
theorem lc_Grid_copyRow_23 : lookI (eC E_Grid_copyRow) (.invokestatic 23) = some (5, xCopy) := rfl
theorem lf_Grid_copyRow_13 : lookN (eF E_Grid_copyRow) 13 = some (1, 0) := rfl
theorem lf_Grid_copyRow_19 : lookN (eF E_Grid_copyRow) 19 = some (1, 1) := rfl
theorem lb_Grid_copyRow : eB E_Grid_copyRow = true := rfl
theorem lt_Grid_copyRow : eT E_Grid_copyRow = zST := rfl
-- CoilSlits$Grid.put
def E_Grid_put : Env := (true, [(13, 1, 0), (19, 1, 1)], [], [], [], zST, false)
def d_Grid_put : Dn := (sq (blk E_Grid_put [.iload_n 1, .aload_n 0, .getfield 13, .imul, .iload_n 2, .iadd, .istore 4])
  (sq (ite' (can (cno (cat E_Grid_put [.iload_n 2] (.ifCond .lt 15))) (cno (cat E_Grid_put [.iload_n 2, .aload_n 0, .getfield 13] (.if_icmp .ge 7))))
  (blk E_Grid_put [.iconst 1])
  (blk E_Grid_put [.iconst 0]))
  (sq (blk E_Grid_put [.istore 5])
  (sq (ite' (can (cno (cat E_Grid_put [.iload 5] (.ifCond .eq 26))) (can (cno (cat E_Grid_put [.iload 4] (.ifCond .lt 21))) (cno (cat E_Grid_put [.iload 4, .aload_n 0, .getfield 19, .arraylength] (.if_icmp .ge 11)))))
  (blk E_Grid_put [.aload_n 0, .getfield 19, .iload 4, .iload_n 3, .iastore])
  (blk E_Grid_put []))
  (rtv E_Grid_put [])))))
def x_Grid_put : Ex := zrv 1 (exb true 6 d_Grid_put)
abbrev r_Grid_put : Room := ({ frames := 0, cells := 0, slots := 0, locals := 0 } : Room)
theorem eo_Grid_put (hw : zWok w) (cx : CX w p s m args c b_Grid_put 6 "CoilSlits$Grid") : EnvOk w true p l e r_Grid_put s m args below meth c Q b_Grid_put 6 "CoilSlits$Grid" E_Grid_put :=
  ⟨rfl, by decide +kernel, by decide +kernel, by decide +kernel, hw, fun h => absurd h (by decide),
  fun q hq => absurd hq List.not_mem_nil⟩
theorem sn_Grid_put (h : MC w true p l e R s m args below meth c Q b_Grid_put 6 "CoilSlits$Grid" E_Grid_put 0 0 F none) : Sn (zK w true p l e R s m args below meth c Q 6) F (fun _ => False) (fun _ => False) 0 0 0 d_Grid_put 0 0 0 := by
  unfold d_Grid_put
  exact (sn_sq (pm := 10) (m_blk h zz (by decide +kernel))
  (sn_sq (pm := 27) (sn_ite (pt := 22) (pf := 26) (sc_an (pm := 14) (sc_no (m_cat h zz (p1 := 11) (tgt := 26) (by decide +kernel) (by decide +kernel) (by decide))) (sc_no (m_cat h zz (p1 := 19) (tgt := 26) (by decide +kernel) (by decide +kernel) (by decide))))
  (sn_goto (pm := 23) (m_blk h zz (by decide +kernel)) (m_goto h (off := 4) (by decide +kernel) (by decide)))
  (m_blk h zz (by decide +kernel)))
  (sn_sq (pm := 29) (m_blk h zz (by decide +kernel))
  (sn_sq (pm := 57) (sn_ite (pt := 49) (pf := 57) (sc_an (pm := 34) (sc_no (m_cat h zz (p1 := 31) (tgt := 57) (by decide +kernel) (by decide +kernel) (by decide))) (sc_an (pm := 39) (sc_no (m_cat h zz (p1 := 36) (tgt := 57) (by decide +kernel) (by decide +kernel) (by decide))) (sc_no (m_cat h zz (p1 := 46) (tgt := 57) (by decide +kernel) (by decide +kernel) (by decide)))))
  (m_blk h zz (by decide +kernel))
  (m_blk h zz rfl))
  (m_rtv h zz (p1 := 57) (by decide +kernel) (by decide +kernel) (Nat.zero_le _) (Nat.zero_le _))))))
theorem ct_Grid_put (w : Wd) (l : Launch) (hw : zWok w) : CT w l y_Grid_put b_Grid_put 6 none r_Grid_put (exb true 6 d_Grid_put) :=
  ct_plain (by decide +kernel) (fun p e s m args below meth c Q cx hnm => eo_Grid_put hw cx) (fun p e s m args below meth c Q F h => sn_Grid_put h)
theorem q_Grid_put {a : Nat} {fs : List Value} {M : Hp} {nx : Nat} (x0 : Int32) (x1 : Int32) (x2 : Int32) (h : M a = some (cO 1 fs)) : x_Grid_put [.ref a, .int x0, .int x1, .int x2] (M, nx) = zres (d_Grid_put ([some (.ref a), some (.int x0), some (.int x1), some (.int x2), none, none], [], (M, nx))) := q_ofV [some (.ref a), some (.int x0), some (.int x1), some (.int x2), none, none] h rfl (Nat.le_of_ble_eq_true rfl) (Or.inr rfl)
theorem lf_Grid_put_13 : lookN (eF E_Grid_put) 13 = some (1, 0) := rfl
theorem lf_Grid_put_19 : lookN (eF E_Grid_put) 19 = some (1, 1) := rfl
theorem lb_Grid_put : eB E_Grid_put = true := rfl
theorem lt_Grid_put : eT E_Grid_put = zST := rfl
-- CoilSlits$Row.add
def E_Row_add : Env := (true, [(13, 0, 0)], [], [], [], zST, false)
def d_Row_add : Dn := (sq (ite' (can (cno (cat E_Row_add [.iload_n 1] (.ifCond .lt 22))) (cno (cat E_Row_add [.iload_n 1, .aload_n 0, .getfield 13, .arraylength] (.if_icmp .ge 13))))
  (blk E_Row_add [.aload_n 0, .getfield 13, .iload_n 1, .dup2, .iaload, .iload_n 2, .iadd, .iastore])
  (blk E_Row_add []))
  (rtv E_Row_add []))
def x_Row_add : Ex := zrv 0 (exb true 3 d_Row_add)
abbrev r_Row_add : Room := ({ frames := 0, cells := 0, slots := 0, locals := 0 } : Room)
theorem eo_Row_add (hw : zWok w) (cx : CX w p s m args c b_Row_add 3 "CoilSlits$Row") : EnvOk w true p l e r_Row_add s m args below meth c Q b_Row_add 3 "CoilSlits$Row" E_Row_add :=
  ⟨rfl, by decide +kernel, by decide +kernel, by decide +kernel, hw, fun h => absurd h (by decide),
  fun q hq => absurd hq List.not_mem_nil⟩
theorem sn_Row_add (h : MC w true p l e R s m args below meth c Q b_Row_add 3 "CoilSlits$Row" E_Row_add 0 0 F none) : Sn (zK w true p l e R s m args below meth c Q 3) F (fun _ => False) (fun _ => False) 0 0 0 d_Row_add 0 0 0 := by
  unfold d_Row_add
  exact (sn_sq (pm := 23) (sn_ite (pt := 13) (pf := 23) (sc_an (pm := 4) (sc_no (m_cat h zz (p1 := 1) (tgt := 23) (by decide +kernel) (by decide +kernel) (by decide))) (sc_no (m_cat h zz (p1 := 10) (tgt := 23) (by decide +kernel) (by decide +kernel) (by decide))))
  (m_blk h zz (by decide +kernel))
  (m_blk h zz rfl))
  (m_rtv h zz (p1 := 23) (by decide +kernel) (by decide +kernel) (Nat.zero_le _) (Nat.zero_le _)))
theorem ct_Row_add (w : Wd) (l : Launch) (hw : zWok w) : CT w l y_Row_add b_Row_add 3 none r_Row_add (exb true 3 d_Row_add) :=
  ct_plain (by decide +kernel) (fun p e s m args below meth c Q cx hnm => eo_Row_add hw cx) (fun p e s m args below meth c Q F h => sn_Row_add h)
theorem q_Row_add {a : Nat} {fs : List Value} {M : Hp} {nx : Nat} (x0 : Int32) (x1 : Int32) (h : M a = some (cO 0 fs)) : x_Row_add [.ref a, .int x0, .int x1] (M, nx) = zres (d_Row_add ([some (.ref a), some (.int x0), some (.int x1)], [], (M, nx))) := q_ofV [some (.ref a), some (.int x0), some (.int x1)] h rfl (Nat.le_of_ble_eq_true rfl) (Or.inr rfl)
theorem lf_Row_add_13 : lookN (eF E_Row_add) 13 = some (0, 0) := rfl
theorem lb_Row_add : eB E_Row_add = true := rfl
theorem lt_Row_add : eT E_Row_add = zST := rfl
-- CoilSlits$Row.put
def E_Row_put : Env := (true, [(13, 0, 0)], [], [], [], zST, false)
def d_Row_put : Dn := (sq (ite' (can (cno (cat E_Row_put [.iload_n 1] (.ifCond .lt 19))) (cno (cat E_Row_put [.iload_n 1, .aload_n 0, .getfield 13, .arraylength] (.if_icmp .ge 10))))
  (blk E_Row_put [.aload_n 0, .getfield 13, .iload_n 1, .iload_n 2, .iastore])
  (blk E_Row_put []))
  (rtv E_Row_put []))
def x_Row_put : Ex := zrv 0 (exb true 3 d_Row_put)
abbrev r_Row_put : Room := ({ frames := 0, cells := 0, slots := 0, locals := 0 } : Room)
theorem eo_Row_put (hw : zWok w) (cx : CX w p s m args c b_Row_put 3 "CoilSlits$Row") : EnvOk w true p l e r_Row_put s m args below meth c Q b_Row_put 3 "CoilSlits$Row" E_Row_put :=
  ⟨rfl, by decide +kernel, by decide +kernel, by decide +kernel, hw, fun h => absurd h (by decide),
  fun q hq => absurd hq List.not_mem_nil⟩
theorem sn_Row_put (h : MC w true p l e R s m args below meth c Q b_Row_put 3 "CoilSlits$Row" E_Row_put 0 0 F none) : Sn (zK w true p l e R s m args below meth c Q 3) F (fun _ => False) (fun _ => False) 0 0 0 d_Row_put 0 0 0 := by
  unfold d_Row_put
  exact (sn_sq (pm := 20) (sn_ite (pt := 13) (pf := 20) (sc_an (pm := 4) (sc_no (m_cat h zz (p1 := 1) (tgt := 20) (by decide +kernel) (by decide +kernel) (by decide))) (sc_no (m_cat h zz (p1 := 10) (tgt := 20) (by decide +kernel) (by decide +kernel) (by decide))))
  (m_blk h zz (by decide +kernel))
  (m_blk h zz rfl))
  (m_rtv h zz (p1 := 20) (by decide +kernel) (by decide +kernel) (Nat.zero_le _) (Nat.zero_le _)))
theorem ct_Row_put (w : Wd) (l : Launch) (hw : zWok w) : CT w l y_Row_put b_Row_put 3 none r_Row_put (exb true 3 d_Row_put) :=
  ct_plain (by decide +kernel) (fun p e s m args below meth c Q cx hnm => eo_Row_put hw cx) (fun p e s m args below meth c Q F h => sn_Row_put h)
theorem q_Row_put {a : Nat} {fs : List Value} {M : Hp} {nx : Nat} (x0 : Int32) (x1 : Int32) (h : M a = some (cO 0 fs)) : x_Row_put [.ref a, .int x0, .int x1] (M, nx) = zres (d_Row_put ([some (.ref a), some (.int x0), some (.int x1)], [], (M, nx))) := q_ofV [some (.ref a), some (.int x0), some (.int x1)] h rfl (Nat.le_of_ble_eq_true rfl) (Or.inr rfl)
theorem lf_Row_put_13 : lookN (eF E_Row_put) 13 = some (0, 0) := rfl
theorem lb_Row_put : eB E_Row_put = true := rfl
theorem lt_Row_put : eT E_Row_put = zST := rfl
-- CoilSlits.stackOf
def E_Slit_stackOf : Env := (true, [], [], [], [], zST, false)
def d_Slit_stackOf : Dn := (rti E_Slit_stackOf [.iload_n 0, .iconst 5, .idiv])
def x_Slit_stackOf : Ex := exb true 1 d_Slit_stackOf
abbrev r_Slit_stackOf : Room := ({ frames := 0, cells := 0, slots := 0, locals := 0 } : Room)
theorem eo_Slit_stackOf (hw : zWok w) (cx : CX w p s m args c b_Slit_stackOf 1 "CoilSlits") : EnvOk w true p l e r_Slit_stackOf s m args below meth c Q b_Slit_stackOf 1 "CoilSlits" E_Slit_stackOf :=
  ⟨rfl, by decide +kernel, by decide +kernel, by decide +kernel, hw, fun h => absurd h (by decide),
  fun q hq => absurd hq List.not_mem_nil⟩
theorem sn_Slit_stackOf (h : MC w true p l e R s m args below meth c Q b_Slit_stackOf 1 "CoilSlits" E_Slit_stackOf 0 0 F (some .int)) : Sn (zK w true p l e R s m args below meth c Q 1) F (fun _ => False) (fun _ => False) 0 0 0 d_Slit_stackOf 0 0 0 := by
  unfold d_Slit_stackOf
  exact (m_rti h zz (p1 := 3) (by decide +kernel) (by decide +kernel) (Nat.zero_le _) (Nat.zero_le _))
theorem ct_Slit_stackOf (w : Wd) (l : Launch) (hw : zWok w) : CT w l y_Slit_stackOf b_Slit_stackOf 1 (some .int) r_Slit_stackOf (exb true 1 d_Slit_stackOf) :=
  ct_plain (by decide +kernel) (fun p e s m args below meth c Q cx hnm => eo_Slit_stackOf hw cx) (fun p e s m args below meth c Q F h => sn_Slit_stackOf h)
theorem q_Slit_stackOf (x0 : Int32) (g : G) : x_Slit_stackOf [.int x0] g = zres (d_Slit_stackOf ([some (.int x0)], [], g)) := q_of [some (.int x0)] rfl (Nat.le_of_ble_eq_true rfl) (Or.inr rfl)
theorem lb_Slit_stackOf : eB E_Slit_stackOf = true := rfl
-- CoilSlits.within
def E_Slit_within : Env := (true, [], [], [], [], zST, false)
def d_Slit_within : Dn := (sq (ite' (can (cno (cat E_Slit_within [.iload_n 0, .iload_n 1] (.if_icmp .lt 12))) (cno (cat E_Slit_within [.iload_n 0, .iload_n 2] (.if_icmp .gt 7))))
  (blk E_Slit_within [.iconst 1])
  (blk E_Slit_within [.iconst 0]))
  (rtz E_Slit_within []))
def x_Slit_within : Ex := exb true 3 d_Slit_within
abbrev r_Slit_within : Room := ({ frames := 0, cells := 0, slots := 0, locals := 0 } : Room)
theorem eo_Slit_within (hw : zWok w) (cx : CX w p s m args c b_Slit_within 3 "CoilSlits") : EnvOk w true p l e r_Slit_within s m args below meth c Q b_Slit_within 3 "CoilSlits" E_Slit_within :=
  ⟨rfl, by decide +kernel, by decide +kernel, by decide +kernel, hw, fun h => absurd h (by decide),
  fun q hq => absurd hq List.not_mem_nil⟩
theorem sn_Slit_within (h : MC w true p l e R s m args below meth c Q b_Slit_within 3 "CoilSlits" E_Slit_within 0 0 F (some .boolean)) : Sn (zK w true p l e R s m args below meth c Q 3) F (fun _ => False) (fun _ => False) 0 0 0 d_Slit_within 0 0 0 := by
  unfold d_Slit_within
  exact (sn_sq (pm := 15) (sn_ite (pt := 10) (pf := 14) (sc_an (pm := 5) (sc_no (m_cat h zz (p1 := 2) (tgt := 14) (by decide +kernel) (by decide +kernel) (by decide))) (sc_no (m_cat h zz (p1 := 7) (tgt := 14) (by decide +kernel) (by decide +kernel) (by decide))))
  (sn_goto (pm := 11) (m_blk h zz (by decide +kernel)) (m_goto h (off := 4) (by decide +kernel) (by decide)))
  (m_blk h zz (by decide +kernel)))
  (m_rtz h zz (p1 := 15) (by decide +kernel) (by decide +kernel) (Nat.zero_le _) (Nat.zero_le _)))
theorem ct_Slit_within (w : Wd) (l : Launch) (hw : zWok w) : CT w l y_Slit_within b_Slit_within 3 (some .boolean) r_Slit_within (exb true 3 d_Slit_within) :=
  ct_plain (by decide +kernel) (fun p e s m args below meth c Q cx hnm => eo_Slit_within hw cx) (fun p e s m args below meth c Q F h => sn_Slit_within h)
theorem q_Slit_within (x0 : Int32) (x1 : Int32) (x2 : Int32) (g : G) : x_Slit_within [.int x0, .int x1, .int x2] g = zres (d_Slit_within ([some (.int x0), some (.int x1), some (.int x2)], [], g)) := q_of [some (.int x0), some (.int x1), some (.int x2)] rfl (Nat.le_of_ble_eq_true rfl) (Or.inr rfl)
theorem lb_Slit_within : eB E_Slit_within = true := rfl
-- CoilSlits.isStack
def E_Slit_isStack : Env := (true, [], [(.invokestatic 53, 3, x_Slit_within)], [], [], zST, false)
def d_Slit_isStack : Dn := (rtz E_Slit_isStack [.iload_n 0, .iconst 0, .iconst 5, .invokestatic 53])
def x_Slit_isStack : Ex := exb true 1 d_Slit_isStack
abbrev r_Slit_isStack : Room := ({ frames := 1, cells := 0, slots := 0, locals := 22 } : Room)
theorem eo_Slit_isStack (hw : zWok w) (cx : CX w p s m args c b_Slit_isStack 1 "CoilSlits") : EnvOk w true p l e r_Slit_isStack s m args below meth c Q b_Slit_isStack 1 "CoilSlits" E_Slit_isStack :=
  ⟨rfl, by decide +kernel, by decide +kernel, by decide +kernel, hw, fun h => absurd h (by decide),
  List.forall_mem_cons.mpr ⟨call_S cx (ct_Slit_within w l hw) tw_319 tw_331 tw_1 tw_318 (by decide +kernel) ⟨Nat.le_of_ble_eq_true rfl, Nat.le_of_ble_eq_true rfl⟩, fun q hq => absurd hq List.not_mem_nil⟩⟩
theorem sn_Slit_isStack (h : MC w true p l e R s m args below meth c Q b_Slit_isStack 1 "CoilSlits" E_Slit_isStack 0 0 F (some .boolean)) : Sn (zK w true p l e R s m args below meth c Q 1) F (fun _ => False) (fun _ => False) 0 0 0 d_Slit_isStack 0 0 0 := by
  unfold d_Slit_isStack
  exact (m_rtz h zz (p1 := 6) (by decide +kernel) (by decide +kernel) (Nat.zero_le _) (Nat.zero_le _))
theorem ct_Slit_isStack (w : Wd) (l : Launch) (hw : zWok w) : CT w l y_Slit_isStack b_Slit_isStack 1 (some .boolean) r_Slit_isStack (exb true 1 d_Slit_isStack) :=
  ct_plain (by decide +kernel) (fun p e s m args below meth c Q cx hnm => eo_Slit_isStack hw cx) (fun p e s m args below meth c Q F h => sn_Slit_isStack h)
theorem q_Slit_isStack (x0 : Int32) (g : G) : x_Slit_isStack [.int x0] g = zres (d_Slit_isStack ([some (.int x0)], [], g)) := q_of [some (.int x0)] rfl (Nat.le_of_ble_eq_true rfl) (Or.inr rfl)
theorem lc_Slit_isStack_53 : lookI (eC E_Slit_isStack) (.invokestatic 53) = some (3, x_Slit_within) := rfl
theorem lb_Slit_isStack : eB E_Slit_isStack = true := rfl
end
