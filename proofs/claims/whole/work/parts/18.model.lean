section
variable {w : Wd} {p : Program} {l : Launch} {e : Jvm.Env} {s : State} {m : MethodId} {args : Array Value} {below : List Frame} {meth : Method} {c : Code} {Q : State → Prop} {F : Out → G → Prop} {R : Room}
-- CoilSlitsModel.thrown
def E_Mod_thrown : Env := (true, [(25, 6, 6)], [], [], [], zST, false)
def d_Mod_thrown : Dn := (rti E_Mod_thrown [.aload_n 0, .getfield 25])
def x_Mod_thrown : Ex := zrv 6 (exb true 1 d_Mod_thrown)
abbrev r_Mod_thrown : Room := ({ frames := 0, cells := 0, slots := 0, locals := 0 } : Room)
theorem eo_Mod_thrown (hw : zWok w) (cx : CX w p s m args c b_Mod_thrown 1 "CoilSlitsModel") : EnvOk w true p l e r_Mod_thrown s m args below meth c Q b_Mod_thrown 1 "CoilSlitsModel" E_Mod_thrown :=
  ⟨rfl, by decide +kernel, by decide +kernel, by decide +kernel, hw, fun h => absurd h (by decide),
  fun q hq => absurd hq List.not_mem_nil⟩
theorem sn_Mod_thrown (h : MC w true p l e R s m args below meth c Q b_Mod_thrown 1 "CoilSlitsModel" E_Mod_thrown 0 0 F (some .int)) : Sn (zK w true p l e R s m args below meth c Q 1) F (fun _ => False) (fun _ => False) 0 0 0 d_Mod_thrown 0 0 0 := by
  unfold d_Mod_thrown
  exact (m_rti h zz (p1 := 4) (by decide +kernel) (by decide +kernel) (Nat.zero_le _) (Nat.zero_le _))
theorem ct_Mod_thrown (w : Wd) (l : Launch) (hw : zWok w) : CT w l y_Mod_thrown b_Mod_thrown 1 (some .int) r_Mod_thrown (exb true 1 d_Mod_thrown) :=
  ct_plain (by decide +kernel) (fun p e s m args below meth c Q cx hnm => eo_Mod_thrown hw cx) (fun p e s m args below meth c Q F h => sn_Mod_thrown h)
theorem q_Mod_thrown {a : Nat} {fs : List Value} {M : Hp} {nx : Nat}  (h : M a = some (cO 6 fs)) : x_Mod_thrown [.ref a] (M, nx) = zres (d_Mod_thrown ([some (.ref a)], [], (M, nx))) := q_ofV [some (.ref a)] h rfl (Nat.le_of_ble_eq_true rfl) (Or.inr rfl)
theorem lf_Mod_thrown_25 : lookN (eF E_Mod_thrown) 25 = some (6, 6) := rfl
theorem lb_Mod_thrown : eB E_Mod_thrown = true := rfl
-- CoilSlitsModel.fails
def E_Mod_fails : Env := (true, [(25, 6, 6)], [], [], [], zST, false)
def d_Mod_fails : Dn := (rti E_Mod_fails [.aload_n 0, .iload_n 1, .putfield 25, .iconst 0])
def x_Mod_fails : Ex := zrv 6 (exb true 2 d_Mod_fails)
abbrev r_Mod_fails : Room := ({ frames := 0, cells := 0, slots := 0, locals := 0 } : Room)
theorem eo_Mod_fails (hw : zWok w) (cx : CX w p s m args c b_Mod_fails 2 "CoilSlitsModel") : EnvOk w true p l e r_Mod_fails s m args below meth c Q b_Mod_fails 2 "CoilSlitsModel" E_Mod_fails :=
  ⟨rfl, by decide +kernel, by decide +kernel, by decide +kernel, hw, fun h => absurd h (by decide),
  fun q hq => absurd hq List.not_mem_nil⟩
theorem sn_Mod_fails (h : MC w true p l e R s m args below meth c Q b_Mod_fails 2 "CoilSlitsModel" E_Mod_fails 0 0 F (some .int)) : Sn (zK w true p l e R s m args below meth c Q 2) F (fun _ => False) (fun _ => False) 0 0 0 d_Mod_fails 0 0 0 := by
  unfold d_Mod_fails
  exact (m_rti h zz (p1 := 6) (by decide +kernel) (by decide +kernel) (Nat.zero_le _) (Nat.zero_le _))
theorem ct_Mod_fails (w : Wd) (l : Launch) (hw : zWok w) : CT w l y_Mod_fails b_Mod_fails 2 (some .int) r_Mod_fails (exb true 2 d_Mod_fails) :=
  ct_plain (by decide +kernel) (fun p e s m args below meth c Q cx hnm => eo_Mod_fails hw cx) (fun p e s m args below meth c Q F h => sn_Mod_fails h)
theorem q_Mod_fails {a : Nat} {fs : List Value} {M : Hp} {nx : Nat} (x0 : Int32) (h : M a = some (cO 6 fs)) : x_Mod_fails [.ref a, .int x0] (M, nx) = zres (d_Mod_fails ([some (.ref a), some (.int x0)], [], (M, nx))) := q_ofV [some (.ref a), some (.int x0)] h rfl (Nat.le_of_ble_eq_true rfl) (Or.inr rfl)
theorem lf_Mod_fails_25 : lookN (eF E_Mod_fails) 25 = some (6, 6) := rfl
theorem lb_Mod_fails : eB E_Mod_fails = true := rfl
-- CoilSlitsModel.in
def E_Mod_in : Env := (true, [], [], [], [], zST, false)
def d_Mod_in : Dn := (sq (ite' (can (cno (cat E_Mod_in [.iload_n 0, .iload_n 1] (.if_icmp .lt 12))) (cno (cat E_Mod_in [.iload_n 0, .iload_n 2] (.if_icmp .gt 7))))
  (blk E_Mod_in [.iconst 1])
  (blk E_Mod_in [.iconst 0]))
  (rtz E_Mod_in []))
def x_Mod_in : Ex := exb true 3 d_Mod_in
abbrev r_Mod_in : Room := ({ frames := 0, cells := 0, slots := 0, locals := 0 } : Room)
theorem eo_Mod_in (hw : zWok w) (cx : CX w p s m args c b_Mod_in 3 "CoilSlitsModel") : EnvOk w true p l e r_Mod_in s m args below meth c Q b_Mod_in 3 "CoilSlitsModel" E_Mod_in :=
  ⟨rfl, by decide +kernel, by decide +kernel, by decide +kernel, hw, fun h => absurd h (by decide),
  fun q hq => absurd hq List.not_mem_nil⟩
theorem sn_Mod_in (h : MC w true p l e R s m args below meth c Q b_Mod_in 3 "CoilSlitsModel" E_Mod_in 0 0 F (some .boolean)) : Sn (zK w true p l e R s m args below meth c Q 3) F (fun _ => False) (fun _ => False) 0 0 0 d_Mod_in 0 0 0 := by
  unfold d_Mod_in
  exact (sn_sq (pm := 15) (sn_ite (pt := 10) (pf := 14) (sc_an (pm := 5) (sc_no (m_cat h zz (p1 := 2) (tgt := 14) (by decide +kernel) (by decide +kernel) (by decide))) (sc_no (m_cat h zz (p1 := 7) (tgt := 14) (by decide +kernel) (by decide +kernel) (by decide))))
  (sn_goto (pm := 11) (m_blk h zz (by decide +kernel)) (m_goto h (off := 4) (by decide +kernel) (by decide)))
  (m_blk h zz (by decide +kernel)))
  (m_rtz h zz (p1 := 15) (by decide +kernel) (by decide +kernel) (Nat.zero_le _) (Nat.zero_le _)))
theorem ct_Mod_in (w : Wd) (l : Launch) (hw : zWok w) : CT w l y_Mod_in b_Mod_in 3 (some .boolean) r_Mod_in (exb true 3 d_Mod_in) :=
  ct_plain (by decide +kernel) (fun p e s m args below meth c Q cx hnm => eo_Mod_in hw cx) (fun p e s m args below meth c Q F h => sn_Mod_in h)
theorem q_Mod_in (x0 : Int32) (x1 : Int32) (x2 : Int32) (g : G) : x_Mod_in [.int x0, .int x1, .int x2] g = zres (d_Mod_in ([some (.int x0), some (.int x1), some (.int x2)], [], g)) := q_of [some (.int x0), some (.int x1), some (.int x2)] rfl (Nat.le_of_ble_eq_true rfl) (Or.inr rfl)
theorem lb_Mod_in : eB E_Mod_in = true := rfl
-- CoilSlitsModel.isStack
def E_Mod_isStack : Env := (true, [], [(.invokestatic 29, 3, x_Mod_in)], [], [], zST, false)
def d_Mod_isStack : Dn := (rtz E_Mod_isStack [.iload_n 0, .iconst 0, .iconst 5, .invokestatic 29])
def x_Mod_isStack : Ex := exb true 1 d_Mod_isStack
abbrev r_Mod_isStack : Room := ({ frames := 1, cells := 0, slots := 0, locals := 22 } : Room)
theorem eo_Mod_isStack (hw : zWok w) (cx : CX w p s m args c b_Mod_isStack 1 "CoilSlitsModel") : EnvOk w true p l e r_Mod_isStack s m args below meth c Q b_Mod_isStack 1 "CoilSlitsModel" E_Mod_isStack :=
  ⟨rfl, by decide +kernel, by decide +kernel, by decide +kernel, hw, fun h => absurd h (by decide),
  List.forall_mem_cons.mpr ⟨call_S cx (ct_Mod_in w l hw) tw_875 tw_873 tw_8 tw_874 (by decide +kernel) ⟨Nat.le_of_ble_eq_true rfl, Nat.le_of_ble_eq_true rfl⟩, fun q hq => absurd hq List.not_mem_nil⟩⟩
theorem sn_Mod_isStack (h : MC w true p l e R s m args below meth c Q b_Mod_isStack 1 "CoilSlitsModel" E_Mod_isStack 0 0 F (some .boolean)) : Sn (zK w true p l e R s m args below meth c Q 1) F (fun _ => False) (fun _ => False) 0 0 0 d_Mod_isStack 0 0 0 := by
  unfold d_Mod_isStack
  exact (m_rtz h zz (p1 := 6) (by decide +kernel) (by decide +kernel) (Nat.zero_le _) (Nat.zero_le _))
theorem ct_Mod_isStack (w : Wd) (l : Launch) (hw : zWok w) : CT w l y_Mod_isStack b_Mod_isStack 1 (some .boolean) r_Mod_isStack (exb true 1 d_Mod_isStack) :=
  ct_plain (by decide +kernel) (fun p e s m args below meth c Q cx hnm => eo_Mod_isStack hw cx) (fun p e s m args below meth c Q F h => sn_Mod_isStack h)
theorem q_Mod_isStack (x0 : Int32) (g : G) : x_Mod_isStack [.int x0] g = zres (d_Mod_isStack ([some (.int x0)], [], g)) := q_of [some (.int x0)] rfl (Nat.le_of_ble_eq_true rfl) (Or.inr rfl)
theorem lc_Mod_isStack_29 : lookI (eC E_Mod_isStack) (.invokestatic 29) = some (3, x_Mod_in) := rfl
theorem lb_Mod_isStack : eB E_Mod_isStack = true := rfl
-- CoilSlitsModel.of
def E_Mod_of : Env := (true, [], [], [], [], zST, false)
def d_Mod_of : Dn := (rti E_Mod_of [.aload_n 0, .bipush 22, .iconst 5, .iload_n 1, .imul, .iadd, .iload_n 2, .iadd, .iaload])
def x_Mod_of : Ex := exb true 3 d_Mod_of
abbrev r_Mod_of : Room := ({ frames := 0, cells := 0, slots := 0, locals := 0 } : Room)
theorem eo_Mod_of (hw : zWok w) (cx : CX w p s m args c b_Mod_of 3 "CoilSlitsModel") : EnvOk w true p l e r_Mod_of s m args below meth c Q b_Mod_of 3 "CoilSlitsModel" E_Mod_of :=
  ⟨rfl, by decide +kernel, by decide +kernel, by decide +kernel, hw, fun h => absurd h (by decide),
  fun q hq => absurd hq List.not_mem_nil⟩
theorem sn_Mod_of (h : MC w true p l e R s m args below meth c Q b_Mod_of 3 "CoilSlitsModel" E_Mod_of 0 0 F (some .int)) : Sn (zK w true p l e R s m args below meth c Q 3) F (fun _ => False) (fun _ => False) 0 0 0 d_Mod_of 0 0 0 := by
  unfold d_Mod_of
  exact (m_rti h zz (p1 := 10) (by decide +kernel) (by decide +kernel) (Nat.zero_le _) (Nat.zero_le _))
theorem ct_Mod_of (w : Wd) (l : Launch) (hw : zWok w) : CT w l y_Mod_of b_Mod_of 3 (some .int) r_Mod_of (exb true 3 d_Mod_of) :=
  ct_plain (by decide +kernel) (fun p e s m args below meth c Q cx hnm => eo_Mod_of hw cx) (fun p e s m args below meth c Q F h => sn_Mod_of h)
theorem q_Mod_of (x0 : Nat) (x1 : Int32) (x2 : Int32) (g : G) : x_Mod_of [.ref x0, .int x1, .int x2] g = zres (d_Mod_of ([some (.ref x0), some (.int x1), some (.int x2)], [], g)) := q_of [some (.ref x0), some (.int x1), some (.int x2)] rfl (Nat.le_of_ble_eq_true rfl) (Or.inr rfl)
theorem lb_Mod_of : eB E_Mod_of = true := rfl
theorem lt_Mod_of : eT E_Mod_of = zST := rfl
-- CoilSlitsModel.by
def E_Mod_by : Env := (true, [], [], [], [], zST, false)
def d_Mod_by : Dn := (rti E_Mod_by [.aload_n 0, .sipush 172, .bipush 6, .iload_n 1, .imul, .iadd, .iload_n 2, .iadd, .iaload])
def x_Mod_by : Ex := exb true 3 d_Mod_by
abbrev r_Mod_by : Room := ({ frames := 0, cells := 0, slots := 0, locals := 0 } : Room)
theorem eo_Mod_by (hw : zWok w) (cx : CX w p s m args c b_Mod_by 3 "CoilSlitsModel") : EnvOk w true p l e r_Mod_by s m args below meth c Q b_Mod_by 3 "CoilSlitsModel" E_Mod_by :=
  ⟨rfl, by decide +kernel, by decide +kernel, by decide +kernel, hw, fun h => absurd h (by decide),
  fun q hq => absurd hq List.not_mem_nil⟩
theorem sn_Mod_by (h : MC w true p l e R s m args below meth c Q b_Mod_by 3 "CoilSlitsModel" E_Mod_by 0 0 F (some .int)) : Sn (zK w true p l e R s m args below meth c Q 3) F (fun _ => False) (fun _ => False) 0 0 0 d_Mod_by 0 0 0 := by
  unfold d_Mod_by
  exact (m_rti h zz (p1 := 12) (by decide +kernel) (by decide +kernel) (Nat.zero_le _) (Nat.zero_le _))
theorem ct_Mod_by (w : Wd) (l : Launch) (hw : zWok w) : CT w l y_Mod_by b_Mod_by 3 (some .int) r_Mod_by (exb true 3 d_Mod_by) :=
  ct_plain (by decide +kernel) (fun p e s m args below meth c Q cx hnm => eo_Mod_by hw cx) (fun p e s m args below meth c Q F h => sn_Mod_by h)
theorem q_Mod_by (x0 : Nat) (x1 : Int32) (x2 : Int32) (g : G) : x_Mod_by [.ref x0, .int x1, .int x2] g = zres (d_Mod_by ([some (.ref x0), some (.int x1), some (.int x2)], [], g)) := q_of [some (.ref x0), some (.int x1), some (.int x2)] rfl (Nat.le_of_ble_eq_true rfl) (Or.inr rfl)
theorem lb_Mod_by : eB E_Mod_by = true := rfl
theorem lt_Mod_by : eT E_Mod_by = zST := rfl
-- CoilSlitsModel.saves
def E_Mod_saves : Env := (true, [(33, 6, 3), (16, 6, 2), (7, 6, 0)], [], [], [], zST, false)
def d_Mod_saves : Dn := (sq (ite' (cno (cat E_Mod_saves [.aload_n 0, .getfield 33, .bipush 6] (.if_icmp .ne 44)))
  (sq (blk E_Mod_saves [.iconst 0, .istore_n 1])
  (sq (lop (cno (cat E_Mod_saves [.iload_n 1, .sipush 1100] (.if_icmp .ge 25)))
  (blk E_Mod_saves [.aload_n 0, .getfield 16, .iload_n 1, .aload_n 0, .getfield 16, .iload_n 1, .sipush 220, .iadd, .iaload, .iastore, .iinc 1 1])
  (blk E_Mod_saves []) zFU)
  (blk E_Mod_saves [.aload_n 0, .dup, .getfield 33, .iconst 1, .isub, .putfield 33])))
  (blk E_Mod_saves []))
  (sq (blk E_Mod_saves [.iconst 0, .istore_n 1])
  (sq (lop (cno (cat E_Mod_saves [.iload_n 1, .sipush 220] (.if_icmp .ge 30)))
  (blk E_Mod_saves [.aload_n 0, .getfield 16, .sipush 220, .aload_n 0, .getfield 33, .imul, .iload_n 1, .iadd, .aload_n 0, .getfield 7, .iload_n 1, .iaload, .iastore, .iinc 1 1])
  (blk E_Mod_saves []) zFU)
  (rtv E_Mod_saves [.aload_n 0, .dup, .getfield 33, .iconst 1, .iadd, .putfield 33]))))
def x_Mod_saves : Ex := zrv 6 (exb true 2 d_Mod_saves)
abbrev r_Mod_saves : Room := ({ frames := 0, cells := 0, slots := 0, locals := 0 } : Room)
theorem eo_Mod_saves (hw : zWok w) (cx : CX w p s m args c b_Mod_saves 2 "CoilSlitsModel") : EnvOk w true p l e r_Mod_saves s m args below meth c Q b_Mod_saves 2 "CoilSlitsModel" E_Mod_saves :=
  ⟨rfl, by decide +kernel, by decide +kernel, by decide +kernel, hw, fun h => absurd h (by decide),
  fun q hq => absurd hq List.not_mem_nil⟩
theorem sn_Mod_saves (h : MC w true p l e R s m args below meth c Q b_Mod_saves 2 "CoilSlitsModel" E_Mod_saves 0 0 F none) : Sn (zK w true p l e R s m args below meth c Q 2) F (fun _ => False) (fun _ => False) 0 0 0 d_Mod_saves 0 0 0 := by
  unfold d_Mod_saves
  exact (sn_sq (pm := 50) (sn_ite (pt := 9) (pf := 50) (sc_no (m_cat h zz (p1 := 6) (tgt := 50) (by decide +kernel) (by decide +kernel) (by decide)))
  (sn_sq (pm := 11) (m_blk h zz (by decide +kernel))
  (sn_sq (pm := 40) (sn_lop (pt := 18) (pu := 37) (p2 := 37) (px := 40) (kb2 := fun _ => False) (kc2 := fun _ => False) (sc_no (m_cat h zz (p1 := 15) (tgt := 40) (by decide +kernel) (by decide +kernel) (by decide)))
  (m_blk h zz (by decide +kernel))
  (m_blk h zz rfl) (m_goto h (off := (-26)) (by decide +kernel) (by decide)) zFU)
  (m_blk h zz (by decide +kernel))))
  (m_blk h zz rfl))
  (sn_sq (pm := 52) (m_blk h zz (by decide +kernel))
  (sn_sq (pm := 86) (sn_lop (pt := 59) (pu := 83) (p2 := 83) (px := 86) (kb2 := fun _ => False) (kc2 := fun _ => False) (sc_no (m_cat h zz (p1 := 56) (tgt := 86) (by decide +kernel) (by decide +kernel) (by decide)))
  (m_blk h zz (by decide +kernel))
  (m_blk h zz rfl) (m_goto h (off := (-31)) (by decide +kernel) (by decide)) zFU)
  (m_rtv h zz (p1 := 96) (by decide +kernel) (by decide +kernel) (Nat.zero_le _) (Nat.zero_le _)))))
theorem ct_Mod_saves (w : Wd) (l : Launch) (hw : zWok w) : CT w l y_Mod_saves b_Mod_saves 2 none r_Mod_saves (exb true 2 d_Mod_saves) :=
  ct_plain (by decide +kernel) (fun p e s m args below meth c Q cx hnm => eo_Mod_saves hw cx) (fun p e s m args below meth c Q F h => sn_Mod_saves h)
theorem q_Mod_saves {a : Nat} {fs : List Value} {M : Hp} {nx : Nat}  (h : M a = some (cO 6 fs)) : x_Mod_saves [.ref a] (M, nx) = zres (d_Mod_saves ([some (.ref a), none], [], (M, nx))) := q_ofV [some (.ref a), none] h rfl (Nat.le_of_ble_eq_true rfl) (Or.inr rfl)
theorem lf_Mod_saves_33 : lookN (eF E_Mod_saves) 33 = some (6, 3) := rfl
theorem lf_Mod_saves_16 : lookN (eF E_Mod_saves) 16 = some (6, 2) := rfl
theorem lf_Mod_saves_7 : lookN (eF E_Mod_saves) 7 = some (6, 0) := rfl
theorem lb_Mod_saves : eB E_Mod_saves = true := rfl
theorem lt_Mod_saves : eT E_Mod_saves = zST := rfl
-- CoilSlitsModel.undo
def E_Mod_undo : Env := (true, [(25, 6, 6), (33, 6, 3), (7, 6, 0), (16, 6, 2)], [(.invokevirtual 36, 2, x_Mod_fails)], [], [], zST, false)
def d_Mod_undo : Dn := (sq (blk E_Mod_undo [.aload_n 0, .iconst 0, .putfield 25])
  (sq (ite' (cno (cat E_Mod_undo [.aload_n 0, .getfield 33] (.ifCond .ne 9)))
  (rti E_Mod_undo [.aload_n 0, .iconst 1, .invokevirtual 36])
  (blk E_Mod_undo []))
  (sq (blk E_Mod_undo [.aload_n 0, .dup, .getfield 33, .iconst 1, .isub, .putfield 33, .iconst 0, .istore_n 1])
  (sq (lop (cno (cat E_Mod_undo [.iload_n 1, .sipush 220] (.if_icmp .ge 30)))
  (blk E_Mod_undo [.aload_n 0, .getfield 7, .iload_n 1, .aload_n 0, .getfield 16, .sipush 220, .aload_n 0, .getfield 33, .imul, .iload_n 1, .iadd, .iaload, .iastore, .iinc 1 1])
  (blk E_Mod_undo []) zFU)
  (rti E_Mod_undo [.aload_n 0, .getfield 33])))))
def x_Mod_undo : Ex := zrv 6 (exb true 2 d_Mod_undo)
abbrev r_Mod_undo : Room := ({ frames := 1, cells := 0, slots := 0, locals := 21 } : Room)
theorem eo_Mod_undo (hw : zWok w) (cx : CX w p s m args c b_Mod_undo 2 "CoilSlitsModel") : EnvOk w true p l e r_Mod_undo s m args below meth c Q b_Mod_undo 2 "CoilSlitsModel" E_Mod_undo :=
  ⟨rfl, by decide +kernel, by decide +kernel, by decide +kernel, hw, fun h => absurd h (by decide),
  List.forall_mem_cons.mpr ⟨call_V cx (ct_Mod_fails w l hw) tw_865 tw_862 tw_8 tw_864 tp_29 (ci := 6) (Nat.le_of_ble_eq_true rfl) rfl (by decide +kernel) ⟨Nat.le_of_ble_eq_true rfl, Nat.le_of_ble_eq_true rfl⟩, fun q hq => absurd hq List.not_mem_nil⟩⟩
theorem sn_Mod_undo (h : MC w true p l e R s m args below meth c Q b_Mod_undo 2 "CoilSlitsModel" E_Mod_undo 0 0 F (some .int)) : Sn (zK w true p l e R s m args below meth c Q 2) F (fun _ => False) (fun _ => False) 0 0 0 d_Mod_undo 0 0 0 := by
  unfold d_Mod_undo
  exact (sn_sq (pm := 5) (m_blk h zz (by decide +kernel))
  (sn_sq (pm := 18) (sn_ite (pt := 12) (pf := 18) (sc_no (m_cat h zz (p1 := 9) (tgt := 18) (by decide +kernel) (by decide +kernel) (by decide)))
  (m_rti h zz (p1 := 17) (by decide +kernel) (by decide +kernel) (Nat.zero_le _) (Nat.zero_le _))
  (m_blk h zz rfl))
  (sn_sq (pm := 30) (m_blk h zz (by decide +kernel))
  (sn_sq (pm := 64) (sn_lop (pt := 37) (pu := 61) (p2 := 61) (px := 64) (kb2 := fun _ => False) (kc2 := fun _ => False) (sc_no (m_cat h zz (p1 := 34) (tgt := 64) (by decide +kernel) (by decide +kernel) (by decide)))
  (m_blk h zz (by decide +kernel))
  (m_blk h zz rfl) (m_goto h (off := (-31)) (by decide +kernel) (by decide)) zFU)
  (m_rti h zz (p1 := 68) (by decide +kernel) (by decide +kernel) (Nat.zero_le _) (Nat.zero_le _))))))
theorem ct_Mod_undo (w : Wd) (l : Launch) (hw : zWok w) : CT w l y_Mod_undo b_Mod_undo 2 (some .int) r_Mod_undo (exb true 2 d_Mod_undo) :=
  ct_plain (by decide +kernel) (fun p e s m args below meth c Q cx hnm => eo_Mod_undo hw cx) (fun p e s m args below meth c Q F h => sn_Mod_undo h)
theorem q_Mod_undo {a : Nat} {fs : List Value} {M : Hp} {nx : Nat}  (h : M a = some (cO 6 fs)) : x_Mod_undo [.ref a] (M, nx) = zres (d_Mod_undo ([some (.ref a), none], [], (M, nx))) := q_ofV [some (.ref a), none] h rfl (Nat.le_of_ble_eq_true rfl) (Or.inr rfl)
theorem lc_Mod_undo_36 : lookI (eC E_Mod_undo) (.invokevirtual 36) = some (2, x_Mod_fails) := rfl
theorem lf_Mod_undo_25 : lookN (eF E_Mod_undo) 25 = some (6, 6) := rfl
theorem lf_Mod_undo_33 : lookN (eF E_Mod_undo) 33 = some (6, 3) := rfl
theorem lf_Mod_undo_7 : lookN (eF E_Mod_undo) 7 = some (6, 0) := rfl
theorem lf_Mod_undo_16 : lookN (eF E_Mod_undo) 16 = some (6, 2) := rfl
theorem lb_Mod_undo : eB E_Mod_undo = true := rfl
theorem lt_Mod_undo : eT E_Mod_undo = zST := rfl
-- CoilSlitsModel.tries
def E_Mod_tries : Env := (true, [(13, 6, 1), (7, 6, 0)], [], [], [], zST, false)
def d_Mod_tries : Dn := (sq (blk E_Mod_tries [.iconst 0, .istore_n 1])
  (sq (lop (cno (cat E_Mod_tries [.iload_n 1, .sipush 220] (.if_icmp .ge 21)))
  (blk E_Mod_tries [.aload_n 0, .getfield 13, .iload_n 1, .aload_n 0, .getfield 7, .iload_n 1, .iaload, .iastore, .iinc 1 1])
  (blk E_Mod_tries []) zFU)
  (rtv E_Mod_tries [])))
def x_Mod_tries : Ex := zrv 6 (exb true 2 d_Mod_tries)
abbrev r_Mod_tries : Room := ({ frames := 0, cells := 0, slots := 0, locals := 0 } : Room)
theorem eo_Mod_tries (hw : zWok w) (cx : CX w p s m args c b_Mod_tries 2 "CoilSlitsModel") : EnvOk w true p l e r_Mod_tries s m args below meth c Q b_Mod_tries 2 "CoilSlitsModel" E_Mod_tries :=
  ⟨rfl, by decide +kernel, by decide +kernel, by decide +kernel, hw, fun h => absurd h (by decide),
  fun q hq => absurd hq List.not_mem_nil⟩
theorem sn_Mod_tries (h : MC w true p l e R s m args below meth c Q b_Mod_tries 2 "CoilSlitsModel" E_Mod_tries 0 0 F none) : Sn (zK w true p l e R s m args below meth c Q 2) F (fun _ => False) (fun _ => False) 0 0 0 d_Mod_tries 0 0 0 := by
  unfold d_Mod_tries
  exact (sn_sq (pm := 2) (m_blk h zz (by decide +kernel))
  (sn_sq (pm := 27) (sn_lop (pt := 9) (pu := 24) (p2 := 24) (px := 27) (kb2 := fun _ => False) (kc2 := fun _ => False) (sc_no (m_cat h zz (p1 := 6) (tgt := 27) (by decide +kernel) (by decide +kernel) (by decide)))
  (m_blk h zz (by decide +kernel))
  (m_blk h zz rfl) (m_goto h (off := (-22)) (by decide +kernel) (by decide)) zFU)
  (m_rtv h zz (p1 := 27) (by decide +kernel) (by decide +kernel) (Nat.zero_le _) (Nat.zero_le _))))
theorem ct_Mod_tries (w : Wd) (l : Launch) (hw : zWok w) : CT w l y_Mod_tries b_Mod_tries 2 none r_Mod_tries (exb true 2 d_Mod_tries) :=
  ct_plain (by decide +kernel) (fun p e s m args below meth c Q cx hnm => eo_Mod_tries hw cx) (fun p e s m args below meth c Q F h => sn_Mod_tries h)
theorem q_Mod_tries {a : Nat} {fs : List Value} {M : Hp} {nx : Nat}  (h : M a = some (cO 6 fs)) : x_Mod_tries [.ref a] (M, nx) = zres (d_Mod_tries ([some (.ref a), none], [], (M, nx))) := q_ofV [some (.ref a), none] h rfl (Nat.le_of_ble_eq_true rfl) (Or.inr rfl)
theorem lf_Mod_tries_13 : lookN (eF E_Mod_tries) 13 = some (6, 1) := rfl
theorem lf_Mod_tries_7 : lookN (eF E_Mod_tries) 7 = some (6, 0) := rfl
theorem lb_Mod_tries : eB E_Mod_tries = true := rfl
theorem lt_Mod_tries : eT E_Mod_tries = zST := rfl
-- CoilSlitsModel.isAt
def E_Mod_isAt : Env := (true, [], [], [], [], zST, false)
def d_Mod_isAt : Dn := (sq (ite' (cno (cat E_Mod_isAt [.iload_n 1, .iconst 5, .irem, .aload_n 0, .bipush 16, .iload_n 1, .iconst 5, .idiv, .iadd, .iaload] (.if_icmp .ge 7)))
  (blk E_Mod_isAt [.iconst 1])
  (blk E_Mod_isAt [.iconst 0]))
  (rtz E_Mod_isAt []))
def x_Mod_isAt : Ex := exb true 2 d_Mod_isAt
abbrev r_Mod_isAt : Room := ({ frames := 0, cells := 0, slots := 0, locals := 0 } : Room)
theorem eo_Mod_isAt (hw : zWok w) (cx : CX w p s m args c b_Mod_isAt 2 "CoilSlitsModel") : EnvOk w true p l e r_Mod_isAt s m args below meth c Q b_Mod_isAt 2 "CoilSlitsModel" E_Mod_isAt :=
  ⟨rfl, by decide +kernel, by decide +kernel, by decide +kernel, hw, fun h => absurd h (by decide),
  fun q hq => absurd hq List.not_mem_nil⟩
theorem sn_Mod_isAt (h : MC w true p l e R s m args below meth c Q b_Mod_isAt 2 "CoilSlitsModel" E_Mod_isAt 0 0 F (some .boolean)) : Sn (zK w true p l e R s m args below meth c Q 2) F (fun _ => False) (fun _ => False) 0 0 0 d_Mod_isAt 0 0 0 := by
  unfold d_Mod_isAt
  exact (sn_sq (pm := 19) (sn_ite (pt := 14) (pf := 18) (sc_no (m_cat h zz (p1 := 11) (tgt := 18) (by decide +kernel) (by decide +kernel) (by decide)))
  (sn_goto (pm := 15) (m_blk h zz (by decide +kernel)) (m_goto h (off := 4) (by decide +kernel) (by decide)))
  (m_blk h zz (by decide +kernel)))
  (m_rtz h zz (p1 := 19) (by decide +kernel) (by decide +kernel) (Nat.zero_le _) (Nat.zero_le _)))
theorem ct_Mod_isAt (w : Wd) (l : Launch) (hw : zWok w) : CT w l y_Mod_isAt b_Mod_isAt 2 (some .boolean) r_Mod_isAt (exb true 2 d_Mod_isAt) :=
  ct_plain (by decide +kernel) (fun p e s m args below meth c Q cx hnm => eo_Mod_isAt hw cx) (fun p e s m args below meth c Q F h => sn_Mod_isAt h)
theorem q_Mod_isAt (x0 : Nat) (x1 : Int32) (g : G) : x_Mod_isAt [.ref x0, .int x1] g = zres (d_Mod_isAt ([some (.ref x0), some (.int x1)], [], g)) := q_of [some (.ref x0), some (.int x1)] rfl (Nat.le_of_ble_eq_true rfl) (Or.inr rfl)
theorem lb_Mod_isAt : eB E_Mod_isAt = true := rfl
theorem lt_Mod_isAt : eT E_Mod_isAt = zST := rfl
-- CoilSlitsModel.placeOf
def E_Mod_placeOf : Env := (true, [], [(.invokestatic 40, 2, x_Mod_isAt), (.invokestatic 44, 3, x_Mod_of)], [], [], zST, false)
def d_Mod_placeOf : Dn := (sq (blk E_Mod_placeOf [.iconst 0, .istore_n 2])
  (sq (lop (cno (cat E_Mod_placeOf [.iload_n 2, .bipush 30] (.if_icmp .ge 29)))
  (sq (ite' (can (cno (cat E_Mod_placeOf [.aload_n 0, .iload_n 2, .invokestatic 40] (.ifCond .eq 15))) (cno (cat E_Mod_placeOf [.aload_n 0, .iload_n 2, .iconst 0, .invokestatic 44, .iload_n 1] (.if_icmp .ne 5))))
  (rti E_Mod_placeOf [.iload_n 2])
  (blk E_Mod_placeOf []))
  (blk E_Mod_placeOf [.iinc 2 1]))
  (blk E_Mod_placeOf []) zFU)
  (rti E_Mod_placeOf [.iconst (-1)])))
def x_Mod_placeOf : Ex := exb true 3 d_Mod_placeOf
abbrev r_Mod_placeOf : Room := ({ frames := 1, cells := 0, slots := 0, locals := 22 } : Room)
theorem eo_Mod_placeOf (hw : zWok w) (cx : CX w p s m args c b_Mod_placeOf 3 "CoilSlitsModel") : EnvOk w true p l e r_Mod_placeOf s m args below meth c Q b_Mod_placeOf 3 "CoilSlitsModel" E_Mod_placeOf :=
  ⟨rfl, by decide +kernel, by decide +kernel, by decide +kernel, hw, fun h => absurd h (by decide),
  List.forall_mem_cons.mpr ⟨call_S cx (ct_Mod_isAt w l hw) tw_912 tw_910 tw_8 tw_911 (by decide +kernel) ⟨Nat.le_of_ble_eq_true rfl, Nat.le_of_ble_eq_true rfl⟩, List.forall_mem_cons.mpr ⟨call_S cx (ct_Mod_of w l hw) tw_899 tw_897 tw_8 tw_898 (by decide +kernel) ⟨Nat.le_of_ble_eq_true rfl, Nat.le_of_ble_eq_true rfl⟩, fun q hq => absurd hq List.not_mem_nil⟩⟩⟩
theorem sn_Mod_placeOf (h : MC w true p l e R s m args below meth c Q b_Mod_placeOf 3 "CoilSlitsModel" E_Mod_placeOf 0 0 F (some .int)) : Sn (zK w true p l e R s m args below meth c Q 3) F (fun _ => False) (fun _ => False) 0 0 0 d_Mod_placeOf 0 0 0 := by
  unfold d_Mod_placeOf
  exact (sn_sq (pm := 2) (m_blk h zz (by decide +kernel))
  (sn_sq (pm := 34) (sn_lop (pt := 8) (pu := 31) (p2 := 31) (px := 34) (kb2 := fun _ => False) (kc2 := fun _ => False) (sc_no (m_cat h zz (p1 := 5) (tgt := 34) (by decide +kernel) (by decide +kernel) (by decide)))
  (sn_sq (pm := 28) (sn_ite (pt := 26) (pf := 28) (sc_an (pm := 16) (sc_no (m_cat h zz (p1 := 13) (tgt := 28) (by decide +kernel) (by decide +kernel) (by decide))) (sc_no (m_cat h zz (p1 := 23) (tgt := 28) (by decide +kernel) (by decide +kernel) (by decide))))
  (m_rti h zz (p1 := 27) (by decide +kernel) (by decide +kernel) (Nat.zero_le _) (Nat.zero_le _))
  (m_blk h zz rfl))
  (m_blk h zz (by decide +kernel)))
  (m_blk h zz rfl) (m_goto h (off := (-29)) (by decide +kernel) (by decide)) zFU)
  (m_rti h zz (p1 := 35) (by decide +kernel) (by decide +kernel) (Nat.zero_le _) (Nat.zero_le _))))
theorem ct_Mod_placeOf (w : Wd) (l : Launch) (hw : zWok w) : CT w l y_Mod_placeOf b_Mod_placeOf 3 (some .int) r_Mod_placeOf (exb true 3 d_Mod_placeOf) :=
  ct_plain (by decide +kernel) (fun p e s m args below meth c Q cx hnm => eo_Mod_placeOf hw cx) (fun p e s m args below meth c Q F h => sn_Mod_placeOf h)
theorem q_Mod_placeOf (x0 : Nat) (x1 : Int32) (g : G) : x_Mod_placeOf [.ref x0, .int x1] g = zres (d_Mod_placeOf ([some (.ref x0), some (.int x1), none], [], g)) := q_of [some (.ref x0), some (.int x1), none] rfl (Nat.le_of_ble_eq_true rfl) (Or.inr rfl)
theorem lc_Mod_placeOf_40 : lookI (eC E_Mod_placeOf) (.invokestatic 40) = some (2, x_Mod_isAt) := rfl
theorem lc_Mod_placeOf_44 : lookI (eC E_Mod_placeOf) (.invokestatic 44) = some (3, x_Mod_of) := rfl
theorem lb_Mod_placeOf : eB E_Mod_placeOf = true := rfl
-- CoilSlitsModel.above
def E_Mod_above : Env := (true, [], [], [], [], zST, false)
def d_Mod_above : Dn := (rti E_Mod_above [.aload_n 0, .bipush 16, .iload_n 1, .iconst 5, .idiv, .iadd, .iaload, .iconst 1, .isub, .iload_n 1, .iconst 5, .irem, .isub])
def x_Mod_above : Ex := exb true 2 d_Mod_above
abbrev r_Mod_above : Room := ({ frames := 0, cells := 0, slots := 0, locals := 0 } : Room)
theorem eo_Mod_above (hw : zWok w) (cx : CX w p s m args c b_Mod_above 2 "CoilSlitsModel") : EnvOk w true p l e r_Mod_above s m args below meth c Q b_Mod_above 2 "CoilSlitsModel" E_Mod_above :=
  ⟨rfl, by decide +kernel, by decide +kernel, by decide +kernel, hw, fun h => absurd h (by decide),
  fun q hq => absurd hq List.not_mem_nil⟩
theorem sn_Mod_above (h : MC w true p l e R s m args below meth c Q b_Mod_above 2 "CoilSlitsModel" E_Mod_above 0 0 F (some .int)) : Sn (zK w true p l e R s m args below meth c Q 2) F (fun _ => False) (fun _ => False) 0 0 0 d_Mod_above 0 0 0 := by
  unfold d_Mod_above
  exact (m_rti h zz (p1 := 14) (by decide +kernel) (by decide +kernel) (Nat.zero_le _) (Nat.zero_le _))
theorem ct_Mod_above (w : Wd) (l : Launch) (hw : zWok w) : CT w l y_Mod_above b_Mod_above 2 (some .int) r_Mod_above (exb true 2 d_Mod_above) :=
  ct_plain (by decide +kernel) (fun p e s m args below meth c Q cx hnm => eo_Mod_above hw cx) (fun p e s m args below meth c Q F h => sn_Mod_above h)
theorem q_Mod_above (x0 : Nat) (x1 : Int32) (g : G) : x_Mod_above [.ref x0, .int x1] g = zres (d_Mod_above ([some (.ref x0), some (.int x1)], [], g)) := q_of [some (.ref x0), some (.int x1)] rfl (Nat.le_of_ble_eq_true rfl) (Or.inr rfl)
theorem lb_Mod_above : eB E_Mod_above = true := rfl
theorem lt_Mod_above : eT E_Mod_above = zST := rfl
-- CoilSlitsModel.orderAt
def E_Mod_orderAt : Env := (true, [], [(.invokestatic 48, 3, x_Mod_by)], [], [], zST, false)
def d_Mod_orderAt : Dn := (sq (blk E_Mod_orderAt [.iconst 0, .istore_n 2])
  (sq (lop (cno (cat E_Mod_orderAt [.iload_n 2, .aload_n 0, .bipush 15, .iaload] (.if_icmp .ge 21)))
  (sq (ite' (cno (cat E_Mod_orderAt [.aload_n 0, .iload_n 2, .iconst 0, .invokestatic 48, .iload_n 1] (.if_icmp .ne 5)))
  (rti E_Mod_orderAt [.iload_n 2])
  (blk E_Mod_orderAt []))
  (blk E_Mod_orderAt [.iinc 2 1]))
  (blk E_Mod_orderAt []) zFU)
  (rti E_Mod_orderAt [.iconst (-1)])))
def x_Mod_orderAt : Ex := exb true 3 d_Mod_orderAt
abbrev r_Mod_orderAt : Room := ({ frames := 1, cells := 0, slots := 0, locals := 22 } : Room)
theorem eo_Mod_orderAt (hw : zWok w) (cx : CX w p s m args c b_Mod_orderAt 3 "CoilSlitsModel") : EnvOk w true p l e r_Mod_orderAt s m args below meth c Q b_Mod_orderAt 3 "CoilSlitsModel" E_Mod_orderAt :=
  ⟨rfl, by decide +kernel, by decide +kernel, by decide +kernel, hw, fun h => absurd h (by decide),
  List.forall_mem_cons.mpr ⟨call_S cx (ct_Mod_by w l hw) tw_946 tw_944 tw_8 tw_945 (by decide +kernel) ⟨Nat.le_of_ble_eq_true rfl, Nat.le_of_ble_eq_true rfl⟩, fun q hq => absurd hq List.not_mem_nil⟩⟩
theorem sn_Mod_orderAt (h : MC w true p l e R s m args below meth c Q b_Mod_orderAt 3 "CoilSlitsModel" E_Mod_orderAt 0 0 F (some .int)) : Sn (zK w true p l e R s m args below meth c Q 3) F (fun _ => False) (fun _ => False) 0 0 0 d_Mod_orderAt 0 0 0 := by
  unfold d_Mod_orderAt
  exact (sn_sq (pm := 2) (m_blk h zz (by decide +kernel))
  (sn_sq (pm := 28) (sn_lop (pt := 10) (pu := 25) (p2 := 25) (px := 28) (kb2 := fun _ => False) (kc2 := fun _ => False) (sc_no (m_cat h zz (p1 := 7) (tgt := 28) (by decide +kernel) (by decide +kernel) (by decide)))
  (sn_sq (pm := 22) (sn_ite (pt := 20) (pf := 22) (sc_no (m_cat h zz (p1 := 17) (tgt := 22) (by decide +kernel) (by decide +kernel) (by decide)))
  (m_rti h zz (p1 := 21) (by decide +kernel) (by decide +kernel) (Nat.zero_le _) (Nat.zero_le _))
  (m_blk h zz rfl))
  (m_blk h zz (by decide +kernel)))
  (m_blk h zz rfl) (m_goto h (off := (-23)) (by decide +kernel) (by decide)) zFU)
  (m_rti h zz (p1 := 29) (by decide +kernel) (by decide +kernel) (Nat.zero_le _) (Nat.zero_le _))))
theorem ct_Mod_orderAt (w : Wd) (l : Launch) (hw : zWok w) : CT w l y_Mod_orderAt b_Mod_orderAt 3 (some .int) r_Mod_orderAt (exb true 3 d_Mod_orderAt) :=
  ct_plain (by decide +kernel) (fun p e s m args below meth c Q cx hnm => eo_Mod_orderAt hw cx) (fun p e s m args below meth c Q F h => sn_Mod_orderAt h)
theorem q_Mod_orderAt (x0 : Nat) (x1 : Int32) (g : G) : x_Mod_orderAt [.ref x0, .int x1] g = zres (d_Mod_orderAt ([some (.ref x0), some (.int x1), none], [], g)) := q_of [some (.ref x0), some (.int x1), none] rfl (Nat.le_of_ble_eq_true rfl) (Or.inr rfl)
theorem lc_Mod_orderAt_48 : lookI (eC E_Mod_orderAt) (.invokestatic 48) = some (3, x_Mod_by) := rfl
theorem lb_Mod_orderAt : eB E_Mod_orderAt = true := rfl
theorem lt_Mod_orderAt : eT E_Mod_orderAt = zST := rfl
-- CoilSlitsModel.far
def E_Mod_far : Env := (true, [], [], [], [], zST, false)
def d_Mod_far : Dn := (sq (ite' (cno (cat E_Mod_far [.iload_n 0, .iload_n 1] (.if_icmp .ge 9)))
  (blk E_Mod_far [.iload_n 1, .iload_n 0, .isub])
  (blk E_Mod_far [.iload_n 0, .iload_n 1, .isub]))
  (rti E_Mod_far []))
def x_Mod_far : Ex := exb true 2 d_Mod_far
abbrev r_Mod_far : Room := ({ frames := 0, cells := 0, slots := 0, locals := 0 } : Room)
theorem eo_Mod_far (hw : zWok w) (cx : CX w p s m args c b_Mod_far 2 "CoilSlitsModel") : EnvOk w true p l e r_Mod_far s m args below meth c Q b_Mod_far 2 "CoilSlitsModel" E_Mod_far :=
  ⟨rfl, by decide +kernel, by decide +kernel, by decide +kernel, hw, fun h => absurd h (by decide),
  fun q hq => absurd hq List.not_mem_nil⟩
theorem sn_Mod_far (h : MC w true p l e R s m args below meth c Q b_Mod_far 2 "CoilSlitsModel" E_Mod_far 0 0 F (some .int)) : Sn (zK w true p l e R s m args below meth c Q 2) F (fun _ => False) (fun _ => False) 0 0 0 d_Mod_far 0 0 0 := by
  unfold d_Mod_far
  exact (sn_sq (pm := 14) (sn_ite (pt := 5) (pf := 11) (sc_no (m_cat h zz (p1 := 2) (tgt := 11) (by decide +kernel) (by decide +kernel) (by decide)))
  (sn_goto (pm := 8) (m_blk h zz (by decide +kernel)) (m_goto h (off := 6) (by decide +kernel) (by decide)))
  (m_blk h zz (by decide +kernel)))
  (m_rti h zz (p1 := 14) (by decide +kernel) (by decide +kernel) (Nat.zero_le _) (Nat.zero_le _)))
theorem ct_Mod_far (w : Wd) (l : Launch) (hw : zWok w) : CT w l y_Mod_far b_Mod_far 2 (some .int) r_Mod_far (exb true 2 d_Mod_far) :=
  ct_plain (by decide +kernel) (fun p e s m args below meth c Q cx hnm => eo_Mod_far hw cx) (fun p e s m args below meth c Q F h => sn_Mod_far h)
theorem q_Mod_far (x0 : Int32) (x1 : Int32) (g : G) : x_Mod_far [.int x0, .int x1] g = zres (d_Mod_far ([some (.int x0), some (.int x1)], [], g)) := q_of [some (.int x0), some (.int x1)] rfl (Nat.le_of_ble_eq_true rfl) (Or.inr rfl)
theorem lb_Mod_far : eB E_Mod_far = true := rfl
-- CoilSlitsModel.lays
def E_Mod_lays : Env := (true, [], [], [], [], zST, false)
def d_Mod_lays : Dn := (rtv E_Mod_lays [.bipush 22, .iconst 5, .iconst 5, .iload_n 1, .imul, .aload_n 0, .bipush 16, .iload_n 1, .iadd, .iaload, .iadd, .imul, .iadd, .istore 7, .aload_n 0, .iload 7, .iload_n 2, .iastore, .aload_n 0, .iload 7, .iconst 1, .iadd, .iload_n 3, .iastore, .aload_n 0, .iload 7, .iconst 2, .iadd, .iload 4, .iastore, .aload_n 0, .iload 7, .iconst 3, .iadd, .iload 5, .iastore, .aload_n 0, .iload 7, .iconst 4, .iadd, .iload 6, .iastore, .aload_n 0, .bipush 16, .iload_n 1, .iadd, .dup2, .iaload, .iconst 1, .iadd, .iastore])
def x_Mod_lays : Ex := exb true 8 d_Mod_lays
abbrev r_Mod_lays : Room := ({ frames := 0, cells := 0, slots := 0, locals := 0 } : Room)
theorem eo_Mod_lays (hw : zWok w) (cx : CX w p s m args c b_Mod_lays 8 "CoilSlitsModel") : EnvOk w true p l e r_Mod_lays s m args below meth c Q b_Mod_lays 8 "CoilSlitsModel" E_Mod_lays :=
  ⟨rfl, by decide +kernel, by decide +kernel, by decide +kernel, hw, fun h => absurd h (by decide),
  fun q hq => absurd hq List.not_mem_nil⟩
theorem sn_Mod_lays (h : MC w true p l e R s m args below meth c Q b_Mod_lays 8 "CoilSlitsModel" E_Mod_lays 0 0 F none) : Sn (zK w true p l e R s m args below meth c Q 8) F (fun _ => False) (fun _ => False) 0 0 0 d_Mod_lays 0 0 0 := by
  unfold d_Mod_lays
  exact (m_rtv h zz (p1 := 63) (by decide +kernel) (by decide +kernel) (Nat.zero_le _) (Nat.zero_le _))
theorem ct_Mod_lays (w : Wd) (l : Launch) (hw : zWok w) : CT w l y_Mod_lays b_Mod_lays 8 none r_Mod_lays (exb true 8 d_Mod_lays) :=
  ct_plain (by decide +kernel) (fun p e s m args below meth c Q cx hnm => eo_Mod_lays hw cx) (fun p e s m args below meth c Q F h => sn_Mod_lays h)
theorem q_Mod_lays (x0 : Nat) (x1 : Int32) (x2 : Int32) (x3 : Int32) (x4 : Int32) (x5 : Int32) (x6 : Int32) (g : G) : x_Mod_lays [.ref x0, .int x1, .int x2, .int x3, .int x4, .int x5, .int x6] g = zres (d_Mod_lays ([some (.ref x0), some (.int x1), some (.int x2), some (.int x3), some (.int x4), some (.int x5), some (.int x6), none], [], g)) := q_of [some (.ref x0), some (.int x1), some (.int x2), some (.int x3), some (.int x4), some (.int x5), some (.int x6), none] rfl (Nat.le_of_ble_eq_true rfl) (Or.inr rfl)
theorem lb_Mod_lays : eB E_Mod_lays = true := rfl
theorem lt_Mod_lays : eT E_Mod_lays = zST := rfl
-- CoilSlitsModel.topOf
def E_Mod_topOf : Env := (true, [], [], [], [], zST, false)
def d_Mod_topOf : Dn := (rti E_Mod_topOf [.iconst 5, .iload_n 1, .imul, .aload_n 0, .bipush 16, .iload_n 1, .iadd, .iaload, .iadd, .iconst 1, .isub])
def x_Mod_topOf : Ex := exb true 2 d_Mod_topOf
abbrev r_Mod_topOf : Room := ({ frames := 0, cells := 0, slots := 0, locals := 0 } : Room)
theorem eo_Mod_topOf (hw : zWok w) (cx : CX w p s m args c b_Mod_topOf 2 "CoilSlitsModel") : EnvOk w true p l e r_Mod_topOf s m args below meth c Q b_Mod_topOf 2 "CoilSlitsModel" E_Mod_topOf :=
  ⟨rfl, by decide +kernel, by decide +kernel, by decide +kernel, hw, fun h => absurd h (by decide),
  fun q hq => absurd hq List.not_mem_nil⟩
theorem sn_Mod_topOf (h : MC w true p l e R s m args below meth c Q b_Mod_topOf 2 "CoilSlitsModel" E_Mod_topOf 0 0 F (some .int)) : Sn (zK w true p l e R s m args below meth c Q 2) F (fun _ => False) (fun _ => False) 0 0 0 d_Mod_topOf 0 0 0 := by
  unfold d_Mod_topOf
  exact (m_rti h zz (p1 := 12) (by decide +kernel) (by decide +kernel) (Nat.zero_le _) (Nat.zero_le _))
theorem ct_Mod_topOf (w : Wd) (l : Launch) (hw : zWok w) : CT w l y_Mod_topOf b_Mod_topOf 2 (some .int) r_Mod_topOf (exb true 2 d_Mod_topOf) :=
  ct_plain (by decide +kernel) (fun p e s m args below meth c Q cx hnm => eo_Mod_topOf hw cx) (fun p e s m args below meth c Q F h => sn_Mod_topOf h)
theorem q_Mod_topOf (x0 : Nat) (x1 : Int32) (g : G) : x_Mod_topOf [.ref x0, .int x1] g = zres (d_Mod_topOf ([some (.ref x0), some (.int x1)], [], g)) := q_of [some (.ref x0), some (.int x1)] rfl (Nat.le_of_ble_eq_true rfl) (Or.inr rfl)
theorem lb_Mod_topOf : eB E_Mod_topOf = true := rfl
theorem lt_Mod_topOf : eT E_Mod_topOf = zST := rfl
-- CoilSlitsModel.moves
def E_Mod_moves : Env := (true, [], [(.invokestatic 51, 2, x_Mod_topOf), (.invokestatic 44, 3, x_Mod_of), (.invokestatic 55, 7, x_Mod_lays), (.invokestatic 59, 2, x_Mod_far)], [], [], zST, false)
def d_Mod_moves : Dn := (rti E_Mod_moves [.aload_n 0, .iload_n 1, .invokestatic 51, .istore_n 3, .aload_n 0, .iload_n 3, .iconst 0, .invokestatic 44, .istore 4, .aload_n 0, .iload_n 2, .iload 4, .aload_n 0, .iload_n 3, .iconst 1, .invokestatic 44, .aload_n 0, .iload_n 3, .iconst 2, .invokestatic 44, .aload_n 0, .iload_n 3, .iconst 3, .invokestatic 44, .aload_n 0, .iload_n 3, .iconst 4, .invokestatic 44, .invokestatic 55, .aload_n 0, .bipush 16, .iload_n 1, .iadd, .dup2, .iaload, .iconst 1, .isub, .iastore, .aload_n 0, .bipush 6, .dup2, .iaload, .iconst 1, .iadd, .iastore, .aload_n 0, .bipush 7, .dup2, .iaload, .iload_n 1, .iload_n 2, .invokestatic 59, .iadd, .iastore, .iload 4])
def x_Mod_moves : Ex := exb true 5 d_Mod_moves
abbrev r_Mod_moves : Room := ({ frames := 1, cells := 0, slots := 0, locals := 27 } : Room)
theorem eo_Mod_moves (hw : zWok w) (cx : CX w p s m args c b_Mod_moves 5 "CoilSlitsModel") : EnvOk w true p l e r_Mod_moves s m args below meth c Q b_Mod_moves 5 "CoilSlitsModel" E_Mod_moves :=
  ⟨rfl, by decide +kernel, by decide +kernel, by decide +kernel, hw, fun h => absurd h (by decide),
  List.forall_mem_cons.mpr ⟨call_S cx (ct_Mod_topOf w l hw) tw_896 tw_894 tw_8 tw_895 (by decide +kernel) ⟨Nat.le_of_ble_eq_true rfl, Nat.le_of_ble_eq_true rfl⟩, List.forall_mem_cons.mpr ⟨call_S cx (ct_Mod_of w l hw) tw_899 tw_897 tw_8 tw_898 (by decide +kernel) ⟨Nat.le_of_ble_eq_true rfl, Nat.le_of_ble_eq_true rfl⟩, List.forall_mem_cons.mpr ⟨call_S cx (ct_Mod_lays w l hw) tw_886 tw_884 tw_8 tw_885 (by decide +kernel) ⟨Nat.le_of_ble_eq_true rfl, Nat.le_of_ble_eq_true rfl⟩, List.forall_mem_cons.mpr ⟨call_S cx (ct_Mod_far w l hw) tw_902 tw_900 tw_8 tw_901 (by decide +kernel) ⟨Nat.le_of_ble_eq_true rfl, Nat.le_of_ble_eq_true rfl⟩, fun q hq => absurd hq List.not_mem_nil⟩⟩⟩⟩⟩
theorem sn_Mod_moves (h : MC w true p l e R s m args below meth c Q b_Mod_moves 5 "CoilSlitsModel" E_Mod_moves 0 0 F (some .int)) : Sn (zK w true p l e R s m args below meth c Q 5) F (fun _ => False) (fun _ => False) 0 0 0 d_Mod_moves 0 0 0 := by
  unfold d_Mod_moves
  exact (m_rti h zz (p1 := 77) (by decide +kernel) (by decide +kernel) (Nat.zero_le _) (Nat.zero_le _))
theorem ct_Mod_moves (w : Wd) (l : Launch) (hw : zWok w) : CT w l y_Mod_moves b_Mod_moves 5 (some .int) r_Mod_moves (exb true 5 d_Mod_moves) :=
  ct_plain (by decide +kernel) (fun p e s m args below meth c Q cx hnm => eo_Mod_moves hw cx) (fun p e s m args below meth c Q F h => sn_Mod_moves h)
theorem q_Mod_moves (x0 : Nat) (x1 : Int32) (x2 : Int32) (g : G) : x_Mod_moves [.ref x0, .int x1, .int x2] g = zres (d_Mod_moves ([some (.ref x0), some (.int x1), some (.int x2), none, none], [], g)) := q_of [some (.ref x0), some (.int x1), some (.int x2), none, none] rfl (Nat.le_of_ble_eq_true rfl) (Or.inr rfl)
theorem lc_Mod_moves_51 : lookI (eC E_Mod_moves) (.invokestatic 51) = some (2, x_Mod_topOf) := rfl
theorem lc_Mod_moves_44 : lookI (eC E_Mod_moves) (.invokestatic 44) = some (3, x_Mod_of) := rfl
theorem lc_Mod_moves_55 : lookI (eC E_Mod_moves) (.invokestatic 55) = some (7, x_Mod_lays) := rfl
theorem lc_Mod_moves_59 : lookI (eC E_Mod_moves) (.invokestatic 59) = some (2, x_Mod_far) := rfl
theorem lb_Mod_moves : eB E_Mod_moves = true := rfl
theorem lt_Mod_moves : eT E_Mod_moves = zST := rfl
-- CoilSlitsModel.canDig
def E_Mod_canDig : Env := (true, [], [(.invokestatic 63, 2, x_Mod_above)], [], [], zST, false)
def d_Mod_canDig : Dn := (sq (blk E_Mod_canDig [.iconst 0, .istore_n 2, .iconst 0, .istore_n 3])
  (sq (lop (cno (cat E_Mod_canDig [.iload_n 3, .bipush 6] (.if_icmp .ge 31)))
  (sq (blk E_Mod_canDig [.iload_n 2])
  (sq (ite' (cno (cat E_Mod_canDig [.iload_n 3, .iload_n 1, .iconst 5, .idiv] (.if_icmp .ne 7)))
  (blk E_Mod_canDig [.iconst 0])
  (blk E_Mod_canDig [.iconst 5, .aload_n 0, .bipush 16, .iload_n 3, .iadd, .iaload, .isub]))
  (blk E_Mod_canDig [.iadd, .istore_n 2, .iinc 3 1])))
  (blk E_Mod_canDig []) zFU)
  (sq (ite' (cno (cat E_Mod_canDig [.aload_n 0, .iload_n 1, .invokestatic 63, .iload_n 2] (.if_icmp .gt 7)))
  (blk E_Mod_canDig [.iconst 1])
  (blk E_Mod_canDig [.iconst 0]))
  (rtz E_Mod_canDig []))))
def x_Mod_canDig : Ex := exb true 4 d_Mod_canDig
abbrev r_Mod_canDig : Room := ({ frames := 1, cells := 0, slots := 0, locals := 21 } : Room)
theorem eo_Mod_canDig (hw : zWok w) (cx : CX w p s m args c b_Mod_canDig 4 "CoilSlitsModel") : EnvOk w true p l e r_Mod_canDig s m args below meth c Q b_Mod_canDig 4 "CoilSlitsModel" E_Mod_canDig :=
  ⟨rfl, by decide +kernel, by decide +kernel, by decide +kernel, hw, fun h => absurd h (by decide),
  List.forall_mem_cons.mpr ⟨call_S cx (ct_Mod_above w l hw) tw_922 tw_920 tw_8 tw_921 (by decide +kernel) ⟨Nat.le_of_ble_eq_true rfl, Nat.le_of_ble_eq_true rfl⟩, fun q hq => absurd hq List.not_mem_nil⟩⟩
theorem sn_Mod_canDig (h : MC w true p l e R s m args below meth c Q b_Mod_canDig 4 "CoilSlitsModel" E_Mod_canDig 0 0 F (some .boolean)) : Sn (zK w true p l e R s m args below meth c Q 4) F (fun _ => False) (fun _ => False) 0 0 0 d_Mod_canDig 0 0 0 := by
  unfold d_Mod_canDig
  exact (sn_sq (pm := 4) (m_blk h zz (by decide +kernel))
  (sn_sq (pm := 38) (sn_lop (pt := 10) (pu := 35) (p2 := 35) (px := 38) (kb2 := fun _ => False) (kc2 := fun _ => False) (sc_no (m_cat h zz (p1 := 7) (tgt := 38) (by decide +kernel) (by decide +kernel) (by decide)))
  (sn_sq (pm := 11) (m_blk h zz (by decide +kernel))
  (sn_sq (pm := 30) (sn_ite (pt := 18) (pf := 22) (sc_no (m_cat h zz (p1 := 15) (tgt := 22) (by decide +kernel) (by decide +kernel) (by decide)))
  (sn_goto (pm := 19) (m_blk h zz (by decide +kernel)) (m_goto h (off := 11) (by decide +kernel) (by decide)))
  (m_blk h zz (by decide +kernel)))
  (m_blk h zz (by decide +kernel))))
  (m_blk h zz rfl) (m_goto h (off := (-31)) (by decide +kernel) (by decide)) zFU)
  (sn_sq (pm := 52) (sn_ite (pt := 47) (pf := 51) (sc_no (m_cat h zz (p1 := 44) (tgt := 51) (by decide +kernel) (by decide +kernel) (by decide)))
  (sn_goto (pm := 48) (m_blk h zz (by decide +kernel)) (m_goto h (off := 4) (by decide +kernel) (by decide)))
  (m_blk h zz (by decide +kernel)))
  (m_rtz h zz (p1 := 52) (by decide +kernel) (by decide +kernel) (Nat.zero_le _) (Nat.zero_le _)))))
theorem ct_Mod_canDig (w : Wd) (l : Launch) (hw : zWok w) : CT w l y_Mod_canDig b_Mod_canDig 4 (some .boolean) r_Mod_canDig (exb true 4 d_Mod_canDig) :=
  ct_plain (by decide +kernel) (fun p e s m args below meth c Q cx hnm => eo_Mod_canDig hw cx) (fun p e s m args below meth c Q F h => sn_Mod_canDig h)
theorem q_Mod_canDig (x0 : Nat) (x1 : Int32) (g : G) : x_Mod_canDig [.ref x0, .int x1] g = zres (d_Mod_canDig ([some (.ref x0), some (.int x1), none, none], [], g)) := q_of [some (.ref x0), some (.int x1), none, none] rfl (Nat.le_of_ble_eq_true rfl) (Or.inr rfl)
theorem lc_Mod_canDig_63 : lookI (eC E_Mod_canDig) (.invokestatic 63) = some (2, x_Mod_above) := rfl
theorem lb_Mod_canDig : eB E_Mod_canDig = true := rfl
theorem lt_Mod_canDig : eT E_Mod_canDig = zST := rfl
-- CoilSlitsModel.nearest
def E_Mod_nearest : Env := (true, [], [(.invokestatic 59, 2, x_Mod_far)], [], [], zST, false)
def d_Mod_nearest : Dn := (sq (blk E_Mod_nearest [.iconst (-1), .istore_n 2, .iconst 0, .istore_n 3])
  (sq (lop (cfo [4, 5] (cno (cat E_Mod_nearest [.iload_n 3, .bipush 6] (.if_icmp .ge 84))))
  (sq (ite' (cno (cat E_Mod_nearest [.iload_n 3, .iload_n 1] (.if_icmp .eq 73)))
  (sq (ite' (cno (cat E_Mod_nearest [.iload_n 2, .iconst (-1)] (.if_icmp .ne 7)))
  (blk E_Mod_nearest [.iconst 1])
  (blk E_Mod_nearest [.aload_n 0, .bipush 16, .iload_n 2, .iadd, .iaload, .aload_n 0, .bipush 16, .iload_n 3, .iadd, .iaload, .isub]))
  (sq (blk E_Mod_nearest [.istore 4])
  (sq (ite' (can (cno (cat E_Mod_nearest [.iload_n 2, .iconst (-1)] (.if_icmp .eq 20))) (cno (cat E_Mod_nearest [.iload_n 3, .iload_n 1, .invokestatic 59, .iload_n 2, .iload_n 1, .invokestatic 59] (.if_icmp .ge 7))))
  (blk E_Mod_nearest [.iconst 1])
  (blk E_Mod_nearest [.iconst 0]))
  (sq (blk E_Mod_nearest [.istore 5])
  (sq (ite' (cor (cat E_Mod_nearest [.iload 4] (.ifCond .gt 13)) (can (cno (cat E_Mod_nearest [.iload 4] (.ifCond .ne 12))) (cno (cat E_Mod_nearest [.iload 5] (.ifCond .eq 7)))))
  (blk E_Mod_nearest [.iload_n 3])
  (blk E_Mod_nearest [.iload_n 2]))
  (blk E_Mod_nearest [.istore_n 2]))))))
  (blk E_Mod_nearest []))
  (blk E_Mod_nearest [.iinc 3 1]))
  (blk E_Mod_nearest []) zFU)
  (rti E_Mod_nearest [.iload_n 2])))
def x_Mod_nearest : Ex := exb true 6 d_Mod_nearest
abbrev r_Mod_nearest : Room := ({ frames := 1, cells := 0, slots := 0, locals := 21 } : Room)
theorem eo_Mod_nearest (hw : zWok w) (cx : CX w p s m args c b_Mod_nearest 6 "CoilSlitsModel") : EnvOk w true p l e r_Mod_nearest s m args below meth c Q b_Mod_nearest 6 "CoilSlitsModel" E_Mod_nearest :=
  ⟨rfl, by decide +kernel, by decide +kernel, by decide +kernel, hw, fun h => absurd h (by decide),
  List.forall_mem_cons.mpr ⟨call_S cx (ct_Mod_far w l hw) tw_902 tw_900 tw_8 tw_901 (by decide +kernel) ⟨Nat.le_of_ble_eq_true rfl, Nat.le_of_ble_eq_true rfl⟩, fun q hq => absurd hq List.not_mem_nil⟩⟩
theorem sn_Mod_nearest (h : MC w true p l e R s m args below meth c Q b_Mod_nearest 6 "CoilSlitsModel" E_Mod_nearest 0 0 F (some .int)) : Sn (zK w true p l e R s m args below meth c Q 6) F (fun _ => False) (fun _ => False) 0 0 0 d_Mod_nearest 0 0 0 := by
  unfold d_Mod_nearest
  exact (sn_sq (pm := 4) (m_blk h zz (by decide +kernel))
  (sn_sq (pm := 91) (sn_lop (pt := 10) (pu := 88) (p2 := 88) (px := 91) (kb2 := fun _ => False) (kc2 := fun _ => False) (sc_fo m_fo (sc_no (m_cat h zz (p1 := 7) (tgt := 91) (by decide +kernel) (by decide +kernel) (by decide))))
  (sn_sq (pm := 85) (sn_ite (pt := 15) (pf := 85) (sc_no (m_cat h zz (p1 := 12) (tgt := 85) (by decide +kernel) (by decide +kernel) (by decide)))
  (sn_sq (pm := 37) (sn_ite (pt := 20) (pf := 24) (sc_no (m_cat h zz (p1 := 17) (tgt := 24) (by decide +kernel) (by decide +kernel) (by decide)))
  (sn_goto (pm := 21) (m_blk h zz (by decide +kernel)) (m_goto h (off := 16) (by decide +kernel) (by decide)))
  (m_blk h zz (by decide +kernel)))
  (sn_sq (pm := 39) (m_blk h zz (by decide +kernel))
  (sn_sq (pm := 62) (sn_ite (pt := 57) (pf := 61) (sc_an (pm := 44) (sc_no (m_cat h zz (p1 := 41) (tgt := 61) (by decide +kernel) (by decide +kernel) (by decide))) (sc_no (m_cat h zz (p1 := 54) (tgt := 61) (by decide +kernel) (by decide +kernel) (by decide))))
  (sn_goto (pm := 58) (m_blk h zz (by decide +kernel)) (m_goto h (off := 4) (by decide +kernel) (by decide)))
  (m_blk h zz (by decide +kernel)))
  (sn_sq (pm := 64) (m_blk h zz (by decide +kernel))
  (sn_sq (pm := 84) (sn_ite (pt := 79) (pf := 83) (sc_or (pm := 69) (m_cat h zz (p1 := 66) (tgt := 79) (by decide +kernel) (by decide +kernel) (by decide)) (sc_an (pm := 74) (sc_no (m_cat h zz (p1 := 71) (tgt := 83) (by decide +kernel) (by decide +kernel) (by decide))) (sc_no (m_cat h zz (p1 := 76) (tgt := 83) (by decide +kernel) (by decide +kernel) (by decide)))))
  (sn_goto (pm := 80) (m_blk h zz (by decide +kernel)) (m_goto h (off := 4) (by decide +kernel) (by decide)))
  (m_blk h zz (by decide +kernel)))
  (m_blk h zz (by decide +kernel)))))))
  (m_blk h zz rfl))
  (m_blk h zz (by decide +kernel)))
  (m_blk h zz rfl) (m_goto h (off := (-84)) (by decide +kernel) (by decide)) zFU)
  (m_rti h zz (p1 := 92) (by decide +kernel) (by decide +kernel) (Nat.zero_le _) (Nat.zero_le _))))
theorem ct_Mod_nearest (w : Wd) (l : Launch) (hw : zWok w) : CT w l y_Mod_nearest b_Mod_nearest 6 (some .int) r_Mod_nearest (exb true 6 d_Mod_nearest) :=
  ct_plain (by decide +kernel) (fun p e s m args below meth c Q cx hnm => eo_Mod_nearest hw cx) (fun p e s m args below meth c Q F h => sn_Mod_nearest h)
theorem q_Mod_nearest (x0 : Nat) (x1 : Int32) (g : G) : x_Mod_nearest [.ref x0, .int x1] g = zres (d_Mod_nearest ([some (.ref x0), some (.int x1), none, none, none, none], [], g)) := q_of [some (.ref x0), some (.int x1), none, none, none, none] rfl (Nat.le_of_ble_eq_true rfl) (Or.inr rfl)
theorem lc_Mod_nearest_59 : lookI (eC E_Mod_nearest) (.invokestatic 59) = some (2, x_Mod_far) := rfl
theorem lb_Mod_nearest : eB E_Mod_nearest = true := rfl
theorem lt_Mod_nearest : eT E_Mod_nearest = zST := rfl
-- CoilSlitsModel.digs
def E_Mod_digs : Env := (true, [], [(.invokestatic 63, 2, x_Mod_above), (.invokestatic 66, 2, x_Mod_nearest), (.invokestatic 69, 3, x_Mod_moves)], [], [], zST, false)
def d_Mod_digs : Dn := (sq (blk E_Mod_digs [.aload_n 0, .iload_n 1, .invokestatic 63, .istore_n 2, .iconst 0, .istore_n 3])
  (sq (lop (cno (cat E_Mod_digs [.iload_n 3, .iload_n 2] (.if_icmp .ge 24)))
  (blk E_Mod_digs [.aload_n 0, .iload_n 1, .iconst 5, .idiv, .aload_n 0, .iload_n 1, .iconst 5, .idiv, .invokestatic 66, .invokestatic 69, .pop, .iinc 3 1])
  (blk E_Mod_digs []) zFU)
  (rti E_Mod_digs [.iload_n 2])))
def x_Mod_digs : Ex := exb true 4 d_Mod_digs
abbrev r_Mod_digs : Room := ({ frames := 2, cells := 0, slots := 0, locals := 51 } : Room)
theorem eo_Mod_digs (hw : zWok w) (cx : CX w p s m args c b_Mod_digs 4 "CoilSlitsModel") : EnvOk w true p l e r_Mod_digs s m args below meth c Q b_Mod_digs 4 "CoilSlitsModel" E_Mod_digs :=
  ⟨rfl, by decide +kernel, by decide +kernel, by decide +kernel, hw, fun h => absurd h (by decide),
  List.forall_mem_cons.mpr ⟨call_S cx (ct_Mod_above w l hw) tw_922 tw_920 tw_8 tw_921 (by decide +kernel) ⟨Nat.le_of_ble_eq_true rfl, Nat.le_of_ble_eq_true rfl⟩, List.forall_mem_cons.mpr ⟨call_S cx (ct_Mod_nearest w l hw) tw_928 tw_926 tw_8 tw_927 (by decide +kernel) ⟨Nat.le_of_ble_eq_true rfl, Nat.le_of_ble_eq_true rfl⟩, List.forall_mem_cons.mpr ⟨call_S cx (ct_Mod_moves w l hw) tw_893 tw_891 tw_8 tw_892 (by decide +kernel) ⟨Nat.le_of_ble_eq_true rfl, Nat.le_of_ble_eq_true rfl⟩, fun q hq => absurd hq List.not_mem_nil⟩⟩⟩⟩
theorem sn_Mod_digs (h : MC w true p l e R s m args below meth c Q b_Mod_digs 4 "CoilSlitsModel" E_Mod_digs 0 0 F (some .int)) : Sn (zK w true p l e R s m args below meth c Q 4) F (fun _ => False) (fun _ => False) 0 0 0 d_Mod_digs 0 0 0 := by
  unfold d_Mod_digs
  exact (sn_sq (pm := 8) (m_blk h zz (by decide +kernel))
  (sn_sq (pm := 34) (sn_lop (pt := 13) (pu := 31) (p2 := 31) (px := 34) (kb2 := fun _ => False) (kc2 := fun _ => False) (sc_no (m_cat h zz (p1 := 10) (tgt := 34) (by decide +kernel) (by decide +kernel) (by decide)))
  (m_blk h zz (by decide +kernel))
  (m_blk h zz rfl) (m_goto h (off := (-23)) (by decide +kernel) (by decide)) zFU)
  (m_rti h zz (p1 := 35) (by decide +kernel) (by decide +kernel) (Nat.zero_le _) (Nat.zero_le _))))
theorem ct_Mod_digs (w : Wd) (l : Launch) (hw : zWok w) : CT w l y_Mod_digs b_Mod_digs 4 (some .int) r_Mod_digs (exb true 4 d_Mod_digs) :=
  ct_plain (by decide +kernel) (fun p e s m args below meth c Q cx hnm => eo_Mod_digs hw cx) (fun p e s m args below meth c Q F h => sn_Mod_digs h)
theorem q_Mod_digs (x0 : Nat) (x1 : Int32) (g : G) : x_Mod_digs [.ref x0, .int x1] g = zres (d_Mod_digs ([some (.ref x0), some (.int x1), none, none], [], g)) := q_of [some (.ref x0), some (.int x1), none, none] rfl (Nat.le_of_ble_eq_true rfl) (Or.inr rfl)
theorem lc_Mod_digs_63 : lookI (eC E_Mod_digs) (.invokestatic 63) = some (2, x_Mod_above) := rfl
theorem lc_Mod_digs_66 : lookI (eC E_Mod_digs) (.invokestatic 66) = some (2, x_Mod_nearest) := rfl
theorem lc_Mod_digs_69 : lookI (eC E_Mod_digs) (.invokestatic 69) = some (3, x_Mod_moves) := rfl
theorem lb_Mod_digs : eB E_Mod_digs = true := rfl
-- CoilSlitsModel.fits
def E_Mod_fits : Env := (true, [], [(.invokestatic 44, 3, x_Mod_of), (.invokestatic 48, 3, x_Mod_by)], [], [], zST, false)
def d_Mod_fits : Dn := (rti E_Mod_fits [.aload_n 0, .iload_n 2, .iconst 1, .invokestatic 44, .aload_n 0, .iload_n 1, .iconst 3, .invokestatic 48, .aload_n 0, .iconst 1, .iaload, .iadd, .idiv])
def x_Mod_fits : Ex := exb true 3 d_Mod_fits
abbrev r_Mod_fits : Room := ({ frames := 1, cells := 0, slots := 0, locals := 22 } : Room)
theorem eo_Mod_fits (hw : zWok w) (cx : CX w p s m args c b_Mod_fits 3 "CoilSlitsModel") : EnvOk w true p l e r_Mod_fits s m args below meth c Q b_Mod_fits 3 "CoilSlitsModel" E_Mod_fits :=
  ⟨rfl, by decide +kernel, by decide +kernel, by decide +kernel, hw, fun h => absurd h (by decide),
  List.forall_mem_cons.mpr ⟨call_S cx (ct_Mod_of w l hw) tw_899 tw_897 tw_8 tw_898 (by decide +kernel) ⟨Nat.le_of_ble_eq_true rfl, Nat.le_of_ble_eq_true rfl⟩, List.forall_mem_cons.mpr ⟨call_S cx (ct_Mod_by w l hw) tw_946 tw_944 tw_8 tw_945 (by decide +kernel) ⟨Nat.le_of_ble_eq_true rfl, Nat.le_of_ble_eq_true rfl⟩, fun q hq => absurd hq List.not_mem_nil⟩⟩⟩
theorem sn_Mod_fits (h : MC w true p l e R s m args below meth c Q b_Mod_fits 3 "CoilSlitsModel" E_Mod_fits 0 0 F (some .int)) : Sn (zK w true p l e R s m args below meth c Q 3) F (fun _ => False) (fun _ => False) 0 0 0 d_Mod_fits 0 0 0 := by
  unfold d_Mod_fits
  exact (m_rti h zz (p1 := 17) (by decide +kernel) (by decide +kernel) (Nat.zero_le _) (Nat.zero_le _))
theorem ct_Mod_fits (w : Wd) (l : Launch) (hw : zWok w) : CT w l y_Mod_fits b_Mod_fits 3 (some .int) r_Mod_fits (exb true 3 d_Mod_fits) :=
  ct_plain (by decide +kernel) (fun p e s m args below meth c Q cx hnm => eo_Mod_fits hw cx) (fun p e s m args below meth c Q F h => sn_Mod_fits h)
theorem q_Mod_fits (x0 : Nat) (x1 : Int32) (x2 : Int32) (g : G) : x_Mod_fits [.ref x0, .int x1, .int x2] g = zres (d_Mod_fits ([some (.ref x0), some (.int x1), some (.int x2)], [], g)) := q_of [some (.ref x0), some (.int x1), some (.int x2)] rfl (Nat.le_of_ble_eq_true rfl) (Or.inr rfl)
theorem lc_Mod_fits_44 : lookI (eC E_Mod_fits) (.invokestatic 44) = some (3, x_Mod_of) := rfl
theorem lc_Mod_fits_48 : lookI (eC E_Mod_fits) (.invokestatic 48) = some (3, x_Mod_by) := rfl
theorem lb_Mod_fits : eB E_Mod_fits = true := rfl
theorem lt_Mod_fits : eT E_Mod_fits = zST := rfl
-- CoilSlitsModel.reason
def E_Mod_reason : Env := (true, [], [(.invokestatic 44, 3, x_Mod_of), (.invokestatic 48, 3, x_Mod_by), (.invokestatic 72, 3, x_Mod_fits), (.invokestatic 75, 2, x_Mod_canDig)], [], [], zST, false)
def d_Mod_reason : Dn := (sq (ite' (cno (cat E_Mod_reason [.aload_n 0, .iload_n 2, .iconst 2, .invokestatic 44, .aload_n 0, .iload_n 1, .iconst 1, .invokestatic 48] (.if_icmp .eq 5)))
  (rti E_Mod_reason [.iconst 1])
  (blk E_Mod_reason []))
  (sq (ite' (cno (cat E_Mod_reason [.aload_n 0, .iload_n 2, .iconst 3, .invokestatic 44, .aload_n 0, .iload_n 1, .iconst 2, .invokestatic 48] (.if_icmp .ge 5)))
  (rti E_Mod_reason [.iconst 2])
  (blk E_Mod_reason []))
  (sq (ite' (cno (cat E_Mod_reason [.aload_n 0, .iload_n 1, .iload_n 2, .invokestatic 72] (.ifCond .ne 7)))
  (blk E_Mod_reason [.iconst 3])
  (ite' (cno (cat E_Mod_reason [.aload_n 0, .iload_n 2, .invokestatic 75] (.ifCond .eq 7)))
  (blk E_Mod_reason [.iconst 0])
  (blk E_Mod_reason [.iconst 4])))
  (rti E_Mod_reason []))))
def x_Mod_reason : Ex := exb true 3 d_Mod_reason
abbrev r_Mod_reason : Room := ({ frames := 2, cells := 0, slots := 0, locals := 44 } : Room)
theorem eo_Mod_reason (hw : zWok w) (cx : CX w p s m args c b_Mod_reason 3 "CoilSlitsModel") : EnvOk w true p l e r_Mod_reason s m args below meth c Q b_Mod_reason 3 "CoilSlitsModel" E_Mod_reason :=
  ⟨rfl, by decide +kernel, by decide +kernel, by decide +kernel, hw, fun h => absurd h (by decide),
  List.forall_mem_cons.mpr ⟨call_S cx (ct_Mod_of w l hw) tw_899 tw_897 tw_8 tw_898 (by decide +kernel) ⟨Nat.le_of_ble_eq_true rfl, Nat.le_of_ble_eq_true rfl⟩, List.forall_mem_cons.mpr ⟨call_S cx (ct_Mod_by w l hw) tw_946 tw_944 tw_8 tw_945 (by decide +kernel) ⟨Nat.le_of_ble_eq_true rfl, Nat.le_of_ble_eq_true rfl⟩, List.forall_mem_cons.mpr ⟨call_S cx (ct_Mod_fits w l hw) tw_959 tw_957 tw_8 tw_958 (by decide +kernel) ⟨Nat.le_of_ble_eq_true rfl, Nat.le_of_ble_eq_true rfl⟩, List.forall_mem_cons.mpr ⟨call_S cx (ct_Mod_canDig w l hw) tw_919 tw_917 tw_8 tw_918 (by decide +kernel) ⟨Nat.le_of_ble_eq_true rfl, Nat.le_of_ble_eq_true rfl⟩, fun q hq => absurd hq List.not_mem_nil⟩⟩⟩⟩⟩
theorem sn_Mod_reason (h : MC w true p l e R s m args below meth c Q b_Mod_reason 3 "CoilSlitsModel" E_Mod_reason 0 0 F (some .int)) : Sn (zK w true p l e R s m args below meth c Q 3) F (fun _ => False) (fun _ => False) 0 0 0 d_Mod_reason 0 0 0 := by
  unfold d_Mod_reason
  exact (sn_sq (pm := 17) (sn_ite (pt := 15) (pf := 17) (sc_no (m_cat h zz (p1 := 12) (tgt := 17) (by decide +kernel) (by decide +kernel) (by decide)))
  (m_rti h zz (p1 := 16) (by decide +kernel) (by decide +kernel) (Nat.zero_le _) (Nat.zero_le _))
  (m_blk h zz rfl))
  (sn_sq (pm := 34) (sn_ite (pt := 32) (pf := 34) (sc_no (m_cat h zz (p1 := 29) (tgt := 34) (by decide +kernel) (by decide +kernel) (by decide)))
  (m_rti h zz (p1 := 33) (by decide +kernel) (by decide +kernel) (Nat.zero_le _) (Nat.zero_le _))
  (m_blk h zz rfl))
  (sn_sq (pm := 60) (sn_ite (pt := 43) (pf := 47) (sc_no (m_cat h zz (p1 := 40) (tgt := 47) (by decide +kernel) (by decide +kernel) (by decide)))
  (sn_goto (pm := 44) (m_blk h zz (by decide +kernel)) (m_goto h (off := 16) (by decide +kernel) (by decide)))
  (sn_ite (pt := 55) (pf := 59) (sc_no (m_cat h zz (p1 := 52) (tgt := 59) (by decide +kernel) (by decide +kernel) (by decide)))
  (sn_goto (pm := 56) (m_blk h zz (by decide +kernel)) (m_goto h (off := 4) (by decide +kernel) (by decide)))
  (m_blk h zz (by decide +kernel))))
  (m_rti h zz (p1 := 60) (by decide +kernel) (by decide +kernel) (Nat.zero_le _) (Nat.zero_le _)))))
theorem ct_Mod_reason (w : Wd) (l : Launch) (hw : zWok w) : CT w l y_Mod_reason b_Mod_reason 3 (some .int) r_Mod_reason (exb true 3 d_Mod_reason) :=
  ct_plain (by decide +kernel) (fun p e s m args below meth c Q cx hnm => eo_Mod_reason hw cx) (fun p e s m args below meth c Q F h => sn_Mod_reason h)
theorem q_Mod_reason (x0 : Nat) (x1 : Int32) (x2 : Int32) (g : G) : x_Mod_reason [.ref x0, .int x1, .int x2] g = zres (d_Mod_reason ([some (.ref x0), some (.int x1), some (.int x2)], [], g)) := q_of [some (.ref x0), some (.int x1), some (.int x2)] rfl (Nat.le_of_ble_eq_true rfl) (Or.inr rfl)
theorem lc_Mod_reason_44 : lookI (eC E_Mod_reason) (.invokestatic 44) = some (3, x_Mod_of) := rfl
theorem lc_Mod_reason_48 : lookI (eC E_Mod_reason) (.invokestatic 48) = some (3, x_Mod_by) := rfl
theorem lc_Mod_reason_72 : lookI (eC E_Mod_reason) (.invokestatic 72) = some (3, x_Mod_fits) := rfl
theorem lc_Mod_reason_75 : lookI (eC E_Mod_reason) (.invokestatic 75) = some (2, x_Mod_canDig) := rfl
theorem lb_Mod_reason : eB E_Mod_reason = true := rfl
-- CoilSlitsModel.cuts
def E_Mod_cuts : Env := (true, [], [(.invokestatic 72, 3, x_Mod_fits), (.invokestatic 48, 3, x_Mod_by)], [], [], zST, false)
def d_Mod_cuts : Dn := (sq (blk E_Mod_cuts [.aload_n 0, .iload_n 1, .iload_n 2, .invokestatic 72, .istore_n 3])
  (sq (ite' (cno (cat E_Mod_cuts [.iload_n 3, .aload_n 0, .iload_n 1, .iconst 4, .invokestatic 48] (.if_icmp .ge 7)))
  (blk E_Mod_cuts [.iload_n 3])
  (blk E_Mod_cuts [.aload_n 0, .iload_n 1, .iconst 4, .invokestatic 48]))
  (rti E_Mod_cuts [])))
def x_Mod_cuts : Ex := exb true 4 d_Mod_cuts
abbrev r_Mod_cuts : Room := ({ frames := 2, cells := 0, slots := 0, locals := 44 } : Room)
theorem eo_Mod_cuts (hw : zWok w) (cx : CX w p s m args c b_Mod_cuts 4 "CoilSlitsModel") : EnvOk w true p l e r_Mod_cuts s m args below meth c Q b_Mod_cuts 4 "CoilSlitsModel" E_Mod_cuts :=
  ⟨rfl, by decide +kernel, by decide +kernel, by decide +kernel, hw, fun h => absurd h (by decide),
  List.forall_mem_cons.mpr ⟨call_S cx (ct_Mod_fits w l hw) tw_959 tw_957 tw_8 tw_958 (by decide +kernel) ⟨Nat.le_of_ble_eq_true rfl, Nat.le_of_ble_eq_true rfl⟩, List.forall_mem_cons.mpr ⟨call_S cx (ct_Mod_by w l hw) tw_946 tw_944 tw_8 tw_945 (by decide +kernel) ⟨Nat.le_of_ble_eq_true rfl, Nat.le_of_ble_eq_true rfl⟩, fun q hq => absurd hq List.not_mem_nil⟩⟩⟩
theorem sn_Mod_cuts (h : MC w true p l e R s m args below meth c Q b_Mod_cuts 4 "CoilSlitsModel" E_Mod_cuts 0 0 F (some .int)) : Sn (zK w true p l e R s m args below meth c Q 4) F (fun _ => False) (fun _ => False) 0 0 0 d_Mod_cuts 0 0 0 := by
  unfold d_Mod_cuts
  exact (sn_sq (pm := 7) (m_blk h zz (by decide +kernel))
  (sn_sq (pm := 27) (sn_ite (pt := 17) (pf := 21) (sc_no (m_cat h zz (p1 := 14) (tgt := 21) (by decide +kernel) (by decide +kernel) (by decide)))
  (sn_goto (pm := 18) (m_blk h zz (by decide +kernel)) (m_goto h (off := 9) (by decide +kernel) (by decide)))
  (m_blk h zz (by decide +kernel)))
  (m_rti h zz (p1 := 27) (by decide +kernel) (by decide +kernel) (Nat.zero_le _) (Nat.zero_le _))))
theorem ct_Mod_cuts (w : Wd) (l : Launch) (hw : zWok w) : CT w l y_Mod_cuts b_Mod_cuts 4 (some .int) r_Mod_cuts (exb true 4 d_Mod_cuts) :=
  ct_plain (by decide +kernel) (fun p e s m args below meth c Q cx hnm => eo_Mod_cuts hw cx) (fun p e s m args below meth c Q F h => sn_Mod_cuts h)
theorem q_Mod_cuts (x0 : Nat) (x1 : Int32) (x2 : Int32) (g : G) : x_Mod_cuts [.ref x0, .int x1, .int x2] g = zres (d_Mod_cuts ([some (.ref x0), some (.int x1), some (.int x2), none], [], g)) := q_of [some (.ref x0), some (.int x1), some (.int x2), none] rfl (Nat.le_of_ble_eq_true rfl) (Or.inr rfl)
theorem lc_Mod_cuts_72 : lookI (eC E_Mod_cuts) (.invokestatic 72) = some (3, x_Mod_fits) := rfl
theorem lc_Mod_cuts_48 : lookI (eC E_Mod_cuts) (.invokestatic 48) = some (3, x_Mod_by) := rfl
theorem lb_Mod_cuts : eB E_Mod_cuts = true := rfl
-- CoilSlitsModel.restOf
def E_Mod_restOf : Env := (true, [], [(.invokestatic 44, 3, x_Mod_of), (.invokestatic 78, 3, x_Mod_cuts), (.invokestatic 48, 3, x_Mod_by)], [], [], zST, false)
def d_Mod_restOf : Dn := (rti E_Mod_restOf [.aload_n 0, .iload_n 2, .iconst 1, .invokestatic 44, .aload_n 0, .iload_n 1, .iload_n 2, .invokestatic 78, .aload_n 0, .iload_n 1, .iconst 3, .invokestatic 48, .aload_n 0, .iconst 1, .iaload, .iadd, .imul, .isub])
def x_Mod_restOf : Ex := exb true 3 d_Mod_restOf
abbrev r_Mod_restOf : Room := ({ frames := 3, cells := 0, slots := 0, locals := 67 } : Room)
theorem eo_Mod_restOf (hw : zWok w) (cx : CX w p s m args c b_Mod_restOf 3 "CoilSlitsModel") : EnvOk w true p l e r_Mod_restOf s m args below meth c Q b_Mod_restOf 3 "CoilSlitsModel" E_Mod_restOf :=
  ⟨rfl, by decide +kernel, by decide +kernel, by decide +kernel, hw, fun h => absurd h (by decide),
  List.forall_mem_cons.mpr ⟨call_S cx (ct_Mod_of w l hw) tw_899 tw_897 tw_8 tw_898 (by decide +kernel) ⟨Nat.le_of_ble_eq_true rfl, Nat.le_of_ble_eq_true rfl⟩, List.forall_mem_cons.mpr ⟨call_S cx (ct_Mod_cuts w l hw) tw_965 tw_963 tw_8 tw_964 (by decide +kernel) ⟨Nat.le_of_ble_eq_true rfl, Nat.le_of_ble_eq_true rfl⟩, List.forall_mem_cons.mpr ⟨call_S cx (ct_Mod_by w l hw) tw_946 tw_944 tw_8 tw_945 (by decide +kernel) ⟨Nat.le_of_ble_eq_true rfl, Nat.le_of_ble_eq_true rfl⟩, fun q hq => absurd hq List.not_mem_nil⟩⟩⟩⟩
theorem sn_Mod_restOf (h : MC w true p l e R s m args below meth c Q b_Mod_restOf 3 "CoilSlitsModel" E_Mod_restOf 0 0 F (some .int)) : Sn (zK w true p l e R s m args below meth c Q 3) F (fun _ => False) (fun _ => False) 0 0 0 d_Mod_restOf 0 0 0 := by
  unfold d_Mod_restOf
  exact (m_rti h zz (p1 := 24) (by decide +kernel) (by decide +kernel) (Nat.zero_le _) (Nat.zero_le _))
theorem ct_Mod_restOf (w : Wd) (l : Launch) (hw : zWok w) : CT w l y_Mod_restOf b_Mod_restOf 3 (some .int) r_Mod_restOf (exb true 3 d_Mod_restOf) :=
  ct_plain (by decide +kernel) (fun p e s m args below meth c Q cx hnm => eo_Mod_restOf hw cx) (fun p e s m args below meth c Q F h => sn_Mod_restOf h)
theorem q_Mod_restOf (x0 : Nat) (x1 : Int32) (x2 : Int32) (g : G) : x_Mod_restOf [.ref x0, .int x1, .int x2] g = zres (d_Mod_restOf ([some (.ref x0), some (.int x1), some (.int x2)], [], g)) := q_of [some (.ref x0), some (.int x1), some (.int x2)] rfl (Nat.le_of_ble_eq_true rfl) (Or.inr rfl)
theorem lc_Mod_restOf_44 : lookI (eC E_Mod_restOf) (.invokestatic 44) = some (3, x_Mod_of) := rfl
theorem lc_Mod_restOf_78 : lookI (eC E_Mod_restOf) (.invokestatic 78) = some (3, x_Mod_cuts) := rfl
theorem lc_Mod_restOf_48 : lookI (eC E_Mod_restOf) (.invokestatic 48) = some (3, x_Mod_by) := rfl
theorem lb_Mod_restOf : eB E_Mod_restOf = true := rfl
theorem lt_Mod_restOf : eT E_Mod_restOf = zST := rfl
-- CoilSlitsModel.chosen
def E_Mod_chosen : Env := (true, [], [(.invokestatic 40, 2, x_Mod_isAt), (.invokestatic 81, 3, x_Mod_reason), (.invokestatic 84, 3, x_Mod_restOf), (.invokestatic 63, 2, x_Mod_above), (.invokestatic 44, 3, x_Mod_of)], [], [], zST, false)
def d_Mod_chosen : Dn := (sq (blk E_Mod_chosen [.iconst (-1), .istore_n 2, .iconst 0, .istore_n 3, .iconst 0, .istore 4])
  (sq (lop (cfo [5, 6] (cno (cat E_Mod_chosen [.iload 4, .bipush 30] (.if_icmp .ge 133))))
  (sq (ite' (can (cno (cat E_Mod_chosen [.aload_n 0, .iload 4, .invokestatic 40] (.ifCond .eq 118))) (cno (cat E_Mod_chosen [.aload_n 0, .iload_n 1, .iload 4, .invokestatic 81] (.ifCond .ne 108))))
  (sq (ite' (cno (cat E_Mod_chosen [.aload_n 0, .iconst 3, .iaload] (.ifCond .ne 13)))
  (blk E_Mod_chosen [.aload_n 0, .iload_n 1, .iload 4, .invokestatic 84])
  (ite' (cno (cat E_Mod_chosen [.aload_n 0, .iconst 3, .iaload, .iconst 1] (.if_icmp .ne 12)))
  (blk E_Mod_chosen [.aload_n 0, .iload 4, .invokestatic 63])
  (blk E_Mod_chosen [.aload_n 0, .iload 4, .iconst 3, .invokestatic 44])))
  (sq (blk E_Mod_chosen [.istore 5])
  (sq (ite' (cor (cat E_Mod_chosen [.iload_n 2, .iconst (-1)] (.if_icmp .eq 31)) (cor (cat E_Mod_chosen [.iload 5, .iload_n 3] (.if_icmp .lt 25)) (can (cno (cat E_Mod_chosen [.iload 5, .iload_n 3] (.if_icmp .ne 23))) (cno (cat E_Mod_chosen [.aload_n 0, .iload 4, .iconst 0, .invokestatic 44, .aload_n 0, .iload_n 2, .iconst 0, .invokestatic 44] (.if_icmp .ge 7))))))
  (blk E_Mod_chosen [.iconst 1])
  (blk E_Mod_chosen [.iconst 0]))
  (sq (blk E_Mod_chosen [.istore 6])
  (sq (ite' (cno (cat E_Mod_chosen [.iload 6] (.ifCond .eq 8)))
  (blk E_Mod_chosen [.iload 4])
  (blk E_Mod_chosen [.iload_n 2]))
  (sq (blk E_Mod_chosen [.istore_n 2])
  (sq (ite' (cno (cat E_Mod_chosen [.iload 6] (.ifCond .eq 8)))
  (blk E_Mod_chosen [.iload 5])
  (blk E_Mod_chosen [.iload_n 3]))
  (blk E_Mod_chosen [.istore_n 3]))))))))
  (blk E_Mod_chosen []))
  (blk E_Mod_chosen [.iinc 4 1]))
  (blk E_Mod_chosen []) zFU)
  (rti E_Mod_chosen [.iload_n 2])))
def x_Mod_chosen : Ex := exb true 7 d_Mod_chosen
abbrev r_Mod_chosen : Room := ({ frames := 4, cells := 0, slots := 0, locals := 89 } : Room)
theorem eo_Mod_chosen (hw : zWok w) (cx : CX w p s m args c b_Mod_chosen 7 "CoilSlitsModel") : EnvOk w true p l e r_Mod_chosen s m args below meth c Q b_Mod_chosen 7 "CoilSlitsModel" E_Mod_chosen :=
  ⟨rfl, by decide +kernel, by decide +kernel, by decide +kernel, hw, fun h => absurd h (by decide),
  List.forall_mem_cons.mpr ⟨call_S cx (ct_Mod_isAt w l hw) tw_912 tw_910 tw_8 tw_911 (by decide +kernel) ⟨Nat.le_of_ble_eq_true rfl, Nat.le_of_ble_eq_true rfl⟩, List.forall_mem_cons.mpr ⟨call_S cx (ct_Mod_reason w l hw) tw_956 tw_954 tw_8 tw_955 (by decide +kernel) ⟨Nat.le_of_ble_eq_true rfl, Nat.le_of_ble_eq_true rfl⟩, List.forall_mem_cons.mpr ⟨call_S cx (ct_Mod_restOf w l hw) tw_968 tw_966 tw_8 tw_967 (by decide +kernel) ⟨Nat.le_of_ble_eq_true rfl, Nat.le_of_ble_eq_true rfl⟩, List.forall_mem_cons.mpr ⟨call_S cx (ct_Mod_above w l hw) tw_922 tw_920 tw_8 tw_921 (by decide +kernel) ⟨Nat.le_of_ble_eq_true rfl, Nat.le_of_ble_eq_true rfl⟩, List.forall_mem_cons.mpr ⟨call_S cx (ct_Mod_of w l hw) tw_899 tw_897 tw_8 tw_898 (by decide +kernel) ⟨Nat.le_of_ble_eq_true rfl, Nat.le_of_ble_eq_true rfl⟩, fun q hq => absurd hq List.not_mem_nil⟩⟩⟩⟩⟩⟩
theorem sn_Mod_chosen (h : MC w true p l e R s m args below meth c Q b_Mod_chosen 7 "CoilSlitsModel" E_Mod_chosen 0 0 F (some .int)) : Sn (zK w true p l e R s m args below meth c Q 7) F (fun _ => False) (fun _ => False) 0 0 0 d_Mod_chosen 0 0 0 := by
  unfold d_Mod_chosen
  exact (sn_sq (pm := 7) (m_blk h zz (by decide +kernel))
  (sn_sq (pm := 144) (sn_lop (pt := 14) (pu := 141) (p2 := 141) (px := 144) (kb2 := fun _ => False) (kc2 := fun _ => False) (sc_fo m_fo (sc_no (m_cat h zz (p1 := 11) (tgt := 144) (by decide +kernel) (by decide +kernel) (by decide))))
  (sn_sq (pm := 138) (sn_ite (pt := 33) (pf := 138) (sc_an (pm := 23) (sc_no (m_cat h zz (p1 := 20) (tgt := 138) (by decide +kernel) (by decide +kernel) (by decide))) (sc_no (m_cat h zz (p1 := 30) (tgt := 138) (by decide +kernel) (by decide +kernel) (by decide))))
  (sn_sq (pm := 72) (sn_ite (pt := 39) (pf := 49) (sc_no (m_cat h zz (p1 := 36) (tgt := 49) (by decide +kernel) (by decide +kernel) (by decide)))
  (sn_goto (pm := 46) (m_blk h zz (by decide +kernel)) (m_goto h (off := 26) (by decide +kernel) (by decide)))
  (sn_ite (pt := 56) (pf := 65) (sc_no (m_cat h zz (p1 := 53) (tgt := 65) (by decide +kernel) (by decide +kernel) (by decide)))
  (sn_goto (pm := 62) (m_blk h zz (by decide +kernel)) (m_goto h (off := 10) (by decide +kernel) (by decide)))
  (m_blk h zz (by decide +kernel))))
  (sn_sq (pm := 74) (m_blk h zz (by decide +kernel))
  (sn_sq (pm := 112) (sn_ite (pt := 107) (pf := 111) (sc_or (pm := 79) (m_cat h zz (p1 := 76) (tgt := 107) (by decide +kernel) (by decide +kernel) (by decide)) (sc_or (pm := 85) (m_cat h zz (p1 := 82) (tgt := 107) (by decide +kernel) (by decide +kernel) (by decide)) (sc_an (pm := 91) (sc_no (m_cat h zz (p1 := 88) (tgt := 111) (by decide +kernel) (by decide +kernel) (by decide))) (sc_no (m_cat h zz (p1 := 104) (tgt := 111) (by decide +kernel) (by decide +kernel) (by decide))))))
  (sn_goto (pm := 108) (m_blk h zz (by decide +kernel)) (m_goto h (off := 4) (by decide +kernel) (by decide)))
  (m_blk h zz (by decide +kernel)))
  (sn_sq (pm := 114) (m_blk h zz (by decide +kernel))
  (sn_sq (pm := 125) (sn_ite (pt := 119) (pf := 124) (sc_no (m_cat h zz (p1 := 116) (tgt := 124) (by decide +kernel) (by decide +kernel) (by decide)))
  (sn_goto (pm := 121) (m_blk h zz (by decide +kernel)) (m_goto h (off := 4) (by decide +kernel) (by decide)))
  (m_blk h zz (by decide +kernel)))
  (sn_sq (pm := 126) (m_blk h zz (by decide +kernel))
  (sn_sq (pm := 137) (sn_ite (pt := 131) (pf := 136) (sc_no (m_cat h zz (p1 := 128) (tgt := 136) (by decide +kernel) (by decide +kernel) (by decide)))
  (sn_goto (pm := 133) (m_blk h zz (by decide +kernel)) (m_goto h (off := 4) (by decide +kernel) (by decide)))
  (m_blk h zz (by decide +kernel)))
  (m_blk h zz (by decide +kernel)))))))))
  (m_blk h zz rfl))
  (m_blk h zz (by decide +kernel)))
  (m_blk h zz rfl) (m_goto h (off := (-134)) (by decide +kernel) (by decide)) zFU)
  (m_rti h zz (p1 := 145) (by decide +kernel) (by decide +kernel) (Nat.zero_le _) (Nat.zero_le _))))
theorem ct_Mod_chosen (w : Wd) (l : Launch) (hw : zWok w) : CT w l y_Mod_chosen b_Mod_chosen 7 (some .int) r_Mod_chosen (exb true 7 d_Mod_chosen) :=
  ct_plain (by decide +kernel) (fun p e s m args below meth c Q cx hnm => eo_Mod_chosen hw cx) (fun p e s m args below meth c Q F h => sn_Mod_chosen h)
theorem q_Mod_chosen (x0 : Nat) (x1 : Int32) (g : G) : x_Mod_chosen [.ref x0, .int x1] g = zres (d_Mod_chosen ([some (.ref x0), some (.int x1), none, none, none, none, none], [], g)) := q_of [some (.ref x0), some (.int x1), none, none, none, none, none] rfl (Nat.le_of_ble_eq_true rfl) (Or.inr rfl)
theorem lc_Mod_chosen_40 : lookI (eC E_Mod_chosen) (.invokestatic 40) = some (2, x_Mod_isAt) := rfl
theorem lc_Mod_chosen_81 : lookI (eC E_Mod_chosen) (.invokestatic 81) = some (3, x_Mod_reason) := rfl
theorem lc_Mod_chosen_84 : lookI (eC E_Mod_chosen) (.invokestatic 84) = some (3, x_Mod_restOf) := rfl
theorem lc_Mod_chosen_63 : lookI (eC E_Mod_chosen) (.invokestatic 63) = some (2, x_Mod_above) := rfl
theorem lc_Mod_chosen_44 : lookI (eC E_Mod_chosen) (.invokestatic 44) = some (3, x_Mod_of) := rfl
theorem lb_Mod_chosen : eB E_Mod_chosen = true := rfl
theorem lt_Mod_chosen : eT E_Mod_chosen = zST := rfl
-- CoilSlitsModel.orderGoes
def E_Mod_orderGoes : Env := (true, [], [], [], [], zST, false)
def d_Mod_orderGoes : Dn := (sq (blk E_Mod_orderGoes [.aload_n 0, .bipush 15, .dup2, .iaload, .iconst 1, .isub, .iastore, .sipush 172, .bipush 6, .iload_n 1, .imul, .iadd, .istore_n 2])
  (sq (lop (cno (cat E_Mod_orderGoes [.iload_n 2, .sipush 172, .bipush 6, .aload_n 0, .bipush 15, .iaload, .imul, .iadd] (.if_icmp .ge 18)))
  (blk E_Mod_orderGoes [.aload_n 0, .iload_n 2, .aload_n 0, .iload_n 2, .bipush 6, .iadd, .iaload, .iastore, .iinc 2 1])
  (blk E_Mod_orderGoes []) zFU)
  (rtv E_Mod_orderGoes [])))
def x_Mod_orderGoes : Ex := exb true 3 d_Mod_orderGoes
abbrev r_Mod_orderGoes : Room := ({ frames := 0, cells := 0, slots := 0, locals := 0 } : Room)
theorem eo_Mod_orderGoes (hw : zWok w) (cx : CX w p s m args c b_Mod_orderGoes 3 "CoilSlitsModel") : EnvOk w true p l e r_Mod_orderGoes s m args below meth c Q b_Mod_orderGoes 3 "CoilSlitsModel" E_Mod_orderGoes :=
  ⟨rfl, by decide +kernel, by decide +kernel, by decide +kernel, hw, fun h => absurd h (by decide),
  fun q hq => absurd hq List.not_mem_nil⟩
theorem sn_Mod_orderGoes (h : MC w true p l e R s m args below meth c Q b_Mod_orderGoes 3 "CoilSlitsModel" E_Mod_orderGoes 0 0 F none) : Sn (zK w true p l e R s m args below meth c Q 3) F (fun _ => False) (fun _ => False) 0 0 0 d_Mod_orderGoes 0 0 0 := by
  unfold d_Mod_orderGoes
  exact (sn_sq (pm := 17) (m_blk h zz (by decide +kernel))
  (sn_sq (pm := 47) (sn_lop (pt := 32) (pu := 44) (p2 := 44) (px := 47) (kb2 := fun _ => False) (kc2 := fun _ => False) (sc_no (m_cat h zz (p1 := 29) (tgt := 47) (by decide +kernel) (by decide +kernel) (by decide)))
  (m_blk h zz (by decide +kernel))
  (m_blk h zz rfl) (m_goto h (off := (-27)) (by decide +kernel) (by decide)) zFU)
  (m_rtv h zz (p1 := 47) (by decide +kernel) (by decide +kernel) (Nat.zero_le _) (Nat.zero_le _))))
theorem ct_Mod_orderGoes (w : Wd) (l : Launch) (hw : zWok w) : CT w l y_Mod_orderGoes b_Mod_orderGoes 3 none r_Mod_orderGoes (exb true 3 d_Mod_orderGoes) :=
  ct_plain (by decide +kernel) (fun p e s m args below meth c Q cx hnm => eo_Mod_orderGoes hw cx) (fun p e s m args below meth c Q F h => sn_Mod_orderGoes h)
theorem q_Mod_orderGoes (x0 : Nat) (x1 : Int32) (g : G) : x_Mod_orderGoes [.ref x0, .int x1] g = zres (d_Mod_orderGoes ([some (.ref x0), some (.int x1), none], [], g)) := q_of [some (.ref x0), some (.int x1), none] rfl (Nat.le_of_ble_eq_true rfl) (Or.inr rfl)
theorem lb_Mod_orderGoes : eB E_Mod_orderGoes = true := rfl
theorem lt_Mod_orderGoes : eT E_Mod_orderGoes = zST := rfl
-- CoilSlitsModel.slits
def E_Mod_slits : Env := (true, [], [(.invokestatic 87, 2, x_Mod_digs), (.invokestatic 78, 3, x_Mod_cuts), (.invokestatic 84, 3, x_Mod_restOf), (.invokestatic 48, 3, x_Mod_by), (.invokestatic 44, 3, x_Mod_of), (.invokestatic 55, 7, x_Mod_lays), (.invokestatic 90, 2, x_Mod_orderGoes)], [], [], zST, false)
def d_Mod_slits : Dn := (sq (blk E_Mod_slits [.aload_n 0, .iload_n 2, .invokestatic 87, .pop, .aload_n 0, .iload_n 1, .iload_n 2, .invokestatic 78, .istore_n 3, .aload_n 0, .iload_n 1, .iload_n 2, .invokestatic 84, .istore 4, .aload_n 0, .bipush 16, .iload_n 2, .iconst 5, .idiv, .iadd, .dup2, .iaload, .iconst 1, .isub, .iastore, .aload_n 0, .bipush 8, .dup2, .iaload, .iload_n 3, .iadd, .iastore, .aload_n 0, .bipush 9, .dup2, .iaload, .iload_n 3, .aload_n 0, .iload_n 1, .iconst 3, .invokestatic 48, .imul, .iadd, .iastore, .aload_n 0, .bipush 10, .dup2, .iaload, .iload_n 3, .aload_n 0, .iconst 1, .iaload, .imul, .iadd, .iastore, .aload_n 0, .bipush 12, .dup2, .iaload, .iload_n 3, .aload_n 0, .iload_n 1, .iconst 5, .invokestatic 48, .imul, .iadd, .iastore])
  (sq (ite' (cno (cat E_Mod_slits [.iload 4, .aload_n 0, .iconst 0, .iaload] (.if_icmp .lt 55)))
  (sq (blk E_Mod_slits [.aload_n 0, .iload_n 2, .iconst 3, .invokestatic 44, .aload_n 0, .iconst 2, .iaload, .isub, .istore 5, .aload_n 0, .iload_n 2, .iconst 5, .idiv, .aload_n 0, .iconst 4, .iaload, .iload 4, .aload_n 0, .iload_n 2, .iconst 2, .invokestatic 44])
  (sq (ite' (cno (cat E_Mod_slits [.iload 5] (.ifCond .ge 7)))
  (blk E_Mod_slits [.iconst 0])
  (blk E_Mod_slits [.iload 5]))
  (blk E_Mod_slits [.iconst 1, .invokestatic 55, .aload_n 0, .iconst 4, .dup2, .iaload, .iconst 1, .iadd, .iastore])))
  (blk E_Mod_slits [.aload_n 0, .bipush 11, .dup2, .iaload, .iload 4, .iadd, .iastore]))
  (sq (blk E_Mod_slits [.aload_n 0, .sipush 172, .bipush 6, .iload_n 1, .imul, .iadd, .iconst 4, .iadd, .dup2, .iaload, .iload_n 3, .isub, .iastore])
  (sq (ite' (cno (cat E_Mod_slits [.aload_n 0, .iload_n 1, .iconst 4, .invokestatic 48] (.ifCond .ne 8)))
  (blk E_Mod_slits [.aload_n 0, .iload_n 1, .invokestatic 90])
  (blk E_Mod_slits []))
  (rti E_Mod_slits [.iload_n 3])))))
def x_Mod_slits : Ex := exb true 6 d_Mod_slits
abbrev r_Mod_slits : Room := ({ frames := 4, cells := 0, slots := 0, locals := 89 } : Room)
theorem eo_Mod_slits (hw : zWok w) (cx : CX w p s m args c b_Mod_slits 6 "CoilSlitsModel") : EnvOk w true p l e r_Mod_slits s m args below meth c Q b_Mod_slits 6 "CoilSlitsModel" E_Mod_slits :=
  ⟨rfl, by decide +kernel, by decide +kernel, by decide +kernel, hw, fun h => absurd h (by decide),
  List.forall_mem_cons.mpr ⟨call_S cx (ct_Mod_digs w l hw) tw_925 tw_923 tw_8 tw_924 (by decide +kernel) ⟨Nat.le_of_ble_eq_true rfl, Nat.le_of_ble_eq_true rfl⟩, List.forall_mem_cons.mpr ⟨call_S cx (ct_Mod_cuts w l hw) tw_965 tw_963 tw_8 tw_964 (by decide +kernel) ⟨Nat.le_of_ble_eq_true rfl, Nat.le_of_ble_eq_true rfl⟩, List.forall_mem_cons.mpr ⟨call_S cx (ct_Mod_restOf w l hw) tw_968 tw_966 tw_8 tw_967 (by decide +kernel) ⟨Nat.le_of_ble_eq_true rfl, Nat.le_of_ble_eq_true rfl⟩, List.forall_mem_cons.mpr ⟨call_S cx (ct_Mod_by w l hw) tw_946 tw_944 tw_8 tw_945 (by decide +kernel) ⟨Nat.le_of_ble_eq_true rfl, Nat.le_of_ble_eq_true rfl⟩, List.forall_mem_cons.mpr ⟨call_S cx (ct_Mod_of w l hw) tw_899 tw_897 tw_8 tw_898 (by decide +kernel) ⟨Nat.le_of_ble_eq_true rfl, Nat.le_of_ble_eq_true rfl⟩, List.forall_mem_cons.mpr ⟨call_S cx (ct_Mod_lays w l hw) tw_886 tw_884 tw_8 tw_885 (by decide +kernel) ⟨Nat.le_of_ble_eq_true rfl, Nat.le_of_ble_eq_true rfl⟩, List.forall_mem_cons.mpr ⟨call_S cx (ct_Mod_orderGoes w l hw) tw_949 tw_947 tw_8 tw_948 (by decide +kernel) ⟨Nat.le_of_ble_eq_true rfl, Nat.le_of_ble_eq_true rfl⟩, fun q hq => absurd hq List.not_mem_nil⟩⟩⟩⟩⟩⟩⟩⟩
theorem sn_Mod_slits (h : MC w true p l e R s m args below meth c Q b_Mod_slits 6 "CoilSlitsModel" E_Mod_slits 0 0 F (some .int)) : Sn (zK w true p l e R s m args below meth c Q 6) F (fun _ => False) (fun _ => False) 0 0 0 d_Mod_slits 0 0 0 := by
  unfold d_Mod_slits
  exact (sn_sq (pm := 83) (m_blk h zz (by decide +kernel))
  (sn_sq (pm := 152) (sn_ite (pt := 91) (pf := 143) (sc_no (m_cat h zz (p1 := 88) (tgt := 143) (by decide +kernel) (by decide +kernel) (by decide)))
  (sn_goto (pm := 140) (sn_sq (pm := 118) (m_blk h zz (by decide +kernel))
  (sn_sq (pm := 129) (sn_ite (pt := 123) (pf := 127) (sc_no (m_cat h zz (p1 := 120) (tgt := 127) (by decide +kernel) (by decide +kernel) (by decide)))
  (sn_goto (pm := 124) (m_blk h zz (by decide +kernel)) (m_goto h (off := 5) (by decide +kernel) (by decide)))
  (m_blk h zz (by decide +kernel)))
  (m_blk h zz (by decide +kernel)))) (m_goto h (off := 12) (by decide +kernel) (by decide)))
  (m_blk h zz (by decide +kernel)))
  (sn_sq (pm := 168) (m_blk h zz (by decide +kernel))
  (sn_sq (pm := 182) (sn_ite (pt := 177) (pf := 182) (sc_no (m_cat h zz (p1 := 174) (tgt := 182) (by decide +kernel) (by decide +kernel) (by decide)))
  (m_blk h zz (by decide +kernel))
  (m_blk h zz rfl))
  (m_rti h zz (p1 := 183) (by decide +kernel) (by decide +kernel) (Nat.zero_le _) (Nat.zero_le _))))))
theorem ct_Mod_slits (w : Wd) (l : Launch) (hw : zWok w) : CT w l y_Mod_slits b_Mod_slits 6 (some .int) r_Mod_slits (exb true 6 d_Mod_slits) :=
  ct_plain (by decide +kernel) (fun p e s m args below meth c Q cx hnm => eo_Mod_slits hw cx) (fun p e s m args below meth c Q F h => sn_Mod_slits h)
theorem q_Mod_slits (x0 : Nat) (x1 : Int32) (x2 : Int32) (g : G) : x_Mod_slits [.ref x0, .int x1, .int x2] g = zres (d_Mod_slits ([some (.ref x0), some (.int x1), some (.int x2), none, none, none], [], g)) := q_of [some (.ref x0), some (.int x1), some (.int x2), none, none, none] rfl (Nat.le_of_ble_eq_true rfl) (Or.inr rfl)
theorem lc_Mod_slits_87 : lookI (eC E_Mod_slits) (.invokestatic 87) = some (2, x_Mod_digs) := rfl
theorem lc_Mod_slits_78 : lookI (eC E_Mod_slits) (.invokestatic 78) = some (3, x_Mod_cuts) := rfl
theorem lc_Mod_slits_84 : lookI (eC E_Mod_slits) (.invokestatic 84) = some (3, x_Mod_restOf) := rfl
theorem lc_Mod_slits_48 : lookI (eC E_Mod_slits) (.invokestatic 48) = some (3, x_Mod_by) := rfl
theorem lc_Mod_slits_44 : lookI (eC E_Mod_slits) (.invokestatic 44) = some (3, x_Mod_of) := rfl
theorem lc_Mod_slits_55 : lookI (eC E_Mod_slits) (.invokestatic 55) = some (7, x_Mod_lays) := rfl
theorem lc_Mod_slits_90 : lookI (eC E_Mod_slits) (.invokestatic 90) = some (2, x_Mod_orderGoes) := rfl
theorem lb_Mod_slits : eB E_Mod_slits = true := rfl
theorem lt_Mod_slits : eT E_Mod_slits = zST := rfl
-- CoilSlitsModel.serves
def E_Mod_serves : Env := (true, [], [(.invokestatic 94, 2, x_Mod_orderAt), (.invokestatic 97, 2, x_Mod_chosen), (.invokestatic 100, 3, x_Mod_slits)], [], [], zST, false)
def d_Mod_serves : Dn := (sq (blk E_Mod_serves [.iconst 0, .istore_n 2, .aload_n 0, .iload_n 1, .invokestatic 94, .istore_n 3])
  (sq (ite' (cno (cat E_Mod_serves [.iload_n 3, .iconst (-1)] (.if_icmp .ne 7)))
  (blk E_Mod_serves [.iconst (-1)])
  (blk E_Mod_serves [.aload_n 0, .iload_n 3, .invokestatic 97]))
  (sq (blk E_Mod_serves [.istore 4])
  (sq (lop (cno (cat E_Mod_serves [.iload 4, .iconst (-1)] (.if_icmp .eq 38)))
  (sq (blk E_Mod_serves [.iload_n 2, .aload_n 0, .iload_n 3, .iload 4, .invokestatic 100, .iadd, .istore_n 2, .aload_n 0, .iload_n 1, .invokestatic 94, .istore_n 3])
  (sq (ite' (cno (cat E_Mod_serves [.iload_n 3, .iconst (-1)] (.if_icmp .ne 7)))
  (blk E_Mod_serves [.iconst (-1)])
  (blk E_Mod_serves [.aload_n 0, .iload_n 3, .invokestatic 97]))
  (blk E_Mod_serves [.istore 4])))
  (blk E_Mod_serves []) zFU)
  (rti E_Mod_serves [.iload_n 2])))))
def x_Mod_serves : Ex := exb true 5 d_Mod_serves
abbrev r_Mod_serves : Room := ({ frames := 5, cells := 0, slots := 0, locals := 115 } : Room)
theorem eo_Mod_serves (hw : zWok w) (cx : CX w p s m args c b_Mod_serves 5 "CoilSlitsModel") : EnvOk w true p l e r_Mod_serves s m args below meth c Q b_Mod_serves 5 "CoilSlitsModel" E_Mod_serves :=
  ⟨rfl, by decide +kernel, by decide +kernel, by decide +kernel, hw, fun h => absurd h (by decide),
  List.forall_mem_cons.mpr ⟨call_S cx (ct_Mod_orderAt w l hw) tw_943 tw_941 tw_8 tw_942 (by decide +kernel) ⟨Nat.le_of_ble_eq_true rfl, Nat.le_of_ble_eq_true rfl⟩, List.forall_mem_cons.mpr ⟨call_S cx (ct_Mod_chosen w l hw) tw_978 tw_976 tw_8 tw_977 (by decide +kernel) ⟨Nat.le_of_ble_eq_true rfl, Nat.le_of_ble_eq_true rfl⟩, List.forall_mem_cons.mpr ⟨call_S cx (ct_Mod_slits w l hw) tw_962 tw_960 tw_8 tw_961 (by decide +kernel) ⟨Nat.le_of_ble_eq_true rfl, Nat.le_of_ble_eq_true rfl⟩, fun q hq => absurd hq List.not_mem_nil⟩⟩⟩⟩
theorem sn_Mod_serves (h : MC w true p l e R s m args below meth c Q b_Mod_serves 5 "CoilSlitsModel" E_Mod_serves 0 0 F (some .int)) : Sn (zK w true p l e R s m args below meth c Q 5) F (fun _ => False) (fun _ => False) 0 0 0 d_Mod_serves 0 0 0 := by
  unfold d_Mod_serves
  exact (sn_sq (pm := 8) (m_blk h zz (by decide +kernel))
  (sn_sq (pm := 22) (sn_ite (pt := 13) (pf := 17) (sc_no (m_cat h zz (p1 := 10) (tgt := 17) (by decide +kernel) (by decide +kernel) (by decide)))
  (sn_goto (pm := 14) (m_blk h zz (by decide +kernel)) (m_goto h (off := 8) (by decide +kernel) (by decide)))
  (m_blk h zz (by decide +kernel)))
  (sn_sq (pm := 24) (m_blk h zz (by decide +kernel))
  (sn_sq (pm := 65) (sn_lop (pt := 30) (pu := 62) (p2 := 62) (px := 65) (kb2 := fun _ => False) (kc2 := fun _ => False) (sc_no (m_cat h zz (p1 := 27) (tgt := 65) (by decide +kernel) (by decide +kernel) (by decide)))
  (sn_sq (pm := 46) (m_blk h zz (by decide +kernel))
  (sn_sq (pm := 60) (sn_ite (pt := 51) (pf := 55) (sc_no (m_cat h zz (p1 := 48) (tgt := 55) (by decide +kernel) (by decide +kernel) (by decide)))
  (sn_goto (pm := 52) (m_blk h zz (by decide +kernel)) (m_goto h (off := 8) (by decide +kernel) (by decide)))
  (m_blk h zz (by decide +kernel)))
  (m_blk h zz (by decide +kernel))))
  (m_blk h zz rfl) (m_goto h (off := (-38)) (by decide +kernel) (by decide)) zFU)
  (m_rti h zz (p1 := 66) (by decide +kernel) (by decide +kernel) (Nat.zero_le _) (Nat.zero_le _))))))
theorem ct_Mod_serves (w : Wd) (l : Launch) (hw : zWok w) : CT w l y_Mod_serves b_Mod_serves 5 (some .int) r_Mod_serves (exb true 5 d_Mod_serves) :=
  ct_plain (by decide +kernel) (fun p e s m args below meth c Q cx hnm => eo_Mod_serves hw cx) (fun p e s m args below meth c Q F h => sn_Mod_serves h)
theorem q_Mod_serves (x0 : Nat) (x1 : Int32) (g : G) : x_Mod_serves [.ref x0, .int x1] g = zres (d_Mod_serves ([some (.ref x0), some (.int x1), none, none, none], [], g)) := q_of [some (.ref x0), some (.int x1), none, none, none] rfl (Nat.le_of_ble_eq_true rfl) (Or.inr rfl)
theorem lc_Mod_serves_94 : lookI (eC E_Mod_serves) (.invokestatic 94) = some (2, x_Mod_orderAt) := rfl
theorem lc_Mod_serves_97 : lookI (eC E_Mod_serves) (.invokestatic 97) = some (2, x_Mod_chosen) := rfl
theorem lc_Mod_serves_100 : lookI (eC E_Mod_serves) (.invokestatic 100) = some (3, x_Mod_slits) := rfl
theorem lb_Mod_serves : eB E_Mod_serves = true := rfl
-- CoilSlitsModel.nextOrder
def E_Mod_nextOrder : Env := (true, [], [(.invokestatic 48, 3, x_Mod_by)], [], [], zST, false)
def d_Mod_nextOrder : Dn := (sq (blk E_Mod_nextOrder [.iconst (-1), .istore_n 3, .iconst 0, .istore 4])
  (sq (lop (cfo [5] (cno (cat E_Mod_nextOrder [.iload 4, .aload_n 0, .bipush 15, .iaload] (.if_icmp .ge 82))))
  (sq (ite' (cor (cat E_Mod_nextOrder [.aload_n 0, .iload 4, .iconst 5, .invokestatic 48, .iload_n 1] (.if_icmp .lt 25)) (can (cno (cat E_Mod_nextOrder [.aload_n 0, .iload 4, .iconst 5, .invokestatic 48, .iload_n 1] (.if_icmp .ne 18))) (cno (cat E_Mod_nextOrder [.aload_n 0, .iload 4, .iconst 0, .invokestatic 48, .iload_n 2] (.if_icmp .le 7)))))
  (blk E_Mod_nextOrder [.iconst 1])
  (blk E_Mod_nextOrder [.iconst 0]))
  (sq (blk E_Mod_nextOrder [.istore 5])
  (sq (ite' (can (cno (cat E_Mod_nextOrder [.iload 5] (.ifCond .eq 29))) (cor (cat E_Mod_nextOrder [.iload_n 3, .iconst (-1)] (.if_icmp .eq 19)) (cno (cat E_Mod_nextOrder [.aload_n 0, .iload 4, .iconst 5, .invokestatic 48, .aload_n 0, .iload_n 3, .iconst 5, .invokestatic 48] (.if_icmp .le 8)))))
  (blk E_Mod_nextOrder [.iload 4])
  (blk E_Mod_nextOrder [.iload_n 3]))
  (blk E_Mod_nextOrder [.istore_n 3, .iinc 4 1]))))
  (blk E_Mod_nextOrder []) zFU)
  (rti E_Mod_nextOrder [.iload_n 3])))
def x_Mod_nextOrder : Ex := exb true 6 d_Mod_nextOrder
abbrev r_Mod_nextOrder : Room := ({ frames := 1, cells := 0, slots := 0, locals := 22 } : Room)
theorem eo_Mod_nextOrder (hw : zWok w) (cx : CX w p s m args c b_Mod_nextOrder 6 "CoilSlitsModel") : EnvOk w true p l e r_Mod_nextOrder s m args below meth c Q b_Mod_nextOrder 6 "CoilSlitsModel" E_Mod_nextOrder :=
  ⟨rfl, by decide +kernel, by decide +kernel, by decide +kernel, hw, fun h => absurd h (by decide),
  List.forall_mem_cons.mpr ⟨call_S cx (ct_Mod_by w l hw) tw_946 tw_944 tw_8 tw_945 (by decide +kernel) ⟨Nat.le_of_ble_eq_true rfl, Nat.le_of_ble_eq_true rfl⟩, fun q hq => absurd hq List.not_mem_nil⟩⟩
theorem sn_Mod_nextOrder (h : MC w true p l e R s m args below meth c Q b_Mod_nextOrder 6 "CoilSlitsModel" E_Mod_nextOrder 0 0 F (some .int)) : Sn (zK w true p l e R s m args below meth c Q 6) F (fun _ => False) (fun _ => False) 0 0 0 d_Mod_nextOrder 0 0 0 := by
  unfold d_Mod_nextOrder
  exact (sn_sq (pm := 5) (m_blk h zz (by decide +kernel))
  (sn_sq (pm := 93) (sn_lop (pt := 14) (pu := 90) (p2 := 90) (px := 93) (kb2 := fun _ => False) (kc2 := fun _ => False) (sc_fo m_fo (sc_no (m_cat h zz (p1 := 11) (tgt := 93) (by decide +kernel) (by decide +kernel) (by decide))))
  (sn_sq (pm := 52) (sn_ite (pt := 47) (pf := 51) (sc_or (pm := 25) (m_cat h zz (p1 := 22) (tgt := 47) (by decide +kernel) (by decide +kernel) (by decide)) (sc_an (pm := 36) (sc_no (m_cat h zz (p1 := 33) (tgt := 51) (by decide +kernel) (by decide +kernel) (by decide))) (sc_no (m_cat h zz (p1 := 44) (tgt := 51) (by decide +kernel) (by decide +kernel) (by decide)))))
  (sn_goto (pm := 48) (m_blk h zz (by decide +kernel)) (m_goto h (off := 4) (by decide +kernel) (by decide)))
  (m_blk h zz (by decide +kernel)))
  (sn_sq (pm := 54) (m_blk h zz (by decide +kernel))
  (sn_sq (pm := 86) (sn_ite (pt := 80) (pf := 85) (sc_an (pm := 59) (sc_no (m_cat h zz (p1 := 56) (tgt := 85) (by decide +kernel) (by decide +kernel) (by decide))) (sc_or (pm := 64) (m_cat h zz (p1 := 61) (tgt := 80) (by decide +kernel) (by decide +kernel) (by decide)) (sc_no (m_cat h zz (p1 := 77) (tgt := 85) (by decide +kernel) (by decide +kernel) (by decide)))))
  (sn_goto (pm := 82) (m_blk h zz (by decide +kernel)) (m_goto h (off := 4) (by decide +kernel) (by decide)))
  (m_blk h zz (by decide +kernel)))
  (m_blk h zz (by decide +kernel)))))
  (m_blk h zz rfl) (m_goto h (off := (-85)) (by decide +kernel) (by decide)) zFU)
  (m_rti h zz (p1 := 94) (by decide +kernel) (by decide +kernel) (Nat.zero_le _) (Nat.zero_le _))))
theorem ct_Mod_nextOrder (w : Wd) (l : Launch) (hw : zWok w) : CT w l y_Mod_nextOrder b_Mod_nextOrder 6 (some .int) r_Mod_nextOrder (exb true 6 d_Mod_nextOrder) :=
  ct_plain (by decide +kernel) (fun p e s m args below meth c Q cx hnm => eo_Mod_nextOrder hw cx) (fun p e s m args below meth c Q F h => sn_Mod_nextOrder h)
theorem q_Mod_nextOrder (x0 : Nat) (x1 : Int32) (x2 : Int32) (g : G) : x_Mod_nextOrder [.ref x0, .int x1, .int x2] g = zres (d_Mod_nextOrder ([some (.ref x0), some (.int x1), some (.int x2), none, none, none], [], g)) := q_of [some (.ref x0), some (.int x1), some (.int x2), none, none, none] rfl (Nat.le_of_ble_eq_true rfl) (Or.inr rfl)
theorem lc_Mod_nextOrder_48 : lookI (eC E_Mod_nextOrder) (.invokestatic 48) = some (3, x_Mod_by) := rfl
theorem lb_Mod_nextOrder : eB E_Mod_nextOrder = true := rfl
theorem lt_Mod_nextOrder : eT E_Mod_nextOrder = zST := rfl
-- CoilSlitsModel.servesAll
def E_Mod_servesAll : Env := (true, [], [(.invokestatic 103, 3, x_Mod_nextOrder), (.invokestatic 48, 3, x_Mod_by), (.invokestatic 106, 2, x_Mod_serves)], [], [], zST, false)
def d_Mod_servesAll : Dn := (sq (blk E_Mod_servesAll [.aload_n 0, .bipush 15, .iaload, .istore_n 1, .aload_n 0, .bipush 100, .iconst (-1), .invokestatic 103, .istore_n 2])
  (sq (lop (cfo [3, 4] (cno (cat E_Mod_servesAll [.iload_n 2, .iconst (-1)] (.if_icmp .eq 36))))
  (blk E_Mod_servesAll [.aload_n 0, .iload_n 2, .iconst 5, .invokestatic 48, .istore_n 3, .aload_n 0, .iload_n 2, .iconst 0, .invokestatic 48, .istore 4, .aload_n 0, .iload 4, .invokestatic 106, .pop, .aload_n 0, .iload_n 3, .iload 4, .invokestatic 103, .istore_n 2])
  (blk E_Mod_servesAll []) zFU)
  (rti E_Mod_servesAll [.iload_n 1, .aload_n 0, .bipush 15, .iaload, .isub])))
def x_Mod_servesAll : Ex := exb true 5 d_Mod_servesAll
abbrev r_Mod_servesAll : Room := ({ frames := 6, cells := 0, slots := 0, locals := 139 } : Room)
theorem eo_Mod_servesAll (hw : zWok w) (cx : CX w p s m args c b_Mod_servesAll 5 "CoilSlitsModel") : EnvOk w true p l e r_Mod_servesAll s m args below meth c Q b_Mod_servesAll 5 "CoilSlitsModel" E_Mod_servesAll :=
  ⟨rfl, by decide +kernel, by decide +kernel, by decide +kernel, hw, fun h => absurd h (by decide),
  List.forall_mem_cons.mpr ⟨call_S cx (ct_Mod_nextOrder w l hw) tw_988 tw_986 tw_8 tw_987 (by decide +kernel) ⟨Nat.le_of_ble_eq_true rfl, Nat.le_of_ble_eq_true rfl⟩, List.forall_mem_cons.mpr ⟨call_S cx (ct_Mod_by w l hw) tw_946 tw_944 tw_8 tw_945 (by decide +kernel) ⟨Nat.le_of_ble_eq_true rfl, Nat.le_of_ble_eq_true rfl⟩, List.forall_mem_cons.mpr ⟨call_S cx (ct_Mod_serves w l hw) tw_975 tw_973 tw_8 tw_974 (by decide +kernel) ⟨Nat.le_of_ble_eq_true rfl, Nat.le_of_ble_eq_true rfl⟩, fun q hq => absurd hq List.not_mem_nil⟩⟩⟩⟩
theorem sn_Mod_servesAll (h : MC w true p l e R s m args below meth c Q b_Mod_servesAll 5 "CoilSlitsModel" E_Mod_servesAll 0 0 F (some .int)) : Sn (zK w true p l e R s m args below meth c Q 5) F (fun _ => False) (fun _ => False) 0 0 0 d_Mod_servesAll 0 0 0 := by
  unfold d_Mod_servesAll
  exact (sn_sq (pm := 13) (m_blk h zz (by decide +kernel))
  (sn_sq (pm := 51) (sn_lop (pt := 18) (pu := 48) (p2 := 48) (px := 51) (kb2 := fun _ => False) (kc2 := fun _ => False) (sc_fo m_fo (sc_no (m_cat h zz (p1 := 15) (tgt := 51) (by decide +kernel) (by decide +kernel) (by decide))))
  (m_blk h zz (by decide +kernel))
  (m_blk h zz rfl) (m_goto h (off := (-35)) (by decide +kernel) (by decide)) zFU)
  (m_rti h zz (p1 := 57) (by decide +kernel) (by decide +kernel) (Nat.zero_le _) (Nat.zero_le _))))
theorem ct_Mod_servesAll (w : Wd) (l : Launch) (hw : zWok w) : CT w l y_Mod_servesAll b_Mod_servesAll 5 (some .int) r_Mod_servesAll (exb true 5 d_Mod_servesAll) :=
  ct_plain (by decide +kernel) (fun p e s m args below meth c Q cx hnm => eo_Mod_servesAll hw cx) (fun p e s m args below meth c Q F h => sn_Mod_servesAll h)
theorem q_Mod_servesAll (x0 : Nat) (g : G) : x_Mod_servesAll [.ref x0] g = zres (d_Mod_servesAll ([some (.ref x0), none, none, none, none], [], g)) := q_of [some (.ref x0), none, none, none, none] rfl (Nat.le_of_ble_eq_true rfl) (Or.inr rfl)
theorem lc_Mod_servesAll_103 : lookI (eC E_Mod_servesAll) (.invokestatic 103) = some (3, x_Mod_nextOrder) := rfl
theorem lc_Mod_servesAll_48 : lookI (eC E_Mod_servesAll) (.invokestatic 48) = some (3, x_Mod_by) := rfl
theorem lc_Mod_servesAll_106 : lookI (eC E_Mod_servesAll) (.invokestatic 106) = some (2, x_Mod_serves) := rfl
theorem lb_Mod_servesAll : eB E_Mod_servesAll = true := rfl
theorem lt_Mod_servesAll : eT E_Mod_servesAll = zST := rfl
-- CoilSlitsModel.comes
def E_Mod_comes : Env := (true, [(7, 6, 0)], [(.invokestatic 55, 7, x_Mod_lays)], [], [], zST, false)
def d_Mod_comes : Dn := (rti E_Mod_comes [.aload_n 0, .getfield 7, .iload 4, .aload_n 0, .getfield 7, .iconst 4, .iaload, .iload_n 1, .iload_n 2, .iload_n 3, .iconst 0, .invokestatic 55, .aload_n 0, .getfield 7, .bipush 13, .dup2, .iaload, .iload_n 1, .iadd, .iastore, .aload_n 0, .getfield 7, .iconst 4, .dup2, .iaload, .iconst 1, .iadd, .iastore, .aload_n 0, .getfield 7, .iconst 4, .iaload, .iconst 1, .isub])
def x_Mod_comes : Ex := zrv 6 (exb true 5 d_Mod_comes)
abbrev r_Mod_comes : Room := ({ frames := 1, cells := 0, slots := 0, locals := 27 } : Room)
theorem eo_Mod_comes (hw : zWok w) (cx : CX w p s m args c b_Mod_comes 5 "CoilSlitsModel") : EnvOk w true p l e r_Mod_comes s m args below meth c Q b_Mod_comes 5 "CoilSlitsModel" E_Mod_comes :=
  ⟨rfl, by decide +kernel, by decide +kernel, by decide +kernel, hw, fun h => absurd h (by decide),
  List.forall_mem_cons.mpr ⟨call_S cx (ct_Mod_lays w l hw) tw_886 tw_884 tw_8 tw_885 (by decide +kernel) ⟨Nat.le_of_ble_eq_true rfl, Nat.le_of_ble_eq_true rfl⟩, fun q hq => absurd hq List.not_mem_nil⟩⟩
theorem sn_Mod_comes (h : MC w true p l e R s m args below meth c Q b_Mod_comes 5 "CoilSlitsModel" E_Mod_comes 0 0 F (some .int)) : Sn (zK w true p l e R s m args below meth c Q 5) F (fun _ => False) (fun _ => False) 0 0 0 d_Mod_comes 0 0 0 := by
  unfold d_Mod_comes
  exact (m_rti h zz (p1 := 48) (by decide +kernel) (by decide +kernel) (Nat.zero_le _) (Nat.zero_le _))
theorem ct_Mod_comes (w : Wd) (l : Launch) (hw : zWok w) : CT w l y_Mod_comes b_Mod_comes 5 (some .int) r_Mod_comes (exb true 5 d_Mod_comes) :=
  ct_plain (by decide +kernel) (fun p e s m args below meth c Q cx hnm => eo_Mod_comes hw cx) (fun p e s m args below meth c Q F h => sn_Mod_comes h)
theorem q_Mod_comes {a : Nat} {fs : List Value} {M : Hp} {nx : Nat} (x0 : Int32) (x1 : Int32) (x2 : Int32) (x3 : Int32) (h : M a = some (cO 6 fs)) : x_Mod_comes [.ref a, .int x0, .int x1, .int x2, .int x3] (M, nx) = zres (d_Mod_comes ([some (.ref a), some (.int x0), some (.int x1), some (.int x2), some (.int x3)], [], (M, nx))) := q_ofV [some (.ref a), some (.int x0), some (.int x1), some (.int x2), some (.int x3)] h rfl (Nat.le_of_ble_eq_true rfl) (Or.inr rfl)
theorem lc_Mod_comes_55 : lookI (eC E_Mod_comes) (.invokestatic 55) = some (7, x_Mod_lays) := rfl
theorem lf_Mod_comes_7 : lookN (eF E_Mod_comes) 7 = some (6, 0) := rfl
theorem lb_Mod_comes : eB E_Mod_comes = true := rfl
theorem lt_Mod_comes : eT E_Mod_comes = zST := rfl
-- CoilSlitsModel.receive
def E_Mod_receive : Env := (true, [(25, 6, 6), (7, 6, 0)], [(.invokestatic 109, 1, x_Mod_isStack), (.invokevirtual 36, 2, x_Mod_fails), (.invokestatic 29, 3, x_Mod_in), (.invokevirtual 113, 1, x_Mod_saves), (.invokevirtual 116, 5, x_Mod_comes)], [], [], zST, false)
def d_Mod_receive : Dn := (sq (blk E_Mod_receive [.aload_n 0, .iconst 0, .putfield 25])
  (sq (ite' (cno (cat E_Mod_receive [.iload 4, .invokestatic 109] (.ifCond .ne 9)))
  (rti E_Mod_receive [.aload_n 0, .iconst 1, .invokevirtual 36])
  (blk E_Mod_receive []))
  (sq (ite' (cor (cat E_Mod_receive [.iload_n 1, .iconst 1, .sipush 200, .invokestatic 29] (.ifCond .eq 22)) (cor (cat E_Mod_receive [.iload_n 2, .iconst 0, .iconst 3, .invokestatic 29] (.ifCond .eq 13)) (cno (cat E_Mod_receive [.iload_n 3, .iconst 0, .bipush 9, .invokestatic 29] (.ifCond .ne 9)))))
  (rti E_Mod_receive [.aload_n 0, .iconst 2, .invokevirtual 36])
  (blk E_Mod_receive []))
  (sq (ite' (cno (cat E_Mod_receive [.aload_n 0, .getfield 7, .bipush 16, .iload 4, .iadd, .iaload, .iconst 5] (.if_icmp .ne 9)))
  (rti E_Mod_receive [.aload_n 0, .iconst 3, .invokevirtual 36])
  (blk E_Mod_receive []))
  (rti E_Mod_receive [.aload_n 0, .invokevirtual 113, .aload_n 0, .iload_n 1, .iload_n 2, .iload_n 3, .iload 4, .invokevirtual 116])))))
def x_Mod_receive : Ex := zrv 6 (exb true 5 d_Mod_receive)
abbrev r_Mod_receive : Room := ({ frames := 2, cells := 0, slots := 0, locals := 51 } : Room)
theorem eo_Mod_receive (hw : zWok w) (cx : CX w p s m args c b_Mod_receive 5 "CoilSlitsModel") : EnvOk w true p l e r_Mod_receive s m args below meth c Q b_Mod_receive 5 "CoilSlitsModel" E_Mod_receive :=
  ⟨rfl, by decide +kernel, by decide +kernel, by decide +kernel, hw, fun h => absurd h (by decide),
  List.forall_mem_cons.mpr ⟨call_S cx (ct_Mod_isStack w l hw) tw_872 tw_870 tw_8 tw_871 (by decide +kernel) ⟨Nat.le_of_ble_eq_true rfl, Nat.le_of_ble_eq_true rfl⟩, List.forall_mem_cons.mpr ⟨call_V cx (ct_Mod_fails w l hw) tw_865 tw_862 tw_8 tw_864 tp_29 (ci := 6) (Nat.le_of_ble_eq_true rfl) rfl (by decide +kernel) ⟨Nat.le_of_ble_eq_true rfl, Nat.le_of_ble_eq_true rfl⟩, List.forall_mem_cons.mpr ⟨call_S cx (ct_Mod_in w l hw) tw_875 tw_873 tw_8 tw_874 (by decide +kernel) ⟨Nat.le_of_ble_eq_true rfl, Nat.le_of_ble_eq_true rfl⟩, List.forall_mem_cons.mpr ⟨call_V cx (ct_Mod_saves w l hw) tw_879 tw_876 tw_8 tw_878 tp_30 (ci := 6) (Nat.le_of_ble_eq_true rfl) rfl (by decide +kernel) ⟨Nat.le_of_ble_eq_true rfl, Nat.le_of_ble_eq_true rfl⟩, List.forall_mem_cons.mpr ⟨call_V cx (ct_Mod_comes w l hw) tw_883 tw_880 tw_8 tw_882 tp_31 (ci := 6) (Nat.le_of_ble_eq_true rfl) rfl (by decide +kernel) ⟨Nat.le_of_ble_eq_true rfl, Nat.le_of_ble_eq_true rfl⟩, fun q hq => absurd hq List.not_mem_nil⟩⟩⟩⟩⟩⟩
theorem sn_Mod_receive (h : MC w true p l e R s m args below meth c Q b_Mod_receive 5 "CoilSlitsModel" E_Mod_receive 0 0 F (some .int)) : Sn (zK w true p l e R s m args below meth c Q 5) F (fun _ => False) (fun _ => False) 0 0 0 d_Mod_receive 0 0 0 := by
  unfold d_Mod_receive
  exact (sn_sq (pm := 5) (m_blk h zz (by decide +kernel))
  (sn_sq (pm := 19) (sn_ite (pt := 13) (pf := 19) (sc_no (m_cat h zz (p1 := 10) (tgt := 19) (by decide +kernel) (by decide +kernel) (by decide)))
  (m_rti h zz (p1 := 18) (by decide +kernel) (by decide +kernel) (Nat.zero_le _) (Nat.zero_le _))
  (m_blk h zz rfl))
  (sn_sq (pm := 55) (sn_ite (pt := 49) (pf := 55) (sc_or (pm := 30) (m_cat h zz (p1 := 27) (tgt := 49) (by decide +kernel) (by decide +kernel) (by decide)) (sc_or (pm := 39) (m_cat h zz (p1 := 36) (tgt := 49) (by decide +kernel) (by decide +kernel) (by decide)) (sc_no (m_cat h zz (p1 := 46) (tgt := 55) (by decide +kernel) (by decide +kernel) (by decide)))))
  (m_rti h zz (p1 := 54) (by decide +kernel) (by decide +kernel) (Nat.zero_le _) (Nat.zero_le _))
  (m_blk h zz rfl))
  (sn_sq (pm := 75) (sn_ite (pt := 69) (pf := 75) (sc_no (m_cat h zz (p1 := 66) (tgt := 75) (by decide +kernel) (by decide +kernel) (by decide)))
  (m_rti h zz (p1 := 74) (by decide +kernel) (by decide +kernel) (Nat.zero_le _) (Nat.zero_le _))
  (m_blk h zz rfl))
  (m_rti h zz (p1 := 88) (by decide +kernel) (by decide +kernel) (Nat.zero_le _) (Nat.zero_le _))))))
theorem ct_Mod_receive (w : Wd) (l : Launch) (hw : zWok w) : CT w l y_Mod_receive b_Mod_receive 5 (some .int) r_Mod_receive (exb true 5 d_Mod_receive) :=
  ct_plain (by decide +kernel) (fun p e s m args below meth c Q cx hnm => eo_Mod_receive hw cx) (fun p e s m args below meth c Q F h => sn_Mod_receive h)
theorem q_Mod_receive {a : Nat} {fs : List Value} {M : Hp} {nx : Nat} (x0 : Int32) (x1 : Int32) (x2 : Int32) (x3 : Int32) (h : M a = some (cO 6 fs)) : x_Mod_receive [.ref a, .int x0, .int x1, .int x2, .int x3] (M, nx) = zres (d_Mod_receive ([some (.ref a), some (.int x0), some (.int x1), some (.int x2), some (.int x3)], [], (M, nx))) := q_ofV [some (.ref a), some (.int x0), some (.int x1), some (.int x2), some (.int x3)] h rfl (Nat.le_of_ble_eq_true rfl) (Or.inr rfl)
theorem lc_Mod_receive_109 : lookI (eC E_Mod_receive) (.invokestatic 109) = some (1, x_Mod_isStack) := rfl
theorem lc_Mod_receive_36 : lookI (eC E_Mod_receive) (.invokevirtual 36) = some (2, x_Mod_fails) := rfl
theorem lc_Mod_receive_29 : lookI (eC E_Mod_receive) (.invokestatic 29) = some (3, x_Mod_in) := rfl
theorem lc_Mod_receive_113 : lookI (eC E_Mod_receive) (.invokevirtual 113) = some (1, x_Mod_saves) := rfl
theorem lc_Mod_receive_116 : lookI (eC E_Mod_receive) (.invokevirtual 116) = some (5, x_Mod_comes) := rfl
theorem lf_Mod_receive_25 : lookN (eF E_Mod_receive) 25 = some (6, 6) := rfl
theorem lf_Mod_receive_7 : lookN (eF E_Mod_receive) 7 = some (6, 0) := rfl
theorem lb_Mod_receive : eB E_Mod_receive = true := rfl
theorem lt_Mod_receive : eT E_Mod_receive = zST := rfl
-- CoilSlitsModel.move
def E_Mod_move : Env := (true, [(25, 6, 6), (7, 6, 0)], [(.invokestatic 109, 1, x_Mod_isStack), (.invokevirtual 36, 2, x_Mod_fails), (.invokevirtual 113, 1, x_Mod_saves), (.invokestatic 69, 3, x_Mod_moves)], [], [], zST, false)
def d_Mod_move : Dn := (sq (blk E_Mod_move [.aload_n 0, .iconst 0, .putfield 25])
  (sq (ite' (cor (cat E_Mod_move [.iload_n 1, .invokestatic 109] (.ifCond .eq 10)) (cno (cat E_Mod_move [.iload_n 2, .invokestatic 109] (.ifCond .ne 9))))
  (rti E_Mod_move [.aload_n 0, .iconst 1, .invokevirtual 36])
  (blk E_Mod_move []))
  (sq (ite' (cno (cat E_Mod_move [.iload_n 1, .iload_n 2] (.if_icmp .ne 9)))
  (rti E_Mod_move [.aload_n 0, .iconst 2, .invokevirtual 36])
  (blk E_Mod_move []))
  (sq (ite' (cor (cat E_Mod_move [.aload_n 0, .getfield 7, .bipush 16, .iload_n 1, .iadd, .iaload] (.ifCond .eq 16)) (cno (cat E_Mod_move [.aload_n 0, .getfield 7, .bipush 16, .iload_n 2, .iadd, .iaload, .iconst 5] (.if_icmp .ne 9))))
  (rti E_Mod_move [.aload_n 0, .iconst 3, .invokevirtual 36])
  (blk E_Mod_move []))
  (rti E_Mod_move [.aload_n 0, .invokevirtual 113, .aload_n 0, .getfield 7, .iload_n 1, .iload_n 2, .invokestatic 69])))))
def x_Mod_move : Ex := zrv 6 (exb true 3 d_Mod_move)
abbrev r_Mod_move : Room := ({ frames := 2, cells := 0, slots := 0, locals := 51 } : Room)
theorem eo_Mod_move (hw : zWok w) (cx : CX w p s m args c b_Mod_move 3 "CoilSlitsModel") : EnvOk w true p l e r_Mod_move s m args below meth c Q b_Mod_move 3 "CoilSlitsModel" E_Mod_move :=
  ⟨rfl, by decide +kernel, by decide +kernel, by decide +kernel, hw, fun h => absurd h (by decide),
  List.forall_mem_cons.mpr ⟨call_S cx (ct_Mod_isStack w l hw) tw_872 tw_870 tw_8 tw_871 (by decide +kernel) ⟨Nat.le_of_ble_eq_true rfl, Nat.le_of_ble_eq_true rfl⟩, List.forall_mem_cons.mpr ⟨call_V cx (ct_Mod_fails w l hw) tw_865 tw_862 tw_8 tw_864 tp_29 (ci := 6) (Nat.le_of_ble_eq_true rfl) rfl (by decide +kernel) ⟨Nat.le_of_ble_eq_true rfl, Nat.le_of_ble_eq_true rfl⟩, List.forall_mem_cons.mpr ⟨call_V cx (ct_Mod_saves w l hw) tw_879 tw_876 tw_8 tw_878 tp_30 (ci := 6) (Nat.le_of_ble_eq_true rfl) rfl (by decide +kernel) ⟨Nat.le_of_ble_eq_true rfl, Nat.le_of_ble_eq_true rfl⟩, List.forall_mem_cons.mpr ⟨call_S cx (ct_Mod_moves w l hw) tw_893 tw_891 tw_8 tw_892 (by decide +kernel) ⟨Nat.le_of_ble_eq_true rfl, Nat.le_of_ble_eq_true rfl⟩, fun q hq => absurd hq List.not_mem_nil⟩⟩⟩⟩⟩
theorem sn_Mod_move (h : MC w true p l e R s m args below meth c Q b_Mod_move 3 "CoilSlitsModel" E_Mod_move 0 0 F (some .int)) : Sn (zK w true p l e R s m args below meth c Q 3) F (fun _ => False) (fun _ => False) 0 0 0 d_Mod_move 0 0 0 := by
  unfold d_Mod_move
  exact (sn_sq (pm := 5) (m_blk h zz (by decide +kernel))
  (sn_sq (pm := 25) (sn_ite (pt := 19) (pf := 25) (sc_or (pm := 12) (m_cat h zz (p1 := 9) (tgt := 19) (by decide +kernel) (by decide +kernel) (by decide)) (sc_no (m_cat h zz (p1 := 16) (tgt := 25) (by decide +kernel) (by decide +kernel) (by decide))))
  (m_rti h zz (p1 := 24) (by decide +kernel) (by decide +kernel) (Nat.zero_le _) (Nat.zero_le _))
  (m_blk h zz rfl))
  (sn_sq (pm := 36) (sn_ite (pt := 30) (pf := 36) (sc_no (m_cat h zz (p1 := 27) (tgt := 36) (by decide +kernel) (by decide +kernel) (by decide)))
  (m_rti h zz (p1 := 35) (by decide +kernel) (by decide +kernel) (Nat.zero_le _) (Nat.zero_le _))
  (m_blk h zz rfl))
  (sn_sq (pm := 67) (sn_ite (pt := 61) (pf := 67) (sc_or (pm := 48) (m_cat h zz (p1 := 45) (tgt := 61) (by decide +kernel) (by decide +kernel) (by decide)) (sc_no (m_cat h zz (p1 := 58) (tgt := 67) (by decide +kernel) (by decide +kernel) (by decide))))
  (m_rti h zz (p1 := 66) (by decide +kernel) (by decide +kernel) (Nat.zero_le _) (Nat.zero_le _))
  (m_blk h zz rfl))
  (m_rti h zz (p1 := 80) (by decide +kernel) (by decide +kernel) (Nat.zero_le _) (Nat.zero_le _))))))
theorem ct_Mod_move (w : Wd) (l : Launch) (hw : zWok w) : CT w l y_Mod_move b_Mod_move 3 (some .int) r_Mod_move (exb true 3 d_Mod_move) :=
  ct_plain (by decide +kernel) (fun p e s m args below meth c Q cx hnm => eo_Mod_move hw cx) (fun p e s m args below meth c Q F h => sn_Mod_move h)
theorem q_Mod_move {a : Nat} {fs : List Value} {M : Hp} {nx : Nat} (x0 : Int32) (x1 : Int32) (h : M a = some (cO 6 fs)) : x_Mod_move [.ref a, .int x0, .int x1] (M, nx) = zres (d_Mod_move ([some (.ref a), some (.int x0), some (.int x1)], [], (M, nx))) := q_ofV [some (.ref a), some (.int x0), some (.int x1)] h rfl (Nat.le_of_ble_eq_true rfl) (Or.inr rfl)
theorem lc_Mod_move_109 : lookI (eC E_Mod_move) (.invokestatic 109) = some (1, x_Mod_isStack) := rfl
theorem lc_Mod_move_36 : lookI (eC E_Mod_move) (.invokevirtual 36) = some (2, x_Mod_fails) := rfl
theorem lc_Mod_move_113 : lookI (eC E_Mod_move) (.invokevirtual 113) = some (1, x_Mod_saves) := rfl
theorem lc_Mod_move_69 : lookI (eC E_Mod_move) (.invokestatic 69) = some (3, x_Mod_moves) := rfl
theorem lf_Mod_move_25 : lookN (eF E_Mod_move) 25 = some (6, 6) := rfl
theorem lf_Mod_move_7 : lookN (eF E_Mod_move) 7 = some (6, 0) := rfl
theorem lb_Mod_move : eB E_Mod_move = true := rfl
theorem lt_Mod_move : eT E_Mod_move = zST := rfl
-- CoilSlitsModel.mayDig
def E_Mod_mayDig : Env := (true, [(7, 6, 0)], [(.invokestatic 75, 2, x_Mod_canDig)], [], [], zST, false)
def d_Mod_mayDig : Dn := (sq (ite' (cno (cat E_Mod_mayDig [.iload_n 1, .iconst (-1)] (.if_icmp .ne 7)))
  (blk E_Mod_mayDig [.iconst 1])
  (ite' (cno (cat E_Mod_mayDig [.aload_n 0, .getfield 7, .iload_n 1, .invokestatic 75] (.ifCond .eq 7)))
  (blk E_Mod_mayDig [.iconst 0])
  (blk E_Mod_mayDig [.iconst 2])))
  (rti E_Mod_mayDig []))
def x_Mod_mayDig : Ex := zrv 6 (exb true 2 d_Mod_mayDig)
abbrev r_Mod_mayDig : Room := ({ frames := 2, cells := 0, slots := 0, locals := 44 } : Room)
theorem eo_Mod_mayDig (hw : zWok w) (cx : CX w p s m args c b_Mod_mayDig 2 "CoilSlitsModel") : EnvOk w true p l e r_Mod_mayDig s m args below meth c Q b_Mod_mayDig 2 "CoilSlitsModel" E_Mod_mayDig :=
  ⟨rfl, by decide +kernel, by decide +kernel, by decide +kernel, hw, fun h => absurd h (by decide),
  List.forall_mem_cons.mpr ⟨call_S cx (ct_Mod_canDig w l hw) tw_919 tw_917 tw_8 tw_918 (by decide +kernel) ⟨Nat.le_of_ble_eq_true rfl, Nat.le_of_ble_eq_true rfl⟩, fun q hq => absurd hq List.not_mem_nil⟩⟩
theorem sn_Mod_mayDig (h : MC w true p l e R s m args below meth c Q b_Mod_mayDig 2 "CoilSlitsModel" E_Mod_mayDig 0 0 F (some .int)) : Sn (zK w true p l e R s m args below meth c Q 2) F (fun _ => False) (fun _ => False) 0 0 0 d_Mod_mayDig 0 0 0 := by
  unfold d_Mod_mayDig
  exact (sn_sq (pm := 25) (sn_ite (pt := 5) (pf := 9) (sc_no (m_cat h zz (p1 := 2) (tgt := 9) (by decide +kernel) (by decide +kernel) (by decide)))
  (sn_goto (pm := 6) (m_blk h zz (by decide +kernel)) (m_goto h (off := 19) (by decide +kernel) (by decide)))
  (sn_ite (pt := 20) (pf := 24) (sc_no (m_cat h zz (p1 := 17) (tgt := 24) (by decide +kernel) (by decide +kernel) (by decide)))
  (sn_goto (pm := 21) (m_blk h zz (by decide +kernel)) (m_goto h (off := 4) (by decide +kernel) (by decide)))
  (m_blk h zz (by decide +kernel))))
  (m_rti h zz (p1 := 25) (by decide +kernel) (by decide +kernel) (Nat.zero_le _) (Nat.zero_le _)))
theorem ct_Mod_mayDig (w : Wd) (l : Launch) (hw : zWok w) : CT w l y_Mod_mayDig b_Mod_mayDig 2 (some .int) r_Mod_mayDig (exb true 2 d_Mod_mayDig) :=
  ct_plain (by decide +kernel) (fun p e s m args below meth c Q cx hnm => eo_Mod_mayDig hw cx) (fun p e s m args below meth c Q F h => sn_Mod_mayDig h)
theorem q_Mod_mayDig {a : Nat} {fs : List Value} {M : Hp} {nx : Nat} (x0 : Int32) (h : M a = some (cO 6 fs)) : x_Mod_mayDig [.ref a, .int x0] (M, nx) = zres (d_Mod_mayDig ([some (.ref a), some (.int x0)], [], (M, nx))) := q_ofV [some (.ref a), some (.int x0)] h rfl (Nat.le_of_ble_eq_true rfl) (Or.inr rfl)
theorem lc_Mod_mayDig_75 : lookI (eC E_Mod_mayDig) (.invokestatic 75) = some (2, x_Mod_canDig) := rfl
theorem lf_Mod_mayDig_7 : lookN (eF E_Mod_mayDig) 7 = some (6, 0) := rfl
theorem lb_Mod_mayDig : eB E_Mod_mayDig = true := rfl
-- CoilSlitsModel.dig
def E_Mod_dig : Env := (true, [(7, 6, 0), (25, 6, 6)], [(.invokestatic 120, 2, x_Mod_placeOf), (.invokevirtual 123, 2, x_Mod_mayDig), (.invokevirtual 113, 1, x_Mod_saves), (.invokestatic 87, 2, x_Mod_digs)], [], [], zST, false)
def d_Mod_dig : Dn := (sq (blk E_Mod_dig [.aload_n 0, .getfield 7, .iload_n 1, .invokestatic 120, .istore_n 2, .aload_n 0, .aload_n 0, .iload_n 2, .invokevirtual 123, .putfield 25])
  (sq (ite' (cno (cat E_Mod_dig [.aload_n 0, .getfield 25] (.ifCond .eq 5)))
  (rti E_Mod_dig [.iconst 0])
  (blk E_Mod_dig []))
  (rti E_Mod_dig [.aload_n 0, .invokevirtual 113, .aload_n 0, .getfield 7, .iload_n 2, .invokestatic 87])))
def x_Mod_dig : Ex := zrv 6 (exb true 3 d_Mod_dig)
abbrev r_Mod_dig : Room := ({ frames := 3, cells := 0, slots := 0, locals := 74 } : Room)
theorem eo_Mod_dig (hw : zWok w) (cx : CX w p s m args c b_Mod_dig 3 "CoilSlitsModel") : EnvOk w true p l e r_Mod_dig s m args below meth c Q b_Mod_dig 3 "CoilSlitsModel" E_Mod_dig :=
  ⟨rfl, by decide +kernel, by decide +kernel, by decide +kernel, hw, fun h => absurd h (by decide),
  List.forall_mem_cons.mpr ⟨call_S cx (ct_Mod_placeOf w l hw) tw_909 tw_907 tw_8 tw_908 (by decide +kernel) ⟨Nat.le_of_ble_eq_true rfl, Nat.le_of_ble_eq_true rfl⟩, List.forall_mem_cons.mpr ⟨call_V cx (ct_Mod_mayDig w l hw) tw_916 tw_913 tw_8 tw_915 tp_32 (ci := 6) (Nat.le_of_ble_eq_true rfl) rfl (by decide +kernel) ⟨Nat.le_of_ble_eq_true rfl, Nat.le_of_ble_eq_true rfl⟩, List.forall_mem_cons.mpr ⟨call_V cx (ct_Mod_saves w l hw) tw_879 tw_876 tw_8 tw_878 tp_30 (ci := 6) (Nat.le_of_ble_eq_true rfl) rfl (by decide +kernel) ⟨Nat.le_of_ble_eq_true rfl, Nat.le_of_ble_eq_true rfl⟩, List.forall_mem_cons.mpr ⟨call_S cx (ct_Mod_digs w l hw) tw_925 tw_923 tw_8 tw_924 (by decide +kernel) ⟨Nat.le_of_ble_eq_true rfl, Nat.le_of_ble_eq_true rfl⟩, fun q hq => absurd hq List.not_mem_nil⟩⟩⟩⟩⟩
theorem sn_Mod_dig (h : MC w true p l e R s m args below meth c Q b_Mod_dig 3 "CoilSlitsModel" E_Mod_dig 0 0 F (some .int)) : Sn (zK w true p l e R s m args below meth c Q 3) F (fun _ => False) (fun _ => False) 0 0 0 d_Mod_dig 0 0 0 := by
  unfold d_Mod_dig
  exact (sn_sq (pm := 18) (m_blk h zz (by decide +kernel))
  (sn_sq (pm := 27) (sn_ite (pt := 25) (pf := 27) (sc_no (m_cat h zz (p1 := 22) (tgt := 27) (by decide +kernel) (by decide +kernel) (by decide)))
  (m_rti h zz (p1 := 26) (by decide +kernel) (by decide +kernel) (Nat.zero_le _) (Nat.zero_le _))
  (m_blk h zz rfl))
  (m_rti h zz (p1 := 39) (by decide +kernel) (by decide +kernel) (Nat.zero_le _) (Nat.zero_le _))))
theorem ct_Mod_dig (w : Wd) (l : Launch) (hw : zWok w) : CT w l y_Mod_dig b_Mod_dig 3 (some .int) r_Mod_dig (exb true 3 d_Mod_dig) :=
  ct_plain (by decide +kernel) (fun p e s m args below meth c Q cx hnm => eo_Mod_dig hw cx) (fun p e s m args below meth c Q F h => sn_Mod_dig h)
theorem q_Mod_dig {a : Nat} {fs : List Value} {M : Hp} {nx : Nat} (x0 : Int32) (h : M a = some (cO 6 fs)) : x_Mod_dig [.ref a, .int x0] (M, nx) = zres (d_Mod_dig ([some (.ref a), some (.int x0), none], [], (M, nx))) := q_ofV [some (.ref a), some (.int x0), none] h rfl (Nat.le_of_ble_eq_true rfl) (Or.inr rfl)
theorem lc_Mod_dig_120 : lookI (eC E_Mod_dig) (.invokestatic 120) = some (2, x_Mod_placeOf) := rfl
theorem lc_Mod_dig_123 : lookI (eC E_Mod_dig) (.invokevirtual 123) = some (2, x_Mod_mayDig) := rfl
theorem lc_Mod_dig_113 : lookI (eC E_Mod_dig) (.invokevirtual 113) = some (1, x_Mod_saves) := rfl
theorem lc_Mod_dig_87 : lookI (eC E_Mod_dig) (.invokestatic 87) = some (2, x_Mod_digs) := rfl
theorem lf_Mod_dig_7 : lookN (eF E_Mod_dig) 7 = some (6, 0) := rfl
theorem lf_Mod_dig_25 : lookN (eF E_Mod_dig) 25 = some (6, 6) := rfl
theorem lb_Mod_dig : eB E_Mod_dig = true := rfl
-- CoilSlitsModel.sendAway
def E_Mod_sendAway : Env := (true, [(7, 6, 0), (25, 6, 6)], [(.invokestatic 120, 2, x_Mod_placeOf), (.invokevirtual 123, 2, x_Mod_mayDig), (.invokevirtual 113, 1, x_Mod_saves), (.invokestatic 87, 2, x_Mod_digs), (.invokestatic 44, 3, x_Mod_of)], [], [], zST, false)
def d_Mod_sendAway : Dn := (sq (blk E_Mod_sendAway [.aload_n 0, .getfield 7, .iload_n 1, .invokestatic 120, .istore_n 2, .aload_n 0, .aload_n 0, .iload_n 2, .invokevirtual 123, .putfield 25])
  (sq (ite' (cno (cat E_Mod_sendAway [.aload_n 0, .getfield 25] (.ifCond .eq 5)))
  (rti E_Mod_sendAway [.iconst 0])
  (blk E_Mod_sendAway []))
  (rti E_Mod_sendAway [.aload_n 0, .invokevirtual 113, .aload_n 0, .getfield 7, .iload_n 2, .invokestatic 87, .pop, .aload_n 0, .getfield 7, .bipush 16, .iload_n 2, .iconst 5, .idiv, .iadd, .dup2, .iaload, .iconst 1, .isub, .iastore, .aload_n 0, .getfield 7, .bipush 14, .dup2, .iaload, .aload_n 0, .getfield 7, .iload_n 2, .iconst 1, .invokestatic 44, .iadd, .iastore, .aload_n 0, .getfield 7, .iload_n 2, .iconst 1, .invokestatic 44])))
def x_Mod_sendAway : Ex := zrv 6 (exb true 3 d_Mod_sendAway)
abbrev r_Mod_sendAway : Room := ({ frames := 3, cells := 0, slots := 0, locals := 74 } : Room)
theorem eo_Mod_sendAway (hw : zWok w) (cx : CX w p s m args c b_Mod_sendAway 3 "CoilSlitsModel") : EnvOk w true p l e r_Mod_sendAway s m args below meth c Q b_Mod_sendAway 3 "CoilSlitsModel" E_Mod_sendAway :=
  ⟨rfl, by decide +kernel, by decide +kernel, by decide +kernel, hw, fun h => absurd h (by decide),
  List.forall_mem_cons.mpr ⟨call_S cx (ct_Mod_placeOf w l hw) tw_909 tw_907 tw_8 tw_908 (by decide +kernel) ⟨Nat.le_of_ble_eq_true rfl, Nat.le_of_ble_eq_true rfl⟩, List.forall_mem_cons.mpr ⟨call_V cx (ct_Mod_mayDig w l hw) tw_916 tw_913 tw_8 tw_915 tp_32 (ci := 6) (Nat.le_of_ble_eq_true rfl) rfl (by decide +kernel) ⟨Nat.le_of_ble_eq_true rfl, Nat.le_of_ble_eq_true rfl⟩, List.forall_mem_cons.mpr ⟨call_V cx (ct_Mod_saves w l hw) tw_879 tw_876 tw_8 tw_878 tp_30 (ci := 6) (Nat.le_of_ble_eq_true rfl) rfl (by decide +kernel) ⟨Nat.le_of_ble_eq_true rfl, Nat.le_of_ble_eq_true rfl⟩, List.forall_mem_cons.mpr ⟨call_S cx (ct_Mod_digs w l hw) tw_925 tw_923 tw_8 tw_924 (by decide +kernel) ⟨Nat.le_of_ble_eq_true rfl, Nat.le_of_ble_eq_true rfl⟩, List.forall_mem_cons.mpr ⟨call_S cx (ct_Mod_of w l hw) tw_899 tw_897 tw_8 tw_898 (by decide +kernel) ⟨Nat.le_of_ble_eq_true rfl, Nat.le_of_ble_eq_true rfl⟩, fun q hq => absurd hq List.not_mem_nil⟩⟩⟩⟩⟩⟩
theorem sn_Mod_sendAway (h : MC w true p l e R s m args below meth c Q b_Mod_sendAway 3 "CoilSlitsModel" E_Mod_sendAway 0 0 F (some .int)) : Sn (zK w true p l e R s m args below meth c Q 3) F (fun _ => False) (fun _ => False) 0 0 0 d_Mod_sendAway 0 0 0 := by
  unfold d_Mod_sendAway
  exact (sn_sq (pm := 18) (m_blk h zz (by decide +kernel))
  (sn_sq (pm := 27) (sn_ite (pt := 25) (pf := 27) (sc_no (m_cat h zz (p1 := 22) (tgt := 27) (by decide +kernel) (by decide +kernel) (by decide)))
  (m_rti h zz (p1 := 26) (by decide +kernel) (by decide +kernel) (Nat.zero_le _) (Nat.zero_le _))
  (m_blk h zz rfl))
  (m_rti h zz (p1 := 83) (by decide +kernel) (by decide +kernel) (Nat.zero_le _) (Nat.zero_le _))))
theorem ct_Mod_sendAway (w : Wd) (l : Launch) (hw : zWok w) : CT w l y_Mod_sendAway b_Mod_sendAway 3 (some .int) r_Mod_sendAway (exb true 3 d_Mod_sendAway) :=
  ct_plain (by decide +kernel) (fun p e s m args below meth c Q cx hnm => eo_Mod_sendAway hw cx) (fun p e s m args below meth c Q F h => sn_Mod_sendAway h)
theorem q_Mod_sendAway {a : Nat} {fs : List Value} {M : Hp} {nx : Nat} (x0 : Int32) (h : M a = some (cO 6 fs)) : x_Mod_sendAway [.ref a, .int x0] (M, nx) = zres (d_Mod_sendAway ([some (.ref a), some (.int x0), none], [], (M, nx))) := q_ofV [some (.ref a), some (.int x0), none] h rfl (Nat.le_of_ble_eq_true rfl) (Or.inr rfl)
theorem lc_Mod_sendAway_120 : lookI (eC E_Mod_sendAway) (.invokestatic 120) = some (2, x_Mod_placeOf) := rfl
theorem lc_Mod_sendAway_123 : lookI (eC E_Mod_sendAway) (.invokevirtual 123) = some (2, x_Mod_mayDig) := rfl
theorem lc_Mod_sendAway_113 : lookI (eC E_Mod_sendAway) (.invokevirtual 113) = some (1, x_Mod_saves) := rfl
theorem lc_Mod_sendAway_87 : lookI (eC E_Mod_sendAway) (.invokestatic 87) = some (2, x_Mod_digs) := rfl
theorem lc_Mod_sendAway_44 : lookI (eC E_Mod_sendAway) (.invokestatic 44) = some (3, x_Mod_of) := rfl
theorem lf_Mod_sendAway_7 : lookN (eF E_Mod_sendAway) 7 = some (6, 0) := rfl
theorem lf_Mod_sendAway_25 : lookN (eF E_Mod_sendAway) 25 = some (6, 6) := rfl
theorem lb_Mod_sendAway : eB E_Mod_sendAway = true := rfl
theorem lt_Mod_sendAway : eT E_Mod_sendAway = zST := rfl
-- CoilSlitsModel.order
def E_Mod_order : Env := (true, [(25, 6, 6), (7, 6, 0)], [(.invokestatic 29, 3, x_Mod_in), (.invokevirtual 36, 2, x_Mod_fails), (.invokevirtual 113, 1, x_Mod_saves)], [], [], zST, false)
def d_Mod_order : Dn := (sq (blk E_Mod_order [.aload_n 0, .iconst 0, .putfield 25])
  (sq (ite' (cor (cat E_Mod_order [.iload_n 1, .iconst 0, .iconst 3, .invokestatic 29] (.ifCond .eq 45)) (cor (cat E_Mod_order [.iload_n 2, .iconst 0, .bipush 9, .invokestatic 29] (.ifCond .eq 35)) (cor (cat E_Mod_order [.iload_n 3, .iconst 2, .bipush 100, .invokestatic 29] (.ifCond .eq 25)) (cor (cat E_Mod_order [.iload 4, .iconst 1, .bipush 40, .invokestatic 29] (.ifCond .eq 14)) (cno (cat E_Mod_order [.iload 5, .iconst 1, .bipush 99, .invokestatic 29] (.ifCond .ne 9)))))))
  (rti E_Mod_order [.aload_n 0, .iconst 1, .invokevirtual 36])
  (blk E_Mod_order []))
  (sq (ite' (cno (cat E_Mod_order [.aload_n 0, .getfield 7, .bipush 15, .iaload, .bipush 8] (.if_icmp .ne 9)))
  (rti E_Mod_order [.aload_n 0, .iconst 2, .invokevirtual 36])
  (blk E_Mod_order []))
  (rti E_Mod_order [.aload_n 0, .invokevirtual 113, .sipush 172, .bipush 6, .aload_n 0, .getfield 7, .bipush 15, .iaload, .imul, .iadd, .istore 6, .aload_n 0, .getfield 7, .iload 6, .aload_n 0, .getfield 7, .iconst 5, .iaload, .iastore, .aload_n 0, .getfield 7, .iload 6, .iconst 1, .iadd, .iload_n 1, .iastore, .aload_n 0, .getfield 7, .iload 6, .iconst 2, .iadd, .iload_n 2, .iastore, .aload_n 0, .getfield 7, .iload 6, .iconst 3, .iadd, .iload_n 3, .iastore, .aload_n 0, .getfield 7, .iload 6, .iconst 4, .iadd, .iload 4, .iastore, .aload_n 0, .getfield 7, .iload 6, .iconst 5, .iadd, .iload 5, .iastore, .aload_n 0, .getfield 7, .bipush 15, .dup2, .iaload, .iconst 1, .iadd, .iastore, .aload_n 0, .getfield 7, .iconst 5, .dup2, .iaload, .iconst 1, .iadd, .iastore, .aload_n 0, .getfield 7, .iconst 5, .iaload, .iconst 1, .isub]))))
def x_Mod_order : Ex := zrv 6 (exb true 7 d_Mod_order)
abbrev r_Mod_order : Room := ({ frames := 1, cells := 0, slots := 0, locals := 22 } : Room)
theorem eo_Mod_order (hw : zWok w) (cx : CX w p s m args c b_Mod_order 7 "CoilSlitsModel") : EnvOk w true p l e r_Mod_order s m args below meth c Q b_Mod_order 7 "CoilSlitsModel" E_Mod_order :=
  ⟨rfl, by decide +kernel, by decide +kernel, by decide +kernel, hw, fun h => absurd h (by decide),
  List.forall_mem_cons.mpr ⟨call_S cx (ct_Mod_in w l hw) tw_875 tw_873 tw_8 tw_874 (by decide +kernel) ⟨Nat.le_of_ble_eq_true rfl, Nat.le_of_ble_eq_true rfl⟩, List.forall_mem_cons.mpr ⟨call_V cx (ct_Mod_fails w l hw) tw_865 tw_862 tw_8 tw_864 tp_29 (ci := 6) (Nat.le_of_ble_eq_true rfl) rfl (by decide +kernel) ⟨Nat.le_of_ble_eq_true rfl, Nat.le_of_ble_eq_true rfl⟩, List.forall_mem_cons.mpr ⟨call_V cx (ct_Mod_saves w l hw) tw_879 tw_876 tw_8 tw_878 tp_30 (ci := 6) (Nat.le_of_ble_eq_true rfl) rfl (by decide +kernel) ⟨Nat.le_of_ble_eq_true rfl, Nat.le_of_ble_eq_true rfl⟩, fun q hq => absurd hq List.not_mem_nil⟩⟩⟩⟩
theorem sn_Mod_order (h : MC w true p l e R s m args below meth c Q b_Mod_order 7 "CoilSlitsModel" E_Mod_order 0 0 F (some .int)) : Sn (zK w true p l e R s m args below meth c Q 7) F (fun _ => False) (fun _ => False) 0 0 0 d_Mod_order 0 0 0 := by
  unfold d_Mod_order
  exact (sn_sq (pm := 5) (m_blk h zz (by decide +kernel))
  (sn_sq (pm := 62) (sn_ite (pt := 56) (pf := 62) (sc_or (pm := 14) (m_cat h zz (p1 := 11) (tgt := 56) (by decide +kernel) (by decide +kernel) (by decide)) (sc_or (pm := 24) (m_cat h zz (p1 := 21) (tgt := 56) (by decide +kernel) (by decide +kernel) (by decide)) (sc_or (pm := 34) (m_cat h zz (p1 := 31) (tgt := 56) (by decide +kernel) (by decide +kernel) (by decide)) (sc_or (pm := 45) (m_cat h zz (p1 := 42) (tgt := 56) (by decide +kernel) (by decide +kernel) (by decide)) (sc_no (m_cat h zz (p1 := 53) (tgt := 62) (by decide +kernel) (by decide +kernel) (by decide)))))))
  (m_rti h zz (p1 := 61) (by decide +kernel) (by decide +kernel) (Nat.zero_le _) (Nat.zero_le _))
  (m_blk h zz rfl))
  (sn_sq (pm := 80) (sn_ite (pt := 74) (pf := 80) (sc_no (m_cat h zz (p1 := 71) (tgt := 80) (by decide +kernel) (by decide +kernel) (by decide)))
  (m_rti h zz (p1 := 79) (by decide +kernel) (by decide +kernel) (Nat.zero_le _) (Nat.zero_le _))
  (m_blk h zz rfl))
  (m_rti h zz (p1 := 194) (by decide +kernel) (by decide +kernel) (Nat.zero_le _) (Nat.zero_le _)))))
theorem ct_Mod_order (w : Wd) (l : Launch) (hw : zWok w) : CT w l y_Mod_order b_Mod_order 7 (some .int) r_Mod_order (exb true 7 d_Mod_order) :=
  ct_plain (by decide +kernel) (fun p e s m args below meth c Q cx hnm => eo_Mod_order hw cx) (fun p e s m args below meth c Q F h => sn_Mod_order h)
theorem q_Mod_order {a : Nat} {fs : List Value} {M : Hp} {nx : Nat} (x0 : Int32) (x1 : Int32) (x2 : Int32) (x3 : Int32) (x4 : Int32) (h : M a = some (cO 6 fs)) : x_Mod_order [.ref a, .int x0, .int x1, .int x2, .int x3, .int x4] (M, nx) = zres (d_Mod_order ([some (.ref a), some (.int x0), some (.int x1), some (.int x2), some (.int x3), some (.int x4), none], [], (M, nx))) := q_ofV [some (.ref a), some (.int x0), some (.int x1), some (.int x2), some (.int x3), some (.int x4), none] h rfl (Nat.le_of_ble_eq_true rfl) (Or.inr rfl)
theorem lc_Mod_order_29 : lookI (eC E_Mod_order) (.invokestatic 29) = some (3, x_Mod_in) := rfl
theorem lc_Mod_order_36 : lookI (eC E_Mod_order) (.invokevirtual 36) = some (2, x_Mod_fails) := rfl
theorem lc_Mod_order_113 : lookI (eC E_Mod_order) (.invokevirtual 113) = some (1, x_Mod_saves) := rfl
theorem lf_Mod_order_25 : lookN (eF E_Mod_order) 25 = some (6, 6) := rfl
theorem lf_Mod_order_7 : lookN (eF E_Mod_order) 7 = some (6, 0) := rfl
theorem lb_Mod_order : eB E_Mod_order = true := rfl
theorem lt_Mod_order : eT E_Mod_order = zST := rfl
-- CoilSlitsModel.cancel
def E_Mod_cancel : Env := (true, [(25, 6, 6), (7, 6, 0)], [(.invokestatic 94, 2, x_Mod_orderAt), (.invokevirtual 36, 2, x_Mod_fails), (.invokevirtual 113, 1, x_Mod_saves), (.invokestatic 48, 3, x_Mod_by), (.invokestatic 90, 2, x_Mod_orderGoes)], [], [], zST, false)
def d_Mod_cancel : Dn := (sq (blk E_Mod_cancel [.aload_n 0, .iconst 0, .putfield 25, .aload_n 0, .getfield 7, .iload_n 1, .invokestatic 94, .istore_n 2])
  (sq (ite' (cno (cat E_Mod_cancel [.iload_n 2, .iconst (-1)] (.if_icmp .ne 9)))
  (rti E_Mod_cancel [.aload_n 0, .iconst 1, .invokevirtual 36])
  (blk E_Mod_cancel []))
  (rti E_Mod_cancel [.aload_n 0, .invokevirtual 113, .aload_n 0, .getfield 7, .iload_n 2, .iconst 4, .invokestatic 48, .istore_n 3, .aload_n 0, .getfield 7, .iload_n 2, .invokestatic 90, .iload_n 3])))
def x_Mod_cancel : Ex := zrv 6 (exb true 4 d_Mod_cancel)
abbrev r_Mod_cancel : Room := ({ frames := 2, cells := 0, slots := 0, locals := 44 } : Room)
theorem eo_Mod_cancel (hw : zWok w) (cx : CX w p s m args c b_Mod_cancel 4 "CoilSlitsModel") : EnvOk w true p l e r_Mod_cancel s m args below meth c Q b_Mod_cancel 4 "CoilSlitsModel" E_Mod_cancel :=
  ⟨rfl, by decide +kernel, by decide +kernel, by decide +kernel, hw, fun h => absurd h (by decide),
  List.forall_mem_cons.mpr ⟨call_S cx (ct_Mod_orderAt w l hw) tw_943 tw_941 tw_8 tw_942 (by decide +kernel) ⟨Nat.le_of_ble_eq_true rfl, Nat.le_of_ble_eq_true rfl⟩, List.forall_mem_cons.mpr ⟨call_V cx (ct_Mod_fails w l hw) tw_865 tw_862 tw_8 tw_864 tp_29 (ci := 6) (Nat.le_of_ble_eq_true rfl) rfl (by decide +kernel) ⟨Nat.le_of_ble_eq_true rfl, Nat.le_of_ble_eq_true rfl⟩, List.forall_mem_cons.mpr ⟨call_V cx (ct_Mod_saves w l hw) tw_879 tw_876 tw_8 tw_878 tp_30 (ci := 6) (Nat.le_of_ble_eq_true rfl) rfl (by decide +kernel) ⟨Nat.le_of_ble_eq_true rfl, Nat.le_of_ble_eq_true rfl⟩, List.forall_mem_cons.mpr ⟨call_S cx (ct_Mod_by w l hw) tw_946 tw_944 tw_8 tw_945 (by decide +kernel) ⟨Nat.le_of_ble_eq_true rfl, Nat.le_of_ble_eq_true rfl⟩, List.forall_mem_cons.mpr ⟨call_S cx (ct_Mod_orderGoes w l hw) tw_949 tw_947 tw_8 tw_948 (by decide +kernel) ⟨Nat.le_of_ble_eq_true rfl, Nat.le_of_ble_eq_true rfl⟩, fun q hq => absurd hq List.not_mem_nil⟩⟩⟩⟩⟩⟩
theorem sn_Mod_cancel (h : MC w true p l e R s m args below meth c Q b_Mod_cancel 4 "CoilSlitsModel" E_Mod_cancel 0 0 F (some .int)) : Sn (zK w true p l e R s m args below meth c Q 4) F (fun _ => False) (fun _ => False) 0 0 0 d_Mod_cancel 0 0 0 := by
  unfold d_Mod_cancel
  exact (sn_sq (pm := 14) (m_blk h zz (by decide +kernel))
  (sn_sq (pm := 25) (sn_ite (pt := 19) (pf := 25) (sc_no (m_cat h zz (p1 := 16) (tgt := 25) (by decide +kernel) (by decide +kernel) (by decide)))
  (m_rti h zz (p1 := 24) (by decide +kernel) (by decide +kernel) (Nat.zero_le _) (Nat.zero_le _))
  (m_blk h zz rfl))
  (m_rti h zz (p1 := 48) (by decide +kernel) (by decide +kernel) (Nat.zero_le _) (Nat.zero_le _))))
theorem ct_Mod_cancel (w : Wd) (l : Launch) (hw : zWok w) : CT w l y_Mod_cancel b_Mod_cancel 4 (some .int) r_Mod_cancel (exb true 4 d_Mod_cancel) :=
  ct_plain (by decide +kernel) (fun p e s m args below meth c Q cx hnm => eo_Mod_cancel hw cx) (fun p e s m args below meth c Q F h => sn_Mod_cancel h)
theorem q_Mod_cancel {a : Nat} {fs : List Value} {M : Hp} {nx : Nat} (x0 : Int32) (h : M a = some (cO 6 fs)) : x_Mod_cancel [.ref a, .int x0] (M, nx) = zres (d_Mod_cancel ([some (.ref a), some (.int x0), none, none], [], (M, nx))) := q_ofV [some (.ref a), some (.int x0), none, none] h rfl (Nat.le_of_ble_eq_true rfl) (Or.inr rfl)
theorem lc_Mod_cancel_94 : lookI (eC E_Mod_cancel) (.invokestatic 94) = some (2, x_Mod_orderAt) := rfl
theorem lc_Mod_cancel_36 : lookI (eC E_Mod_cancel) (.invokevirtual 36) = some (2, x_Mod_fails) := rfl
theorem lc_Mod_cancel_113 : lookI (eC E_Mod_cancel) (.invokevirtual 113) = some (1, x_Mod_saves) := rfl
theorem lc_Mod_cancel_48 : lookI (eC E_Mod_cancel) (.invokestatic 48) = some (3, x_Mod_by) := rfl
theorem lc_Mod_cancel_90 : lookI (eC E_Mod_cancel) (.invokestatic 90) = some (2, x_Mod_orderGoes) := rfl
theorem lf_Mod_cancel_25 : lookN (eF E_Mod_cancel) 25 = some (6, 6) := rfl
theorem lf_Mod_cancel_7 : lookN (eF E_Mod_cancel) 7 = some (6, 0) := rfl
theorem lb_Mod_cancel : eB E_Mod_cancel = true := rfl
-- CoilSlitsModel.slit
def E_Mod_slit : Env := (true, [(25, 6, 6), (7, 6, 0)], [(.invokestatic 94, 2, x_Mod_orderAt), (.invokestatic 120, 2, x_Mod_placeOf), (.invokevirtual 36, 2, x_Mod_fails), (.invokestatic 81, 3, x_Mod_reason), (.invokevirtual 113, 1, x_Mod_saves), (.invokestatic 100, 3, x_Mod_slits)], [], [], zST, false)
def d_Mod_slit : Dn := (sq (blk E_Mod_slit [.aload_n 0, .iconst 0, .putfield 25, .aload_n 0, .getfield 7, .iload_n 1, .invokestatic 94, .istore_n 3, .aload_n 0, .getfield 7, .iload_n 2, .invokestatic 120, .istore 4])
  (sq (ite' (cor (cat E_Mod_slit [.iload_n 3, .iconst (-1)] (.if_icmp .eq 9)) (cno (cat E_Mod_slit [.iload 4, .iconst (-1)] (.if_icmp .ne 9))))
  (rti E_Mod_slit [.aload_n 0, .iconst 1, .invokevirtual 36])
  (blk E_Mod_slit []))
  (sq (ite' (cno (cat E_Mod_slit [.aload_n 0, .getfield 7, .iload_n 3, .iload 4, .invokestatic 81] (.ifCond .eq 9)))
  (rti E_Mod_slit [.aload_n 0, .iconst 2, .invokevirtual 36])
  (blk E_Mod_slit []))
  (rti E_Mod_slit [.aload_n 0, .invokevirtual 113, .aload_n 0, .getfield 7, .iload_n 3, .iload 4, .invokestatic 100]))))
def x_Mod_slit : Ex := zrv 6 (exb true 5 d_Mod_slit)
abbrev r_Mod_slit : Room := ({ frames := 5, cells := 0, slots := 0, locals := 114 } : Room)
theorem eo_Mod_slit (hw : zWok w) (cx : CX w p s m args c b_Mod_slit 5 "CoilSlitsModel") : EnvOk w true p l e r_Mod_slit s m args below meth c Q b_Mod_slit 5 "CoilSlitsModel" E_Mod_slit :=
  ⟨rfl, by decide +kernel, by decide +kernel, by decide +kernel, hw, fun h => absurd h (by decide),
  List.forall_mem_cons.mpr ⟨call_S cx (ct_Mod_orderAt w l hw) tw_943 tw_941 tw_8 tw_942 (by decide +kernel) ⟨Nat.le_of_ble_eq_true rfl, Nat.le_of_ble_eq_true rfl⟩, List.forall_mem_cons.mpr ⟨call_S cx (ct_Mod_placeOf w l hw) tw_909 tw_907 tw_8 tw_908 (by decide +kernel) ⟨Nat.le_of_ble_eq_true rfl, Nat.le_of_ble_eq_true rfl⟩, List.forall_mem_cons.mpr ⟨call_V cx (ct_Mod_fails w l hw) tw_865 tw_862 tw_8 tw_864 tp_29 (ci := 6) (Nat.le_of_ble_eq_true rfl) rfl (by decide +kernel) ⟨Nat.le_of_ble_eq_true rfl, Nat.le_of_ble_eq_true rfl⟩, List.forall_mem_cons.mpr ⟨call_S cx (ct_Mod_reason w l hw) tw_956 tw_954 tw_8 tw_955 (by decide +kernel) ⟨Nat.le_of_ble_eq_true rfl, Nat.le_of_ble_eq_true rfl⟩, List.forall_mem_cons.mpr ⟨call_V cx (ct_Mod_saves w l hw) tw_879 tw_876 tw_8 tw_878 tp_30 (ci := 6) (Nat.le_of_ble_eq_true rfl) rfl (by decide +kernel) ⟨Nat.le_of_ble_eq_true rfl, Nat.le_of_ble_eq_true rfl⟩, List.forall_mem_cons.mpr ⟨call_S cx (ct_Mod_slits w l hw) tw_962 tw_960 tw_8 tw_961 (by decide +kernel) ⟨Nat.le_of_ble_eq_true rfl, Nat.le_of_ble_eq_true rfl⟩, fun q hq => absurd hq List.not_mem_nil⟩⟩⟩⟩⟩⟩⟩
theorem sn_Mod_slit (h : MC w true p l e R s m args below meth c Q b_Mod_slit 5 "CoilSlitsModel" E_Mod_slit 0 0 F (some .int)) : Sn (zK w true p l e R s m args below meth c Q 5) F (fun _ => False) (fun _ => False) 0 0 0 d_Mod_slit 0 0 0 := by
  unfold d_Mod_slit
  exact (sn_sq (pm := 24) (m_blk h zz (by decide +kernel))
  (sn_sq (pm := 41) (sn_ite (pt := 35) (pf := 41) (sc_or (pm := 29) (m_cat h zz (p1 := 26) (tgt := 35) (by decide +kernel) (by decide +kernel) (by decide)) (sc_no (m_cat h zz (p1 := 32) (tgt := 41) (by decide +kernel) (by decide +kernel) (by decide))))
  (m_rti h zz (p1 := 40) (by decide +kernel) (by decide +kernel) (Nat.zero_le _) (Nat.zero_le _))
  (m_blk h zz rfl))
  (sn_sq (pm := 60) (sn_ite (pt := 54) (pf := 60) (sc_no (m_cat h zz (p1 := 51) (tgt := 60) (by decide +kernel) (by decide +kernel) (by decide)))
  (m_rti h zz (p1 := 59) (by decide +kernel) (by decide +kernel) (Nat.zero_le _) (Nat.zero_le _))
  (m_blk h zz rfl))
  (m_rti h zz (p1 := 74) (by decide +kernel) (by decide +kernel) (Nat.zero_le _) (Nat.zero_le _)))))
theorem ct_Mod_slit (w : Wd) (l : Launch) (hw : zWok w) : CT w l y_Mod_slit b_Mod_slit 5 (some .int) r_Mod_slit (exb true 5 d_Mod_slit) :=
  ct_plain (by decide +kernel) (fun p e s m args below meth c Q cx hnm => eo_Mod_slit hw cx) (fun p e s m args below meth c Q F h => sn_Mod_slit h)
theorem q_Mod_slit {a : Nat} {fs : List Value} {M : Hp} {nx : Nat} (x0 : Int32) (x1 : Int32) (h : M a = some (cO 6 fs)) : x_Mod_slit [.ref a, .int x0, .int x1] (M, nx) = zres (d_Mod_slit ([some (.ref a), some (.int x0), some (.int x1), none, none], [], (M, nx))) := q_ofV [some (.ref a), some (.int x0), some (.int x1), none, none] h rfl (Nat.le_of_ble_eq_true rfl) (Or.inr rfl)
theorem lc_Mod_slit_94 : lookI (eC E_Mod_slit) (.invokestatic 94) = some (2, x_Mod_orderAt) := rfl
theorem lc_Mod_slit_120 : lookI (eC E_Mod_slit) (.invokestatic 120) = some (2, x_Mod_placeOf) := rfl
theorem lc_Mod_slit_36 : lookI (eC E_Mod_slit) (.invokevirtual 36) = some (2, x_Mod_fails) := rfl
theorem lc_Mod_slit_81 : lookI (eC E_Mod_slit) (.invokestatic 81) = some (3, x_Mod_reason) := rfl
theorem lc_Mod_slit_113 : lookI (eC E_Mod_slit) (.invokevirtual 113) = some (1, x_Mod_saves) := rfl
theorem lc_Mod_slit_100 : lookI (eC E_Mod_slit) (.invokestatic 100) = some (3, x_Mod_slits) := rfl
theorem lf_Mod_slit_25 : lookN (eF E_Mod_slit) 25 = some (6, 6) := rfl
theorem lf_Mod_slit_7 : lookN (eF E_Mod_slit) 7 = some (6, 0) := rfl
theorem lb_Mod_slit : eB E_Mod_slit = true := rfl
-- CoilSlitsModel.serve
def E_Mod_serve : Env := (true, [(25, 6, 6), (7, 6, 0)], [(.invokestatic 94, 2, x_Mod_orderAt), (.invokevirtual 36, 2, x_Mod_fails), (.invokevirtual 113, 1, x_Mod_saves), (.invokestatic 106, 2, x_Mod_serves)], [], [], zST, false)
def d_Mod_serve : Dn := (sq (blk E_Mod_serve [.aload_n 0, .iconst 0, .putfield 25])
  (sq (ite' (cno (cat E_Mod_serve [.aload_n 0, .getfield 7, .iload_n 1, .invokestatic 94, .iconst (-1)] (.if_icmp .ne 9)))
  (rti E_Mod_serve [.aload_n 0, .iconst 1, .invokevirtual 36])
  (blk E_Mod_serve []))
  (rti E_Mod_serve [.aload_n 0, .invokevirtual 113, .aload_n 0, .getfield 7, .iload_n 1, .invokestatic 106])))
def x_Mod_serve : Ex := zrv 6 (exb true 2 d_Mod_serve)
abbrev r_Mod_serve : Room := ({ frames := 6, cells := 0, slots := 0, locals := 139 } : Room)
theorem eo_Mod_serve (hw : zWok w) (cx : CX w p s m args c b_Mod_serve 2 "CoilSlitsModel") : EnvOk w true p l e r_Mod_serve s m args below meth c Q b_Mod_serve 2 "CoilSlitsModel" E_Mod_serve :=
  ⟨rfl, by decide +kernel, by decide +kernel, by decide +kernel, hw, fun h => absurd h (by decide),
  List.forall_mem_cons.mpr ⟨call_S cx (ct_Mod_orderAt w l hw) tw_943 tw_941 tw_8 tw_942 (by decide +kernel) ⟨Nat.le_of_ble_eq_true rfl, Nat.le_of_ble_eq_true rfl⟩, List.forall_mem_cons.mpr ⟨call_V cx (ct_Mod_fails w l hw) tw_865 tw_862 tw_8 tw_864 tp_29 (ci := 6) (Nat.le_of_ble_eq_true rfl) rfl (by decide +kernel) ⟨Nat.le_of_ble_eq_true rfl, Nat.le_of_ble_eq_true rfl⟩, List.forall_mem_cons.mpr ⟨call_V cx (ct_Mod_saves w l hw) tw_879 tw_876 tw_8 tw_878 tp_30 (ci := 6) (Nat.le_of_ble_eq_true rfl) rfl (by decide +kernel) ⟨Nat.le_of_ble_eq_true rfl, Nat.le_of_ble_eq_true rfl⟩, List.forall_mem_cons.mpr ⟨call_S cx (ct_Mod_serves w l hw) tw_975 tw_973 tw_8 tw_974 (by decide +kernel) ⟨Nat.le_of_ble_eq_true rfl, Nat.le_of_ble_eq_true rfl⟩, fun q hq => absurd hq List.not_mem_nil⟩⟩⟩⟩⟩
theorem sn_Mod_serve (h : MC w true p l e R s m args below meth c Q b_Mod_serve 2 "CoilSlitsModel" E_Mod_serve 0 0 F (some .int)) : Sn (zK w true p l e R s m args below meth c Q 2) F (fun _ => False) (fun _ => False) 0 0 0 d_Mod_serve 0 0 0 := by
  unfold d_Mod_serve
  exact (sn_sq (pm := 5) (m_blk h zz (by decide +kernel))
  (sn_sq (pm := 23) (sn_ite (pt := 17) (pf := 23) (sc_no (m_cat h zz (p1 := 14) (tgt := 23) (by decide +kernel) (by decide +kernel) (by decide)))
  (m_rti h zz (p1 := 22) (by decide +kernel) (by decide +kernel) (Nat.zero_le _) (Nat.zero_le _))
  (m_blk h zz rfl))
  (m_rti h zz (p1 := 35) (by decide +kernel) (by decide +kernel) (Nat.zero_le _) (Nat.zero_le _))))
theorem ct_Mod_serve (w : Wd) (l : Launch) (hw : zWok w) : CT w l y_Mod_serve b_Mod_serve 2 (some .int) r_Mod_serve (exb true 2 d_Mod_serve) :=
  ct_plain (by decide +kernel) (fun p e s m args below meth c Q cx hnm => eo_Mod_serve hw cx) (fun p e s m args below meth c Q F h => sn_Mod_serve h)
theorem q_Mod_serve {a : Nat} {fs : List Value} {M : Hp} {nx : Nat} (x0 : Int32) (h : M a = some (cO 6 fs)) : x_Mod_serve [.ref a, .int x0] (M, nx) = zres (d_Mod_serve ([some (.ref a), some (.int x0)], [], (M, nx))) := q_ofV [some (.ref a), some (.int x0)] h rfl (Nat.le_of_ble_eq_true rfl) (Or.inr rfl)
theorem lc_Mod_serve_94 : lookI (eC E_Mod_serve) (.invokestatic 94) = some (2, x_Mod_orderAt) := rfl
theorem lc_Mod_serve_36 : lookI (eC E_Mod_serve) (.invokevirtual 36) = some (2, x_Mod_fails) := rfl
theorem lc_Mod_serve_113 : lookI (eC E_Mod_serve) (.invokevirtual 113) = some (1, x_Mod_saves) := rfl
theorem lc_Mod_serve_106 : lookI (eC E_Mod_serve) (.invokestatic 106) = some (2, x_Mod_serves) := rfl
theorem lf_Mod_serve_25 : lookN (eF E_Mod_serve) 25 = some (6, 6) := rfl
theorem lf_Mod_serve_7 : lookN (eF E_Mod_serve) 7 = some (6, 0) := rfl
theorem lb_Mod_serve : eB E_Mod_serve = true := rfl
-- CoilSlitsModel.serveAll
def E_Mod_serveAll : Env := (true, [(25, 6, 6), (7, 6, 0)], [(.invokevirtual 113, 1, x_Mod_saves), (.invokestatic 126, 1, x_Mod_servesAll)], [], [], zST, false)
def d_Mod_serveAll : Dn := (rti E_Mod_serveAll [.aload_n 0, .iconst 0, .putfield 25, .aload_n 0, .invokevirtual 113, .aload_n 0, .getfield 7, .invokestatic 126])
def x_Mod_serveAll : Ex := zrv 6 (exb true 1 d_Mod_serveAll)
abbrev r_Mod_serveAll : Room := ({ frames := 7, cells := 0, slots := 0, locals := 163 } : Room)
theorem eo_Mod_serveAll (hw : zWok w) (cx : CX w p s m args c b_Mod_serveAll 1 "CoilSlitsModel") : EnvOk w true p l e r_Mod_serveAll s m args below meth c Q b_Mod_serveAll 1 "CoilSlitsModel" E_Mod_serveAll :=
  ⟨rfl, by decide +kernel, by decide +kernel, by decide +kernel, hw, fun h => absurd h (by decide),
  List.forall_mem_cons.mpr ⟨call_V cx (ct_Mod_saves w l hw) tw_879 tw_876 tw_8 tw_878 tp_30 (ci := 6) (Nat.le_of_ble_eq_true rfl) rfl (by decide +kernel) ⟨Nat.le_of_ble_eq_true rfl, Nat.le_of_ble_eq_true rfl⟩, List.forall_mem_cons.mpr ⟨call_S cx (ct_Mod_servesAll w l hw) tw_985 tw_983 tw_8 tw_984 (by decide +kernel) ⟨Nat.le_of_ble_eq_true rfl, Nat.le_of_ble_eq_true rfl⟩, fun q hq => absurd hq List.not_mem_nil⟩⟩⟩
theorem sn_Mod_serveAll (h : MC w true p l e R s m args below meth c Q b_Mod_serveAll 1 "CoilSlitsModel" E_Mod_serveAll 0 0 F (some .int)) : Sn (zK w true p l e R s m args below meth c Q 1) F (fun _ => False) (fun _ => False) 0 0 0 d_Mod_serveAll 0 0 0 := by
  unfold d_Mod_serveAll
  exact (m_rti h zz (p1 := 16) (by decide +kernel) (by decide +kernel) (Nat.zero_le _) (Nat.zero_le _))
theorem ct_Mod_serveAll (w : Wd) (l : Launch) (hw : zWok w) : CT w l y_Mod_serveAll b_Mod_serveAll 1 (some .int) r_Mod_serveAll (exb true 1 d_Mod_serveAll) :=
  ct_plain (by decide +kernel) (fun p e s m args below meth c Q cx hnm => eo_Mod_serveAll hw cx) (fun p e s m args below meth c Q F h => sn_Mod_serveAll h)
theorem q_Mod_serveAll {a : Nat} {fs : List Value} {M : Hp} {nx : Nat}  (h : M a = some (cO 6 fs)) : x_Mod_serveAll [.ref a] (M, nx) = zres (d_Mod_serveAll ([some (.ref a)], [], (M, nx))) := q_ofV [some (.ref a)] h rfl (Nat.le_of_ble_eq_true rfl) (Or.inr rfl)
theorem lc_Mod_serveAll_113 : lookI (eC E_Mod_serveAll) (.invokevirtual 113) = some (1, x_Mod_saves) := rfl
theorem lc_Mod_serveAll_126 : lookI (eC E_Mod_serveAll) (.invokestatic 126) = some (1, x_Mod_servesAll) := rfl
theorem lf_Mod_serveAll_25 : lookN (eF E_Mod_serveAll) 25 = some (6, 6) := rfl
theorem lf_Mod_serveAll_7 : lookN (eF E_Mod_serveAll) 7 = some (6, 0) := rfl
theorem lb_Mod_serveAll : eB E_Mod_serveAll = true := rfl
-- CoilSlitsModel.isFor
def E_Mod_isFor : Env := (true, [], [(.invokestatic 29, 3, x_Mod_in)], [], [], zST, false)
def d_Mod_isFor : Dn := (sq (ite' (cno (cat E_Mod_isFor [.iload_n 0] (.ifCond .ne 13)))
  (blk E_Mod_isFor [.iload_n 1, .iconst 1, .bipush 100, .invokestatic 29])
  (sq (blk E_Mod_isFor [.iload_n 1, .iconst 0])
  (sq (ite' (cno (cat E_Mod_isFor [.iload_n 0, .iconst 1] (.if_icmp .ne 7)))
  (blk E_Mod_isFor [.iconst 5])
  (ite' (cno (cat E_Mod_isFor [.iload_n 0, .iconst 2] (.if_icmp .ne 8)))
  (blk E_Mod_isFor [.bipush 9])
  (blk E_Mod_isFor [.iconst 2])))
  (blk E_Mod_isFor [.invokestatic 29]))))
  (rtz E_Mod_isFor []))
def x_Mod_isFor : Ex := exb true 2 d_Mod_isFor
abbrev r_Mod_isFor : Room := ({ frames := 1, cells := 0, slots := 0, locals := 22 } : Room)
theorem eo_Mod_isFor (hw : zWok w) (cx : CX w p s m args c b_Mod_isFor 2 "CoilSlitsModel") : EnvOk w true p l e r_Mod_isFor s m args below meth c Q b_Mod_isFor 2 "CoilSlitsModel" E_Mod_isFor :=
  ⟨rfl, by decide +kernel, by decide +kernel, by decide +kernel, hw, fun h => absurd h (by decide),
  List.forall_mem_cons.mpr ⟨call_S cx (ct_Mod_in w l hw) tw_875 tw_873 tw_8 tw_874 (by decide +kernel) ⟨Nat.le_of_ble_eq_true rfl, Nat.le_of_ble_eq_true rfl⟩, fun q hq => absurd hq List.not_mem_nil⟩⟩
theorem sn_Mod_isFor (h : MC w true p l e R s m args below meth c Q b_Mod_isFor 2 "CoilSlitsModel" E_Mod_isFor 0 0 F (some .boolean)) : Sn (zK w true p l e R s m args below meth c Q 2) F (fun _ => False) (fun _ => False) 0 0 0 d_Mod_isFor 0 0 0 := by
  unfold d_Mod_isFor
  exact (sn_sq (pm := 39) (sn_ite (pt := 4) (pf := 14) (sc_no (m_cat h zz (p1 := 1) (tgt := 14) (by decide +kernel) (by decide +kernel) (by decide)))
  (sn_goto (pm := 11) (m_blk h zz (by decide +kernel)) (m_goto h (off := 28) (by decide +kernel) (by decide)))
  (sn_sq (pm := 16) (m_blk h zz (by decide +kernel))
  (sn_sq (pm := 36) (sn_ite (pt := 21) (pf := 25) (sc_no (m_cat h zz (p1 := 18) (tgt := 25) (by decide +kernel) (by decide +kernel) (by decide)))
  (sn_goto (pm := 22) (m_blk h zz (by decide +kernel)) (m_goto h (off := 14) (by decide +kernel) (by decide)))
  (sn_ite (pt := 30) (pf := 35) (sc_no (m_cat h zz (p1 := 27) (tgt := 35) (by decide +kernel) (by decide +kernel) (by decide)))
  (sn_goto (pm := 32) (m_blk h zz (by decide +kernel)) (m_goto h (off := 4) (by decide +kernel) (by decide)))
  (m_blk h zz (by decide +kernel))))
  (m_blk h zz (by decide +kernel)))))
  (m_rtz h zz (p1 := 39) (by decide +kernel) (by decide +kernel) (Nat.zero_le _) (Nat.zero_le _)))
theorem ct_Mod_isFor (w : Wd) (l : Launch) (hw : zWok w) : CT w l y_Mod_isFor b_Mod_isFor 2 (some .boolean) r_Mod_isFor (exb true 2 d_Mod_isFor) :=
  ct_plain (by decide +kernel) (fun p e s m args below meth c Q cx hnm => eo_Mod_isFor hw cx) (fun p e s m args below meth c Q F h => sn_Mod_isFor h)
theorem q_Mod_isFor (x0 : Int32) (x1 : Int32) (g : G) : x_Mod_isFor [.int x0, .int x1] g = zres (d_Mod_isFor ([some (.int x0), some (.int x1)], [], g)) := q_of [some (.int x0), some (.int x1)] rfl (Nat.le_of_ble_eq_true rfl) (Or.inr rfl)
theorem lc_Mod_isFor_29 : lookI (eC E_Mod_isFor) (.invokestatic 29) = some (3, x_Mod_in) := rfl
theorem lb_Mod_isFor : eB E_Mod_isFor = true := rfl
-- CoilSlitsModel.set
def E_Mod_set : Env := (true, [(25, 6, 6), (7, 6, 0)], [(.invokestatic 29, 3, x_Mod_in), (.invokevirtual 36, 2, x_Mod_fails), (.invokestatic 130, 2, x_Mod_isFor), (.invokevirtual 113, 1, x_Mod_saves)], [], [], zST, false)
def d_Mod_set : Dn := (sq (blk E_Mod_set [.aload_n 0, .iconst 0, .putfield 25])
  (sq (ite' (cno (cat E_Mod_set [.iload_n 1, .iconst 0, .iconst 3, .invokestatic 29] (.ifCond .ne 9)))
  (rti E_Mod_set [.aload_n 0, .iconst 1, .invokevirtual 36])
  (blk E_Mod_set []))
  (sq (ite' (cno (cat E_Mod_set [.iload_n 1, .iload_n 2, .invokestatic 130] (.ifCond .ne 9)))
  (rti E_Mod_set [.aload_n 0, .iconst 2, .invokevirtual 36])
  (blk E_Mod_set []))
  (rti E_Mod_set [.aload_n 0, .invokevirtual 113, .aload_n 0, .getfield 7, .iload_n 1, .iaload, .istore_n 3, .aload_n 0, .getfield 7, .iload_n 1, .iload_n 2, .iastore, .iload_n 3]))))
def x_Mod_set : Ex := zrv 6 (exb true 4 d_Mod_set)
abbrev r_Mod_set : Room := ({ frames := 2, cells := 0, slots := 0, locals := 43 } : Room)
theorem eo_Mod_set (hw : zWok w) (cx : CX w p s m args c b_Mod_set 4 "CoilSlitsModel") : EnvOk w true p l e r_Mod_set s m args below meth c Q b_Mod_set 4 "CoilSlitsModel" E_Mod_set :=
  ⟨rfl, by decide +kernel, by decide +kernel, by decide +kernel, hw, fun h => absurd h (by decide),
  List.forall_mem_cons.mpr ⟨call_S cx (ct_Mod_in w l hw) tw_875 tw_873 tw_8 tw_874 (by decide +kernel) ⟨Nat.le_of_ble_eq_true rfl, Nat.le_of_ble_eq_true rfl⟩, List.forall_mem_cons.mpr ⟨call_V cx (ct_Mod_fails w l hw) tw_865 tw_862 tw_8 tw_864 tp_29 (ci := 6) (Nat.le_of_ble_eq_true rfl) rfl (by decide +kernel) ⟨Nat.le_of_ble_eq_true rfl, Nat.le_of_ble_eq_true rfl⟩, List.forall_mem_cons.mpr ⟨call_S cx (ct_Mod_isFor w l hw) tw_995 tw_993 tw_8 tw_994 (by decide +kernel) ⟨Nat.le_of_ble_eq_true rfl, Nat.le_of_ble_eq_true rfl⟩, List.forall_mem_cons.mpr ⟨call_V cx (ct_Mod_saves w l hw) tw_879 tw_876 tw_8 tw_878 tp_30 (ci := 6) (Nat.le_of_ble_eq_true rfl) rfl (by decide +kernel) ⟨Nat.le_of_ble_eq_true rfl, Nat.le_of_ble_eq_true rfl⟩, fun q hq => absurd hq List.not_mem_nil⟩⟩⟩⟩⟩
theorem sn_Mod_set (h : MC w true p l e R s m args below meth c Q b_Mod_set 4 "CoilSlitsModel" E_Mod_set 0 0 F (some .int)) : Sn (zK w true p l e R s m args below meth c Q 4) F (fun _ => False) (fun _ => False) 0 0 0 d_Mod_set 0 0 0 := by
  unfold d_Mod_set
  exact (sn_sq (pm := 5) (m_blk h zz (by decide +kernel))
  (sn_sq (pm := 20) (sn_ite (pt := 14) (pf := 20) (sc_no (m_cat h zz (p1 := 11) (tgt := 20) (by decide +kernel) (by decide +kernel) (by decide)))
  (m_rti h zz (p1 := 19) (by decide +kernel) (by decide +kernel) (Nat.zero_le _) (Nat.zero_le _))
  (m_blk h zz rfl))
  (sn_sq (pm := 34) (sn_ite (pt := 28) (pf := 34) (sc_no (m_cat h zz (p1 := 25) (tgt := 34) (by decide +kernel) (by decide +kernel) (by decide)))
  (m_rti h zz (p1 := 33) (by decide +kernel) (by decide +kernel) (Nat.zero_le _) (Nat.zero_le _))
  (m_blk h zz rfl))
  (m_rti h zz (p1 := 53) (by decide +kernel) (by decide +kernel) (Nat.zero_le _) (Nat.zero_le _)))))
theorem ct_Mod_set (w : Wd) (l : Launch) (hw : zWok w) : CT w l y_Mod_set b_Mod_set 4 (some .int) r_Mod_set (exb true 4 d_Mod_set) :=
  ct_plain (by decide +kernel) (fun p e s m args below meth c Q cx hnm => eo_Mod_set hw cx) (fun p e s m args below meth c Q F h => sn_Mod_set h)
theorem q_Mod_set {a : Nat} {fs : List Value} {M : Hp} {nx : Nat} (x0 : Int32) (x1 : Int32) (h : M a = some (cO 6 fs)) : x_Mod_set [.ref a, .int x0, .int x1] (M, nx) = zres (d_Mod_set ([some (.ref a), some (.int x0), some (.int x1), none], [], (M, nx))) := q_ofV [some (.ref a), some (.int x0), some (.int x1), none] h rfl (Nat.le_of_ble_eq_true rfl) (Or.inr rfl)
theorem lc_Mod_set_29 : lookI (eC E_Mod_set) (.invokestatic 29) = some (3, x_Mod_in) := rfl
theorem lc_Mod_set_36 : lookI (eC E_Mod_set) (.invokevirtual 36) = some (2, x_Mod_fails) := rfl
theorem lc_Mod_set_130 : lookI (eC E_Mod_set) (.invokestatic 130) = some (2, x_Mod_isFor) := rfl
theorem lc_Mod_set_113 : lookI (eC E_Mod_set) (.invokevirtual 113) = some (1, x_Mod_saves) := rfl
theorem lf_Mod_set_25 : lookN (eF E_Mod_set) 25 = some (6, 6) := rfl
theorem lf_Mod_set_7 : lookN (eF E_Mod_set) 7 = some (6, 0) := rfl
theorem lb_Mod_set : eB E_Mod_set = true := rfl
theorem lt_Mod_set : eT E_Mod_set = zST := rfl
-- CoilSlitsModel.append
def E_Mod_append : Env := (true, [(25, 6, 6), (134, 6, 5), (19, 6, 4)], [(.invokestatic 29, 3, x_Mod_in), (.invokevirtual 36, 2, x_Mod_fails)], [], [], zST, false)
def d_Mod_append : Dn := (sq (blk E_Mod_append [.aload_n 0, .iconst 0, .putfield 25])
  (sq (ite' (cno (cat E_Mod_append [.iload_n 1, .bipush 33, .bipush 126, .invokestatic 29] (.ifCond .ne 9)))
  (rti E_Mod_append [.aload_n 0, .iconst 1, .invokevirtual 36])
  (blk E_Mod_append []))
  (sq (ite' (cno (cat E_Mod_append [.aload_n 0, .getfield 134, .bipush 60] (.if_icmp .ne 9)))
  (rti E_Mod_append [.aload_n 0, .iconst 2, .invokevirtual 36])
  (blk E_Mod_append []))
  (rti E_Mod_append [.aload_n 0, .getfield 19, .aload_n 0, .getfield 134, .iload_n 1, .iastore, .aload_n 0, .dup, .getfield 134, .iconst 1, .iadd, .putfield 134, .aload_n 0, .getfield 134]))))
def x_Mod_append : Ex := zrv 6 (exb true 2 d_Mod_append)
abbrev r_Mod_append : Room := ({ frames := 1, cells := 0, slots := 0, locals := 22 } : Room)
theorem eo_Mod_append (hw : zWok w) (cx : CX w p s m args c b_Mod_append 2 "CoilSlitsModel") : EnvOk w true p l e r_Mod_append s m args below meth c Q b_Mod_append 2 "CoilSlitsModel" E_Mod_append :=
  ⟨rfl, by decide +kernel, by decide +kernel, by decide +kernel, hw, fun h => absurd h (by decide),
  List.forall_mem_cons.mpr ⟨call_S cx (ct_Mod_in w l hw) tw_875 tw_873 tw_8 tw_874 (by decide +kernel) ⟨Nat.le_of_ble_eq_true rfl, Nat.le_of_ble_eq_true rfl⟩, List.forall_mem_cons.mpr ⟨call_V cx (ct_Mod_fails w l hw) tw_865 tw_862 tw_8 tw_864 tp_29 (ci := 6) (Nat.le_of_ble_eq_true rfl) rfl (by decide +kernel) ⟨Nat.le_of_ble_eq_true rfl, Nat.le_of_ble_eq_true rfl⟩, fun q hq => absurd hq List.not_mem_nil⟩⟩⟩
theorem sn_Mod_append (h : MC w true p l e R s m args below meth c Q b_Mod_append 2 "CoilSlitsModel" E_Mod_append 0 0 F (some .int)) : Sn (zK w true p l e R s m args below meth c Q 2) F (fun _ => False) (fun _ => False) 0 0 0 d_Mod_append 0 0 0 := by
  unfold d_Mod_append
  exact (sn_sq (pm := 5) (m_blk h zz (by decide +kernel))
  (sn_sq (pm := 22) (sn_ite (pt := 16) (pf := 22) (sc_no (m_cat h zz (p1 := 13) (tgt := 22) (by decide +kernel) (by decide +kernel) (by decide)))
  (m_rti h zz (p1 := 21) (by decide +kernel) (by decide +kernel) (Nat.zero_le _) (Nat.zero_le _))
  (m_blk h zz rfl))
  (sn_sq (pm := 37) (sn_ite (pt := 31) (pf := 37) (sc_no (m_cat h zz (p1 := 28) (tgt := 37) (by decide +kernel) (by decide +kernel) (by decide)))
  (m_rti h zz (p1 := 36) (by decide +kernel) (by decide +kernel) (Nat.zero_le _) (Nat.zero_le _))
  (m_blk h zz rfl))
  (m_rti h zz (p1 := 61) (by decide +kernel) (by decide +kernel) (Nat.zero_le _) (Nat.zero_le _)))))
theorem ct_Mod_append (w : Wd) (l : Launch) (hw : zWok w) : CT w l y_Mod_append b_Mod_append 2 (some .int) r_Mod_append (exb true 2 d_Mod_append) :=
  ct_plain (by decide +kernel) (fun p e s m args below meth c Q cx hnm => eo_Mod_append hw cx) (fun p e s m args below meth c Q F h => sn_Mod_append h)
theorem q_Mod_append {a : Nat} {fs : List Value} {M : Hp} {nx : Nat} (x0 : Int32) (h : M a = some (cO 6 fs)) : x_Mod_append [.ref a, .int x0] (M, nx) = zres (d_Mod_append ([some (.ref a), some (.int x0)], [], (M, nx))) := q_ofV [some (.ref a), some (.int x0)] h rfl (Nat.le_of_ble_eq_true rfl) (Or.inr rfl)
theorem lc_Mod_append_29 : lookI (eC E_Mod_append) (.invokestatic 29) = some (3, x_Mod_in) := rfl
theorem lc_Mod_append_36 : lookI (eC E_Mod_append) (.invokevirtual 36) = some (2, x_Mod_fails) := rfl
theorem lf_Mod_append_25 : lookN (eF E_Mod_append) 25 = some (6, 6) := rfl
theorem lf_Mod_append_134 : lookN (eF E_Mod_append) 134 = some (6, 5) := rfl
theorem lf_Mod_append_19 : lookN (eF E_Mod_append) 19 = some (6, 4) := rfl
theorem lb_Mod_append : eB E_Mod_append = true := rfl
-- CoilSlitsModel.clearBuffer
def E_Mod_clearBuffer : Env := (true, [(25, 6, 6), (134, 6, 5)], [], [], [], zST, false)
def d_Mod_clearBuffer : Dn := (rti E_Mod_clearBuffer [.aload_n 0, .iconst 0, .putfield 25, .aload_n 0, .getfield 134, .istore_n 1, .aload_n 0, .iconst 0, .putfield 134, .iload_n 1])
def x_Mod_clearBuffer : Ex := zrv 6 (exb true 2 d_Mod_clearBuffer)
abbrev r_Mod_clearBuffer : Room := ({ frames := 0, cells := 0, slots := 0, locals := 0 } : Room)
theorem eo_Mod_clearBuffer (hw : zWok w) (cx : CX w p s m args c b_Mod_clearBuffer 2 "CoilSlitsModel") : EnvOk w true p l e r_Mod_clearBuffer s m args below meth c Q b_Mod_clearBuffer 2 "CoilSlitsModel" E_Mod_clearBuffer :=
  ⟨rfl, by decide +kernel, by decide +kernel, by decide +kernel, hw, fun h => absurd h (by decide),
  fun q hq => absurd hq List.not_mem_nil⟩
theorem sn_Mod_clearBuffer (h : MC w true p l e R s m args below meth c Q b_Mod_clearBuffer 2 "CoilSlitsModel" E_Mod_clearBuffer 0 0 F (some .int)) : Sn (zK w true p l e R s m args below meth c Q 2) F (fun _ => False) (fun _ => False) 0 0 0 d_Mod_clearBuffer 0 0 0 := by
  unfold d_Mod_clearBuffer
  exact (m_rti h zz (p1 := 16) (by decide +kernel) (by decide +kernel) (Nat.zero_le _) (Nat.zero_le _))
theorem ct_Mod_clearBuffer (w : Wd) (l : Launch) (hw : zWok w) : CT w l y_Mod_clearBuffer b_Mod_clearBuffer 2 (some .int) r_Mod_clearBuffer (exb true 2 d_Mod_clearBuffer) :=
  ct_plain (by decide +kernel) (fun p e s m args below meth c Q cx hnm => eo_Mod_clearBuffer hw cx) (fun p e s m args below meth c Q F h => sn_Mod_clearBuffer h)
theorem q_Mod_clearBuffer {a : Nat} {fs : List Value} {M : Hp} {nx : Nat}  (h : M a = some (cO 6 fs)) : x_Mod_clearBuffer [.ref a] (M, nx) = zres (d_Mod_clearBuffer ([some (.ref a), none], [], (M, nx))) := q_ofV [some (.ref a), none] h rfl (Nat.le_of_ble_eq_true rfl) (Or.inr rfl)
theorem lf_Mod_clearBuffer_25 : lookN (eF E_Mod_clearBuffer) 25 = some (6, 6) := rfl
theorem lf_Mod_clearBuffer_134 : lookN (eF E_Mod_clearBuffer) 134 = some (6, 5) := rfl
theorem lb_Mod_clearBuffer : eB E_Mod_clearBuffer = true := rfl
-- CoilSlitsModel.isNext
def E_Mod_isNext : Env := (true, [(137, 6, 7), (134, 6, 5), (19, 6, 4)], [(.invokestatic 29, 3, x_Mod_in)], [], [], zST, false)
def d_Mod_isNext : Dn := (sq (ite' (can (cno (cat E_Mod_isNext [.aload_n 0, .getfield 137, .aload_n 0, .getfield 134] (.if_icmp .ge 24))) (cno (cat E_Mod_isNext [.aload_n 0, .getfield 19, .aload_n 0, .getfield 137, .iaload, .iload_n 1, .iload_n 2, .invokestatic 29] (.ifCond .eq 7))))
  (blk E_Mod_isNext [.iconst 1])
  (blk E_Mod_isNext [.iconst 0]))
  (rtz E_Mod_isNext []))
def x_Mod_isNext : Ex := zrv 6 (exb true 3 d_Mod_isNext)
abbrev r_Mod_isNext : Room := ({ frames := 1, cells := 0, slots := 0, locals := 22 } : Room)
theorem eo_Mod_isNext (hw : zWok w) (cx : CX w p s m args c b_Mod_isNext 3 "CoilSlitsModel") : EnvOk w true p l e r_Mod_isNext s m args below meth c Q b_Mod_isNext 3 "CoilSlitsModel" E_Mod_isNext :=
  ⟨rfl, by decide +kernel, by decide +kernel, by decide +kernel, hw, fun h => absurd h (by decide),
  List.forall_mem_cons.mpr ⟨call_S cx (ct_Mod_in w l hw) tw_875 tw_873 tw_8 tw_874 (by decide +kernel) ⟨Nat.le_of_ble_eq_true rfl, Nat.le_of_ble_eq_true rfl⟩, fun q hq => absurd hq List.not_mem_nil⟩⟩
theorem sn_Mod_isNext (h : MC w true p l e R s m args below meth c Q b_Mod_isNext 3 "CoilSlitsModel" E_Mod_isNext 0 0 F (some .boolean)) : Sn (zK w true p l e R s m args below meth c Q 3) F (fun _ => False) (fun _ => False) 0 0 0 d_Mod_isNext 0 0 0 := by
  unfold d_Mod_isNext
  exact (sn_sq (pm := 33) (sn_ite (pt := 28) (pf := 32) (sc_an (pm := 11) (sc_no (m_cat h zz (p1 := 8) (tgt := 32) (by decide +kernel) (by decide +kernel) (by decide))) (sc_no (m_cat h zz (p1 := 25) (tgt := 32) (by decide +kernel) (by decide +kernel) (by decide))))
  (sn_goto (pm := 29) (m_blk h zz (by decide +kernel)) (m_goto h (off := 4) (by decide +kernel) (by decide)))
  (m_blk h zz (by decide +kernel)))
  (m_rtz h zz (p1 := 33) (by decide +kernel) (by decide +kernel) (Nat.zero_le _) (Nat.zero_le _)))
theorem ct_Mod_isNext (w : Wd) (l : Launch) (hw : zWok w) : CT w l y_Mod_isNext b_Mod_isNext 3 (some .boolean) r_Mod_isNext (exb true 3 d_Mod_isNext) :=
  ct_plain (by decide +kernel) (fun p e s m args below meth c Q cx hnm => eo_Mod_isNext hw cx) (fun p e s m args below meth c Q F h => sn_Mod_isNext h)
theorem q_Mod_isNext {a : Nat} {fs : List Value} {M : Hp} {nx : Nat} (x0 : Int32) (x1 : Int32) (h : M a = some (cO 6 fs)) : x_Mod_isNext [.ref a, .int x0, .int x1] (M, nx) = zres (d_Mod_isNext ([some (.ref a), some (.int x0), some (.int x1)], [], (M, nx))) := q_ofV [some (.ref a), some (.int x0), some (.int x1)] h rfl (Nat.le_of_ble_eq_true rfl) (Or.inr rfl)
theorem lc_Mod_isNext_29 : lookI (eC E_Mod_isNext) (.invokestatic 29) = some (3, x_Mod_in) := rfl
theorem lf_Mod_isNext_137 : lookN (eF E_Mod_isNext) 137 = some (6, 7) := rfl
theorem lf_Mod_isNext_134 : lookN (eF E_Mod_isNext) 134 = some (6, 5) := rfl
theorem lf_Mod_isNext_19 : lookN (eF E_Mod_isNext) 19 = some (6, 4) := rfl
theorem lb_Mod_isNext : eB E_Mod_isNext = true := rfl
theorem lt_Mod_isNext : eT E_Mod_isNext = zST := rfl
-- CoilSlitsModel.stops
def E_Mod_stops : Env := (true, [(137, 6, 7), (134, 6, 5), (140, 6, 8)], [], [], [], zST, false)
def d_Mod_stops : Dn := (sq (blk E_Mod_stops [.aload_n 0])
  (sq (ite' (cno (cat E_Mod_stops [.aload_n 0, .getfield 137, .aload_n 0, .getfield 134] (.if_icmp .ge 7)))
  (blk E_Mod_stops [.iconst 1])
  (blk E_Mod_stops [.iconst 0]))
  (rtz E_Mod_stops [.putfield 140, .iconst 0])))
def x_Mod_stops : Ex := zrv 6 (exb true 1 d_Mod_stops)
abbrev r_Mod_stops : Room := ({ frames := 0, cells := 0, slots := 0, locals := 0 } : Room)
theorem eo_Mod_stops (hw : zWok w) (cx : CX w p s m args c b_Mod_stops 1 "CoilSlitsModel") : EnvOk w true p l e r_Mod_stops s m args below meth c Q b_Mod_stops 1 "CoilSlitsModel" E_Mod_stops :=
  ⟨rfl, by decide +kernel, by decide +kernel, by decide +kernel, hw, fun h => absurd h (by decide),
  fun q hq => absurd hq List.not_mem_nil⟩
theorem sn_Mod_stops (h : MC w true p l e R s m args below meth c Q b_Mod_stops 1 "CoilSlitsModel" E_Mod_stops 0 0 F (some .boolean)) : Sn (zK w true p l e R s m args below meth c Q 1) F (fun _ => False) (fun _ => False) 0 0 0 d_Mod_stops 0 0 0 := by
  unfold d_Mod_stops
  exact (sn_sq (pm := 1) (m_blk h zz (by decide +kernel))
  (sn_sq (pm := 17) (sn_ite (pt := 12) (pf := 16) (sc_no (m_cat h zz (p1 := 9) (tgt := 16) (by decide +kernel) (by decide +kernel) (by decide)))
  (sn_goto (pm := 13) (m_blk h zz (by decide +kernel)) (m_goto h (off := 4) (by decide +kernel) (by decide)))
  (m_blk h zz (by decide +kernel)))
  (m_rtz h zz (p1 := 21) (by decide +kernel) (by decide +kernel) (Nat.zero_le _) (Nat.zero_le _))))
theorem ct_Mod_stops (w : Wd) (l : Launch) (hw : zWok w) : CT w l y_Mod_stops b_Mod_stops 1 (some .boolean) r_Mod_stops (exb true 1 d_Mod_stops) :=
  ct_plain (by decide +kernel) (fun p e s m args below meth c Q cx hnm => eo_Mod_stops hw cx) (fun p e s m args below meth c Q F h => sn_Mod_stops h)
theorem q_Mod_stops {a : Nat} {fs : List Value} {M : Hp} {nx : Nat}  (h : M a = some (cO 6 fs)) : x_Mod_stops [.ref a] (M, nx) = zres (d_Mod_stops ([some (.ref a)], [], (M, nx))) := q_ofV [some (.ref a)] h rfl (Nat.le_of_ble_eq_true rfl) (Or.inr rfl)
theorem lf_Mod_stops_137 : lookN (eF E_Mod_stops) 137 = some (6, 7) := rfl
theorem lf_Mod_stops_134 : lookN (eF E_Mod_stops) 134 = some (6, 5) := rfl
theorem lf_Mod_stops_140 : lookN (eF E_Mod_stops) 140 = some (6, 8) := rfl
theorem lb_Mod_stops : eB E_Mod_stops = true := rfl
-- CoilSlitsModel.isFigure
def E_Mod_isFigure : Env := (true, [(137, 6, 7), (22, 6, 9), (151, 6, 10), (19, 6, 4)], [(.invokevirtual 144, 3, x_Mod_isNext), (.invokevirtual 147, 1, x_Mod_stops)], [], [], zST, false)
def d_Mod_isFigure : Dn := (sq (blk E_Mod_isFigure [.aload_n 0, .dup, .getfield 137, .iconst 1, .iadd, .putfield 137])
  (sq (ite' (cno (cat E_Mod_isFigure [.aload_n 0, .bipush 48, .iload_n 2, .invokevirtual 144] (.ifCond .ne 8)))
  (rtz E_Mod_isFigure [.aload_n 0, .invokevirtual 147])
  (blk E_Mod_isFigure []))
  (rtz E_Mod_isFigure [.aload_n 0, .getfield 22, .iconst 4, .aload_n 0, .getfield 151, .imul, .iload_n 1, .iadd, .aload_n 0, .getfield 19, .aload_n 0, .getfield 137, .iaload, .bipush 48, .isub, .iastore, .aload_n 0, .dup, .getfield 137, .iconst 1, .iadd, .putfield 137, .iconst 1])))
def x_Mod_isFigure : Ex := zrv 6 (exb true 3 d_Mod_isFigure)
abbrev r_Mod_isFigure : Room := ({ frames := 2, cells := 0, slots := 0, locals := 44 } : Room)
theorem eo_Mod_isFigure (hw : zWok w) (cx : CX w p s m args c b_Mod_isFigure 3 "CoilSlitsModel") : EnvOk w true p l e r_Mod_isFigure s m args below meth c Q b_Mod_isFigure 3 "CoilSlitsModel" E_Mod_isFigure :=
  ⟨rfl, by decide +kernel, by decide +kernel, by decide +kernel, hw, fun h => absurd h (by decide),
  List.forall_mem_cons.mpr ⟨call_V cx (ct_Mod_isNext w l hw) tw_1023 tw_1020 tw_8 tw_1022 tp_36 (ci := 6) (Nat.le_of_ble_eq_true rfl) rfl (by decide +kernel) ⟨Nat.le_of_ble_eq_true rfl, Nat.le_of_ble_eq_true rfl⟩, List.forall_mem_cons.mpr ⟨call_V cx (ct_Mod_stops w l hw) tw_1027 tw_1024 tw_8 tw_1026 tp_37 (ci := 6) (Nat.le_of_ble_eq_true rfl) rfl (by decide +kernel) ⟨Nat.le_of_ble_eq_true rfl, Nat.le_of_ble_eq_true rfl⟩, fun q hq => absurd hq List.not_mem_nil⟩⟩⟩
theorem sn_Mod_isFigure (h : MC w true p l e R s m args below meth c Q b_Mod_isFigure 3 "CoilSlitsModel" E_Mod_isFigure 0 0 F (some .boolean)) : Sn (zK w true p l e R s m args below meth c Q 3) F (fun _ => False) (fun _ => False) 0 0 0 d_Mod_isFigure 0 0 0 := by
  unfold d_Mod_isFigure
  exact (sn_sq (pm := 10) (m_blk h zz (by decide +kernel))
  (sn_sq (pm := 25) (sn_ite (pt := 20) (pf := 25) (sc_no (m_cat h zz (p1 := 17) (tgt := 25) (by decide +kernel) (by decide +kernel) (by decide)))
  (m_rtz h zz (p1 := 24) (by decide +kernel) (by decide +kernel) (Nat.zero_le _) (Nat.zero_le _))
  (m_blk h zz rfl))
  (m_rtz h zz (p1 := 61) (by decide +kernel) (by decide +kernel) (Nat.zero_le _) (Nat.zero_le _))))
theorem ct_Mod_isFigure (w : Wd) (l : Launch) (hw : zWok w) : CT w l y_Mod_isFigure b_Mod_isFigure 3 (some .boolean) r_Mod_isFigure (exb true 3 d_Mod_isFigure) :=
  ct_plain (by decide +kernel) (fun p e s m args below meth c Q cx hnm => eo_Mod_isFigure hw cx) (fun p e s m args below meth c Q F h => sn_Mod_isFigure h)
theorem q_Mod_isFigure {a : Nat} {fs : List Value} {M : Hp} {nx : Nat} (x0 : Int32) (x1 : Int32) (h : M a = some (cO 6 fs)) : x_Mod_isFigure [.ref a, .int x0, .int x1] (M, nx) = zres (d_Mod_isFigure ([some (.ref a), some (.int x0), some (.int x1)], [], (M, nx))) := q_ofV [some (.ref a), some (.int x0), some (.int x1)] h rfl (Nat.le_of_ble_eq_true rfl) (Or.inr rfl)
theorem lc_Mod_isFigure_144 : lookI (eC E_Mod_isFigure) (.invokevirtual 144) = some (3, x_Mod_isNext) := rfl
theorem lc_Mod_isFigure_147 : lookI (eC E_Mod_isFigure) (.invokevirtual 147) = some (1, x_Mod_stops) := rfl
theorem lf_Mod_isFigure_137 : lookN (eF E_Mod_isFigure) 137 = some (6, 7) := rfl
theorem lf_Mod_isFigure_22 : lookN (eF E_Mod_isFigure) 22 = some (6, 9) := rfl
theorem lf_Mod_isFigure_151 : lookN (eF E_Mod_isFigure) 151 = some (6, 10) := rfl
theorem lf_Mod_isFigure_19 : lookN (eF E_Mod_isFigure) 19 = some (6, 4) := rfl
theorem lb_Mod_isFigure : eB E_Mod_isFigure = true := rfl
theorem lt_Mod_isFigure : eT E_Mod_isFigure = zST := rfl
-- CoilSlitsModel.isWidth
def E_Mod_isWidth : Env := (true, [(19, 6, 4), (137, 6, 7), (22, 6, 9), (151, 6, 10)], [(.invokevirtual 144, 3, x_Mod_isNext), (.invokevirtual 147, 1, x_Mod_stops)], [], [], zST, false)
def d_Mod_isWidth : Dn := (sq (ite' (cno (cat E_Mod_isWidth [.aload_n 0, .bipush 49, .bipush 57, .invokevirtual 144] (.ifCond .ne 8)))
  (rtz E_Mod_isWidth [.aload_n 0, .invokevirtual 147])
  (blk E_Mod_isWidth []))
  (sq (blk E_Mod_isWidth [.iconst 0, .istore_n 1])
  (sq (lop (can (cno (cat E_Mod_isWidth [.aload_n 0, .bipush 48, .bipush 57, .invokevirtual 144] (.ifCond .eq 57))) (cno (cat E_Mod_isWidth [.bipush 10, .iload_n 1, .imul, .aload_n 0, .getfield 19, .aload_n 0, .getfield 137, .iaload, .iadd, .bipush 48, .isub, .sipush 200] (.if_icmp .gt 34))))
  (blk E_Mod_isWidth [.bipush 10, .iload_n 1, .imul, .aload_n 0, .getfield 19, .aload_n 0, .getfield 137, .iaload, .iadd, .bipush 48, .isub, .istore_n 1, .aload_n 0, .dup, .getfield 137, .iconst 1, .iadd, .putfield 137])
  (blk E_Mod_isWidth []) zFU)
  (rtz E_Mod_isWidth [.aload_n 0, .getfield 22, .iconst 4, .aload_n 0, .getfield 151, .imul, .iload_n 1, .iastore, .iconst 1]))))
def x_Mod_isWidth : Ex := zrv 6 (exb true 2 d_Mod_isWidth)
abbrev r_Mod_isWidth : Room := ({ frames := 2, cells := 0, slots := 0, locals := 44 } : Room)
theorem eo_Mod_isWidth (hw : zWok w) (cx : CX w p s m args c b_Mod_isWidth 2 "CoilSlitsModel") : EnvOk w true p l e r_Mod_isWidth s m args below meth c Q b_Mod_isWidth 2 "CoilSlitsModel" E_Mod_isWidth :=
  ⟨rfl, by decide +kernel, by decide +kernel, by decide +kernel, hw, fun h => absurd h (by decide),
  List.forall_mem_cons.mpr ⟨call_V cx (ct_Mod_isNext w l hw) tw_1023 tw_1020 tw_8 tw_1022 tp_36 (ci := 6) (Nat.le_of_ble_eq_true rfl) rfl (by decide +kernel) ⟨Nat.le_of_ble_eq_true rfl, Nat.le_of_ble_eq_true rfl⟩, List.forall_mem_cons.mpr ⟨call_V cx (ct_Mod_stops w l hw) tw_1027 tw_1024 tw_8 tw_1026 tp_37 (ci := 6) (Nat.le_of_ble_eq_true rfl) rfl (by decide +kernel) ⟨Nat.le_of_ble_eq_true rfl, Nat.le_of_ble_eq_true rfl⟩, fun q hq => absurd hq List.not_mem_nil⟩⟩⟩
theorem sn_Mod_isWidth (h : MC w true p l e R s m args below meth c Q b_Mod_isWidth 2 "CoilSlitsModel" E_Mod_isWidth 0 0 F (some .boolean)) : Sn (zK w true p l e R s m args below meth c Q 2) F (fun _ => False) (fun _ => False) 0 0 0 d_Mod_isWidth 0 0 0 := by
  unfold d_Mod_isWidth
  exact (sn_sq (pm := 16) (sn_ite (pt := 11) (pf := 16) (sc_no (m_cat h zz (p1 := 8) (tgt := 16) (by decide +kernel) (by decide +kernel) (by decide)))
  (m_rtz h zz (p1 := 15) (by decide +kernel) (by decide +kernel) (Nat.zero_le _) (Nat.zero_le _))
  (m_blk h zz rfl))
  (sn_sq (pm := 18) (m_blk h zz (by decide +kernel))
  (sn_sq (pm := 83) (sn_lop (pt := 52) (pu := 80) (p2 := 80) (px := 83) (kb2 := fun _ => False) (kc2 := fun _ => False) (sc_an (pm := 29) (sc_no (m_cat h zz (p1 := 26) (tgt := 83) (by decide +kernel) (by decide +kernel) (by decide))) (sc_no (m_cat h zz (p1 := 49) (tgt := 83) (by decide +kernel) (by decide +kernel) (by decide))))
  (m_blk h zz (by decide +kernel))
  (m_blk h zz rfl) (m_goto h (off := (-62)) (by decide +kernel) (by decide)) zFU)
  (m_rtz h zz (p1 := 96) (by decide +kernel) (by decide +kernel) (Nat.zero_le _) (Nat.zero_le _)))))
theorem ct_Mod_isWidth (w : Wd) (l : Launch) (hw : zWok w) : CT w l y_Mod_isWidth b_Mod_isWidth 2 (some .boolean) r_Mod_isWidth (exb true 2 d_Mod_isWidth) :=
  ct_plain (by decide +kernel) (fun p e s m args below meth c Q cx hnm => eo_Mod_isWidth hw cx) (fun p e s m args below meth c Q F h => sn_Mod_isWidth h)
theorem q_Mod_isWidth {a : Nat} {fs : List Value} {M : Hp} {nx : Nat}  (h : M a = some (cO 6 fs)) : x_Mod_isWidth [.ref a] (M, nx) = zres (d_Mod_isWidth ([some (.ref a), none], [], (M, nx))) := q_ofV [some (.ref a), none] h rfl (Nat.le_of_ble_eq_true rfl) (Or.inr rfl)
theorem lc_Mod_isWidth_144 : lookI (eC E_Mod_isWidth) (.invokevirtual 144) = some (3, x_Mod_isNext) := rfl
theorem lc_Mod_isWidth_147 : lookI (eC E_Mod_isWidth) (.invokevirtual 147) = some (1, x_Mod_stops) := rfl
theorem lf_Mod_isWidth_19 : lookN (eF E_Mod_isWidth) 19 = some (6, 4) := rfl
theorem lf_Mod_isWidth_137 : lookN (eF E_Mod_isWidth) 137 = some (6, 7) := rfl
theorem lf_Mod_isWidth_22 : lookN (eF E_Mod_isWidth) 22 = some (6, 9) := rfl
theorem lf_Mod_isWidth_151 : lookN (eF E_Mod_isWidth) 151 = some (6, 10) := rfl
theorem lb_Mod_isWidth : eB E_Mod_isWidth = true := rfl
theorem lt_Mod_isWidth : eT E_Mod_isWidth = zST := rfl
-- CoilSlitsModel.isPart
def E_Mod_isPart : Env := (true, [(22, 6, 9), (151, 6, 10)], [(.invokevirtual 154, 1, x_Mod_isWidth), (.invokevirtual 144, 3, x_Mod_isNext), (.invokevirtual 147, 1, x_Mod_stops), (.invokevirtual 157, 3, x_Mod_isFigure)], [], [], zST, false)
def d_Mod_isPart : Dn := (sq (blk E_Mod_isPart [.aload_n 0, .getfield 22, .iconst 4, .aload_n 0, .getfield 151, .imul, .iconst 2, .iadd, .iconst 5, .iastore, .aload_n 0, .getfield 22, .iconst 4, .aload_n 0, .getfield 151, .imul, .iconst 3, .iadd, .iconst (-1), .iastore])
  (sq (ite' (cno (cat E_Mod_isPart [.aload_n 0, .invokevirtual 154] (.ifCond .ne 5)))
  (rtz E_Mod_isPart [.iconst 0])
  (blk E_Mod_isPart []))
  (sq (ite' (cno (cat E_Mod_isPart [.aload_n 0, .bipush 103, .bipush 103, .invokevirtual 144] (.ifCond .ne 8)))
  (rtz E_Mod_isPart [.aload_n 0, .invokevirtual 147])
  (blk E_Mod_isPart []))
  (sq (ite' (cno (cat E_Mod_isPart [.aload_n 0, .iconst 1, .bipush 51, .invokevirtual 157] (.ifCond .ne 5)))
  (rtz E_Mod_isPart [.iconst 0])
  (blk E_Mod_isPart []))
  (sq (ite' (can (cno (cat E_Mod_isPart [.aload_n 0, .bipush 113, .bipush 113, .invokevirtual 144] (.ifCond .eq 15))) (cno (cat E_Mod_isPart [.aload_n 0, .iconst 2, .bipush 57, .invokevirtual 157] (.ifCond .ne 5))))
  (rtz E_Mod_isPart [.iconst 0])
  (blk E_Mod_isPart []))
  (sq (ite' (cor (cat E_Mod_isPart [.aload_n 0, .bipush 115, .bipush 115, .invokevirtual 144] (.ifCond .eq 13)) (cno (cat E_Mod_isPart [.aload_n 0, .iconst 3, .bipush 53, .invokevirtual 157] (.ifCond .eq 7))))
  (blk E_Mod_isPart [.iconst 1])
  (blk E_Mod_isPart [.iconst 0]))
  (rtz E_Mod_isPart [])))))))
def x_Mod_isPart : Ex := zrv 6 (exb true 1 d_Mod_isPart)
abbrev r_Mod_isPart : Room := ({ frames := 3, cells := 0, slots := 0, locals := 66 } : Room)
theorem eo_Mod_isPart (hw : zWok w) (cx : CX w p s m args c b_Mod_isPart 1 "CoilSlitsModel") : EnvOk w true p l e r_Mod_isPart s m args below meth c Q b_Mod_isPart 1 "CoilSlitsModel" E_Mod_isPart :=
  ⟨rfl, by decide +kernel, by decide +kernel, by decide +kernel, hw, fun h => absurd h (by decide),
  List.forall_mem_cons.mpr ⟨call_V cx (ct_Mod_isWidth w l hw) tw_1019 tw_1016 tw_8 tw_1018 tp_35 (ci := 6) (Nat.le_of_ble_eq_true rfl) rfl (by decide +kernel) ⟨Nat.le_of_ble_eq_true rfl, Nat.le_of_ble_eq_true rfl⟩, List.forall_mem_cons.mpr ⟨call_V cx (ct_Mod_isNext w l hw) tw_1023 tw_1020 tw_8 tw_1022 tp_36 (ci := 6) (Nat.le_of_ble_eq_true rfl) rfl (by decide +kernel) ⟨Nat.le_of_ble_eq_true rfl, Nat.le_of_ble_eq_true rfl⟩, List.forall_mem_cons.mpr ⟨call_V cx (ct_Mod_stops w l hw) tw_1027 tw_1024 tw_8 tw_1026 tp_37 (ci := 6) (Nat.le_of_ble_eq_true rfl) rfl (by decide +kernel) ⟨Nat.le_of_ble_eq_true rfl, Nat.le_of_ble_eq_true rfl⟩, List.forall_mem_cons.mpr ⟨call_V cx (ct_Mod_isFigure w l hw) tw_1031 tw_1028 tw_8 tw_1030 tp_38 (ci := 6) (Nat.le_of_ble_eq_true rfl) rfl (by decide +kernel) ⟨Nat.le_of_ble_eq_true rfl, Nat.le_of_ble_eq_true rfl⟩, fun q hq => absurd hq List.not_mem_nil⟩⟩⟩⟩⟩
theorem sn_Mod_isPart (h : MC w true p l e R s m args below meth c Q b_Mod_isPart 1 "CoilSlitsModel" E_Mod_isPart 0 0 F (some .boolean)) : Sn (zK w true p l e R s m args below meth c Q 1) F (fun _ => False) (fun _ => False) 0 0 0 d_Mod_isPart 0 0 0 := by
  unfold d_Mod_isPart
  exact (sn_sq (pm := 28) (m_blk h zz (by decide +kernel))
  (sn_sq (pm := 37) (sn_ite (pt := 35) (pf := 37) (sc_no (m_cat h zz (p1 := 32) (tgt := 37) (by decide +kernel) (by decide +kernel) (by decide)))
  (m_rtz h zz (p1 := 36) (by decide +kernel) (by decide +kernel) (Nat.zero_le _) (Nat.zero_le _))
  (m_blk h zz rfl))
  (sn_sq (pm := 53) (sn_ite (pt := 48) (pf := 53) (sc_no (m_cat h zz (p1 := 45) (tgt := 53) (by decide +kernel) (by decide +kernel) (by decide)))
  (m_rtz h zz (p1 := 52) (by decide +kernel) (by decide +kernel) (Nat.zero_le _) (Nat.zero_le _))
  (m_blk h zz rfl))
  (sn_sq (pm := 65) (sn_ite (pt := 63) (pf := 65) (sc_no (m_cat h zz (p1 := 60) (tgt := 65) (by decide +kernel) (by decide +kernel) (by decide)))
  (m_rtz h zz (p1 := 64) (by decide +kernel) (by decide +kernel) (Nat.zero_le _) (Nat.zero_le _))
  (m_blk h zz rfl))
  (sn_sq (pm := 88) (sn_ite (pt := 86) (pf := 88) (sc_an (pm := 76) (sc_no (m_cat h zz (p1 := 73) (tgt := 88) (by decide +kernel) (by decide +kernel) (by decide))) (sc_no (m_cat h zz (p1 := 83) (tgt := 88) (by decide +kernel) (by decide +kernel) (by decide))))
  (m_rtz h zz (p1 := 87) (by decide +kernel) (by decide +kernel) (Nat.zero_le _) (Nat.zero_le _))
  (m_blk h zz rfl))
  (sn_sq (pm := 114) (sn_ite (pt := 109) (pf := 113) (sc_or (pm := 99) (m_cat h zz (p1 := 96) (tgt := 109) (by decide +kernel) (by decide +kernel) (by decide)) (sc_no (m_cat h zz (p1 := 106) (tgt := 113) (by decide +kernel) (by decide +kernel) (by decide))))
  (sn_goto (pm := 110) (m_blk h zz (by decide +kernel)) (m_goto h (off := 4) (by decide +kernel) (by decide)))
  (m_blk h zz (by decide +kernel)))
  (m_rtz h zz (p1 := 114) (by decide +kernel) (by decide +kernel) (Nat.zero_le _) (Nat.zero_le _))))))))
theorem ct_Mod_isPart (w : Wd) (l : Launch) (hw : zWok w) : CT w l y_Mod_isPart b_Mod_isPart 1 (some .boolean) r_Mod_isPart (exb true 1 d_Mod_isPart) :=
  ct_plain (by decide +kernel) (fun p e s m args below meth c Q cx hnm => eo_Mod_isPart hw cx) (fun p e s m args below meth c Q F h => sn_Mod_isPart h)
theorem q_Mod_isPart {a : Nat} {fs : List Value} {M : Hp} {nx : Nat}  (h : M a = some (cO 6 fs)) : x_Mod_isPart [.ref a] (M, nx) = zres (d_Mod_isPart ([some (.ref a)], [], (M, nx))) := q_ofV [some (.ref a)] h rfl (Nat.le_of_ble_eq_true rfl) (Or.inr rfl)
theorem lc_Mod_isPart_154 : lookI (eC E_Mod_isPart) (.invokevirtual 154) = some (1, x_Mod_isWidth) := rfl
theorem lc_Mod_isPart_144 : lookI (eC E_Mod_isPart) (.invokevirtual 144) = some (3, x_Mod_isNext) := rfl
theorem lc_Mod_isPart_147 : lookI (eC E_Mod_isPart) (.invokevirtual 147) = some (1, x_Mod_stops) := rfl
theorem lc_Mod_isPart_157 : lookI (eC E_Mod_isPart) (.invokevirtual 157) = some (3, x_Mod_isFigure) := rfl
theorem lf_Mod_isPart_22 : lookN (eF E_Mod_isPart) 22 = some (6, 9) := rfl
theorem lf_Mod_isPart_151 : lookN (eF E_Mod_isPart) 151 = some (6, 10) := rfl
theorem lb_Mod_isPart : eB E_Mod_isPart = true := rfl
-- CoilSlitsModel.isText
def E_Mod_isText : Env := (true, [(137, 6, 7), (151, 6, 10), (140, 6, 8), (134, 6, 5)], [(.invokevirtual 160, 1, x_Mod_isPart), (.invokevirtual 144, 3, x_Mod_isNext)], [], [], zST, false)
def d_Mod_isText : Dn := (sq (blk E_Mod_isText [.aload_n 0, .iconst 0, .putfield 137, .aload_n 0, .iconst 0, .putfield 151, .aload_n 0, .iconst 0, .putfield 140, .iconst 1, .istore_n 1])
  (sq (lop (cno (cat E_Mod_isText [.iload_n 1] (.ifCond .eq 52)))
  (sq (ite' (cno (cat E_Mod_isText [.aload_n 0, .invokevirtual 160] (.ifCond .ne 5)))
  (rtz E_Mod_isText [.iconst 0])
  (blk E_Mod_isText []))
  (sq (blk E_Mod_isText [.aload_n 0, .dup, .getfield 151, .iconst 1, .iadd, .putfield 151, .aload_n 0, .bipush 59, .bipush 59, .invokevirtual 144, .istore_n 1, .aload_n 0, .dup, .getfield 137])
  (sq (ite' (cno (cat E_Mod_isText [.iload_n 1] (.ifCond .eq 7)))
  (blk E_Mod_isText [.iconst 1])
  (blk E_Mod_isText [.iconst 0]))
  (blk E_Mod_isText [.iadd, .putfield 137]))))
  (blk E_Mod_isText []) zFU)
  (sq (blk E_Mod_isText [.aload_n 0])
  (sq (ite' (cno (cat E_Mod_isText [.aload_n 0, .getfield 137, .aload_n 0, .getfield 134] (.if_icmp .ge 7)))
  (blk E_Mod_isText [.iconst 1])
  (blk E_Mod_isText [.iconst 0]))
  (sq (blk E_Mod_isText [.putfield 140])
  (sq (ite' (cno (cat E_Mod_isText [.aload_n 0, .getfield 137, .aload_n 0, .getfield 134] (.if_icmp .ne 7)))
  (blk E_Mod_isText [.iconst 1])
  (blk E_Mod_isText [.iconst 0]))
  (rtz E_Mod_isText [])))))))
def x_Mod_isText : Ex := zrv 6 (exb true 2 d_Mod_isText)
abbrev r_Mod_isText : Room := ({ frames := 4, cells := 0, slots := 0, locals := 86 } : Room)
theorem eo_Mod_isText (hw : zWok w) (cx : CX w p s m args c b_Mod_isText 2 "CoilSlitsModel") : EnvOk w true p l e r_Mod_isText s m args below meth c Q b_Mod_isText 2 "CoilSlitsModel" E_Mod_isText :=
  ⟨rfl, by decide +kernel, by decide +kernel, by decide +kernel, hw, fun h => absurd h (by decide),
  List.forall_mem_cons.mpr ⟨call_V cx (ct_Mod_isPart w l hw) tw_1015 tw_1012 tw_8 tw_1014 tp_34 (ci := 6) (Nat.le_of_ble_eq_true rfl) rfl (by decide +kernel) ⟨Nat.le_of_ble_eq_true rfl, Nat.le_of_ble_eq_true rfl⟩, List.forall_mem_cons.mpr ⟨call_V cx (ct_Mod_isNext w l hw) tw_1023 tw_1020 tw_8 tw_1022 tp_36 (ci := 6) (Nat.le_of_ble_eq_true rfl) rfl (by decide +kernel) ⟨Nat.le_of_ble_eq_true rfl, Nat.le_of_ble_eq_true rfl⟩, fun q hq => absurd hq List.not_mem_nil⟩⟩⟩
theorem sn_Mod_isText (h : MC w true p l e R s m args below meth c Q b_Mod_isText 2 "CoilSlitsModel" E_Mod_isText 0 0 F (some .boolean)) : Sn (zK w true p l e R s m args below meth c Q 2) F (fun _ => False) (fun _ => False) 0 0 0 d_Mod_isText 0 0 0 := by
  unfold d_Mod_isText
  exact (sn_sq (pm := 17) (m_blk h zz (by decide +kernel))
  (sn_sq (pm := 70) (sn_lop (pt := 21) (pu := 67) (p2 := 67) (px := 70) (kb2 := fun _ => False) (kc2 := fun _ => False) (sc_no (m_cat h zz (p1 := 18) (tgt := 70) (by decide +kernel) (by decide +kernel) (by decide)))
  (sn_sq (pm := 30) (sn_ite (pt := 28) (pf := 30) (sc_no (m_cat h zz (p1 := 25) (tgt := 30) (by decide +kernel) (by decide +kernel) (by decide)))
  (m_rtz h zz (p1 := 29) (by decide +kernel) (by decide +kernel) (Nat.zero_le _) (Nat.zero_le _))
  (m_blk h zz rfl))
  (sn_sq (pm := 54) (m_blk h zz (by decide +kernel))
  (sn_sq (pm := 63) (sn_ite (pt := 58) (pf := 62) (sc_no (m_cat h zz (p1 := 55) (tgt := 62) (by decide +kernel) (by decide +kernel) (by decide)))
  (sn_goto (pm := 59) (m_blk h zz (by decide +kernel)) (m_goto h (off := 4) (by decide +kernel) (by decide)))
  (m_blk h zz (by decide +kernel)))
  (m_blk h zz (by decide +kernel)))))
  (m_blk h zz rfl) (m_goto h (off := (-50)) (by decide +kernel) (by decide)) zFU)
  (sn_sq (pm := 71) (m_blk h zz (by decide +kernel))
  (sn_sq (pm := 87) (sn_ite (pt := 82) (pf := 86) (sc_no (m_cat h zz (p1 := 79) (tgt := 86) (by decide +kernel) (by decide +kernel) (by decide)))
  (sn_goto (pm := 83) (m_blk h zz (by decide +kernel)) (m_goto h (off := 4) (by decide +kernel) (by decide)))
  (m_blk h zz (by decide +kernel)))
  (sn_sq (pm := 90) (m_blk h zz (by decide +kernel))
  (sn_sq (pm := 106) (sn_ite (pt := 101) (pf := 105) (sc_no (m_cat h zz (p1 := 98) (tgt := 105) (by decide +kernel) (by decide +kernel) (by decide)))
  (sn_goto (pm := 102) (m_blk h zz (by decide +kernel)) (m_goto h (off := 4) (by decide +kernel) (by decide)))
  (m_blk h zz (by decide +kernel)))
  (m_rtz h zz (p1 := 106) (by decide +kernel) (by decide +kernel) (Nat.zero_le _) (Nat.zero_le _))))))))
theorem ct_Mod_isText (w : Wd) (l : Launch) (hw : zWok w) : CT w l y_Mod_isText b_Mod_isText 2 (some .boolean) r_Mod_isText (exb true 2 d_Mod_isText) :=
  ct_plain (by decide +kernel) (fun p e s m args below meth c Q cx hnm => eo_Mod_isText hw cx) (fun p e s m args below meth c Q F h => sn_Mod_isText h)
theorem q_Mod_isText {a : Nat} {fs : List Value} {M : Hp} {nx : Nat}  (h : M a = some (cO 6 fs)) : x_Mod_isText [.ref a] (M, nx) = zres (d_Mod_isText ([some (.ref a), none], [], (M, nx))) := q_ofV [some (.ref a), none] h rfl (Nat.le_of_ble_eq_true rfl) (Or.inr rfl)
theorem lc_Mod_isText_160 : lookI (eC E_Mod_isText) (.invokevirtual 160) = some (1, x_Mod_isPart) := rfl
theorem lc_Mod_isText_144 : lookI (eC E_Mod_isText) (.invokevirtual 144) = some (3, x_Mod_isNext) := rfl
theorem lf_Mod_isText_137 : lookN (eF E_Mod_isText) 137 = some (6, 7) := rfl
theorem lf_Mod_isText_151 : lookN (eF E_Mod_isText) 151 = some (6, 10) := rfl
theorem lf_Mod_isText_140 : lookN (eF E_Mod_isText) 140 = some (6, 8) := rfl
theorem lf_Mod_isText_134 : lookN (eF E_Mod_isText) 134 = some (6, 5) := rfl
theorem lb_Mod_isText : eB E_Mod_isText = true := rfl
-- CoilSlitsModel.firstError
def E_Mod_firstError : Env := (true, [(25, 6, 6), (140, 6, 8), (137, 6, 7), (134, 6, 5)], [(.invokevirtual 163, 1, x_Mod_isText)], [], [], zST, false)
def d_Mod_firstError : Dn := (sq (blk E_Mod_firstError [.aload_n 0, .iconst 0, .putfield 25, .aload_n 0, .invokevirtual 163, .istore_n 1])
  (sq (ite' (can (cno (cat E_Mod_firstError [.iload_n 1] (.ifCond .ne 17))) (cno (cat E_Mod_firstError [.aload_n 0, .getfield 140] (.ifCond .eq 10))))
  (blk E_Mod_firstError [.aload_n 0, .getfield 137])
  (blk E_Mod_firstError [.aload_n 0, .getfield 134]))
  (rti E_Mod_firstError [])))
def x_Mod_firstError : Ex := zrv 6 (exb true 2 d_Mod_firstError)
abbrev r_Mod_firstError : Room := ({ frames := 5, cells := 0, slots := 0, locals := 107 } : Room)
theorem eo_Mod_firstError (hw : zWok w) (cx : CX w p s m args c b_Mod_firstError 2 "CoilSlitsModel") : EnvOk w true p l e r_Mod_firstError s m args below meth c Q b_Mod_firstError 2 "CoilSlitsModel" E_Mod_firstError :=
  ⟨rfl, by decide +kernel, by decide +kernel, by decide +kernel, hw, fun h => absurd h (by decide),
  List.forall_mem_cons.mpr ⟨call_V cx (ct_Mod_isText w l hw) tw_1011 tw_1008 tw_8 tw_1010 tp_33 (ci := 6) (Nat.le_of_ble_eq_true rfl) rfl (by decide +kernel) ⟨Nat.le_of_ble_eq_true rfl, Nat.le_of_ble_eq_true rfl⟩, fun q hq => absurd hq List.not_mem_nil⟩⟩
theorem sn_Mod_firstError (h : MC w true p l e R s m args below meth c Q b_Mod_firstError 2 "CoilSlitsModel" E_Mod_firstError 0 0 F (some .int)) : Sn (zK w true p l e R s m args below meth c Q 2) F (fun _ => False) (fun _ => False) 0 0 0 d_Mod_firstError 0 0 0 := by
  unfold d_Mod_firstError
  exact (sn_sq (pm := 10) (m_blk h zz (by decide +kernel))
  (sn_sq (pm := 32) (sn_ite (pt := 21) (pf := 28) (sc_an (pm := 14) (sc_no (m_cat h zz (p1 := 11) (tgt := 28) (by decide +kernel) (by decide +kernel) (by decide))) (sc_no (m_cat h zz (p1 := 18) (tgt := 28) (by decide +kernel) (by decide +kernel) (by decide))))
  (sn_goto (pm := 25) (m_blk h zz (by decide +kernel)) (m_goto h (off := 7) (by decide +kernel) (by decide)))
  (m_blk h zz (by decide +kernel)))
  (m_rti h zz (p1 := 32) (by decide +kernel) (by decide +kernel) (Nat.zero_le _) (Nat.zero_le _))))
theorem ct_Mod_firstError (w : Wd) (l : Launch) (hw : zWok w) : CT w l y_Mod_firstError b_Mod_firstError 2 (some .int) r_Mod_firstError (exb true 2 d_Mod_firstError) :=
  ct_plain (by decide +kernel) (fun p e s m args below meth c Q cx hnm => eo_Mod_firstError hw cx) (fun p e s m args below meth c Q F h => sn_Mod_firstError h)
theorem q_Mod_firstError {a : Nat} {fs : List Value} {M : Hp} {nx : Nat}  (h : M a = some (cO 6 fs)) : x_Mod_firstError [.ref a] (M, nx) = zres (d_Mod_firstError ([some (.ref a), none], [], (M, nx))) := q_ofV [some (.ref a), none] h rfl (Nat.le_of_ble_eq_true rfl) (Or.inr rfl)
theorem lc_Mod_firstError_163 : lookI (eC E_Mod_firstError) (.invokevirtual 163) = some (1, x_Mod_isText) := rfl
theorem lf_Mod_firstError_25 : lookN (eF E_Mod_firstError) 25 = some (6, 6) := rfl
theorem lf_Mod_firstError_140 : lookN (eF E_Mod_firstError) 140 = some (6, 8) := rfl
theorem lf_Mod_firstError_137 : lookN (eF E_Mod_firstError) 137 = some (6, 7) := rfl
theorem lf_Mod_firstError_134 : lookN (eF E_Mod_firstError) 134 = some (6, 5) := rfl
theorem lb_Mod_firstError : eB E_Mod_firstError = true := rfl
-- CoilSlitsModel.lowest
def E_Mod_lowest : Env := (true, [(7, 6, 0)], [], [], [], zST, false)
def d_Mod_lowest : Dn := (sq (blk E_Mod_lowest [.iconst 0, .istore_n 1, .iconst 1, .istore_n 2])
  (sq (lop (cno (cat E_Mod_lowest [.iload_n 2, .bipush 6] (.if_icmp .ge 36)))
  (sq (ite' (cno (cat E_Mod_lowest [.aload_n 0, .getfield 7, .bipush 16, .iload_n 2, .iadd, .iaload, .aload_n 0, .getfield 7, .bipush 16, .iload_n 1, .iadd, .iaload] (.if_icmp .ge 7)))
  (blk E_Mod_lowest [.iload_n 2])
  (blk E_Mod_lowest [.iload_n 1]))
  (blk E_Mod_lowest [.istore_n 1, .iinc 2 1]))
  (blk E_Mod_lowest []) zFU)
  (rti E_Mod_lowest [.iload_n 1])))
def x_Mod_lowest : Ex := zrv 6 (exb true 3 d_Mod_lowest)
abbrev r_Mod_lowest : Room := ({ frames := 0, cells := 0, slots := 0, locals := 0 } : Room)
theorem eo_Mod_lowest (hw : zWok w) (cx : CX w p s m args c b_Mod_lowest 3 "CoilSlitsModel") : EnvOk w true p l e r_Mod_lowest s m args below meth c Q b_Mod_lowest 3 "CoilSlitsModel" E_Mod_lowest :=
  ⟨rfl, by decide +kernel, by decide +kernel, by decide +kernel, hw, fun h => absurd h (by decide),
  fun q hq => absurd hq List.not_mem_nil⟩
theorem sn_Mod_lowest (h : MC w true p l e R s m args below meth c Q b_Mod_lowest 3 "CoilSlitsModel" E_Mod_lowest 0 0 F (some .int)) : Sn (zK w true p l e R s m args below meth c Q 3) F (fun _ => False) (fun _ => False) 0 0 0 d_Mod_lowest 0 0 0 := by
  unfold d_Mod_lowest
  exact (sn_sq (pm := 4) (m_blk h zz (by decide +kernel))
  (sn_sq (pm := 43) (sn_lop (pt := 10) (pu := 40) (p2 := 40) (px := 43) (kb2 := fun _ => False) (kc2 := fun _ => False) (sc_no (m_cat h zz (p1 := 7) (tgt := 43) (by decide +kernel) (by decide +kernel) (by decide)))
  (sn_sq (pm := 36) (sn_ite (pt := 31) (pf := 35) (sc_no (m_cat h zz (p1 := 28) (tgt := 35) (by decide +kernel) (by decide +kernel) (by decide)))
  (sn_goto (pm := 32) (m_blk h zz (by decide +kernel)) (m_goto h (off := 4) (by decide +kernel) (by decide)))
  (m_blk h zz (by decide +kernel)))
  (m_blk h zz (by decide +kernel)))
  (m_blk h zz rfl) (m_goto h (off := (-36)) (by decide +kernel) (by decide)) zFU)
  (m_rti h zz (p1 := 44) (by decide +kernel) (by decide +kernel) (Nat.zero_le _) (Nat.zero_le _))))
theorem ct_Mod_lowest (w : Wd) (l : Launch) (hw : zWok w) : CT w l y_Mod_lowest b_Mod_lowest 3 (some .int) r_Mod_lowest (exb true 3 d_Mod_lowest) :=
  ct_plain (by decide +kernel) (fun p e s m args below meth c Q cx hnm => eo_Mod_lowest hw cx) (fun p e s m args below meth c Q F h => sn_Mod_lowest h)
theorem q_Mod_lowest {a : Nat} {fs : List Value} {M : Hp} {nx : Nat}  (h : M a = some (cO 6 fs)) : x_Mod_lowest [.ref a] (M, nx) = zres (d_Mod_lowest ([some (.ref a), none, none], [], (M, nx))) := q_ofV [some (.ref a), none, none] h rfl (Nat.le_of_ble_eq_true rfl) (Or.inr rfl)
theorem lf_Mod_lowest_7 : lookN (eF E_Mod_lowest) 7 = some (6, 0) := rfl
theorem lb_Mod_lowest : eB E_Mod_lowest = true := rfl
theorem lt_Mod_lowest : eT E_Mod_lowest = zST := rfl
-- CoilSlitsModel.receiveAll
def E_Mod_receiveAll : Env := (true, [(25, 6, 6), (134, 6, 5), (151, 6, 10), (22, 6, 9), (7, 6, 0)], [(.invokevirtual 163, 1, x_Mod_isText), (.invokevirtual 36, 2, x_Mod_fails), (.invokevirtual 113, 1, x_Mod_saves), (.invokevirtual 166, 1, x_Mod_lowest), (.invokevirtual 116, 5, x_Mod_comes)], [], [], zST, false)
def d_Mod_receiveAll : Dn := (sq (blk E_Mod_receiveAll [.aload_n 0, .iconst 0, .putfield 25])
  (sq (ite' (cno (cat E_Mod_receiveAll [.aload_n 0, .invokevirtual 163] (.ifCond .ne 9)))
  (rti E_Mod_receiveAll [.aload_n 0, .iconst 1, .invokevirtual 36])
  (blk E_Mod_receiveAll []))
  (sq (blk E_Mod_receiveAll [.aload_n 0, .invokevirtual 113, .aload_n 0, .iconst 0, .putfield 134, .iconst 0, .istore_n 1, .iconst 1, .istore_n 2])
  (sq (lop (cfo [3] (can (cno (cat E_Mod_receiveAll [.iload_n 2] (.ifCond .eq 106))) (cno (cat E_Mod_receiveAll [.iload_n 1, .aload_n 0, .getfield 151] (.if_icmp .ge 98)))))
  (sq (ite' (cno (cat E_Mod_receiveAll [.aload_n 0, .getfield 22, .iconst 4, .iload_n 1, .imul, .iconst 3, .iadd, .iaload, .iconst (-1)] (.if_icmp .ne 10)))
  (blk E_Mod_receiveAll [.aload_n 0, .invokevirtual 166])
  (blk E_Mod_receiveAll [.aload_n 0, .getfield 22, .iconst 4, .iload_n 1, .imul, .iconst 3, .iadd, .iaload]))
  (sq (blk E_Mod_receiveAll [.istore_n 3])
  (sq (ite' (cno (cat E_Mod_receiveAll [.aload_n 0, .getfield 7, .bipush 16, .iload_n 3, .iadd, .iaload, .iconst 5] (.if_icmp .ge 7)))
  (blk E_Mod_receiveAll [.iconst 1])
  (blk E_Mod_receiveAll [.iconst 0]))
  (sq (blk E_Mod_receiveAll [.istore_n 2])
  (ite' (cno (cat E_Mod_receiveAll [.iload_n 2] (.ifCond .eq 40)))
  (blk E_Mod_receiveAll [.aload_n 0, .aload_n 0, .getfield 22, .iconst 4, .iload_n 1, .imul, .iaload, .aload_n 0, .getfield 22, .iconst 4, .iload_n 1, .imul, .iconst 1, .iadd, .iaload, .aload_n 0, .getfield 22, .iconst 4, .iload_n 1, .imul, .iconst 2, .iadd, .iaload, .iload_n 3, .invokevirtual 116, .pop, .iinc 1 1])
  (blk E_Mod_receiveAll []))))))
  (blk E_Mod_receiveAll []) zFU)
  (rti E_Mod_receiveAll [.iload_n 1])))))
def x_Mod_receiveAll : Ex := zrv 6 (exb true 4 d_Mod_receiveAll)
abbrev r_Mod_receiveAll : Room := ({ frames := 5, cells := 0, slots := 0, locals := 107 } : Room)
theorem eo_Mod_receiveAll (hw : zWok w) (cx : CX w p s m args c b_Mod_receiveAll 4 "CoilSlitsModel") : EnvOk w true p l e r_Mod_receiveAll s m args below meth c Q b_Mod_receiveAll 4 "CoilSlitsModel" E_Mod_receiveAll :=
  ⟨rfl, by decide +kernel, by decide +kernel, by decide +kernel, hw, fun h => absurd h (by decide),
  List.forall_mem_cons.mpr ⟨call_V cx (ct_Mod_isText w l hw) tw_1011 tw_1008 tw_8 tw_1010 tp_33 (ci := 6) (Nat.le_of_ble_eq_true rfl) rfl (by decide +kernel) ⟨Nat.le_of_ble_eq_true rfl, Nat.le_of_ble_eq_true rfl⟩, List.forall_mem_cons.mpr ⟨call_V cx (ct_Mod_fails w l hw) tw_865 tw_862 tw_8 tw_864 tp_29 (ci := 6) (Nat.le_of_ble_eq_true rfl) rfl (by decide +kernel) ⟨Nat.le_of_ble_eq_true rfl, Nat.le_of_ble_eq_true rfl⟩, List.forall_mem_cons.mpr ⟨call_V cx (ct_Mod_saves w l hw) tw_879 tw_876 tw_8 tw_878 tp_30 (ci := 6) (Nat.le_of_ble_eq_true rfl) rfl (by decide +kernel) ⟨Nat.le_of_ble_eq_true rfl, Nat.le_of_ble_eq_true rfl⟩, List.forall_mem_cons.mpr ⟨call_V cx (ct_Mod_lowest w l hw) tw_1039 tw_1036 tw_8 tw_1038 tp_39 (ci := 6) (Nat.le_of_ble_eq_true rfl) rfl (by decide +kernel) ⟨Nat.le_of_ble_eq_true rfl, Nat.le_of_ble_eq_true rfl⟩, List.forall_mem_cons.mpr ⟨call_V cx (ct_Mod_comes w l hw) tw_883 tw_880 tw_8 tw_882 tp_31 (ci := 6) (Nat.le_of_ble_eq_true rfl) rfl (by decide +kernel) ⟨Nat.le_of_ble_eq_true rfl, Nat.le_of_ble_eq_true rfl⟩, fun q hq => absurd hq List.not_mem_nil⟩⟩⟩⟩⟩⟩
theorem sn_Mod_receiveAll (h : MC w true p l e R s m args below meth c Q b_Mod_receiveAll 4 "CoilSlitsModel" E_Mod_receiveAll 0 0 F (some .int)) : Sn (zK w true p l e R s m args below meth c Q 4) F (fun _ => False) (fun _ => False) 0 0 0 d_Mod_receiveAll 0 0 0 := by
  unfold d_Mod_receiveAll
  exact (sn_sq (pm := 5) (m_blk h zz (by decide +kernel))
  (sn_sq (pm := 18) (sn_ite (pt := 12) (pf := 18) (sc_no (m_cat h zz (p1 := 9) (tgt := 18) (by decide +kernel) (by decide +kernel) (by decide)))
  (m_rti h zz (p1 := 17) (by decide +kernel) (by decide +kernel) (Nat.zero_le _) (Nat.zero_le _))
  (m_blk h zz rfl))
  (sn_sq (pm := 31) (m_blk h zz (by decide +kernel))
  (sn_sq (pm := 138) (sn_lop (pt := 43) (pu := 135) (p2 := 135) (px := 138) (kb2 := fun _ => False) (kc2 := fun _ => False) (sc_fo m_fo (sc_an (pm := 35) (sc_no (m_cat h zz (p1 := 32) (tgt := 138) (by decide +kernel) (by decide +kernel) (by decide))) (sc_no (m_cat h zz (p1 := 40) (tgt := 138) (by decide +kernel) (by decide +kernel) (by decide)))))
  (sn_sq (pm := 74) (sn_ite (pt := 57) (pf := 64) (sc_no (m_cat h zz (p1 := 54) (tgt := 64) (by decide +kernel) (by decide +kernel) (by decide)))
  (sn_goto (pm := 61) (m_blk h zz (by decide +kernel)) (m_goto h (off := 13) (by decide +kernel) (by decide)))
  (m_blk h zz (by decide +kernel)))
  (sn_sq (pm := 75) (m_blk h zz (by decide +kernel))
  (sn_sq (pm := 93) (sn_ite (pt := 88) (pf := 92) (sc_no (m_cat h zz (p1 := 85) (tgt := 92) (by decide +kernel) (by decide +kernel) (by decide)))
  (sn_goto (pm := 89) (m_blk h zz (by decide +kernel)) (m_goto h (off := 4) (by decide +kernel) (by decide)))
  (m_blk h zz (by decide +kernel)))
  (sn_sq (pm := 94) (m_blk h zz (by decide +kernel))
  (sn_ite (pt := 98) (pf := 135) (sc_no (m_cat h zz (p1 := 95) (tgt := 135) (by decide +kernel) (by decide +kernel) (by decide)))
  (m_blk h zz (by decide +kernel))
  (m_blk h zz rfl))))))
  (m_blk h zz rfl) (m_goto h (off := (-104)) (by decide +kernel) (by decide)) zFU)
  (m_rti h zz (p1 := 139) (by decide +kernel) (by decide +kernel) (Nat.zero_le _) (Nat.zero_le _))))))
theorem ct_Mod_receiveAll (w : Wd) (l : Launch) (hw : zWok w) : CT w l y_Mod_receiveAll b_Mod_receiveAll 4 (some .int) r_Mod_receiveAll (exb true 4 d_Mod_receiveAll) :=
  ct_plain (by decide +kernel) (fun p e s m args below meth c Q cx hnm => eo_Mod_receiveAll hw cx) (fun p e s m args below meth c Q F h => sn_Mod_receiveAll h)
theorem q_Mod_receiveAll {a : Nat} {fs : List Value} {M : Hp} {nx : Nat}  (h : M a = some (cO 6 fs)) : x_Mod_receiveAll [.ref a] (M, nx) = zres (d_Mod_receiveAll ([some (.ref a), none, none, none], [], (M, nx))) := q_ofV [some (.ref a), none, none, none] h rfl (Nat.le_of_ble_eq_true rfl) (Or.inr rfl)
theorem lc_Mod_receiveAll_163 : lookI (eC E_Mod_receiveAll) (.invokevirtual 163) = some (1, x_Mod_isText) := rfl
theorem lc_Mod_receiveAll_36 : lookI (eC E_Mod_receiveAll) (.invokevirtual 36) = some (2, x_Mod_fails) := rfl
theorem lc_Mod_receiveAll_113 : lookI (eC E_Mod_receiveAll) (.invokevirtual 113) = some (1, x_Mod_saves) := rfl
theorem lc_Mod_receiveAll_166 : lookI (eC E_Mod_receiveAll) (.invokevirtual 166) = some (1, x_Mod_lowest) := rfl
theorem lc_Mod_receiveAll_116 : lookI (eC E_Mod_receiveAll) (.invokevirtual 116) = some (5, x_Mod_comes) := rfl
theorem lf_Mod_receiveAll_25 : lookN (eF E_Mod_receiveAll) 25 = some (6, 6) := rfl
theorem lf_Mod_receiveAll_134 : lookN (eF E_Mod_receiveAll) 134 = some (6, 5) := rfl
theorem lf_Mod_receiveAll_151 : lookN (eF E_Mod_receiveAll) 151 = some (6, 10) := rfl
theorem lf_Mod_receiveAll_22 : lookN (eF E_Mod_receiveAll) 22 = some (6, 9) := rfl
theorem lf_Mod_receiveAll_7 : lookN (eF E_Mod_receiveAll) 7 = some (6, 0) := rfl
theorem lb_Mod_receiveAll : eB E_Mod_receiveAll = true := rfl
theorem lt_Mod_receiveAll : eT E_Mod_receiveAll = zST := rfl
-- CoilSlitsModel.coilAt
def E_Mod_coilAt : Env := (true, [(7, 6, 0)], [(.invokestatic 40, 2, x_Mod_isAt), (.invokestatic 44, 3, x_Mod_of)], [], [], zST, false)
def d_Mod_coilAt : Dn := (sq (ite' (cno (cat E_Mod_coilAt [.aload_n 0, .getfield 7, .iload_n 1, .invokestatic 40] (.ifCond .eq 15)))
  (blk E_Mod_coilAt [.aload_n 0, .getfield 7, .iload_n 1, .iconst 0, .invokestatic 44])
  (blk E_Mod_coilAt [.iconst (-1)]))
  (rti E_Mod_coilAt []))
def x_Mod_coilAt : Ex := zrv 6 (exb true 2 d_Mod_coilAt)
abbrev r_Mod_coilAt : Room := ({ frames := 1, cells := 0, slots := 0, locals := 22 } : Room)
theorem eo_Mod_coilAt (hw : zWok w) (cx : CX w p s m args c b_Mod_coilAt 2 "CoilSlitsModel") : EnvOk w true p l e r_Mod_coilAt s m args below meth c Q b_Mod_coilAt 2 "CoilSlitsModel" E_Mod_coilAt :=
  ⟨rfl, by decide +kernel, by decide +kernel, by decide +kernel, hw, fun h => absurd h (by decide),
  List.forall_mem_cons.mpr ⟨call_S cx (ct_Mod_isAt w l hw) tw_912 tw_910 tw_8 tw_911 (by decide +kernel) ⟨Nat.le_of_ble_eq_true rfl, Nat.le_of_ble_eq_true rfl⟩, List.forall_mem_cons.mpr ⟨call_S cx (ct_Mod_of w l hw) tw_899 tw_897 tw_8 tw_898 (by decide +kernel) ⟨Nat.le_of_ble_eq_true rfl, Nat.le_of_ble_eq_true rfl⟩, fun q hq => absurd hq List.not_mem_nil⟩⟩⟩
theorem sn_Mod_coilAt (h : MC w true p l e R s m args below meth c Q b_Mod_coilAt 2 "CoilSlitsModel" E_Mod_coilAt 0 0 F (some .int)) : Sn (zK w true p l e R s m args below meth c Q 2) F (fun _ => False) (fun _ => False) 0 0 0 d_Mod_coilAt 0 0 0 := by
  unfold d_Mod_coilAt
  exact (sn_sq (pm := 24) (sn_ite (pt := 11) (pf := 23) (sc_no (m_cat h zz (p1 := 8) (tgt := 23) (by decide +kernel) (by decide +kernel) (by decide)))
  (sn_goto (pm := 20) (m_blk h zz (by decide +kernel)) (m_goto h (off := 4) (by decide +kernel) (by decide)))
  (m_blk h zz (by decide +kernel)))
  (m_rti h zz (p1 := 24) (by decide +kernel) (by decide +kernel) (Nat.zero_le _) (Nat.zero_le _)))
theorem ct_Mod_coilAt (w : Wd) (l : Launch) (hw : zWok w) : CT w l y_Mod_coilAt b_Mod_coilAt 2 (some .int) r_Mod_coilAt (exb true 2 d_Mod_coilAt) :=
  ct_plain (by decide +kernel) (fun p e s m args below meth c Q cx hnm => eo_Mod_coilAt hw cx) (fun p e s m args below meth c Q F h => sn_Mod_coilAt h)
theorem q_Mod_coilAt {a : Nat} {fs : List Value} {M : Hp} {nx : Nat} (x0 : Int32) (h : M a = some (cO 6 fs)) : x_Mod_coilAt [.ref a, .int x0] (M, nx) = zres (d_Mod_coilAt ([some (.ref a), some (.int x0)], [], (M, nx))) := q_ofV [some (.ref a), some (.int x0)] h rfl (Nat.le_of_ble_eq_true rfl) (Or.inr rfl)
theorem lc_Mod_coilAt_40 : lookI (eC E_Mod_coilAt) (.invokestatic 40) = some (2, x_Mod_isAt) := rfl
theorem lc_Mod_coilAt_44 : lookI (eC E_Mod_coilAt) (.invokestatic 44) = some (3, x_Mod_of) := rfl
theorem lf_Mod_coilAt_7 : lookN (eF E_Mod_coilAt) 7 = some (6, 0) := rfl
theorem lb_Mod_coilAt : eB E_Mod_coilAt = true := rfl
-- CoilSlitsModel.at
def E_Mod_at : Env := (true, [(25, 6, 6)], [(.invokestatic 109, 1, x_Mod_isStack), (.invokevirtual 36, 2, x_Mod_fails), (.invokestatic 29, 3, x_Mod_in), (.invokevirtual 170, 2, x_Mod_coilAt)], [], [], zST, false)
def d_Mod_at : Dn := (sq (blk E_Mod_at [.aload_n 0, .iconst 0, .putfield 25])
  (sq (ite' (cno (cat E_Mod_at [.iload_n 1, .invokestatic 109] (.ifCond .ne 9)))
  (rti E_Mod_at [.aload_n 0, .iconst 1, .invokevirtual 36])
  (blk E_Mod_at []))
  (sq (ite' (cno (cat E_Mod_at [.iload_n 2, .iconst 0, .iconst 4, .invokestatic 29] (.ifCond .eq 15)))
  (blk E_Mod_at [.aload_n 0, .iconst 5, .iload_n 1, .imul, .iload_n 2, .iadd, .invokevirtual 170])
  (blk E_Mod_at [.aload_n 0, .iconst 2, .invokevirtual 36]))
  (rti E_Mod_at []))))
def x_Mod_at : Ex := zrv 6 (exb true 3 d_Mod_at)
abbrev r_Mod_at : Room := ({ frames := 2, cells := 0, slots := 0, locals := 43 } : Room)
theorem eo_Mod_at (hw : zWok w) (cx : CX w p s m args c b_Mod_at 3 "CoilSlitsModel") : EnvOk w true p l e r_Mod_at s m args below meth c Q b_Mod_at 3 "CoilSlitsModel" E_Mod_at :=
  ⟨rfl, by decide +kernel, by decide +kernel, by decide +kernel, hw, fun h => absurd h (by decide),
  List.forall_mem_cons.mpr ⟨call_S cx (ct_Mod_isStack w l hw) tw_872 tw_870 tw_8 tw_871 (by decide +kernel) ⟨Nat.le_of_ble_eq_true rfl, Nat.le_of_ble_eq_true rfl⟩, List.forall_mem_cons.mpr ⟨call_V cx (ct_Mod_fails w l hw) tw_865 tw_862 tw_8 tw_864 tp_29 (ci := 6) (Nat.le_of_ble_eq_true rfl) rfl (by decide +kernel) ⟨Nat.le_of_ble_eq_true rfl, Nat.le_of_ble_eq_true rfl⟩, List.forall_mem_cons.mpr ⟨call_S cx (ct_Mod_in w l hw) tw_875 tw_873 tw_8 tw_874 (by decide +kernel) ⟨Nat.le_of_ble_eq_true rfl, Nat.le_of_ble_eq_true rfl⟩, List.forall_mem_cons.mpr ⟨call_V cx (ct_Mod_coilAt w l hw) tw_1047 tw_1044 tw_8 tw_1046 tp_40 (ci := 6) (Nat.le_of_ble_eq_true rfl) rfl (by decide +kernel) ⟨Nat.le_of_ble_eq_true rfl, Nat.le_of_ble_eq_true rfl⟩, fun q hq => absurd hq List.not_mem_nil⟩⟩⟩⟩⟩
theorem sn_Mod_at (h : MC w true p l e R s m args below meth c Q b_Mod_at 3 "CoilSlitsModel" E_Mod_at 0 0 F (some .int)) : Sn (zK w true p l e R s m args below meth c Q 3) F (fun _ => False) (fun _ => False) 0 0 0 d_Mod_at 0 0 0 := by
  unfold d_Mod_at
  exact (sn_sq (pm := 5) (m_blk h zz (by decide +kernel))
  (sn_sq (pm := 18) (sn_ite (pt := 12) (pf := 18) (sc_no (m_cat h zz (p1 := 9) (tgt := 18) (by decide +kernel) (by decide +kernel) (by decide)))
  (m_rti h zz (p1 := 17) (by decide +kernel) (by decide +kernel) (Nat.zero_le _) (Nat.zero_le _))
  (m_blk h zz rfl))
  (sn_sq (pm := 44) (sn_ite (pt := 27) (pf := 39) (sc_no (m_cat h zz (p1 := 24) (tgt := 39) (by decide +kernel) (by decide +kernel) (by decide)))
  (sn_goto (pm := 36) (m_blk h zz (by decide +kernel)) (m_goto h (off := 8) (by decide +kernel) (by decide)))
  (m_blk h zz (by decide +kernel)))
  (m_rti h zz (p1 := 44) (by decide +kernel) (by decide +kernel) (Nat.zero_le _) (Nat.zero_le _)))))
theorem ct_Mod_at (w : Wd) (l : Launch) (hw : zWok w) : CT w l y_Mod_at b_Mod_at 3 (some .int) r_Mod_at (exb true 3 d_Mod_at) :=
  ct_plain (by decide +kernel) (fun p e s m args below meth c Q cx hnm => eo_Mod_at hw cx) (fun p e s m args below meth c Q F h => sn_Mod_at h)
theorem q_Mod_at {a : Nat} {fs : List Value} {M : Hp} {nx : Nat} (x0 : Int32) (x1 : Int32) (h : M a = some (cO 6 fs)) : x_Mod_at [.ref a, .int x0, .int x1] (M, nx) = zres (d_Mod_at ([some (.ref a), some (.int x0), some (.int x1)], [], (M, nx))) := q_ofV [some (.ref a), some (.int x0), some (.int x1)] h rfl (Nat.le_of_ble_eq_true rfl) (Or.inr rfl)
theorem lc_Mod_at_109 : lookI (eC E_Mod_at) (.invokestatic 109) = some (1, x_Mod_isStack) := rfl
theorem lc_Mod_at_36 : lookI (eC E_Mod_at) (.invokevirtual 36) = some (2, x_Mod_fails) := rfl
theorem lc_Mod_at_29 : lookI (eC E_Mod_at) (.invokestatic 29) = some (3, x_Mod_in) := rfl
theorem lc_Mod_at_170 : lookI (eC E_Mod_at) (.invokevirtual 170) = some (2, x_Mod_coilAt) := rfl
theorem lf_Mod_at_25 : lookN (eF E_Mod_at) 25 = some (6, 6) := rfl
theorem lb_Mod_at : eB E_Mod_at = true := rfl
-- CoilSlitsModel.ofCoil
def E_Mod_ofCoil : Env := (true, [(7, 6, 0)], [(.invokestatic 44, 3, x_Mod_of), (.invokestatic 63, 2, x_Mod_above)], [], [], zST, false)
def d_Mod_ofCoil : Dn := (sq (ite' (cno (cat E_Mod_ofCoil [.iload_n 2, .iconst 3] (.if_icmp .ge 17)))
  (blk E_Mod_ofCoil [.aload_n 0, .getfield 7, .iload_n 1, .iload_n 2, .iconst 1, .iadd, .invokestatic 44])
  (ite' (cno (cat E_Mod_ofCoil [.iload_n 2, .iconst 3] (.if_icmp .ne 9)))
  (blk E_Mod_ofCoil [.iload_n 1, .iconst 5, .idiv])
  (ite' (cno (cat E_Mod_ofCoil [.iload_n 2, .iconst 4] (.if_icmp .ne 14)))
  (blk E_Mod_ofCoil [.aload_n 0, .getfield 7, .iload_n 1, .invokestatic 63])
  (blk E_Mod_ofCoil [.aload_n 0, .getfield 7, .iload_n 1, .iconst 4, .invokestatic 44]))))
  (rti E_Mod_ofCoil []))
def x_Mod_ofCoil : Ex := zrv 6 (exb true 3 d_Mod_ofCoil)
abbrev r_Mod_ofCoil : Room := ({ frames := 1, cells := 0, slots := 0, locals := 22 } : Room)
theorem eo_Mod_ofCoil (hw : zWok w) (cx : CX w p s m args c b_Mod_ofCoil 3 "CoilSlitsModel") : EnvOk w true p l e r_Mod_ofCoil s m args below meth c Q b_Mod_ofCoil 3 "CoilSlitsModel" E_Mod_ofCoil :=
  ⟨rfl, by decide +kernel, by decide +kernel, by decide +kernel, hw, fun h => absurd h (by decide),
  List.forall_mem_cons.mpr ⟨call_S cx (ct_Mod_of w l hw) tw_899 tw_897 tw_8 tw_898 (by decide +kernel) ⟨Nat.le_of_ble_eq_true rfl, Nat.le_of_ble_eq_true rfl⟩, List.forall_mem_cons.mpr ⟨call_S cx (ct_Mod_above w l hw) tw_922 tw_920 tw_8 tw_921 (by decide +kernel) ⟨Nat.le_of_ble_eq_true rfl, Nat.le_of_ble_eq_true rfl⟩, fun q hq => absurd hq List.not_mem_nil⟩⟩⟩
theorem sn_Mod_ofCoil (h : MC w true p l e R s m args below meth c Q b_Mod_ofCoil 3 "CoilSlitsModel" E_Mod_ofCoil 0 0 F (some .int)) : Sn (zK w true p l e R s m args below meth c Q 3) F (fun _ => False) (fun _ => False) 0 0 0 d_Mod_ofCoil 0 0 0 := by
  unfold d_Mod_ofCoil
  exact (sn_sq (pm := 55) (sn_ite (pt := 5) (pf := 19) (sc_no (m_cat h zz (p1 := 2) (tgt := 19) (by decide +kernel) (by decide +kernel) (by decide)))
  (sn_goto (pm := 16) (m_blk h zz (by decide +kernel)) (m_goto h (off := 39) (by decide +kernel) (by decide)))
  (sn_ite (pt := 24) (pf := 30) (sc_no (m_cat h zz (p1 := 21) (tgt := 30) (by decide +kernel) (by decide +kernel) (by decide)))
  (sn_goto (pm := 27) (m_blk h zz (by decide +kernel)) (m_goto h (off := 28) (by decide +kernel) (by decide)))
  (sn_ite (pt := 35) (pf := 46) (sc_no (m_cat h zz (p1 := 32) (tgt := 46) (by decide +kernel) (by decide +kernel) (by decide)))
  (sn_goto (pm := 43) (m_blk h zz (by decide +kernel)) (m_goto h (off := 12) (by decide +kernel) (by decide)))
  (m_blk h zz (by decide +kernel)))))
  (m_rti h zz (p1 := 55) (by decide +kernel) (by decide +kernel) (Nat.zero_le _) (Nat.zero_le _)))
theorem ct_Mod_ofCoil (w : Wd) (l : Launch) (hw : zWok w) : CT w l y_Mod_ofCoil b_Mod_ofCoil 3 (some .int) r_Mod_ofCoil (exb true 3 d_Mod_ofCoil) :=
  ct_plain (by decide +kernel) (fun p e s m args below meth c Q cx hnm => eo_Mod_ofCoil hw cx) (fun p e s m args below meth c Q F h => sn_Mod_ofCoil h)
theorem q_Mod_ofCoil {a : Nat} {fs : List Value} {M : Hp} {nx : Nat} (x0 : Int32) (x1 : Int32) (h : M a = some (cO 6 fs)) : x_Mod_ofCoil [.ref a, .int x0, .int x1] (M, nx) = zres (d_Mod_ofCoil ([some (.ref a), some (.int x0), some (.int x1)], [], (M, nx))) := q_ofV [some (.ref a), some (.int x0), some (.int x1)] h rfl (Nat.le_of_ble_eq_true rfl) (Or.inr rfl)
theorem lc_Mod_ofCoil_44 : lookI (eC E_Mod_ofCoil) (.invokestatic 44) = some (3, x_Mod_of) := rfl
theorem lc_Mod_ofCoil_63 : lookI (eC E_Mod_ofCoil) (.invokestatic 63) = some (2, x_Mod_above) := rfl
theorem lf_Mod_ofCoil_7 : lookN (eF E_Mod_ofCoil) 7 = some (6, 0) := rfl
theorem lb_Mod_ofCoil : eB E_Mod_ofCoil = true := rfl
-- CoilSlitsModel.coil
def E_Mod_coil : Env := (true, [(25, 6, 6), (7, 6, 0)], [(.invokestatic 29, 3, x_Mod_in), (.invokevirtual 36, 2, x_Mod_fails), (.invokestatic 120, 2, x_Mod_placeOf), (.invokevirtual 173, 3, x_Mod_ofCoil)], [], [], zST, false)
def d_Mod_coil : Dn := (sq (blk E_Mod_coil [.aload_n 0, .iconst 0, .putfield 25])
  (sq (ite' (cno (cat E_Mod_coil [.iload_n 1, .iconst 0, .aload_n 0, .getfield 7, .iconst 4, .iaload, .iconst 1, .isub, .invokestatic 29] (.ifCond .ne 9)))
  (rti E_Mod_coil [.aload_n 0, .iconst 1, .invokevirtual 36])
  (blk E_Mod_coil []))
  (sq (ite' (cno (cat E_Mod_coil [.iload_n 2, .iconst 0, .iconst 5, .invokestatic 29] (.ifCond .ne 9)))
  (rti E_Mod_coil [.aload_n 0, .iconst 2, .invokevirtual 36])
  (blk E_Mod_coil []))
  (sq (blk E_Mod_coil [.aload_n 0, .getfield 7, .iload_n 1, .invokestatic 120, .istore_n 3])
  (sq (ite' (cno (cat E_Mod_coil [.iload_n 3, .iconst (-1)] (.if_icmp .ne 7)))
  (blk E_Mod_coil [.iconst (-1)])
  (blk E_Mod_coil [.aload_n 0, .iload_n 3, .iload_n 2, .invokevirtual 173]))
  (rti E_Mod_coil []))))))
def x_Mod_coil : Ex := zrv 6 (exb true 4 d_Mod_coil)
abbrev r_Mod_coil : Room := ({ frames := 2, cells := 0, slots := 0, locals := 44 } : Room)
theorem eo_Mod_coil (hw : zWok w) (cx : CX w p s m args c b_Mod_coil 4 "CoilSlitsModel") : EnvOk w true p l e r_Mod_coil s m args below meth c Q b_Mod_coil 4 "CoilSlitsModel" E_Mod_coil :=
  ⟨rfl, by decide +kernel, by decide +kernel, by decide +kernel, hw, fun h => absurd h (by decide),
  List.forall_mem_cons.mpr ⟨call_S cx (ct_Mod_in w l hw) tw_875 tw_873 tw_8 tw_874 (by decide +kernel) ⟨Nat.le_of_ble_eq_true rfl, Nat.le_of_ble_eq_true rfl⟩, List.forall_mem_cons.mpr ⟨call_V cx (ct_Mod_fails w l hw) tw_865 tw_862 tw_8 tw_864 tp_29 (ci := 6) (Nat.le_of_ble_eq_true rfl) rfl (by decide +kernel) ⟨Nat.le_of_ble_eq_true rfl, Nat.le_of_ble_eq_true rfl⟩, List.forall_mem_cons.mpr ⟨call_S cx (ct_Mod_placeOf w l hw) tw_909 tw_907 tw_8 tw_908 (by decide +kernel) ⟨Nat.le_of_ble_eq_true rfl, Nat.le_of_ble_eq_true rfl⟩, List.forall_mem_cons.mpr ⟨call_V cx (ct_Mod_ofCoil w l hw) tw_1055 tw_1052 tw_8 tw_1054 tp_41 (ci := 6) (Nat.le_of_ble_eq_true rfl) rfl (by decide +kernel) ⟨Nat.le_of_ble_eq_true rfl, Nat.le_of_ble_eq_true rfl⟩, fun q hq => absurd hq List.not_mem_nil⟩⟩⟩⟩⟩
theorem sn_Mod_coil (h : MC w true p l e R s m args below meth c Q b_Mod_coil 4 "CoilSlitsModel" E_Mod_coil 0 0 F (some .int)) : Sn (zK w true p l e R s m args below meth c Q 4) F (fun _ => False) (fun _ => False) 0 0 0 d_Mod_coil 0 0 0 := by
  unfold d_Mod_coil
  exact (sn_sq (pm := 5) (m_blk h zz (by decide +kernel))
  (sn_sq (pm := 27) (sn_ite (pt := 21) (pf := 27) (sc_no (m_cat h zz (p1 := 18) (tgt := 27) (by decide +kernel) (by decide +kernel) (by decide)))
  (m_rti h zz (p1 := 26) (by decide +kernel) (by decide +kernel) (Nat.zero_le _) (Nat.zero_le _))
  (m_blk h zz rfl))
  (sn_sq (pm := 42) (sn_ite (pt := 36) (pf := 42) (sc_no (m_cat h zz (p1 := 33) (tgt := 42) (by decide +kernel) (by decide +kernel) (by decide)))
  (m_rti h zz (p1 := 41) (by decide +kernel) (by decide +kernel) (Nat.zero_le _) (Nat.zero_le _))
  (m_blk h zz rfl))
  (sn_sq (pm := 51) (m_blk h zz (by decide +kernel))
  (sn_sq (pm := 66) (sn_ite (pt := 56) (pf := 60) (sc_no (m_cat h zz (p1 := 53) (tgt := 60) (by decide +kernel) (by decide +kernel) (by decide)))
  (sn_goto (pm := 57) (m_blk h zz (by decide +kernel)) (m_goto h (off := 9) (by decide +kernel) (by decide)))
  (m_blk h zz (by decide +kernel)))
  (m_rti h zz (p1 := 66) (by decide +kernel) (by decide +kernel) (Nat.zero_le _) (Nat.zero_le _)))))))
theorem ct_Mod_coil (w : Wd) (l : Launch) (hw : zWok w) : CT w l y_Mod_coil b_Mod_coil 4 (some .int) r_Mod_coil (exb true 4 d_Mod_coil) :=
  ct_plain (by decide +kernel) (fun p e s m args below meth c Q cx hnm => eo_Mod_coil hw cx) (fun p e s m args below meth c Q F h => sn_Mod_coil h)
theorem q_Mod_coil {a : Nat} {fs : List Value} {M : Hp} {nx : Nat} (x0 : Int32) (x1 : Int32) (h : M a = some (cO 6 fs)) : x_Mod_coil [.ref a, .int x0, .int x1] (M, nx) = zres (d_Mod_coil ([some (.ref a), some (.int x0), some (.int x1), none], [], (M, nx))) := q_ofV [some (.ref a), some (.int x0), some (.int x1), none] h rfl (Nat.le_of_ble_eq_true rfl) (Or.inr rfl)
theorem lc_Mod_coil_29 : lookI (eC E_Mod_coil) (.invokestatic 29) = some (3, x_Mod_in) := rfl
theorem lc_Mod_coil_36 : lookI (eC E_Mod_coil) (.invokevirtual 36) = some (2, x_Mod_fails) := rfl
theorem lc_Mod_coil_120 : lookI (eC E_Mod_coil) (.invokestatic 120) = some (2, x_Mod_placeOf) := rfl
theorem lc_Mod_coil_173 : lookI (eC E_Mod_coil) (.invokevirtual 173) = some (3, x_Mod_ofCoil) := rfl
theorem lf_Mod_coil_25 : lookN (eF E_Mod_coil) 25 = some (6, 6) := rfl
theorem lf_Mod_coil_7 : lookN (eF E_Mod_coil) 7 = some (6, 0) := rfl
theorem lb_Mod_coil : eB E_Mod_coil = true := rfl
theorem lt_Mod_coil : eT E_Mod_coil = zST := rfl
-- CoilSlitsModel.ofOrder
def E_Mod_ofOrder : Env := (true, [(7, 6, 0)], [(.invokestatic 48, 3, x_Mod_by), (.invokestatic 40, 2, x_Mod_isAt), (.invokestatic 81, 3, x_Mod_reason), (.invokestatic 72, 3, x_Mod_fits)], [], [], zST, false)
def d_Mod_ofOrder : Dn := (sq (ite' (cno (cat E_Mod_ofOrder [.iload_n 2, .bipush 6] (.if_icmp .ge 13)))
  (rti E_Mod_ofOrder [.aload_n 0, .getfield 7, .iload_n 1, .iload_n 2, .invokestatic 48])
  (blk E_Mod_ofOrder []))
  (sq (blk E_Mod_ofOrder [.iconst 0, .istore_n 3, .iconst 0, .istore 4])
  (sq (lop (cno (cat E_Mod_ofOrder [.iload 4, .bipush 30] (.if_icmp .ge 59)))
  (sq (ite' (can (cno (cat E_Mod_ofOrder [.aload_n 0, .getfield 7, .iload 4, .invokestatic 40] (.ifCond .eq 41))) (cno (cat E_Mod_ofOrder [.aload_n 0, .getfield 7, .iload_n 1, .iload 4, .invokestatic 81, .iconst 4, .irem] (.ifCond .ne 26))))
  (sq (blk E_Mod_ofOrder [.iload_n 3])
  (sq (ite' (cno (cat E_Mod_ofOrder [.iload_n 2, .bipush 6] (.if_icmp .ne 7)))
  (blk E_Mod_ofOrder [.iconst 1])
  (blk E_Mod_ofOrder [.aload_n 0, .getfield 7, .iload_n 1, .iload 4, .invokestatic 72]))
  (blk E_Mod_ofOrder [.iadd, .istore_n 3])))
  (blk E_Mod_ofOrder []))
  (blk E_Mod_ofOrder [.iinc 4 1]))
  (blk E_Mod_ofOrder []) zFU)
  (rti E_Mod_ofOrder [.iload_n 3]))))
def x_Mod_ofOrder : Ex := zrv 6 (exb true 5 d_Mod_ofOrder)
abbrev r_Mod_ofOrder : Room := ({ frames := 3, cells := 0, slots := 0, locals := 66 } : Room)
theorem eo_Mod_ofOrder (hw : zWok w) (cx : CX w p s m args c b_Mod_ofOrder 5 "CoilSlitsModel") : EnvOk w true p l e r_Mod_ofOrder s m args below meth c Q b_Mod_ofOrder 5 "CoilSlitsModel" E_Mod_ofOrder :=
  ⟨rfl, by decide +kernel, by decide +kernel, by decide +kernel, hw, fun h => absurd h (by decide),
  List.forall_mem_cons.mpr ⟨call_S cx (ct_Mod_by w l hw) tw_946 tw_944 tw_8 tw_945 (by decide +kernel) ⟨Nat.le_of_ble_eq_true rfl, Nat.le_of_ble_eq_true rfl⟩, List.forall_mem_cons.mpr ⟨call_S cx (ct_Mod_isAt w l hw) tw_912 tw_910 tw_8 tw_911 (by decide +kernel) ⟨Nat.le_of_ble_eq_true rfl, Nat.le_of_ble_eq_true rfl⟩, List.forall_mem_cons.mpr ⟨call_S cx (ct_Mod_reason w l hw) tw_956 tw_954 tw_8 tw_955 (by decide +kernel) ⟨Nat.le_of_ble_eq_true rfl, Nat.le_of_ble_eq_true rfl⟩, List.forall_mem_cons.mpr ⟨call_S cx (ct_Mod_fits w l hw) tw_959 tw_957 tw_8 tw_958 (by decide +kernel) ⟨Nat.le_of_ble_eq_true rfl, Nat.le_of_ble_eq_true rfl⟩, fun q hq => absurd hq List.not_mem_nil⟩⟩⟩⟩⟩
theorem sn_Mod_ofOrder (h : MC w true p l e R s m args below meth c Q b_Mod_ofOrder 5 "CoilSlitsModel" E_Mod_ofOrder 0 0 F (some .int)) : Sn (zK w true p l e R s m args below meth c Q 5) F (fun _ => False) (fun _ => False) 0 0 0 d_Mod_ofOrder 0 0 0 := by
  unfold d_Mod_ofOrder
  exact (sn_sq (pm := 16) (sn_ite (pt := 6) (pf := 16) (sc_no (m_cat h zz (p1 := 3) (tgt := 16) (by decide +kernel) (by decide +kernel) (by decide)))
  (m_rti h zz (p1 := 15) (by decide +kernel) (by decide +kernel) (Nat.zero_le _) (Nat.zero_le _))
  (m_blk h zz rfl))
  (sn_sq (pm := 21) (m_blk h zz (by decide +kernel))
  (sn_sq (pm := 84) (sn_lop (pt := 28) (pu := 81) (p2 := 81) (px := 84) (kb2 := fun _ => False) (kc2 := fun _ => False) (sc_no (m_cat h zz (p1 := 25) (tgt := 84) (by decide +kernel) (by decide +kernel) (by decide)))
  (sn_sq (pm := 78) (sn_ite (pt := 55) (pf := 78) (sc_an (pm := 40) (sc_no (m_cat h zz (p1 := 37) (tgt := 78) (by decide +kernel) (by decide +kernel) (by decide))) (sc_no (m_cat h zz (p1 := 52) (tgt := 78) (by decide +kernel) (by decide +kernel) (by decide))))
  (sn_sq (pm := 56) (m_blk h zz (by decide +kernel))
  (sn_sq (pm := 76) (sn_ite (pt := 62) (pf := 66) (sc_no (m_cat h zz (p1 := 59) (tgt := 66) (by decide +kernel) (by decide +kernel) (by decide)))
  (sn_goto (pm := 63) (m_blk h zz (by decide +kernel)) (m_goto h (off := 13) (by decide +kernel) (by decide)))
  (m_blk h zz (by decide +kernel)))
  (m_blk h zz (by decide +kernel))))
  (m_blk h zz rfl))
  (m_blk h zz (by decide +kernel)))
  (m_blk h zz rfl) (m_goto h (off := (-60)) (by decide +kernel) (by decide)) zFU)
  (m_rti h zz (p1 := 85) (by decide +kernel) (by decide +kernel) (Nat.zero_le _) (Nat.zero_le _)))))
theorem ct_Mod_ofOrder (w : Wd) (l : Launch) (hw : zWok w) : CT w l y_Mod_ofOrder b_Mod_ofOrder 5 (some .int) r_Mod_ofOrder (exb true 5 d_Mod_ofOrder) :=
  ct_plain (by decide +kernel) (fun p e s m args below meth c Q cx hnm => eo_Mod_ofOrder hw cx) (fun p e s m args below meth c Q F h => sn_Mod_ofOrder h)
theorem q_Mod_ofOrder {a : Nat} {fs : List Value} {M : Hp} {nx : Nat} (x0 : Int32) (x1 : Int32) (h : M a = some (cO 6 fs)) : x_Mod_ofOrder [.ref a, .int x0, .int x1] (M, nx) = zres (d_Mod_ofOrder ([some (.ref a), some (.int x0), some (.int x1), none, none], [], (M, nx))) := q_ofV [some (.ref a), some (.int x0), some (.int x1), none, none] h rfl (Nat.le_of_ble_eq_true rfl) (Or.inr rfl)
theorem lc_Mod_ofOrder_48 : lookI (eC E_Mod_ofOrder) (.invokestatic 48) = some (3, x_Mod_by) := rfl
theorem lc_Mod_ofOrder_40 : lookI (eC E_Mod_ofOrder) (.invokestatic 40) = some (2, x_Mod_isAt) := rfl
theorem lc_Mod_ofOrder_81 : lookI (eC E_Mod_ofOrder) (.invokestatic 81) = some (3, x_Mod_reason) := rfl
theorem lc_Mod_ofOrder_72 : lookI (eC E_Mod_ofOrder) (.invokestatic 72) = some (3, x_Mod_fits) := rfl
theorem lf_Mod_ofOrder_7 : lookN (eF E_Mod_ofOrder) 7 = some (6, 0) := rfl
theorem lb_Mod_ofOrder : eB E_Mod_ofOrder = true := rfl
-- CoilSlitsModel.orderOf
def E_Mod_orderOf : Env := (true, [(25, 6, 6), (7, 6, 0)], [(.invokestatic 29, 3, x_Mod_in), (.invokevirtual 36, 2, x_Mod_fails), (.invokevirtual 176, 3, x_Mod_ofOrder)], [], [], zST, false)
def d_Mod_orderOf : Dn := (sq (blk E_Mod_orderOf [.aload_n 0, .iconst 0, .putfield 25])
  (sq (ite' (cor (cat E_Mod_orderOf [.iload_n 1] (.ifCond .lt 13)) (cno (cat E_Mod_orderOf [.iload_n 2, .iconst 0, .bipush 7, .invokestatic 29] (.ifCond .ne 9))))
  (rti E_Mod_orderOf [.aload_n 0, .iconst 1, .invokevirtual 36])
  (blk E_Mod_orderOf []))
  (sq (ite' (cno (cat E_Mod_orderOf [.iload_n 1, .aload_n 0, .getfield 7, .bipush 15, .iaload] (.if_icmp .ge 12)))
  (blk E_Mod_orderOf [.aload_n 0, .iload_n 1, .iload_n 2, .invokevirtual 176])
  (blk E_Mod_orderOf [.iconst (-1)]))
  (rti E_Mod_orderOf []))))
def x_Mod_orderOf : Ex := zrv 6 (exb true 3 d_Mod_orderOf)
abbrev r_Mod_orderOf : Room := ({ frames := 4, cells := 0, slots := 0, locals := 90 } : Room)
theorem eo_Mod_orderOf (hw : zWok w) (cx : CX w p s m args c b_Mod_orderOf 3 "CoilSlitsModel") : EnvOk w true p l e r_Mod_orderOf s m args below meth c Q b_Mod_orderOf 3 "CoilSlitsModel" E_Mod_orderOf :=
  ⟨rfl, by decide +kernel, by decide +kernel, by decide +kernel, hw, fun h => absurd h (by decide),
  List.forall_mem_cons.mpr ⟨call_S cx (ct_Mod_in w l hw) tw_875 tw_873 tw_8 tw_874 (by decide +kernel) ⟨Nat.le_of_ble_eq_true rfl, Nat.le_of_ble_eq_true rfl⟩, List.forall_mem_cons.mpr ⟨call_V cx (ct_Mod_fails w l hw) tw_865 tw_862 tw_8 tw_864 tp_29 (ci := 6) (Nat.le_of_ble_eq_true rfl) rfl (by decide +kernel) ⟨Nat.le_of_ble_eq_true rfl, Nat.le_of_ble_eq_true rfl⟩, List.forall_mem_cons.mpr ⟨call_V cx (ct_Mod_ofOrder w l hw) tw_1063 tw_1060 tw_8 tw_1062 tp_42 (ci := 6) (Nat.le_of_ble_eq_true rfl) rfl (by decide +kernel) ⟨Nat.le_of_ble_eq_true rfl, Nat.le_of_ble_eq_true rfl⟩, fun q hq => absurd hq List.not_mem_nil⟩⟩⟩⟩
theorem sn_Mod_orderOf (h : MC w true p l e R s m args below meth c Q b_Mod_orderOf 3 "CoilSlitsModel" E_Mod_orderOf 0 0 F (some .int)) : Sn (zK w true p l e R s m args below meth c Q 3) F (fun _ => False) (fun _ => False) 0 0 0 d_Mod_orderOf 0 0 0 := by
  unfold d_Mod_orderOf
  exact (sn_sq (pm := 5) (m_blk h zz (by decide +kernel))
  (sn_sq (pm := 25) (sn_ite (pt := 19) (pf := 25) (sc_or (pm := 9) (m_cat h zz (p1 := 6) (tgt := 19) (by decide +kernel) (by decide +kernel) (by decide)) (sc_no (m_cat h zz (p1 := 16) (tgt := 25) (by decide +kernel) (by decide +kernel) (by decide))))
  (m_rti h zz (p1 := 24) (by decide +kernel) (by decide +kernel) (Nat.zero_le _) (Nat.zero_le _))
  (m_blk h zz rfl))
  (sn_sq (pm := 46) (sn_ite (pt := 36) (pf := 45) (sc_no (m_cat h zz (p1 := 33) (tgt := 45) (by decide +kernel) (by decide +kernel) (by decide)))
  (sn_goto (pm := 42) (m_blk h zz (by decide +kernel)) (m_goto h (off := 4) (by decide +kernel) (by decide)))
  (m_blk h zz (by decide +kernel)))
  (m_rti h zz (p1 := 46) (by decide +kernel) (by decide +kernel) (Nat.zero_le _) (Nat.zero_le _)))))
theorem ct_Mod_orderOf (w : Wd) (l : Launch) (hw : zWok w) : CT w l y_Mod_orderOf b_Mod_orderOf 3 (some .int) r_Mod_orderOf (exb true 3 d_Mod_orderOf) :=
  ct_plain (by decide +kernel) (fun p e s m args below meth c Q cx hnm => eo_Mod_orderOf hw cx) (fun p e s m args below meth c Q F h => sn_Mod_orderOf h)
theorem q_Mod_orderOf {a : Nat} {fs : List Value} {M : Hp} {nx : Nat} (x0 : Int32) (x1 : Int32) (h : M a = some (cO 6 fs)) : x_Mod_orderOf [.ref a, .int x0, .int x1] (M, nx) = zres (d_Mod_orderOf ([some (.ref a), some (.int x0), some (.int x1)], [], (M, nx))) := q_ofV [some (.ref a), some (.int x0), some (.int x1)] h rfl (Nat.le_of_ble_eq_true rfl) (Or.inr rfl)
theorem lc_Mod_orderOf_29 : lookI (eC E_Mod_orderOf) (.invokestatic 29) = some (3, x_Mod_in) := rfl
theorem lc_Mod_orderOf_36 : lookI (eC E_Mod_orderOf) (.invokevirtual 36) = some (2, x_Mod_fails) := rfl
theorem lc_Mod_orderOf_176 : lookI (eC E_Mod_orderOf) (.invokevirtual 176) = some (3, x_Mod_ofOrder) := rfl
theorem lf_Mod_orderOf_25 : lookN (eF E_Mod_orderOf) 25 = some (6, 6) := rfl
theorem lf_Mod_orderOf_7 : lookN (eF E_Mod_orderOf) 7 = some (6, 0) := rfl
theorem lb_Mod_orderOf : eB E_Mod_orderOf = true := rfl
theorem lt_Mod_orderOf : eT E_Mod_orderOf = zST := rfl
-- CoilSlitsModel.whyNot
def E_Mod_whyNot : Env := (true, [(25, 6, 6), (7, 6, 0)], [(.invokestatic 94, 2, x_Mod_orderAt), (.invokestatic 120, 2, x_Mod_placeOf), (.invokevirtual 36, 2, x_Mod_fails), (.invokestatic 81, 3, x_Mod_reason)], [], [], zST, false)
def d_Mod_whyNot : Dn := (sq (blk E_Mod_whyNot [.aload_n 0, .iconst 0, .putfield 25, .aload_n 0, .getfield 7, .iload_n 1, .invokestatic 94, .istore_n 3, .aload_n 0, .getfield 7, .iload_n 2, .invokestatic 120, .istore 4])
  (sq (ite' (cor (cat E_Mod_whyNot [.iload_n 3, .iconst (-1)] (.if_icmp .eq 9)) (cno (cat E_Mod_whyNot [.iload 4, .iconst (-1)] (.if_icmp .ne 11))))
  (blk E_Mod_whyNot [.aload_n 0, .iconst 1, .invokevirtual 36])
  (blk E_Mod_whyNot [.aload_n 0, .getfield 7, .iload_n 3, .iload 4, .invokestatic 81]))
  (rti E_Mod_whyNot [])))
def x_Mod_whyNot : Ex := zrv 6 (exb true 5 d_Mod_whyNot)
abbrev r_Mod_whyNot : Room := ({ frames := 3, cells := 0, slots := 0, locals := 66 } : Room)
theorem eo_Mod_whyNot (hw : zWok w) (cx : CX w p s m args c b_Mod_whyNot 5 "CoilSlitsModel") : EnvOk w true p l e r_Mod_whyNot s m args below meth c Q b_Mod_whyNot 5 "CoilSlitsModel" E_Mod_whyNot :=
  ⟨rfl, by decide +kernel, by decide +kernel, by decide +kernel, hw, fun h => absurd h (by decide),
  List.forall_mem_cons.mpr ⟨call_S cx (ct_Mod_orderAt w l hw) tw_943 tw_941 tw_8 tw_942 (by decide +kernel) ⟨Nat.le_of_ble_eq_true rfl, Nat.le_of_ble_eq_true rfl⟩, List.forall_mem_cons.mpr ⟨call_S cx (ct_Mod_placeOf w l hw) tw_909 tw_907 tw_8 tw_908 (by decide +kernel) ⟨Nat.le_of_ble_eq_true rfl, Nat.le_of_ble_eq_true rfl⟩, List.forall_mem_cons.mpr ⟨call_V cx (ct_Mod_fails w l hw) tw_865 tw_862 tw_8 tw_864 tp_29 (ci := 6) (Nat.le_of_ble_eq_true rfl) rfl (by decide +kernel) ⟨Nat.le_of_ble_eq_true rfl, Nat.le_of_ble_eq_true rfl⟩, List.forall_mem_cons.mpr ⟨call_S cx (ct_Mod_reason w l hw) tw_956 tw_954 tw_8 tw_955 (by decide +kernel) ⟨Nat.le_of_ble_eq_true rfl, Nat.le_of_ble_eq_true rfl⟩, fun q hq => absurd hq List.not_mem_nil⟩⟩⟩⟩⟩
theorem sn_Mod_whyNot (h : MC w true p l e R s m args below meth c Q b_Mod_whyNot 5 "CoilSlitsModel" E_Mod_whyNot 0 0 F (some .int)) : Sn (zK w true p l e R s m args below meth c Q 5) F (fun _ => False) (fun _ => False) 0 0 0 d_Mod_whyNot 0 0 0 := by
  unfold d_Mod_whyNot
  exact (sn_sq (pm := 24) (m_blk h zz (by decide +kernel))
  (sn_sq (pm := 53) (sn_ite (pt := 35) (pf := 43) (sc_or (pm := 29) (m_cat h zz (p1 := 26) (tgt := 35) (by decide +kernel) (by decide +kernel) (by decide)) (sc_no (m_cat h zz (p1 := 32) (tgt := 43) (by decide +kernel) (by decide +kernel) (by decide))))
  (sn_goto (pm := 40) (m_blk h zz (by decide +kernel)) (m_goto h (off := 13) (by decide +kernel) (by decide)))
  (m_blk h zz (by decide +kernel)))
  (m_rti h zz (p1 := 53) (by decide +kernel) (by decide +kernel) (Nat.zero_le _) (Nat.zero_le _))))
theorem ct_Mod_whyNot (w : Wd) (l : Launch) (hw : zWok w) : CT w l y_Mod_whyNot b_Mod_whyNot 5 (some .int) r_Mod_whyNot (exb true 5 d_Mod_whyNot) :=
  ct_plain (by decide +kernel) (fun p e s m args below meth c Q cx hnm => eo_Mod_whyNot hw cx) (fun p e s m args below meth c Q F h => sn_Mod_whyNot h)
theorem q_Mod_whyNot {a : Nat} {fs : List Value} {M : Hp} {nx : Nat} (x0 : Int32) (x1 : Int32) (h : M a = some (cO 6 fs)) : x_Mod_whyNot [.ref a, .int x0, .int x1] (M, nx) = zres (d_Mod_whyNot ([some (.ref a), some (.int x0), some (.int x1), none, none], [], (M, nx))) := q_ofV [some (.ref a), some (.int x0), some (.int x1), none, none] h rfl (Nat.le_of_ble_eq_true rfl) (Or.inr rfl)
theorem lc_Mod_whyNot_94 : lookI (eC E_Mod_whyNot) (.invokestatic 94) = some (2, x_Mod_orderAt) := rfl
theorem lc_Mod_whyNot_120 : lookI (eC E_Mod_whyNot) (.invokestatic 120) = some (2, x_Mod_placeOf) := rfl
theorem lc_Mod_whyNot_36 : lookI (eC E_Mod_whyNot) (.invokevirtual 36) = some (2, x_Mod_fails) := rfl
theorem lc_Mod_whyNot_81 : lookI (eC E_Mod_whyNot) (.invokestatic 81) = some (3, x_Mod_reason) := rfl
theorem lf_Mod_whyNot_25 : lookN (eF E_Mod_whyNot) 25 = some (6, 6) := rfl
theorem lf_Mod_whyNot_7 : lookN (eF E_Mod_whyNot) 7 = some (6, 0) := rfl
theorem lb_Mod_whyNot : eB E_Mod_whyNot = true := rfl
-- CoilSlitsModel.ofCoils
def E_Mod_ofCoils : Env := (true, [(7, 6, 0)], [(.invokestatic 40, 2, x_Mod_isAt), (.invokestatic 44, 3, x_Mod_of)], [], [], zST, false)
def d_Mod_ofCoils : Dn := (sq (blk E_Mod_ofCoils [.iconst 0, .istore_n 2, .iconst 0, .istore_n 3])
  (sq (lop (cno (cat E_Mod_ofCoils [.iload_n 3, .bipush 30] (.if_icmp .ge 61)))
  (sq (blk E_Mod_ofCoils [.iload_n 2])
  (sq (ite' (cno (cat E_Mod_ofCoils [.aload_n 0, .getfield 7, .iload_n 3, .invokestatic 40] (.ifCond .ne 7)))
  (sq (blk E_Mod_ofCoils [.iconst 0])
  cnt)
  (blk E_Mod_ofCoils []))
  (sq (ite' (cno (cat E_Mod_ofCoils [.iload_n 1] (.ifCond .ne 7)))
  (sq (blk E_Mod_ofCoils [.iconst 1])
  cnt)
  (blk E_Mod_ofCoils []))
  (sq (ite' (cno (cat E_Mod_ofCoils [.iload_n 1, .iconst 1] (.if_icmp .ne 15)))
  (sq (blk E_Mod_ofCoils [.aload_n 0, .getfield 7, .iload_n 3, .iconst 1, .invokestatic 44])
  cnt)
  (blk E_Mod_ofCoils []))
  (blk E_Mod_ofCoils [.aload_n 0, .getfield 7, .iload_n 3, .iconst 4, .invokestatic 44])))))
  (blk E_Mod_ofCoils [.iadd, .istore_n 2, .iinc 3 1]) zFU)
  (rti E_Mod_ofCoils [.iload_n 2])))
def x_Mod_ofCoils : Ex := zrv 6 (exb true 4 d_Mod_ofCoils)
abbrev r_Mod_ofCoils : Room := ({ frames := 1, cells := 0, slots := 0, locals := 22 } : Room)
theorem eo_Mod_ofCoils (hw : zWok w) (cx : CX w p s m args c b_Mod_ofCoils 4 "CoilSlitsModel") : EnvOk w true p l e r_Mod_ofCoils s m args below meth c Q b_Mod_ofCoils 4 "CoilSlitsModel" E_Mod_ofCoils :=
  ⟨rfl, by decide +kernel, by decide +kernel, by decide +kernel, hw, fun h => absurd h (by decide),
  List.forall_mem_cons.mpr ⟨call_S cx (ct_Mod_isAt w l hw) tw_912 tw_910 tw_8 tw_911 (by decide +kernel) ⟨Nat.le_of_ble_eq_true rfl, Nat.le_of_ble_eq_true rfl⟩, List.forall_mem_cons.mpr ⟨call_S cx (ct_Mod_of w l hw) tw_899 tw_897 tw_8 tw_898 (by decide +kernel) ⟨Nat.le_of_ble_eq_true rfl, Nat.le_of_ble_eq_true rfl⟩, fun q hq => absurd hq List.not_mem_nil⟩⟩⟩
theorem sn_Mod_ofCoils (h : MC w true p l e R s m args below meth c Q b_Mod_ofCoils 4 "CoilSlitsModel" E_Mod_ofCoils 0 0 F (some .int)) : Sn (zK w true p l e R s m args below meth c Q 4) F (fun _ => False) (fun _ => False) 0 0 0 d_Mod_ofCoils 0 0 0 := by
  unfold d_Mod_ofCoils
  exact (sn_sq (pm := 4) (m_blk h zz (by decide +kernel))
  (sn_sq (pm := 68) (sn_lop (pt := 10) (pu := 60) (p2 := 65) (px := 68) (kb2 := fun _ => False) (kc2 := fun _ => False) (sc_no (m_cat h zz (p1 := 7) (tgt := 68) (by decide +kernel) (by decide +kernel) (by decide)))
  (sn_sq (pm := 11) (m_blk h zz (by decide +kernel))
  (sn_sq (pm := 26) (sn_ite (pt := 22) (pf := 26) (sc_no (m_cat h zz (p1 := 19) (tgt := 26) (by decide +kernel) (by decide +kernel) (by decide)))
  (sn_sq (pm := 23) (m_blk h zz (by decide +kernel))
  (sn_cnt (m_goto h (off := 37) (by decide +kernel) (by decide))))
  (m_blk h zz rfl))
  (sn_sq (pm := 34) (sn_ite (pt := 30) (pf := 34) (sc_no (m_cat h zz (p1 := 27) (tgt := 34) (by decide +kernel) (by decide +kernel) (by decide)))
  (sn_sq (pm := 31) (m_blk h zz (by decide +kernel))
  (sn_cnt (m_goto h (off := 29) (by decide +kernel) (by decide))))
  (m_blk h zz rfl))
  (sn_sq (pm := 51) (sn_ite (pt := 39) (pf := 51) (sc_no (m_cat h zz (p1 := 36) (tgt := 51) (by decide +kernel) (by decide +kernel) (by decide)))
  (sn_sq (pm := 48) (m_blk h zz (by decide +kernel))
  (sn_cnt (m_goto h (off := 12) (by decide +kernel) (by decide))))
  (m_blk h zz rfl))
  (m_blk h zz (by decide +kernel))))))
  (m_blk h zz (by decide +kernel)) (m_goto h (off := (-61)) (by decide +kernel) (by decide)) zFU)
  (m_rti h zz (p1 := 69) (by decide +kernel) (by decide +kernel) (Nat.zero_le _) (Nat.zero_le _))))
theorem ct_Mod_ofCoils (w : Wd) (l : Launch) (hw : zWok w) : CT w l y_Mod_ofCoils b_Mod_ofCoils 4 (some .int) r_Mod_ofCoils (exb true 4 d_Mod_ofCoils) :=
  ct_plain (by decide +kernel) (fun p e s m args below meth c Q cx hnm => eo_Mod_ofCoils hw cx) (fun p e s m args below meth c Q F h => sn_Mod_ofCoils h)
theorem q_Mod_ofCoils {a : Nat} {fs : List Value} {M : Hp} {nx : Nat} (x0 : Int32) (h : M a = some (cO 6 fs)) : x_Mod_ofCoils [.ref a, .int x0] (M, nx) = zres (d_Mod_ofCoils ([some (.ref a), some (.int x0), none, none], [], (M, nx))) := q_ofV [some (.ref a), some (.int x0), none, none] h rfl (Nat.le_of_ble_eq_true rfl) (Or.inr rfl)
theorem lc_Mod_ofCoils_40 : lookI (eC E_Mod_ofCoils) (.invokestatic 40) = some (2, x_Mod_isAt) := rfl
theorem lc_Mod_ofCoils_44 : lookI (eC E_Mod_ofCoils) (.invokestatic 44) = some (3, x_Mod_of) := rfl
theorem lf_Mod_ofCoils_7 : lookN (eF E_Mod_ofCoils) 7 = some (6, 0) := rfl
theorem lb_Mod_ofCoils : eB E_Mod_ofCoils = true := rfl
-- CoilSlitsModel.counted
def E_Mod_counted : Env := (true, [(7, 6, 0), (33, 6, 3)], [(.invokevirtual 179, 2, x_Mod_ofCoils)], [], [], zST, false)
def d_Mod_counted : Dn := (sq (ite' (cno (cat E_Mod_counted [.iload_n 1, .iconst 3] (.if_icmp .ge 11)))
  (blk E_Mod_counted [.aload_n 0, .iload_n 1, .invokevirtual 179])
  (ite' (cno (cat E_Mod_counted [.iload_n 1, .iconst 3] (.if_icmp .ne 13)))
  (blk E_Mod_counted [.aload_n 0, .getfield 7, .bipush 15, .iaload])
  (ite' (cno (cat E_Mod_counted [.iload_n 1, .bipush 13] (.if_icmp .ge 17)))
  (blk E_Mod_counted [.aload_n 0, .getfield 7, .bipush 6, .iload_n 1, .iadd, .iconst 4, .isub, .iaload])
  (blk E_Mod_counted [.aload_n 0, .getfield 33]))))
  (rti E_Mod_counted []))
def x_Mod_counted : Ex := zrv 6 (exb true 2 d_Mod_counted)
abbrev r_Mod_counted : Room := ({ frames := 2, cells := 0, slots := 0, locals := 45 } : Room)
theorem eo_Mod_counted (hw : zWok w) (cx : CX w p s m args c b_Mod_counted 2 "CoilSlitsModel") : EnvOk w true p l e r_Mod_counted s m args below meth c Q b_Mod_counted 2 "CoilSlitsModel" E_Mod_counted :=
  ⟨rfl, by decide +kernel, by decide +kernel, by decide +kernel, hw, fun h => absurd h (by decide),
  List.forall_mem_cons.mpr ⟨call_V cx (ct_Mod_ofCoils w l hw) tw_1079 tw_1076 tw_8 tw_1078 tp_44 (ci := 6) (Nat.le_of_ble_eq_true rfl) rfl (by decide +kernel) ⟨Nat.le_of_ble_eq_true rfl, Nat.le_of_ble_eq_true rfl⟩, fun q hq => absurd hq List.not_mem_nil⟩⟩
theorem sn_Mod_counted (h : MC w true p l e R s m args below meth c Q b_Mod_counted 2 "CoilSlitsModel" E_Mod_counted 0 0 F (some .int)) : Sn (zK w true p l e R s m args below meth c Q 2) F (fun _ => False) (fun _ => False) 0 0 0 d_Mod_counted 0 0 0 := by
  unfold d_Mod_counted
  exact (sn_sq (pm := 52) (sn_ite (pt := 5) (pf := 13) (sc_no (m_cat h zz (p1 := 2) (tgt := 13) (by decide +kernel) (by decide +kernel) (by decide)))
  (sn_goto (pm := 10) (m_blk h zz (by decide +kernel)) (m_goto h (off := 42) (by decide +kernel) (by decide)))
  (sn_ite (pt := 18) (pf := 28) (sc_no (m_cat h zz (p1 := 15) (tgt := 28) (by decide +kernel) (by decide +kernel) (by decide)))
  (sn_goto (pm := 25) (m_blk h zz (by decide +kernel)) (m_goto h (off := 27) (by decide +kernel) (by decide)))
  (sn_ite (pt := 34) (pf := 48) (sc_no (m_cat h zz (p1 := 31) (tgt := 48) (by decide +kernel) (by decide +kernel) (by decide)))
  (sn_goto (pm := 45) (m_blk h zz (by decide +kernel)) (m_goto h (off := 7) (by decide +kernel) (by decide)))
  (m_blk h zz (by decide +kernel)))))
  (m_rti h zz (p1 := 52) (by decide +kernel) (by decide +kernel) (Nat.zero_le _) (Nat.zero_le _)))
theorem ct_Mod_counted (w : Wd) (l : Launch) (hw : zWok w) : CT w l y_Mod_counted b_Mod_counted 2 (some .int) r_Mod_counted (exb true 2 d_Mod_counted) :=
  ct_plain (by decide +kernel) (fun p e s m args below meth c Q cx hnm => eo_Mod_counted hw cx) (fun p e s m args below meth c Q F h => sn_Mod_counted h)
theorem q_Mod_counted {a : Nat} {fs : List Value} {M : Hp} {nx : Nat} (x0 : Int32) (h : M a = some (cO 6 fs)) : x_Mod_counted [.ref a, .int x0] (M, nx) = zres (d_Mod_counted ([some (.ref a), some (.int x0)], [], (M, nx))) := q_ofV [some (.ref a), some (.int x0)] h rfl (Nat.le_of_ble_eq_true rfl) (Or.inr rfl)
theorem lc_Mod_counted_179 : lookI (eC E_Mod_counted) (.invokevirtual 179) = some (2, x_Mod_ofCoils) := rfl
theorem lf_Mod_counted_7 : lookN (eF E_Mod_counted) 7 = some (6, 0) := rfl
theorem lf_Mod_counted_33 : lookN (eF E_Mod_counted) 33 = some (6, 3) := rfl
theorem lb_Mod_counted : eB E_Mod_counted = true := rfl
theorem lt_Mod_counted : eT E_Mod_counted = zST := rfl
-- CoilSlitsModel.count
def E_Mod_count : Env := (true, [(25, 6, 6)], [(.invokestatic 29, 3, x_Mod_in), (.invokevirtual 182, 2, x_Mod_counted), (.invokevirtual 36, 2, x_Mod_fails)], [], [], zST, false)
def d_Mod_count : Dn := (sq (blk E_Mod_count [.aload_n 0, .iconst 0, .putfield 25])
  (sq (ite' (cno (cat E_Mod_count [.iload_n 1, .iconst 0, .bipush 13, .invokestatic 29] (.ifCond .eq 11)))
  (blk E_Mod_count [.aload_n 0, .iload_n 1, .invokevirtual 182])
  (blk E_Mod_count [.aload_n 0, .iconst 1, .invokevirtual 36]))
  (rti E_Mod_count [])))
def x_Mod_count : Ex := zrv 6 (exb true 2 d_Mod_count)
abbrev r_Mod_count : Room := ({ frames := 3, cells := 0, slots := 0, locals := 66 } : Room)
theorem eo_Mod_count (hw : zWok w) (cx : CX w p s m args c b_Mod_count 2 "CoilSlitsModel") : EnvOk w true p l e r_Mod_count s m args below meth c Q b_Mod_count 2 "CoilSlitsModel" E_Mod_count :=
  ⟨rfl, by decide +kernel, by decide +kernel, by decide +kernel, hw, fun h => absurd h (by decide),
  List.forall_mem_cons.mpr ⟨call_S cx (ct_Mod_in w l hw) tw_875 tw_873 tw_8 tw_874 (by decide +kernel) ⟨Nat.le_of_ble_eq_true rfl, Nat.le_of_ble_eq_true rfl⟩, List.forall_mem_cons.mpr ⟨call_V cx (ct_Mod_counted w l hw) tw_1075 tw_1072 tw_8 tw_1074 tp_43 (ci := 6) (Nat.le_of_ble_eq_true rfl) rfl (by decide +kernel) ⟨Nat.le_of_ble_eq_true rfl, Nat.le_of_ble_eq_true rfl⟩, List.forall_mem_cons.mpr ⟨call_V cx (ct_Mod_fails w l hw) tw_865 tw_862 tw_8 tw_864 tp_29 (ci := 6) (Nat.le_of_ble_eq_true rfl) rfl (by decide +kernel) ⟨Nat.le_of_ble_eq_true rfl, Nat.le_of_ble_eq_true rfl⟩, fun q hq => absurd hq List.not_mem_nil⟩⟩⟩⟩
theorem sn_Mod_count (h : MC w true p l e R s m args below meth c Q b_Mod_count 2 "CoilSlitsModel" E_Mod_count 0 0 F (some .int)) : Sn (zK w true p l e R s m args below meth c Q 2) F (fun _ => False) (fun _ => False) 0 0 0 d_Mod_count 0 0 0 := by
  unfold d_Mod_count
  exact (sn_sq (pm := 5) (m_blk h zz (by decide +kernel))
  (sn_sq (pm := 28) (sn_ite (pt := 15) (pf := 23) (sc_no (m_cat h zz (p1 := 12) (tgt := 23) (by decide +kernel) (by decide +kernel) (by decide)))
  (sn_goto (pm := 20) (m_blk h zz (by decide +kernel)) (m_goto h (off := 8) (by decide +kernel) (by decide)))
  (m_blk h zz (by decide +kernel)))
  (m_rti h zz (p1 := 28) (by decide +kernel) (by decide +kernel) (Nat.zero_le _) (Nat.zero_le _))))
theorem ct_Mod_count (w : Wd) (l : Launch) (hw : zWok w) : CT w l y_Mod_count b_Mod_count 2 (some .int) r_Mod_count (exb true 2 d_Mod_count) :=
  ct_plain (by decide +kernel) (fun p e s m args below meth c Q cx hnm => eo_Mod_count hw cx) (fun p e s m args below meth c Q F h => sn_Mod_count h)
theorem q_Mod_count {a : Nat} {fs : List Value} {M : Hp} {nx : Nat} (x0 : Int32) (h : M a = some (cO 6 fs)) : x_Mod_count [.ref a, .int x0] (M, nx) = zres (d_Mod_count ([some (.ref a), some (.int x0)], [], (M, nx))) := q_ofV [some (.ref a), some (.int x0)] h rfl (Nat.le_of_ble_eq_true rfl) (Or.inr rfl)
theorem lc_Mod_count_29 : lookI (eC E_Mod_count) (.invokestatic 29) = some (3, x_Mod_in) := rfl
theorem lc_Mod_count_182 : lookI (eC E_Mod_count) (.invokevirtual 182) = some (2, x_Mod_counted) := rfl
theorem lc_Mod_count_36 : lookI (eC E_Mod_count) (.invokevirtual 36) = some (2, x_Mod_fails) := rfl
theorem lf_Mod_count_25 : lookN (eF E_Mod_count) 25 = some (6, 6) := rfl
theorem lb_Mod_count : eB E_Mod_count = true := rfl
-- CoilSlitsModel.setting
def E_Mod_setting : Env := (true, [(25, 6, 6), (7, 6, 0)], [(.invokestatic 29, 3, x_Mod_in), (.invokevirtual 36, 2, x_Mod_fails)], [], [], zST, false)
def d_Mod_setting : Dn := (sq (blk E_Mod_setting [.aload_n 0, .iconst 0, .putfield 25])
  (sq (ite' (cno (cat E_Mod_setting [.iload_n 1, .iconst 0, .iconst 3, .invokestatic 29] (.ifCond .eq 12)))
  (blk E_Mod_setting [.aload_n 0, .getfield 7, .iload_n 1, .iaload])
  (blk E_Mod_setting [.aload_n 0, .iconst 1, .invokevirtual 36]))
  (rti E_Mod_setting [])))
def x_Mod_setting : Ex := zrv 6 (exb true 2 d_Mod_setting)
abbrev r_Mod_setting : Room := ({ frames := 1, cells := 0, slots := 0, locals := 22 } : Room)
theorem eo_Mod_setting (hw : zWok w) (cx : CX w p s m args c b_Mod_setting 2 "CoilSlitsModel") : EnvOk w true p l e r_Mod_setting s m args below meth c Q b_Mod_setting 2 "CoilSlitsModel" E_Mod_setting :=
  ⟨rfl, by decide +kernel, by decide +kernel, by decide +kernel, hw, fun h => absurd h (by decide),
  List.forall_mem_cons.mpr ⟨call_S cx (ct_Mod_in w l hw) tw_875 tw_873 tw_8 tw_874 (by decide +kernel) ⟨Nat.le_of_ble_eq_true rfl, Nat.le_of_ble_eq_true rfl⟩, List.forall_mem_cons.mpr ⟨call_V cx (ct_Mod_fails w l hw) tw_865 tw_862 tw_8 tw_864 tp_29 (ci := 6) (Nat.le_of_ble_eq_true rfl) rfl (by decide +kernel) ⟨Nat.le_of_ble_eq_true rfl, Nat.le_of_ble_eq_true rfl⟩, fun q hq => absurd hq List.not_mem_nil⟩⟩⟩
theorem sn_Mod_setting (h : MC w true p l e R s m args below meth c Q b_Mod_setting 2 "CoilSlitsModel" E_Mod_setting 0 0 F (some .int)) : Sn (zK w true p l e R s m args below meth c Q 2) F (fun _ => False) (fun _ => False) 0 0 0 d_Mod_setting 0 0 0 := by
  unfold d_Mod_setting
  exact (sn_sq (pm := 5) (m_blk h zz (by decide +kernel))
  (sn_sq (pm := 28) (sn_ite (pt := 14) (pf := 23) (sc_no (m_cat h zz (p1 := 11) (tgt := 23) (by decide +kernel) (by decide +kernel) (by decide)))
  (sn_goto (pm := 20) (m_blk h zz (by decide +kernel)) (m_goto h (off := 8) (by decide +kernel) (by decide)))
  (m_blk h zz (by decide +kernel)))
  (m_rti h zz (p1 := 28) (by decide +kernel) (by decide +kernel) (Nat.zero_le _) (Nat.zero_le _))))
theorem ct_Mod_setting (w : Wd) (l : Launch) (hw : zWok w) : CT w l y_Mod_setting b_Mod_setting 2 (some .int) r_Mod_setting (exb true 2 d_Mod_setting) :=
  ct_plain (by decide +kernel) (fun p e s m args below meth c Q cx hnm => eo_Mod_setting hw cx) (fun p e s m args below meth c Q F h => sn_Mod_setting h)
theorem q_Mod_setting {a : Nat} {fs : List Value} {M : Hp} {nx : Nat} (x0 : Int32) (h : M a = some (cO 6 fs)) : x_Mod_setting [.ref a, .int x0] (M, nx) = zres (d_Mod_setting ([some (.ref a), some (.int x0)], [], (M, nx))) := q_ofV [some (.ref a), some (.int x0)] h rfl (Nat.le_of_ble_eq_true rfl) (Or.inr rfl)
theorem lc_Mod_setting_29 : lookI (eC E_Mod_setting) (.invokestatic 29) = some (3, x_Mod_in) := rfl
theorem lc_Mod_setting_36 : lookI (eC E_Mod_setting) (.invokevirtual 36) = some (2, x_Mod_fails) := rfl
theorem lf_Mod_setting_25 : lookN (eF E_Mod_setting) 25 = some (6, 6) := rfl
theorem lf_Mod_setting_7 : lookN (eF E_Mod_setting) 7 = some (6, 0) := rfl
theorem lb_Mod_setting : eB E_Mod_setting = true := rfl
theorem lt_Mod_setting : eT E_Mod_setting = zST := rfl
-- CoilSlitsModel.choiceFor
def E_Mod_choiceFor : Env := (true, [(7, 6, 0)], [(.invokestatic 97, 2, x_Mod_chosen), (.invokestatic 44, 3, x_Mod_of)], [], [], zST, false)
def d_Mod_choiceFor : Dn := (sq (blk E_Mod_choiceFor [.aload_n 0, .getfield 7, .iload_n 1, .invokestatic 97, .istore_n 2])
  (sq (ite' (cno (cat E_Mod_choiceFor [.iload_n 2, .iconst (-1)] (.if_icmp .ne 7)))
  (blk E_Mod_choiceFor [.iconst (-1)])
  (blk E_Mod_choiceFor [.aload_n 0, .getfield 7, .iload_n 2, .iconst 0, .invokestatic 44]))
  (rti E_Mod_choiceFor [])))
def x_Mod_choiceFor : Ex := zrv 6 (exb true 3 d_Mod_choiceFor)
abbrev r_Mod_choiceFor : Room := ({ frames := 5, cells := 0, slots := 0, locals := 115 } : Room)
theorem eo_Mod_choiceFor (hw : zWok w) (cx : CX w p s m args c b_Mod_choiceFor 3 "CoilSlitsModel") : EnvOk w true p l e r_Mod_choiceFor s m args below meth c Q b_Mod_choiceFor 3 "CoilSlitsModel" E_Mod_choiceFor :=
  ⟨rfl, by decide +kernel, by decide +kernel, by decide +kernel, hw, fun h => absurd h (by decide),
  List.forall_mem_cons.mpr ⟨call_S cx (ct_Mod_chosen w l hw) tw_978 tw_976 tw_8 tw_977 (by decide +kernel) ⟨Nat.le_of_ble_eq_true rfl, Nat.le_of_ble_eq_true rfl⟩, List.forall_mem_cons.mpr ⟨call_S cx (ct_Mod_of w l hw) tw_899 tw_897 tw_8 tw_898 (by decide +kernel) ⟨Nat.le_of_ble_eq_true rfl, Nat.le_of_ble_eq_true rfl⟩, fun q hq => absurd hq List.not_mem_nil⟩⟩⟩
theorem sn_Mod_choiceFor (h : MC w true p l e R s m args below meth c Q b_Mod_choiceFor 3 "CoilSlitsModel" E_Mod_choiceFor 0 0 F (some .int)) : Sn (zK w true p l e R s m args below meth c Q 3) F (fun _ => False) (fun _ => False) 0 0 0 d_Mod_choiceFor 0 0 0 := by
  unfold d_Mod_choiceFor
  exact (sn_sq (pm := 9) (m_blk h zz (by decide +kernel))
  (sn_sq (pm := 27) (sn_ite (pt := 14) (pf := 18) (sc_no (m_cat h zz (p1 := 11) (tgt := 18) (by decide +kernel) (by decide +kernel) (by decide)))
  (sn_goto (pm := 15) (m_blk h zz (by decide +kernel)) (m_goto h (off := 12) (by decide +kernel) (by decide)))
  (m_blk h zz (by decide +kernel)))
  (m_rti h zz (p1 := 27) (by decide +kernel) (by decide +kernel) (Nat.zero_le _) (Nat.zero_le _))))
theorem ct_Mod_choiceFor (w : Wd) (l : Launch) (hw : zWok w) : CT w l y_Mod_choiceFor b_Mod_choiceFor 3 (some .int) r_Mod_choiceFor (exb true 3 d_Mod_choiceFor) :=
  ct_plain (by decide +kernel) (fun p e s m args below meth c Q cx hnm => eo_Mod_choiceFor hw cx) (fun p e s m args below meth c Q F h => sn_Mod_choiceFor h)
theorem q_Mod_choiceFor {a : Nat} {fs : List Value} {M : Hp} {nx : Nat} (x0 : Int32) (h : M a = some (cO 6 fs)) : x_Mod_choiceFor [.ref a, .int x0] (M, nx) = zres (d_Mod_choiceFor ([some (.ref a), some (.int x0), none], [], (M, nx))) := q_ofV [some (.ref a), some (.int x0), none] h rfl (Nat.le_of_ble_eq_true rfl) (Or.inr rfl)
theorem lc_Mod_choiceFor_97 : lookI (eC E_Mod_choiceFor) (.invokestatic 97) = some (2, x_Mod_chosen) := rfl
theorem lc_Mod_choiceFor_44 : lookI (eC E_Mod_choiceFor) (.invokestatic 44) = some (3, x_Mod_of) := rfl
theorem lf_Mod_choiceFor_7 : lookN (eF E_Mod_choiceFor) 7 = some (6, 0) := rfl
theorem lb_Mod_choiceFor : eB E_Mod_choiceFor = true := rfl
-- CoilSlitsModel.choice
def E_Mod_choice : Env := (true, [(25, 6, 6), (7, 6, 0)], [(.invokestatic 94, 2, x_Mod_orderAt), (.invokevirtual 36, 2, x_Mod_fails), (.invokevirtual 185, 2, x_Mod_choiceFor)], [], [], zST, false)
def d_Mod_choice : Dn := (sq (blk E_Mod_choice [.aload_n 0, .iconst 0, .putfield 25, .aload_n 0, .getfield 7, .iload_n 1, .invokestatic 94, .istore_n 2])
  (sq (ite' (cno (cat E_Mod_choice [.iload_n 2, .iconst (-1)] (.if_icmp .ne 11)))
  (blk E_Mod_choice [.aload_n 0, .iconst 1, .invokevirtual 36])
  (blk E_Mod_choice [.aload_n 0, .iload_n 2, .invokevirtual 185]))
  (rti E_Mod_choice [])))
def x_Mod_choice : Ex := zrv 6 (exb true 3 d_Mod_choice)
abbrev r_Mod_choice : Room := ({ frames := 6, cells := 0, slots := 0, locals := 137 } : Room)
theorem eo_Mod_choice (hw : zWok w) (cx : CX w p s m args c b_Mod_choice 3 "CoilSlitsModel") : EnvOk w true p l e r_Mod_choice s m args below meth c Q b_Mod_choice 3 "CoilSlitsModel" E_Mod_choice :=
  ⟨rfl, by decide +kernel, by decide +kernel, by decide +kernel, hw, fun h => absurd h (by decide),
  List.forall_mem_cons.mpr ⟨call_S cx (ct_Mod_orderAt w l hw) tw_943 tw_941 tw_8 tw_942 (by decide +kernel) ⟨Nat.le_of_ble_eq_true rfl, Nat.le_of_ble_eq_true rfl⟩, List.forall_mem_cons.mpr ⟨call_V cx (ct_Mod_fails w l hw) tw_865 tw_862 tw_8 tw_864 tp_29 (ci := 6) (Nat.le_of_ble_eq_true rfl) rfl (by decide +kernel) ⟨Nat.le_of_ble_eq_true rfl, Nat.le_of_ble_eq_true rfl⟩, List.forall_mem_cons.mpr ⟨call_V cx (ct_Mod_choiceFor w l hw) tw_1091 tw_1088 tw_8 tw_1090 tp_45 (ci := 6) (Nat.le_of_ble_eq_true rfl) rfl (by decide +kernel) ⟨Nat.le_of_ble_eq_true rfl, Nat.le_of_ble_eq_true rfl⟩, fun q hq => absurd hq List.not_mem_nil⟩⟩⟩⟩
theorem sn_Mod_choice (h : MC w true p l e R s m args below meth c Q b_Mod_choice 3 "CoilSlitsModel" E_Mod_choice 0 0 F (some .int)) : Sn (zK w true p l e R s m args below meth c Q 3) F (fun _ => False) (fun _ => False) 0 0 0 d_Mod_choice 0 0 0 := by
  unfold d_Mod_choice
  exact (sn_sq (pm := 14) (m_blk h zz (by decide +kernel))
  (sn_sq (pm := 32) (sn_ite (pt := 19) (pf := 27) (sc_no (m_cat h zz (p1 := 16) (tgt := 27) (by decide +kernel) (by decide +kernel) (by decide)))
  (sn_goto (pm := 24) (m_blk h zz (by decide +kernel)) (m_goto h (off := 8) (by decide +kernel) (by decide)))
  (m_blk h zz (by decide +kernel)))
  (m_rti h zz (p1 := 32) (by decide +kernel) (by decide +kernel) (Nat.zero_le _) (Nat.zero_le _))))
theorem ct_Mod_choice (w : Wd) (l : Launch) (hw : zWok w) : CT w l y_Mod_choice b_Mod_choice 3 (some .int) r_Mod_choice (exb true 3 d_Mod_choice) :=
  ct_plain (by decide +kernel) (fun p e s m args below meth c Q cx hnm => eo_Mod_choice hw cx) (fun p e s m args below meth c Q F h => sn_Mod_choice h)
theorem q_Mod_choice {a : Nat} {fs : List Value} {M : Hp} {nx : Nat} (x0 : Int32) (h : M a = some (cO 6 fs)) : x_Mod_choice [.ref a, .int x0] (M, nx) = zres (d_Mod_choice ([some (.ref a), some (.int x0), none], [], (M, nx))) := q_ofV [some (.ref a), some (.int x0), none] h rfl (Nat.le_of_ble_eq_true rfl) (Or.inr rfl)
theorem lc_Mod_choice_94 : lookI (eC E_Mod_choice) (.invokestatic 94) = some (2, x_Mod_orderAt) := rfl
theorem lc_Mod_choice_36 : lookI (eC E_Mod_choice) (.invokevirtual 36) = some (2, x_Mod_fails) := rfl
theorem lc_Mod_choice_185 : lookI (eC E_Mod_choice) (.invokevirtual 185) = some (2, x_Mod_choiceFor) := rfl
theorem lf_Mod_choice_25 : lookN (eF E_Mod_choice) 25 = some (6, 6) := rfl
theorem lf_Mod_choice_7 : lookN (eF E_Mod_choice) 7 = some (6, 0) := rfl
theorem lb_Mod_choice : eB E_Mod_choice = true := rfl
-- CoilSlitsModel.byServing
def E_Mod_byServing : Env := (true, [(13, 6, 1), (7, 6, 0)], [(.invokevirtual 188, 1, x_Mod_tries), (.invokestatic 106, 2, x_Mod_serves)], [], [], zST, false)
def d_Mod_byServing : Dn := (sq (blk E_Mod_byServing [.aload_n 0, .invokevirtual 188, .aload_n 0, .getfield 13, .iconst 3, .iload_n 2, .iastore, .aload_n 0, .getfield 13, .iload_n 1, .invokestatic 106, .istore 4])
  (sq (ite' (cno (cat E_Mod_byServing [.iload_n 3] (.ifCond .ne 8)))
  (blk E_Mod_byServing [.iload 4])
  (ite' (cno (cat E_Mod_byServing [.iload_n 3, .iconst 1] (.if_icmp .ne 21)))
  (blk E_Mod_byServing [.aload_n 0, .getfield 13, .bipush 6, .iaload, .aload_n 0, .getfield 7, .bipush 6, .iaload, .isub])
  (ite' (cno (cat E_Mod_byServing [.iload_n 3, .iconst 2] (.if_icmp .ne 21)))
  (blk E_Mod_byServing [.aload_n 0, .getfield 13, .bipush 11, .iaload, .aload_n 0, .getfield 7, .bipush 11, .iaload, .isub])
  (blk E_Mod_byServing [.aload_n 0, .getfield 13, .bipush 7, .iaload, .aload_n 0, .getfield 7, .bipush 7, .iaload, .isub]))))
  (rti E_Mod_byServing [])))
def x_Mod_byServing : Ex := zrv 6 (exb true 5 d_Mod_byServing)
abbrev r_Mod_byServing : Room := ({ frames := 6, cells := 0, slots := 0, locals := 139 } : Room)
theorem eo_Mod_byServing (hw : zWok w) (cx : CX w p s m args c b_Mod_byServing 5 "CoilSlitsModel") : EnvOk w true p l e r_Mod_byServing s m args below meth c Q b_Mod_byServing 5 "CoilSlitsModel" E_Mod_byServing :=
  ⟨rfl, by decide +kernel, by decide +kernel, by decide +kernel, hw, fun h => absurd h (by decide),
  List.forall_mem_cons.mpr ⟨call_V cx (ct_Mod_tries w l hw) tw_1103 tw_1100 tw_8 tw_1102 tp_47 (ci := 6) (Nat.le_of_ble_eq_true rfl) rfl (by decide +kernel) ⟨Nat.le_of_ble_eq_true rfl, Nat.le_of_ble_eq_true rfl⟩, List.forall_mem_cons.mpr ⟨call_S cx (ct_Mod_serves w l hw) tw_975 tw_973 tw_8 tw_974 (by decide +kernel) ⟨Nat.le_of_ble_eq_true rfl, Nat.le_of_ble_eq_true rfl⟩, fun q hq => absurd hq List.not_mem_nil⟩⟩⟩
theorem sn_Mod_byServing (h : MC w true p l e R s m args below meth c Q b_Mod_byServing 5 "CoilSlitsModel" E_Mod_byServing 0 0 F (some .int)) : Sn (zK w true p l e R s m args below meth c Q 5) F (fun _ => False) (fun _ => False) 0 0 0 d_Mod_byServing 0 0 0 := by
  unfold d_Mod_byServing
  exact (sn_sq (pm := 21) (m_blk h zz (by decide +kernel))
  (sn_sq (pm := 91) (sn_ite (pt := 25) (pf := 30) (sc_no (m_cat h zz (p1 := 22) (tgt := 30) (by decide +kernel) (by decide +kernel) (by decide)))
  (sn_goto (pm := 27) (m_blk h zz (by decide +kernel)) (m_goto h (off := 64) (by decide +kernel) (by decide)))
  (sn_ite (pt := 35) (pf := 53) (sc_no (m_cat h zz (p1 := 32) (tgt := 53) (by decide +kernel) (by decide +kernel) (by decide)))
  (sn_goto (pm := 50) (m_blk h zz (by decide +kernel)) (m_goto h (off := 41) (by decide +kernel) (by decide)))
  (sn_ite (pt := 58) (pf := 76) (sc_no (m_cat h zz (p1 := 55) (tgt := 76) (by decide +kernel) (by decide +kernel) (by decide)))
  (sn_goto (pm := 73) (m_blk h zz (by decide +kernel)) (m_goto h (off := 18) (by decide +kernel) (by decide)))
  (m_blk h zz (by decide +kernel)))))
  (m_rti h zz (p1 := 91) (by decide +kernel) (by decide +kernel) (Nat.zero_le _) (Nat.zero_le _))))
theorem ct_Mod_byServing (w : Wd) (l : Launch) (hw : zWok w) : CT w l y_Mod_byServing b_Mod_byServing 5 (some .int) r_Mod_byServing (exb true 5 d_Mod_byServing) :=
  ct_plain (by decide +kernel) (fun p e s m args below meth c Q cx hnm => eo_Mod_byServing hw cx) (fun p e s m args below meth c Q F h => sn_Mod_byServing h)
theorem q_Mod_byServing {a : Nat} {fs : List Value} {M : Hp} {nx : Nat} (x0 : Int32) (x1 : Int32) (x2 : Int32) (h : M a = some (cO 6 fs)) : x_Mod_byServing [.ref a, .int x0, .int x1, .int x2] (M, nx) = zres (d_Mod_byServing ([some (.ref a), some (.int x0), some (.int x1), some (.int x2), none], [], (M, nx))) := q_ofV [some (.ref a), some (.int x0), some (.int x1), some (.int x2), none] h rfl (Nat.le_of_ble_eq_true rfl) (Or.inr rfl)
theorem lc_Mod_byServing_188 : lookI (eC E_Mod_byServing) (.invokevirtual 188) = some (1, x_Mod_tries) := rfl
theorem lc_Mod_byServing_106 : lookI (eC E_Mod_byServing) (.invokestatic 106) = some (2, x_Mod_serves) := rfl
theorem lf_Mod_byServing_13 : lookN (eF E_Mod_byServing) 13 = some (6, 1) := rfl
theorem lf_Mod_byServing_7 : lookN (eF E_Mod_byServing) 7 = some (6, 0) := rfl
theorem lb_Mod_byServing : eB E_Mod_byServing = true := rfl
theorem lt_Mod_byServing : eT E_Mod_byServing = zST := rfl
-- CoilSlitsModel.ifServed
def E_Mod_ifServed : Env := (true, [(25, 6, 6), (7, 6, 0)], [(.invokestatic 94, 2, x_Mod_orderAt), (.invokevirtual 36, 2, x_Mod_fails), (.invokestatic 29, 3, x_Mod_in), (.invokevirtual 191, 4, x_Mod_byServing)], [], [], zST, false)
def d_Mod_ifServed : Dn := (sq (blk E_Mod_ifServed [.aload_n 0, .iconst 0, .putfield 25])
  (sq (ite' (cno (cat E_Mod_ifServed [.aload_n 0, .getfield 7, .iload_n 1, .invokestatic 94, .iconst (-1)] (.if_icmp .ne 9)))
  (rti E_Mod_ifServed [.aload_n 0, .iconst 1, .invokevirtual 36])
  (blk E_Mod_ifServed []))
  (sq (ite' (can (cno (cat E_Mod_ifServed [.iload_n 2, .iconst 0, .iconst 2, .invokestatic 29] (.ifCond .eq 22))) (cno (cat E_Mod_ifServed [.iload_n 3, .iconst 0, .iconst 3, .invokestatic 29] (.ifCond .eq 13))))
  (blk E_Mod_ifServed [.aload_n 0, .iload_n 1, .iload_n 2, .iload_n 3, .invokevirtual 191])
  (blk E_Mod_ifServed [.aload_n 0, .iconst 2, .invokevirtual 36]))
  (rti E_Mod_ifServed []))))
def x_Mod_ifServed : Ex := zrv 6 (exb true 4 d_Mod_ifServed)
abbrev r_Mod_ifServed : Room := ({ frames := 7, cells := 0, slots := 0, locals := 163 } : Room)
theorem eo_Mod_ifServed (hw : zWok w) (cx : CX w p s m args c b_Mod_ifServed 4 "CoilSlitsModel") : EnvOk w true p l e r_Mod_ifServed s m args below meth c Q b_Mod_ifServed 4 "CoilSlitsModel" E_Mod_ifServed :=
  ⟨rfl, by decide +kernel, by decide +kernel, by decide +kernel, hw, fun h => absurd h (by decide),
  List.forall_mem_cons.mpr ⟨call_S cx (ct_Mod_orderAt w l hw) tw_943 tw_941 tw_8 tw_942 (by decide +kernel) ⟨Nat.le_of_ble_eq_true rfl, Nat.le_of_ble_eq_true rfl⟩, List.forall_mem_cons.mpr ⟨call_V cx (ct_Mod_fails w l hw) tw_865 tw_862 tw_8 tw_864 tp_29 (ci := 6) (Nat.le_of_ble_eq_true rfl) rfl (by decide +kernel) ⟨Nat.le_of_ble_eq_true rfl, Nat.le_of_ble_eq_true rfl⟩, List.forall_mem_cons.mpr ⟨call_S cx (ct_Mod_in w l hw) tw_875 tw_873 tw_8 tw_874 (by decide +kernel) ⟨Nat.le_of_ble_eq_true rfl, Nat.le_of_ble_eq_true rfl⟩, List.forall_mem_cons.mpr ⟨call_V cx (ct_Mod_byServing w l hw) tw_1099 tw_1096 tw_8 tw_1098 tp_46 (ci := 6) (Nat.le_of_ble_eq_true rfl) rfl (by decide +kernel) ⟨Nat.le_of_ble_eq_true rfl, Nat.le_of_ble_eq_true rfl⟩, fun q hq => absurd hq List.not_mem_nil⟩⟩⟩⟩⟩
theorem sn_Mod_ifServed (h : MC w true p l e R s m args below meth c Q b_Mod_ifServed 4 "CoilSlitsModel" E_Mod_ifServed 0 0 F (some .int)) : Sn (zK w true p l e R s m args below meth c Q 4) F (fun _ => False) (fun _ => False) 0 0 0 d_Mod_ifServed 0 0 0 := by
  unfold d_Mod_ifServed
  exact (sn_sq (pm := 5) (m_blk h zz (by decide +kernel))
  (sn_sq (pm := 23) (sn_ite (pt := 17) (pf := 23) (sc_no (m_cat h zz (p1 := 14) (tgt := 23) (by decide +kernel) (by decide +kernel) (by decide)))
  (m_rti h zz (p1 := 22) (by decide +kernel) (by decide +kernel) (Nat.zero_le _) (Nat.zero_le _))
  (m_blk h zz rfl))
  (sn_sq (pm := 56) (sn_ite (pt := 41) (pf := 51) (sc_an (pm := 32) (sc_no (m_cat h zz (p1 := 29) (tgt := 51) (by decide +kernel) (by decide +kernel) (by decide))) (sc_no (m_cat h zz (p1 := 38) (tgt := 51) (by decide +kernel) (by decide +kernel) (by decide))))
  (sn_goto (pm := 48) (m_blk h zz (by decide +kernel)) (m_goto h (off := 8) (by decide +kernel) (by decide)))
  (m_blk h zz (by decide +kernel)))
  (m_rti h zz (p1 := 56) (by decide +kernel) (by decide +kernel) (Nat.zero_le _) (Nat.zero_le _)))))
theorem ct_Mod_ifServed (w : Wd) (l : Launch) (hw : zWok w) : CT w l y_Mod_ifServed b_Mod_ifServed 4 (some .int) r_Mod_ifServed (exb true 4 d_Mod_ifServed) :=
  ct_plain (by decide +kernel) (fun p e s m args below meth c Q cx hnm => eo_Mod_ifServed hw cx) (fun p e s m args below meth c Q F h => sn_Mod_ifServed h)
theorem q_Mod_ifServed {a : Nat} {fs : List Value} {M : Hp} {nx : Nat} (x0 : Int32) (x1 : Int32) (x2 : Int32) (h : M a = some (cO 6 fs)) : x_Mod_ifServed [.ref a, .int x0, .int x1, .int x2] (M, nx) = zres (d_Mod_ifServed ([some (.ref a), some (.int x0), some (.int x1), some (.int x2)], [], (M, nx))) := q_ofV [some (.ref a), some (.int x0), some (.int x1), some (.int x2)] h rfl (Nat.le_of_ble_eq_true rfl) (Or.inr rfl)
theorem lc_Mod_ifServed_94 : lookI (eC E_Mod_ifServed) (.invokestatic 94) = some (2, x_Mod_orderAt) := rfl
theorem lc_Mod_ifServed_36 : lookI (eC E_Mod_ifServed) (.invokevirtual 36) = some (2, x_Mod_fails) := rfl
theorem lc_Mod_ifServed_29 : lookI (eC E_Mod_ifServed) (.invokestatic 29) = some (3, x_Mod_in) := rfl
theorem lc_Mod_ifServed_191 : lookI (eC E_Mod_ifServed) (.invokevirtual 191) = some (4, x_Mod_byServing) := rfl
theorem lf_Mod_ifServed_25 : lookN (eF E_Mod_ifServed) 25 = some (6, 6) := rfl
theorem lf_Mod_ifServed_7 : lookN (eF E_Mod_ifServed) 7 = some (6, 0) := rfl
theorem lb_Mod_ifServed : eB E_Mod_ifServed = true := rfl
-- CoilSlitsModel.best
def E_Mod_best : Env := (true, [(13, 6, 1)], [(.invokevirtual 188, 1, x_Mod_tries), (.invokestatic 126, 1, x_Mod_servesAll)], [], [], zST, false)
def d_Mod_best : Dn := (sq (blk E_Mod_best [.iconst (-1), .istore_n 1, .iconst 0, .istore_n 2, .iconst 0, .istore_n 3, .iconst 0, .istore 4, .iconst 0, .istore 5])
  (sq (lop (cfo [6] (cno (cat E_Mod_best [.iload 5, .iconst 3] (.if_icmp .ge 130))))
  (sq (blk E_Mod_best [.aload_n 0, .invokevirtual 188, .aload_n 0, .getfield 13, .iconst 3, .iload 5, .iastore, .aload_n 0, .getfield 13, .invokestatic 126, .pop])
  (sq (ite' (can (cno (cat E_Mod_best [.aload_n 0, .getfield 13, .bipush 12, .iaload, .iload_n 2] (.if_icmp .ne 41))) (cor (cat E_Mod_best [.aload_n 0, .getfield 13, .bipush 11, .iaload, .iload_n 3] (.if_icmp .lt 26)) (can (cno (cat E_Mod_best [.aload_n 0, .getfield 13, .bipush 11, .iaload, .iload_n 3] (.if_icmp .ne 19))) (cno (cat E_Mod_best [.aload_n 0, .getfield 13, .bipush 7, .iaload, .iload 4] (.if_icmp .ge 7))))))
  (blk E_Mod_best [.iconst 1])
  (blk E_Mod_best [.iconst 0]))
  (sq (blk E_Mod_best [.istore 6])
  (sq (ite' (cor (cat E_Mod_best [.iload_n 1, .iconst (-1)] (.if_icmp .eq 19)) (cor (cat E_Mod_best [.aload_n 0, .getfield 13, .bipush 12, .iaload, .iload_n 2] (.if_icmp .gt 8)) (cno (cat E_Mod_best [.iload 6] (.ifCond .eq 31)))))
  (blk E_Mod_best [.iload 5, .istore_n 1, .aload_n 0, .getfield 13, .bipush 12, .iaload, .istore_n 2, .aload_n 0, .getfield 13, .bipush 11, .iaload, .istore_n 3, .aload_n 0, .getfield 13, .bipush 7, .iaload, .istore 4])
  (blk E_Mod_best []))
  (blk E_Mod_best [.iinc 5 1])))))
  (blk E_Mod_best []) zFU)
  (rti E_Mod_best [.iload_n 1])))
def x_Mod_best : Ex := zrv 6 (exb true 7 d_Mod_best)
abbrev r_Mod_best : Room := ({ frames := 7, cells := 0, slots := 0, locals := 163 } : Room)
theorem eo_Mod_best (hw : zWok w) (cx : CX w p s m args c b_Mod_best 7 "CoilSlitsModel") : EnvOk w true p l e r_Mod_best s m args below meth c Q b_Mod_best 7 "CoilSlitsModel" E_Mod_best :=
  ⟨rfl, by decide +kernel, by decide +kernel, by decide +kernel, hw, fun h => absurd h (by decide),
  List.forall_mem_cons.mpr ⟨call_V cx (ct_Mod_tries w l hw) tw_1103 tw_1100 tw_8 tw_1102 tp_47 (ci := 6) (Nat.le_of_ble_eq_true rfl) rfl (by decide +kernel) ⟨Nat.le_of_ble_eq_true rfl, Nat.le_of_ble_eq_true rfl⟩, List.forall_mem_cons.mpr ⟨call_S cx (ct_Mod_servesAll w l hw) tw_985 tw_983 tw_8 tw_984 (by decide +kernel) ⟨Nat.le_of_ble_eq_true rfl, Nat.le_of_ble_eq_true rfl⟩, fun q hq => absurd hq List.not_mem_nil⟩⟩⟩
theorem sn_Mod_best (h : MC w true p l e R s m args below meth c Q b_Mod_best 7 "CoilSlitsModel" E_Mod_best 0 0 F (some .int)) : Sn (zK w true p l e R s m args below meth c Q 7) F (fun _ => False) (fun _ => False) 0 0 0 d_Mod_best 0 0 0 := by
  unfold d_Mod_best
  exact (sn_sq (pm := 12) (m_blk h zz (by decide +kernel))
  (sn_sq (pm := 145) (sn_lop (pt := 18) (pu := 142) (p2 := 142) (px := 145) (kb2 := fun _ => False) (kc2 := fun _ => False) (sc_fo m_fo (sc_no (m_cat h zz (p1 := 15) (tgt := 145) (by decide +kernel) (by decide +kernel) (by decide))))
  (sn_sq (pm := 38) (m_blk h zz (by decide +kernel))
  (sn_sq (pm := 88) (sn_ite (pt := 83) (pf := 87) (sc_an (pm := 49) (sc_no (m_cat h zz (p1 := 46) (tgt := 87) (by decide +kernel) (by decide +kernel) (by decide))) (sc_or (pm := 60) (m_cat h zz (p1 := 57) (tgt := 83) (by decide +kernel) (by decide +kernel) (by decide)) (sc_an (pm := 71) (sc_no (m_cat h zz (p1 := 68) (tgt := 87) (by decide +kernel) (by decide +kernel) (by decide))) (sc_no (m_cat h zz (p1 := 80) (tgt := 87) (by decide +kernel) (by decide +kernel) (by decide))))))
  (sn_goto (pm := 84) (m_blk h zz (by decide +kernel)) (m_goto h (off := 4) (by decide +kernel) (by decide)))
  (m_blk h zz (by decide +kernel)))
  (sn_sq (pm := 90) (m_blk h zz (by decide +kernel))
  (sn_sq (pm := 139) (sn_ite (pt := 111) (pf := 139) (sc_or (pm := 95) (m_cat h zz (p1 := 92) (tgt := 111) (by decide +kernel) (by decide +kernel) (by decide)) (sc_or (pm := 106) (m_cat h zz (p1 := 103) (tgt := 111) (by decide +kernel) (by decide +kernel) (by decide)) (sc_no (m_cat h zz (p1 := 108) (tgt := 139) (by decide +kernel) (by decide +kernel) (by decide)))))
  (m_blk h zz (by decide +kernel))
  (m_blk h zz rfl))
  (m_blk h zz (by decide +kernel))))))
  (m_blk h zz rfl) (m_goto h (off := (-130)) (by decide +kernel) (by decide)) zFU)
  (m_rti h zz (p1 := 146) (by decide +kernel) (by decide +kernel) (Nat.zero_le _) (Nat.zero_le _))))
theorem ct_Mod_best (w : Wd) (l : Launch) (hw : zWok w) : CT w l y_Mod_best b_Mod_best 7 (some .int) r_Mod_best (exb true 7 d_Mod_best) :=
  ct_plain (by decide +kernel) (fun p e s m args below meth c Q cx hnm => eo_Mod_best hw cx) (fun p e s m args below meth c Q F h => sn_Mod_best h)
theorem q_Mod_best {a : Nat} {fs : List Value} {M : Hp} {nx : Nat}  (h : M a = some (cO 6 fs)) : x_Mod_best [.ref a] (M, nx) = zres (d_Mod_best ([some (.ref a), none, none, none, none, none, none], [], (M, nx))) := q_ofV [some (.ref a), none, none, none, none, none, none] h rfl (Nat.le_of_ble_eq_true rfl) (Or.inr rfl)
theorem lc_Mod_best_188 : lookI (eC E_Mod_best) (.invokevirtual 188) = some (1, x_Mod_tries) := rfl
theorem lc_Mod_best_126 : lookI (eC E_Mod_best) (.invokestatic 126) = some (1, x_Mod_servesAll) := rfl
theorem lf_Mod_best_13 : lookN (eF E_Mod_best) 13 = some (6, 1) := rfl
theorem lb_Mod_best : eB E_Mod_best = true := rfl
theorem lt_Mod_best : eT E_Mod_best = zST := rfl
-- CoilSlitsModel.bestRule
def E_Mod_bestRule : Env := (true, [(25, 6, 6)], [(.invokevirtual 195, 1, x_Mod_best)], [], [], zST, false)
def d_Mod_bestRule : Dn := (rti E_Mod_bestRule [.aload_n 0, .iconst 0, .putfield 25, .aload_n 0, .invokevirtual 195])
def x_Mod_bestRule : Ex := zrv 6 (exb true 1 d_Mod_bestRule)
abbrev r_Mod_bestRule : Room := ({ frames := 8, cells := 0, slots := 0, locals := 189 } : Room)
theorem eo_Mod_bestRule (hw : zWok w) (cx : CX w p s m args c b_Mod_bestRule 1 "CoilSlitsModel") : EnvOk w true p l e r_Mod_bestRule s m args below meth c Q b_Mod_bestRule 1 "CoilSlitsModel" E_Mod_bestRule :=
  ⟨rfl, by decide +kernel, by decide +kernel, by decide +kernel, hw, fun h => absurd h (by decide),
  List.forall_mem_cons.mpr ⟨call_V cx (ct_Mod_best w l hw) tw_1111 tw_1108 tw_8 tw_1110 tp_48 (ci := 6) (Nat.le_of_ble_eq_true rfl) rfl (by decide +kernel) ⟨Nat.le_of_ble_eq_true rfl, Nat.le_of_ble_eq_true rfl⟩, fun q hq => absurd hq List.not_mem_nil⟩⟩
theorem sn_Mod_bestRule (h : MC w true p l e R s m args below meth c Q b_Mod_bestRule 1 "CoilSlitsModel" E_Mod_bestRule 0 0 F (some .int)) : Sn (zK w true p l e R s m args below meth c Q 1) F (fun _ => False) (fun _ => False) 0 0 0 d_Mod_bestRule 0 0 0 := by
  unfold d_Mod_bestRule
  exact (m_rti h zz (p1 := 9) (by decide +kernel) (by decide +kernel) (Nat.zero_le _) (Nat.zero_le _))
theorem ct_Mod_bestRule (w : Wd) (l : Launch) (hw : zWok w) : CT w l y_Mod_bestRule b_Mod_bestRule 1 (some .int) r_Mod_bestRule (exb true 1 d_Mod_bestRule) :=
  ct_plain (by decide +kernel) (fun p e s m args below meth c Q cx hnm => eo_Mod_bestRule hw cx) (fun p e s m args below meth c Q F h => sn_Mod_bestRule h)
theorem q_Mod_bestRule {a : Nat} {fs : List Value} {M : Hp} {nx : Nat}  (h : M a = some (cO 6 fs)) : x_Mod_bestRule [.ref a] (M, nx) = zres (d_Mod_bestRule ([some (.ref a)], [], (M, nx))) := q_ofV [some (.ref a)] h rfl (Nat.le_of_ble_eq_true rfl) (Or.inr rfl)
theorem lc_Mod_bestRule_195 : lookI (eC E_Mod_bestRule) (.invokevirtual 195) = some (1, x_Mod_best) := rfl
theorem lf_Mod_bestRule_25 : lookN (eF E_Mod_bestRule) 25 = some (6, 6) := rfl
theorem lb_Mod_bestRule : eB E_Mod_bestRule = true := rfl
-- CoilSlitsModel.wider
def E_Mod_wider : Env := (true, [(7, 6, 0)], [(.invokestatic 44, 3, x_Mod_of), (.invokestatic 51, 2, x_Mod_topOf)], [], [], zST, false)
def d_Mod_wider : Dn := (sq (blk E_Mod_wider [.iconst 0, .istore_n 2, .iconst 0, .istore_n 3])
  (sq (lop (cno (cat E_Mod_wider [.iload_n 3, .aload_n 0, .getfield 7, .bipush 16, .iload_n 1, .iadd, .iaload] (.if_icmp .ge 49)))
  (sq (blk E_Mod_wider [.iload_n 2])
  (sq (ite' (cno (cat E_Mod_wider [.aload_n 0, .getfield 7, .iconst 5, .iload_n 1, .imul, .iload_n 3, .iadd, .iconst 1, .invokestatic 44, .aload_n 0, .getfield 7, .aload_n 0, .getfield 7, .iload_n 1, .invokestatic 51, .iconst 1, .invokestatic 44] (.if_icmp .le 7)))
  (blk E_Mod_wider [.iconst 1])
  (blk E_Mod_wider [.iconst 0]))
  (blk E_Mod_wider [.iadd, .istore_n 2, .iinc 3 1])))
  (blk E_Mod_wider []) zFU)
  (rti E_Mod_wider [.iload_n 2])))
def x_Mod_wider : Ex := zrv 6 (exb true 4 d_Mod_wider)
abbrev r_Mod_wider : Room := ({ frames := 1, cells := 0, slots := 0, locals := 22 } : Room)
theorem eo_Mod_wider (hw : zWok w) (cx : CX w p s m args c b_Mod_wider 4 "CoilSlitsModel") : EnvOk w true p l e r_Mod_wider s m args below meth c Q b_Mod_wider 4 "CoilSlitsModel" E_Mod_wider :=
  ⟨rfl, by decide +kernel, by decide +kernel, by decide +kernel, hw, fun h => absurd h (by decide),
  List.forall_mem_cons.mpr ⟨call_S cx (ct_Mod_of w l hw) tw_899 tw_897 tw_8 tw_898 (by decide +kernel) ⟨Nat.le_of_ble_eq_true rfl, Nat.le_of_ble_eq_true rfl⟩, List.forall_mem_cons.mpr ⟨call_S cx (ct_Mod_topOf w l hw) tw_896 tw_894 tw_8 tw_895 (by decide +kernel) ⟨Nat.le_of_ble_eq_true rfl, Nat.le_of_ble_eq_true rfl⟩, fun q hq => absurd hq List.not_mem_nil⟩⟩⟩
theorem sn_Mod_wider (h : MC w true p l e R s m args below meth c Q b_Mod_wider 4 "CoilSlitsModel" E_Mod_wider 0 0 F (some .int)) : Sn (zK w true p l e R s m args below meth c Q 4) F (fun _ => False) (fun _ => False) 0 0 0 d_Mod_wider 0 0 0 := by
  unfold d_Mod_wider
  exact (sn_sq (pm := 4) (m_blk h zz (by decide +kernel))
  (sn_sq (pm := 63) (sn_lop (pt := 17) (pu := 60) (p2 := 60) (px := 63) (kb2 := fun _ => False) (kc2 := fun _ => False) (sc_no (m_cat h zz (p1 := 14) (tgt := 63) (by decide +kernel) (by decide +kernel) (by decide)))
  (sn_sq (pm := 18) (m_blk h zz (by decide +kernel))
  (sn_sq (pm := 55) (sn_ite (pt := 50) (pf := 54) (sc_no (m_cat h zz (p1 := 47) (tgt := 54) (by decide +kernel) (by decide +kernel) (by decide)))
  (sn_goto (pm := 51) (m_blk h zz (by decide +kernel)) (m_goto h (off := 4) (by decide +kernel) (by decide)))
  (m_blk h zz (by decide +kernel)))
  (m_blk h zz (by decide +kernel))))
  (m_blk h zz rfl) (m_goto h (off := (-56)) (by decide +kernel) (by decide)) zFU)
  (m_rti h zz (p1 := 64) (by decide +kernel) (by decide +kernel) (Nat.zero_le _) (Nat.zero_le _))))
theorem ct_Mod_wider (w : Wd) (l : Launch) (hw : zWok w) : CT w l y_Mod_wider b_Mod_wider 4 (some .int) r_Mod_wider (exb true 4 d_Mod_wider) :=
  ct_plain (by decide +kernel) (fun p e s m args below meth c Q cx hnm => eo_Mod_wider hw cx) (fun p e s m args below meth c Q F h => sn_Mod_wider h)
theorem q_Mod_wider {a : Nat} {fs : List Value} {M : Hp} {nx : Nat} (x0 : Int32) (h : M a = some (cO 6 fs)) : x_Mod_wider [.ref a, .int x0] (M, nx) = zres (d_Mod_wider ([some (.ref a), some (.int x0), none, none], [], (M, nx))) := q_ofV [some (.ref a), some (.int x0), none, none] h rfl (Nat.le_of_ble_eq_true rfl) (Or.inr rfl)
theorem lc_Mod_wider_44 : lookI (eC E_Mod_wider) (.invokestatic 44) = some (3, x_Mod_of) := rfl
theorem lc_Mod_wider_51 : lookI (eC E_Mod_wider) (.invokestatic 51) = some (2, x_Mod_topOf) := rfl
theorem lf_Mod_wider_7 : lookN (eF E_Mod_wider) 7 = some (6, 0) := rfl
theorem lb_Mod_wider : eB E_Mod_wider = true := rfl
theorem lt_Mod_wider : eT E_Mod_wider = zST := rfl
-- CoilSlitsModel.bestPlace
def E_Mod_bestPlace : Env := (true, [(7, 6, 0)], [(.invokevirtual 198, 2, x_Mod_wider)], [], [], zST, false)
def d_Mod_bestPlace : Dn := (sq (blk E_Mod_bestPlace [.iconst (-1), .istore_n 1, .iconst 0, .istore_n 2, .iconst 0, .istore_n 3])
  (sq (lop (cfo [4] (cno (cat E_Mod_bestPlace [.iload_n 3, .bipush 6] (.if_icmp .ge 58))))
  (sq (blk E_Mod_bestPlace [.bipush 10, .aload_n 0, .iload_n 3, .invokevirtual 198, .imul, .aload_n 0, .getfield 7, .bipush 16, .iload_n 3, .iadd, .iaload, .iadd, .istore 4])
  (sq (ite' (can (cno (cat E_Mod_bestPlace [.aload_n 0, .getfield 7, .bipush 16, .iload_n 3, .iadd, .iaload, .iconst 5] (.if_icmp .ge 19))) (cor (cat E_Mod_bestPlace [.iload_n 1, .iconst (-1)] (.if_icmp .eq 9)) (cno (cat E_Mod_bestPlace [.iload 4, .iload_n 2] (.if_icmp .ge 8)))))
  (blk E_Mod_bestPlace [.iload_n 3, .istore_n 1, .iload 4, .istore_n 2])
  (blk E_Mod_bestPlace []))
  (blk E_Mod_bestPlace [.iinc 3 1])))
  (blk E_Mod_bestPlace []) zFU)
  (rti E_Mod_bestPlace [.iload_n 1])))
def x_Mod_bestPlace : Ex := zrv 6 (exb true 5 d_Mod_bestPlace)
abbrev r_Mod_bestPlace : Room := ({ frames := 2, cells := 0, slots := 0, locals := 45 } : Room)
theorem eo_Mod_bestPlace (hw : zWok w) (cx : CX w p s m args c b_Mod_bestPlace 5 "CoilSlitsModel") : EnvOk w true p l e r_Mod_bestPlace s m args below meth c Q b_Mod_bestPlace 5 "CoilSlitsModel" E_Mod_bestPlace :=
  ⟨rfl, by decide +kernel, by decide +kernel, by decide +kernel, hw, fun h => absurd h (by decide),
  List.forall_mem_cons.mpr ⟨call_V cx (ct_Mod_wider w l hw) tw_1123 tw_1120 tw_8 tw_1122 tp_50 (ci := 6) (Nat.le_of_ble_eq_true rfl) rfl (by decide +kernel) ⟨Nat.le_of_ble_eq_true rfl, Nat.le_of_ble_eq_true rfl⟩, fun q hq => absurd hq List.not_mem_nil⟩⟩
theorem sn_Mod_bestPlace (h : MC w true p l e R s m args below meth c Q b_Mod_bestPlace 5 "CoilSlitsModel" E_Mod_bestPlace 0 0 F (some .int)) : Sn (zK w true p l e R s m args below meth c Q 5) F (fun _ => False) (fun _ => False) 0 0 0 d_Mod_bestPlace 0 0 0 := by
  unfold d_Mod_bestPlace
  exact (sn_sq (pm := 6) (m_blk h zz (by decide +kernel))
  (sn_sq (pm := 67) (sn_lop (pt := 12) (pu := 64) (p2 := 64) (px := 67) (kb2 := fun _ => False) (kc2 := fun _ => False) (sc_fo m_fo (sc_no (m_cat h zz (p1 := 9) (tgt := 67) (by decide +kernel) (by decide +kernel) (by decide))))
  (sn_sq (pm := 32) (m_blk h zz (by decide +kernel))
  (sn_sq (pm := 61) (sn_ite (pt := 56) (pf := 61) (sc_an (pm := 45) (sc_no (m_cat h zz (p1 := 42) (tgt := 61) (by decide +kernel) (by decide +kernel) (by decide))) (sc_or (pm := 50) (m_cat h zz (p1 := 47) (tgt := 56) (by decide +kernel) (by decide +kernel) (by decide)) (sc_no (m_cat h zz (p1 := 53) (tgt := 61) (by decide +kernel) (by decide +kernel) (by decide)))))
  (m_blk h zz (by decide +kernel))
  (m_blk h zz rfl))
  (m_blk h zz (by decide +kernel))))
  (m_blk h zz rfl) (m_goto h (off := (-58)) (by decide +kernel) (by decide)) zFU)
  (m_rti h zz (p1 := 68) (by decide +kernel) (by decide +kernel) (Nat.zero_le _) (Nat.zero_le _))))
theorem ct_Mod_bestPlace (w : Wd) (l : Launch) (hw : zWok w) : CT w l y_Mod_bestPlace b_Mod_bestPlace 5 (some .int) r_Mod_bestPlace (exb true 5 d_Mod_bestPlace) :=
  ct_plain (by decide +kernel) (fun p e s m args below meth c Q cx hnm => eo_Mod_bestPlace hw cx) (fun p e s m args below meth c Q F h => sn_Mod_bestPlace h)
theorem q_Mod_bestPlace {a : Nat} {fs : List Value} {M : Hp} {nx : Nat}  (h : M a = some (cO 6 fs)) : x_Mod_bestPlace [.ref a] (M, nx) = zres (d_Mod_bestPlace ([some (.ref a), none, none, none, none], [], (M, nx))) := q_ofV [some (.ref a), none, none, none, none] h rfl (Nat.le_of_ble_eq_true rfl) (Or.inr rfl)
theorem lc_Mod_bestPlace_198 : lookI (eC E_Mod_bestPlace) (.invokevirtual 198) = some (2, x_Mod_wider) := rfl
theorem lf_Mod_bestPlace_7 : lookN (eF E_Mod_bestPlace) 7 = some (6, 0) := rfl
theorem lb_Mod_bestPlace : eB E_Mod_bestPlace = true := rfl
theorem lt_Mod_bestPlace : eT E_Mod_bestPlace = zST := rfl
-- CoilSlitsModel.bestStack
def E_Mod_bestStack : Env := (true, [(25, 6, 6)], [(.invokevirtual 201, 1, x_Mod_bestPlace)], [], [], zST, false)
def d_Mod_bestStack : Dn := (rti E_Mod_bestStack [.aload_n 0, .iconst 0, .putfield 25, .aload_n 0, .invokevirtual 201])
def x_Mod_bestStack : Ex := zrv 6 (exb true 1 d_Mod_bestStack)
abbrev r_Mod_bestStack : Room := ({ frames := 3, cells := 0, slots := 0, locals := 69 } : Room)
theorem eo_Mod_bestStack (hw : zWok w) (cx : CX w p s m args c b_Mod_bestStack 1 "CoilSlitsModel") : EnvOk w true p l e r_Mod_bestStack s m args below meth c Q b_Mod_bestStack 1 "CoilSlitsModel" E_Mod_bestStack :=
  ⟨rfl, by decide +kernel, by decide +kernel, by decide +kernel, hw, fun h => absurd h (by decide),
  List.forall_mem_cons.mpr ⟨call_V cx (ct_Mod_bestPlace w l hw) tw_1119 tw_1116 tw_8 tw_1118 tp_49 (ci := 6) (Nat.le_of_ble_eq_true rfl) rfl (by decide +kernel) ⟨Nat.le_of_ble_eq_true rfl, Nat.le_of_ble_eq_true rfl⟩, fun q hq => absurd hq List.not_mem_nil⟩⟩
theorem sn_Mod_bestStack (h : MC w true p l e R s m args below meth c Q b_Mod_bestStack 1 "CoilSlitsModel" E_Mod_bestStack 0 0 F (some .int)) : Sn (zK w true p l e R s m args below meth c Q 1) F (fun _ => False) (fun _ => False) 0 0 0 d_Mod_bestStack 0 0 0 := by
  unfold d_Mod_bestStack
  exact (m_rti h zz (p1 := 9) (by decide +kernel) (by decide +kernel) (Nat.zero_le _) (Nat.zero_le _))
theorem ct_Mod_bestStack (w : Wd) (l : Launch) (hw : zWok w) : CT w l y_Mod_bestStack b_Mod_bestStack 1 (some .int) r_Mod_bestStack (exb true 1 d_Mod_bestStack) :=
  ct_plain (by decide +kernel) (fun p e s m args below meth c Q cx hnm => eo_Mod_bestStack hw cx) (fun p e s m args below meth c Q F h => sn_Mod_bestStack h)
theorem q_Mod_bestStack {a : Nat} {fs : List Value} {M : Hp} {nx : Nat}  (h : M a = some (cO 6 fs)) : x_Mod_bestStack [.ref a] (M, nx) = zres (d_Mod_bestStack ([some (.ref a)], [], (M, nx))) := q_ofV [some (.ref a)] h rfl (Nat.le_of_ble_eq_true rfl) (Or.inr rfl)
theorem lc_Mod_bestStack_201 : lookI (eC E_Mod_bestStack) (.invokevirtual 201) = some (1, x_Mod_bestPlace) := rfl
theorem lf_Mod_bestStack_25 : lookN (eF E_Mod_bestStack) 25 = some (6, 6) := rfl
theorem lb_Mod_bestStack : eB E_Mod_bestStack = true := rfl
-- CoilSlitsModel.share
def E_Mod_share : Env := (true, [(7, 6, 0)], [], [], [], zST, false)
def d_Mod_share : Dn := (sq (blk E_Mod_share [.aload_n 0, .getfield 7, .bipush 9, .iaload, .aload_n 0, .getfield 7, .bipush 10, .iaload, .iadd, .aload_n 0, .getfield 7, .bipush 11, .iaload, .iadd, .istore_n 1])
  (sq (ite' (cno (cat E_Mod_share [.iload_n 1] (.ifCond .ne 7)))
  (blk E_Mod_share [.dconst 1])
  (blk E_Mod_share [.aload_n 0, .getfield 7, .bipush 9, .iaload, .i2d, .iload_n 1, .i2d, .ddiv]))
  (rtd E_Mod_share [])))
def x_Mod_share : Ex := zrv 6 (exb true 2 d_Mod_share)
abbrev r_Mod_share : Room := ({ frames := 0, cells := 0, slots := 0, locals := 0 } : Room)
theorem eo_Mod_share (hw : zWok w) (cx : CX w p s m args c b_Mod_share 2 "CoilSlitsModel") : EnvOk w true p l e r_Mod_share s m args below meth c Q b_Mod_share 2 "CoilSlitsModel" E_Mod_share :=
  ⟨rfl, by decide +kernel, by decide +kernel, by decide +kernel, hw, fun h => absurd h (by decide),
  fun q hq => absurd hq List.not_mem_nil⟩
theorem sn_Mod_share (h : MC w true p l e R s m args below meth c Q b_Mod_share 2 "CoilSlitsModel" E_Mod_share 0 0 F (some .double)) : Sn (zK w true p l e R s m args below meth c Q 2) F (fun _ => False) (fun _ => False) 0 0 0 d_Mod_share 0 0 0 := by
  unfold d_Mod_share
  exact (sn_sq (pm := 24) (m_blk h zz (by decide +kernel))
  (sn_sq (pm := 43) (sn_ite (pt := 28) (pf := 32) (sc_no (m_cat h zz (p1 := 25) (tgt := 32) (by decide +kernel) (by decide +kernel) (by decide)))
  (sn_goto (pm := 29) (m_blk h zz (by decide +kernel)) (m_goto h (off := 14) (by decide +kernel) (by decide)))
  (m_blk h zz (by decide +kernel)))
  (m_rtd h zz (p1 := 43) (by decide +kernel) (by decide +kernel) (Nat.zero_le _) (Nat.zero_le _))))
theorem ct_Mod_share (w : Wd) (l : Launch) (hw : zWok w) : CT w l y_Mod_share b_Mod_share 2 (some .double) r_Mod_share (exb true 2 d_Mod_share) :=
  ct_plain (by decide +kernel) (fun p e s m args below meth c Q cx hnm => eo_Mod_share hw cx) (fun p e s m args below meth c Q F h => sn_Mod_share h)
theorem q_Mod_share {a : Nat} {fs : List Value} {M : Hp} {nx : Nat}  (h : M a = some (cO 6 fs)) : x_Mod_share [.ref a] (M, nx) = zres (d_Mod_share ([some (.ref a), none], [], (M, nx))) := q_ofV [some (.ref a), none] h rfl (Nat.le_of_ble_eq_true rfl) (Or.inr rfl)
theorem lf_Mod_share_7 : lookN (eF E_Mod_share) 7 = some (6, 0) := rfl
theorem lb_Mod_share : eB E_Mod_share = true := rfl
theorem lt_Mod_share : eT E_Mod_share = zST := rfl
-- CoilSlitsModel.used
def E_Mod_used : Env := (true, [(25, 6, 6)], [(.invokevirtual 204, 1, x_Mod_share)], [], [], zST, false)
def d_Mod_used : Dn := (rtd E_Mod_used [.aload_n 0, .iconst 0, .putfield 25, .aload_n 0, .invokevirtual 204])
def x_Mod_used : Ex := zrv 6 (exb true 1 d_Mod_used)
abbrev r_Mod_used : Room := ({ frames := 1, cells := 0, slots := 0, locals := 21 } : Room)
theorem eo_Mod_used (hw : zWok w) (cx : CX w p s m args c b_Mod_used 1 "CoilSlitsModel") : EnvOk w true p l e r_Mod_used s m args below meth c Q b_Mod_used 1 "CoilSlitsModel" E_Mod_used :=
  ⟨rfl, by decide +kernel, by decide +kernel, by decide +kernel, hw, fun h => absurd h (by decide),
  List.forall_mem_cons.mpr ⟨call_V cx (ct_Mod_share w l hw) tw_1131 tw_1128 tw_8 tw_1130 tp_51 (ci := 6) (Nat.le_of_ble_eq_true rfl) rfl (by decide +kernel) ⟨Nat.le_of_ble_eq_true rfl, Nat.le_of_ble_eq_true rfl⟩, fun q hq => absurd hq List.not_mem_nil⟩⟩
theorem sn_Mod_used (h : MC w true p l e R s m args below meth c Q b_Mod_used 1 "CoilSlitsModel" E_Mod_used 0 0 F (some .double)) : Sn (zK w true p l e R s m args below meth c Q 1) F (fun _ => False) (fun _ => False) 0 0 0 d_Mod_used 0 0 0 := by
  unfold d_Mod_used
  exact (m_rtd h zz (p1 := 9) (by decide +kernel) (by decide +kernel) (Nat.zero_le _) (Nat.zero_le _))
theorem ct_Mod_used (w : Wd) (l : Launch) (hw : zWok w) : CT w l y_Mod_used b_Mod_used 1 (some .double) r_Mod_used (exb true 1 d_Mod_used) :=
  ct_plain (by decide +kernel) (fun p e s m args below meth c Q cx hnm => eo_Mod_used hw cx) (fun p e s m args below meth c Q F h => sn_Mod_used h)
theorem q_Mod_used {a : Nat} {fs : List Value} {M : Hp} {nx : Nat}  (h : M a = some (cO 6 fs)) : x_Mod_used [.ref a] (M, nx) = zres (d_Mod_used ([some (.ref a)], [], (M, nx))) := q_ofV [some (.ref a)] h rfl (Nat.le_of_ble_eq_true rfl) (Or.inr rfl)
theorem lc_Mod_used_204 : lookI (eC E_Mod_used) (.invokevirtual 204) = some (1, x_Mod_share) := rfl
theorem lf_Mod_used_25 : lookN (eF E_Mod_used) 25 = some (6, 6) := rfl
theorem lb_Mod_used : eB E_Mod_used = true := rfl
-- java/lang/Double.isNaN
def E_Dbl_isNaN : Env := (false, [], [], [], [], zST, false)
def d_Dbl_isNaN : Dn := (sq (ite' (cno (cat E_Dbl_isNaN [.dload_n 0, .dload_n 0, .dcmp .l] (.ifCond .eq 7)))
  (blk E_Dbl_isNaN [.iconst 1])
  (blk E_Dbl_isNaN [.iconst 0]))
  (rtz E_Dbl_isNaN []))
def x_Dbl_isNaN : Ex := exb false 2 d_Dbl_isNaN
abbrev r_Dbl_isNaN : Room := ({ frames := 0, cells := 0, slots := 0, locals := 0 } : Room)
theorem eo_Dbl_isNaN (hw : zWok w) (cx : CX w p s m args c b_Dbl_isNaN 2 "java/lang/Double") : EnvOk w false p l e r_Dbl_isNaN s m args below meth c Q b_Dbl_isNaN 2 "java/lang/Double" E_Dbl_isNaN :=
  ⟨rfl, by decide +kernel, by decide +kernel, by decide +kernel, hw, fun h => absurd h (by decide),
  fun q hq => absurd hq List.not_mem_nil⟩
theorem sn_Dbl_isNaN (h : MC w false p l e R s m args below meth c Q b_Dbl_isNaN 2 "java/lang/Double" E_Dbl_isNaN 0 0 F (some .boolean)) : Sn (zK w false p l e R s m args below meth c Q 2) F (fun _ => False) (fun _ => False) 0 0 0 d_Dbl_isNaN 0 0 0 := by
  unfold d_Dbl_isNaN
  exact (sn_sq (pm := 11) (sn_ite (pt := 6) (pf := 10) (sc_no (m_cat h zz (p1 := 3) (tgt := 10) (by decide +kernel) (by decide +kernel) (by decide)))
  (sn_goto (pm := 7) (m_blk h zz (by decide +kernel)) (m_goto h (off := 4) (by decide +kernel) (by decide)))
  (m_blk h zz (by decide +kernel)))
  (m_rtz h zz (p1 := 11) (by decide +kernel) (by decide +kernel) (Nat.zero_le _) (Nat.zero_le _)))
theorem ct_Dbl_isNaN (w : Wd) (l : Launch) (hw : zWok w) : CT w l y_Dbl_isNaN b_Dbl_isNaN 2 (some .boolean) r_Dbl_isNaN (exb false 2 d_Dbl_isNaN) :=
  ct_plain (by decide +kernel) (fun p e s m args below meth c Q cx hnm => eo_Dbl_isNaN hw cx) (fun p e s m args below meth c Q F h => sn_Dbl_isNaN h)
theorem q_Dbl_isNaN (x0 : UInt64) (g : G) : x_Dbl_isNaN [.double x0] g = zres (d_Dbl_isNaN ([some (.double x0), none], [], g)) := q_of [some (.double x0), none] rfl (Nat.le_of_ble_eq_true rfl) (Or.inl rfl)
theorem lb_Dbl_isNaN : eB E_Dbl_isNaN = false := rfl
-- java/lang/Double.doubleToLongBits
def E_Dbl_doubleToLongBits : Env := (false, [], [(.invokestatic 122, 1, x_Dbl_isNaN), (.invokestatic 134, 1, xRaw)], [(137, .long 9221120237041090560)], [], zST, false)
def d_Dbl_doubleToLongBits : Dn := (sq (ite' (cno (cat E_Dbl_doubleToLongBits [.dload_n 0, .invokestatic 122] (.ifCond .ne 8)))
  (rtl E_Dbl_doubleToLongBits [.dload_n 0, .invokestatic 134])
  (blk E_Dbl_doubleToLongBits []))
  (rtl E_Dbl_doubleToLongBits [.ldc2_w 137]))
def x_Dbl_doubleToLongBits : Ex := exb false 2 d_Dbl_doubleToLongBits
abbrev r_Dbl_doubleToLongBits : Room := ({ frames := 1, cells := 0, slots := 0, locals := 60 } : Room)
theorem eo_Dbl_doubleToLongBits (hw : zWok w) (cx : CX w p s m args c b_Dbl_doubleToLongBits 2 "java/lang/Double") : EnvOk w false p l e r_Dbl_doubleToLongBits s m args below meth c Q b_Dbl_doubleToLongBits 2 "java/lang/Double" E_Dbl_doubleToLongBits :=
  ⟨rfl, by decide +kernel, by decide +kernel, by decide +kernel, hw, fun h => absurd h (by decide),
  List.forall_mem_cons.mpr ⟨call_S cx (ct_Dbl_isNaN w l hw) tw_1143 tw_1141 tw_16 tw_1142 (by decide +kernel) ⟨Nat.le_of_ble_eq_true rfl, Nat.le_of_ble_eq_true rfl⟩, List.forall_mem_cons.mpr ⟨call_raw cx tw_1144 tw_1146 tw_1145 tw_16 ⟨Nat.le_of_ble_eq_true rfl, Nat.le_of_ble_eq_true rfl⟩, fun q hq => absurd hq List.not_mem_nil⟩⟩⟩
theorem sn_Dbl_doubleToLongBits (h : MC w false p l e R s m args below meth c Q b_Dbl_doubleToLongBits 2 "java/lang/Double" E_Dbl_doubleToLongBits 0 0 F (some .long)) : Sn (zK w false p l e R s m args below meth c Q 2) F (fun _ => False) (fun _ => False) 0 0 0 d_Dbl_doubleToLongBits 0 0 0 := by
  unfold d_Dbl_doubleToLongBits
  exact (sn_sq (pm := 12) (sn_ite (pt := 7) (pf := 12) (sc_no (m_cat h zz (p1 := 4) (tgt := 12) (by decide +kernel) (by decide +kernel) (by decide)))
  (m_rtl h zz (p1 := 11) (by decide +kernel) (by decide +kernel) (Nat.zero_le _) (Nat.zero_le _))
  (m_blk h zz rfl))
  (m_rtl h zz (p1 := 15) (by decide +kernel) (by decide +kernel) (Nat.zero_le _) (Nat.zero_le _)))
theorem ct_Dbl_doubleToLongBits (w : Wd) (l : Launch) (hw : zWok w) : CT w l y_Dbl_doubleToLongBits b_Dbl_doubleToLongBits 2 (some .long) r_Dbl_doubleToLongBits (exb false 2 d_Dbl_doubleToLongBits) :=
  ct_plain (by decide +kernel) (fun p e s m args below meth c Q cx hnm => eo_Dbl_doubleToLongBits hw cx) (fun p e s m args below meth c Q F h => sn_Dbl_doubleToLongBits h)
theorem q_Dbl_doubleToLongBits (x0 : UInt64) (g : G) : x_Dbl_doubleToLongBits [.double x0] g = zres (d_Dbl_doubleToLongBits ([some (.double x0), none], [], g)) := q_of [some (.double x0), none] rfl (Nat.le_of_ble_eq_true rfl) (Or.inl rfl)
theorem lc_Dbl_doubleToLongBits_122 : lookI (eC E_Dbl_doubleToLongBits) (.invokestatic 122) = some (1, x_Dbl_isNaN) := rfl
theorem lc_Dbl_doubleToLongBits_134 : lookI (eC E_Dbl_doubleToLongBits) (.invokestatic 134) = some (1, xRaw) := rfl
theorem lk_Dbl_doubleToLongBits_137 : lookN (eK E_Dbl_doubleToLongBits) 137 = some (.long 9221120237041090560) := rfl
theorem lb_Dbl_doubleToLongBits : eB E_Dbl_doubleToLongBits = false := rfl
-- CoilSlitsModel.digest
def E_Mod_digest : Env := (false, [(25, 6, 6), (7, 6, 0), (134, 6, 5), (19, 6, 4)], [(.invokevirtual 182, 2, x_Mod_counted), (.invokevirtual 170, 2, x_Mod_coilAt), (.invokestatic 40, 2, x_Mod_isAt), (.invokevirtual 173, 3, x_Mod_ofCoil), (.invokevirtual 176, 3, x_Mod_ofOrder), (.invokevirtual 185, 2, x_Mod_choiceFor), (.invokestatic 48, 3, x_Mod_by), (.invokevirtual 191, 4, x_Mod_byServing), (.invokevirtual 195, 1, x_Mod_best), (.invokevirtual 201, 1, x_Mod_bestPlace), (.invokevirtual 204, 1, x_Mod_share), (.invokestatic 212, 1, x_Dbl_doubleToLongBits)], [(208, .long 2879), (210, .long 31)], [], zST, false)
def d_Mod_digest : Dn := (sq (blk E_Mod_digest [.aload_n 0, .iconst 0, .putfield 25, .ldc2_w 208, .lstore_n 1, .iconst 0, .istore_n 3])
  (sq (lop (cfo [4] (cno (cat E_Mod_digest [.iload_n 3, .bipush 14] (.if_icmp .ge 22))))
  (blk E_Mod_digest [.ldc2_w 210, .lload_n 1, .lmul, .aload_n 0, .iload_n 3, .invokevirtual 182, .i2l, .ladd, .lstore_n 1, .iinc 3 1])
  (blk E_Mod_digest []) zFU)
  (sq (blk E_Mod_digest [.iconst 0, .istore_n 3])
  (sq (lop (cfo [4] (cno (cat E_Mod_digest [.iload_n 3, .iconst 4] (.if_icmp .ge 23))))
  (blk E_Mod_digest [.ldc2_w 210, .lload_n 1, .lmul, .aload_n 0, .getfield 7, .iload_n 3, .iaload, .i2l, .ladd, .lstore_n 1, .iinc 3 1])
  (blk E_Mod_digest []) zFU)
  (sq (blk E_Mod_digest [.iconst 0, .istore_n 3])
  (sq (lop (cfo [4] (cno (cat E_Mod_digest [.iload_n 3, .bipush 30] (.if_icmp .ge 64))))
  (sq (blk E_Mod_digest [.ldc2_w 210, .lload_n 1, .lmul, .aload_n 0, .iload_n 3, .invokevirtual 170, .i2l, .ladd, .lstore_n 1, .iconst 0, .istore 4])
  (sq (lop (can (cno (cat E_Mod_digest [.iload 4, .bipush 6] (.if_icmp .ge 35))) (cno (cat E_Mod_digest [.aload_n 0, .getfield 7, .iload_n 3, .invokestatic 40] (.ifCond .eq 24))))
  (blk E_Mod_digest [.ldc2_w 210, .lload_n 1, .lmul, .aload_n 0, .iload_n 3, .iload 4, .invokevirtual 173, .i2l, .ladd, .lstore_n 1, .iinc 4 1])
  (blk E_Mod_digest []) zFU)
  (blk E_Mod_digest [.iinc 3 1])))
  (blk E_Mod_digest []) zFU)
  (sq (blk E_Mod_digest [.iconst 0, .istore_n 3])
  (sq (lop (cfo [4] (cno (cat E_Mod_digest [.iload_n 3, .aload_n 0, .getfield 7, .bipush 15, .iaload] (.if_icmp .ge 98))))
  (sq (blk E_Mod_digest [.iconst 0, .istore 4])
  (sq (lop (cno (cat E_Mod_digest [.iload 4, .bipush 8] (.if_icmp .ge 24)))
  (blk E_Mod_digest [.ldc2_w 210, .lload_n 1, .lmul, .aload_n 0, .iload_n 3, .iload 4, .invokevirtual 176, .i2l, .ladd, .lstore_n 1, .iinc 4 1])
  (blk E_Mod_digest []) zFU)
  (sq (blk E_Mod_digest [.ldc2_w 210, .lload_n 1, .lmul, .aload_n 0, .iload_n 3, .invokevirtual 185, .i2l, .ladd, .lstore_n 1, .iconst 0, .istore 4])
  (sq (lop (cno (cat E_Mod_digest [.iload 4, .bipush 8] (.if_icmp .ge 38)))
  (blk E_Mod_digest [.ldc2_w 210, .lload_n 1, .lmul, .aload_n 0, .aload_n 0, .getfield 7, .iload_n 3, .iconst 0, .invokestatic 48, .iload 4, .iconst 4, .idiv, .iload 4, .iconst 4, .irem, .invokevirtual 191, .i2l, .ladd, .lstore_n 1, .iinc 4 1])
  (blk E_Mod_digest []) zFU)
  (blk E_Mod_digest [.iinc 3 1])))))
  (blk E_Mod_digest []) zFU)
  (sq (blk E_Mod_digest [.ldc2_w 210, .ldc2_w 210, .lload_n 1, .lmul, .aload_n 0, .invokevirtual 195, .i2l, .ladd, .lmul, .aload_n 0, .invokevirtual 201, .i2l, .ladd, .lstore_n 1, .ldc2_w 210, .ldc2_w 210, .lload_n 1, .lmul, .aload_n 0, .invokevirtual 204, .invokestatic 212, .ladd, .lmul, .aload_n 0, .getfield 134, .i2l, .ladd, .lstore_n 1, .iconst 0, .istore_n 3])
  (sq (lop (cfo [4] (cno (cat E_Mod_digest [.iload_n 3, .aload_n 0, .getfield 134] (.if_icmp .ge 23))))
  (blk E_Mod_digest [.ldc2_w 210, .lload_n 1, .lmul, .aload_n 0, .getfield 19, .iload_n 3, .iaload, .i2l, .ladd, .lstore_n 1, .iinc 3 1])
  (blk E_Mod_digest []) zFU)
  (rtl E_Mod_digest [.lload_n 1])))))))))))
def x_Mod_digest : Ex := zrv 6 (exb false 5 d_Mod_digest)
abbrev r_Mod_digest : Room := ({ frames := 8, cells := 0, slots := 0, locals := 189 } : Room)
theorem eo_Mod_digest (hw : zWok w) (cx : CX w p s m args c b_Mod_digest 5 "CoilSlitsModel") : EnvOk w false p l e r_Mod_digest s m args below meth c Q b_Mod_digest 5 "CoilSlitsModel" E_Mod_digest :=
  ⟨rfl, by decide +kernel, by decide +kernel, by decide +kernel, hw, fun h => absurd h (by decide),
  List.forall_mem_cons.mpr ⟨call_V cx (ct_Mod_counted w l hw) tw_1075 tw_1072 tw_8 tw_1074 tp_43 (ci := 6) (Nat.le_of_ble_eq_true rfl) rfl (by decide +kernel) ⟨Nat.le_of_ble_eq_true rfl, Nat.le_of_ble_eq_true rfl⟩, List.forall_mem_cons.mpr ⟨call_V cx (ct_Mod_coilAt w l hw) tw_1047 tw_1044 tw_8 tw_1046 tp_40 (ci := 6) (Nat.le_of_ble_eq_true rfl) rfl (by decide +kernel) ⟨Nat.le_of_ble_eq_true rfl, Nat.le_of_ble_eq_true rfl⟩, List.forall_mem_cons.mpr ⟨call_S cx (ct_Mod_isAt w l hw) tw_912 tw_910 tw_8 tw_911 (by decide +kernel) ⟨Nat.le_of_ble_eq_true rfl, Nat.le_of_ble_eq_true rfl⟩, List.forall_mem_cons.mpr ⟨call_V cx (ct_Mod_ofCoil w l hw) tw_1055 tw_1052 tw_8 tw_1054 tp_41 (ci := 6) (Nat.le_of_ble_eq_true rfl) rfl (by decide +kernel) ⟨Nat.le_of_ble_eq_true rfl, Nat.le_of_ble_eq_true rfl⟩, List.forall_mem_cons.mpr ⟨call_V cx (ct_Mod_ofOrder w l hw) tw_1063 tw_1060 tw_8 tw_1062 tp_42 (ci := 6) (Nat.le_of_ble_eq_true rfl) rfl (by decide +kernel) ⟨Nat.le_of_ble_eq_true rfl, Nat.le_of_ble_eq_true rfl⟩, List.forall_mem_cons.mpr ⟨call_V cx (ct_Mod_choiceFor w l hw) tw_1091 tw_1088 tw_8 tw_1090 tp_45 (ci := 6) (Nat.le_of_ble_eq_true rfl) rfl (by decide +kernel) ⟨Nat.le_of_ble_eq_true rfl, Nat.le_of_ble_eq_true rfl⟩, List.forall_mem_cons.mpr ⟨call_S cx (ct_Mod_by w l hw) tw_946 tw_944 tw_8 tw_945 (by decide +kernel) ⟨Nat.le_of_ble_eq_true rfl, Nat.le_of_ble_eq_true rfl⟩, List.forall_mem_cons.mpr ⟨call_V cx (ct_Mod_byServing w l hw) tw_1099 tw_1096 tw_8 tw_1098 tp_46 (ci := 6) (Nat.le_of_ble_eq_true rfl) rfl (by decide +kernel) ⟨Nat.le_of_ble_eq_true rfl, Nat.le_of_ble_eq_true rfl⟩, List.forall_mem_cons.mpr ⟨call_V cx (ct_Mod_best w l hw) tw_1111 tw_1108 tw_8 tw_1110 tp_48 (ci := 6) (Nat.le_of_ble_eq_true rfl) rfl (by decide +kernel) ⟨Nat.le_of_ble_eq_true rfl, Nat.le_of_ble_eq_true rfl⟩, List.forall_mem_cons.mpr ⟨call_V cx (ct_Mod_bestPlace w l hw) tw_1119 tw_1116 tw_8 tw_1118 tp_49 (ci := 6) (Nat.le_of_ble_eq_true rfl) rfl (by decide +kernel) ⟨Nat.le_of_ble_eq_true rfl, Nat.le_of_ble_eq_true rfl⟩, List.forall_mem_cons.mpr ⟨call_V cx (ct_Mod_share w l hw) tw_1131 tw_1128 tw_8 tw_1130 tp_51 (ci := 6) (Nat.le_of_ble_eq_true rfl) rfl (by decide +kernel) ⟨Nat.le_of_ble_eq_true rfl, Nat.le_of_ble_eq_true rfl⟩, List.forall_mem_cons.mpr ⟨call_S cx (ct_Dbl_doubleToLongBits w l hw) tw_1140 tw_1138 tw_16 tw_1139 (by decide +kernel) ⟨Nat.le_of_ble_eq_true rfl, Nat.le_of_ble_eq_true rfl⟩, fun q hq => absurd hq List.not_mem_nil⟩⟩⟩⟩⟩⟩⟩⟩⟩⟩⟩⟩⟩
theorem sn_Mod_digest (h : MC w false p l e R s m args below meth c Q b_Mod_digest 5 "CoilSlitsModel" E_Mod_digest 0 0 F (some .long)) : Sn (zK w false p l e R s m args below meth c Q 5) F (fun _ => False) (fun _ => False) 0 0 0 d_Mod_digest 0 0 0 := by
  unfold d_Mod_digest
  exact (sn_sq (pm := 11) (m_blk h zz (by decide +kernel))
  (sn_sq (pm := 36) (sn_lop (pt := 17) (pu := 33) (p2 := 33) (px := 36) (kb2 := fun _ => False) (kc2 := fun _ => False) (sc_fo m_fo (sc_no (m_cat h zz (p1 := 14) (tgt := 36) (by decide +kernel) (by decide +kernel) (by decide))))
  (m_blk h zz (by decide +kernel))
  (m_blk h zz rfl) (m_goto h (off := (-22)) (by decide +kernel) (by decide)) zFU)
  (sn_sq (pm := 38) (m_blk h zz (by decide +kernel))
  (sn_sq (pm := 63) (sn_lop (pt := 43) (pu := 60) (p2 := 60) (px := 63) (kb2 := fun _ => False) (kc2 := fun _ => False) (sc_fo m_fo (sc_no (m_cat h zz (p1 := 40) (tgt := 63) (by decide +kernel) (by decide +kernel) (by decide))))
  (m_blk h zz (by decide +kernel))
  (m_blk h zz rfl) (m_goto h (off := (-22)) (by decide +kernel) (by decide)) zFU)
  (sn_sq (pm := 65) (m_blk h zz (by decide +kernel))
  (sn_sq (pm := 132) (sn_lop (pt := 71) (pu := 129) (p2 := 129) (px := 132) (kb2 := fun _ => False) (kc2 := fun _ => False) (sc_fo m_fo (sc_no (m_cat h zz (p1 := 68) (tgt := 132) (by decide +kernel) (by decide +kernel) (by decide))))
  (sn_sq (pm := 87) (m_blk h zz (by decide +kernel))
  (sn_sq (pm := 126) (sn_lop (pt := 105) (pu := 123) (p2 := 123) (px := 126) (kb2 := fun _ => False) (kc2 := fun _ => False) (sc_an (pm := 94) (sc_no (m_cat h zz (p1 := 91) (tgt := 126) (by decide +kernel) (by decide +kernel) (by decide))) (sc_no (m_cat h zz (p1 := 102) (tgt := 126) (by decide +kernel) (by decide +kernel) (by decide))))
  (m_blk h zz (by decide +kernel))
  (m_blk h zz rfl) (m_goto h (off := (-36)) (by decide +kernel) (by decide)) zFU)
  (m_blk h zz (by decide +kernel))))
  (m_blk h zz rfl) (m_goto h (off := (-64)) (by decide +kernel) (by decide)) zFU)
  (sn_sq (pm := 134) (m_blk h zz (by decide +kernel))
  (sn_sq (pm := 240) (sn_lop (pt := 145) (pu := 237) (p2 := 237) (px := 240) (kb2 := fun _ => False) (kc2 := fun _ => False) (sc_fo m_fo (sc_no (m_cat h zz (p1 := 142) (tgt := 240) (by decide +kernel) (by decide +kernel) (by decide))))
  (sn_sq (pm := 148) (m_blk h zz (by decide +kernel))
  (sn_sq (pm := 176) (sn_lop (pt := 155) (pu := 173) (p2 := 173) (px := 176) (kb2 := fun _ => False) (kc2 := fun _ => False) (sc_no (m_cat h zz (p1 := 152) (tgt := 176) (by decide +kernel) (by decide +kernel) (by decide)))
  (m_blk h zz (by decide +kernel))
  (m_blk h zz rfl) (m_goto h (off := (-25)) (by decide +kernel) (by decide)) zFU)
  (sn_sq (pm := 192) (m_blk h zz (by decide +kernel))
  (sn_sq (pm := 234) (sn_lop (pt := 199) (pu := 231) (p2 := 231) (px := 234) (kb2 := fun _ => False) (kc2 := fun _ => False) (sc_no (m_cat h zz (p1 := 196) (tgt := 234) (by decide +kernel) (by decide +kernel) (by decide)))
  (m_blk h zz (by decide +kernel))
  (m_blk h zz rfl) (m_goto h (off := (-39)) (by decide +kernel) (by decide)) zFU)
  (m_blk h zz (by decide +kernel))))))
  (m_blk h zz rfl) (m_goto h (off := (-103)) (by decide +kernel) (by decide)) zFU)
  (sn_sq (pm := 288) (m_blk h zz (by decide +kernel))
  (sn_sq (pm := 316) (sn_lop (pt := 296) (pu := 313) (p2 := 313) (px := 316) (kb2 := fun _ => False) (kc2 := fun _ => False) (sc_fo m_fo (sc_no (m_cat h zz (p1 := 293) (tgt := 316) (by decide +kernel) (by decide +kernel) (by decide))))
  (m_blk h zz (by decide +kernel))
  (m_blk h zz rfl) (m_goto h (off := (-25)) (by decide +kernel) (by decide)) zFU)
  (m_rtl h zz (p1 := 317) (by decide +kernel) (by decide +kernel) (Nat.zero_le _) (Nat.zero_le _))))))))))))
theorem ct_Mod_digest (w : Wd) (l : Launch) (hw : zWok w) : CT w l y_Mod_digest b_Mod_digest 5 (some .long) r_Mod_digest (exb false 5 d_Mod_digest) :=
  ct_plain (by decide +kernel) (fun p e s m args below meth c Q cx hnm => eo_Mod_digest hw cx) (fun p e s m args below meth c Q F h => sn_Mod_digest h)
theorem q_Mod_digest {a : Nat} {fs : List Value} {M : Hp} {nx : Nat}  (h : M a = some (cO 6 fs)) : x_Mod_digest [.ref a] (M, nx) = zres (d_Mod_digest ([some (.ref a), none, none, none, none], [], (M, nx))) := q_ofV [some (.ref a), none, none, none, none] h rfl (Nat.le_of_ble_eq_true rfl) (Or.inl rfl)
theorem lc_Mod_digest_182 : lookI (eC E_Mod_digest) (.invokevirtual 182) = some (2, x_Mod_counted) := rfl
theorem lc_Mod_digest_170 : lookI (eC E_Mod_digest) (.invokevirtual 170) = some (2, x_Mod_coilAt) := rfl
theorem lc_Mod_digest_40 : lookI (eC E_Mod_digest) (.invokestatic 40) = some (2, x_Mod_isAt) := rfl
theorem lc_Mod_digest_173 : lookI (eC E_Mod_digest) (.invokevirtual 173) = some (3, x_Mod_ofCoil) := rfl
theorem lc_Mod_digest_176 : lookI (eC E_Mod_digest) (.invokevirtual 176) = some (3, x_Mod_ofOrder) := rfl
theorem lc_Mod_digest_185 : lookI (eC E_Mod_digest) (.invokevirtual 185) = some (2, x_Mod_choiceFor) := rfl
theorem lc_Mod_digest_48 : lookI (eC E_Mod_digest) (.invokestatic 48) = some (3, x_Mod_by) := rfl
theorem lc_Mod_digest_191 : lookI (eC E_Mod_digest) (.invokevirtual 191) = some (4, x_Mod_byServing) := rfl
theorem lc_Mod_digest_195 : lookI (eC E_Mod_digest) (.invokevirtual 195) = some (1, x_Mod_best) := rfl
theorem lc_Mod_digest_201 : lookI (eC E_Mod_digest) (.invokevirtual 201) = some (1, x_Mod_bestPlace) := rfl
theorem lc_Mod_digest_204 : lookI (eC E_Mod_digest) (.invokevirtual 204) = some (1, x_Mod_share) := rfl
theorem lc_Mod_digest_212 : lookI (eC E_Mod_digest) (.invokestatic 212) = some (1, x_Dbl_doubleToLongBits) := rfl
theorem lf_Mod_digest_25 : lookN (eF E_Mod_digest) 25 = some (6, 6) := rfl
theorem lf_Mod_digest_7 : lookN (eF E_Mod_digest) 7 = some (6, 0) := rfl
theorem lf_Mod_digest_134 : lookN (eF E_Mod_digest) 134 = some (6, 5) := rfl
theorem lf_Mod_digest_19 : lookN (eF E_Mod_digest) 19 = some (6, 4) := rfl
theorem lk_Mod_digest_208 : lookN (eK E_Mod_digest) 208 = some (.long 2879) := rfl
theorem lk_Mod_digest_210 : lookN (eK E_Mod_digest) 210 = some (.long 31) := rfl
theorem lb_Mod_digest : eB E_Mod_digest = false := rfl
theorem lt_Mod_digest : eT E_Mod_digest = zST := rfl
end
