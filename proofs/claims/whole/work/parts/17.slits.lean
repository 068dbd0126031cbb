section
variable {w : Wd} {p : Program} {l : Launch} {e : Jvm.Env} {s : State} {m : MethodId} {args : Array Value} {below : List Frame} {meth : Method} {c : Code} {Q : State → Prop} {F : Out → G → Prop} {R : Room}
-- CoilSlits$History.stateAt
def E_Hist_stateAt : Env := (true, [(11, 3, 0)], [], [], [], zST, false)
def d_Hist_stateAt : Dn := (sq (ite' (can (cno (cat E_Hist_stateAt [.iload_n 1] (.ifCond .lt 21))) (cno (cat E_Hist_stateAt [.iload_n 1, .aload_n 0, .getfield 11, .arraylength] (.if_icmp .ge 12))))
  (blk E_Hist_stateAt [.aload_n 0, .getfield 11, .iload_n 1, .aaload])
  (blk E_Hist_stateAt [.aconst_null]))
  (rta E_Hist_stateAt []))
def x_Hist_stateAt : Ex := zrv 3 (exb true 2 d_Hist_stateAt)
abbrev r_Hist_stateAt : Room := ({ frames := 0, cells := 0, slots := 0, locals := 0 } : Room)
theorem eo_Hist_stateAt (hw : zWok w) (cx : CX w p s m args c b_Hist_stateAt 2 "CoilSlits$History") : EnvOk w true p l e r_Hist_stateAt s m args below meth c Q b_Hist_stateAt 2 "CoilSlits$History" E_Hist_stateAt :=
  ⟨rfl, by decide +kernel, by decide +kernel, by decide +kernel, hw, fun h => absurd h (by decide),
  fun q hq => absurd hq List.not_mem_nil⟩
theorem sn_Hist_stateAt (h : MC w true p l e R s m args below meth c Q b_Hist_stateAt 2 "CoilSlits$History" E_Hist_stateAt 0 0 F (some (.object "CoilSlits$Yard"))) : Sn (zK w true p l e R s m args below meth c Q 2) F (fun _ => False) (fun _ => False) 0 0 0 d_Hist_stateAt 0 0 0 := by
  unfold d_Hist_stateAt
  exact (sn_sq (pm := 23) (sn_ite (pt := 13) (pf := 22) (sc_an (pm := 4) (sc_no (m_cat h zz (p1 := 1) (tgt := 22) (by decide +kernel) (by decide +kernel) (by decide))) (sc_no (m_cat h zz (p1 := 10) (tgt := 22) (by decide +kernel) (by decide +kernel) (by decide))))
  (sn_goto (pm := 19) (m_blk h zz (by decide +kernel)) (m_goto h (off := 4) (by decide +kernel) (by decide)))
  (m_blk h zz (by decide +kernel)))
  (m_rta h zz (p1 := 23) (by decide +kernel) (by decide +kernel) (Nat.zero_le _) (Nat.zero_le _)))
theorem ct_Hist_stateAt (w : Wd) (l : Launch) (hw : zWok w) : CT w l y_Hist_stateAt b_Hist_stateAt 2 (some (.object "CoilSlits$Yard")) r_Hist_stateAt (exb true 2 d_Hist_stateAt) :=
  ct_plain (by decide +kernel) (fun p e s m args below meth c Q cx hnm => eo_Hist_stateAt hw cx) (fun p e s m args below meth c Q F h => sn_Hist_stateAt h)
theorem q_Hist_stateAt {a : Nat} {fs : List Value} {M : Hp} {nx : Nat} (x0 : Int32) (h : M a = some (cO 3 fs)) : x_Hist_stateAt [.ref a, .int x0] (M, nx) = zres (d_Hist_stateAt ([some (.ref a), some (.int x0)], [], (M, nx))) := q_ofV [some (.ref a), some (.int x0)] h rfl (Nat.le_of_ble_eq_true rfl) (Or.inr rfl)
theorem lf_Hist_stateAt_11 : lookN (eF E_Hist_stateAt) 11 = some (3, 0) := rfl
theorem lb_Hist_stateAt : eB E_Hist_stateAt = true := rfl
theorem lt_Hist_stateAt : eT E_Hist_stateAt = zST := rfl
-- CoilSlits$History.save
def E_Hist_save : Env := (true, [(22, 3, 1), (18, 3, 2)], [(.invokevirtual 25, 2, x_Hist_stateAt), (.invokevirtual 29, 2, x_Yard_copyFrom), (.invokestatic 33, 2, xMin)], [], [], zST, false)
def d_Hist_save : Dn := (sq (blk E_Hist_save [.aload_n 0, .aload_n 0, .getfield 22, .invokevirtual 25, .astore_n 2])
  (sq (ite' (cno (cat E_Hist_save [.aload_n 2] (.ifnull 8)))
  (blk E_Hist_save [.aload_n 2, .aload_n 1, .invokevirtual 29])
  (blk E_Hist_save []))
  (rtv E_Hist_save [.aload_n 0, .aload_n 0, .getfield 22, .iconst 1, .iadd, .bipush 6, .irem, .putfield 22, .aload_n 0, .aload_n 0, .getfield 18, .iconst 1, .iadd, .bipush 6, .invokestatic 33, .putfield 18])))
def x_Hist_save : Ex := zrv 3 (exb true 3 d_Hist_save)
abbrev r_Hist_save : Room := ({ frames := 3, cells := 0, slots := 0, locals := 103 } : Room)
theorem eo_Hist_save (hw : zWok w) (cx : CX w p s m args c b_Hist_save 3 "CoilSlits$History") : EnvOk w true p l e r_Hist_save s m args below meth c Q b_Hist_save 3 "CoilSlits$History" E_Hist_save :=
  ⟨rfl, by decide +kernel, by decide +kernel, by decide +kernel, hw, fun h => absurd h (by decide),
  List.forall_mem_cons.mpr ⟨call_V cx (ct_Hist_stateAt w l hw) tw_167 tw_164 tw_6 tw_166 tp_0 (ci := 3) (Nat.le_of_ble_eq_true rfl) rfl (by decide +kernel) ⟨Nat.le_of_ble_eq_true rfl, Nat.le_of_ble_eq_true rfl⟩, List.forall_mem_cons.mpr ⟨call_V cx (ct_Yard_copyFrom w l hw) tw_171 tw_168 tw_2 tw_169 tw_170 (ci := 2) (Nat.le_of_ble_eq_true rfl) rfl (by decide +kernel) ⟨Nat.le_of_ble_eq_true rfl, Nat.le_of_ble_eq_true rfl⟩, List.forall_mem_cons.mpr ⟨call_min cx tw_188 tw_177 tw_4 tw_xMin ⟨Nat.le_of_ble_eq_true rfl, Nat.le_of_ble_eq_true rfl⟩, fun q hq => absurd hq List.not_mem_nil⟩⟩⟩⟩
theorem sn_Hist_save (h : MC w true p l e R s m args below meth c Q b_Hist_save 3 "CoilSlits$History" E_Hist_save 0 0 F none) : Sn (zK w true p l e R s m args below meth c Q 3) F (fun _ => False) (fun _ => False) 0 0 0 d_Hist_save 0 0 0 := by
  unfold d_Hist_save
  exact (sn_sq (pm := 9) (m_blk h zz (by decide +kernel))
  (sn_sq (pm := 18) (sn_ite (pt := 13) (pf := 18) (sc_no (m_cat h zz (p1 := 10) (tgt := 18) (by decide +kernel) (by decide +kernel) (by decide)))
  (m_blk h zz (by decide +kernel))
  (m_blk h zz rfl))
  (m_rtv h zz (p1 := 46) (by decide +kernel) (by decide +kernel) (Nat.zero_le _) (Nat.zero_le _))))
theorem ct_Hist_save (w : Wd) (l : Launch) (hw : zWok w) : CT w l y_Hist_save b_Hist_save 3 none r_Hist_save (exb true 3 d_Hist_save) :=
  ct_plain (by decide +kernel) (fun p e s m args below meth c Q cx hnm => eo_Hist_save hw cx) (fun p e s m args below meth c Q F h => sn_Hist_save h)
theorem q_Hist_save {a : Nat} {fs : List Value} {M : Hp} {nx : Nat} (x0 : Nat) (h : M a = some (cO 3 fs)) : x_Hist_save [.ref a, .ref x0] (M, nx) = zres (d_Hist_save ([some (.ref a), some (.ref x0), none], [], (M, nx))) := q_ofV [some (.ref a), some (.ref x0), none] h rfl (Nat.le_of_ble_eq_true rfl) (Or.inr rfl)
theorem lc_Hist_save_25 : lookI (eC E_Hist_save) (.invokevirtual 25) = some (2, x_Hist_stateAt) := rfl
theorem lc_Hist_save_29 : lookI (eC E_Hist_save) (.invokevirtual 29) = some (2, x_Yard_copyFrom) := rfl
theorem lc_Hist_save_33 : lookI (eC E_Hist_save) (.invokestatic 33) = some (2, xMin) := rfl
theorem lf_Hist_save_22 : lookN (eF E_Hist_save) 22 = some (3, 1) := rfl
theorem lf_Hist_save_18 : lookN (eF E_Hist_save) 18 = some (3, 2) := rfl
theorem lb_Hist_save : eB E_Hist_save = true := rfl
-- CoilSlits.serveAll
def E_Slit_serveAll : Env := (true, [(22, 5, 2), (12, 5, 0)], [(.invokevirtual 70, 2, x_Hist_save), (.invokevirtual 148, 1, x_Yard_fulfilEach)], [], [], zST, false)
def d_Slit_serveAll : Dn := (rti E_Slit_serveAll [.aload_n 0, .getfield 22, .aload_n 0, .getfield 12, .invokevirtual 70, .aload_n 0, .getfield 12, .invokevirtual 148])
def x_Slit_serveAll : Ex := zrv 5 (exb true 1 d_Slit_serveAll)
abbrev r_Slit_serveAll : Room := ({ frames := 6, cells := 0, slots := 0, locals := 183 } : Room)
theorem eo_Slit_serveAll (hw : zWok w) (cx : CX w p s m args c b_Slit_serveAll 1 "CoilSlits") : EnvOk w true p l e r_Slit_serveAll s m args below meth c Q b_Slit_serveAll 1 "CoilSlits" E_Slit_serveAll :=
  ⟨rfl, by decide +kernel, by decide +kernel, by decide +kernel, hw, fun h => absurd h (by decide),
  List.forall_mem_cons.mpr ⟨call_V cx (ct_Hist_save w l hw) tw_163 tw_160 tw_6 tw_161 tw_162 (ci := 3) (Nat.le_of_ble_eq_true rfl) rfl (by decide +kernel) ⟨Nat.le_of_ble_eq_true rfl, Nat.le_of_ble_eq_true rfl⟩, List.forall_mem_cons.mpr ⟨call_V cx (ct_Yard_fulfilEach w l hw) tw_192 tw_189 tw_2 tw_190 tw_191 (ci := 2) (Nat.le_of_ble_eq_true rfl) rfl (by decide +kernel) ⟨Nat.le_of_ble_eq_true rfl, Nat.le_of_ble_eq_true rfl⟩, fun q hq => absurd hq List.not_mem_nil⟩⟩⟩
theorem sn_Slit_serveAll (h : MC w true p l e R s m args below meth c Q b_Slit_serveAll 1 "CoilSlits" E_Slit_serveAll 0 0 F (some .int)) : Sn (zK w true p l e R s m args below meth c Q 1) F (fun _ => False) (fun _ => False) 0 0 0 d_Slit_serveAll 0 0 0 := by
  unfold d_Slit_serveAll
  exact (m_rti h zz (p1 := 18) (by decide +kernel) (by decide +kernel) (Nat.zero_le _) (Nat.zero_le _))
theorem ct_Slit_serveAll (w : Wd) (l : Launch) (hw : zWok w) : CT w l y_Slit_serveAll b_Slit_serveAll 1 (some .int) r_Slit_serveAll (exb true 1 d_Slit_serveAll) :=
  ct_plain (by decide +kernel) (fun p e s m args below meth c Q cx hnm => eo_Slit_serveAll hw cx) (fun p e s m args below meth c Q F h => sn_Slit_serveAll h)
theorem q_Slit_serveAll {a : Nat} {fs : List Value} {M : Hp} {nx : Nat}  (h : M a = some (cO 5 fs)) : x_Slit_serveAll [.ref a] (M, nx) = zres (d_Slit_serveAll ([some (.ref a)], [], (M, nx))) := q_ofV [some (.ref a)] h rfl (Nat.le_of_ble_eq_true rfl) (Or.inr rfl)
theorem lc_Slit_serveAll_70 : lookI (eC E_Slit_serveAll) (.invokevirtual 70) = some (2, x_Hist_save) := rfl
theorem lc_Slit_serveAll_148 : lookI (eC E_Slit_serveAll) (.invokevirtual 148) = some (1, x_Yard_fulfilEach) := rfl
theorem lf_Slit_serveAll_22 : lookN (eF E_Slit_serveAll) 22 = some (5, 2) := rfl
theorem lf_Slit_serveAll_12 : lookN (eF E_Slit_serveAll) 12 = some (5, 0) := rfl
theorem lb_Slit_serveAll : eB E_Slit_serveAll = true := rfl
-- CoilSlits.clearBuffer
def E_Slit_clearBuffer : Env := (true, [(174, 5, 5)], [], [], [], zST, false)
def d_Slit_clearBuffer : Dn := (rti E_Slit_clearBuffer [.aload_n 0, .getfield 174, .istore_n 1, .aload_n 0, .iconst 0, .putfield 174, .iload_n 1])
def x_Slit_clearBuffer : Ex := zrv 5 (exb true 2 d_Slit_clearBuffer)
abbrev r_Slit_clearBuffer : Room := ({ frames := 0, cells := 0, slots := 0, locals := 0 } : Room)
theorem eo_Slit_clearBuffer (hw : zWok w) (cx : CX w p s m args c b_Slit_clearBuffer 2 "CoilSlits") : EnvOk w true p l e r_Slit_clearBuffer s m args below meth c Q b_Slit_clearBuffer 2 "CoilSlits" E_Slit_clearBuffer :=
  ⟨rfl, by decide +kernel, by decide +kernel, by decide +kernel, hw, fun h => absurd h (by decide),
  fun q hq => absurd hq List.not_mem_nil⟩
theorem sn_Slit_clearBuffer (h : MC w true p l e R s m args below meth c Q b_Slit_clearBuffer 2 "CoilSlits" E_Slit_clearBuffer 0 0 F (some .int)) : Sn (zK w true p l e R s m args below meth c Q 2) F (fun _ => False) (fun _ => False) 0 0 0 d_Slit_clearBuffer 0 0 0 := by
  unfold d_Slit_clearBuffer
  exact (m_rti h zz (p1 := 11) (by decide +kernel) (by decide +kernel) (Nat.zero_le _) (Nat.zero_le _))
theorem ct_Slit_clearBuffer (w : Wd) (l : Launch) (hw : zWok w) : CT w l y_Slit_clearBuffer b_Slit_clearBuffer 2 (some .int) r_Slit_clearBuffer (exb true 2 d_Slit_clearBuffer) :=
  ct_plain (by decide +kernel) (fun p e s m args below meth c Q cx hnm => eo_Slit_clearBuffer hw cx) (fun p e s m args below meth c Q F h => sn_Slit_clearBuffer h)
theorem q_Slit_clearBuffer {a : Nat} {fs : List Value} {M : Hp} {nx : Nat}  (h : M a = some (cO 5 fs)) : x_Slit_clearBuffer [.ref a] (M, nx) = zres (d_Slit_clearBuffer ([some (.ref a), none], [], (M, nx))) := q_ofV [some (.ref a), none] h rfl (Nat.le_of_ble_eq_true rfl) (Or.inr rfl)
theorem lf_Slit_clearBuffer_174 : lookN (eF E_Slit_clearBuffer) 174 = some (5, 5) := rfl
theorem lb_Slit_clearBuffer : eB E_Slit_clearBuffer = true := rfl
-- CoilSlits$CoilReader.restart
def E_Read_restart : Env := (true, [(11, 4, 0)], [], [], [], zST, false)
def d_Read_restart : Dn := (rtv E_Read_restart [.aload_n 0, .iconst 0, .putfield 11])
def x_Read_restart : Ex := zrv 4 (exb true 1 d_Read_restart)
abbrev r_Read_restart : Room := ({ frames := 0, cells := 0, slots := 0, locals := 0 } : Room)
theorem eo_Read_restart (hw : zWok w) (cx : CX w p s m args c b_Read_restart 1 "CoilSlits$CoilReader") : EnvOk w true p l e r_Read_restart s m args below meth c Q b_Read_restart 1 "CoilSlits$CoilReader" E_Read_restart :=
  ⟨rfl, by decide +kernel, by decide +kernel, by decide +kernel, hw, fun h => absurd h (by decide),
  fun q hq => absurd hq List.not_mem_nil⟩
theorem sn_Read_restart (h : MC w true p l e R s m args below meth c Q b_Read_restart 1 "CoilSlits$CoilReader" E_Read_restart 0 0 F none) : Sn (zK w true p l e R s m args below meth c Q 1) F (fun _ => False) (fun _ => False) 0 0 0 d_Read_restart 0 0 0 := by
  unfold d_Read_restart
  exact (m_rtv h zz (p1 := 5) (by decide +kernel) (by decide +kernel) (Nat.zero_le _) (Nat.zero_le _))
theorem ct_Read_restart (w : Wd) (l : Launch) (hw : zWok w) : CT w l y_Read_restart b_Read_restart 1 none r_Read_restart (exb true 1 d_Read_restart) :=
  ct_plain (by decide +kernel) (fun p e s m args below meth c Q cx hnm => eo_Read_restart hw cx) (fun p e s m args below meth c Q F h => sn_Read_restart h)
theorem q_Read_restart {a : Nat} {fs : List Value} {M : Hp} {nx : Nat}  (h : M a = some (cO 4 fs)) : x_Read_restart [.ref a] (M, nx) = zres (d_Read_restart ([some (.ref a)], [], (M, nx))) := q_ofV [some (.ref a)] h rfl (Nat.le_of_ble_eq_true rfl) (Or.inr rfl)
theorem lf_Read_restart_11 : lookN (eF E_Read_restart) 11 = some (4, 0) := rfl
theorem lb_Read_restart : eB E_Read_restart = true := rfl
-- CoilSlits$CoilReader.expects
def E_Read_expects : Env := (true, [(11, 4, 0)], [], [], [], zST, false)
def d_Read_expects : Dn := (rtz E_Read_expects [.aload_n 0, .iload_n 1, .putfield 11, .iconst 1])
def x_Read_expects : Ex := zrv 4 (exb true 2 d_Read_expects)
abbrev r_Read_expects : Room := ({ frames := 0, cells := 0, slots := 0, locals := 0 } : Room)
theorem eo_Read_expects (hw : zWok w) (cx : CX w p s m args c b_Read_expects 2 "CoilSlits$CoilReader") : EnvOk w true p l e r_Read_expects s m args below meth c Q b_Read_expects 2 "CoilSlits$CoilReader" E_Read_expects :=
  ⟨rfl, by decide +kernel, by decide +kernel, by decide +kernel, hw, fun h => absurd h (by decide),
  fun q hq => absurd hq List.not_mem_nil⟩
theorem sn_Read_expects (h : MC w true p l e R s m args below meth c Q b_Read_expects 2 "CoilSlits$CoilReader" E_Read_expects 0 0 F (some .boolean)) : Sn (zK w true p l e R s m args below meth c Q 2) F (fun _ => False) (fun _ => False) 0 0 0 d_Read_expects 0 0 0 := by
  unfold d_Read_expects
  exact (m_rtz h zz (p1 := 6) (by decide +kernel) (by decide +kernel) (Nat.zero_le _) (Nat.zero_le _))
theorem ct_Read_expects (w : Wd) (l : Launch) (hw : zWok w) : CT w l y_Read_expects b_Read_expects 2 (some .boolean) r_Read_expects (exb true 2 d_Read_expects) :=
  ct_plain (by decide +kernel) (fun p e s m args below meth c Q cx hnm => eo_Read_expects hw cx) (fun p e s m args below meth c Q F h => sn_Read_expects h)
theorem q_Read_expects {a : Nat} {fs : List Value} {M : Hp} {nx : Nat} (x0 : Int32) (h : M a = some (cO 4 fs)) : x_Read_expects [.ref a, .int x0] (M, nx) = zres (d_Read_expects ([some (.ref a), some (.int x0)], [], (M, nx))) := q_ofV [some (.ref a), some (.int x0)] h rfl (Nat.le_of_ble_eq_true rfl) (Or.inr rfl)
theorem lf_Read_expects_11 : lookN (eF E_Read_expects) 11 = some (4, 0) := rfl
theorem lb_Read_expects : eB E_Read_expects = true := rfl
-- CoilSlits$CoilReader.beginsPart
def E_Read_beginsPart : Env := (true, [(15, 4, 1), (18, 4, 2), (21, 4, 3), (24, 4, 4)], [(.invokevirtual 31, 2, x_Read_expects)], [], [], zST, false)
def d_Read_beginsPart : Dn := (rtz E_Read_beginsPart [.aload_n 0, .iload_n 1, .putfield 15, .aload_n 0, .iconst 0, .putfield 18, .aload_n 0, .iconst 5, .putfield 21, .aload_n 0, .iconst (-1), .putfield 24, .aload_n 0, .iconst 1, .invokevirtual 31])
def x_Read_beginsPart : Ex := zrv 4 (exb true 2 d_Read_beginsPart)
abbrev r_Read_beginsPart : Room := ({ frames := 1, cells := 0, slots := 0, locals := 21 } : Room)
theorem eo_Read_beginsPart (hw : zWok w) (cx : CX w p s m args c b_Read_beginsPart 2 "CoilSlits$CoilReader") : EnvOk w true p l e r_Read_beginsPart s m args below meth c Q b_Read_beginsPart 2 "CoilSlits$CoilReader" E_Read_beginsPart :=
  ⟨rfl, by decide +kernel, by decide +kernel, by decide +kernel, hw, fun h => absurd h (by decide),
  List.forall_mem_cons.mpr ⟨call_V cx (ct_Read_expects w l hw) tw_312 tw_309 tw_7 tw_311 tp_11 (ci := 4) (Nat.le_of_ble_eq_true rfl) rfl (by decide +kernel) ⟨Nat.le_of_ble_eq_true rfl, Nat.le_of_ble_eq_true rfl⟩, fun q hq => absurd hq List.not_mem_nil⟩⟩
theorem sn_Read_beginsPart (h : MC w true p l e R s m args below meth c Q b_Read_beginsPart 2 "CoilSlits$CoilReader" E_Read_beginsPart 0 0 F (some .boolean)) : Sn (zK w true p l e R s m args below meth c Q 2) F (fun _ => False) (fun _ => False) 0 0 0 d_Read_beginsPart 0 0 0 := by
  unfold d_Read_beginsPart
  exact (m_rtz h zz (p1 := 25) (by decide +kernel) (by decide +kernel) (Nat.zero_le _) (Nat.zero_le _))
theorem ct_Read_beginsPart (w : Wd) (l : Launch) (hw : zWok w) : CT w l y_Read_beginsPart b_Read_beginsPart 2 (some .boolean) r_Read_beginsPart (exb true 2 d_Read_beginsPart) :=
  ct_plain (by decide +kernel) (fun p e s m args below meth c Q cx hnm => eo_Read_beginsPart hw cx) (fun p e s m args below meth c Q F h => sn_Read_beginsPart h)
theorem q_Read_beginsPart {a : Nat} {fs : List Value} {M : Hp} {nx : Nat} (x0 : Int32) (h : M a = some (cO 4 fs)) : x_Read_beginsPart [.ref a, .int x0] (M, nx) = zres (d_Read_beginsPart ([some (.ref a), some (.int x0)], [], (M, nx))) := q_ofV [some (.ref a), some (.int x0)] h rfl (Nat.le_of_ble_eq_true rfl) (Or.inr rfl)
theorem lc_Read_beginsPart_31 : lookI (eC E_Read_beginsPart) (.invokevirtual 31) = some (2, x_Read_expects) := rfl
theorem lf_Read_beginsPart_15 : lookN (eF E_Read_beginsPart) 15 = some (4, 1) := rfl
theorem lf_Read_beginsPart_18 : lookN (eF E_Read_beginsPart) 18 = some (4, 2) := rfl
theorem lf_Read_beginsPart_21 : lookN (eF E_Read_beginsPart) 21 = some (4, 3) := rfl
theorem lf_Read_beginsPart_24 : lookN (eF E_Read_beginsPart) 24 = some (4, 4) := rfl
theorem lb_Read_beginsPart : eB E_Read_beginsPart = true := rfl
-- CoilSlits$CoilReader.widens
def E_Read_widens : Env := (true, [(15, 4, 1)], [], [], [], zST, false)
def d_Read_widens : Dn := (sq (blk E_Read_widens [.bipush 10, .aload_n 0, .getfield 15, .imul, .iload_n 1, .iadd, .istore_n 2])
  (sq (ite' (cno (cat E_Read_widens [.iload_n 2, .sipush 200] (.if_icmp .le 5)))
  (rtz E_Read_widens [.iconst 0])
  (blk E_Read_widens []))
  (rtz E_Read_widens [.aload_n 0, .iload_n 2, .putfield 15, .iconst 1])))
def x_Read_widens : Ex := zrv 4 (exb true 3 d_Read_widens)
abbrev r_Read_widens : Room := ({ frames := 0, cells := 0, slots := 0, locals := 0 } : Room)
theorem eo_Read_widens (hw : zWok w) (cx : CX w p s m args c b_Read_widens 3 "CoilSlits$CoilReader") : EnvOk w true p l e r_Read_widens s m args below meth c Q b_Read_widens 3 "CoilSlits$CoilReader" E_Read_widens :=
  ⟨rfl, by decide +kernel, by decide +kernel, by decide +kernel, hw, fun h => absurd h (by decide),
  fun q hq => absurd hq List.not_mem_nil⟩
theorem sn_Read_widens (h : MC w true p l e R s m args below meth c Q b_Read_widens 3 "CoilSlits$CoilReader" E_Read_widens 0 0 F (some .boolean)) : Sn (zK w true p l e R s m args below meth c Q 3) F (fun _ => False) (fun _ => False) 0 0 0 d_Read_widens 0 0 0 := by
  unfold d_Read_widens
  exact (sn_sq (pm := 10) (m_blk h zz (by decide +kernel))
  (sn_sq (pm := 19) (sn_ite (pt := 17) (pf := 19) (sc_no (m_cat h zz (p1 := 14) (tgt := 19) (by decide +kernel) (by decide +kernel) (by decide)))
  (m_rtz h zz (p1 := 18) (by decide +kernel) (by decide +kernel) (Nat.zero_le _) (Nat.zero_le _))
  (m_blk h zz rfl))
  (m_rtz h zz (p1 := 25) (by decide +kernel) (by decide +kernel) (Nat.zero_le _) (Nat.zero_le _))))
theorem ct_Read_widens (w : Wd) (l : Launch) (hw : zWok w) : CT w l y_Read_widens b_Read_widens 3 (some .boolean) r_Read_widens (exb true 3 d_Read_widens) :=
  ct_plain (by decide +kernel) (fun p e s m args below meth c Q cx hnm => eo_Read_widens hw cx) (fun p e s m args below meth c Q F h => sn_Read_widens h)
theorem q_Read_widens {a : Nat} {fs : List Value} {M : Hp} {nx : Nat} (x0 : Int32) (h : M a = some (cO 4 fs)) : x_Read_widens [.ref a, .int x0] (M, nx) = zres (d_Read_widens ([some (.ref a), some (.int x0), none], [], (M, nx))) := q_ofV [some (.ref a), some (.int x0), none] h rfl (Nat.le_of_ble_eq_true rfl) (Or.inr rfl)
theorem lf_Read_widens_15 : lookN (eF E_Read_widens) 15 = some (4, 1) := rfl
theorem lb_Read_widens : eB E_Read_widens = true := rfl
-- CoilSlits$CoilReader.takesGrade
def E_Read_takesGrade : Env := (true, [(18, 4, 2)], [(.invokevirtual 31, 2, x_Read_expects)], [], [], zST, false)
def d_Read_takesGrade : Dn := (rtz E_Read_takesGrade [.aload_n 0, .iload_n 1, .putfield 18, .aload_n 0, .iconst 5, .invokevirtual 31])
def x_Read_takesGrade : Ex := zrv 4 (exb true 2 d_Read_takesGrade)
abbrev r_Read_takesGrade : Room := ({ frames := 1, cells := 0, slots := 0, locals := 21 } : Room)
theorem eo_Read_takesGrade (hw : zWok w) (cx : CX w p s m args c b_Read_takesGrade 2 "CoilSlits$CoilReader") : EnvOk w true p l e r_Read_takesGrade s m args below meth c Q b_Read_takesGrade 2 "CoilSlits$CoilReader" E_Read_takesGrade :=
  ⟨rfl, by decide +kernel, by decide +kernel, by decide +kernel, hw, fun h => absurd h (by decide),
  List.forall_mem_cons.mpr ⟨call_V cx (ct_Read_expects w l hw) tw_312 tw_309 tw_7 tw_311 tp_11 (ci := 4) (Nat.le_of_ble_eq_true rfl) rfl (by decide +kernel) ⟨Nat.le_of_ble_eq_true rfl, Nat.le_of_ble_eq_true rfl⟩, fun q hq => absurd hq List.not_mem_nil⟩⟩
theorem sn_Read_takesGrade (h : MC w true p l e R s m args below meth c Q b_Read_takesGrade 2 "CoilSlits$CoilReader" E_Read_takesGrade 0 0 F (some .boolean)) : Sn (zK w true p l e R s m args below meth c Q 2) F (fun _ => False) (fun _ => False) 0 0 0 d_Read_takesGrade 0 0 0 := by
  unfold d_Read_takesGrade
  exact (m_rtz h zz (p1 := 10) (by decide +kernel) (by decide +kernel) (Nat.zero_le _) (Nat.zero_le _))
theorem ct_Read_takesGrade (w : Wd) (l : Launch) (hw : zWok w) : CT w l y_Read_takesGrade b_Read_takesGrade 2 (some .boolean) r_Read_takesGrade (exb true 2 d_Read_takesGrade) :=
  ct_plain (by decide +kernel) (fun p e s m args below meth c Q cx hnm => eo_Read_takesGrade hw cx) (fun p e s m args below meth c Q F h => sn_Read_takesGrade h)
theorem q_Read_takesGrade {a : Nat} {fs : List Value} {M : Hp} {nx : Nat} (x0 : Int32) (h : M a = some (cO 4 fs)) : x_Read_takesGrade [.ref a, .int x0] (M, nx) = zres (d_Read_takesGrade ([some (.ref a), some (.int x0)], [], (M, nx))) := q_ofV [some (.ref a), some (.int x0)] h rfl (Nat.le_of_ble_eq_true rfl) (Or.inr rfl)
theorem lc_Read_takesGrade_31 : lookI (eC E_Read_takesGrade) (.invokevirtual 31) = some (2, x_Read_expects) := rfl
theorem lf_Read_takesGrade_18 : lookN (eF E_Read_takesGrade) 18 = some (4, 2) := rfl
theorem lb_Read_takesGrade : eB E_Read_takesGrade = true := rfl
-- CoilSlits$CoilReader.takesQuality
def E_Read_takesQuality : Env := (true, [(21, 4, 3)], [(.invokevirtual 31, 2, x_Read_expects)], [], [], zST, false)
def d_Read_takesQuality : Dn := (rtz E_Read_takesQuality [.aload_n 0, .iload_n 1, .putfield 21, .aload_n 0, .bipush 6, .invokevirtual 31])
def x_Read_takesQuality : Ex := zrv 4 (exb true 2 d_Read_takesQuality)
abbrev r_Read_takesQuality : Room := ({ frames := 1, cells := 0, slots := 0, locals := 21 } : Room)
theorem eo_Read_takesQuality (hw : zWok w) (cx : CX w p s m args c b_Read_takesQuality 2 "CoilSlits$CoilReader") : EnvOk w true p l e r_Read_takesQuality s m args below meth c Q b_Read_takesQuality 2 "CoilSlits$CoilReader" E_Read_takesQuality :=
  ⟨rfl, by decide +kernel, by decide +kernel, by decide +kernel, hw, fun h => absurd h (by decide),
  List.forall_mem_cons.mpr ⟨call_V cx (ct_Read_expects w l hw) tw_312 tw_309 tw_7 tw_311 tp_11 (ci := 4) (Nat.le_of_ble_eq_true rfl) rfl (by decide +kernel) ⟨Nat.le_of_ble_eq_true rfl, Nat.le_of_ble_eq_true rfl⟩, fun q hq => absurd hq List.not_mem_nil⟩⟩
theorem sn_Read_takesQuality (h : MC w true p l e R s m args below meth c Q b_Read_takesQuality 2 "CoilSlits$CoilReader" E_Read_takesQuality 0 0 F (some .boolean)) : Sn (zK w true p l e R s m args below meth c Q 2) F (fun _ => False) (fun _ => False) 0 0 0 d_Read_takesQuality 0 0 0 := by
  unfold d_Read_takesQuality
  exact (m_rtz h zz (p1 := 11) (by decide +kernel) (by decide +kernel) (Nat.zero_le _) (Nat.zero_le _))
theorem ct_Read_takesQuality (w : Wd) (l : Launch) (hw : zWok w) : CT w l y_Read_takesQuality b_Read_takesQuality 2 (some .boolean) r_Read_takesQuality (exb true 2 d_Read_takesQuality) :=
  ct_plain (by decide +kernel) (fun p e s m args below meth c Q cx hnm => eo_Read_takesQuality hw cx) (fun p e s m args below meth c Q F h => sn_Read_takesQuality h)
theorem q_Read_takesQuality {a : Nat} {fs : List Value} {M : Hp} {nx : Nat} (x0 : Int32) (h : M a = some (cO 4 fs)) : x_Read_takesQuality [.ref a, .int x0] (M, nx) = zres (d_Read_takesQuality ([some (.ref a), some (.int x0)], [], (M, nx))) := q_ofV [some (.ref a), some (.int x0)] h rfl (Nat.le_of_ble_eq_true rfl) (Or.inr rfl)
theorem lc_Read_takesQuality_31 : lookI (eC E_Read_takesQuality) (.invokevirtual 31) = some (2, x_Read_expects) := rfl
theorem lf_Read_takesQuality_21 : lookN (eF E_Read_takesQuality) 21 = some (4, 3) := rfl
theorem lb_Read_takesQuality : eB E_Read_takesQuality = true := rfl
-- CoilSlits$CoilReader.takesStack
def E_Read_takesStack : Env := (true, [(24, 4, 4)], [(.invokevirtual 31, 2, x_Read_expects)], [], [], zST, false)
def d_Read_takesStack : Dn := (rtz E_Read_takesStack [.aload_n 0, .iload_n 1, .putfield 24, .aload_n 0, .bipush 7, .invokevirtual 31])
def x_Read_takesStack : Ex := zrv 4 (exb true 2 d_Read_takesStack)
abbrev r_Read_takesStack : Room := ({ frames := 1, cells := 0, slots := 0, locals := 21 } : Room)
theorem eo_Read_takesStack (hw : zWok w) (cx : CX w p s m args c b_Read_takesStack 2 "CoilSlits$CoilReader") : EnvOk w true p l e r_Read_takesStack s m args below meth c Q b_Read_takesStack 2 "CoilSlits$CoilReader" E_Read_takesStack :=
  ⟨rfl, by decide +kernel, by decide +kernel, by decide +kernel, hw, fun h => absurd h (by decide),
  List.forall_mem_cons.mpr ⟨call_V cx (ct_Read_expects w l hw) tw_312 tw_309 tw_7 tw_311 tp_11 (ci := 4) (Nat.le_of_ble_eq_true rfl) rfl (by decide +kernel) ⟨Nat.le_of_ble_eq_true rfl, Nat.le_of_ble_eq_true rfl⟩, fun q hq => absurd hq List.not_mem_nil⟩⟩
theorem sn_Read_takesStack (h : MC w true p l e R s m args below meth c Q b_Read_takesStack 2 "CoilSlits$CoilReader" E_Read_takesStack 0 0 F (some .boolean)) : Sn (zK w true p l e R s m args below meth c Q 2) F (fun _ => False) (fun _ => False) 0 0 0 d_Read_takesStack 0 0 0 := by
  unfold d_Read_takesStack
  exact (m_rtz h zz (p1 := 11) (by decide +kernel) (by decide +kernel) (Nat.zero_le _) (Nat.zero_le _))
theorem ct_Read_takesStack (w : Wd) (l : Launch) (hw : zWok w) : CT w l y_Read_takesStack b_Read_takesStack 2 (some .boolean) r_Read_takesStack (exb true 2 d_Read_takesStack) :=
  ct_plain (by decide +kernel) (fun p e s m args below meth c Q cx hnm => eo_Read_takesStack hw cx) (fun p e s m args below meth c Q F h => sn_Read_takesStack h)
theorem q_Read_takesStack {a : Nat} {fs : List Value} {M : Hp} {nx : Nat} (x0 : Int32) (h : M a = some (cO 4 fs)) : x_Read_takesStack [.ref a, .int x0] (M, nx) = zres (d_Read_takesStack ([some (.ref a), some (.int x0)], [], (M, nx))) := q_ofV [some (.ref a), some (.int x0)] h rfl (Nat.le_of_ble_eq_true rfl) (Or.inr rfl)
theorem lc_Read_takesStack_31 : lookI (eC E_Read_takesStack) (.invokevirtual 31) = some (2, x_Read_expects) := rfl
theorem lf_Read_takesStack_24 : lookN (eF E_Read_takesStack) 24 = some (4, 4) := rfl
theorem lb_Read_takesStack : eB E_Read_takesStack = true := rfl
-- CoilSlits$CoilReader.goesOn
def E_Read_goesOn : Env := (true, [(11, 4, 0)], [(.invokevirtual 31, 2, x_Read_expects)], [], [], zST, false)
def d_Read_goesOn : Dn := (swi E_Read_goesOn [.iload_n 1] [(59, (rtz E_Read_goesOn [.aload_n 0, .iconst 0, .invokevirtual 31])), (113, (sq (ite' (can (cno (cat E_Read_goesOn [.aload_n 0, .getfield 11, .iconst 5] (.if_icmp .ne 15))) (cno (cat E_Read_goesOn [.aload_n 0, .iconst 3, .invokevirtual 31] (.ifCond .eq 7))))
  (blk E_Read_goesOn [.iconst 1])
  (blk E_Read_goesOn [.iconst 0]))
  (rtz E_Read_goesOn []))), (115, (sq (ite' (can (cno (cat E_Read_goesOn [.aload_n 0, .getfield 11, .bipush 7] (.if_icmp .eq 15))) (cno (cat E_Read_goesOn [.aload_n 0, .iconst 4, .invokevirtual 31] (.ifCond .eq 7))))
  (blk E_Read_goesOn [.iconst 1])
  (blk E_Read_goesOn [.iconst 0]))
  (rtz E_Read_goesOn [])))]
  (rtz E_Read_goesOn [.iconst 0]))
def x_Read_goesOn : Ex := zrv 4 (exb true 2 d_Read_goesOn)
abbrev r_Read_goesOn : Room := ({ frames := 1, cells := 0, slots := 0, locals := 21 } : Room)
theorem eo_Read_goesOn (hw : zWok w) (cx : CX w p s m args c b_Read_goesOn 2 "CoilSlits$CoilReader") : EnvOk w true p l e r_Read_goesOn s m args below meth c Q b_Read_goesOn 2 "CoilSlits$CoilReader" E_Read_goesOn :=
  ⟨rfl, by decide +kernel, by decide +kernel, by decide +kernel, hw, fun h => absurd h (by decide),
  List.forall_mem_cons.mpr ⟨call_V cx (ct_Read_expects w l hw) tw_312 tw_309 tw_7 tw_311 tp_11 (ci := 4) (Nat.le_of_ble_eq_true rfl) rfl (by decide +kernel) ⟨Nat.le_of_ble_eq_true rfl, Nat.le_of_ble_eq_true rfl⟩, fun q hq => absurd hq List.not_mem_nil⟩⟩
theorem sn_Read_goesOn (h : MC w true p l e R s m args below meth c Q b_Read_goesOn 2 "CoilSlits$CoilReader" E_Read_goesOn 0 0 F (some .boolean)) : Sn (zK w true p l e R s m args below meth c Q 2) F (fun _ => False) (fun _ => False) 0 0 0 d_Read_goesOn 0 0 0 := by
  unfold d_Read_goesOn
  exact (m_sw h zz (p1 := 1) (pd := 87) [(59, 36), (113, 65), (115, 42)] (by decide +kernel) (by decide +kernel)
  (swl_cons (m_rtz h zz (p1 := 41) (by decide +kernel) (by decide +kernel) (Nat.zero_le _) (Nat.zero_le _))
  (swl_cons (sn_sq (pm := 86) (sn_ite (pt := 81) (pf := 85) (sc_an (pm := 73) (sc_no (m_cat h zz (p1 := 70) (tgt := 85) (by decide +kernel) (by decide +kernel) (by decide))) (sc_no (m_cat h zz (p1 := 78) (tgt := 85) (by decide +kernel) (by decide +kernel) (by decide))))
  (sn_goto (pm := 82) (m_blk h zz (by decide +kernel)) (m_goto h (off := 4) (by decide +kernel) (by decide)))
  (m_blk h zz (by decide +kernel)))
  (m_rtz h zz (p1 := 86) (by decide +kernel) (by decide +kernel) (Nat.zero_le _) (Nat.zero_le _)))
  (swl_cons (sn_sq (pm := 64) (sn_ite (pt := 59) (pf := 63) (sc_an (pm := 51) (sc_no (m_cat h zz (p1 := 48) (tgt := 63) (by decide +kernel) (by decide +kernel) (by decide))) (sc_no (m_cat h zz (p1 := 56) (tgt := 63) (by decide +kernel) (by decide +kernel) (by decide))))
  (sn_goto (pm := 60) (m_blk h zz (by decide +kernel)) (m_goto h (off := 4) (by decide +kernel) (by decide)))
  (m_blk h zz (by decide +kernel)))
  (m_rtz h zz (p1 := 64) (by decide +kernel) (by decide +kernel) (Nat.zero_le _) (Nat.zero_le _)))
  swl_nil)))
  (m_rtz h zz (p1 := 88) (by decide +kernel) (by decide +kernel) (Nat.zero_le _) (Nat.zero_le _)))
theorem ct_Read_goesOn (w : Wd) (l : Launch) (hw : zWok w) : CT w l y_Read_goesOn b_Read_goesOn 2 (some .boolean) r_Read_goesOn (exb true 2 d_Read_goesOn) :=
  ct_plain (by decide +kernel) (fun p e s m args below meth c Q cx hnm => eo_Read_goesOn hw cx) (fun p e s m args below meth c Q F h => sn_Read_goesOn h)
theorem q_Read_goesOn {a : Nat} {fs : List Value} {M : Hp} {nx : Nat} (x0 : Int32) (h : M a = some (cO 4 fs)) : x_Read_goesOn [.ref a, .int x0] (M, nx) = zres (d_Read_goesOn ([some (.ref a), some (.int x0)], [], (M, nx))) := q_ofV [some (.ref a), some (.int x0)] h rfl (Nat.le_of_ble_eq_true rfl) (Or.inr rfl)
theorem lc_Read_goesOn_31 : lookI (eC E_Read_goesOn) (.invokevirtual 31) = some (2, x_Read_expects) := rfl
theorem lf_Read_goesOn_11 : lookN (eF E_Read_goesOn) 11 = some (4, 0) := rfl
theorem lb_Read_goesOn : eB E_Read_goesOn = true := rfl
-- CoilSlits$CoilReader.accepts
def E_Read_accepts : Env := (true, [(11, 4, 0)], [(.invokevirtual 27, 2, x_Read_beginsPart), (.invokevirtual 31, 2, x_Read_expects), (.invokevirtual 34, 2, x_Read_widens), (.invokestatic 37, 3, x_Slit_within), (.invokevirtual 41, 2, x_Read_takesGrade), (.invokevirtual 44, 2, x_Read_takesQuality), (.invokestatic 47, 1, x_Slit_isStack), (.invokevirtual 50, 2, x_Read_takesStack), (.invokevirtual 53, 2, x_Read_goesOn)], [], [], zST, false)
def d_Read_accepts : Dn := (sq (ite' (can (cno (cat E_Read_accepts [.iload_n 1, .bipush 48] (.if_icmp .lt 16))) (cno (cat E_Read_accepts [.iload_n 1, .bipush 57] (.if_icmp .gt 10))))
  (blk E_Read_accepts [.iload_n 1, .bipush 48, .isub])
  (blk E_Read_accepts [.iconst (-1)]))
  (swi E_Read_accepts [.istore_n 2, .aload_n 0, .getfield 11] [(0, (sq (ite' (can (cno (cat E_Read_accepts [.iload_n 2] (.ifCond .le 15))) (cno (cat E_Read_accepts [.aload_n 0, .iload_n 2, .invokevirtual 27] (.ifCond .eq 7))))
  (blk E_Read_accepts [.iconst 1])
  (blk E_Read_accepts [.iconst 0]))
  (rtz E_Read_accepts []))), (1, (sq (ite' (cno (cat E_Read_accepts [.iload_n 1, .bipush 103] (.if_icmp .ne 11)))
  (blk E_Read_accepts [.aload_n 0, .iconst 2, .invokevirtual 31])
  (ite' (can (cno (cat E_Read_accepts [.iload_n 2, .iconst (-1)] (.if_icmp .eq 15))) (cno (cat E_Read_accepts [.aload_n 0, .iload_n 2, .invokevirtual 34] (.ifCond .eq 7))))
  (blk E_Read_accepts [.iconst 1])
  (blk E_Read_accepts [.iconst 0])))
  (rtz E_Read_accepts []))), (2, (sq (ite' (can (cno (cat E_Read_accepts [.iload_n 2, .iconst 0, .iconst 3, .invokestatic 37] (.ifCond .eq 15))) (cno (cat E_Read_accepts [.aload_n 0, .iload_n 2, .invokevirtual 41] (.ifCond .eq 7))))
  (blk E_Read_accepts [.iconst 1])
  (blk E_Read_accepts [.iconst 0]))
  (rtz E_Read_accepts []))), (3, (sq (ite' (can (cno (cat E_Read_accepts [.iload_n 2, .iconst (-1)] (.if_icmp .eq 15))) (cno (cat E_Read_accepts [.aload_n 0, .iload_n 2, .invokevirtual 44] (.ifCond .eq 7))))
  (blk E_Read_accepts [.iconst 1])
  (blk E_Read_accepts [.iconst 0]))
  (rtz E_Read_accepts []))), (4, (sq (ite' (can (cno (cat E_Read_accepts [.iload_n 2, .invokestatic 47] (.ifCond .eq 15))) (cno (cat E_Read_accepts [.aload_n 0, .iload_n 2, .invokevirtual 50] (.ifCond .eq 7))))
  (blk E_Read_accepts [.iconst 1])
  (blk E_Read_accepts [.iconst 0]))
  (rtz E_Read_accepts [])))]
  (rtz E_Read_accepts [.aload_n 0, .iload_n 1, .invokevirtual 53])))
def x_Read_accepts : Ex := zrv 4 (exb true 3 d_Read_accepts)
abbrev r_Read_accepts : Room := ({ frames := 2, cells := 0, slots := 0, locals := 42 } : Room)
theorem eo_Read_accepts (hw : zWok w) (cx : CX w p s m args c b_Read_accepts 3 "CoilSlits$CoilReader") : EnvOk w true p l e r_Read_accepts s m args below meth c Q b_Read_accepts 3 "CoilSlits$CoilReader" E_Read_accepts :=
  ⟨rfl, by decide +kernel, by decide +kernel, by decide +kernel, hw, fun h => absurd h (by decide),
  List.forall_mem_cons.mpr ⟨call_V cx (ct_Read_beginsPart w l hw) tw_308 tw_305 tw_7 tw_307 tp_10 (ci := 4) (Nat.le_of_ble_eq_true rfl) rfl (by decide +kernel) ⟨Nat.le_of_ble_eq_true rfl, Nat.le_of_ble_eq_true rfl⟩, List.forall_mem_cons.mpr ⟨call_V cx (ct_Read_expects w l hw) tw_312 tw_309 tw_7 tw_311 tp_11 (ci := 4) (Nat.le_of_ble_eq_true rfl) rfl (by decide +kernel) ⟨Nat.le_of_ble_eq_true rfl, Nat.le_of_ble_eq_true rfl⟩, List.forall_mem_cons.mpr ⟨call_V cx (ct_Read_widens w l hw) tw_316 tw_313 tw_7 tw_315 tp_12 (ci := 4) (Nat.le_of_ble_eq_true rfl) rfl (by decide +kernel) ⟨Nat.le_of_ble_eq_true rfl, Nat.le_of_ble_eq_true rfl⟩, List.forall_mem_cons.mpr ⟨call_SN cx (host := "CoilSlits") (ct_Slit_within w l hw) tw_319 (by decide +kernel) tw_1 tw_318 (by decide +kernel) ⟨Nat.le_of_ble_eq_true rfl, Nat.le_of_ble_eq_true rfl⟩, List.forall_mem_cons.mpr ⟨call_V cx (ct_Read_takesGrade w l hw) tw_323 tw_320 tw_7 tw_322 tp_13 (ci := 4) (Nat.le_of_ble_eq_true rfl) rfl (by decide +kernel) ⟨Nat.le_of_ble_eq_true rfl, Nat.le_of_ble_eq_true rfl⟩, List.forall_mem_cons.mpr ⟨call_V cx (ct_Read_takesQuality w l hw) tw_327 tw_324 tw_7 tw_326 tp_14 (ci := 4) (Nat.le_of_ble_eq_true rfl) rfl (by decide +kernel) ⟨Nat.le_of_ble_eq_true rfl, Nat.le_of_ble_eq_true rfl⟩, List.forall_mem_cons.mpr ⟨call_SN cx (host := "CoilSlits") (ct_Slit_isStack w l hw) tw_330 (by decide +kernel) tw_1 tw_329 (by decide +kernel) ⟨Nat.le_of_ble_eq_true rfl, Nat.le_of_ble_eq_true rfl⟩, List.forall_mem_cons.mpr ⟨call_V cx (ct_Read_takesStack w l hw) tw_335 tw_332 tw_7 tw_334 tp_15 (ci := 4) (Nat.le_of_ble_eq_true rfl) rfl (by decide +kernel) ⟨Nat.le_of_ble_eq_true rfl, Nat.le_of_ble_eq_true rfl⟩, List.forall_mem_cons.mpr ⟨call_V cx (ct_Read_goesOn w l hw) tw_339 tw_336 tw_7 tw_338 tp_16 (ci := 4) (Nat.le_of_ble_eq_true rfl) rfl (by decide +kernel) ⟨Nat.le_of_ble_eq_true rfl, Nat.le_of_ble_eq_true rfl⟩, fun q hq => absurd hq List.not_mem_nil⟩⟩⟩⟩⟩⟩⟩⟩⟩⟩
theorem sn_Read_accepts (h : MC w true p l e R s m args below meth c Q b_Read_accepts 3 "CoilSlits$CoilReader" E_Read_accepts 0 0 F (some .boolean)) : Sn (zK w true p l e R s m args below meth c Q 3) F (fun _ => False) (fun _ => False) 0 0 0 d_Read_accepts 0 0 0 := by
  unfold d_Read_accepts
  exact (sn_sq (pm := 20) (sn_ite (pt := 12) (pf := 19) (sc_an (pm := 6) (sc_no (m_cat h zz (p1 := 3) (tgt := 19) (by decide +kernel) (by decide +kernel) (by decide))) (sc_no (m_cat h zz (p1 := 9) (tgt := 19) (by decide +kernel) (by decide +kernel) (by decide))))
  (sn_goto (pm := 16) (m_blk h zz (by decide +kernel)) (m_goto h (off := 4) (by decide +kernel) (by decide)))
  (m_blk h zz (by decide +kernel)))
  (m_sw h zz (p1 := 25) (pd := 174) [(0, 60), (1, 78), (2, 111), (3, 134), (4, 153)] (by decide +kernel) (by decide +kernel)
  (swl_cons (sn_sq (pm := 77) (sn_ite (pt := 72) (pf := 76) (sc_an (pm := 64) (sc_no (m_cat h zz (p1 := 61) (tgt := 76) (by decide +kernel) (by decide +kernel) (by decide))) (sc_no (m_cat h zz (p1 := 69) (tgt := 76) (by decide +kernel) (by decide +kernel) (by decide))))
  (sn_goto (pm := 73) (m_blk h zz (by decide +kernel)) (m_goto h (off := 4) (by decide +kernel) (by decide)))
  (m_blk h zz (by decide +kernel)))
  (m_rtz h zz (p1 := 77) (by decide +kernel) (by decide +kernel) (Nat.zero_le _) (Nat.zero_le _)))
  (swl_cons (sn_sq (pm := 110) (sn_ite (pt := 84) (pf := 92) (sc_no (m_cat h zz (p1 := 81) (tgt := 92) (by decide +kernel) (by decide +kernel) (by decide)))
  (sn_goto (pm := 89) (m_blk h zz (by decide +kernel)) (m_goto h (off := 21) (by decide +kernel) (by decide)))
  (sn_ite (pt := 105) (pf := 109) (sc_an (pm := 97) (sc_no (m_cat h zz (p1 := 94) (tgt := 109) (by decide +kernel) (by decide +kernel) (by decide))) (sc_no (m_cat h zz (p1 := 102) (tgt := 109) (by decide +kernel) (by decide +kernel) (by decide))))
  (sn_goto (pm := 106) (m_blk h zz (by decide +kernel)) (m_goto h (off := 4) (by decide +kernel) (by decide)))
  (m_blk h zz (by decide +kernel))))
  (m_rtz h zz (p1 := 110) (by decide +kernel) (by decide +kernel) (Nat.zero_le _) (Nat.zero_le _)))
  (swl_cons (sn_sq (pm := 133) (sn_ite (pt := 128) (pf := 132) (sc_an (pm := 120) (sc_no (m_cat h zz (p1 := 117) (tgt := 132) (by decide +kernel) (by decide +kernel) (by decide))) (sc_no (m_cat h zz (p1 := 125) (tgt := 132) (by decide +kernel) (by decide +kernel) (by decide))))
  (sn_goto (pm := 129) (m_blk h zz (by decide +kernel)) (m_goto h (off := 4) (by decide +kernel) (by decide)))
  (m_blk h zz (by decide +kernel)))
  (m_rtz h zz (p1 := 133) (by decide +kernel) (by decide +kernel) (Nat.zero_le _) (Nat.zero_le _)))
  (swl_cons (sn_sq (pm := 152) (sn_ite (pt := 147) (pf := 151) (sc_an (pm := 139) (sc_no (m_cat h zz (p1 := 136) (tgt := 151) (by decide +kernel) (by decide +kernel) (by decide))) (sc_no (m_cat h zz (p1 := 144) (tgt := 151) (by decide +kernel) (by decide +kernel) (by decide))))
  (sn_goto (pm := 148) (m_blk h zz (by decide +kernel)) (m_goto h (off := 4) (by decide +kernel) (by decide)))
  (m_blk h zz (by decide +kernel)))
  (m_rtz h zz (p1 := 152) (by decide +kernel) (by decide +kernel) (Nat.zero_le _) (Nat.zero_le _)))
  (swl_cons (sn_sq (pm := 173) (sn_ite (pt := 168) (pf := 172) (sc_an (pm := 160) (sc_no (m_cat h zz (p1 := 157) (tgt := 172) (by decide +kernel) (by decide +kernel) (by decide))) (sc_no (m_cat h zz (p1 := 165) (tgt := 172) (by decide +kernel) (by decide +kernel) (by decide))))
  (sn_goto (pm := 169) (m_blk h zz (by decide +kernel)) (m_goto h (off := 4) (by decide +kernel) (by decide)))
  (m_blk h zz (by decide +kernel)))
  (m_rtz h zz (p1 := 173) (by decide +kernel) (by decide +kernel) (Nat.zero_le _) (Nat.zero_le _)))
  swl_nil)))))
  (m_rtz h zz (p1 := 179) (by decide +kernel) (by decide +kernel) (Nat.zero_le _) (Nat.zero_le _))))
theorem ct_Read_accepts (w : Wd) (l : Launch) (hw : zWok w) : CT w l y_Read_accepts b_Read_accepts 3 (some .boolean) r_Read_accepts (exb true 3 d_Read_accepts) :=
  ct_plain (by decide +kernel) (fun p e s m args below meth c Q cx hnm => eo_Read_accepts hw cx) (fun p e s m args below meth c Q F h => sn_Read_accepts h)
theorem q_Read_accepts {a : Nat} {fs : List Value} {M : Hp} {nx : Nat} (x0 : Int32) (h : M a = some (cO 4 fs)) : x_Read_accepts [.ref a, .int x0] (M, nx) = zres (d_Read_accepts ([some (.ref a), some (.int x0), none], [], (M, nx))) := q_ofV [some (.ref a), some (.int x0), none] h rfl (Nat.le_of_ble_eq_true rfl) (Or.inr rfl)
theorem lc_Read_accepts_27 : lookI (eC E_Read_accepts) (.invokevirtual 27) = some (2, x_Read_beginsPart) := rfl
theorem lc_Read_accepts_31 : lookI (eC E_Read_accepts) (.invokevirtual 31) = some (2, x_Read_expects) := rfl
theorem lc_Read_accepts_34 : lookI (eC E_Read_accepts) (.invokevirtual 34) = some (2, x_Read_widens) := rfl
theorem lc_Read_accepts_37 : lookI (eC E_Read_accepts) (.invokestatic 37) = some (3, x_Slit_within) := rfl
theorem lc_Read_accepts_41 : lookI (eC E_Read_accepts) (.invokevirtual 41) = some (2, x_Read_takesGrade) := rfl
theorem lc_Read_accepts_44 : lookI (eC E_Read_accepts) (.invokevirtual 44) = some (2, x_Read_takesQuality) := rfl
theorem lc_Read_accepts_47 : lookI (eC E_Read_accepts) (.invokestatic 47) = some (1, x_Slit_isStack) := rfl
theorem lc_Read_accepts_50 : lookI (eC E_Read_accepts) (.invokevirtual 50) = some (2, x_Read_takesStack) := rfl
theorem lc_Read_accepts_53 : lookI (eC E_Read_accepts) (.invokevirtual 53) = some (2, x_Read_goesOn) := rfl
theorem lf_Read_accepts_11 : lookN (eF E_Read_accepts) 11 = some (4, 0) := rfl
theorem lb_Read_accepts : eB E_Read_accepts = true := rfl
-- CoilSlits.readBuffer
def E_Slit_readBuffer : Env := (true, [(38, 5, 4), (174, 5, 5), (31, 5, 3)], [(.invokevirtual 290, 1, x_Read_restart), (.invokevirtual 272, 2, x_Row_get), (.invokevirtual 293, 2, x_Read_accepts)], [], [], zST, false)
def d_Slit_readBuffer : Dn := (sq (blk E_Slit_readBuffer [.aload_n 0, .getfield 38, .invokevirtual 290, .iconst 0, .istore_n 1])
  (sq (lop (cno (cat E_Slit_readBuffer [.iload_n 1, .aload_n 0, .getfield 174] (.if_icmp .ge 29)))
  (sq (ite' (cno (cat E_Slit_readBuffer [.aload_n 0, .getfield 38, .aload_n 0, .getfield 31, .iload_n 1, .invokevirtual 272, .invokevirtual 293] (.ifCond .ne 5)))
  (rti E_Slit_readBuffer [.iload_n 1])
  (blk E_Slit_readBuffer []))
  (blk E_Slit_readBuffer [.iinc 1 1]))
  (blk E_Slit_readBuffer []) zFU)
  (rti E_Slit_readBuffer [.aload_n 0, .getfield 174])))
def x_Slit_readBuffer : Ex := zrv 5 (exb true 2 d_Slit_readBuffer)
abbrev r_Slit_readBuffer : Room := ({ frames := 3, cells := 0, slots := 0, locals := 64 } : Room)
theorem eo_Slit_readBuffer (hw : zWok w) (cx : CX w p s m args c b_Slit_readBuffer 2 "CoilSlits") : EnvOk w true p l e r_Slit_readBuffer s m args below meth c Q b_Slit_readBuffer 2 "CoilSlits" E_Slit_readBuffer :=
  ⟨rfl, by decide +kernel, by decide +kernel, by decide +kernel, hw, fun h => absurd h (by decide),
  List.forall_mem_cons.mpr ⟨call_V cx (ct_Read_restart w l hw) tw_299 tw_296 tw_7 tw_297 tw_298 (ci := 4) (Nat.le_of_ble_eq_true rfl) rfl (by decide +kernel) ⟨Nat.le_of_ble_eq_true rfl, Nat.le_of_ble_eq_true rfl⟩, List.forall_mem_cons.mpr ⟨call_V cx (ct_Row_get w l hw) tw_216 tw_300 tw_5 tw_214 tw_215 (ci := 0) (Nat.le_of_ble_eq_true rfl) rfl (by decide +kernel) ⟨Nat.le_of_ble_eq_true rfl, Nat.le_of_ble_eq_true rfl⟩, List.forall_mem_cons.mpr ⟨call_V cx (ct_Read_accepts w l hw) tw_304 tw_301 tw_7 tw_302 tw_303 (ci := 4) (Nat.le_of_ble_eq_true rfl) rfl (by decide +kernel) ⟨Nat.le_of_ble_eq_true rfl, Nat.le_of_ble_eq_true rfl⟩, fun q hq => absurd hq List.not_mem_nil⟩⟩⟩⟩
theorem sn_Slit_readBuffer (h : MC w true p l e R s m args below meth c Q b_Slit_readBuffer 2 "CoilSlits" E_Slit_readBuffer 0 0 F (some .int)) : Sn (zK w true p l e R s m args below meth c Q 2) F (fun _ => False) (fun _ => False) 0 0 0 d_Slit_readBuffer 0 0 0 := by
  unfold d_Slit_readBuffer
  exact (sn_sq (pm := 9) (m_blk h zz (by decide +kernel))
  (sn_sq (pm := 43) (sn_lop (pt := 17) (pu := 40) (p2 := 40) (px := 43) (kb2 := fun _ => False) (kc2 := fun _ => False) (sc_no (m_cat h zz (p1 := 14) (tgt := 43) (by decide +kernel) (by decide +kernel) (by decide)))
  (sn_sq (pm := 37) (sn_ite (pt := 35) (pf := 37) (sc_no (m_cat h zz (p1 := 32) (tgt := 37) (by decide +kernel) (by decide +kernel) (by decide)))
  (m_rti h zz (p1 := 36) (by decide +kernel) (by decide +kernel) (Nat.zero_le _) (Nat.zero_le _))
  (m_blk h zz rfl))
  (m_blk h zz (by decide +kernel)))
  (m_blk h zz rfl) (m_goto h (off := (-31)) (by decide +kernel) (by decide)) zFU)
  (m_rti h zz (p1 := 47) (by decide +kernel) (by decide +kernel) (Nat.zero_le _) (Nat.zero_le _))))
theorem ct_Slit_readBuffer (w : Wd) (l : Launch) (hw : zWok w) : CT w l y_Slit_readBuffer b_Slit_readBuffer 2 (some .int) r_Slit_readBuffer (exb true 2 d_Slit_readBuffer) :=
  ct_plain (by decide +kernel) (fun p e s m args below meth c Q cx hnm => eo_Slit_readBuffer hw cx) (fun p e s m args below meth c Q F h => sn_Slit_readBuffer h)
theorem q_Slit_readBuffer {a : Nat} {fs : List Value} {M : Hp} {nx : Nat}  (h : M a = some (cO 5 fs)) : x_Slit_readBuffer [.ref a] (M, nx) = zres (d_Slit_readBuffer ([some (.ref a), none], [], (M, nx))) := q_ofV [some (.ref a), none] h rfl (Nat.le_of_ble_eq_true rfl) (Or.inr rfl)
theorem lc_Slit_readBuffer_290 : lookI (eC E_Slit_readBuffer) (.invokevirtual 290) = some (1, x_Read_restart) := rfl
theorem lc_Slit_readBuffer_272 : lookI (eC E_Slit_readBuffer) (.invokevirtual 272) = some (2, x_Row_get) := rfl
theorem lc_Slit_readBuffer_293 : lookI (eC E_Slit_readBuffer) (.invokevirtual 293) = some (2, x_Read_accepts) := rfl
theorem lf_Slit_readBuffer_38 : lookN (eF E_Slit_readBuffer) 38 = some (5, 4) := rfl
theorem lf_Slit_readBuffer_174 : lookN (eF E_Slit_readBuffer) 174 = some (5, 5) := rfl
theorem lf_Slit_readBuffer_31 : lookN (eF E_Slit_readBuffer) 31 = some (5, 3) := rfl
theorem lb_Slit_readBuffer : eB E_Slit_readBuffer = true := rfl
-- CoilSlits.firstError
def E_Slit_firstError : Env := (true, [], [(.invokevirtual 183, 1, x_Slit_readBuffer)], [], [], zST, false)
def d_Slit_firstError : Dn := (rti E_Slit_firstError [.aload_n 0, .invokevirtual 183])
def x_Slit_firstError : Ex := zrv 5 (exb true 1 d_Slit_firstError)
abbrev r_Slit_firstError : Room := ({ frames := 4, cells := 0, slots := 0, locals := 85 } : Room)
theorem eo_Slit_firstError (hw : zWok w) (cx : CX w p s m args c b_Slit_firstError 1 "CoilSlits") : EnvOk w true p l e r_Slit_firstError s m args below meth c Q b_Slit_firstError 1 "CoilSlits" E_Slit_firstError :=
  ⟨rfl, by decide +kernel, by decide +kernel, by decide +kernel, hw, fun h => absurd h (by decide),
  List.forall_mem_cons.mpr ⟨call_V cx (ct_Slit_readBuffer w l hw) tw_295 tw_292 tw_1 tw_294 tp_9 (ci := 5) (Nat.le_of_ble_eq_true rfl) rfl (by decide +kernel) ⟨Nat.le_of_ble_eq_true rfl, Nat.le_of_ble_eq_true rfl⟩, fun q hq => absurd hq List.not_mem_nil⟩⟩
theorem sn_Slit_firstError (h : MC w true p l e R s m args below meth c Q b_Slit_firstError 1 "CoilSlits" E_Slit_firstError 0 0 F (some .int)) : Sn (zK w true p l e R s m args below meth c Q 1) F (fun _ => False) (fun _ => False) 0 0 0 d_Slit_firstError 0 0 0 := by
  unfold d_Slit_firstError
  exact (m_rti h zz (p1 := 4) (by decide +kernel) (by decide +kernel) (Nat.zero_le _) (Nat.zero_le _))
theorem ct_Slit_firstError (w : Wd) (l : Launch) (hw : zWok w) : CT w l y_Slit_firstError b_Slit_firstError 1 (some .int) r_Slit_firstError (exb true 1 d_Slit_firstError) :=
  ct_plain (by decide +kernel) (fun p e s m args below meth c Q cx hnm => eo_Slit_firstError hw cx) (fun p e s m args below meth c Q F h => sn_Slit_firstError h)
theorem q_Slit_firstError {a : Nat} {fs : List Value} {M : Hp} {nx : Nat}  (h : M a = some (cO 5 fs)) : x_Slit_firstError [.ref a] (M, nx) = zres (d_Slit_firstError ([some (.ref a)], [], (M, nx))) := q_ofV [some (.ref a)] h rfl (Nat.le_of_ble_eq_true rfl) (Or.inr rfl)
theorem lc_Slit_firstError_183 : lookI (eC E_Slit_firstError) (.invokevirtual 183) = some (1, x_Slit_readBuffer) := rfl
theorem lb_Slit_firstError : eB E_Slit_firstError = true := rfl
-- CoilSlits.beginTrial
def E_Slit_beginTrial : Env := (true, [(16, 5, 1), (12, 5, 0)], [(.invokevirtual 284, 2, x_Yard_copyFrom), (.invokevirtual 168, 3, x_Yard_changeSetting)], [], [], zST, false)
def d_Slit_beginTrial : Dn := (rtv E_Slit_beginTrial [.aload_n 0, .getfield 16, .aload_n 0, .getfield 12, .invokevirtual 284, .aload_n 0, .getfield 16, .iconst 3, .iload_n 1, .invokevirtual 168])
def x_Slit_beginTrial : Ex := zrv 5 (exb true 2 d_Slit_beginTrial)
abbrev r_Slit_beginTrial : Room := ({ frames := 3, cells := 0, slots := 0, locals := 103 } : Room)
theorem eo_Slit_beginTrial (hw : zWok w) (cx : CX w p s m args c b_Slit_beginTrial 2 "CoilSlits") : EnvOk w true p l e r_Slit_beginTrial s m args below meth c Q b_Slit_beginTrial 2 "CoilSlits" E_Slit_beginTrial :=
  ⟨rfl, by decide +kernel, by decide +kernel, by decide +kernel, hw, fun h => absurd h (by decide),
  List.forall_mem_cons.mpr ⟨call_V cx (ct_Yard_copyFrom w l hw) tw_171 tw_348 tw_2 tw_169 tw_170 (ci := 2) (Nat.le_of_ble_eq_true rfl) rfl (by decide +kernel) ⟨Nat.le_of_ble_eq_true rfl, Nat.le_of_ble_eq_true rfl⟩, List.forall_mem_cons.mpr ⟨call_V cx (ct_Yard_changeSetting w l hw) tw_352 tw_349 tw_2 tw_350 tw_351 (ci := 2) (Nat.le_of_ble_eq_true rfl) rfl (by decide +kernel) ⟨Nat.le_of_ble_eq_true rfl, Nat.le_of_ble_eq_true rfl⟩, fun q hq => absurd hq List.not_mem_nil⟩⟩⟩
theorem sn_Slit_beginTrial (h : MC w true p l e R s m args below meth c Q b_Slit_beginTrial 2 "CoilSlits" E_Slit_beginTrial 0 0 F none) : Sn (zK w true p l e R s m args below meth c Q 2) F (fun _ => False) (fun _ => False) 0 0 0 d_Slit_beginTrial 0 0 0 := by
  unfold d_Slit_beginTrial
  exact (m_rtv h zz (p1 := 20) (by decide +kernel) (by decide +kernel) (Nat.zero_le _) (Nat.zero_le _))
theorem ct_Slit_beginTrial (w : Wd) (l : Launch) (hw : zWok w) : CT w l y_Slit_beginTrial b_Slit_beginTrial 2 none r_Slit_beginTrial (exb true 2 d_Slit_beginTrial) :=
  ct_plain (by decide +kernel) (fun p e s m args below meth c Q cx hnm => eo_Slit_beginTrial hw cx) (fun p e s m args below meth c Q F h => sn_Slit_beginTrial h)
theorem q_Slit_beginTrial {a : Nat} {fs : List Value} {M : Hp} {nx : Nat} (x0 : Int32) (h : M a = some (cO 5 fs)) : x_Slit_beginTrial [.ref a, .int x0] (M, nx) = zres (d_Slit_beginTrial ([some (.ref a), some (.int x0)], [], (M, nx))) := q_ofV [some (.ref a), some (.int x0)] h rfl (Nat.le_of_ble_eq_true rfl) (Or.inr rfl)
theorem lc_Slit_beginTrial_284 : lookI (eC E_Slit_beginTrial) (.invokevirtual 284) = some (2, x_Yard_copyFrom) := rfl
theorem lc_Slit_beginTrial_168 : lookI (eC E_Slit_beginTrial) (.invokevirtual 168) = some (3, x_Yard_changeSetting) := rfl
theorem lf_Slit_beginTrial_16 : lookN (eF E_Slit_beginTrial) 16 = some (5, 1) := rfl
theorem lf_Slit_beginTrial_12 : lookN (eF E_Slit_beginTrial) 12 = some (5, 0) := rfl
theorem lb_Slit_beginTrial : eB E_Slit_beginTrial = true := rfl
-- CoilSlits.bestRule
def E_Slit_bestRule : Env := (true, [(16, 5, 1)], [(.invokevirtual 233, 2, x_Slit_beginTrial), (.invokevirtual 148, 1, x_Yard_fulfilEach), (.invokevirtual 239, 2, x_Yard_tally)], [], [], zST, false)
def d_Slit_bestRule : Dn := (sq (blk E_Slit_bestRule [.iconst 0, .istore_n 1, .iconst 0, .istore_n 2, .iconst 0, .istore_n 3, .iconst 0, .istore 4, .iconst 0, .istore 5])
  (sq (lop (cfo [6, 7, 8, 9] (cno (cat E_Slit_bestRule [.iload 5, .iconst 3] (.if_icmp .ge 116))))
  (sq (blk E_Slit_bestRule [.aload_n 0, .iload 5, .invokevirtual 233, .aload_n 0, .getfield 16, .invokevirtual 148, .pop, .aload_n 0, .getfield 16, .bipush 10, .invokevirtual 239, .istore 6, .aload_n 0, .getfield 16, .bipush 9, .invokevirtual 239, .istore 7, .aload_n 0, .getfield 16, .iconst 5, .invokevirtual 239, .istore 8])
  (sq (ite' (cor (cat E_Slit_bestRule [.iload 7, .iload_n 3] (.if_icmp .lt 16)) (can (cno (cat E_Slit_bestRule [.iload 7, .iload_n 3] (.if_icmp .ne 14))) (cno (cat E_Slit_bestRule [.iload 8, .iload 4] (.if_icmp .ge 7)))))
  (blk E_Slit_bestRule [.iconst 1])
  (blk E_Slit_bestRule [.iconst 0]))
  (sq (blk E_Slit_bestRule [.istore 9])
  (sq (ite' (cor (cat E_Slit_bestRule [.iload 5] (.ifCond .eq 20)) (cor (cat E_Slit_bestRule [.iload 6, .iload_n 2] (.if_icmp .gt 14)) (can (cno (cat E_Slit_bestRule [.iload 6, .iload_n 2] (.if_icmp .ne 21))) (cno (cat E_Slit_bestRule [.iload 9] (.ifCond .eq 16))))))
  (blk E_Slit_bestRule [.iload 5, .istore_n 1, .iload 6, .istore_n 2, .iload 7, .istore_n 3, .iload 8, .istore 4])
  (blk E_Slit_bestRule []))
  (blk E_Slit_bestRule [.iinc 5 1])))))
  (blk E_Slit_bestRule []) zFU)
  (rti E_Slit_bestRule [.iload_n 1])))
def x_Slit_bestRule : Ex := zrv 5 (exb true 10 d_Slit_bestRule)
abbrev r_Slit_bestRule : Room := ({ frames := 6, cells := 0, slots := 0, locals := 183 } : Room)
theorem eo_Slit_bestRule (hw : zWok w) (cx : CX w p s m args c b_Slit_bestRule 10 "CoilSlits") : EnvOk w true p l e r_Slit_bestRule s m args below meth c Q b_Slit_bestRule 10 "CoilSlits" E_Slit_bestRule :=
  ⟨rfl, by decide +kernel, by decide +kernel, by decide +kernel, hw, fun h => absurd h (by decide),
  List.forall_mem_cons.mpr ⟨call_V cx (ct_Slit_beginTrial w l hw) tw_347 tw_344 tw_1 tw_346 tp_17 (ci := 5) (Nat.le_of_ble_eq_true rfl) rfl (by decide +kernel) ⟨Nat.le_of_ble_eq_true rfl, Nat.le_of_ble_eq_true rfl⟩, List.forall_mem_cons.mpr ⟨call_V cx (ct_Yard_fulfilEach w l hw) tw_192 tw_189 tw_2 tw_190 tw_191 (ci := 2) (Nat.le_of_ble_eq_true rfl) rfl (by decide +kernel) ⟨Nat.le_of_ble_eq_true rfl, Nat.le_of_ble_eq_true rfl⟩, List.forall_mem_cons.mpr ⟨call_V cx (ct_Yard_tally w l hw) tw_356 tw_353 tw_2 tw_354 tw_355 (ci := 2) (Nat.le_of_ble_eq_true rfl) rfl (by decide +kernel) ⟨Nat.le_of_ble_eq_true rfl, Nat.le_of_ble_eq_true rfl⟩, fun q hq => absurd hq List.not_mem_nil⟩⟩⟩⟩
theorem sn_Slit_bestRule (h : MC w true p l e R s m args below meth c Q b_Slit_bestRule 10 "CoilSlits" E_Slit_bestRule 0 0 F (some .int)) : Sn (zK w true p l e R s m args below meth c Q 10) F (fun _ => False) (fun _ => False) 0 0 0 d_Slit_bestRule 0 0 0 := by
  unfold d_Slit_bestRule
  exact (sn_sq (pm := 12) (m_blk h zz (by decide +kernel))
  (sn_sq (pm := 131) (sn_lop (pt := 18) (pu := 128) (p2 := 128) (px := 131) (kb2 := fun _ => False) (kc2 := fun _ => False) (sc_fo m_fo (sc_no (m_cat h zz (p1 := 15) (tgt := 131) (by decide +kernel) (by decide +kernel) (by decide))))
  (sn_sq (pm := 64) (m_blk h zz (by decide +kernel))
  (sn_sq (pm := 88) (sn_ite (pt := 83) (pf := 87) (sc_or (pm := 70) (m_cat h zz (p1 := 67) (tgt := 83) (by decide +kernel) (by decide +kernel) (by decide)) (sc_an (pm := 76) (sc_no (m_cat h zz (p1 := 73) (tgt := 87) (by decide +kernel) (by decide +kernel) (by decide))) (sc_no (m_cat h zz (p1 := 80) (tgt := 87) (by decide +kernel) (by decide +kernel) (by decide)))))
  (sn_goto (pm := 84) (m_blk h zz (by decide +kernel)) (m_goto h (off := 4) (by decide +kernel) (by decide)))
  (m_blk h zz (by decide +kernel)))
  (sn_sq (pm := 90) (m_blk h zz (by decide +kernel))
  (sn_sq (pm := 125) (sn_ite (pt := 112) (pf := 125) (sc_or (pm := 95) (m_cat h zz (p1 := 92) (tgt := 112) (by decide +kernel) (by decide +kernel) (by decide)) (sc_or (pm := 101) (m_cat h zz (p1 := 98) (tgt := 112) (by decide +kernel) (by decide +kernel) (by decide)) (sc_an (pm := 107) (sc_no (m_cat h zz (p1 := 104) (tgt := 125) (by decide +kernel) (by decide +kernel) (by decide))) (sc_no (m_cat h zz (p1 := 109) (tgt := 125) (by decide +kernel) (by decide +kernel) (by decide))))))
  (m_blk h zz (by decide +kernel))
  (m_blk h zz rfl))
  (m_blk h zz (by decide +kernel))))))
  (m_blk h zz rfl) (m_goto h (off := (-116)) (by decide +kernel) (by decide)) zFU)
  (m_rti h zz (p1 := 132) (by decide +kernel) (by decide +kernel) (Nat.zero_le _) (Nat.zero_le _))))
theorem ct_Slit_bestRule (w : Wd) (l : Launch) (hw : zWok w) : CT w l y_Slit_bestRule b_Slit_bestRule 10 (some .int) r_Slit_bestRule (exb true 10 d_Slit_bestRule) :=
  ct_plain (by decide +kernel) (fun p e s m args below meth c Q cx hnm => eo_Slit_bestRule hw cx) (fun p e s m args below meth c Q F h => sn_Slit_bestRule h)
theorem q_Slit_bestRule {a : Nat} {fs : List Value} {M : Hp} {nx : Nat}  (h : M a = some (cO 5 fs)) : x_Slit_bestRule [.ref a] (M, nx) = zres (d_Slit_bestRule ([some (.ref a), none, none, none, none, none, none, none, none, none], [], (M, nx))) := q_ofV [some (.ref a), none, none, none, none, none, none, none, none, none] h rfl (Nat.le_of_ble_eq_true rfl) (Or.inr rfl)
theorem lc_Slit_bestRule_233 : lookI (eC E_Slit_bestRule) (.invokevirtual 233) = some (2, x_Slit_beginTrial) := rfl
theorem lc_Slit_bestRule_148 : lookI (eC E_Slit_bestRule) (.invokevirtual 148) = some (1, x_Yard_fulfilEach) := rfl
theorem lc_Slit_bestRule_239 : lookI (eC E_Slit_bestRule) (.invokevirtual 239) = some (2, x_Yard_tally) := rfl
theorem lf_Slit_bestRule_16 : lookN (eF E_Slit_bestRule) 16 = some (5, 1) := rfl
theorem lb_Slit_bestRule : eB E_Slit_bestRule = true := rfl
-- CoilSlits.bestStack
def E_Slit_bestStack : Env := (true, [(12, 5, 0)], [(.invokevirtual 242, 2, x_Yard_widerThanTop), (.invokevirtual 80, 2, x_Yard_heightOf), (.invokevirtual 62, 2, x_Yard_hasRoom)], [], [], zST, false)
def d_Slit_bestStack : Dn := (sq (blk E_Slit_bestStack [.iconst (-1), .istore_n 1, .iconst 0, .istore_n 2, .iconst 0, .istore_n 3])
  (sq (lop (cfo [4, 5, 6] (cno (cat E_Slit_bestStack [.iload_n 3, .bipush 6] (.if_icmp .ge 95))))
  (sq (blk E_Slit_bestStack [.aload_n 0, .getfield 12, .iload_n 3, .invokevirtual 242, .istore 4])
  (sq (ite' (cno (cat E_Slit_bestStack [.aload_n 0, .getfield 12, .iload_n 3, .invokevirtual 80, .aload_n 0, .getfield 12, .iload_n 1, .invokevirtual 80] (.if_icmp .ge 7)))
  (blk E_Slit_bestStack [.iconst 1])
  (blk E_Slit_bestStack [.iconst 0]))
  (sq (blk E_Slit_bestStack [.istore 5])
  (sq (ite' (cor (cat E_Slit_bestStack [.iload_n 1, .iconst (-1)] (.if_icmp .eq 20)) (cor (cat E_Slit_bestStack [.iload 4, .iload_n 2] (.if_icmp .lt 14)) (can (cno (cat E_Slit_bestStack [.iload 4, .iload_n 2] (.if_icmp .ne 12))) (cno (cat E_Slit_bestStack [.iload 5] (.ifCond .eq 7))))))
  (blk E_Slit_bestStack [.iconst 1])
  (blk E_Slit_bestStack [.iconst 0]))
  (sq (blk E_Slit_bestStack [.istore 6])
  (sq (ite' (can (cno (cat E_Slit_bestStack [.aload_n 0, .getfield 12, .iload_n 3, .invokevirtual 62] (.ifCond .eq 13))) (cno (cat E_Slit_bestStack [.iload 6] (.ifCond .eq 8))))
  (blk E_Slit_bestStack [.iload_n 3, .istore_n 1, .iload 4, .istore_n 2])
  (blk E_Slit_bestStack []))
  (blk E_Slit_bestStack [.iinc 3 1])))))))
  (blk E_Slit_bestStack []) zFU)
  (rti E_Slit_bestStack [.iload_n 1])))
def x_Slit_bestStack : Ex := zrv 5 (exb true 7 d_Slit_bestStack)
abbrev r_Slit_bestStack : Room := ({ frames := 2, cells := 0, slots := 0, locals := 49 } : Room)
theorem eo_Slit_bestStack (hw : zWok w) (cx : CX w p s m args c b_Slit_bestStack 7 "CoilSlits") : EnvOk w true p l e r_Slit_bestStack s m args below meth c Q b_Slit_bestStack 7 "CoilSlits" E_Slit_bestStack :=
  ⟨rfl, by decide +kernel, by decide +kernel, by decide +kernel, hw, fun h => absurd h (by decide),
  List.forall_mem_cons.mpr ⟨call_V cx (ct_Yard_widerThanTop w l hw) tw_364 tw_361 tw_2 tw_362 tw_363 (ci := 2) (Nat.le_of_ble_eq_true rfl) rfl (by decide +kernel) ⟨Nat.le_of_ble_eq_true rfl, Nat.le_of_ble_eq_true rfl⟩, List.forall_mem_cons.mpr ⟨call_V cx (ct_Yard_heightOf w l hw) tw_368 tw_365 tw_2 tw_366 tw_367 (ci := 2) (Nat.le_of_ble_eq_true rfl) rfl (by decide +kernel) ⟨Nat.le_of_ble_eq_true rfl, Nat.le_of_ble_eq_true rfl⟩, List.forall_mem_cons.mpr ⟨call_V cx (ct_Yard_hasRoom w l hw) tw_372 tw_369 tw_2 tw_370 tw_371 (ci := 2) (Nat.le_of_ble_eq_true rfl) rfl (by decide +kernel) ⟨Nat.le_of_ble_eq_true rfl, Nat.le_of_ble_eq_true rfl⟩, fun q hq => absurd hq List.not_mem_nil⟩⟩⟩⟩
theorem sn_Slit_bestStack (h : MC w true p l e R s m args below meth c Q b_Slit_bestStack 7 "CoilSlits" E_Slit_bestStack 0 0 F (some .int)) : Sn (zK w true p l e R s m args below meth c Q 7) F (fun _ => False) (fun _ => False) 0 0 0 d_Slit_bestStack 0 0 0 := by
  unfold d_Slit_bestStack
  exact (sn_sq (pm := 6) (m_blk h zz (by decide +kernel))
  (sn_sq (pm := 104) (sn_lop (pt := 12) (pu := 101) (p2 := 101) (px := 104) (kb2 := fun _ => False) (kc2 := fun _ => False) (sc_fo m_fo (sc_no (m_cat h zz (p1 := 9) (tgt := 104) (by decide +kernel) (by decide +kernel) (by decide))))
  (sn_sq (pm := 22) (m_blk h zz (by decide +kernel))
  (sn_sq (pm := 46) (sn_ite (pt := 41) (pf := 45) (sc_no (m_cat h zz (p1 := 38) (tgt := 45) (by decide +kernel) (by decide +kernel) (by decide)))
  (sn_goto (pm := 42) (m_blk h zz (by decide +kernel)) (m_goto h (off := 4) (by decide +kernel) (by decide)))
  (m_blk h zz (by decide +kernel)))
  (sn_sq (pm := 48) (m_blk h zz (by decide +kernel))
  (sn_sq (pm := 75) (sn_ite (pt := 70) (pf := 74) (sc_or (pm := 53) (m_cat h zz (p1 := 50) (tgt := 70) (by decide +kernel) (by decide +kernel) (by decide)) (sc_or (pm := 59) (m_cat h zz (p1 := 56) (tgt := 70) (by decide +kernel) (by decide +kernel) (by decide)) (sc_an (pm := 65) (sc_no (m_cat h zz (p1 := 62) (tgt := 74) (by decide +kernel) (by decide +kernel) (by decide))) (sc_no (m_cat h zz (p1 := 67) (tgt := 74) (by decide +kernel) (by decide +kernel) (by decide))))))
  (sn_goto (pm := 71) (m_blk h zz (by decide +kernel)) (m_goto h (off := 4) (by decide +kernel) (by decide)))
  (m_blk h zz (by decide +kernel)))
  (sn_sq (pm := 77) (m_blk h zz (by decide +kernel))
  (sn_sq (pm := 98) (sn_ite (pt := 93) (pf := 98) (sc_an (pm := 88) (sc_no (m_cat h zz (p1 := 85) (tgt := 98) (by decide +kernel) (by decide +kernel) (by decide))) (sc_no (m_cat h zz (p1 := 90) (tgt := 98) (by decide +kernel) (by decide +kernel) (by decide))))
  (m_blk h zz (by decide +kernel))
  (m_blk h zz rfl))
  (m_blk h zz (by decide +kernel))))))))
  (m_blk h zz rfl) (m_goto h (off := (-95)) (by decide +kernel) (by decide)) zFU)
  (m_rti h zz (p1 := 105) (by decide +kernel) (by decide +kernel) (Nat.zero_le _) (Nat.zero_le _))))
theorem ct_Slit_bestStack (w : Wd) (l : Launch) (hw : zWok w) : CT w l y_Slit_bestStack b_Slit_bestStack 7 (some .int) r_Slit_bestStack (exb true 7 d_Slit_bestStack) :=
  ct_plain (by decide +kernel) (fun p e s m args below meth c Q cx hnm => eo_Slit_bestStack hw cx) (fun p e s m args below meth c Q F h => sn_Slit_bestStack h)
theorem q_Slit_bestStack {a : Nat} {fs : List Value} {M : Hp} {nx : Nat}  (h : M a = some (cO 5 fs)) : x_Slit_bestStack [.ref a] (M, nx) = zres (d_Slit_bestStack ([some (.ref a), none, none, none, none, none, none], [], (M, nx))) := q_ofV [some (.ref a), none, none, none, none, none, none] h rfl (Nat.le_of_ble_eq_true rfl) (Or.inr rfl)
theorem lc_Slit_bestStack_242 : lookI (eC E_Slit_bestStack) (.invokevirtual 242) = some (2, x_Yard_widerThanTop) := rfl
theorem lc_Slit_bestStack_80 : lookI (eC E_Slit_bestStack) (.invokevirtual 80) = some (2, x_Yard_heightOf) := rfl
theorem lc_Slit_bestStack_62 : lookI (eC E_Slit_bestStack) (.invokevirtual 62) = some (2, x_Yard_hasRoom) := rfl
theorem lf_Slit_bestStack_12 : lookN (eF E_Slit_bestStack) 12 = some (5, 0) := rfl
theorem lb_Slit_bestStack : eB E_Slit_bestStack = true := rfl
-- CoilSlits.used
def E_Slit_used : Env := (true, [(12, 5, 0)], [(.invokevirtual 239, 2, x_Yard_tally)], [], [], zST, false)
def d_Slit_used : Dn := (sq (blk E_Slit_used [.aload_n 0, .getfield 12, .bipush 7, .invokevirtual 239, .istore_n 1, .iload_n 1, .aload_n 0, .getfield 12, .bipush 8, .invokevirtual 239, .iadd, .aload_n 0, .getfield 12, .bipush 9, .invokevirtual 239, .iadd, .istore_n 2])
  (sq (ite' (cno (cat E_Slit_used [.iload_n 2] (.ifCond .ne 7)))
  (blk E_Slit_used [.dconst 1])
  (blk E_Slit_used [.iload_n 1, .i2d, .iload_n 2, .i2d, .ddiv]))
  (rtd E_Slit_used [])))
def x_Slit_used : Ex := zrv 5 (exb true 3 d_Slit_used)
abbrev r_Slit_used : Room := ({ frames := 2, cells := 0, slots := 0, locals := 42 } : Room)
theorem eo_Slit_used (hw : zWok w) (cx : CX w p s m args c b_Slit_used 3 "CoilSlits") : EnvOk w true p l e r_Slit_used s m args below meth c Q b_Slit_used 3 "CoilSlits" E_Slit_used :=
  ⟨rfl, by decide +kernel, by decide +kernel, by decide +kernel, hw, fun h => absurd h (by decide),
  List.forall_mem_cons.mpr ⟨call_V cx (ct_Yard_tally w l hw) tw_356 tw_353 tw_2 tw_354 tw_355 (ci := 2) (Nat.le_of_ble_eq_true rfl) rfl (by decide +kernel) ⟨Nat.le_of_ble_eq_true rfl, Nat.le_of_ble_eq_true rfl⟩, fun q hq => absurd hq List.not_mem_nil⟩⟩
theorem sn_Slit_used (h : MC w true p l e R s m args below meth c Q b_Slit_used 3 "CoilSlits" E_Slit_used 0 0 F (some .double)) : Sn (zK w true p l e R s m args below meth c Q 3) F (fun _ => False) (fun _ => False) 0 0 0 d_Slit_used 0 0 0 := by
  unfold d_Slit_used
  exact (sn_sq (pm := 32) (m_blk h zz (by decide +kernel))
  (sn_sq (pm := 45) (sn_ite (pt := 36) (pf := 40) (sc_no (m_cat h zz (p1 := 33) (tgt := 40) (by decide +kernel) (by decide +kernel) (by decide)))
  (sn_goto (pm := 37) (m_blk h zz (by decide +kernel)) (m_goto h (off := 8) (by decide +kernel) (by decide)))
  (m_blk h zz (by decide +kernel)))
  (m_rtd h zz (p1 := 45) (by decide +kernel) (by decide +kernel) (Nat.zero_le _) (Nat.zero_le _))))
theorem ct_Slit_used (w : Wd) (l : Launch) (hw : zWok w) : CT w l y_Slit_used b_Slit_used 3 (some .double) r_Slit_used (exb true 3 d_Slit_used) :=
  ct_plain (by decide +kernel) (fun p e s m args below meth c Q cx hnm => eo_Slit_used hw cx) (fun p e s m args below meth c Q F h => sn_Slit_used h)
theorem q_Slit_used {a : Nat} {fs : List Value} {M : Hp} {nx : Nat}  (h : M a = some (cO 5 fs)) : x_Slit_used [.ref a] (M, nx) = zres (d_Slit_used ([some (.ref a), none, none], [], (M, nx))) := q_ofV [some (.ref a), none, none] h rfl (Nat.le_of_ble_eq_true rfl) (Or.inr rfl)
theorem lc_Slit_used_239 : lookI (eC E_Slit_used) (.invokevirtual 239) = some (2, x_Yard_tally) := rfl
theorem lf_Slit_used_12 : lookN (eF E_Slit_used) 12 = some (5, 0) := rfl
theorem lb_Slit_used : eB E_Slit_used = true := rfl
-- CoilSlits$History.kept
def E_Hist_kept : Env := (true, [(18, 3, 2)], [], [], [], zST, false)
def d_Hist_kept : Dn := (rti E_Hist_kept [.aload_n 0, .getfield 18])
def x_Hist_kept : Ex := zrv 3 (exb true 1 d_Hist_kept)
abbrev r_Hist_kept : Room := ({ frames := 0, cells := 0, slots := 0, locals := 0 } : Room)
theorem eo_Hist_kept (hw : zWok w) (cx : CX w p s m args c b_Hist_kept 1 "CoilSlits$History") : EnvOk w true p l e r_Hist_kept s m args below meth c Q b_Hist_kept 1 "CoilSlits$History" E_Hist_kept :=
  ⟨rfl, by decide +kernel, by decide +kernel, by decide +kernel, hw, fun h => absurd h (by decide),
  fun q hq => absurd hq List.not_mem_nil⟩
theorem sn_Hist_kept (h : MC w true p l e R s m args below meth c Q b_Hist_kept 1 "CoilSlits$History" E_Hist_kept 0 0 F (some .int)) : Sn (zK w true p l e R s m args below meth c Q 1) F (fun _ => False) (fun _ => False) 0 0 0 d_Hist_kept 0 0 0 := by
  unfold d_Hist_kept
  exact (m_rti h zz (p1 := 4) (by decide +kernel) (by decide +kernel) (Nat.zero_le _) (Nat.zero_le _))
theorem ct_Hist_kept (w : Wd) (l : Launch) (hw : zWok w) : CT w l y_Hist_kept b_Hist_kept 1 (some .int) r_Hist_kept (exb true 1 d_Hist_kept) :=
  ct_plain (by decide +kernel) (fun p e s m args below meth c Q cx hnm => eo_Hist_kept hw cx) (fun p e s m args below meth c Q F h => sn_Hist_kept h)
theorem q_Hist_kept {a : Nat} {fs : List Value} {M : Hp} {nx : Nat}  (h : M a = some (cO 3 fs)) : x_Hist_kept [.ref a] (M, nx) = zres (d_Hist_kept ([some (.ref a)], [], (M, nx))) := q_ofV [some (.ref a)] h rfl (Nat.le_of_ble_eq_true rfl) (Or.inr rfl)
theorem lf_Hist_kept_18 : lookN (eF E_Hist_kept) 18 = some (3, 2) := rfl
theorem lb_Hist_kept : eB E_Hist_kept = true := rfl
-- CoilSlits.counted
def E_Slit_counted : Env := (true, [(12, 5, 0), (22, 5, 2)], [(.invokevirtual 275, 1, x_Yard_coilCount), (.invokevirtual 278, 2, x_Yard_sumOfCoils), (.invokevirtual 111, 1, x_Yard_orderCount), (.invokevirtual 195, 1, x_Hist_kept), (.invokevirtual 239, 2, x_Yard_tally)], [], [], zST, false)
def d_Slit_counted : Dn := (swi E_Slit_counted [.iload_n 1] [(0, (rti E_Slit_counted [.aload_n 0, .getfield 12, .invokevirtual 275])), (1, (rti E_Slit_counted [.aload_n 0, .getfield 12, .iconst 0, .invokevirtual 278])), (2, (rti E_Slit_counted [.aload_n 0, .getfield 12, .iconst 3, .invokevirtual 278])), (3, (rti E_Slit_counted [.aload_n 0, .getfield 12, .invokevirtual 111])), (13, (rti E_Slit_counted [.aload_n 0, .getfield 22, .invokevirtual 195]))]
  (rti E_Slit_counted [.aload_n 0, .getfield 12, .iload_n 1, .invokevirtual 239]))
def x_Slit_counted : Ex := zrv 5 (exb true 2 d_Slit_counted)
abbrev r_Slit_counted : Room := ({ frames := 2, cells := 0, slots := 0, locals := 47 } : Room)
theorem eo_Slit_counted (hw : zWok w) (cx : CX w p s m args c b_Slit_counted 2 "CoilSlits") : EnvOk w true p l e r_Slit_counted s m args below meth c Q b_Slit_counted 2 "CoilSlits" E_Slit_counted :=
  ⟨rfl, by decide +kernel, by decide +kernel, by decide +kernel, hw, fun h => absurd h (by decide),
  List.forall_mem_cons.mpr ⟨call_V cx (ct_Yard_coilCount w l hw) tw_389 tw_386 tw_2 tw_387 tw_388 (ci := 2) (Nat.le_of_ble_eq_true rfl) rfl (by decide +kernel) ⟨Nat.le_of_ble_eq_true rfl, Nat.le_of_ble_eq_true rfl⟩, List.forall_mem_cons.mpr ⟨call_V cx (ct_Yard_sumOfCoils w l hw) tw_393 tw_390 tw_2 tw_391 tw_392 (ci := 2) (Nat.le_of_ble_eq_true rfl) rfl (by decide +kernel) ⟨Nat.le_of_ble_eq_true rfl, Nat.le_of_ble_eq_true rfl⟩, List.forall_mem_cons.mpr ⟨call_V cx (ct_Yard_orderCount w l hw) tw_397 tw_394 tw_2 tw_395 tw_396 (ci := 2) (Nat.le_of_ble_eq_true rfl) rfl (by decide +kernel) ⟨Nat.le_of_ble_eq_true rfl, Nat.le_of_ble_eq_true rfl⟩, List.forall_mem_cons.mpr ⟨call_V cx (ct_Hist_kept w l hw) tw_401 tw_398 tw_6 tw_399 tw_400 (ci := 3) (Nat.le_of_ble_eq_true rfl) rfl (by decide +kernel) ⟨Nat.le_of_ble_eq_true rfl, Nat.le_of_ble_eq_true rfl⟩, List.forall_mem_cons.mpr ⟨call_V cx (ct_Yard_tally w l hw) tw_356 tw_353 tw_2 tw_354 tw_355 (ci := 2) (Nat.le_of_ble_eq_true rfl) rfl (by decide +kernel) ⟨Nat.le_of_ble_eq_true rfl, Nat.le_of_ble_eq_true rfl⟩, fun q hq => absurd hq List.not_mem_nil⟩⟩⟩⟩⟩⟩
theorem sn_Slit_counted (h : MC w true p l e R s m args below meth c Q b_Slit_counted 2 "CoilSlits" E_Slit_counted 0 0 F (some .int)) : Sn (zK w true p l e R s m args below meth c Q 2) F (fun _ => False) (fun _ => False) 0 0 0 d_Slit_counted 0 0 0 := by
  unfold d_Slit_counted
  exact (m_sw h zz (p1 := 1) (pd := 114) [(0, 72), (1, 80), (2, 89), (3, 98), (13, 106)] (by decide +kernel) (by decide +kernel)
  (swl_cons (m_rti h zz (p1 := 79) (by decide +kernel) (by decide +kernel) (Nat.zero_le _) (Nat.zero_le _))
  (swl_cons (m_rti h zz (p1 := 88) (by decide +kernel) (by decide +kernel) (Nat.zero_le _) (Nat.zero_le _))
  (swl_cons (m_rti h zz (p1 := 97) (by decide +kernel) (by decide +kernel) (Nat.zero_le _) (Nat.zero_le _))
  (swl_cons (m_rti h zz (p1 := 105) (by decide +kernel) (by decide +kernel) (Nat.zero_le _) (Nat.zero_le _))
  (swl_cons (m_rti h zz (p1 := 113) (by decide +kernel) (by decide +kernel) (Nat.zero_le _) (Nat.zero_le _))
  swl_nil)))))
  (m_rti h zz (p1 := 122) (by decide +kernel) (by decide +kernel) (Nat.zero_le _) (Nat.zero_le _)))
theorem ct_Slit_counted (w : Wd) (l : Launch) (hw : zWok w) : CT w l y_Slit_counted b_Slit_counted 2 (some .int) r_Slit_counted (exb true 2 d_Slit_counted) :=
  ct_plain (by decide +kernel) (fun p e s m args below meth c Q cx hnm => eo_Slit_counted hw cx) (fun p e s m args below meth c Q F h => sn_Slit_counted h)
theorem q_Slit_counted {a : Nat} {fs : List Value} {M : Hp} {nx : Nat} (x0 : Int32) (h : M a = some (cO 5 fs)) : x_Slit_counted [.ref a, .int x0] (M, nx) = zres (d_Slit_counted ([some (.ref a), some (.int x0)], [], (M, nx))) := q_ofV [some (.ref a), some (.int x0)] h rfl (Nat.le_of_ble_eq_true rfl) (Or.inr rfl)
theorem lc_Slit_counted_275 : lookI (eC E_Slit_counted) (.invokevirtual 275) = some (1, x_Yard_coilCount) := rfl
theorem lc_Slit_counted_278 : lookI (eC E_Slit_counted) (.invokevirtual 278) = some (2, x_Yard_sumOfCoils) := rfl
theorem lc_Slit_counted_111 : lookI (eC E_Slit_counted) (.invokevirtual 111) = some (1, x_Yard_orderCount) := rfl
theorem lc_Slit_counted_195 : lookI (eC E_Slit_counted) (.invokevirtual 195) = some (1, x_Hist_kept) := rfl
theorem lc_Slit_counted_239 : lookI (eC E_Slit_counted) (.invokevirtual 239) = some (2, x_Yard_tally) := rfl
theorem lf_Slit_counted_12 : lookN (eF E_Slit_counted) 12 = some (5, 0) := rfl
theorem lf_Slit_counted_22 : lookN (eF E_Slit_counted) 22 = some (5, 2) := rfl
theorem lb_Slit_counted : eB E_Slit_counted = true := rfl
-- CoilSlits.hashed
def E_Slit_hashed : Env := (false, [], [], [(311, .long 31)], [], zST, false)
def d_Slit_hashed : Dn := (rtl E_Slit_hashed [.ldc2_w 311, .lload_n 0, .lmul, .lload_n 2, .ladd])
def x_Slit_hashed : Ex := exb false 4 d_Slit_hashed
abbrev r_Slit_hashed : Room := ({ frames := 0, cells := 0, slots := 0, locals := 0 } : Room)
theorem eo_Slit_hashed (hw : zWok w) (cx : CX w p s m args c b_Slit_hashed 4 "CoilSlits") : EnvOk w false p l e r_Slit_hashed s m args below meth c Q b_Slit_hashed 4 "CoilSlits" E_Slit_hashed :=
  ⟨rfl, by decide +kernel, by decide +kernel, by decide +kernel, hw, fun h => absurd h (by decide),
  fun q hq => absurd hq List.not_mem_nil⟩
theorem sn_Slit_hashed (h : MC w false p l e R s m args below meth c Q b_Slit_hashed 4 "CoilSlits" E_Slit_hashed 0 0 F (some .long)) : Sn (zK w false p l e R s m args below meth c Q 4) F (fun _ => False) (fun _ => False) 0 0 0 d_Slit_hashed 0 0 0 := by
  unfold d_Slit_hashed
  exact (m_rtl h zz (p1 := 7) (by decide +kernel) (by decide +kernel) (Nat.zero_le _) (Nat.zero_le _))
theorem ct_Slit_hashed (w : Wd) (l : Launch) (hw : zWok w) : CT w l y_Slit_hashed b_Slit_hashed 4 (some .long) r_Slit_hashed (exb false 4 d_Slit_hashed) :=
  ct_plain (by decide +kernel) (fun p e s m args below meth c Q cx hnm => eo_Slit_hashed hw cx) (fun p e s m args below meth c Q F h => sn_Slit_hashed h)
theorem q_Slit_hashed (x0 : Int64) (x1 : Int64) (g : G) : x_Slit_hashed [.long x0, .long x1] g = zres (d_Slit_hashed ([some (.long x0), none, some (.long x1), none], [], g)) := q_of [some (.long x0), none, some (.long x1), none] rfl (Nat.le_of_ble_eq_true rfl) (Or.inl rfl)
theorem lk_Slit_hashed_311 : lookN (eK E_Slit_hashed) 311 = some (.long 31) := rfl
theorem lb_Slit_hashed : eB E_Slit_hashed = false := rfl
-- CoilSlits.hashedPlace
def E_Slit_hashedPlace : Env := (false, [(12, 5, 0)], [(.invokevirtual 205, 2, x_Yard_numberAt), (.invokestatic 247, 2, x_Slit_hashed), (.invokevirtual 215, 3, x_Yard_coilProperty)], [], [], zST, false)
def d_Slit_hashedPlace : Dn := (sq (blk E_Slit_hashedPlace [.aload_n 0, .getfield 12, .iload_n 3, .invokevirtual 205, .istore 4, .lload_n 1, .iload 4, .i2l, .invokestatic 247, .lstore 5])
  (sq (ite' (cno (cat E_Slit_hashedPlace [.iload 4, .iconst (-1)] (.if_icmp .eq 37)))
  (sq (blk E_Slit_hashedPlace [.iconst 0, .istore 7])
  (lop (cfo [4] (cno (cat E_Slit_hashedPlace [.iload 7, .bipush 6] (.if_icmp .ge 27))))
  (blk E_Slit_hashedPlace [.lload 5, .aload_n 0, .getfield 12, .iload_n 3, .iload 7, .invokevirtual 215, .i2l, .invokestatic 247, .lstore 5, .iinc 7 1])
  (blk E_Slit_hashedPlace []) zFU))
  (blk E_Slit_hashedPlace []))
  (rtl E_Slit_hashedPlace [.lload 5])))
def x_Slit_hashedPlace : Ex := zrv 5 (exb false 8 d_Slit_hashedPlace)
abbrev r_Slit_hashedPlace : Room := ({ frames := 3, cells := 0, slots := 0, locals := 64 } : Room)
theorem eo_Slit_hashedPlace (hw : zWok w) (cx : CX w p s m args c b_Slit_hashedPlace 8 "CoilSlits") : EnvOk w false p l e r_Slit_hashedPlace s m args below meth c Q b_Slit_hashedPlace 8 "CoilSlits" E_Slit_hashedPlace :=
  ⟨rfl, by decide +kernel, by decide +kernel, by decide +kernel, hw, fun h => absurd h (by decide),
  List.forall_mem_cons.mpr ⟨call_V cx (ct_Yard_numberAt w l hw) tw_417 tw_414 tw_2 tw_415 tw_416 (ci := 2) (Nat.le_of_ble_eq_true rfl) rfl (by decide +kernel) ⟨Nat.le_of_ble_eq_true rfl, Nat.le_of_ble_eq_true rfl⟩, List.forall_mem_cons.mpr ⟨call_S cx (ct_Slit_hashed w l hw) tw_404 tw_402 tw_1 tw_403 (by decide +kernel) ⟨Nat.le_of_ble_eq_true rfl, Nat.le_of_ble_eq_true rfl⟩, List.forall_mem_cons.mpr ⟨call_V cx (ct_Yard_coilProperty w l hw) tw_421 tw_418 tw_2 tw_419 tw_420 (ci := 2) (Nat.le_of_ble_eq_true rfl) rfl (by decide +kernel) ⟨Nat.le_of_ble_eq_true rfl, Nat.le_of_ble_eq_true rfl⟩, fun q hq => absurd hq List.not_mem_nil⟩⟩⟩⟩
theorem sn_Slit_hashedPlace (h : MC w false p l e R s m args below meth c Q b_Slit_hashedPlace 8 "CoilSlits" E_Slit_hashedPlace 0 0 F (some .long)) : Sn (zK w false p l e R s m args below meth c Q 8) F (fun _ => False) (fun _ => False) 0 0 0 d_Slit_hashedPlace 0 0 0 := by
  unfold d_Slit_hashedPlace
  exact (sn_sq (pm := 19) (m_blk h zz (by decide +kernel))
  (sn_sq (pm := 59) (sn_ite (pt := 25) (pf := 59) (sc_no (m_cat h zz (p1 := 22) (tgt := 59) (by decide +kernel) (by decide +kernel) (by decide)))
  (sn_sq (pm := 28) (m_blk h zz (by decide +kernel))
  (sn_lop (pt := 35) (pu := 56) (p2 := 56) (px := 59) (kb2 := fun _ => False) (kc2 := fun _ => False) (sc_fo m_fo (sc_no (m_cat h zz (p1 := 32) (tgt := 59) (by decide +kernel) (by decide +kernel) (by decide))))
  (m_blk h zz (by decide +kernel))
  (m_blk h zz rfl) (m_goto h (off := (-28)) (by decide +kernel) (by decide)) zFU))
  (m_blk h zz rfl))
  (m_rtl h zz (p1 := 61) (by decide +kernel) (by decide +kernel) (Nat.zero_le _) (Nat.zero_le _))))
theorem ct_Slit_hashedPlace (w : Wd) (l : Launch) (hw : zWok w) : CT w l y_Slit_hashedPlace b_Slit_hashedPlace 8 (some .long) r_Slit_hashedPlace (exb false 8 d_Slit_hashedPlace) :=
  ct_plain (by decide +kernel) (fun p e s m args below meth c Q cx hnm => eo_Slit_hashedPlace hw cx) (fun p e s m args below meth c Q F h => sn_Slit_hashedPlace h)
theorem q_Slit_hashedPlace {a : Nat} {fs : List Value} {M : Hp} {nx : Nat} (x0 : Int64) (x1 : Int32) (h : M a = some (cO 5 fs)) : x_Slit_hashedPlace [.ref a, .long x0, .int x1] (M, nx) = zres (d_Slit_hashedPlace ([some (.ref a), some (.long x0), none, some (.int x1), none, none, none, none], [], (M, nx))) := q_ofV [some (.ref a), some (.long x0), none, some (.int x1), none, none, none, none] h rfl (Nat.le_of_ble_eq_true rfl) (Or.inl rfl)
theorem lc_Slit_hashedPlace_205 : lookI (eC E_Slit_hashedPlace) (.invokevirtual 205) = some (2, x_Yard_numberAt) := rfl
theorem lc_Slit_hashedPlace_247 : lookI (eC E_Slit_hashedPlace) (.invokestatic 247) = some (2, x_Slit_hashed) := rfl
theorem lc_Slit_hashedPlace_215 : lookI (eC E_Slit_hashedPlace) (.invokevirtual 215) = some (3, x_Yard_coilProperty) := rfl
theorem lf_Slit_hashedPlace_12 : lookN (eF E_Slit_hashedPlace) 12 = some (5, 0) := rfl
theorem lb_Slit_hashedPlace : eB E_Slit_hashedPlace = false := rfl
-- CoilSlits.numberOfChoice
def E_Slit_numberOfChoice : Env := (true, [(12, 5, 0)], [(.invokevirtual 281, 2, x_Yard_choose), (.invokevirtual 205, 2, x_Yard_numberAt)], [], [], zST, false)
def d_Slit_numberOfChoice : Dn := (sq (blk E_Slit_numberOfChoice [.aload_n 0, .getfield 12, .iload_n 1, .invokevirtual 281, .istore_n 2])
  (sq (ite' (cno (cat E_Slit_numberOfChoice [.iload_n 2, .iconst (-1)] (.if_icmp .ne 7)))
  (blk E_Slit_numberOfChoice [.iconst (-1)])
  (blk E_Slit_numberOfChoice [.aload_n 0, .getfield 12, .iload_n 2, .invokevirtual 205]))
  (rti E_Slit_numberOfChoice [])))
def x_Slit_numberOfChoice : Ex := zrv 5 (exb true 3 d_Slit_numberOfChoice)
abbrev r_Slit_numberOfChoice : Room := ({ frames := 3, cells := 0, slots := 0, locals := 77 } : Room)
theorem eo_Slit_numberOfChoice (hw : zWok w) (cx : CX w p s m args c b_Slit_numberOfChoice 3 "CoilSlits") : EnvOk w true p l e r_Slit_numberOfChoice s m args below meth c Q b_Slit_numberOfChoice 3 "CoilSlits" E_Slit_numberOfChoice :=
  ⟨rfl, by decide +kernel, by decide +kernel, by decide +kernel, hw, fun h => absurd h (by decide),
  List.forall_mem_cons.mpr ⟨call_V cx (ct_Yard_choose w l hw) tw_208 tw_446 tw_2 tw_206 tw_207 (ci := 2) (Nat.le_of_ble_eq_true rfl) rfl (by decide +kernel) ⟨Nat.le_of_ble_eq_true rfl, Nat.le_of_ble_eq_true rfl⟩, List.forall_mem_cons.mpr ⟨call_V cx (ct_Yard_numberAt w l hw) tw_417 tw_414 tw_2 tw_415 tw_416 (ci := 2) (Nat.le_of_ble_eq_true rfl) rfl (by decide +kernel) ⟨Nat.le_of_ble_eq_true rfl, Nat.le_of_ble_eq_true rfl⟩, fun q hq => absurd hq List.not_mem_nil⟩⟩⟩
theorem sn_Slit_numberOfChoice (h : MC w true p l e R s m args below meth c Q b_Slit_numberOfChoice 3 "CoilSlits" E_Slit_numberOfChoice 0 0 F (some .int)) : Sn (zK w true p l e R s m args below meth c Q 3) F (fun _ => False) (fun _ => False) 0 0 0 d_Slit_numberOfChoice 0 0 0 := by
  unfold d_Slit_numberOfChoice
  exact (sn_sq (pm := 9) (m_blk h zz (by decide +kernel))
  (sn_sq (pm := 26) (sn_ite (pt := 14) (pf := 18) (sc_no (m_cat h zz (p1 := 11) (tgt := 18) (by decide +kernel) (by decide +kernel) (by decide)))
  (sn_goto (pm := 15) (m_blk h zz (by decide +kernel)) (m_goto h (off := 11) (by decide +kernel) (by decide)))
  (m_blk h zz (by decide +kernel)))
  (m_rti h zz (p1 := 26) (by decide +kernel) (by decide +kernel) (Nat.zero_le _) (Nat.zero_le _))))
theorem ct_Slit_numberOfChoice (w : Wd) (l : Launch) (hw : zWok w) : CT w l y_Slit_numberOfChoice b_Slit_numberOfChoice 3 (some .int) r_Slit_numberOfChoice (exb true 3 d_Slit_numberOfChoice) :=
  ct_plain (by decide +kernel) (fun p e s m args below meth c Q cx hnm => eo_Slit_numberOfChoice hw cx) (fun p e s m args below meth c Q F h => sn_Slit_numberOfChoice h)
theorem q_Slit_numberOfChoice {a : Nat} {fs : List Value} {M : Hp} {nx : Nat} (x0 : Int32) (h : M a = some (cO 5 fs)) : x_Slit_numberOfChoice [.ref a, .int x0] (M, nx) = zres (d_Slit_numberOfChoice ([some (.ref a), some (.int x0), none], [], (M, nx))) := q_ofV [some (.ref a), some (.int x0), none] h rfl (Nat.le_of_ble_eq_true rfl) (Or.inr rfl)
theorem lc_Slit_numberOfChoice_281 : lookI (eC E_Slit_numberOfChoice) (.invokevirtual 281) = some (2, x_Yard_choose) := rfl
theorem lc_Slit_numberOfChoice_205 : lookI (eC E_Slit_numberOfChoice) (.invokevirtual 205) = some (2, x_Yard_numberAt) := rfl
theorem lf_Slit_numberOfChoice_12 : lookN (eF E_Slit_numberOfChoice) 12 = some (5, 0) := rfl
theorem lb_Slit_numberOfChoice : eB E_Slit_numberOfChoice = true := rfl
-- CoilSlits.gained
def E_Slit_gained : Env := (true, [(16, 5, 1), (12, 5, 0)], [(.invokevirtual 239, 2, x_Yard_tally)], [], [], zST, false)
def d_Slit_gained : Dn := (rti E_Slit_gained [.aload_n 0, .getfield 16, .iload_n 1, .invokevirtual 239, .aload_n 0, .getfield 12, .iload_n 1, .invokevirtual 239, .isub])
def x_Slit_gained : Ex := zrv 5 (exb true 2 d_Slit_gained)
abbrev r_Slit_gained : Room := ({ frames := 2, cells := 0, slots := 0, locals := 42 } : Room)
theorem eo_Slit_gained (hw : zWok w) (cx : CX w p s m args c b_Slit_gained 2 "CoilSlits") : EnvOk w true p l e r_Slit_gained s m args below meth c Q b_Slit_gained 2 "CoilSlits" E_Slit_gained :=
  ⟨rfl, by decide +kernel, by decide +kernel, by decide +kernel, hw, fun h => absurd h (by decide),
  List.forall_mem_cons.mpr ⟨call_V cx (ct_Yard_tally w l hw) tw_356 tw_353 tw_2 tw_354 tw_355 (ci := 2) (Nat.le_of_ble_eq_true rfl) rfl (by decide +kernel) ⟨Nat.le_of_ble_eq_true rfl, Nat.le_of_ble_eq_true rfl⟩, fun q hq => absurd hq List.not_mem_nil⟩⟩
theorem sn_Slit_gained (h : MC w true p l e R s m args below meth c Q b_Slit_gained 2 "CoilSlits" E_Slit_gained 0 0 F (some .int)) : Sn (zK w true p l e R s m args below meth c Q 2) F (fun _ => False) (fun _ => False) 0 0 0 d_Slit_gained 0 0 0 := by
  unfold d_Slit_gained
  exact (m_rti h zz (p1 := 17) (by decide +kernel) (by decide +kernel) (Nat.zero_le _) (Nat.zero_le _))
theorem ct_Slit_gained (w : Wd) (l : Launch) (hw : zWok w) : CT w l y_Slit_gained b_Slit_gained 2 (some .int) r_Slit_gained (exb true 2 d_Slit_gained) :=
  ct_plain (by decide +kernel) (fun p e s m args below meth c Q cx hnm => eo_Slit_gained hw cx) (fun p e s m args below meth c Q F h => sn_Slit_gained h)
theorem q_Slit_gained {a : Nat} {fs : List Value} {M : Hp} {nx : Nat} (x0 : Int32) (h : M a = some (cO 5 fs)) : x_Slit_gained [.ref a, .int x0] (M, nx) = zres (d_Slit_gained ([some (.ref a), some (.int x0)], [], (M, nx))) := q_ofV [some (.ref a), some (.int x0)] h rfl (Nat.le_of_ble_eq_true rfl) (Or.inr rfl)
theorem lc_Slit_gained_239 : lookI (eC E_Slit_gained) (.invokevirtual 239) = some (2, x_Yard_tally) := rfl
theorem lf_Slit_gained_16 : lookN (eF E_Slit_gained) 16 = some (5, 1) := rfl
theorem lf_Slit_gained_12 : lookN (eF E_Slit_gained) 12 = some (5, 0) := rfl
theorem lb_Slit_gained : eB E_Slit_gained = true := rfl
-- CoilSlits.gainOfTrial
def E_Slit_gainOfTrial : Env := (true, [], [(.invokevirtual 287, 2, x_Slit_gained)], [], [], zST, false)
def d_Slit_gainOfTrial : Dn := (swi E_Slit_gainOfTrial [.iload_n 1] [(0, (rti E_Slit_gainOfTrial [.aload_n 0, .bipush 6, .invokevirtual 287])), (1, (rti E_Slit_gainOfTrial [.aload_n 0, .iconst 4, .invokevirtual 287])), (2, (rti E_Slit_gainOfTrial [.aload_n 0, .bipush 9, .invokevirtual 287]))]
  (rti E_Slit_gainOfTrial [.aload_n 0, .iconst 5, .invokevirtual 287]))
def x_Slit_gainOfTrial : Ex := zrv 5 (exb true 2 d_Slit_gainOfTrial)
abbrev r_Slit_gainOfTrial : Room := ({ frames := 3, cells := 0, slots := 0, locals := 63 } : Room)
theorem eo_Slit_gainOfTrial (hw : zWok w) (cx : CX w p s m args c b_Slit_gainOfTrial 2 "CoilSlits") : EnvOk w true p l e r_Slit_gainOfTrial s m args below meth c Q b_Slit_gainOfTrial 2 "CoilSlits" E_Slit_gainOfTrial :=
  ⟨rfl, by decide +kernel, by decide +kernel, by decide +kernel, hw, fun h => absurd h (by decide),
  List.forall_mem_cons.mpr ⟨call_V cx (ct_Slit_gained w l hw) tw_455 tw_452 tw_1 tw_454 tp_26 (ci := 5) (Nat.le_of_ble_eq_true rfl) rfl (by decide +kernel) ⟨Nat.le_of_ble_eq_true rfl, Nat.le_of_ble_eq_true rfl⟩, fun q hq => absurd hq List.not_mem_nil⟩⟩
theorem sn_Slit_gainOfTrial (h : MC w true p l e R s m args below meth c Q b_Slit_gainOfTrial 2 "CoilSlits" E_Slit_gainOfTrial 0 0 F (some .int)) : Sn (zK w true p l e R s m args below meth c Q 2) F (fun _ => False) (fun _ => False) 0 0 0 d_Slit_gainOfTrial 0 0 0 := by
  unfold d_Slit_gainOfTrial
  exact (m_sw h zz (p1 := 1) (pd := 48) [(0, 28), (1, 35), (2, 41)] (by decide +kernel) (by decide +kernel)
  (swl_cons (m_rti h zz (p1 := 34) (by decide +kernel) (by decide +kernel) (Nat.zero_le _) (Nat.zero_le _))
  (swl_cons (m_rti h zz (p1 := 40) (by decide +kernel) (by decide +kernel) (Nat.zero_le _) (Nat.zero_le _))
  (swl_cons (m_rti h zz (p1 := 47) (by decide +kernel) (by decide +kernel) (Nat.zero_le _) (Nat.zero_le _))
  swl_nil)))
  (m_rti h zz (p1 := 53) (by decide +kernel) (by decide +kernel) (Nat.zero_le _) (Nat.zero_le _)))
theorem ct_Slit_gainOfTrial (w : Wd) (l : Launch) (hw : zWok w) : CT w l y_Slit_gainOfTrial b_Slit_gainOfTrial 2 (some .int) r_Slit_gainOfTrial (exb true 2 d_Slit_gainOfTrial) :=
  ct_plain (by decide +kernel) (fun p e s m args below meth c Q cx hnm => eo_Slit_gainOfTrial hw cx) (fun p e s m args below meth c Q F h => sn_Slit_gainOfTrial h)
theorem q_Slit_gainOfTrial {a : Nat} {fs : List Value} {M : Hp} {nx : Nat} (x0 : Int32) (h : M a = some (cO 5 fs)) : x_Slit_gainOfTrial [.ref a, .int x0] (M, nx) = zres (d_Slit_gainOfTrial ([some (.ref a), some (.int x0)], [], (M, nx))) := q_ofV [some (.ref a), some (.int x0)] h rfl (Nat.le_of_ble_eq_true rfl) (Or.inr rfl)
theorem lc_Slit_gainOfTrial_287 : lookI (eC E_Slit_gainOfTrial) (.invokevirtual 287) = some (2, x_Slit_gained) := rfl
theorem lb_Slit_gainOfTrial : eB E_Slit_gainOfTrial = true := rfl
-- CoilSlits.hashedOrder
def E_Slit_hashedOrder : Env := (false, [(12, 5, 0), (16, 5, 1)], [(.invokevirtual 220, 3, x_Yard_orderProperty), (.invokestatic 247, 2, x_Slit_hashed), (.invokevirtual 228, 2, x_Slit_numberOfChoice), (.invokevirtual 233, 2, x_Slit_beginTrial), (.invokevirtual 145, 2, x_Yard_fulfil), (.invokevirtual 236, 2, x_Slit_gainOfTrial)], [], [], zST, false)
def d_Slit_hashedOrder : Dn := (sq (blk E_Slit_hashedOrder [.lload_n 1, .lstore 4, .iconst 0, .istore 6])
  (sq (lop (cfo [7] (cno (cat E_Slit_hashedOrder [.iload 6, .bipush 8] (.if_icmp .ge 27))))
  (blk E_Slit_hashedOrder [.lload 4, .aload_n 0, .getfield 12, .iload_n 3, .iload 6, .invokevirtual 220, .i2l, .invokestatic 247, .lstore 4, .iinc 6 1])
  (blk E_Slit_hashedOrder []) zFU)
  (sq (blk E_Slit_hashedOrder [.lload 4, .aload_n 0, .iload_n 3, .invokevirtual 228, .i2l, .invokestatic 247, .lstore 4, .iconst 0, .istore 6])
  (sq (lop (cfo [7] (cno (cat E_Slit_hashedOrder [.iload 6, .iconst 2] (.if_icmp .ge 53))))
  (sq (blk E_Slit_hashedOrder [.aload_n 0, .iload 6, .invokevirtual 233, .aload_n 0, .getfield 16, .iload_n 3, .invokevirtual 145, .pop, .iconst 0, .istore 7])
  (sq (lop (cno (cat E_Slit_hashedOrder [.iload 7, .iconst 4] (.if_icmp .ge 23)))
  (blk E_Slit_hashedOrder [.lload 4, .aload_n 0, .iload 7, .invokevirtual 236, .i2l, .invokestatic 247, .lstore 4, .iinc 7 1])
  (blk E_Slit_hashedOrder []) zFU)
  (blk E_Slit_hashedOrder [.iinc 6 1])))
  (blk E_Slit_hashedOrder []) zFU)
  (rtl E_Slit_hashedOrder [.lload 4])))))
def x_Slit_hashedOrder : Ex := zrv 5 (exb false 8 d_Slit_hashedOrder)
abbrev r_Slit_hashedOrder : Room := ({ frames := 5, cells := 0, slots := 0, locals := 158 } : Room)
theorem eo_Slit_hashedOrder (hw : zWok w) (cx : CX w p s m args c b_Slit_hashedOrder 8 "CoilSlits") : EnvOk w false p l e r_Slit_hashedOrder s m args below meth c Q b_Slit_hashedOrder 8 "CoilSlits" E_Slit_hashedOrder :=
  ⟨rfl, by decide +kernel, by decide +kernel, by decide +kernel, hw, fun h => absurd h (by decide),
  List.forall_mem_cons.mpr ⟨call_V cx (ct_Yard_orderProperty w l hw) tw_429 tw_426 tw_2 tw_427 tw_428 (ci := 2) (Nat.le_of_ble_eq_true rfl) rfl (by decide +kernel) ⟨Nat.le_of_ble_eq_true rfl, Nat.le_of_ble_eq_true rfl⟩, List.forall_mem_cons.mpr ⟨call_S cx (ct_Slit_hashed w l hw) tw_404 tw_402 tw_1 tw_403 (by decide +kernel) ⟨Nat.le_of_ble_eq_true rfl, Nat.le_of_ble_eq_true rfl⟩, List.forall_mem_cons.mpr ⟨call_V cx (ct_Slit_numberOfChoice w l hw) tw_445 tw_442 tw_1 tw_444 tp_24 (ci := 5) (Nat.le_of_ble_eq_true rfl) rfl (by decide +kernel) ⟨Nat.le_of_ble_eq_true rfl, Nat.le_of_ble_eq_true rfl⟩, List.forall_mem_cons.mpr ⟨call_V cx (ct_Slit_beginTrial w l hw) tw_347 tw_344 tw_1 tw_346 tp_17 (ci := 5) (Nat.le_of_ble_eq_true rfl) rfl (by decide +kernel) ⟨Nat.le_of_ble_eq_true rfl, Nat.le_of_ble_eq_true rfl⟩, List.forall_mem_cons.mpr ⟨call_V cx (ct_Yard_fulfil w l hw) tw_204 tw_447 tw_2 tw_202 tw_203 (ci := 2) (Nat.le_of_ble_eq_true rfl) rfl (by decide +kernel) ⟨Nat.le_of_ble_eq_true rfl, Nat.le_of_ble_eq_true rfl⟩, List.forall_mem_cons.mpr ⟨call_V cx (ct_Slit_gainOfTrial w l hw) tw_451 tw_448 tw_1 tw_450 tp_25 (ci := 5) (Nat.le_of_ble_eq_true rfl) rfl (by decide +kernel) ⟨Nat.le_of_ble_eq_true rfl, Nat.le_of_ble_eq_true rfl⟩, fun q hq => absurd hq List.not_mem_nil⟩⟩⟩⟩⟩⟩⟩
theorem sn_Slit_hashedOrder (h : MC w false p l e R s m args below meth c Q b_Slit_hashedOrder 8 "CoilSlits" E_Slit_hashedOrder 0 0 F (some .long)) : Sn (zK w false p l e R s m args below meth c Q 8) F (fun _ => False) (fun _ => False) 0 0 0 d_Slit_hashedOrder 0 0 0 := by
  unfold d_Slit_hashedOrder
  exact (sn_sq (pm := 6) (m_blk h zz (by decide +kernel))
  (sn_sq (pm := 37) (sn_lop (pt := 13) (pu := 34) (p2 := 34) (px := 37) (kb2 := fun _ => False) (kc2 := fun _ => False) (sc_fo m_fo (sc_no (m_cat h zz (p1 := 10) (tgt := 37) (by decide +kernel) (by decide +kernel) (by decide))))
  (m_blk h zz (by decide +kernel))
  (m_blk h zz rfl) (m_goto h (off := (-28)) (by decide +kernel) (by decide)) zFU)
  (sn_sq (pm := 53) (m_blk h zz (by decide +kernel))
  (sn_sq (pm := 109) (sn_lop (pt := 59) (pu := 106) (p2 := 106) (px := 109) (kb2 := fun _ => False) (kc2 := fun _ => False) (sc_fo m_fo (sc_no (m_cat h zz (p1 := 56) (tgt := 109) (by decide +kernel) (by decide +kernel) (by decide))))
  (sn_sq (pm := 77) (m_blk h zz (by decide +kernel))
  (sn_sq (pm := 103) (sn_lop (pt := 83) (pu := 100) (p2 := 100) (px := 103) (kb2 := fun _ => False) (kc2 := fun _ => False) (sc_no (m_cat h zz (p1 := 80) (tgt := 103) (by decide +kernel) (by decide +kernel) (by decide)))
  (m_blk h zz (by decide +kernel))
  (m_blk h zz rfl) (m_goto h (off := (-23)) (by decide +kernel) (by decide)) zFU)
  (m_blk h zz (by decide +kernel))))
  (m_blk h zz rfl) (m_goto h (off := (-53)) (by decide +kernel) (by decide)) zFU)
  (m_rtl h zz (p1 := 111) (by decide +kernel) (by decide +kernel) (Nat.zero_le _) (Nat.zero_le _))))))
theorem ct_Slit_hashedOrder (w : Wd) (l : Launch) (hw : zWok w) : CT w l y_Slit_hashedOrder b_Slit_hashedOrder 8 (some .long) r_Slit_hashedOrder (exb false 8 d_Slit_hashedOrder) :=
  ct_plain (by decide +kernel) (fun p e s m args below meth c Q cx hnm => eo_Slit_hashedOrder hw cx) (fun p e s m args below meth c Q F h => sn_Slit_hashedOrder h)
theorem q_Slit_hashedOrder {a : Nat} {fs : List Value} {M : Hp} {nx : Nat} (x0 : Int64) (x1 : Int32) (h : M a = some (cO 5 fs)) : x_Slit_hashedOrder [.ref a, .long x0, .int x1] (M, nx) = zres (d_Slit_hashedOrder ([some (.ref a), some (.long x0), none, some (.int x1), none, none, none, none], [], (M, nx))) := q_ofV [some (.ref a), some (.long x0), none, some (.int x1), none, none, none, none] h rfl (Nat.le_of_ble_eq_true rfl) (Or.inl rfl)
theorem lc_Slit_hashedOrder_220 : lookI (eC E_Slit_hashedOrder) (.invokevirtual 220) = some (3, x_Yard_orderProperty) := rfl
theorem lc_Slit_hashedOrder_247 : lookI (eC E_Slit_hashedOrder) (.invokestatic 247) = some (2, x_Slit_hashed) := rfl
theorem lc_Slit_hashedOrder_228 : lookI (eC E_Slit_hashedOrder) (.invokevirtual 228) = some (2, x_Slit_numberOfChoice) := rfl
theorem lc_Slit_hashedOrder_233 : lookI (eC E_Slit_hashedOrder) (.invokevirtual 233) = some (2, x_Slit_beginTrial) := rfl
theorem lc_Slit_hashedOrder_145 : lookI (eC E_Slit_hashedOrder) (.invokevirtual 145) = some (2, x_Yard_fulfil) := rfl
theorem lc_Slit_hashedOrder_236 : lookI (eC E_Slit_hashedOrder) (.invokevirtual 236) = some (2, x_Slit_gainOfTrial) := rfl
theorem lf_Slit_hashedOrder_12 : lookN (eF E_Slit_hashedOrder) 12 = some (5, 0) := rfl
theorem lf_Slit_hashedOrder_16 : lookN (eF E_Slit_hashedOrder) 16 = some (5, 1) := rfl
theorem lb_Slit_hashedOrder : eB E_Slit_hashedOrder = false := rfl
-- CoilSlits.bitsOf
def E_Slit_bitsOf : Env := (false, [], [], [(313, .long 1023), (315, .double 4611686018427387904), (317, .double 4841369599423283200)], [], zST, false)
def d_Slit_bitsOf : Dn := (sq (ite' (cno (cat E_Slit_bitsOf [.dload_n 0, .dconst 0, .dcmp .g] (.ifCond .gt 5)))
  (rtl E_Slit_bitsOf [.lconst 0])
  (blk E_Slit_bitsOf []))
  (sq (blk E_Slit_bitsOf [.dload_n 0, .dstore_n 2, .ldc2_w 313, .lstore 4, .iconst 0, .istore 6])
  (sq (lop (can (cno (cat E_Slit_bitsOf [.iload 6, .sipush 1022] (.if_icmp .ge 27))) (cno (cat E_Slit_bitsOf [.dload_n 2, .dconst 1, .dcmp .g] (.ifCond .ge 21))))
  (blk E_Slit_bitsOf [.dload_n 2, .ldc2_w 315, .dmul, .dstore_n 2, .lload 4, .lconst 1, .lsub, .lstore 4, .iinc 6 1])
  (blk E_Slit_bitsOf []) zFU)
  (rtl E_Slit_bitsOf [.dload_n 2, .dconst 1, .dsub, .ldc2_w 317, .dmul, .d2l, .lstore 6, .lload 4, .bipush 52, .lshl, .lload 6, .ladd]))))
def x_Slit_bitsOf : Ex := exb false 8 d_Slit_bitsOf
abbrev r_Slit_bitsOf : Room := ({ frames := 0, cells := 0, slots := 0, locals := 0 } : Room)
theorem eo_Slit_bitsOf (hw : zWok w) (cx : CX w p s m args c b_Slit_bitsOf 8 "CoilSlits") : EnvOk w false p l e r_Slit_bitsOf s m args below meth c Q b_Slit_bitsOf 8 "CoilSlits" E_Slit_bitsOf :=
  ⟨rfl, by decide +kernel, by decide +kernel, by decide +kernel, hw, fun h => absurd h (by decide),
  fun q hq => absurd hq List.not_mem_nil⟩
theorem sn_Slit_bitsOf (h : MC w false p l e R s m args below meth c Q b_Slit_bitsOf 8 "CoilSlits" E_Slit_bitsOf 0 0 F (some .long)) : Sn (zK w false p l e R s m args below meth c Q 8) F (fun _ => False) (fun _ => False) 0 0 0 d_Slit_bitsOf 0 0 0 := by
  unfold d_Slit_bitsOf
  exact (sn_sq (pm := 8) (sn_ite (pt := 6) (pf := 8) (sc_no (m_cat h zz (p1 := 3) (tgt := 8) (by decide +kernel) (by decide +kernel) (by decide)))
  (m_rtl h zz (p1 := 7) (by decide +kernel) (by decide +kernel) (Nat.zero_le _) (Nat.zero_le _))
  (m_blk h zz rfl))
  (sn_sq (pm := 18) (m_blk h zz (by decide +kernel))
  (sn_sq (pm := 50) (sn_lop (pt := 32) (pu := 47) (p2 := 47) (px := 50) (kb2 := fun _ => False) (kc2 := fun _ => False) (sc_an (pm := 26) (sc_no (m_cat h zz (p1 := 23) (tgt := 50) (by decide +kernel) (by decide +kernel) (by decide))) (sc_no (m_cat h zz (p1 := 29) (tgt := 50) (by decide +kernel) (by decide +kernel) (by decide))))
  (m_blk h zz (by decide +kernel))
  (m_blk h zz rfl) (m_goto h (off := (-29)) (by decide +kernel) (by decide)) zFU)
  (m_rtl h zz (p1 := 68) (by decide +kernel) (by decide +kernel) (Nat.zero_le _) (Nat.zero_le _)))))
theorem ct_Slit_bitsOf (w : Wd) (l : Launch) (hw : zWok w) : CT w l y_Slit_bitsOf b_Slit_bitsOf 8 (some .long) r_Slit_bitsOf (exb false 8 d_Slit_bitsOf) :=
  ct_plain (by decide +kernel) (fun p e s m args below meth c Q cx hnm => eo_Slit_bitsOf hw cx) (fun p e s m args below meth c Q F h => sn_Slit_bitsOf h)
theorem q_Slit_bitsOf (x0 : UInt64) (g : G) : x_Slit_bitsOf [.double x0] g = zres (d_Slit_bitsOf ([some (.double x0), none, none, none, none, none, none, none], [], g)) := q_of [some (.double x0), none, none, none, none, none, none, none] rfl (Nat.le_of_ble_eq_true rfl) (Or.inl rfl)
theorem lk_Slit_bitsOf_313 : lookN (eK E_Slit_bitsOf) 313 = some (.long 1023) := rfl
theorem lk_Slit_bitsOf_315 : lookN (eK E_Slit_bitsOf) 315 = some (.double 4611686018427387904) := rfl
theorem lk_Slit_bitsOf_317 : lookN (eK E_Slit_bitsOf) 317 = some (.double 4841369599423283200) := rfl
theorem lb_Slit_bitsOf : eB E_Slit_bitsOf = false := rfl
-- CoilSlits.digest
def E_Slit_digest : Env := (false, [(12, 5, 0), (174, 5, 5), (31, 5, 3)], [(.invokevirtual 225, 2, x_Slit_counted), (.invokestatic 247, 2, x_Slit_hashed), (.invokevirtual 165, 2, x_Yard_settingNow), (.invokevirtual 251, 3, x_Slit_hashedPlace), (.invokevirtual 111, 1, x_Yard_orderCount), (.invokevirtual 255, 3, x_Slit_hashedOrder), (.invokevirtual 258, 1, x_Slit_bestRule), (.invokevirtual 261, 1, x_Slit_bestStack), (.invokevirtual 264, 1, x_Slit_used), (.invokestatic 268, 1, x_Slit_bitsOf), (.invokevirtual 272, 2, x_Row_get)], [(245, .long 2879)], [], zST, false)
def d_Slit_digest : Dn := (sq (blk E_Slit_digest [.ldc2_w 245, .lstore_n 1, .iconst 0, .istore_n 3])
  (sq (lop (cno (cat E_Slit_digest [.iload_n 3, .bipush 14] (.if_icmp .ge 20)))
  (blk E_Slit_digest [.lload_n 1, .aload_n 0, .iload_n 3, .invokevirtual 225, .i2l, .invokestatic 247, .lstore_n 1, .iinc 3 1])
  (blk E_Slit_digest []) zFU)
  (sq (blk E_Slit_digest [.iconst 0, .istore_n 3])
  (sq (lop (cno (cat E_Slit_digest [.iload_n 3, .iconst 4] (.if_icmp .ge 23)))
  (blk E_Slit_digest [.lload_n 1, .aload_n 0, .getfield 12, .iload_n 3, .invokevirtual 165, .i2l, .invokestatic 247, .lstore_n 1, .iinc 3 1])
  (blk E_Slit_digest []) zFU)
  (sq (blk E_Slit_digest [.iconst 0, .istore_n 3])
  (sq (lop (cno (cat E_Slit_digest [.iload_n 3, .bipush 30] (.if_icmp .ge 16)))
  (blk E_Slit_digest [.aload_n 0, .lload_n 1, .iload_n 3, .invokevirtual 251, .lstore_n 1, .iinc 3 1])
  (blk E_Slit_digest []) zFU)
  (sq (blk E_Slit_digest [.iconst 0, .istore_n 3])
  (sq (lop (cno (cat E_Slit_digest [.iload_n 3, .aload_n 0, .getfield 12, .invokevirtual 111] (.if_icmp .ge 16)))
  (blk E_Slit_digest [.aload_n 0, .lload_n 1, .iload_n 3, .invokevirtual 255, .lstore_n 1, .iinc 3 1])
  (blk E_Slit_digest []) zFU)
  (sq (blk E_Slit_digest [.lload_n 1, .aload_n 0, .invokevirtual 258, .i2l, .invokestatic 247, .lstore_n 1, .lload_n 1, .aload_n 0, .invokevirtual 261, .i2l, .invokestatic 247, .lstore_n 1, .lload_n 1, .aload_n 0, .invokevirtual 264, .invokestatic 268, .invokestatic 247, .lstore_n 1, .lload_n 1, .aload_n 0, .getfield 174, .i2l, .invokestatic 247, .lstore_n 1, .iconst 0, .istore_n 3])
  (sq (lop (cno (cat E_Slit_digest [.iload_n 3, .aload_n 0, .getfield 174] (.if_icmp .ge 23)))
  (blk E_Slit_digest [.lload_n 1, .aload_n 0, .getfield 31, .iload_n 3, .invokevirtual 272, .i2l, .invokestatic 247, .lstore_n 1, .iinc 3 1])
  (blk E_Slit_digest []) zFU)
  (rtl E_Slit_digest [.lload_n 1])))))))))))
def x_Slit_digest : Ex := zrv 5 (exb false 4 d_Slit_digest)
abbrev r_Slit_digest : Room := ({ frames := 7, cells := 0, slots := 0, locals := 212 } : Room)
theorem eo_Slit_digest (hw : zWok w) (cx : CX w p s m args c b_Slit_digest 4 "CoilSlits") : EnvOk w false p l e r_Slit_digest s m args below meth c Q b_Slit_digest 4 "CoilSlits" E_Slit_digest :=
  ⟨rfl, by decide +kernel, by decide +kernel, by decide +kernel, hw, fun h => absurd h (by decide),
  List.forall_mem_cons.mpr ⟨call_V cx (ct_Slit_counted w l hw) tw_385 tw_382 tw_1 tw_384 tp_18 (ci := 5) (Nat.le_of_ble_eq_true rfl) rfl (by decide +kernel) ⟨Nat.le_of_ble_eq_true rfl, Nat.le_of_ble_eq_true rfl⟩, List.forall_mem_cons.mpr ⟨call_S cx (ct_Slit_hashed w l hw) tw_404 tw_402 tw_1 tw_403 (by decide +kernel) ⟨Nat.le_of_ble_eq_true rfl, Nat.le_of_ble_eq_true rfl⟩, List.forall_mem_cons.mpr ⟨call_V cx (ct_Yard_settingNow w l hw) tw_409 tw_406 tw_2 tw_407 tw_408 (ci := 2) (Nat.le_of_ble_eq_true rfl) rfl (by decide +kernel) ⟨Nat.le_of_ble_eq_true rfl, Nat.le_of_ble_eq_true rfl⟩, List.forall_mem_cons.mpr ⟨call_V cx (ct_Slit_hashedPlace w l hw) tw_413 tw_410 tw_1 tw_412 tp_19 (ci := 5) (Nat.le_of_ble_eq_true rfl) rfl (by decide +kernel) ⟨Nat.le_of_ble_eq_true rfl, Nat.le_of_ble_eq_true rfl⟩, List.forall_mem_cons.mpr ⟨call_V cx (ct_Yard_orderCount w l hw) tw_397 tw_394 tw_2 tw_395 tw_396 (ci := 2) (Nat.le_of_ble_eq_true rfl) rfl (by decide +kernel) ⟨Nat.le_of_ble_eq_true rfl, Nat.le_of_ble_eq_true rfl⟩, List.forall_mem_cons.mpr ⟨call_V cx (ct_Slit_hashedOrder w l hw) tw_425 tw_422 tw_1 tw_424 tp_20 (ci := 5) (Nat.le_of_ble_eq_true rfl) rfl (by decide +kernel) ⟨Nat.le_of_ble_eq_true rfl, Nat.le_of_ble_eq_true rfl⟩, List.forall_mem_cons.mpr ⟨call_V cx (ct_Slit_bestRule w l hw) tw_343 tw_456 tw_1 tw_341 tw_342 (ci := 5) (Nat.le_of_ble_eq_true rfl) rfl (by decide +kernel) ⟨Nat.le_of_ble_eq_true rfl, Nat.le_of_ble_eq_true rfl⟩, List.forall_mem_cons.mpr ⟨call_V cx (ct_Slit_bestStack w l hw) tw_360 tw_457 tw_1 tw_358 tw_359 (ci := 5) (Nat.le_of_ble_eq_true rfl) rfl (by decide +kernel) ⟨Nat.le_of_ble_eq_true rfl, Nat.le_of_ble_eq_true rfl⟩, List.forall_mem_cons.mpr ⟨call_V cx (ct_Slit_used w l hw) tw_376 tw_458 tw_1 tw_374 tw_375 (ci := 5) (Nat.le_of_ble_eq_true rfl) rfl (by decide +kernel) ⟨Nat.le_of_ble_eq_true rfl, Nat.le_of_ble_eq_true rfl⟩, List.forall_mem_cons.mpr ⟨call_S cx (ct_Slit_bitsOf w l hw) tw_461 tw_459 tw_1 tw_460 (by decide +kernel) ⟨Nat.le_of_ble_eq_true rfl, Nat.le_of_ble_eq_true rfl⟩, List.forall_mem_cons.mpr ⟨call_V cx (ct_Row_get w l hw) tw_216 tw_300 tw_5 tw_214 tw_215 (ci := 0) (Nat.le_of_ble_eq_true rfl) rfl (by decide +kernel) ⟨Nat.le_of_ble_eq_true rfl, Nat.le_of_ble_eq_true rfl⟩, fun q hq => absurd hq List.not_mem_nil⟩⟩⟩⟩⟩⟩⟩⟩⟩⟩⟩⟩
theorem sn_Slit_digest (h : MC w false p l e R s m args below meth c Q b_Slit_digest 4 "CoilSlits" E_Slit_digest 0 0 F (some .long)) : Sn (zK w false p l e R s m args below meth c Q 4) F (fun _ => False) (fun _ => False) 0 0 0 d_Slit_digest 0 0 0 := by
  unfold d_Slit_digest
  exact (sn_sq (pm := 6) (m_blk h zz (by decide +kernel))
  (sn_sq (pm := 29) (sn_lop (pt := 12) (pu := 26) (p2 := 26) (px := 29) (kb2 := fun _ => False) (kc2 := fun _ => False) (sc_no (m_cat h zz (p1 := 9) (tgt := 29) (by decide +kernel) (by decide +kernel) (by decide)))
  (m_blk h zz (by decide +kernel))
  (m_blk h zz rfl) (m_goto h (off := (-20)) (by decide +kernel) (by decide)) zFU)
  (sn_sq (pm := 31) (m_blk h zz (by decide +kernel))
  (sn_sq (pm := 56) (sn_lop (pt := 36) (pu := 53) (p2 := 53) (px := 56) (kb2 := fun _ => False) (kc2 := fun _ => False) (sc_no (m_cat h zz (p1 := 33) (tgt := 56) (by decide +kernel) (by decide +kernel) (by decide)))
  (m_blk h zz (by decide +kernel))
  (m_blk h zz rfl) (m_goto h (off := (-22)) (by decide +kernel) (by decide)) zFU)
  (sn_sq (pm := 58) (m_blk h zz (by decide +kernel))
  (sn_sq (pm := 77) (sn_lop (pt := 64) (pu := 74) (p2 := 74) (px := 77) (kb2 := fun _ => False) (kc2 := fun _ => False) (sc_no (m_cat h zz (p1 := 61) (tgt := 77) (by decide +kernel) (by decide +kernel) (by decide)))
  (m_blk h zz (by decide +kernel))
  (m_blk h zz rfl) (m_goto h (off := (-16)) (by decide +kernel) (by decide)) zFU)
  (sn_sq (pm := 79) (m_blk h zz (by decide +kernel))
  (sn_sq (pm := 103) (sn_lop (pt := 90) (pu := 100) (p2 := 100) (px := 103) (kb2 := fun _ => False) (kc2 := fun _ => False) (sc_no (m_cat h zz (p1 := 87) (tgt := 103) (by decide +kernel) (by decide +kernel) (by decide)))
  (m_blk h zz (by decide +kernel))
  (m_blk h zz rfl) (m_goto h (off := (-21)) (by decide +kernel) (by decide)) zFU)
  (sn_sq (pm := 147) (m_blk h zz (by decide +kernel))
  (sn_sq (pm := 175) (sn_lop (pt := 155) (pu := 172) (p2 := 172) (px := 175) (kb2 := fun _ => False) (kc2 := fun _ => False) (sc_no (m_cat h zz (p1 := 152) (tgt := 175) (by decide +kernel) (by decide +kernel) (by decide)))
  (m_blk h zz (by decide +kernel))
  (m_blk h zz rfl) (m_goto h (off := (-25)) (by decide +kernel) (by decide)) zFU)
  (m_rtl h zz (p1 := 176) (by decide +kernel) (by decide +kernel) (Nat.zero_le _) (Nat.zero_le _))))))))))))
theorem ct_Slit_digest (w : Wd) (l : Launch) (hw : zWok w) : CT w l y_Slit_digest b_Slit_digest 4 (some .long) r_Slit_digest (exb false 4 d_Slit_digest) :=
  ct_plain (by decide +kernel) (fun p e s m args below meth c Q cx hnm => eo_Slit_digest hw cx) (fun p e s m args below meth c Q F h => sn_Slit_digest h)
theorem q_Slit_digest {a : Nat} {fs : List Value} {M : Hp} {nx : Nat}  (h : M a = some (cO 5 fs)) : x_Slit_digest [.ref a] (M, nx) = zres (d_Slit_digest ([some (.ref a), none, none, none], [], (M, nx))) := q_ofV [some (.ref a), none, none, none] h rfl (Nat.le_of_ble_eq_true rfl) (Or.inl rfl)
theorem lc_Slit_digest_225 : lookI (eC E_Slit_digest) (.invokevirtual 225) = some (2, x_Slit_counted) := rfl
theorem lc_Slit_digest_247 : lookI (eC E_Slit_digest) (.invokestatic 247) = some (2, x_Slit_hashed) := rfl
theorem lc_Slit_digest_165 : lookI (eC E_Slit_digest) (.invokevirtual 165) = some (2, x_Yard_settingNow) := rfl
theorem lc_Slit_digest_251 : lookI (eC E_Slit_digest) (.invokevirtual 251) = some (3, x_Slit_hashedPlace) := rfl
theorem lc_Slit_digest_111 : lookI (eC E_Slit_digest) (.invokevirtual 111) = some (1, x_Yard_orderCount) := rfl
theorem lc_Slit_digest_255 : lookI (eC E_Slit_digest) (.invokevirtual 255) = some (3, x_Slit_hashedOrder) := rfl
theorem lc_Slit_digest_258 : lookI (eC E_Slit_digest) (.invokevirtual 258) = some (1, x_Slit_bestRule) := rfl
theorem lc_Slit_digest_261 : lookI (eC E_Slit_digest) (.invokevirtual 261) = some (1, x_Slit_bestStack) := rfl
theorem lc_Slit_digest_264 : lookI (eC E_Slit_digest) (.invokevirtual 264) = some (1, x_Slit_used) := rfl
theorem lc_Slit_digest_268 : lookI (eC E_Slit_digest) (.invokestatic 268) = some (1, x_Slit_bitsOf) := rfl
theorem lc_Slit_digest_272 : lookI (eC E_Slit_digest) (.invokevirtual 272) = some (2, x_Row_get) := rfl
theorem lf_Slit_digest_12 : lookN (eF E_Slit_digest) 12 = some (5, 0) := rfl
theorem lf_Slit_digest_174 : lookN (eF E_Slit_digest) 174 = some (5, 5) := rfl
theorem lf_Slit_digest_31 : lookN (eF E_Slit_digest) 31 = some (5, 3) := rfl
theorem lk_Slit_digest_245 : lookN (eK E_Slit_digest) 245 = some (.long 2879) := rfl
theorem lb_Slit_digest : eB E_Slit_digest = false := rfl
-- CoilSlits.isSetting
def E_Slit_isSetting : Env := (true, [], [(.invokestatic 53, 3, x_Slit_within)], [], [], zST, false)
def d_Slit_isSetting : Dn := (rtz E_Slit_isSetting [.iload_n 0, .iconst 0, .iconst 3, .invokestatic 53])
def x_Slit_isSetting : Ex := exb true 1 d_Slit_isSetting
abbrev r_Slit_isSetting : Room := ({ frames := 1, cells := 0, slots := 0, locals := 22 } : Room)
theorem eo_Slit_isSetting (hw : zWok w) (cx : CX w p s m args c b_Slit_isSetting 1 "CoilSlits") : EnvOk w true p l e r_Slit_isSetting s m args below meth c Q b_Slit_isSetting 1 "CoilSlits" E_Slit_isSetting :=
  ⟨rfl, by decide +kernel, by decide +kernel, by decide +kernel, hw, fun h => absurd h (by decide),
  List.forall_mem_cons.mpr ⟨call_S cx (ct_Slit_within w l hw) tw_319 tw_331 tw_1 tw_318 (by decide +kernel) ⟨Nat.le_of_ble_eq_true rfl, Nat.le_of_ble_eq_true rfl⟩, fun q hq => absurd hq List.not_mem_nil⟩⟩
theorem sn_Slit_isSetting (h : MC w true p l e R s m args below meth c Q b_Slit_isSetting 1 "CoilSlits" E_Slit_isSetting 0 0 F (some .boolean)) : Sn (zK w true p l e R s m args below meth c Q 1) F (fun _ => False) (fun _ => False) 0 0 0 d_Slit_isSetting 0 0 0 := by
  unfold d_Slit_isSetting
  exact (m_rtz h zz (p1 := 6) (by decide +kernel) (by decide +kernel) (Nat.zero_le _) (Nat.zero_le _))
theorem ct_Slit_isSetting (w : Wd) (l : Launch) (hw : zWok w) : CT w l y_Slit_isSetting b_Slit_isSetting 1 (some .boolean) r_Slit_isSetting (exb true 1 d_Slit_isSetting) :=
  ct_plain (by decide +kernel) (fun p e s m args below meth c Q cx hnm => eo_Slit_isSetting hw cx) (fun p e s m args below meth c Q F h => sn_Slit_isSetting h)
theorem q_Slit_isSetting (x0 : Int32) (g : G) : x_Slit_isSetting [.int x0] g = zres (d_Slit_isSetting ([some (.int x0)], [], g)) := q_of [some (.int x0)] rfl (Nat.le_of_ble_eq_true rfl) (Or.inr rfl)
theorem lc_Slit_isSetting_53 : lookI (eC E_Slit_isSetting) (.invokestatic 53) = some (3, x_Slit_within) := rfl
theorem lb_Slit_isSetting : eB E_Slit_isSetting = true := rfl
-- CoilSlits$CoilReader.stack
def E_Read_stack : Env := (true, [(24, 4, 4)], [], [], [], zST, false)
def d_Read_stack : Dn := (rti E_Read_stack [.aload_n 0, .getfield 24])
def x_Read_stack : Ex := zrv 4 (exb true 1 d_Read_stack)
abbrev r_Read_stack : Room := ({ frames := 0, cells := 0, slots := 0, locals := 0 } : Room)
theorem eo_Read_stack (hw : zWok w) (cx : CX w p s m args c b_Read_stack 1 "CoilSlits$CoilReader") : EnvOk w true p l e r_Read_stack s m args below meth c Q b_Read_stack 1 "CoilSlits$CoilReader" E_Read_stack :=
  ⟨rfl, by decide +kernel, by decide +kernel, by decide +kernel, hw, fun h => absurd h (by decide),
  fun q hq => absurd hq List.not_mem_nil⟩
theorem sn_Read_stack (h : MC w true p l e R s m args below meth c Q b_Read_stack 1 "CoilSlits$CoilReader" E_Read_stack 0 0 F (some .int)) : Sn (zK w true p l e R s m args below meth c Q 1) F (fun _ => False) (fun _ => False) 0 0 0 d_Read_stack 0 0 0 := by
  unfold d_Read_stack
  exact (m_rti h zz (p1 := 4) (by decide +kernel) (by decide +kernel) (Nat.zero_le _) (Nat.zero_le _))
theorem ct_Read_stack (w : Wd) (l : Launch) (hw : zWok w) : CT w l y_Read_stack b_Read_stack 1 (some .int) r_Read_stack (exb true 1 d_Read_stack) :=
  ct_plain (by decide +kernel) (fun p e s m args below meth c Q cx hnm => eo_Read_stack hw cx) (fun p e s m args below meth c Q F h => sn_Read_stack h)
theorem q_Read_stack {a : Nat} {fs : List Value} {M : Hp} {nx : Nat}  (h : M a = some (cO 4 fs)) : x_Read_stack [.ref a] (M, nx) = zres (d_Read_stack ([some (.ref a)], [], (M, nx))) := q_ofV [some (.ref a)] h rfl (Nat.le_of_ble_eq_true rfl) (Or.inr rfl)
theorem lf_Read_stack_24 : lookN (eF E_Read_stack) 24 = some (4, 4) := rfl
theorem lb_Read_stack : eB E_Read_stack = true := rfl
-- CoilSlits$CoilReader.width
def E_Read_width : Env := (true, [(15, 4, 1)], [], [], [], zST, false)
def d_Read_width : Dn := (rti E_Read_width [.aload_n 0, .getfield 15])
def x_Read_width : Ex := zrv 4 (exb true 1 d_Read_width)
abbrev r_Read_width : Room := ({ frames := 0, cells := 0, slots := 0, locals := 0 } : Room)
theorem eo_Read_width (hw : zWok w) (cx : CX w p s m args c b_Read_width 1 "CoilSlits$CoilReader") : EnvOk w true p l e r_Read_width s m args below meth c Q b_Read_width 1 "CoilSlits$CoilReader" E_Read_width :=
  ⟨rfl, by decide +kernel, by decide +kernel, by decide +kernel, hw, fun h => absurd h (by decide),
  fun q hq => absurd hq List.not_mem_nil⟩
theorem sn_Read_width (h : MC w true p l e R s m args below meth c Q b_Read_width 1 "CoilSlits$CoilReader" E_Read_width 0 0 F (some .int)) : Sn (zK w true p l e R s m args below meth c Q 1) F (fun _ => False) (fun _ => False) 0 0 0 d_Read_width 0 0 0 := by
  unfold d_Read_width
  exact (m_rti h zz (p1 := 4) (by decide +kernel) (by decide +kernel) (Nat.zero_le _) (Nat.zero_le _))
theorem ct_Read_width (w : Wd) (l : Launch) (hw : zWok w) : CT w l y_Read_width b_Read_width 1 (some .int) r_Read_width (exb true 1 d_Read_width) :=
  ct_plain (by decide +kernel) (fun p e s m args below meth c Q cx hnm => eo_Read_width hw cx) (fun p e s m args below meth c Q F h => sn_Read_width h)
theorem q_Read_width {a : Nat} {fs : List Value} {M : Hp} {nx : Nat}  (h : M a = some (cO 4 fs)) : x_Read_width [.ref a] (M, nx) = zres (d_Read_width ([some (.ref a)], [], (M, nx))) := q_ofV [some (.ref a)] h rfl (Nat.le_of_ble_eq_true rfl) (Or.inr rfl)
theorem lf_Read_width_15 : lookN (eF E_Read_width) 15 = some (4, 1) := rfl
theorem lb_Read_width : eB E_Read_width = true := rfl
-- CoilSlits$CoilReader.grade
def E_Read_grade : Env := (true, [(18, 4, 2)], [], [], [], zST, false)
def d_Read_grade : Dn := (rti E_Read_grade [.aload_n 0, .getfield 18])
def x_Read_grade : Ex := zrv 4 (exb true 1 d_Read_grade)
abbrev r_Read_grade : Room := ({ frames := 0, cells := 0, slots := 0, locals := 0 } : Room)
theorem eo_Read_grade (hw : zWok w) (cx : CX w p s m args c b_Read_grade 1 "CoilSlits$CoilReader") : EnvOk w true p l e r_Read_grade s m args below meth c Q b_Read_grade 1 "CoilSlits$CoilReader" E_Read_grade :=
  ⟨rfl, by decide +kernel, by decide +kernel, by decide +kernel, hw, fun h => absurd h (by decide),
  fun q hq => absurd hq List.not_mem_nil⟩
theorem sn_Read_grade (h : MC w true p l e R s m args below meth c Q b_Read_grade 1 "CoilSlits$CoilReader" E_Read_grade 0 0 F (some .int)) : Sn (zK w true p l e R s m args below meth c Q 1) F (fun _ => False) (fun _ => False) 0 0 0 d_Read_grade 0 0 0 := by
  unfold d_Read_grade
  exact (m_rti h zz (p1 := 4) (by decide +kernel) (by decide +kernel) (Nat.zero_le _) (Nat.zero_le _))
theorem ct_Read_grade (w : Wd) (l : Launch) (hw : zWok w) : CT w l y_Read_grade b_Read_grade 1 (some .int) r_Read_grade (exb true 1 d_Read_grade) :=
  ct_plain (by decide +kernel) (fun p e s m args below meth c Q cx hnm => eo_Read_grade hw cx) (fun p e s m args below meth c Q F h => sn_Read_grade h)
theorem q_Read_grade {a : Nat} {fs : List Value} {M : Hp} {nx : Nat}  (h : M a = some (cO 4 fs)) : x_Read_grade [.ref a] (M, nx) = zres (d_Read_grade ([some (.ref a)], [], (M, nx))) := q_ofV [some (.ref a)] h rfl (Nat.le_of_ble_eq_true rfl) (Or.inr rfl)
theorem lf_Read_grade_18 : lookN (eF E_Read_grade) 18 = some (4, 2) := rfl
theorem lb_Read_grade : eB E_Read_grade = true := rfl
-- CoilSlits$CoilReader.quality
def E_Read_quality : Env := (true, [(21, 4, 3)], [], [], [], zST, false)
def d_Read_quality : Dn := (rti E_Read_quality [.aload_n 0, .getfield 21])
def x_Read_quality : Ex := zrv 4 (exb true 1 d_Read_quality)
abbrev r_Read_quality : Room := ({ frames := 0, cells := 0, slots := 0, locals := 0 } : Room)
theorem eo_Read_quality (hw : zWok w) (cx : CX w p s m args c b_Read_quality 1 "CoilSlits$CoilReader") : EnvOk w true p l e r_Read_quality s m args below meth c Q b_Read_quality 1 "CoilSlits$CoilReader" E_Read_quality :=
  ⟨rfl, by decide +kernel, by decide +kernel, by decide +kernel, hw, fun h => absurd h (by decide),
  fun q hq => absurd hq List.not_mem_nil⟩
theorem sn_Read_quality (h : MC w true p l e R s m args below meth c Q b_Read_quality 1 "CoilSlits$CoilReader" E_Read_quality 0 0 F (some .int)) : Sn (zK w true p l e R s m args below meth c Q 1) F (fun _ => False) (fun _ => False) 0 0 0 d_Read_quality 0 0 0 := by
  unfold d_Read_quality
  exact (m_rti h zz (p1 := 4) (by decide +kernel) (by decide +kernel) (Nat.zero_le _) (Nat.zero_le _))
theorem ct_Read_quality (w : Wd) (l : Launch) (hw : zWok w) : CT w l y_Read_quality b_Read_quality 1 (some .int) r_Read_quality (exb true 1 d_Read_quality) :=
  ct_plain (by decide +kernel) (fun p e s m args below meth c Q cx hnm => eo_Read_quality hw cx) (fun p e s m args below meth c Q F h => sn_Read_quality h)
theorem q_Read_quality {a : Nat} {fs : List Value} {M : Hp} {nx : Nat}  (h : M a = some (cO 4 fs)) : x_Read_quality [.ref a] (M, nx) = zres (d_Read_quality ([some (.ref a)], [], (M, nx))) := q_ofV [some (.ref a)] h rfl (Nat.le_of_ble_eq_true rfl) (Or.inr rfl)
theorem lf_Read_quality_21 : lookN (eF E_Read_quality) 21 = some (4, 3) := rfl
theorem lb_Read_quality : eB E_Read_quality = true := rfl
-- CoilSlits.bringInBuffer
def E_Slit_bringInBuffer : Env := (true, [(38, 5, 4), (174, 5, 5), (31, 5, 3), (12, 5, 0)], [(.invokevirtual 290, 1, x_Read_restart), (.invokevirtual 272, 2, x_Row_get), (.invokevirtual 293, 2, x_Read_accepts), (.invokevirtual 296, 1, x_Read_stack), (.invokevirtual 299, 1, x_Yard_emptiest), (.invokevirtual 62, 2, x_Yard_hasRoom), (.invokevirtual 302, 1, x_Read_width), (.invokevirtual 305, 1, x_Read_grade), (.invokevirtual 308, 1, x_Read_quality), (.invokevirtual 74, 5, x_Yard_bringIn)], [], [], zST, false)
def d_Slit_bringInBuffer : Dn := (sq (blk E_Slit_bringInBuffer [.iconst 0, .istore_n 1, .aload_n 0, .getfield 38, .invokevirtual 290, .iconst 0, .istore_n 2])
  (sq (lop (cfo [3, 4, 5] (cno (cat E_Slit_bringInBuffer [.iload_n 2, .aload_n 0, .getfield 174] (.if_icmp .ge 144))))
  (sq (blk E_Slit_bringInBuffer [.aload_n 0, .getfield 38, .aload_n 0, .getfield 31, .iload_n 2, .invokevirtual 272, .invokevirtual 293, .istore_n 3])
  (sq (ite' (cor (cat E_Slit_bringInBuffer [.iload_n 2, .aload_n 0, .getfield 174, .iconst 1, .isub] (.if_icmp .eq 18)) (cno (cat E_Slit_bringInBuffer [.aload_n 0, .getfield 31, .iload_n 2, .iconst 1, .iadd, .invokevirtual 272, .bipush 59] (.if_icmp .ne 7))))
  (blk E_Slit_bringInBuffer [.iconst 1])
  (blk E_Slit_bringInBuffer [.iconst 0]))
  (sq (blk E_Slit_bringInBuffer [.istore 4])
  (sq (ite' (can (cno (cat E_Slit_bringInBuffer [.iload_n 3] (.ifCond .eq 86))) (cno (cat E_Slit_bringInBuffer [.iload 4] (.ifCond .eq 81))))
  (sq (ite' (cno (cat E_Slit_bringInBuffer [.aload_n 0, .getfield 38, .invokevirtual 296, .iconst (-1)] (.if_icmp .ne 13)))
  (blk E_Slit_bringInBuffer [.aload_n 0, .getfield 12, .invokevirtual 299])
  (blk E_Slit_bringInBuffer [.aload_n 0, .getfield 38, .invokevirtual 296]))
  (sq (blk E_Slit_bringInBuffer [.istore 5])
  (sq (ite' (cno (cat E_Slit_bringInBuffer [.aload_n 0, .getfield 12, .iload 5, .invokevirtual 62] (.ifCond .ne 5)))
  (rti E_Slit_bringInBuffer [.iload_n 1])
  (blk E_Slit_bringInBuffer []))
  (blk E_Slit_bringInBuffer [.aload_n 0, .getfield 12, .iload 5, .aload_n 0, .getfield 38, .invokevirtual 302, .aload_n 0, .getfield 38, .invokevirtual 305, .aload_n 0, .getfield 38, .invokevirtual 308, .invokevirtual 74, .pop, .iinc 1 1]))))
  (blk E_Slit_bringInBuffer []))
  (blk E_Slit_bringInBuffer [.iinc 2 1])))))
  (blk E_Slit_bringInBuffer []) zFU)
  (rti E_Slit_bringInBuffer [.iload_n 1])))
def x_Slit_bringInBuffer : Ex := zrv 5 (exb true 6 d_Slit_bringInBuffer)
abbrev r_Slit_bringInBuffer : Room := ({ frames := 3, cells := 0, slots := 0, locals := 76 } : Room)
theorem eo_Slit_bringInBuffer (hw : zWok w) (cx : CX w p s m args c b_Slit_bringInBuffer 6 "CoilSlits") : EnvOk w true p l e r_Slit_bringInBuffer s m args below meth c Q b_Slit_bringInBuffer 6 "CoilSlits" E_Slit_bringInBuffer :=
  ⟨rfl, by decide +kernel, by decide +kernel, by decide +kernel, hw, fun h => absurd h (by decide),
  List.forall_mem_cons.mpr ⟨call_V cx (ct_Read_restart w l hw) tw_299 tw_296 tw_7 tw_297 tw_298 (ci := 4) (Nat.le_of_ble_eq_true rfl) rfl (by decide +kernel) ⟨Nat.le_of_ble_eq_true rfl, Nat.le_of_ble_eq_true rfl⟩, List.forall_mem_cons.mpr ⟨call_V cx (ct_Row_get w l hw) tw_216 tw_300 tw_5 tw_214 tw_215 (ci := 0) (Nat.le_of_ble_eq_true rfl) rfl (by decide +kernel) ⟨Nat.le_of_ble_eq_true rfl, Nat.le_of_ble_eq_true rfl⟩, List.forall_mem_cons.mpr ⟨call_V cx (ct_Read_accepts w l hw) tw_304 tw_301 tw_7 tw_302 tw_303 (ci := 4) (Nat.le_of_ble_eq_true rfl) rfl (by decide +kernel) ⟨Nat.le_of_ble_eq_true rfl, Nat.le_of_ble_eq_true rfl⟩, List.forall_mem_cons.mpr ⟨call_V cx (ct_Read_stack w l hw) tw_718 tw_715 tw_7 tw_716 tw_717 (ci := 4) (Nat.le_of_ble_eq_true rfl) rfl (by decide +kernel) ⟨Nat.le_of_ble_eq_true rfl, Nat.le_of_ble_eq_true rfl⟩, List.forall_mem_cons.mpr ⟨call_V cx (ct_Yard_emptiest w l hw) tw_722 tw_719 tw_2 tw_720 tw_721 (ci := 2) (Nat.le_of_ble_eq_true rfl) rfl (by decide +kernel) ⟨Nat.le_of_ble_eq_true rfl, Nat.le_of_ble_eq_true rfl⟩, List.forall_mem_cons.mpr ⟨call_V cx (ct_Yard_hasRoom w l hw) tw_372 tw_369 tw_2 tw_370 tw_371 (ci := 2) (Nat.le_of_ble_eq_true rfl) rfl (by decide +kernel) ⟨Nat.le_of_ble_eq_true rfl, Nat.le_of_ble_eq_true rfl⟩, List.forall_mem_cons.mpr ⟨call_V cx (ct_Read_width w l hw) tw_726 tw_723 tw_7 tw_724 tw_725 (ci := 4) (Nat.le_of_ble_eq_true rfl) rfl (by decide +kernel) ⟨Nat.le_of_ble_eq_true rfl, Nat.le_of_ble_eq_true rfl⟩, List.forall_mem_cons.mpr ⟨call_V cx (ct_Read_grade w l hw) tw_730 tw_727 tw_7 tw_728 tw_729 (ci := 4) (Nat.le_of_ble_eq_true rfl) rfl (by decide +kernel) ⟨Nat.le_of_ble_eq_true rfl, Nat.le_of_ble_eq_true rfl⟩, List.forall_mem_cons.mpr ⟨call_V cx (ct_Read_quality w l hw) tw_734 tw_731 tw_7 tw_732 tw_733 (ci := 4) (Nat.le_of_ble_eq_true rfl) rfl (by decide +kernel) ⟨Nat.le_of_ble_eq_true rfl, Nat.le_of_ble_eq_true rfl⟩, List.forall_mem_cons.mpr ⟨call_V cx (ct_Yard_bringIn w l hw) tw_579 tw_576 tw_2 tw_577 tw_578 (ci := 2) (Nat.le_of_ble_eq_true rfl) rfl (by decide +kernel) ⟨Nat.le_of_ble_eq_true rfl, Nat.le_of_ble_eq_true rfl⟩, fun q hq => absurd hq List.not_mem_nil⟩⟩⟩⟩⟩⟩⟩⟩⟩⟩⟩
theorem sn_Slit_bringInBuffer (h : MC w true p l e R s m args below meth c Q b_Slit_bringInBuffer 6 "CoilSlits" E_Slit_bringInBuffer 0 0 F (some .int)) : Sn (zK w true p l e R s m args below meth c Q 6) F (fun _ => False) (fun _ => False) 0 0 0 d_Slit_bringInBuffer 0 0 0 := by
  unfold d_Slit_bringInBuffer
  exact (sn_sq (pm := 11) (m_blk h zz (by decide +kernel))
  (sn_sq (pm := 160) (sn_lop (pt := 19) (pu := 157) (p2 := 157) (px := 160) (kb2 := fun _ => False) (kc2 := fun _ => False) (sc_fo m_fo (sc_no (m_cat h zz (p1 := 16) (tgt := 160) (by decide +kernel) (by decide +kernel) (by decide))))
  (sn_sq (pm := 35) (m_blk h zz (by decide +kernel))
  (sn_sq (pm := 65) (sn_ite (pt := 60) (pf := 64) (sc_or (pm := 45) (m_cat h zz (p1 := 42) (tgt := 60) (by decide +kernel) (by decide +kernel) (by decide)) (sc_no (m_cat h zz (p1 := 57) (tgt := 64) (by decide +kernel) (by decide +kernel) (by decide))))
  (sn_goto (pm := 61) (m_blk h zz (by decide +kernel)) (m_goto h (off := 4) (by decide +kernel) (by decide)))
  (m_blk h zz (by decide +kernel)))
  (sn_sq (pm := 67) (m_blk h zz (by decide +kernel))
  (sn_sq (pm := 154) (sn_ite (pt := 76) (pf := 154) (sc_an (pm := 71) (sc_no (m_cat h zz (p1 := 68) (tgt := 154) (by decide +kernel) (by decide +kernel) (by decide))) (sc_no (m_cat h zz (p1 := 73) (tgt := 154) (by decide +kernel) (by decide +kernel) (by decide))))
  (sn_sq (pm := 104) (sn_ite (pt := 87) (pf := 97) (sc_no (m_cat h zz (p1 := 84) (tgt := 97) (by decide +kernel) (by decide +kernel) (by decide)))
  (sn_goto (pm := 94) (m_blk h zz (by decide +kernel)) (m_goto h (off := 10) (by decide +kernel) (by decide)))
  (m_blk h zz (by decide +kernel)))
  (sn_sq (pm := 106) (m_blk h zz (by decide +kernel))
  (sn_sq (pm := 120) (sn_ite (pt := 118) (pf := 120) (sc_no (m_cat h zz (p1 := 115) (tgt := 120) (by decide +kernel) (by decide +kernel) (by decide)))
  (m_rti h zz (p1 := 119) (by decide +kernel) (by decide +kernel) (Nat.zero_le _) (Nat.zero_le _))
  (m_blk h zz rfl))
  (m_blk h zz (by decide +kernel)))))
  (m_blk h zz rfl))
  (m_blk h zz (by decide +kernel))))))
  (m_blk h zz rfl) (m_goto h (off := (-146)) (by decide +kernel) (by decide)) zFU)
  (m_rti h zz (p1 := 161) (by decide +kernel) (by decide +kernel) (Nat.zero_le _) (Nat.zero_le _))))
theorem ct_Slit_bringInBuffer (w : Wd) (l : Launch) (hw : zWok w) : CT w l y_Slit_bringInBuffer b_Slit_bringInBuffer 6 (some .int) r_Slit_bringInBuffer (exb true 6 d_Slit_bringInBuffer) :=
  ct_plain (by decide +kernel) (fun p e s m args below meth c Q cx hnm => eo_Slit_bringInBuffer hw cx) (fun p e s m args below meth c Q F h => sn_Slit_bringInBuffer h)
theorem q_Slit_bringInBuffer {a : Nat} {fs : List Value} {M : Hp} {nx : Nat}  (h : M a = some (cO 5 fs)) : x_Slit_bringInBuffer [.ref a] (M, nx) = zres (d_Slit_bringInBuffer ([some (.ref a), none, none, none, none, none], [], (M, nx))) := q_ofV [some (.ref a), none, none, none, none, none] h rfl (Nat.le_of_ble_eq_true rfl) (Or.inr rfl)
theorem lc_Slit_bringInBuffer_290 : lookI (eC E_Slit_bringInBuffer) (.invokevirtual 290) = some (1, x_Read_restart) := rfl
theorem lc_Slit_bringInBuffer_272 : lookI (eC E_Slit_bringInBuffer) (.invokevirtual 272) = some (2, x_Row_get) := rfl
theorem lc_Slit_bringInBuffer_293 : lookI (eC E_Slit_bringInBuffer) (.invokevirtual 293) = some (2, x_Read_accepts) := rfl
theorem lc_Slit_bringInBuffer_296 : lookI (eC E_Slit_bringInBuffer) (.invokevirtual 296) = some (1, x_Read_stack) := rfl
theorem lc_Slit_bringInBuffer_299 : lookI (eC E_Slit_bringInBuffer) (.invokevirtual 299) = some (1, x_Yard_emptiest) := rfl
theorem lc_Slit_bringInBuffer_62 : lookI (eC E_Slit_bringInBuffer) (.invokevirtual 62) = some (2, x_Yard_hasRoom) := rfl
theorem lc_Slit_bringInBuffer_302 : lookI (eC E_Slit_bringInBuffer) (.invokevirtual 302) = some (1, x_Read_width) := rfl
theorem lc_Slit_bringInBuffer_305 : lookI (eC E_Slit_bringInBuffer) (.invokevirtual 305) = some (1, x_Read_grade) := rfl
theorem lc_Slit_bringInBuffer_308 : lookI (eC E_Slit_bringInBuffer) (.invokevirtual 308) = some (1, x_Read_quality) := rfl
theorem lc_Slit_bringInBuffer_74 : lookI (eC E_Slit_bringInBuffer) (.invokevirtual 74) = some (5, x_Yard_bringIn) := rfl
theorem lf_Slit_bringInBuffer_38 : lookN (eF E_Slit_bringInBuffer) 38 = some (5, 4) := rfl
theorem lf_Slit_bringInBuffer_174 : lookN (eF E_Slit_bringInBuffer) 174 = some (5, 5) := rfl
theorem lf_Slit_bringInBuffer_31 : lookN (eF E_Slit_bringInBuffer) 31 = some (5, 3) := rfl
theorem lf_Slit_bringInBuffer_12 : lookN (eF E_Slit_bringInBuffer) 12 = some (5, 0) := rfl
theorem lb_Slit_bringInBuffer : eB E_Slit_bringInBuffer = true := rfl
-- CoilSlits$CoilReader.isComplete
def E_Read_isComplete : Env := (true, [(11, 4, 0)], [], [], [], zST, false)
def d_Read_isComplete : Dn := (sq (ite' (cno (cat E_Read_isComplete [.aload_n 0, .getfield 11, .iconst 5] (.if_icmp .lt 7)))
  (blk E_Read_isComplete [.iconst 1])
  (blk E_Read_isComplete [.iconst 0]))
  (rtz E_Read_isComplete []))
def x_Read_isComplete : Ex := zrv 4 (exb true 1 d_Read_isComplete)
abbrev r_Read_isComplete : Room := ({ frames := 0, cells := 0, slots := 0, locals := 0 } : Room)
theorem eo_Read_isComplete (hw : zWok w) (cx : CX w p s m args c b_Read_isComplete 1 "CoilSlits$CoilReader") : EnvOk w true p l e r_Read_isComplete s m args below meth c Q b_Read_isComplete 1 "CoilSlits$CoilReader" E_Read_isComplete :=
  ⟨rfl, by decide +kernel, by decide +kernel, by decide +kernel, hw, fun h => absurd h (by decide),
  fun q hq => absurd hq List.not_mem_nil⟩
theorem sn_Read_isComplete (h : MC w true p l e R s m args below meth c Q b_Read_isComplete 1 "CoilSlits$CoilReader" E_Read_isComplete 0 0 F (some .boolean)) : Sn (zK w true p l e R s m args below meth c Q 1) F (fun _ => False) (fun _ => False) 0 0 0 d_Read_isComplete 0 0 0 := by
  unfold d_Read_isComplete
  exact (sn_sq (pm := 13) (sn_ite (pt := 8) (pf := 12) (sc_no (m_cat h zz (p1 := 5) (tgt := 12) (by decide +kernel) (by decide +kernel) (by decide)))
  (sn_goto (pm := 9) (m_blk h zz (by decide +kernel)) (m_goto h (off := 4) (by decide +kernel) (by decide)))
  (m_blk h zz (by decide +kernel)))
  (m_rtz h zz (p1 := 13) (by decide +kernel) (by decide +kernel) (Nat.zero_le _) (Nat.zero_le _)))
theorem ct_Read_isComplete (w : Wd) (l : Launch) (hw : zWok w) : CT w l y_Read_isComplete b_Read_isComplete 1 (some .boolean) r_Read_isComplete (exb true 1 d_Read_isComplete) :=
  ct_plain (by decide +kernel) (fun p e s m args below meth c Q cx hnm => eo_Read_isComplete hw cx) (fun p e s m args below meth c Q F h => sn_Read_isComplete h)
theorem q_Read_isComplete {a : Nat} {fs : List Value} {M : Hp} {nx : Nat}  (h : M a = some (cO 4 fs)) : x_Read_isComplete [.ref a] (M, nx) = zres (d_Read_isComplete ([some (.ref a)], [], (M, nx))) := q_ofV [some (.ref a)] h rfl (Nat.le_of_ble_eq_true rfl) (Or.inr rfl)
theorem lf_Read_isComplete_11 : lookN (eF E_Read_isComplete) 11 = some (4, 0) := rfl
theorem lb_Read_isComplete : eB E_Read_isComplete = true := rfl
-- CoilSlits$History.restore
def E_Hist_restore : Env := (true, [(22, 3, 1), (18, 3, 2)], [(.invokestatic 39, 2, xMax), (.invokevirtual 25, 2, x_Hist_stateAt), (.invokevirtual 29, 2, x_Yard_copyFrom)], [], [], zST, false)
def d_Hist_restore : Dn := (sq (blk E_Hist_restore [.aload_n 0, .aload_n 0, .getfield 22, .bipush 6, .iadd, .iconst 1, .isub, .bipush 6, .irem, .putfield 22, .aload_n 0, .aload_n 0, .getfield 18, .iconst 1, .isub, .iconst 0, .invokestatic 39, .putfield 18, .aload_n 0, .aload_n 0, .getfield 22, .invokevirtual 25, .astore_n 2])
  (sq (ite' (cno (cat E_Hist_restore [.aload_n 2] (.ifnull 8)))
  (blk E_Hist_restore [.aload_n 1, .aload_n 2, .invokevirtual 29])
  (blk E_Hist_restore []))
  (rtv E_Hist_restore [])))
def x_Hist_restore : Ex := zrv 3 (exb true 3 d_Hist_restore)
abbrev r_Hist_restore : Room := ({ frames := 3, cells := 0, slots := 0, locals := 103 } : Room)
theorem eo_Hist_restore (hw : zWok w) (cx : CX w p s m args c b_Hist_restore 3 "CoilSlits$History") : EnvOk w true p l e r_Hist_restore s m args below meth c Q b_Hist_restore 3 "CoilSlits$History" E_Hist_restore :=
  ⟨rfl, by decide +kernel, by decide +kernel, by decide +kernel, hw, fun h => absurd h (by decide),
  List.forall_mem_cons.mpr ⟨call_max cx tw_747 tw_38 tw_4 tw_xMax ⟨Nat.le_of_ble_eq_true rfl, Nat.le_of_ble_eq_true rfl⟩, List.forall_mem_cons.mpr ⟨call_V cx (ct_Hist_stateAt w l hw) tw_167 tw_164 tw_6 tw_166 tp_0 (ci := 3) (Nat.le_of_ble_eq_true rfl) rfl (by decide +kernel) ⟨Nat.le_of_ble_eq_true rfl, Nat.le_of_ble_eq_true rfl⟩, List.forall_mem_cons.mpr ⟨call_V cx (ct_Yard_copyFrom w l hw) tw_171 tw_168 tw_2 tw_169 tw_170 (ci := 2) (Nat.le_of_ble_eq_true rfl) rfl (by decide +kernel) ⟨Nat.le_of_ble_eq_true rfl, Nat.le_of_ble_eq_true rfl⟩, fun q hq => absurd hq List.not_mem_nil⟩⟩⟩⟩
theorem sn_Hist_restore (h : MC w true p l e R s m args below meth c Q b_Hist_restore 3 "CoilSlits$History" E_Hist_restore 0 0 F none) : Sn (zK w true p l e R s m args below meth c Q 3) F (fun _ => False) (fun _ => False) 0 0 0 d_Hist_restore 0 0 0 := by
  unfold d_Hist_restore
  exact (sn_sq (pm := 39) (m_blk h zz (by decide +kernel))
  (sn_sq (pm := 48) (sn_ite (pt := 43) (pf := 48) (sc_no (m_cat h zz (p1 := 40) (tgt := 48) (by decide +kernel) (by decide +kernel) (by decide)))
  (m_blk h zz (by decide +kernel))
  (m_blk h zz rfl))
  (m_rtv h zz (p1 := 48) (by decide +kernel) (by decide +kernel) (Nat.zero_le _) (Nat.zero_le _))))
theorem ct_Hist_restore (w : Wd) (l : Launch) (hw : zWok w) : CT w l y_Hist_restore b_Hist_restore 3 none r_Hist_restore (exb true 3 d_Hist_restore) :=
  ct_plain (by decide +kernel) (fun p e s m args below meth c Q cx hnm => eo_Hist_restore hw cx) (fun p e s m args below meth c Q F h => sn_Hist_restore h)
theorem q_Hist_restore {a : Nat} {fs : List Value} {M : Hp} {nx : Nat} (x0 : Nat) (h : M a = some (cO 3 fs)) : x_Hist_restore [.ref a, .ref x0] (M, nx) = zres (d_Hist_restore ([some (.ref a), some (.ref x0), none], [], (M, nx))) := q_ofV [some (.ref a), some (.ref x0), none] h rfl (Nat.le_of_ble_eq_true rfl) (Or.inr rfl)
theorem lc_Hist_restore_39 : lookI (eC E_Hist_restore) (.invokestatic 39) = some (2, xMax) := rfl
theorem lc_Hist_restore_25 : lookI (eC E_Hist_restore) (.invokevirtual 25) = some (2, x_Hist_stateAt) := rfl
theorem lc_Hist_restore_29 : lookI (eC E_Hist_restore) (.invokevirtual 29) = some (2, x_Yard_copyFrom) := rfl
theorem lf_Hist_restore_22 : lookN (eF E_Hist_restore) 22 = some (3, 1) := rfl
theorem lf_Hist_restore_18 : lookN (eF E_Hist_restore) 18 = some (3, 2) := rfl
theorem lb_Hist_restore : eB E_Hist_restore = true := rfl
end
