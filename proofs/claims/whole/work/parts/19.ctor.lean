section
variable {w : Wd} {p : Program} {l : Launch} {e : Jvm.Env} {s : State} {m : MethodId} {args : Array Value} {below : List Frame} {meth : Method} {c : Code} {Q : State → Prop} {F : Out → G → Prop} {R : Room}
-- CoilSlits$Row.<init>
def E_Row_init : Env := (true, [(13, 0, 0)], [(.invokespecial 1, 1, xObj), (.invokestatic 7, 2, xMax)], [], [], zST, true)
def d_Row_init : Dn := (sq (blk E_Row_init [.aload_n 0, .invokespecial 1, .aload_n 0, .iload_n 1, .iconst 0, .invokestatic 7])
  (sq (newI 60)
  (rtv E_Row_init [.putfield 13])))
def x_Row_init : Ex := zri (exb true 2 d_Row_init)
abbrev r_Row_init : Room := ({ frames := 1, cells := 1, slots := 60, locals := 21 } : Room)
theorem eo_Row_init (hw : zWok w) (cx : CX w p s m args c b_Row_init 2 "CoilSlits$Row") (hnm : meth.name = "<init>") : EnvOk w true p l e r_Row_init s m args below meth c Q b_Row_init 2 "CoilSlits$Row" E_Row_init :=
  ⟨rfl, by decide +kernel, by decide +kernel, by decide +kernel, hw, fun _ => hnm,
  List.forall_mem_cons.mpr ⟨call_obj cx tw_53 tw_23 tw_24 ⟨Nat.le_of_ble_eq_true rfl, Nat.le_of_ble_eq_true rfl⟩, List.forall_mem_cons.mpr ⟨call_max cx tw_54 tw_38 tw_4 tw_xMax ⟨Nat.le_of_ble_eq_true rfl, Nat.le_of_ble_eq_true rfl⟩, fun q hq => absurd hq List.not_mem_nil⟩⟩⟩
theorem sn_Row_init (hw : zWok w) (h : MC w true p l e r_Row_init s m args below meth c Q b_Row_init 2 "CoilSlits$Row" E_Row_init 1 60 F none) : Sn (zK w true p l e r_Row_init s m args below meth c Q 2) F (fun _ => False) (fun _ => False) 0 0 0 d_Row_init 1 60 0 := by
  unfold d_Row_init
  exact (sn_sq (pm := 10) (c1 := 0) (s1 := 0) (m_blk h ⟨Nat.le_of_ble_eq_true rfl, Nat.le_of_ble_eq_true rfl⟩ (by decide +kernel))
  (sn_sq (pm := 12) (c1 := 1) (s1 := 60) (sn_newI (N := 60) (cs := 0) (ss := 0) h.1 (by decide +kernel) tw_47 (by decide) (Nat.le_of_ble_eq_true rfl) (Nat.le_of_ble_eq_true rfl))
  (m_rtv h ⟨Nat.le_of_ble_eq_true rfl, Nat.le_of_ble_eq_true rfl⟩ (p1 := 15) (by decide +kernel) (by decide +kernel) (Nat.le_of_ble_eq_true rfl) (Nat.le_of_ble_eq_true rfl))))
theorem ct_Row_init (w : Wd) (l : Launch) (hw : zWok w) : CT w l y_Row_init b_Row_init 2 none r_Row_init (exb true 2 d_Row_init) :=
  ct_plain (by decide +kernel) (fun p e s m args below meth c Q cx hnm => eo_Row_init hw cx hnm) (fun p e s m args below meth c Q F h => sn_Row_init hw h)
theorem q_Row_init (a : Nat) (x0 : Int32) (g : G) : x_Row_init [.ref a, .int x0] g = zres (d_Row_init ([some (.ref a), some (.int x0)], [], g)) := q_ofI [some (.ref a), some (.int x0)] rfl (Nat.le_of_ble_eq_true rfl) (Or.inr rfl)
theorem lc_Row_init_1 : lookI (eC E_Row_init) (.invokespecial 1) = some (1, xObj) := rfl
theorem lc_Row_init_7 : lookI (eC E_Row_init) (.invokestatic 7) = some (2, xMax) := rfl
theorem lf_Row_init_13 : lookN (eF E_Row_init) 13 = some (0, 0) := rfl
theorem lb_Row_init : eB E_Row_init = true := rfl
theorem lt_Row_init : eT E_Row_init = zST := rfl
theorem li_Row_init : eI E_Row_init = true := rfl
-- CoilSlits$Grid.<init>
def E_Grid_init : Env := (true, [(13, 1, 0), (19, 1, 1)], [(.invokespecial 1, 1, xObj), (.invokestatic 7, 2, xMax)], [], [], zST, true)
def d_Grid_init : Dn := (sq (blk E_Grid_init [.aload_n 0, .invokespecial 1, .aload_n 0, .iload_n 2, .iconst 0, .invokestatic 7, .putfield 13, .aload_n 0, .iload_n 1, .aload_n 0, .getfield 13, .imul, .iconst 0, .invokestatic 7])
  (sq (newI 150)
  (rtv E_Grid_init [.putfield 19])))
def x_Grid_init : Ex := zri (exb true 3 d_Grid_init)
abbrev r_Grid_init : Room := ({ frames := 1, cells := 1, slots := 150, locals := 21 } : Room)
theorem eo_Grid_init (hw : zWok w) (cx : CX w p s m args c b_Grid_init 3 "CoilSlits$Grid") (hnm : meth.name = "<init>") : EnvOk w true p l e r_Grid_init s m args below meth c Q b_Grid_init 3 "CoilSlits$Grid" E_Grid_init :=
  ⟨rfl, by decide +kernel, by decide +kernel, by decide +kernel, hw, fun _ => hnm,
  List.forall_mem_cons.mpr ⟨call_obj cx tw_36 tw_23 tw_24 ⟨Nat.le_of_ble_eq_true rfl, Nat.le_of_ble_eq_true rfl⟩, List.forall_mem_cons.mpr ⟨call_max cx tw_37 tw_38 tw_4 tw_xMax ⟨Nat.le_of_ble_eq_true rfl, Nat.le_of_ble_eq_true rfl⟩, fun q hq => absurd hq List.not_mem_nil⟩⟩⟩
theorem sn_Grid_init (hw : zWok w) (h : MC w true p l e r_Grid_init s m args below meth c Q b_Grid_init 3 "CoilSlits$Grid" E_Grid_init 1 150 F none) : Sn (zK w true p l e r_Grid_init s m args below meth c Q 3) F (fun _ => False) (fun _ => False) 0 0 0 d_Grid_init 1 150 0 := by
  unfold d_Grid_init
  exact (sn_sq (pm := 24) (c1 := 0) (s1 := 0) (m_blk h ⟨Nat.le_of_ble_eq_true rfl, Nat.le_of_ble_eq_true rfl⟩ (by decide +kernel))
  (sn_sq (pm := 26) (c1 := 1) (s1 := 150) (sn_newI (N := 150) (cs := 0) (ss := 0) h.1 (by decide +kernel) tw_47 (by decide) (Nat.le_of_ble_eq_true rfl) (Nat.le_of_ble_eq_true rfl))
  (m_rtv h ⟨Nat.le_of_ble_eq_true rfl, Nat.le_of_ble_eq_true rfl⟩ (p1 := 29) (by decide +kernel) (by decide +kernel) (Nat.le_of_ble_eq_true rfl) (Nat.le_of_ble_eq_true rfl))))
theorem ct_Grid_init (w : Wd) (l : Launch) (hw : zWok w) : CT w l y_Grid_init b_Grid_init 3 none r_Grid_init (exb true 3 d_Grid_init) :=
  ct_plain (by decide +kernel) (fun p e s m args below meth c Q cx hnm => eo_Grid_init hw cx hnm) (fun p e s m args below meth c Q F h => sn_Grid_init hw h)
theorem q_Grid_init (a : Nat) (x0 : Int32) (x1 : Int32) (g : G) : x_Grid_init [.ref a, .int x0, .int x1] g = zres (d_Grid_init ([some (.ref a), some (.int x0), some (.int x1)], [], g)) := q_ofI [some (.ref a), some (.int x0), some (.int x1)] rfl (Nat.le_of_ble_eq_true rfl) (Or.inr rfl)
theorem lc_Grid_init_1 : lookI (eC E_Grid_init) (.invokespecial 1) = some (1, xObj) := rfl
theorem lc_Grid_init_7 : lookI (eC E_Grid_init) (.invokestatic 7) = some (2, xMax) := rfl
theorem lf_Grid_init_13 : lookN (eF E_Grid_init) 13 = some (1, 0) := rfl
theorem lf_Grid_init_19 : lookN (eF E_Grid_init) 19 = some (1, 1) := rfl
theorem lb_Grid_init : eB E_Grid_init = true := rfl
theorem lt_Grid_init : eT E_Grid_init = zST := rfl
theorem li_Grid_init : eI E_Grid_init = true := rfl
-- CoilSlits$Yard.<init>
def E_Yard_init : Env := (true, [(14, 2, 0), (25, 2, 1), (29, 2, 2), (32, 2, 3), (35, 2, 4)], [(.invokespecial 3, 1, xObj), (.invokevirtual 38, 4, x_Grid_put), (.invokevirtual 46, 3, x_Row_put)], [], [(42, 0)], zST, true)
def d_Yard_init : Dn := (sq (blk E_Yard_init [.aload_n 0, .invokespecial 3, .aload_n 0])
  (sq (newO 1)
  (sq (blk E_Yard_init [.dup, .bipush 30, .iconst 5])
  (sq (calD 3 x_Grid_init)
  (sq (blk E_Yard_init [.putfield 14, .aload_n 0])
  (sq (newO 0)
  (sq (blk E_Yard_init [.dup, .bipush 6])
  (sq (calD 2 x_Row_init)
  (sq (blk E_Yard_init [.putfield 25, .aload_n 0])
  (sq (newO 1)
  (sq (blk E_Yard_init [.dup, .bipush 8, .bipush 6])
  (sq (calD 3 x_Grid_init)
  (sq (blk E_Yard_init [.putfield 29, .aload_n 0])
  (sq (newO 0)
  (sq (blk E_Yard_init [.dup, .iconst 4])
  (sq (calD 2 x_Row_init)
  (sq (blk E_Yard_init [.putfield 32, .aload_n 0])
  (sq (newO 0)
  (sq (blk E_Yard_init [.dup, .bipush 14])
  (sq (calD 2 x_Row_init)
  (sq (blk E_Yard_init [.putfield 35, .iconst 0, .istore_n 1])
  (sq (lop (cno (cat E_Yard_init [.iload_n 1, .bipush 30] (.if_icmp .ge 19)))
  (blk E_Yard_init [.aload_n 0, .getfield 14, .iload_n 1, .iconst 4, .iconst (-1), .invokevirtual 38, .iinc 1 1])
  (blk E_Yard_init []) zFU)
  (sq (blk E_Yard_init [.iconst 0, .istore_n 1])
  (sq (lop (cno (cat E_Yard_init [.iload_n 1, .getstatic 42, .arraylength] (.if_icmp .ge 22)))
  (blk E_Yard_init [.aload_n 0, .getfield 32, .iload_n 1, .getstatic 42, .iload_n 1, .iaload, .invokevirtual 46, .iinc 1 1])
  (blk E_Yard_init []) zFU)
  (rtv E_Yard_init [])))))))))))))))))))))))))
def x_Yard_init : Ex := zri (exb true 2 d_Yard_init)
abbrev r_Yard_init : Room := ({ frames := 2, cells := 10, slots := 487, locals := 43 } : Room)
theorem eo_Yard_init (hw : zWok w) (cx : CX w p s m args c b_Yard_init 2 "CoilSlits$Yard") (hnm : meth.name = "<init>") : EnvOk w true p l e r_Yard_init s m args below meth c Q b_Yard_init 2 "CoilSlits$Yard" E_Yard_init :=
  ⟨rfl, by decide +kernel, by decide +kernel, by decide +kernel, hw, fun _ => hnm,
  List.forall_mem_cons.mpr ⟨call_obj cx tw_30 tw_23 tw_24 ⟨Nat.le_of_ble_eq_true rfl, Nat.le_of_ble_eq_true rfl⟩, List.forall_mem_cons.mpr ⟨call_V cx (ct_Grid_put w l hw) tw_62 tw_59 tw_3 tw_60 tw_61 (ci := 1) (Nat.le_of_ble_eq_true rfl) rfl (by decide +kernel) ⟨Nat.le_of_ble_eq_true rfl, Nat.le_of_ble_eq_true rfl⟩, List.forall_mem_cons.mpr ⟨call_V cx (ct_Row_put w l hw) tw_68 tw_65 tw_5 tw_66 tw_67 (ci := 0) (Nat.le_of_ble_eq_true rfl) rfl (by decide +kernel) ⟨Nat.le_of_ble_eq_true rfl, Nat.le_of_ble_eq_true rfl⟩, fun q hq => absurd hq List.not_mem_nil⟩⟩⟩⟩
theorem sn_Yard_init (hw : zWok w) (h : MC w true p l e r_Yard_init s m args below meth c Q b_Yard_init 2 "CoilSlits$Yard" E_Yard_init 10 487 F none) : Sn (zK w true p l e r_Yard_init s m args below meth c Q 2) F (fun _ => False) (fun _ => False) 0 0 0 d_Yard_init 10 487 0 := by
  unfold d_Yard_init
  exact (sn_sq (pm := 5) (c1 := 0) (s1 := 0) (m_blk h ⟨Nat.le_of_ble_eq_true rfl, Nat.le_of_ble_eq_true rfl⟩ (by decide +kernel))
  (sn_sq (pm := 8) (c1 := 1) (s1 := 2) (sn_newO (cs := 0) (ss := 0) h.1 (by decide +kernel) (Nat.le_of_ble_eq_true rfl) rfl rfl tw_31 tw_32 tw_3 (Nat.le_of_ble_eq_true rfl) (Nat.le_of_ble_eq_true rfl))
  (sn_sq (pm := 12) (c1 := 1) (s1 := 2) (m_blk h ⟨Nat.le_of_ble_eq_true rfl, Nat.le_of_ble_eq_true rfl⟩ (by decide +kernel))
  (sn_sq (pm := 15) (c1 := 2) (s1 := 152) (sn_cal (i := .invokespecial 11) (nn := 3) (mc := 1) (ms := 150) (f := x_Grid_init) (cs := 1) (ss := 2) (call_I h.1 (ct_Grid_init w l hw) rfl tw_35 tw_33 tw_3 tw_34 (by decide +kernel) ⟨Nat.le_of_ble_eq_true rfl, Nat.le_of_ble_eq_true rfl⟩) (by decide +kernel) (Nat.le_of_ble_eq_true rfl) (Nat.le_of_ble_eq_true rfl))
  (sn_sq (pm := 19) (c1 := 2) (s1 := 152) (m_blk h ⟨Nat.le_of_ble_eq_true rfl, Nat.le_of_ble_eq_true rfl⟩ (by decide +kernel))
  (sn_sq (pm := 22) (c1 := 3) (s1 := 153) (sn_newO (cs := 2) (ss := 152) h.1 (by decide +kernel) (Nat.le_of_ble_eq_true rfl) rfl rfl tw_48 tw_49 tw_5 (Nat.le_of_ble_eq_true rfl) (Nat.le_of_ble_eq_true rfl))
  (sn_sq (pm := 25) (c1 := 3) (s1 := 153) (m_blk h ⟨Nat.le_of_ble_eq_true rfl, Nat.le_of_ble_eq_true rfl⟩ (by decide +kernel))
  (sn_sq (pm := 28) (c1 := 4) (s1 := 213) (sn_cal (i := .invokespecial 22) (nn := 2) (mc := 1) (ms := 60) (f := x_Row_init) (cs := 3) (ss := 153) (call_I h.1 (ct_Row_init w l hw) rfl tw_52 tw_50 tw_5 tw_51 (by decide +kernel) ⟨Nat.le_of_ble_eq_true rfl, Nat.le_of_ble_eq_true rfl⟩) (by decide +kernel) (Nat.le_of_ble_eq_true rfl) (Nat.le_of_ble_eq_true rfl))
  (sn_sq (pm := 32) (c1 := 4) (s1 := 213) (m_blk h ⟨Nat.le_of_ble_eq_true rfl, Nat.le_of_ble_eq_true rfl⟩ (by decide +kernel))
  (sn_sq (pm := 35) (c1 := 5) (s1 := 215) (sn_newO (cs := 4) (ss := 213) h.1 (by decide +kernel) (Nat.le_of_ble_eq_true rfl) rfl rfl tw_31 tw_32 tw_3 (Nat.le_of_ble_eq_true rfl) (Nat.le_of_ble_eq_true rfl))
  (sn_sq (pm := 40) (c1 := 5) (s1 := 215) (m_blk h ⟨Nat.le_of_ble_eq_true rfl, Nat.le_of_ble_eq_true rfl⟩ (by decide +kernel))
  (sn_sq (pm := 43) (c1 := 6) (s1 := 365) (sn_cal (i := .invokespecial 11) (nn := 3) (mc := 1) (ms := 150) (f := x_Grid_init) (cs := 5) (ss := 215) (call_I h.1 (ct_Grid_init w l hw) rfl tw_35 tw_33 tw_3 tw_34 (by decide +kernel) ⟨Nat.le_of_ble_eq_true rfl, Nat.le_of_ble_eq_true rfl⟩) (by decide +kernel) (Nat.le_of_ble_eq_true rfl) (Nat.le_of_ble_eq_true rfl))
  (sn_sq (pm := 47) (c1 := 6) (s1 := 365) (m_blk h ⟨Nat.le_of_ble_eq_true rfl, Nat.le_of_ble_eq_true rfl⟩ (by decide +kernel))
  (sn_sq (pm := 50) (c1 := 7) (s1 := 366) (sn_newO (cs := 6) (ss := 365) h.1 (by decide +kernel) (Nat.le_of_ble_eq_true rfl) rfl rfl tw_48 tw_49 tw_5 (Nat.le_of_ble_eq_true rfl) (Nat.le_of_ble_eq_true rfl))
  (sn_sq (pm := 52) (c1 := 7) (s1 := 366) (m_blk h ⟨Nat.le_of_ble_eq_true rfl, Nat.le_of_ble_eq_true rfl⟩ (by decide +kernel))
  (sn_sq (pm := 55) (c1 := 8) (s1 := 426) (sn_cal (i := .invokespecial 22) (nn := 2) (mc := 1) (ms := 60) (f := x_Row_init) (cs := 7) (ss := 366) (call_I h.1 (ct_Row_init w l hw) rfl tw_52 tw_50 tw_5 tw_51 (by decide +kernel) ⟨Nat.le_of_ble_eq_true rfl, Nat.le_of_ble_eq_true rfl⟩) (by decide +kernel) (Nat.le_of_ble_eq_true rfl) (Nat.le_of_ble_eq_true rfl))
  (sn_sq (pm := 59) (c1 := 8) (s1 := 426) (m_blk h ⟨Nat.le_of_ble_eq_true rfl, Nat.le_of_ble_eq_true rfl⟩ (by decide +kernel))
  (sn_sq (pm := 62) (c1 := 9) (s1 := 427) (sn_newO (cs := 8) (ss := 426) h.1 (by decide +kernel) (Nat.le_of_ble_eq_true rfl) rfl rfl tw_48 tw_49 tw_5 (Nat.le_of_ble_eq_true rfl) (Nat.le_of_ble_eq_true rfl))
  (sn_sq (pm := 65) (c1 := 9) (s1 := 427) (m_blk h ⟨Nat.le_of_ble_eq_true rfl, Nat.le_of_ble_eq_true rfl⟩ (by decide +kernel))
  (sn_sq (pm := 68) (c1 := 10) (s1 := 487) (sn_cal (i := .invokespecial 22) (nn := 2) (mc := 1) (ms := 60) (f := x_Row_init) (cs := 9) (ss := 427) (call_I h.1 (ct_Row_init w l hw) rfl tw_52 tw_50 tw_5 tw_51 (by decide +kernel) ⟨Nat.le_of_ble_eq_true rfl, Nat.le_of_ble_eq_true rfl⟩) (by decide +kernel) (Nat.le_of_ble_eq_true rfl) (Nat.le_of_ble_eq_true rfl))
  (sn_sq (pm := 73) (c1 := 10) (s1 := 487) (m_blk h ⟨Nat.le_of_ble_eq_true rfl, Nat.le_of_ble_eq_true rfl⟩ (by decide +kernel))
  (sn_sq (pm := 95) (c1 := 10) (s1 := 487) (sn_lop (pt := 79) (pu := 92) (p2 := 92) (px := 95) (kb2 := fun _ => False) (kc2 := fun _ => False) (sc_no (m_cat h ⟨Nat.le_of_ble_eq_true rfl, Nat.le_of_ble_eq_true rfl⟩ (p1 := 76) (tgt := 95) (by decide +kernel) (by decide +kernel) (by decide)))
  (m_blk h ⟨Nat.le_of_ble_eq_true rfl, Nat.le_of_ble_eq_true rfl⟩ (by decide +kernel))
  (m_blk h ⟨Nat.le_of_ble_eq_true rfl, Nat.le_of_ble_eq_true rfl⟩ rfl) (m_goto h (off := (-19)) (by decide +kernel) (by decide)) zFU)
  (sn_sq (pm := 97) (c1 := 10) (s1 := 487) (m_blk h ⟨Nat.le_of_ble_eq_true rfl, Nat.le_of_ble_eq_true rfl⟩ (by decide +kernel))
  (sn_sq (pm := 124) (c1 := 10) (s1 := 487) (sn_lop (pt := 105) (pu := 121) (p2 := 121) (px := 124) (kb2 := fun _ => False) (kc2 := fun _ => False) (sc_no (m_cat h ⟨Nat.le_of_ble_eq_true rfl, Nat.le_of_ble_eq_true rfl⟩ (p1 := 102) (tgt := 124) (by decide +kernel) (by decide +kernel) (by decide)))
  (m_blk h ⟨Nat.le_of_ble_eq_true rfl, Nat.le_of_ble_eq_true rfl⟩ (by decide +kernel))
  (m_blk h ⟨Nat.le_of_ble_eq_true rfl, Nat.le_of_ble_eq_true rfl⟩ rfl) (m_goto h (off := (-24)) (by decide +kernel) (by decide)) zFU)
  (m_rtv h ⟨Nat.le_of_ble_eq_true rfl, Nat.le_of_ble_eq_true rfl⟩ (p1 := 124) (by decide +kernel) (by decide +kernel) (Nat.le_of_ble_eq_true rfl) (Nat.le_of_ble_eq_true rfl))))))))))))))))))))))))))
theorem ct_Yard_init (w : Wd) (l : Launch) (hw : zWok w) : CT w l y_Yard_init b_Yard_init 2 none r_Yard_init (exb true 2 d_Yard_init) :=
  ct_plain (by decide +kernel) (fun p e s m args below meth c Q cx hnm => eo_Yard_init hw cx hnm) (fun p e s m args below meth c Q F h => sn_Yard_init hw h)
theorem q_Yard_init (a : Nat)  (g : G) : x_Yard_init [.ref a] g = zres (d_Yard_init ([some (.ref a), none], [], g)) := q_ofI [some (.ref a), none] rfl (Nat.le_of_ble_eq_true rfl) (Or.inr rfl)
theorem lc_Yard_init_3 : lookI (eC E_Yard_init) (.invokespecial 3) = some (1, xObj) := rfl
theorem lc_Yard_init_38 : lookI (eC E_Yard_init) (.invokevirtual 38) = some (4, x_Grid_put) := rfl
theorem lc_Yard_init_46 : lookI (eC E_Yard_init) (.invokevirtual 46) = some (3, x_Row_put) := rfl
theorem lf_Yard_init_14 : lookN (eF E_Yard_init) 14 = some (2, 0) := rfl
theorem lf_Yard_init_25 : lookN (eF E_Yard_init) 25 = some (2, 1) := rfl
theorem lf_Yard_init_29 : lookN (eF E_Yard_init) 29 = some (2, 2) := rfl
theorem lf_Yard_init_32 : lookN (eF E_Yard_init) 32 = some (2, 3) := rfl
theorem lf_Yard_init_35 : lookN (eF E_Yard_init) 35 = some (2, 4) := rfl
theorem ls_Yard_init_42 : lookN (eS E_Yard_init) 42 = some 0 := rfl
theorem lb_Yard_init : eB E_Yard_init = true := rfl
theorem lt_Yard_init : eT E_Yard_init = zST := rfl
theorem li_Yard_init : eI E_Yard_init = true := rfl
-- CoilSlits$History.<init>
def E_Hist_init : Env := (true, [(11, 3, 0)], [(.invokespecial 3, 1, xObj)], [], [], zST, true)
def d_Hist_init : Dn := (sq (blk E_Hist_init [.aload_n 0, .invokespecial 3, .aload_n 0, .bipush 6])
  (sq (newR 6)
  (sq (blk E_Hist_init [.putfield 11, .iconst 0, .istore_n 1])
  (sq (ast (cno (cat E_Hist_init [.iload_n 1, .aload_n 0, .getfield 11, .arraylength] (.if_icmp .ge 22))))
  (sq (blk E_Hist_init [.aload_n 0, .getfield 11, .iload_n 1])
  (sq (newO 2)
  (sq (blk E_Hist_init [.dup])
  (sq (calD 1 x_Yard_init)
  (sq (blk E_Hist_init [.aastore, .iinc 1 1])
  (sq (ast (cno (cat E_Hist_init [.iload_n 1, .aload_n 0, .getfield 11, .arraylength] (.if_icmp .ge 22))))
  (sq (blk E_Hist_init [.aload_n 0, .getfield 11, .iload_n 1])
  (sq (newO 2)
  (sq (blk E_Hist_init [.dup])
  (sq (calD 1 x_Yard_init)
  (sq (blk E_Hist_init [.aastore, .iinc 1 1])
  (sq (ast (cno (cat E_Hist_init [.iload_n 1, .aload_n 0, .getfield 11, .arraylength] (.if_icmp .ge 22))))
  (sq (blk E_Hist_init [.aload_n 0, .getfield 11, .iload_n 1])
  (sq (newO 2)
  (sq (blk E_Hist_init [.dup])
  (sq (calD 1 x_Yard_init)
  (sq (blk E_Hist_init [.aastore, .iinc 1 1])
  (sq (ast (cno (cat E_Hist_init [.iload_n 1, .aload_n 0, .getfield 11, .arraylength] (.if_icmp .ge 22))))
  (sq (blk E_Hist_init [.aload_n 0, .getfield 11, .iload_n 1])
  (sq (newO 2)
  (sq (blk E_Hist_init [.dup])
  (sq (calD 1 x_Yard_init)
  (sq (blk E_Hist_init [.aastore, .iinc 1 1])
  (sq (ast (cno (cat E_Hist_init [.iload_n 1, .aload_n 0, .getfield 11, .arraylength] (.if_icmp .ge 22))))
  (sq (blk E_Hist_init [.aload_n 0, .getfield 11, .iload_n 1])
  (sq (newO 2)
  (sq (blk E_Hist_init [.dup])
  (sq (calD 1 x_Yard_init)
  (sq (blk E_Hist_init [.aastore, .iinc 1 1])
  (sq (ast (cno (cat E_Hist_init [.iload_n 1, .aload_n 0, .getfield 11, .arraylength] (.if_icmp .ge 22))))
  (sq (blk E_Hist_init [.aload_n 0, .getfield 11, .iload_n 1])
  (sq (newO 2)
  (sq (blk E_Hist_init [.dup])
  (sq (calD 1 x_Yard_init)
  (sq (blk E_Hist_init [.aastore, .iinc 1 1])
  (sq (asf (cno (cat E_Hist_init [.iload_n 1, .aload_n 0, .getfield 11, .arraylength] (.if_icmp .ge 22))))
  (rtv E_Hist_init [])))))))))))))))))))))))))))))))))))))))))
def x_Hist_init : Ex := zri (exb true 2 d_Hist_init)
abbrev r_Hist_init : Room := ({ frames := 3, cells := 67, slots := 2976, locals := 64 } : Room)
theorem eo_Hist_init (hw : zWok w) (cx : CX w p s m args c b_Hist_init 2 "CoilSlits$History") (hnm : meth.name = "<init>") : EnvOk w true p l e r_Hist_init s m args below meth c Q b_Hist_init 2 "CoilSlits$History" E_Hist_init :=
  ⟨rfl, by decide +kernel, by decide +kernel, by decide +kernel, hw, fun _ => hnm,
  List.forall_mem_cons.mpr ⟨call_obj cx tw_99 tw_23 tw_24 ⟨Nat.le_of_ble_eq_true rfl, Nat.le_of_ble_eq_true rfl⟩, fun q hq => absurd hq List.not_mem_nil⟩⟩
theorem sn_Hist_init (hw : zWok w) (h : MC w true p l e r_Hist_init s m args below meth c Q b_Hist_init 2 "CoilSlits$History" E_Hist_init 67 2976 F none) : Sn (zK w true p l e r_Hist_init s m args below meth c Q 2) F (fun _ => False) (fun _ => False) 0 0 0 d_Hist_init 67 2976 0 := by
  unfold d_Hist_init
  exact (sn_sq (pm := 7) (c1 := 0) (s1 := 0) (m_blk h ⟨Nat.le_of_ble_eq_true rfl, Nat.le_of_ble_eq_true rfl⟩ (by decide +kernel))
  (sn_sq (pm := 10) (c1 := 1) (s1 := 6) (sn_newR (N := 6) (cs := 0) (ss := 0) h.1 (by decide +kernel) tw_100 (by decide) (Nat.le_of_ble_eq_true rfl) (Nat.le_of_ble_eq_true rfl))
  (sn_sq (pm := 15) (c1 := 1) (s1 := 6) (m_blk h ⟨Nat.le_of_ble_eq_true rfl, Nat.le_of_ble_eq_true rfl⟩ (by decide +kernel))
  (sn_sq (pm := 24) (c1 := 1) (s1 := 6) (sn_ast (pt := 24) (pf := 43) (sc_no (m_cat h ⟨Nat.le_of_ble_eq_true rfl, Nat.le_of_ble_eq_true rfl⟩ (p1 := 21) (tgt := 43) (by decide +kernel) (by decide +kernel) (by decide))))
  (sn_sq (pm := 29) (c1 := 1) (s1 := 6) (m_blk h ⟨Nat.le_of_ble_eq_true rfl, Nat.le_of_ble_eq_true rfl⟩ (by decide +kernel))
  (sn_sq (pm := 32) (c1 := 2) (s1 := 14) (sn_newO (cs := 1) (ss := 6) h.1 (by decide +kernel) (Nat.le_of_ble_eq_true rfl) rfl rfl tw_100 tw_26 tw_2 (Nat.le_of_ble_eq_true rfl) (Nat.le_of_ble_eq_true rfl))
  (sn_sq (pm := 33) (c1 := 2) (s1 := 14) (m_blk h ⟨Nat.le_of_ble_eq_true rfl, Nat.le_of_ble_eq_true rfl⟩ (by decide +kernel))
  (sn_sq (pm := 36) (c1 := 12) (s1 := 501) (sn_cal (i := .invokespecial 17) (nn := 1) (mc := 10) (ms := 487) (f := x_Yard_init) (cs := 2) (ss := 14) (call_I h.1 (ct_Yard_init w l hw) rfl tw_29 tw_102 tw_2 tw_28 (by decide +kernel) ⟨Nat.le_of_ble_eq_true rfl, Nat.le_of_ble_eq_true rfl⟩) (by decide +kernel) (Nat.le_of_ble_eq_true rfl) (Nat.le_of_ble_eq_true rfl))
  (sn_sq (pm := 15) (c1 := 12) (s1 := 501) (sn_goto (pm := 40) (m_blk h ⟨Nat.le_of_ble_eq_true rfl, Nat.le_of_ble_eq_true rfl⟩ (by decide +kernel)) (m_goto h (off := (-25)) (by decide +kernel) (by decide)))
  (sn_sq (pm := 24) (c1 := 12) (s1 := 501) (sn_ast (pt := 24) (pf := 43) (sc_no (m_cat h ⟨Nat.le_of_ble_eq_true rfl, Nat.le_of_ble_eq_true rfl⟩ (p1 := 21) (tgt := 43) (by decide +kernel) (by decide +kernel) (by decide))))
  (sn_sq (pm := 29) (c1 := 12) (s1 := 501) (m_blk h ⟨Nat.le_of_ble_eq_true rfl, Nat.le_of_ble_eq_true rfl⟩ (by decide +kernel))
  (sn_sq (pm := 32) (c1 := 13) (s1 := 509) (sn_newO (cs := 12) (ss := 501) h.1 (by decide +kernel) (Nat.le_of_ble_eq_true rfl) rfl rfl tw_100 tw_26 tw_2 (Nat.le_of_ble_eq_true rfl) (Nat.le_of_ble_eq_true rfl))
  (sn_sq (pm := 33) (c1 := 13) (s1 := 509) (m_blk h ⟨Nat.le_of_ble_eq_true rfl, Nat.le_of_ble_eq_true rfl⟩ (by decide +kernel))
  (sn_sq (pm := 36) (c1 := 23) (s1 := 996) (sn_cal (i := .invokespecial 17) (nn := 1) (mc := 10) (ms := 487) (f := x_Yard_init) (cs := 13) (ss := 509) (call_I h.1 (ct_Yard_init w l hw) rfl tw_29 tw_102 tw_2 tw_28 (by decide +kernel) ⟨Nat.le_of_ble_eq_true rfl, Nat.le_of_ble_eq_true rfl⟩) (by decide +kernel) (Nat.le_of_ble_eq_true rfl) (Nat.le_of_ble_eq_true rfl))
  (sn_sq (pm := 15) (c1 := 23) (s1 := 996) (sn_goto (pm := 40) (m_blk h ⟨Nat.le_of_ble_eq_true rfl, Nat.le_of_ble_eq_true rfl⟩ (by decide +kernel)) (m_goto h (off := (-25)) (by decide +kernel) (by decide)))
  (sn_sq (pm := 24) (c1 := 23) (s1 := 996) (sn_ast (pt := 24) (pf := 43) (sc_no (m_cat h ⟨Nat.le_of_ble_eq_true rfl, Nat.le_of_ble_eq_true rfl⟩ (p1 := 21) (tgt := 43) (by decide +kernel) (by decide +kernel) (by decide))))
  (sn_sq (pm := 29) (c1 := 23) (s1 := 996) (m_blk h ⟨Nat.le_of_ble_eq_true rfl, Nat.le_of_ble_eq_true rfl⟩ (by decide +kernel))
  (sn_sq (pm := 32) (c1 := 24) (s1 := 1004) (sn_newO (cs := 23) (ss := 996) h.1 (by decide +kernel) (Nat.le_of_ble_eq_true rfl) rfl rfl tw_100 tw_26 tw_2 (Nat.le_of_ble_eq_true rfl) (Nat.le_of_ble_eq_true rfl))
  (sn_sq (pm := 33) (c1 := 24) (s1 := 1004) (m_blk h ⟨Nat.le_of_ble_eq_true rfl, Nat.le_of_ble_eq_true rfl⟩ (by decide +kernel))
  (sn_sq (pm := 36) (c1 := 34) (s1 := 1491) (sn_cal (i := .invokespecial 17) (nn := 1) (mc := 10) (ms := 487) (f := x_Yard_init) (cs := 24) (ss := 1004) (call_I h.1 (ct_Yard_init w l hw) rfl tw_29 tw_102 tw_2 tw_28 (by decide +kernel) ⟨Nat.le_of_ble_eq_true rfl, Nat.le_of_ble_eq_true rfl⟩) (by decide +kernel) (Nat.le_of_ble_eq_true rfl) (Nat.le_of_ble_eq_true rfl))
  (sn_sq (pm := 15) (c1 := 34) (s1 := 1491) (sn_goto (pm := 40) (m_blk h ⟨Nat.le_of_ble_eq_true rfl, Nat.le_of_ble_eq_true rfl⟩ (by decide +kernel)) (m_goto h (off := (-25)) (by decide +kernel) (by decide)))
  (sn_sq (pm := 24) (c1 := 34) (s1 := 1491) (sn_ast (pt := 24) (pf := 43) (sc_no (m_cat h ⟨Nat.le_of_ble_eq_true rfl, Nat.le_of_ble_eq_true rfl⟩ (p1 := 21) (tgt := 43) (by decide +kernel) (by decide +kernel) (by decide))))
  (sn_sq (pm := 29) (c1 := 34) (s1 := 1491) (m_blk h ⟨Nat.le_of_ble_eq_true rfl, Nat.le_of_ble_eq_true rfl⟩ (by decide +kernel))
  (sn_sq (pm := 32) (c1 := 35) (s1 := 1499) (sn_newO (cs := 34) (ss := 1491) h.1 (by decide +kernel) (Nat.le_of_ble_eq_true rfl) rfl rfl tw_100 tw_26 tw_2 (Nat.le_of_ble_eq_true rfl) (Nat.le_of_ble_eq_true rfl))
  (sn_sq (pm := 33) (c1 := 35) (s1 := 1499) (m_blk h ⟨Nat.le_of_ble_eq_true rfl, Nat.le_of_ble_eq_true rfl⟩ (by decide +kernel))
  (sn_sq (pm := 36) (c1 := 45) (s1 := 1986) (sn_cal (i := .invokespecial 17) (nn := 1) (mc := 10) (ms := 487) (f := x_Yard_init) (cs := 35) (ss := 1499) (call_I h.1 (ct_Yard_init w l hw) rfl tw_29 tw_102 tw_2 tw_28 (by decide +kernel) ⟨Nat.le_of_ble_eq_true rfl, Nat.le_of_ble_eq_true rfl⟩) (by decide +kernel) (Nat.le_of_ble_eq_true rfl) (Nat.le_of_ble_eq_true rfl))
  (sn_sq (pm := 15) (c1 := 45) (s1 := 1986) (sn_goto (pm := 40) (m_blk h ⟨Nat.le_of_ble_eq_true rfl, Nat.le_of_ble_eq_true rfl⟩ (by decide +kernel)) (m_goto h (off := (-25)) (by decide +kernel) (by decide)))
  (sn_sq (pm := 24) (c1 := 45) (s1 := 1986) (sn_ast (pt := 24) (pf := 43) (sc_no (m_cat h ⟨Nat.le_of_ble_eq_true rfl, Nat.le_of_ble_eq_true rfl⟩ (p1 := 21) (tgt := 43) (by decide +kernel) (by decide +kernel) (by decide))))
  (sn_sq (pm := 29) (c1 := 45) (s1 := 1986) (m_blk h ⟨Nat.le_of_ble_eq_true rfl, Nat.le_of_ble_eq_true rfl⟩ (by decide +kernel))
  (sn_sq (pm := 32) (c1 := 46) (s1 := 1994) (sn_newO (cs := 45) (ss := 1986) h.1 (by decide +kernel) (Nat.le_of_ble_eq_true rfl) rfl rfl tw_100 tw_26 tw_2 (Nat.le_of_ble_eq_true rfl) (Nat.le_of_ble_eq_true rfl))
  (sn_sq (pm := 33) (c1 := 46) (s1 := 1994) (m_blk h ⟨Nat.le_of_ble_eq_true rfl, Nat.le_of_ble_eq_true rfl⟩ (by decide +kernel))
  (sn_sq (pm := 36) (c1 := 56) (s1 := 2481) (sn_cal (i := .invokespecial 17) (nn := 1) (mc := 10) (ms := 487) (f := x_Yard_init) (cs := 46) (ss := 1994) (call_I h.1 (ct_Yard_init w l hw) rfl tw_29 tw_102 tw_2 tw_28 (by decide +kernel) ⟨Nat.le_of_ble_eq_true rfl, Nat.le_of_ble_eq_true rfl⟩) (by decide +kernel) (Nat.le_of_ble_eq_true rfl) (Nat.le_of_ble_eq_true rfl))
  (sn_sq (pm := 15) (c1 := 56) (s1 := 2481) (sn_goto (pm := 40) (m_blk h ⟨Nat.le_of_ble_eq_true rfl, Nat.le_of_ble_eq_true rfl⟩ (by decide +kernel)) (m_goto h (off := (-25)) (by decide +kernel) (by decide)))
  (sn_sq (pm := 24) (c1 := 56) (s1 := 2481) (sn_ast (pt := 24) (pf := 43) (sc_no (m_cat h ⟨Nat.le_of_ble_eq_true rfl, Nat.le_of_ble_eq_true rfl⟩ (p1 := 21) (tgt := 43) (by decide +kernel) (by decide +kernel) (by decide))))
  (sn_sq (pm := 29) (c1 := 56) (s1 := 2481) (m_blk h ⟨Nat.le_of_ble_eq_true rfl, Nat.le_of_ble_eq_true rfl⟩ (by decide +kernel))
  (sn_sq (pm := 32) (c1 := 57) (s1 := 2489) (sn_newO (cs := 56) (ss := 2481) h.1 (by decide +kernel) (Nat.le_of_ble_eq_true rfl) rfl rfl tw_100 tw_26 tw_2 (Nat.le_of_ble_eq_true rfl) (Nat.le_of_ble_eq_true rfl))
  (sn_sq (pm := 33) (c1 := 57) (s1 := 2489) (m_blk h ⟨Nat.le_of_ble_eq_true rfl, Nat.le_of_ble_eq_true rfl⟩ (by decide +kernel))
  (sn_sq (pm := 36) (c1 := 67) (s1 := 2976) (sn_cal (i := .invokespecial 17) (nn := 1) (mc := 10) (ms := 487) (f := x_Yard_init) (cs := 57) (ss := 2489) (call_I h.1 (ct_Yard_init w l hw) rfl tw_29 tw_102 tw_2 tw_28 (by decide +kernel) ⟨Nat.le_of_ble_eq_true rfl, Nat.le_of_ble_eq_true rfl⟩) (by decide +kernel) (Nat.le_of_ble_eq_true rfl) (Nat.le_of_ble_eq_true rfl))
  (sn_sq (pm := 15) (c1 := 67) (s1 := 2976) (sn_goto (pm := 40) (m_blk h ⟨Nat.le_of_ble_eq_true rfl, Nat.le_of_ble_eq_true rfl⟩ (by decide +kernel)) (m_goto h (off := (-25)) (by decide +kernel) (by decide)))
  (sn_sq (pm := 43) (c1 := 67) (s1 := 2976) (sn_asf (pt := 24) (pf := 43) (sc_no (m_cat h ⟨Nat.le_of_ble_eq_true rfl, Nat.le_of_ble_eq_true rfl⟩ (p1 := 21) (tgt := 43) (by decide +kernel) (by decide +kernel) (by decide))))
  (m_rtv h ⟨Nat.le_of_ble_eq_true rfl, Nat.le_of_ble_eq_true rfl⟩ (p1 := 43) (by decide +kernel) (by decide +kernel) (Nat.le_of_ble_eq_true rfl) (Nat.le_of_ble_eq_true rfl))))))))))))))))))))))))))))))))))))))))))
theorem ct_Hist_init (w : Wd) (l : Launch) (hw : zWok w) : CT w l y_Hist_init b_Hist_init 2 none r_Hist_init (exb true 2 d_Hist_init) :=
  ct_plain (by decide +kernel) (fun p e s m args below meth c Q cx hnm => eo_Hist_init hw cx hnm) (fun p e s m args below meth c Q F h => sn_Hist_init hw h)
theorem q_Hist_init (a : Nat)  (g : G) : x_Hist_init [.ref a] g = zres (d_Hist_init ([some (.ref a), none], [], g)) := q_ofI [some (.ref a), none] rfl (Nat.le_of_ble_eq_true rfl) (Or.inr rfl)
theorem lc_Hist_init_3 : lookI (eC E_Hist_init) (.invokespecial 3) = some (1, xObj) := rfl
theorem lf_Hist_init_11 : lookN (eF E_Hist_init) 11 = some (3, 0) := rfl
theorem lb_Hist_init : eB E_Hist_init = true := rfl
theorem lt_Hist_init : eT E_Hist_init = zST := rfl
theorem li_Hist_init : eI E_Hist_init = true := rfl
-- CoilSlits$CoilReader.<init>
def E_Read_init : Env := (true, [], [(.invokespecial 3, 1, xObj)], [], [], zST, true)
def d_Read_init : Dn := (rtv E_Read_init [.aload_n 0, .invokespecial 3])
def x_Read_init : Ex := zri (exb true 1 d_Read_init)
abbrev r_Read_init : Room := ({ frames := 1, cells := 0, slots := 0, locals := 20 } : Room)
theorem eo_Read_init (hw : zWok w) (cx : CX w p s m args c b_Read_init 1 "CoilSlits$CoilReader") (hnm : meth.name = "<init>") : EnvOk w true p l e r_Read_init s m args below meth c Q b_Read_init 1 "CoilSlits$CoilReader" E_Read_init :=
  ⟨rfl, by decide +kernel, by decide +kernel, by decide +kernel, hw, fun _ => hnm,
  List.forall_mem_cons.mpr ⟨call_obj cx tw_120 tw_23 tw_24 ⟨Nat.le_of_ble_eq_true rfl, Nat.le_of_ble_eq_true rfl⟩, fun q hq => absurd hq List.not_mem_nil⟩⟩
theorem sn_Read_init (hw : zWok w) (h : MC w true p l e r_Read_init s m args below meth c Q b_Read_init 1 "CoilSlits$CoilReader" E_Read_init 0 0 F none) : Sn (zK w true p l e r_Read_init s m args below meth c Q 1) F (fun _ => False) (fun _ => False) 0 0 0 d_Read_init 0 0 0 := by
  unfold d_Read_init
  exact (m_rtv h ⟨Nat.le_of_ble_eq_true rfl, Nat.le_of_ble_eq_true rfl⟩ (p1 := 4) (by decide +kernel) (by decide +kernel) (Nat.le_of_ble_eq_true rfl) (Nat.le_of_ble_eq_true rfl))
theorem ct_Read_init (w : Wd) (l : Launch) (hw : zWok w) : CT w l y_Read_init b_Read_init 1 none r_Read_init (exb true 1 d_Read_init) :=
  ct_plain (by decide +kernel) (fun p e s m args below meth c Q cx hnm => eo_Read_init hw cx hnm) (fun p e s m args below meth c Q F h => sn_Read_init hw h)
theorem q_Read_init (a : Nat)  (g : G) : x_Read_init [.ref a] g = zres (d_Read_init ([some (.ref a)], [], g)) := q_ofI [some (.ref a)] rfl (Nat.le_of_ble_eq_true rfl) (Or.inr rfl)
theorem lc_Read_init_3 : lookI (eC E_Read_init) (.invokespecial 3) = some (1, xObj) := rfl
theorem lb_Read_init : eB E_Read_init = true := rfl
theorem lt_Read_init : eT E_Read_init = zST := rfl
theorem li_Read_init : eI E_Read_init = true := rfl
-- CoilSlits.<init>
def E_Slit_init : Env := (true, [(12, 5, 0), (16, 5, 1), (22, 5, 2), (31, 5, 3), (38, 5, 4)], [(.invokespecial 3, 1, xObj)], [], [], zST, true)
def d_Slit_init : Dn := (sq (blk E_Slit_init [.aload_n 0, .invokespecial 3, .aload_n 0])
  (sq (newO 2)
  (sq (blk E_Slit_init [.dup])
  (sq (calD 1 x_Yard_init)
  (sq (blk E_Slit_init [.putfield 12, .aload_n 0])
  (sq (newO 2)
  (sq (blk E_Slit_init [.dup])
  (sq (calD 1 x_Yard_init)
  (sq (blk E_Slit_init [.putfield 16, .aload_n 0])
  (sq (newO 3)
  (sq (blk E_Slit_init [.dup])
  (sq (calD 1 x_Hist_init)
  (sq (blk E_Slit_init [.putfield 22, .aload_n 0])
  (sq (newO 0)
  (sq (blk E_Slit_init [.dup, .bipush 60])
  (sq (calD 2 x_Row_init)
  (sq (blk E_Slit_init [.putfield 31, .aload_n 0])
  (sq (newO 4)
  (sq (blk E_Slit_init [.dup])
  (sq (calD 1 x_Read_init)
  (rtv E_Slit_init [.putfield 38])))))))))))))))))))))
def x_Slit_init : Ex := zri (exb true 1 d_Slit_init)
abbrev r_Slit_init : Room := ({ frames := 4, cells := 93, slots := 4035, locals := 85 } : Room)
theorem eo_Slit_init (hw : zWok w) (cx : CX w p s m args c b_Slit_init 1 "CoilSlits") (hnm : meth.name = "<init>") : EnvOk w true p l e r_Slit_init s m args below meth c Q b_Slit_init 1 "CoilSlits" E_Slit_init :=
  ⟨rfl, by decide +kernel, by decide +kernel, by decide +kernel, hw, fun _ => hnm,
  List.forall_mem_cons.mpr ⟨call_obj cx tw_22 tw_23 tw_24 ⟨Nat.le_of_ble_eq_true rfl, Nat.le_of_ble_eq_true rfl⟩, fun q hq => absurd hq List.not_mem_nil⟩⟩
theorem sn_Slit_init (hw : zWok w) (h : MC w true p l e r_Slit_init s m args below meth c Q b_Slit_init 1 "CoilSlits" E_Slit_init 93 4035 F none) : Sn (zK w true p l e r_Slit_init s m args below meth c Q 1) F (fun _ => False) (fun _ => False) 0 0 0 d_Slit_init 93 4035 0 := by
  unfold d_Slit_init
  exact (sn_sq (pm := 5) (c1 := 0) (s1 := 0) (m_blk h ⟨Nat.le_of_ble_eq_true rfl, Nat.le_of_ble_eq_true rfl⟩ (by decide +kernel))
  (sn_sq (pm := 8) (c1 := 1) (s1 := 8) (sn_newO (cs := 0) (ss := 0) h.1 (by decide +kernel) (Nat.le_of_ble_eq_true rfl) rfl rfl tw_25 tw_26 tw_2 (Nat.le_of_ble_eq_true rfl) (Nat.le_of_ble_eq_true rfl))
  (sn_sq (pm := 9) (c1 := 1) (s1 := 8) (m_blk h ⟨Nat.le_of_ble_eq_true rfl, Nat.le_of_ble_eq_true rfl⟩ (by decide +kernel))
  (sn_sq (pm := 12) (c1 := 11) (s1 := 495) (sn_cal (i := .invokespecial 11) (nn := 1) (mc := 10) (ms := 487) (f := x_Yard_init) (cs := 1) (ss := 8) (call_I h.1 (ct_Yard_init w l hw) rfl tw_29 tw_27 tw_2 tw_28 (by decide +kernel) ⟨Nat.le_of_ble_eq_true rfl, Nat.le_of_ble_eq_true rfl⟩) (by decide +kernel) (Nat.le_of_ble_eq_true rfl) (Nat.le_of_ble_eq_true rfl))
  (sn_sq (pm := 16) (c1 := 11) (s1 := 495) (m_blk h ⟨Nat.le_of_ble_eq_true rfl, Nat.le_of_ble_eq_true rfl⟩ (by decide +kernel))
  (sn_sq (pm := 19) (c1 := 12) (s1 := 503) (sn_newO (cs := 11) (ss := 495) h.1 (by decide +kernel) (Nat.le_of_ble_eq_true rfl) rfl rfl tw_25 tw_26 tw_2 (Nat.le_of_ble_eq_true rfl) (Nat.le_of_ble_eq_true rfl))
  (sn_sq (pm := 20) (c1 := 12) (s1 := 503) (m_blk h ⟨Nat.le_of_ble_eq_true rfl, Nat.le_of_ble_eq_true rfl⟩ (by decide +kernel))
  (sn_sq (pm := 23) (c1 := 22) (s1 := 990) (sn_cal (i := .invokespecial 11) (nn := 1) (mc := 10) (ms := 487) (f := x_Yard_init) (cs := 12) (ss := 503) (call_I h.1 (ct_Yard_init w l hw) rfl tw_29 tw_27 tw_2 tw_28 (by decide +kernel) ⟨Nat.le_of_ble_eq_true rfl, Nat.le_of_ble_eq_true rfl⟩) (by decide +kernel) (Nat.le_of_ble_eq_true rfl) (Nat.le_of_ble_eq_true rfl))
  (sn_sq (pm := 27) (c1 := 22) (s1 := 990) (m_blk h ⟨Nat.le_of_ble_eq_true rfl, Nat.le_of_ble_eq_true rfl⟩ (by decide +kernel))
  (sn_sq (pm := 30) (c1 := 23) (s1 := 993) (sn_newO (cs := 22) (ss := 990) h.1 (by decide +kernel) (Nat.le_of_ble_eq_true rfl) rfl rfl tw_94 tw_95 tw_6 (Nat.le_of_ble_eq_true rfl) (Nat.le_of_ble_eq_true rfl))
  (sn_sq (pm := 31) (c1 := 23) (s1 := 993) (m_blk h ⟨Nat.le_of_ble_eq_true rfl, Nat.le_of_ble_eq_true rfl⟩ (by decide +kernel))
  (sn_sq (pm := 34) (c1 := 90) (s1 := 3969) (sn_cal (i := .invokespecial 21) (nn := 1) (mc := 67) (ms := 2976) (f := x_Hist_init) (cs := 23) (ss := 993) (call_I h.1 (ct_Hist_init w l hw) rfl tw_98 tw_96 tw_6 tw_97 (by decide +kernel) ⟨Nat.le_of_ble_eq_true rfl, Nat.le_of_ble_eq_true rfl⟩) (by decide +kernel) (Nat.le_of_ble_eq_true rfl) (Nat.le_of_ble_eq_true rfl))
  (sn_sq (pm := 38) (c1 := 90) (s1 := 3969) (m_blk h ⟨Nat.le_of_ble_eq_true rfl, Nat.le_of_ble_eq_true rfl⟩ (by decide +kernel))
  (sn_sq (pm := 41) (c1 := 91) (s1 := 3970) (sn_newO (cs := 90) (ss := 3969) h.1 (by decide +kernel) (Nat.le_of_ble_eq_true rfl) rfl rfl tw_113 tw_49 tw_5 (Nat.le_of_ble_eq_true rfl) (Nat.le_of_ble_eq_true rfl))
  (sn_sq (pm := 44) (c1 := 91) (s1 := 3970) (m_blk h ⟨Nat.le_of_ble_eq_true rfl, Nat.le_of_ble_eq_true rfl⟩ (by decide +kernel))
  (sn_sq (pm := 47) (c1 := 92) (s1 := 4030) (sn_cal (i := .invokespecial 28) (nn := 2) (mc := 1) (ms := 60) (f := x_Row_init) (cs := 91) (ss := 3970) (call_I h.1 (ct_Row_init w l hw) rfl tw_52 tw_114 tw_5 tw_51 (by decide +kernel) ⟨Nat.le_of_ble_eq_true rfl, Nat.le_of_ble_eq_true rfl⟩) (by decide +kernel) (Nat.le_of_ble_eq_true rfl) (Nat.le_of_ble_eq_true rfl))
  (sn_sq (pm := 51) (c1 := 92) (s1 := 4030) (m_blk h ⟨Nat.le_of_ble_eq_true rfl, Nat.le_of_ble_eq_true rfl⟩ (by decide +kernel))
  (sn_sq (pm := 54) (c1 := 93) (s1 := 4035) (sn_newO (cs := 92) (ss := 4030) h.1 (by decide +kernel) (Nat.le_of_ble_eq_true rfl) rfl rfl tw_115 tw_116 tw_7 (Nat.le_of_ble_eq_true rfl) (Nat.le_of_ble_eq_true rfl))
  (sn_sq (pm := 55) (c1 := 93) (s1 := 4035) (m_blk h ⟨Nat.le_of_ble_eq_true rfl, Nat.le_of_ble_eq_true rfl⟩ (by decide +kernel))
  (sn_sq (pm := 58) (c1 := 93) (s1 := 4035) (sn_cal (i := .invokespecial 37) (nn := 1) (mc := 0) (ms := 0) (f := x_Read_init) (cs := 93) (ss := 4035) (call_IN h.1 (host := "CoilSlits") (ct_Read_init w l hw) rfl tw_119 (by decide +kernel) tw_7 tw_118 (by decide +kernel) ⟨Nat.le_of_ble_eq_true rfl, Nat.le_of_ble_eq_true rfl⟩) (by decide +kernel) (Nat.le_of_ble_eq_true rfl) (Nat.le_of_ble_eq_true rfl))
  (m_rtv h ⟨Nat.le_of_ble_eq_true rfl, Nat.le_of_ble_eq_true rfl⟩ (p1 := 61) (by decide +kernel) (by decide +kernel) (Nat.le_of_ble_eq_true rfl) (Nat.le_of_ble_eq_true rfl))))))))))))))))))))))
theorem ct_Slit_init (w : Wd) (l : Launch) (hw : zWok w) : CT w l y_Slit_init b_Slit_init 1 none r_Slit_init (exb true 1 d_Slit_init) :=
  ct_plain (by decide +kernel) (fun p e s m args below meth c Q cx hnm => eo_Slit_init hw cx hnm) (fun p e s m args below meth c Q F h => sn_Slit_init hw h)
theorem q_Slit_init (a : Nat)  (g : G) : x_Slit_init [.ref a] g = zres (d_Slit_init ([some (.ref a)], [], g)) := q_ofI [some (.ref a)] rfl (Nat.le_of_ble_eq_true rfl) (Or.inr rfl)
theorem lc_Slit_init_3 : lookI (eC E_Slit_init) (.invokespecial 3) = some (1, xObj) := rfl
theorem lf_Slit_init_12 : lookN (eF E_Slit_init) 12 = some (5, 0) := rfl
theorem lf_Slit_init_16 : lookN (eF E_Slit_init) 16 = some (5, 1) := rfl
theorem lf_Slit_init_22 : lookN (eF E_Slit_init) 22 = some (5, 2) := rfl
theorem lf_Slit_init_31 : lookN (eF E_Slit_init) 31 = some (5, 3) := rfl
theorem lf_Slit_init_38 : lookN (eF E_Slit_init) 38 = some (5, 4) := rfl
theorem lb_Slit_init : eB E_Slit_init = true := rfl
theorem lt_Slit_init : eT E_Slit_init = zST := rfl
theorem li_Slit_init : eI E_Slit_init = true := rfl
-- CoilSlitsModel.<init>
def E_Mod_init : Env := (true, [(7, 6, 0), (13, 6, 1), (16, 6, 2), (19, 6, 4), (22, 6, 9)], [(.invokespecial 1, 1, xObj)], [], [], zST, true)
def d_Mod_init : Dn := (sq (blk E_Mod_init [.aload_n 0, .invokespecial 1, .aload_n 0, .sipush 220])
  (sq (newI 220)
  (sq (blk E_Mod_init [.putfield 7, .aload_n 0, .sipush 220])
  (sq (newI 220)
  (sq (blk E_Mod_init [.putfield 13, .aload_n 0, .sipush 1320])
  (sq (newI 1320)
  (sq (blk E_Mod_init [.putfield 16, .aload_n 0, .bipush 60])
  (sq (newI 60)
  (sq (blk E_Mod_init [.putfield 19, .aload_n 0, .bipush 68])
  (sq (newI 68)
  (rtv E_Mod_init [.putfield 22, .aload_n 0, .getfield 7, .iconst 0, .bipush 20, .iastore, .aload_n 0, .getfield 7, .iconst 1, .iconst 1, .iastore, .aload_n 0, .getfield 7, .iconst 2, .iconst 1, .iastore])))))))))))
def x_Mod_init : Ex := zri (exb true 1 d_Mod_init)
abbrev r_Mod_init : Room := ({ frames := 1, cells := 5, slots := 1888, locals := 20 } : Room)
theorem eo_Mod_init (hw : zWok w) (cx : CX w p s m args c b_Mod_init 1 "CoilSlitsModel") (hnm : meth.name = "<init>") : EnvOk w true p l e r_Mod_init s m args below meth c Q b_Mod_init 1 "CoilSlitsModel" E_Mod_init :=
  ⟨rfl, by decide +kernel, by decide +kernel, by decide +kernel, hw, fun _ => hnm,
  List.forall_mem_cons.mpr ⟨call_obj cx tw_819 tw_23 tw_24 ⟨Nat.le_of_ble_eq_true rfl, Nat.le_of_ble_eq_true rfl⟩, fun q hq => absurd hq List.not_mem_nil⟩⟩
theorem sn_Mod_init (hw : zWok w) (h : MC w true p l e r_Mod_init s m args below meth c Q b_Mod_init 1 "CoilSlitsModel" E_Mod_init 5 1888 F none) : Sn (zK w true p l e r_Mod_init s m args below meth c Q 1) F (fun _ => False) (fun _ => False) 0 0 0 d_Mod_init 5 1888 0 := by
  unfold d_Mod_init
  exact (sn_sq (pm := 8) (c1 := 0) (s1 := 0) (m_blk h ⟨Nat.le_of_ble_eq_true rfl, Nat.le_of_ble_eq_true rfl⟩ (by decide +kernel))
  (sn_sq (pm := 10) (c1 := 1) (s1 := 220) (sn_newI (N := 220) (cs := 0) (ss := 0) h.1 (by decide +kernel) tw_47 (by decide) (Nat.le_of_ble_eq_true rfl) (Nat.le_of_ble_eq_true rfl))
  (sn_sq (pm := 17) (c1 := 1) (s1 := 220) (m_blk h ⟨Nat.le_of_ble_eq_true rfl, Nat.le_of_ble_eq_true rfl⟩ (by decide +kernel))
  (sn_sq (pm := 19) (c1 := 2) (s1 := 440) (sn_newI (N := 220) (cs := 1) (ss := 220) h.1 (by decide +kernel) tw_47 (by decide) (Nat.le_of_ble_eq_true rfl) (Nat.le_of_ble_eq_true rfl))
  (sn_sq (pm := 26) (c1 := 2) (s1 := 440) (m_blk h ⟨Nat.le_of_ble_eq_true rfl, Nat.le_of_ble_eq_true rfl⟩ (by decide +kernel))
  (sn_sq (pm := 28) (c1 := 3) (s1 := 1760) (sn_newI (N := 1320) (cs := 2) (ss := 440) h.1 (by decide +kernel) tw_47 (by decide) (Nat.le_of_ble_eq_true rfl) (Nat.le_of_ble_eq_true rfl))
  (sn_sq (pm := 34) (c1 := 3) (s1 := 1760) (m_blk h ⟨Nat.le_of_ble_eq_true rfl, Nat.le_of_ble_eq_true rfl⟩ (by decide +kernel))
  (sn_sq (pm := 36) (c1 := 4) (s1 := 1820) (sn_newI (N := 60) (cs := 3) (ss := 1760) h.1 (by decide +kernel) tw_47 (by decide) (Nat.le_of_ble_eq_true rfl) (Nat.le_of_ble_eq_true rfl))
  (sn_sq (pm := 42) (c1 := 4) (s1 := 1820) (m_blk h ⟨Nat.le_of_ble_eq_true rfl, Nat.le_of_ble_eq_true rfl⟩ (by decide +kernel))
  (sn_sq (pm := 44) (c1 := 5) (s1 := 1888) (sn_newI (N := 68) (cs := 4) (ss := 1820) h.1 (by decide +kernel) tw_47 (by decide) (Nat.le_of_ble_eq_true rfl) (Nat.le_of_ble_eq_true rfl))
  (m_rtv h ⟨Nat.le_of_ble_eq_true rfl, Nat.le_of_ble_eq_true rfl⟩ (p1 := 69) (by decide +kernel) (by decide +kernel) (Nat.le_of_ble_eq_true rfl) (Nat.le_of_ble_eq_true rfl))))))))))))
theorem ct_Mod_init (w : Wd) (l : Launch) (hw : zWok w) : CT w l y_Mod_init b_Mod_init 1 none r_Mod_init (exb true 1 d_Mod_init) :=
  ct_plain (by decide +kernel) (fun p e s m args below meth c Q cx hnm => eo_Mod_init hw cx hnm) (fun p e s m args below meth c Q F h => sn_Mod_init hw h)
theorem q_Mod_init (a : Nat)  (g : G) : x_Mod_init [.ref a] g = zres (d_Mod_init ([some (.ref a)], [], g)) := q_ofI [some (.ref a)] rfl (Nat.le_of_ble_eq_true rfl) (Or.inr rfl)
theorem lc_Mod_init_1 : lookI (eC E_Mod_init) (.invokespecial 1) = some (1, xObj) := rfl
theorem lf_Mod_init_7 : lookN (eF E_Mod_init) 7 = some (6, 0) := rfl
theorem lf_Mod_init_13 : lookN (eF E_Mod_init) 13 = some (6, 1) := rfl
theorem lf_Mod_init_16 : lookN (eF E_Mod_init) 16 = some (6, 2) := rfl
theorem lf_Mod_init_19 : lookN (eF E_Mod_init) 19 = some (6, 4) := rfl
theorem lf_Mod_init_22 : lookN (eF E_Mod_init) 22 = some (6, 9) := rfl
theorem lb_Mod_init : eB E_Mod_init = true := rfl
theorem lt_Mod_init : eT E_Mod_init = zST := rfl
theorem li_Mod_init : eI E_Mod_init = true := rfl
end
