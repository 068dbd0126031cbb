/-! ===== what a method's proof uses ===== -/
theorem tb_mem {x : Cond} (k : Nat) (h : tables_1[k]? = some x) : x ∈ lw_tbl := List.mem_append_right _ (List.mem_of_getElem? h)
theorem tb_priv (k : Nat) {y : MethodName} {n : Nat} (h : lw_privs[k]? = some (y, n)) : Cond.selects y.cls y y ∈ lw_tbl := List.mem_append_left _ (List.mem_map.mpr ⟨(y, n), List.mem_of_getElem? h, rfl⟩)
def zST : Nat → Option (Nat × (Nat → Int32))
  | 0 => some (4, fun j => match j with
    | 0 => 20
    | 1 => 1
    | 2 => 1
    | _ => 0)
  | 1 => some (4, fun j => match j with
    | 0 => 1
    | _ => 0)
  | 2 => some (4, fun j => match j with
    | 0 => 100
    | 1 => 5
    | 2 => 9
    | _ => 2)
  | _ => none
def zWok (w : Wd) : Prop := ∀ k a, zST k = some a → w.2.2.2.2 k = some a
/-- enough for any loop of the system -/
def zFU : Nat := 5000
def zres (r : Res) : Option (Out × G) := match r with
  | some (.inr (.inr (.inr x))) => some x
  | _ => none
def MC (w : Wd) (b : Bool) (p : Program) (l : Launch) (e : Jvm.Env) (R : Room) (s : State) (m : MethodId) (args : Array Value) (below : List Frame) (meth : Method) (c : Code) (Q : State → Prop) (cc : ByteArray) (n : Nat) (own : String) (E : Env) (mc ms : Nat) (F : Out → G → Prop) (ret : Option FieldType) : Prop :=
  CX w p s m args c cc n own ∧ EnvOk w b p l e R s m args below meth c Q cc n own E ∧ zQok w p l e R s m args below meth c Q mc ms F ∧ meth.sig.returnType = ret ∧ meth.locks = false
section
variable {w : Wd} {b : Bool} {p : Program} {l : Launch} {e : Jvm.Env} {R : Room} {s : State} {m : MethodId} {args : Array Value} {below : List Frame} {meth : Method} {c : Code} {Q : State → Prop} {cc : ByteArray} {n cs ss pc : Nat} {own : String} {E : Env}
variable {mc ms pe p1 c1 s1 tgt : Nat} {F : Out → G → Prop} {ret : Option FieldType} {kb kc : St → Prop} {is : List Instr}
theorem zz : 0 ≤ R.cells ∧ 0 ≤ R.slots := ⟨Nat.zero_le _, Nat.zero_le _⟩
theorem m_blk (h : MC w b p l e R s m args below meth c Q cc n own E mc ms F ret) (hR : cs ≤ R.cells ∧ ss ≤ R.slots) (hz : zck cc pc is = some pe) : Sn (zK w b p l e R s m args below meth c Q n) F kb kc cs ss pc (blk E is) cs ss pe :=
  sn_blk fun _ _ hr k => run_sound h.1 h.2.1 hR is hz hr k
theorem m_cat {j : Instr} (h : MC w b p l e R s m args below meth c Q cc n own E mc ms F ret) (hR : cs ≤ R.cells ∧ ss ≤ R.slots) (hz : zck cc pc is = some p1) (hd : decode cc p1 = .ok (j, 3)) (ht : (p1 : Int) + zoff j = (tgt : Int)) : Sc (zK w b p l e R s m args below meth c Q n) cs ss pc (cat E is j) tgt (p1 + 3) := sc_cat h.1 h.2.1 hR hz hd ht
theorem m_goto {off : Int} (h : MC w b p l e R s m args below meth c Q cc n own E mc ms F ret) (hd : decode cc pc = .ok (.goto off, 3)) (ht : (pc : Int) + off = (tgt : Int)) (st : St) (k : zK w b p l e R s m args below meth c Q n cs ss tgt st) : zK w b p l e R s m args below meth c Q n cs ss pc st := k_goto h.1 hd ht st k
theorem m_rti (h : MC w b p l e R s m args below meth c Q cc n own E mc ms F (some .int)) (hR : cs ≤ R.cells ∧ ss ≤ R.slots) (hz : zck cc pc is = some p1) (hd : decode cc p1 = .ok (.ireturn, 1)) (hc : cs ≤ mc) (hs : ss ≤ ms) : Sn (zK w b p l e R s m args below meth c Q n) F kb kc cs ss pc (rti E is) c1 s1 pe :=
  sn_rti h.2.2.1 h.1 h.2.2.2.1 h.2.2.2.2 (fun _ _ hr k => run_sound h.1 h.2.1 hR is hz hr k) hd hc hs
theorem m_rtz (h : MC w b p l e R s m args below meth c Q cc n own E mc ms F (some .boolean)) (hR : cs ≤ R.cells ∧ ss ≤ R.slots) (hz : zck cc pc is = some p1) (hd : decode cc p1 = .ok (.ireturn, 1)) (hc : cs ≤ mc) (hs : ss ≤ ms) : Sn (zK w b p l e R s m args below meth c Q n) F kb kc cs ss pc (rtz E is) c1 s1 pe :=
  sn_rtz h.2.2.1 h.1 h.2.2.2.1 h.2.2.2.2 (fun _ _ hr k => run_sound h.1 h.2.1 hR is hz hr k) hd hc hs
theorem m_rtl (h : MC w b p l e R s m args below meth c Q cc n own E mc ms F (some .long)) (hR : cs ≤ R.cells ∧ ss ≤ R.slots) (hz : zck cc pc is = some p1) (hd : decode cc p1 = .ok (.lreturn, 1)) (hc : cs ≤ mc) (hs : ss ≤ ms) : Sn (zK w b p l e R s m args below meth c Q n) F kb kc cs ss pc (rtl E is) c1 s1 pe :=
  sn_rtl h.2.2.1 h.1 h.2.2.2.1 h.2.2.2.2 (fun _ _ hr k => run_sound h.1 h.2.1 hR is hz hr k) hd hc hs
theorem m_rtd (h : MC w b p l e R s m args below meth c Q cc n own E mc ms F (some .double)) (hR : cs ≤ R.cells ∧ ss ≤ R.slots) (hz : zck cc pc is = some p1) (hd : decode cc p1 = .ok (.dreturn, 1)) (hc : cs ≤ mc) (hs : ss ≤ ms) : Sn (zK w b p l e R s m args below meth c Q n) F kb kc cs ss pc (rtd E is) c1 s1 pe :=
  sn_rtd h.2.2.1 h.1 h.2.2.2.1 h.2.2.2.2 (fun _ _ hr k => run_sound h.1 h.2.1 hR is hz hr k) hd hc hs
theorem m_rta {nmR : String} (h : MC w b p l e R s m args below meth c Q cc n own E mc ms F (some (.object nmR))) (hR : cs ≤ R.cells ∧ ss ≤ R.slots) (hz : zck cc pc is = some p1) (hd : decode cc p1 = .ok (.areturn, 1)) (hc : cs ≤ mc) (hs : ss ≤ ms) : Sn (zK w b p l e R s m args below meth c Q n) F kb kc cs ss pc (rta E is) c1 s1 pe :=
  sn_rta h.2.2.1 h.1 h.2.2.2.1 h.2.2.2.2 (fun _ _ hr k => run_sound h.1 h.2.1 hR is hz hr k) hd hc hs
theorem m_rtv (h : MC w b p l e R s m args below meth c Q cc n own E mc ms F none) (hR : cs ≤ R.cells ∧ ss ≤ R.slots) (hz : zck cc pc is = some p1) (hd : decode cc p1 = .ok (.return_, 1)) (hc : cs ≤ mc) (hs : ss ≤ ms) : Sn (zK w b p l e R s m args below meth c Q n) F kb kc cs ss pc (rtv E is) c1 s1 pe :=
  sn_rtv h.2.2.1 h.1 h.2.2.2.1 h.2.2.2.2 (fun _ _ hr k => run_sound h.1 h.2.1 hR is hz hr k) hd hc hs
theorem m_sw {cl : List (Int32 × Dn)} {d : Dn} {pd : Nat} (h : MC w b p l e R s m args below meth c Q cc n own E mc ms F ret) (hR : cs ≤ R.cells ∧ ss ≤ R.slots) (tl : List (Int32 × Nat)) (hz : zck cc pc is = some p1) (hd : zsw cc p1 tl pd = true) (hs : SwL (zK w b p l e R s m args below meth c Q n) F kb kc cs ss c1 s1 pe tl cl) (hdf : Sn (zK w b p l e R s m args below meth c Q n) F kb kc cs ss pd d c1 s1 pe) : Sn (zK w b p l e R s m args below meth c Q n) F kb kc cs ss pc (swi E is cl d) c1 s1 pe :=
  sn_sw tl (fun st L x S g hr k => sw_sound h.1 h.2.1 hR hz hd st L x S g hr k) hs hdf
theorem m_fo {f : List Nat} (st : St) (k : zK w b p l e R s m args below meth c Q n cs ss pc (zforget st.1 f, st.2)) : zK w b p l e R s m args below meth c Q n cs ss pc st := k_fo st k
theorem swl_nil {K : Kp} {c0 s0 : Nat} : SwL K F kb kc c0 s0 c1 s1 pe [] [] := trivial
theorem swl_cons {K : Kp} {c0 s0 pk : Nat} {k : Int32} {tl : List (Int32 × Nat)} {cl : List (Int32 × Dn)} {a : Dn} (h1 : Sn K F kb kc c0 s0 pk a c1 s1 pe) (h2 : SwL K F kb kc c0 s0 c1 s1 pe tl cl) : SwL K F kb kc c0 s0 c1 s1 pe ((k, pk) :: tl) ((k, a) :: cl) := ⟨rfl, h1, h2⟩
theorem ct_plain {y : MethodName} {rm : Room} {d : Dn} (hy : plainName y.cls = true)
    (heo : ∀ (p : Program) (e : Jvm.Env) (s : State) (m : MethodId) (args : Array Value) (below : List Frame) (meth : Method) (c : Code) (Q : State → Prop), CX w p s m args c cc n y.cls → meth.name = y.name → EnvOk w b p l e rm s m args below meth c Q cc n y.cls E)
    (body : ∀ (p : Program) (e : Jvm.Env) (s : State) (m : MethodId) (args : Array Value) (below : List Frame) (meth : Method) (c : Code) (Q : State → Prop) (F : Out → G → Prop), MC w b p l e rm s m args below meth c Q cc n y.cls E rm.cells rm.slots F ret → Sn (zK w b p l e rm s m args below meth c Q n) F (fun _ => False) (fun _ => False) 0 0 0 d rm.cells rm.slots pe) : CT w l y cc n ret rm (exb b n d) :=
  ct_of hy fun p e s m args below meth c o g' hm => body p e s m args below meth c _ _ ⟨hm.1, heo p e s m args below meth c _ hm.1 hm.2.2.2, zQok_plain, hm.2.1, hm.2.2.1⟩
end
/-- a method's entry, its locals laid out -/
theorem q_of {b : Bool} {n : Nat} {d : Dn} {vs : List Value} {g : G} (L : List (Option Value)) (h : zpad n (zsl vs) = L) (hl : (zsl vs).length ≤ n) (hb : b = false ∨ zc1 vs = true) : exb b n d vs g = zres (d (L, [], g)) := by
  have h1 : exb b n d vs g = exm n d vs g := by
    unfold exb
    rcases hb with rfl | hb
    · rfl
    · rw [hb]; cases b <;> rfl
  rw [h1, exm, if_pos hl, h]
  rfl
theorem q_ofV {b : Bool} {n ci : Nat} {d : Dn} {a : Nat} {As : List Value} {M : Hp} {nx : Nat} {fs : List Value} (L : List (Option Value)) (hM : M a = some (cO ci fs)) (h : zpad n (zsl (.ref a :: As)) = L) (hl : (zsl (.ref a :: As)).length ≤ n) (hb : b = false ∨ zc1 (.ref a :: As) = true) : zrv ci (exb b n d) (.ref a :: As) (M, nx) = zres (d (L, [], (M, nx))) := by
  show (match M a with | some (.inr (cj, _)) => if cj = ci then exb b n d (.ref a :: As) (M, nx) else none | _ => none) = _
  rw [hM]
  show (if ci = ci then exb b n d (.ref a :: As) (M, nx) else none) = _
  rw [if_pos rfl]
  exact q_of L h hl hb
theorem q_ofI {b : Bool} {n : Nat} {d : Dn} {a : Nat} {As : List Value} {g : G} (L : List (Option Value)) (h : zpad n (zsl (.ref a :: As)) = L) (hl : (zsl (.ref a :: As)).length ≤ n) (hb : b = false ∨ zc1 (.ref a :: As) = true) : zri (exb b n d) (.ref a :: As) g = zres (d (L, [], g)) := q_of L h hl hb
