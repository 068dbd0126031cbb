/-! ===== methods that throw; what is known for throwing ===== -/
def zIO : String := "java/lang/IndexOutOfBoundsException"
def zIA : String := "java/lang/IllegalArgumentException"
def zIS : String := "java/lang/IllegalStateException"
def zEx : List String := ["java/lang/IndexOutOfBoundsException", "java/lang/IllegalArgumentException", "java/lang/IllegalStateException"]
def zTx : List (Nat × String) := [(48, "no such stack"), (59, "width, grade or quality out of range"), (67, "no room in the stack"), (78, "both stacks are the same"), (84, "no coil to move, or no room for it"), (93, "no such coil in the yard"), (98, "the coil cannot be dug out"), (109, "an argument is out of range"), (115, "no more orders can be taken"), (124, "no such order"), (132, "no such order, or no such coil in the yard"), (137, "the coil does not suit, or cannot be dug out"), (154, "no such setting"), (163, "the value is out of range"), (172, "the character code is out of range"), (178, "the buffer is full"), (190, "the buffer is not complete coils as a text"), (198, "no state is saved"), (203, "the height is out of range"), (211, "no coil has had this number"), (213, "no such property of a coil"), (218, "no such place, or no such property of an order"), (223, "nothing of this kind is counted"), (231, "rule or what is out of range")]
def zDc : List Cond := [.declares (Bundle.initS "java/lang/RuntimeException"), .declares (Bundle.initS "java/lang/Exception"), .declares (Bundle.initS Bundle.tN)]
def KX (w : Wd) (U : State) : Prop := (∀ q ∈ zTx, ∃ sa : Nat, vk_R "CoilSlits" q.1 q.2 sa U) ∧ vx_Zq Bundle.tN "UNASSIGNED_STACK" Bundle.steD (zA w) U U.heap ∧ vx_Zq Bundle.tN "SUPPRESSED_SENTINEL" Bundle.listD (zA w) U U.heap ∧ (∀ E ∈ zEx, va_Nw (.castable E E) U) ∧ (∀ E ∈ zEx, ∀ T ∈ zEx, E ≠ T → va_Nc E T U) ∧ ∀ x ∈ zDc, va_Nw x U
theorem zDc_warm {s U : State} (hW : s.WarmedH U.vm) (h : ∀ x ∈ zDc, va_Nw x s) : ∀ x ∈ zDc, va_Nw x U := by
  intro x hx
  have h1 := h x hx
  simp only [zDc, List.mem_cons, List.not_mem_nil, or_false] at hx
  rcases hx with rfl | rfl | rfl
  · exact va_Nw.warmD hW h1
  · exact va_Nw.warmD hW h1
  · exact va_Nw.warmD hW h1
theorem KX.warm {w : Wd} {u U : State} (hW : u.WarmedH U.vm) (hq : ∀ a : Nat, a < u.heap.size → ¬ zA w a → U.heap[a]? = u.heap[a]?) (h : KX w u) : KX w U :=
  ⟨fun q hq1 => by obtain ⟨sa, h1⟩ := h.1 q hq1; exact ⟨sa, vk_R.warm hW h1⟩, vx_Zq.kept (vx_Zq.moved hW.alike h.2.1) hq, vx_Zq.kept (vx_Zq.moved hW.alike h.2.2.1) hq, fun E hE => va_Nw.warmC hW (h.2.2.2.1 E hE), fun E hE T hT hne => va_Nc.moved hW.alike (h.2.2.2.2.1 E hE T hT hne), zDc_warm hW h.2.2.2.2.2⟩
theorem KX.same {w : Wd} {u U : State} (hvm : u.vm = U.vm) (hh : u.heap = U.heap) (h : KX w u) : KX w U :=
  ⟨fun q hq1 => by obtain ⟨sa, h1⟩ := h.1 q hq1; exact ⟨sa, vk_R.same hvm.symm h1⟩, vx_Zq.kept (vx_Zq.moved (by rw [hvm]; exact Vm.Alike.refl _) h.2.1) (fun q _ _ => by rw [hh]), vx_Zq.kept (vx_Zq.moved (by rw [hvm]; exact Vm.Alike.refl _) h.2.2.1) (fun q _ _ => by rw [hh]), fun E hE => va_Nw.same rfl hvm (h.2.2.2.1 E hE), fun E hE T hT hne => va_Nc.moved (by rw [hvm]; exact Vm.Alike.refl _) (h.2.2.2.2.1 E hE T hT hne), fun x hx => va_Nw.same (by
    simp only [zDc, List.mem_cons, List.not_mem_nil, or_false] at hx
    rcases hx with rfl | rfl | rfl <;> rfl) hvm (h.2.2.2.2.2 x hx)⟩
abbrev zPX (w : Wd) (vs : List Value) (g : G) : Array Value → State → Prop := va_Pc (vs.map (ztv w)) (fun U => (KK w U ∧ KX w U) ∧ RepG w g U.heap)
def zXC (w : Wd) (E : String) (g : G) : String → State → State → Prop := fun E' st t => E' = E ∧ RepG w g t.heap ∧ va_F (zA w) st t
/-- a method does f, which may throw -/
def CTX (w : Wd) (l : Launch) (y : MethodName) (bytes : ByteArray) (maxL : Nat) (ret : Option FieldType) (rm : Room) (f : Ex) : Prop :=
  ∀ vs g r, f vs g = some r → vx_Met l y (Cond.code y bytes maxL ret :: zW) rm (zPX w vs g) (fun a st oc t => ∃ o, r.1 = .inl o ∧ zQ w o r.2 a st oc t) (fun E st t => r.1 = .inr E ∧ zXC w E r.2 E st t) rm.cells rm.slots (zA w)
/-- a method with handlers does f, and doesn't throw -/
def CTW (w : Wd) (l : Launch) (y : MethodName) (bytes : ByteArray) (maxL : Nat) (ret : Option FieldType) (hh : List (Nat × Nat × Nat × Nat)) (rm : Room) (f : Ex) : Prop :=
  ∀ vs g o g', f vs g = some (.inl o, g') → Met l y (Cond.codeWith y bytes maxL ret hh :: zW) rm (zPX w vs g) (zQ w o g') rm.cells rm.slots (zA w)
theorem zPX_blind {w : Wd} {vs : List Value} {g : G} : FrameBlind (zPX w vs g) := fun a U gg mk h => ⟨h.1, ⟨KK.same (u := U) (U := U.calling gg mk a) rfl rfl h.2.1.1, KX.same (u := U) (U := U.calling gg mk a) rfl rfl h.2.1.2⟩, h.2.2⟩
def thw (E : String) : Dn := fun (_, S, g) => match S with
  | [] => fn (.inr E) (g.1, 0)
  | _ => none
theorem zat_all : ∀ x ∈ vx_atS "CoilSlits" 50 "java/lang/IndexOutOfBoundsException" ["java/lang/RuntimeException", "java/lang/Exception"], x ∈ lw_tbl ∧ vx_ot x = true ∧ (goodWord x = true ∨ x = Cond.castable "java/lang/IndexOutOfBoundsException" "java/lang/IndexOutOfBoundsException" ∨ x ∈ zDc) := by decide +kernel
theorem zat_all2 : ∀ x ∈ vx_atS "CoilSlits" 61 "java/lang/IllegalArgumentException" ["java/lang/RuntimeException", "java/lang/Exception"], x ∈ lw_tbl ∧ vx_ot x = true ∧ (goodWord x = true ∨ x = Cond.castable "java/lang/IllegalArgumentException" "java/lang/IllegalArgumentException" ∨ x ∈ zDc) := by decide +kernel
theorem zat_all3 : ∀ x ∈ vx_atS "CoilSlits" 69 "java/lang/IllegalStateException" ["java/lang/RuntimeException", "java/lang/Exception"], x ∈ lw_tbl ∧ vx_ot x = true ∧ (goodWord x = true ∨ x = Cond.castable "java/lang/IllegalStateException" "java/lang/IllegalStateException" ∨ x ∈ zDc) := by decide +kernel
section
variable {w : Wd} {b : Bool} {p : Program} {l : Launch} {e : Jvm.Env} {R : Room} {s : State} {m : MethodId} {args : Array Value} {below : List Frame} {meth : Method} {c : Code} {Q : State → Prop} {cc : ByteArray} {n cs ss pc : Nat} {own : String} {E : Env}
variable {L : List (Option Value)} {S : List Value} {g g' : G} {st st' : St} {o : Option Value} {H : Heap} {locs : List Loc}
variable {mc ms pe p1 c1 s1 tgt : Nat} {F : Out → G → Prop} {ret : Option FieldType} {kb kc : St → Prop} {is : List Instr}
theorem W.mono {Q1 Q2 : State → Prop} (h : ∀ t, Q1 t → Q2 t) {gj : JFrame} (k : W p l e R s m args below meth c H locs cs ss Q1 gj) : W p l e R s m args below meth c H locs cs ss Q2 gj := fun T hT X => by
  obtain ⟨t, a1, b1⟩ := k T hT X
  exact ⟨t, a1, h t b1⟩
abbrev zTok (w : Wd) (p : Program) (l : Launch) (e : Jvm.Env) (R : Room) (s : State) (m : MethodId) (args : Array Value) (below : List Frame) (meth : Method) (c : Code) (Q : State → Prop) (mc ms : Nat) (F : Out → G → Prop) : Prop :=
  ∀ (E : String) (g1 : G), F (.inr E) g1 → ∀ (H : Heap) (locs : List Loc) (cs ss : Nat) (gj : JFrame), W p l e R s m args below meth c H locs cs ss (vx_MQ below (fun _ _ _ _ => False) (zXC w E g1) args s mc ms (zA w)) gj → W p l e R s m args below meth c H locs cs ss Q gj
def MX2 (w : Wd) (p : Program) (l : Launch) (e : Jvm.Env) (R : Room) (s : State) (m : MethodId) (args : Array Value) (below : List Frame) (meth : Method) (c : Code) (Q : State → Prop) (mc ms : Nat) (F : Out → G → Prop) : Prop :=
  KX w s ∧ (∀ x ∈ c.exceptionTable.toList, False) ∧ l.stackTraces = false ∧ zTok w p l e R s m args below meth c Q mc ms F
theorem ctx_of {y : MethodName} {rm : Room} {d : Dn} (hl : l.stackTraces = false) (hy : plainName y.cls = true)
    (heo : ∀ (p : Program) (e : Jvm.Env) (s : State) (m : MethodId) (args : Array Value) (below : List Frame) (meth : Method) (c : Code) (Q : State → Prop), CX w p s m args c cc n y.cls → meth.name = y.name → EnvOk w b p l e rm s m args below meth c Q cc n y.cls E)
    (body : ∀ (p : Program) (e : Jvm.Env) (s : State) (m : MethodId) (args : Array Value) (below : List Frame) (meth : Method) (c : Code) (Q : State → Prop) (F : Out → G → Prop), MC w b p l e rm s m args below meth c Q cc n y.cls E rm.cells rm.slots F ret → MX2 w p l e rm s m args below meth c Q rm.cells rm.slots F → Sn (zK w b p l e rm s m args below meth c Q n) F (fun _ => False) (fun _ => False) 0 0 0 d rm.cells rm.slots pe) : CTX w l y cc n ret rm (exb b n d) := by
  intro vs g r hf
  have hf2 : exm n d vs g = some r ∧ (b = true → zc1 vs = true) := by
    unfold exb at hf
    split at hf
    · cases hf
    · rename_i hne
      refine ⟨hf, fun hb => ?_⟩
      cases hz : zc1 vs with
      | true => rfl
      | false => exact absurd hz (hne hb)
  obtain ⟨hf, hb1⟩ := hf2
  unfold exm at hf
  split at hf
  · rename_i hlen
    refine vx_ofW (cc := cc) (maxL := n) (ret := ret) hy rfl ?_
    intro p e s m args below meth c s₁ B hml hex hv
    obtain ⟨rfl, ⟨hK, hKX⟩, hG⟩ := hv
    have hts := atoms_spec (ws := Cond.code y cc n ret :: zW) B.pre
    have hown : s.vm.findClass y.cls = some m.cls := findClass_of_methodNamed B.named
    have cx : CX w p s m (vs.map (ztv w)).toArray c cc n y.cls := ⟨B.exec, B.bytes, hml, hown, fun x hx hg => hts x (List.mem_cons_of_mem _ (List.mem_filter.mpr ⟨hx, hg⟩)), hK⟩
    have hsn := body p e s m (vs.map (ztv w)).toArray below meth c (vx_MQ below (fun a st oc t => ∃ o, r.1 = .inl o ∧ zQ w o r.2 a st oc t) (fun E st t => r.1 = .inr E ∧ zXC w E r.2 E st t) (vs.map (ztv w)).toArray s rm.cells rm.slots (zA w)) (fun o1 g1 => (o1, g1) = r)
      ⟨cx, heo p e s m _ below meth c _ cx (name_of_methodNamed B.named B.method).1, fun o1 g1 hF H locs gj k => vx_ret (W.mono (fun t ht => by
          obtain ⟨oc, h1, h2, h3, h4⟩ := ht
          refine ⟨oc, h1, h2, ⟨o1, by rw [← hF], ?_⟩, h4⟩
          rw [← hF]; exact h3) k), B.returns, B.notSynchronized⟩
      ⟨hKX, hex, hl, fun E g1 hF H locs cs ss gj k => W.mono (fun t ht => by
          obtain ⟨oc, h1, h2, h3⟩ := ht
          refine ⟨oc, h1, h2, ?_⟩
          rcases h3 with ⟨h4, -⟩ | ⟨q, h5, E', ce, L, h6, h7⟩
          · exact h4.elim
          · refine Or.inr ⟨q, h5, E', ce, L, ?_, h7⟩
            obtain ⟨rfl, h8, h9⟩ := h6
            exact ⟨by rw [← hF], rfl, by rw [← hF]; exact h8, h9⟩) k⟩ (zpad n (zsl vs), [], g)
    split at hf
    · rename_i x hx
      cases hf
      rw [hx] at hsn
      have k := hsn rfl
      rw [lg_entry_eq]
      exact k (by simp [zpad]; omega) s.heap [] _ (zentry hlen hb1) hG va_S.rf
    · cases hf
  · cases hf
theorem m_thw {X text : String} {ik is ic : Nat} (h : MC w b p l e R s m args below meth c Q cc n "CoilSlits" E mc ms F ret) (hx : MX2 w p l e R s m args below meth c Q mc ms F)
    (hcls : Bundle.fit X = true) (hk : Cond.classLink "CoilSlits" ik X ∈ lw_tbl) (hini : Cond.initialized X ∈ lw_tbl) (hstr : (is, text) ∈ zTx) (hX : X ∈ zEx)
    (hat : ∀ x ∈ vx_atS "CoilSlits" ic X ["java/lang/RuntimeException", "java/lang/Exception"], x ∈ lw_tbl ∧ vx_ot x = true ∧ (goodWord x = true ∨ x = Cond.castable X X ∨ x ∈ zDc))
    (d0 : decode cc pc = .ok (.new ik, 3)) (d3 : decode cc (pc + 3) = .ok (.dup, 1)) (d4 : decode cc (pc + 4) = .ok (.ldc is, 2)) (d6 : decode cc (pc + 6) = .ok (.invokespecial ic, 3)) (d9 : decode cc (pc + 9) = .ok (.athrow, 1))
    (hR : 5 < R.frames ∧ 82 ≤ R.locals ∧ cs + 1 ≤ R.cells ∧ ss + 6 ≤ R.slots) (hc : cs + 1 ≤ mc) (hs : ss + 6 ≤ ms) : Sn (zK w b p l e R s m args below meth c Q n) F kb kc cs ss pc (thw X) c1 s1 pe := by
  intro st
  obtain ⟨L, S, g⟩ := st
  cases S with
  | cons v S => trivial
  | nil =>
    intro hF
    obtain ⟨cx, -, -, -, hlk⟩ := h
    obtain ⟨hKX, hex, hl, htk⟩ := hx
    obtain ⟨sa, hsa⟩ := hKX.1 _ hstr
    intro hn H locs ls hL hG hS
    refine htk X (g.1, 0) hF H locs cs ss _ ?_
    refine vx_throwS (names := ["java/lang/RuntimeException", "java/lang/Exception"]) (sa := sa) (A := zA w) cx.hx cx.hb hl cx.hown hcls (by decide +kernel) (cx.hts hk rfl) (cx.hts hini rfl) hsa (fun x hx1 => ?_) (fun x hx1 => ?_) hKX.2.1 hKX.2.2.1 hS (by rw [cx.hml, hL.2.1]; exact hn) d0 d3 d4 d6 d9 (fun x hx1 => (hex x hx1).elim) (by show 2 + 3 < _; omega) (by show 0 + (13 * (2 + 1) + 43) ≤ _; omega) hR.2.2.1 hR.2.2.2 hlk (fun t ha hz ho => ?_) hS.2.2 hc hs
    · obtain ⟨h1, h2, h3⟩ := hat x hx1
      rcases h3 with h3 | rfl | h3
      · exact cx.hts h1 h3
      · exact va_Nw.use rfl (hKX.2.2.2.1 X hX)
      · refine va_Nw.use ?_ (hKX.2.2.2.2.2 x h3)
        simp only [zDc, List.mem_cons, List.not_mem_nil, or_false] at h3
        rcases h3 with rfl | rfl | rfl <;> rfl
    · rcases List.mem_cons.mp hx1 with rfl | hx1
      · rfl
      · rcases List.mem_cons.mp hx1 with rfl | hx1
        · rfl
        · exact (hat x hx1).2.1
    · refine ⟨rfl, ⟨fun k c0 hk0 => ?_, Nat.le_trans hG.2.1 hz, fun h0 => absurd rfl h0⟩, Nat.le_trans hS.1 hz, fun q h1 h2 => (ho q (Nat.lt_of_lt_of_le h1 hS.1)).trans (hS.2.1 q h1 h2)⟩
      obtain ⟨a1, a2⟩ := hG.1 k c0 hk0
      exact ⟨a1, va_at.kept a2 (ho _ a2.lt)⟩
theorem CTX.rv {y : MethodName} {rm : Room} {f : Ex} (ci : Nat) (h : CTX w l y cc n ret rm f) : CTX w l y cc n ret rm (zrv ci f) := by
  intro vs g r hf
  unfold zrv at hf
  split at hf
  · split at hf
    · split at hf
      · exact h _ _ _ hf
      · cases hf
    · cases hf
  · cases hf
theorem Met_ofWH {y : MethodName} {ws ws' : List Cond} {rm : Room} {Pc : Array Value → State → Prop} {Qc : Array Value → State → Outcome → State → Prop} {free : Addr → Prop} {maxL : Nat} {hh : List (Nat × Nat × Nat × Nat)}
    (hy : plainName y.cls = true) (hw : ws = Cond.codeWith y cc maxL ret hh :: ws')
    (body : ∀ p e s m args below meth c s₁, BodyLoose p l y (headSpec ws rm) cc maxL ret e s m args below meth c s₁ → c.maxLocals = maxL → Pc args s →
      W p l e (headSpec ws rm).room s m args below meth c s.heap [] 0 0 (MQ below Qc args s mc ms free) (entryFrame m args maxL)) : Met l y ws rm Pc Qc mc ms free := by
  refine MetFree.of_bodyS (code := cc) (maxLocals := maxL) (ret := ret) hy ?_ ?_
  · intro args s m h hn
    obtain ⟨m9, meth, c, hn9, h1, h2, h3, h4, -, h5, h6, -⟩ := Cond.codeWith_spec (atoms_spec (ws := ws) h _ (by rw [hw]; exact List.mem_cons_self))
    cases hn.symm.trans hn9
    exact ⟨meth, c, h1, h2, h3, h4, h5, h6⟩
  · intro p e s m args below meth c s₁ B hml hP _
    have hh0 : s₁.heap = s.heap := by rw [B.state]; rfl
    obtain ⟨t, a1, o, b1, b2, b3⟩ := body p e s m args below meth c s₁ B hml hP s₁ hh0 (Stand.of_body B)
    exact ⟨t, o, a1, b1, b2, b3.1, b3.2⟩
/-- handlers: class, its place in the pool, the handler's place, the length of its store, the answer -/
abbrev Hd : Type := String × Nat × Nat × Nat × Int
def zhh (p5 : Nat) (hs : List Hd) : List (Nat × Nat × Nat × Nat) := hs.map (fun h : Hd => (0, p5, h.2.2.1, h.2.1))
def lookH (E : String) : List Hd → Option Int
  | [] => none
  | (T, _, _, _, k) :: r => if T = E then some k else lookH E r
theorem lookH_split {E : String} {k : Int} : ∀ {hs : List Hd}, lookH E hs = some k → ∃ pre cp hp ln suf, hs = pre ++ (E, cp, hp, ln, k) :: suf ∧ ∀ z ∈ pre, z.1 ≠ E
  | [], h => by cases h
  | (T, cp, hp, ln, k') :: r, h => by
    unfold lookH at h
    split at h
    · rename_i e
      cases h; subst e
      exact ⟨[], cp, hp, ln, r, rfl, fun z hz => absurd hz List.not_mem_nil⟩
    · rename_i hne
      obtain ⟨pre, cp', hp', ln', suf, e1, e2⟩ := lookH_split h
      exact ⟨(T, cp, hp, ln, k') :: pre, cp', hp', ln', suf, by rw [e1]; rfl, fun z hz => by
        rcases List.mem_cons.mp hz with rfl | hz
        · exact hne
        · exact e2 z hz⟩
/-- the whole of a method that catches: the row's place, the call of f, the store of its answer; or the handler's number -/
def xwrap (E : Env) (n : Nat) (pre : List Instr) (nn : Nat) (f : Ex) (hs : List Hd) : Ex := fun vs g => if (zsl vs).length ≤ n ∧ zc1 vs = true then match runI E pre (zpad n (zsl vs), [], g) with
    | some (L, S, g) => match popN nn [] S with
      | some (us, [.int i, .ref a]) => match f us g with
        | some (.inl (some (.int r)), g) => match runI E [.i2l, .lastore] (L, [.int r, .int i, .ref a], g) with
          | some (_, [], g) => some (.inl (some (.int 0)), g)
          | _ => none
        | some (.inr X, g) => match lookH X hs with
          | some k => some (.inl (some (.int (Int32.ofInt k))), g)
          | none => none
        | _ => none
      | _ => none
    | none => none
  else none
/-- a handler: it stores the exception, and answers a number -/
def zhd (cc : ByteArray) (h : Hd) : Bool := match decode cc h.2.2.1 with
  | .ok (.astore k, len) => decide (len = 2) && (decide (h.2.2.2.1 = k) && (decide (decode cc (h.2.2.1 + 2) = .ok (.iconst h.2.2.2.2, 1)) && decide (decode cc (h.2.2.1 + 3) = .ok (.ireturn, 1))))
  | .ok (.astore_n k, len) => decide (len = 1) && (decide (h.2.2.2.1 = (k : Nat)) && (decide (decode cc (h.2.2.1 + 1) = .ok (.iconst h.2.2.2.2, 1)) && decide (decode cc (h.2.2.1 + 2) = .ok (.ireturn, 1))))
  | _ => false
theorem hd_sound {ls : Array Slot} {q : Nat} {h : Hd} (cx : CX w p s m args c cc n own) (hlk : meth.locks = false) (hr : meth.sig.returnType = some .int) (hlv : LvR w true ls L) (hn : L.length = n) (hz : zhd cc h = true) (hk : h.2.2.2.1 < n) (hG : RepG w g' H) (hS : va_S (zA w) s.heap H locs) (hcs : cs = mc) (hss : ss = ms) :
    W p l e R s m args below meth c H locs cs ss (MQ below (zQ w (some (.int (Int32.ofInt h.2.2.2.2))) g') args s mc ms (zA w)) (F0 m h.2.2.1 ls [.ref q]) := by
  subst hcs; subst hss
  obtain ⟨T, cp, hp, kk, kv⟩ := h
  dsimp only at hz hk ⊢
  unfold zhd at hz
  dsimp only at hz
  split at hz
  · rename_i k len hd
    simp only [Bool.and_eq_true, decide_eq_true_eq] at hz
    obtain ⟨rfl, rfl, h3, h4⟩ := hz
    refine lv_astore cx.hx cx.hb hd hlv.has (by rw [hn]; exact hk) rfl (fun ls' hl' => ?_)
    refine lv_iconst cx.hx cx.hb h3 rfl ?_
    exact W.iret cx.hx cx.hb hr (fun t ht hW => ⟨⟨rfl, by rw [ht]; exact hG⟩, hS.F ht⟩) hS.2.2 h4
  · rename_i k len hd
    simp only [Bool.and_eq_true, decide_eq_true_eq] at hz
    obtain ⟨rfl, rfl, h3, h4⟩ := hz
    refine lv_astore_n cx.hx cx.hb hd rfl hlv.has (by rw [hn]; exact hk) rfl (fun ls' hl' => ?_)
    refine lv_iconst cx.hx cx.hb h3 rfl ?_
    exact W.iret cx.hx cx.hb hr (fun t ht hW => ⟨⟨rfl, by rw [ht]; exact hG⟩, hS.F ht⟩) hS.2.2 h4
  · cases hz
theorem ct_wrap {y yM : MethodName} {bM : ByteArray} {nM nn idx pc0 p5 pend : Nat} {off : Int} {retM : Option FieldType} {rm rmM : Room} {f : Ex} {hs : List Hd} {pre : List Instr} {ci : Nat} (hy : plainName y.cls = true) (hmc : rm.cells = rmM.cells) (hms : rm.slots = rmM.slots)
    (hM : CTX w l yM bM nM retM rmM f) (hown : y.cls = "CoilSlitsLaw")
    (hE : E = (true, [], [], [], [], fun _ => none, false))
    (hz : zck cc 0 pre = some pc0) (hd : decode cc pc0 = .ok (.invokevirtual idx, 3)) (hz2 : zck cc (pc0 + 3) [.i2l, .lastore] = some p5) (hgo : decode cc p5 = .ok (.goto off, 3)) (ht : (p5 : Int) + off = (pend : Int)) (he0 : decode cc pend = .ok (.iconst 0, 1)) (he1 : decode cc (pend + 1) = .ok (.ireturn, 1))
    (hcov : pc0 < p5)
    (hhs : ∀ h ∈ hs, zhd cc h = true ∧ h.2.2.2.1 < n ∧ h.1 ∈ zEx ∧ h.2.1 ≠ 0 ∧ Cond.classLink "CoilSlitsLaw" h.2.1 h.1 ∈ lw_tbl)
    (hcode : Cond.code yM bM nM retM ∈ lw_tbl) (hlink : Cond.methodLink "CoilSlitsLaw" idx yM ∈ lw_tbl) (hini : Cond.initialized yM.cls ∈ lw_tbl) (hin : Cond.instanceMethod yM ∈ lw_tbl) (hsel : Cond.selects yM.cls yM yM ∈ lw_tbl) (h7 : ci < 7) (hci : ((zcl[ci]?).getD ("", F_Row, 0)).1 = yM.cls)
    (hdd : yM.cls ≠ "java/lang/invoke/MethodHandle" ∧ yM.cls ≠ "java/lang/invoke/VarHandle" ∧ (parseMethodDescriptor yM.desc).map (fun d => d.parameters.length) = some nn) (hR : rmM.frames + 1 ≤ rm.frames ∧ 8 + (nM + 11) + rmM.locals ≤ rm.locals) :
    CTW w l y cc n (some .int) (zhh p5 hs) rm (xwrap E n pre (nn + 1) (zrv ci f) hs) := by
  intro vs g o g' hf
  unfold xwrap at hf
  split at hf
  · rename_i hlz
    obtain ⟨hlen, hz1⟩ := hlz
    refine Met_ofWH (cc := cc) (maxL := n) (ret := some .int) hy rfl ?_
    intro p e s m args below meth c s₁ B hml hv
    obtain ⟨rfl, ⟨hK, hKX⟩, hG⟩ := hv
    have hts := atoms_spec (ws := Cond.codeWith y cc n (some .int) (zhh p5 hs) :: zW) B.pre
    have hown2 : s.vm.findClass y.cls = some m.cls := findClass_of_methodNamed B.named
    rw [hown] at hown2
    have cx : CX w p s m (vs.map (ztv w)).toArray c cc n "CoilSlitsLaw" := ⟨B.exec, B.bytes, hml, hown2, fun x hx hg => hts x (List.mem_cons_of_mem _ (List.mem_filter.mpr ⟨hx, hg⟩)), hK⟩
    have htab := vx_table (x := y) B (hts _ List.mem_cons_self)
    have eo : ∀ Q, EnvOk w true p l e (headSpec (Cond.codeWith y cc n (some .int) (zhh p5 hs) :: zW) rm).room s m (vs.map (ztv w)).toArray below meth c Q cc n "CoilSlitsLaw" E := fun Q => by
      subst hE
      exact ⟨rfl, fun q h => absurd h List.not_mem_nil, fun q h => absurd h List.not_mem_nil, fun q h => absurd h List.not_mem_nil, (fun k a h => nomatch h), (fun h => nomatch h), fun q h => absurd h List.not_mem_nil⟩
    have hR0 : 0 ≤ (headSpec (Cond.codeWith y cc n (some .int) (zhh p5 hs) :: zW) rm).room.cells ∧ 0 ≤ (headSpec (Cond.codeWith y cc n (some .int) (zhh p5 hs) :: zW) rm).room.slots := ⟨Nat.zero_le _, Nat.zero_le _⟩
    have hlk := B.notSynchronized
    have hrt := B.returns
    have hstart : Kn w true p l e (headSpec (Cond.codeWith y cc n (some .int) (zhh p5 hs) :: zW) rm).room s m (vs.map (ztv w)).toArray below meth c (MQ below (zQ w o g') (vs.map (ztv w)).toArray s rm.cells rm.slots (zA w)) n 0 0 0 (zpad n (zsl vs), [], g) := by
      split at hf
      · rename_i L S g1 hrun
        refine run_sound cx (eo _) hR0 pre hz hrun ?_
        split at hf
        · rename_i us i a hp
          obtain ⟨us', e1, e2, e3⟩ := popN_spec hp
          rw [List.append_nil] at e1
          subst e1; subst e3
          intro hn H locs ls hL hG1 hS
          -- the call
          obtain ⟨rcv, fs, As, rfl, hM1⟩ : ∃ rcv fs As, us = .ref rcv :: As ∧ g1.1 rcv = some (.inr (ci, fs)) := by
            have hne : zrv ci f us g1 ≠ none := by intro h0; rw [h0] at hf; cases hf
            unfold zrv at hne
            split at hne
            · rename_i a1 As
              split at hne
              · rename_i cj fs hM1
                split at hne
                · rename_i hcj; subst hcj; exact ⟨a1, fs, As, rfl, hM1⟩
                · exact absurd rfl hne
              · exact absurd rfl hne
            · exact absurd rfl hne
          obtain ⟨r, hr⟩ := zcl_at h7
          rw [hr] at hci
          dsimp only [Option.getD_some] at hci
          have hrecv := va_recv cx.kk.1 (hG1.one hM1) (ci := ci) (q0 := 0) hr rfl
          rw [hci] at hrecv
          obtain ⟨res, hres⟩ : ∃ res, zrv ci f (.ref rcv :: As) g1 = some res := by
            cases hq : zrv ci f (.ref rcv :: As) g1 with
            | none => rw [hq] at hf; cases hf
            | some res => exact ⟨res, rfl⟩
          have hres2 : f (.ref rcv :: As) g1 = some res := by
            have h0 := hres
            unfold zrv at h0
            dsimp only at h0
            rw [hM1] at h0
            dsimp only at h0
            rw [if_pos rfl] at h0
            exact h0
          have hcall := vx_runV (e := e) (below := below) (meth := meth) (As := As.map (ztv w)) (rest := [.int i, .ref (zad w a)]) (g := F0 m pc0 ls ((((Value.ref rcv :: As).reverse ++ ([.int i, .ref a] : List Value))).map (ztv w))) (cells := 0) (slots := 0) (locs := locs) (H := H) ⟨cx.hx, cx.hb, cx.hml, cx.hown, cx.hall⟩ (hM _ _ _ hres2) ⟨zcallB cx hcode hlink hini hdd hR, cx.hts hin rfl, cx.hts hsel rfl⟩
            ⟨zPX_blind, hrecv, fun U hU hW => ⟨rfl, ⟨KK.warm hW (fun a h1 h2 => by rw [hU]; exact hS.2.1 a h1 h2) cx.kk, KX.warm hW (fun a h1 h2 => by rw [hU]; exact hS.2.1 a h1 h2) hKX⟩, by rw [hU]; exact hG1⟩⟩ rfl (by simp at e2 ⊢; omega) (by show ls.size = n; rw [hL.2.1]; exact hn) (by show List.map _ _ = _; simp [ztv]) (by show 2 * 0 + 2 ≤ 8; omega) hd ⟨by show 0 + rmM.cells ≤ rm.cells; omega, by show 0 + rmM.slots ≤ rm.slots; omega⟩
          intro T hT X
          rcases hcall T hT X with ⟨v, st₀, t, T', LL, h0, X', hLL, e4, e5, ⟨o2, ho2, ⟨hv2, hg2⟩, hF2⟩, st⟩ | ⟨q, st₀, t, T', LL, E2, ce, h0, X', hLL, e4, e5, ⟨ho2, hE2, hg2, hF2⟩, hce, hcv, hcl, st⟩
          · -- it returned
            cases hv2
            obtain ⟨r1, r2⟩ := res
            dsimp only at ho2
            subst ho2
            rw [hres] at hf
            obtain ⟨k1, k2, k3⟩ := vx_keep h0 e4 hS (fun q _ h => h) (fun q h => h) hLL hF2
            rw [Nat.zero_add, Nat.zero_add, ← hmc, ← hms] at X'
            cases o2 with
            | none => cases hf
            | some v2 =>
              cases v2 with
              | int r3 =>
                dsimp only at hf
                cases hr3 : runI E [.i2l, .lastore] (L, [.int r3, .int i, .ref a], r2) with
                | none => rw [hr3] at hf; cases hf
                | some st3 =>
                  obtain ⟨L3, S3, g3⟩ := st3
                  rw [hr3] at hf
                  cases S3 with
                  | cons v3 S3 => cases hf
                  | nil =>
                    cases hf
                    have kfin : Kn w true p l e (headSpec (Cond.codeWith y cc n (some .int) (zhh p5 hs) :: zW) rm).room s m (vs.map (ztv w)).toArray below meth c (MQ below (zQ w (some (.int 0)) g') (vs.map (ztv w)).toArray s rm.cells rm.slots (zA w)) n rm.cells rm.slots p5 (L3, [], g') := by
                      intro hn H locs ls hL hG hS
                      refine lv_goto cx.hx cx.hb hgo ht ?_
                      refine lv_iconst (v := 0) cx.hx cx.hb he0 rfl ?_
                      exact W.iret cx.hx cx.hb hrt (fun t ht hW => ⟨⟨rfl, by rw [ht]; exact hG⟩, hS.F ht⟩) hS.2.2 he1
                    have k4 := run_sound (cs := rm.cells) (ss := rm.slots) cx (eo _) ⟨Nat.le_refl _, Nat.le_refl _⟩ _ hz2 hr3 kfin hn T'.heap (locs ++ LL) ls hL (by rw [e4]; exact hg2) k3 T' rfl X'
                    obtain ⟨t2, a1, b1⟩ := k4
                    exact ⟨t2, st t2 a1, b1⟩
              | _ => cases hf
          · -- it threw
            obtain ⟨r1, r2⟩ := res
            dsimp only at ho2
            subst ho2
            rw [hres] at hf
            obtain ⟨k1, k2, k3⟩ := vx_keep h0 e4 hS (fun q _ h => h) (fun q h => h) hLL hF2
            rw [Nat.zero_add, Nat.zero_add, ← hmc, ← hms] at X'
            dsimp only at hf
            cases hk : lookH E2 hs with
            | none => rw [hk] at hf; cases hf
            | some kv =>
              rw [hk] at hf
              cases hf
              obtain ⟨pre2, cp, hp2, ln, suf, e6, e7⟩ := lookH_split hk
              have hmem : ((E2, cp, hp2, ln, kv) : Hd) ∈ hs := by rw [e6]; exact List.mem_append_right _ List.mem_cons_self
              obtain ⟨q1, q2, q3, q4, q5⟩ := hhs _ hmem
              have kw : vx_W p l e (headSpec (Cond.codeWith y cc n (some .int) (zhh p5 hs) :: zW) rm).room s m (vs.map (ztv w)).toArray below meth c T'.heap (locs ++ LL) rm.cells rm.slots (MQ below (zQ w (some (.int (Int32.ofInt kv))) g') (vs.map (ztv w)).toArray s rm.cells rm.slots (zA w)) (F0 m pc0 ls [.int i, .ref (zad w a)]) q := by
                refine vx_catch (E := E2) (name := E2) (ce := ce) cx.hown (tableOf (zhh p5 pre2)) ⟨0, p5, hp2, cp⟩ (tableOf (zhh p5 suf)) (by rw [htab, e6]; simp [tableOf, zhh]) (fun z hz1 => ?_) (by simp [covers, hcov]) q4 (cx.hts q5 rfl) (va_Nw.use rfl (hKX.2.2.2.1 E2 q3)) (by rw [e4]; exact hce) hcv hcl ?_
                · right
                  simp only [tableOf, zhh, List.map_map, List.mem_map] at hz1
                  obtain ⟨h1, h2, rfl⟩ := hz1
                  have hm1 : h1 ∈ hs := by rw [e6]; exact List.mem_append_left _ h2
                  obtain ⟨w1, w2, w3, w4, w5⟩ := hhs _ hm1
                  exact ⟨w4, h1.1, cx.hts w5 rfl, hKX.2.2.2.2.1 E2 q3 h1.1 w3 (Ne.symm (e7 h1 h2))⟩
                · exact hd_sound (h := (E2, cp, hp2, ln, kv)) cx hlk hrt hL hn q1 q2 (by rw [e4]; exact hg2) k3 rfl rfl
              obtain ⟨t2, a1, b1⟩ := kw T' rfl X'
              exact ⟨t2, st.trans a1, b1⟩
        · cases hf
      · cases hf
    rw [lg_entry_eq]
    exact hstart (by simp [zpad]; omega) s.heap [] _ (zentry hlen (fun _ => hz1)) hG va_S.rf
  · cases hf
end
