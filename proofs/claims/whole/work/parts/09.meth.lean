/-! ===== methods: contracts out of what their code does; calls ===== -/
abbrev zW : List Cond := lw_tbl.filter goodWord
theorem zW_good : GoodIn zW zW := fun x hx => ⟨hx, good_of_word (List.mem_filter.mp hx).2⟩
abbrev zPc (w : Wd) (vs : List Value) (g : G) : Array Value → State → Prop := va_Pc (vs.map (ztv w)) (fun U => KK w U ∧ RepG w g U.heap)
def zQ (w : Wd) (o : Option Value) (g : G) : Array Value → State → Outcome → State → Prop := fun _ st oc t => (oc = .returned (o.map (ztv w)) ∧ RepG w g t.heap) ∧ va_F (zA w) st t
/-- a method does f -/
def CT (w : Wd) (l : Launch) (y : MethodName) (bytes : ByteArray) (maxL : Nat) (ret : Option FieldType) (rm : Room) (f : Ex) : Prop :=
  ∀ vs g o g', f vs g = some (.inl o, g') → Met l y (Cond.code y bytes maxL ret :: zW) rm (zPc w vs g) (zQ w o g') rm.cells rm.slots (zA w)
/-- a method of an object of class ci -/
def zrv (ci : Nat) (f : Ex) : Ex := fun vs g => match vs with
  | .ref a :: As => match g.1 a with
    | some (.inr (cj, _)) => if cj = ci then f (.ref a :: As) g else none
    | _ => none
  | _ => none
theorem CT.rv {w : Wd} {l : Launch} {y : MethodName} {bytes : ByteArray} {maxL : Nat} {ret : Option FieldType} {rm : Room} {f : Ex} (ci : Nat) (h : CT w l y bytes maxL ret rm f) : CT w l y bytes maxL ret rm (zrv ci f) := by
  intro vs g o g' hf
  unfold zrv at hf
  split at hf
  · split at hf
    · split at hf
      · exact h _ _ _ _ hf
      · cases hf
    · cases hf
  · cases hf
theorem KK.same {w : Wd} {u U : State} (hvm : u.vm = U.vm) (hh : u.heap = U.heap) (h : KK w u) : KK w U :=
  ⟨va_K.moved (by rw [hvm]; exact Vm.Alike.refl _) h.1, fun k a hk => ⟨(h.2.1 k a hk).1, va_T.kept (va_T.moved (by rw [hvm]; exact Vm.Alike.refl _) (h.2.1 k a hk).2) (fun q _ _ => by rw [hh])⟩, fun k hk => va_Z.kept (va_Z.moved (by rw [hvm]; exact Vm.Alike.refl _) (h.2.2.1 k hk)) (fun q _ _ => by rw [hh]), fun x hx => va_Nw.same (by
    simp only [zN, List.mem_cons, List.not_mem_nil, or_false] at hx
    rcases hx with rfl | rfl | rfl | rfl | rfl <;> rfl) hvm (h.2.2.2.1 x hx), h.2.2.2.2.moved (by rw [hvm]; exact Vm.Alike.refl _)⟩
theorem zPc_blind {w : Wd} {vs : List Value} {g : G} : FrameBlind (zPc w vs g) := fun a U gg mk h => ⟨h.1, KK.same (u := U) (U := U.calling gg mk a) rfl rfl h.2.1, h.2.2⟩
theorem zsl_get {w : Wd} : ∀ (vs : List Value) (k i : Nat) (v : Value), (zsl vs)[i]? = some (some v) → (k + i, ztv w v) ∈ lv_args k (vs.map (ztv w))
  | [], k, i, v, h => by cases h
  | u :: r, k, i, v, h => by
    have key1 : u.category ≠ 2 → zsl (u :: r) = some u :: zsl r := fun hc => by cases u <;> first | rfl | exact absurd rfl hc
    have key2 : u.category = 2 → zsl (u :: r) = some u :: none :: zsl r := fun hc => by cases u <;> first | rfl | cases hc
    simp only [List.map_cons, lv_args, ztv_cat]
    by_cases hc : u.category = 2
    · rw [key2 hc] at h
      rw [if_pos hc]
      match i, h with
      | 0, h => cases h; exact List.mem_cons_self
      | 1, h => cases h
      | i + 2, h =>
        refine List.mem_cons_of_mem _ ?_
        have h1 := zsl_get (w := w) r (k + 2) i v h
        rwa [show k + 2 + i = k + (i + 2) by omega] at h1
    · rw [key1 hc] at h
      rw [if_neg hc]
      match i, h with
      | 0, h => cases h; exact List.mem_cons_self
      | i + 1, h =>
        refine List.mem_cons_of_mem _ ?_
        have h1 := zsl_get (w := w) r (k + 1) i v h
        rwa [show k + 1 + i = k + (i + 1) by omega] at h1
theorem zsl_len {w : Wd} : ∀ vs : List Value, (lg_sl (vs.map (ztv w))).length = (zsl vs).length
  | [] => rfl
  | u :: r => by
    have ih := zsl_len (w := w) r
    cases u <;> simp [lg_sl, zsl, ztv, Value.category] at ih ⊢ <;> omega
/-- does no argument take two words -/
def zc1 : List Value → Bool
  | [] => true
  | .long _ :: _ => false
  | .double _ :: _ => false
  | _ :: r => zc1 r
theorem zc1_get : ∀ {vs : List Value} {i : Nat} {v : Value}, zc1 vs = true → (zsl vs)[i]? = some (some v) → v.category = 1
  | [], i, v, _, h => by cases h
  | u :: r, i, v, hc, h => by
    cases u <;> first
      | (cases hc; done)
      | (match i, h with
         | 0, h => (cases h; rfl)
         | i + 1, h => exact zc1_get (vs := r) hc h)
def exb (b : Bool) (n : Nat) (d : Dn) : Ex := fun vs g => match b, zc1 vs with
  | true, false => none
  | _, _ => exm n d vs g
section
variable {w : Wd} {b : Bool} {p : Program} {l : Launch} {e : Jvm.Env} {R : Room} {s : State} {m : MethodId} {args : Array Value} {below : List Frame} {meth : Method} {c : Code} {Q : State → Prop} {cc : ByteArray} {n cs ss pc : Nat} {own : String} {E : Env}
variable {L : List (Option Value)} {S : List Value} {g g' : G} {st st' : St} {o : Option Value} {H : Heap} {locs : List Loc}
theorem zentry {vs : List Value} (hlen : (zsl vs).length ≤ n) (hb : b = true → zc1 vs = true) : LvR w b ((lg_sl (vs.map (ztv w)) ++ List.replicate (n - (lg_sl (vs.map (ztv w))).length) Slot.unset).toArray) (zpad n (zsl vs)) := by
  have h0 := lv_entry (vs.map (ztv w)) (n := n) (by rw [zsl_len]; exact hlen)
  have key : ∀ (i : Nat) (v : Value), (zpad n (zsl vs))[i]? = some (some v) → (zsl vs)[i]? = some (some v) := by
    intro i v hv
    unfold zpad at hv
    by_cases hi : i < (zsl vs).length
    · rwa [List.getElem?_append_left hi] at hv
    · rw [List.getElem?_append_right (by omega), List.getElem?_replicate] at hv
      split at hv <;> cases hv
  refine ⟨h0.2.1, ?_, fun i v hv => ?_, fun hbt i v hv => zc1_get (hb hbt) (key i v hv)⟩
  · rw [h0.1]; simp [zpad]; omega
  · have h1 := zsl_get (w := w) vs 0 i v (key i v hv)
    rw [Nat.zero_add] at h1
    exact h0.2.2 _ h1
abbrev zK (w : Wd) (b : Bool) (p : Program) (l : Launch) (e : Jvm.Env) (R : Room) (s : State) (m : MethodId) (args : Array Value) (below : List Frame) (meth : Method) (c : Code) (Q : State → Prop) (n : Nat) : Kp := Kn w b p l e R s m args below meth c Q n
/-- what is known at a method's entry -/
def MX (w : Wd) (p : Program) (s : State) (m : MethodId) (args : Array Value) (meth : Method) (c : Code) (y : MethodName) (cc : ByteArray) (n : Nat) (ret : Option FieldType) : Prop :=
  CX w p s m args c cc n y.cls ∧ meth.sig.returnType = ret ∧ meth.locks = false ∧ meth.name = y.name
theorem ct_of {y : MethodName} {ret : Option FieldType} {rm : Room} {d : Dn} {pe : Nat} (hy : plainName y.cls = true)
    (body : ∀ (p : Program) (e : Jvm.Env) (s : State) (m : MethodId) (args : Array Value) (below : List Frame) (meth : Method) (c : Code) (o : Option Value) (g' : G), MX w p s m args meth c y cc n ret →
      Sn (zK w b p l e rm s m args below meth c (MQ below (zQ w o g') args s rm.cells rm.slots (zA w)) n) (fun o1 g1 => o1 = .inl o ∧ g1 = g') (fun _ => False) (fun _ => False) 0 0 0 d rm.cells rm.slots pe) : CT w l y cc n ret rm (exb b n d) := by
  intro vs g o g' hf
  have hf2 : exm n d vs g = some (.inl o, g') ∧ (b = true → zc1 vs = true) := by
    unfold exb at hf
    split at hf
    · cases hf
    · rename_i hne
      refine ⟨hf, fun hb => ?_⟩
      cases hz : zc1 vs with
      | true => rfl
      | false => exact absurd hz (hne hb)
  obtain ⟨hf, hb1⟩ := hf2
  unfold exm at hf
  split at hf
  · rename_i hlen
    refine Met.ofW (cc := cc) (maxL := n) (ret := ret) hy rfl ?_
    intro p e s m args below meth c s₁ B hml hv
    obtain ⟨rfl, hK, hG⟩ := hv
    have hts := atoms_spec (ws := Cond.code y cc n ret :: zW) B.pre
    have hown : s.vm.findClass y.cls = some m.cls := findClass_of_methodNamed B.named
    have cx : CX w p s m (vs.map (ztv w)).toArray c cc n y.cls := ⟨B.exec, B.bytes, hml, hown, fun x hx hg => hts x (List.mem_cons_of_mem _ (List.mem_filter.mpr ⟨hx, hg⟩)), hK⟩
    have hsn := body p e s m (vs.map (ztv w)).toArray below meth c o g' ⟨cx, B.returns, B.notSynchronized, (name_of_methodNamed B.named B.method).1⟩ (zpad n (zsl vs), [], g)
    split at hf
    · rename_i x hx
      cases hf
      rw [hx] at hsn
      have k := hsn ⟨rfl, rfl⟩
      rw [lg_entry_eq]
      exact k (by simp [zpad]; omega) s.heap [] _ (zentry hlen hb1) hG va_S.rf
    · cases hf
  · cases hf
-- the ends
abbrev zQok (w : Wd) (p : Program) (l : Launch) (e : Jvm.Env) (R : Room) (s : State) (m : MethodId) (args : Array Value) (below : List Frame) (meth : Method) (c : Code) (Q : State → Prop) (mc ms : Nat) (F : Out → G → Prop) : Prop :=
  ∀ (o1 : Option Value) (g1 : G), F (.inl o1) g1 → ∀ (H : Heap) (locs : List Loc) (g : JFrame), W p l e R s m args below meth c H locs mc ms (MQ below (zQ w o1 g1) args s mc ms (zA w)) g → W p l e R s m args below meth c H locs mc ms Q g
theorem zQok_plain {mc ms : Nat} : zQok w p l e R s m args below meth c (MQ below (zQ w o g') args s mc ms (zA w)) mc ms (fun o1 g1 => o1 = .inl o ∧ g1 = g') := by
  intro o1 g1 hF H locs g k
  obtain ⟨e1, rfl⟩ := hF
  cases e1
  exact k
theorem sn_rti {F : Out → G → Prop} {kb kc : St → Prop} {is : List Instr} {p1 c1 s1 pe mc ms : Nat} (hQ : zQok w p l e R s m args below meth c Q mc ms F)
    (cx : CX w p s m args c cc n own) (hr : meth.sig.returnType = some .int) (hlk : meth.locks = false) (hrun : ∀ st st', runI E is st = some st' → zK w b p l e R s m args below meth c Q n cs ss p1 st' → zK w b p l e R s m args below meth c Q n cs ss pc st) (hd : decode cc p1 = .ok (.ireturn, 1)) (hc : cs ≤ mc) (hs : ss ≤ ms) :
    Sn (zK w b p l e R s m args below meth c Q n) F kb kc cs ss pc (rti E is) c1 s1 pe := by
  have key : ∀ (st : St) (x : Out × G), rti E is st = some (.inr (.inr (.inr x))) → F x.1 x.2 → zK w b p l e R s m args below meth c Q n cs ss pc st := by
    intro st x hx hf
    unfold rti at hx
    split at hx
    · rename_i L1 y g1 hrr
      cases hx
      refine hrun _ _ hrr (fun hn H locs ls hL hG hS => ?_)
      refine W.widen hc hs (hQ _ _ hf H locs _ ?_)
      exact W.iret cx.hx cx.hb hr (fun t ht hW => ⟨⟨rfl, by rw [ht]; exact hG⟩, hS.F ht⟩) hS.2.2 hd
    · cases hx
  intro st
  have k := key st
  cases hr : rti E is st with
  | none => trivial
  | some r =>
    rcases r with r | r | r | x
    · exfalso; unfold rti at hr; split at hr <;> (try split at hr) <;> cases hr
    · exfalso; unfold rti at hr; split at hr <;> (try split at hr) <;> cases hr
    · exfalso; unfold rti at hr; split at hr <;> (try split at hr) <;> cases hr
    · exact k x hr
theorem sn_rtz {F : Out → G → Prop} {kb kc : St → Prop} {is : List Instr} {p1 c1 s1 pe mc ms : Nat} (hQ : zQok w p l e R s m args below meth c Q mc ms F)
    (cx : CX w p s m args c cc n own) (hr : meth.sig.returnType = some .boolean) (hlk : meth.locks = false) (hrun : ∀ st st', runI E is st = some st' → zK w b p l e R s m args below meth c Q n cs ss p1 st' → zK w b p l e R s m args below meth c Q n cs ss pc st) (hd : decode cc p1 = .ok (.ireturn, 1)) (hc : cs ≤ mc) (hs : ss ≤ ms) :
    Sn (zK w b p l e R s m args below meth c Q n) F kb kc cs ss pc (rtz E is) c1 s1 pe := by
  have key : ∀ (st : St) (x : Out × G), rtz E is st = some (.inr (.inr (.inr x))) → F x.1 x.2 → zK w b p l e R s m args below meth c Q n cs ss pc st := by
    intro st x hx hf
    unfold rtz at hx
    split at hx
    · rename_i L1 y g1 hrr
      split at hx
      · rename_i h01
        cases hx
        refine hrun _ _ hrr (fun hn H locs ls hL hG hS => ?_)
        refine W.widen hc hs (hQ _ _ hf H locs _ ?_)
        exact W.zret cx.hx cx.hb hr (by rcases h01 with rfl | rfl <;> rfl) (fun t ht hW => ⟨⟨rfl, by rw [ht]; exact hG⟩, hS.F ht⟩) hS.2.2 hd
      · cases hx
    · cases hx
  intro st
  have k := key st
  cases hr : rtz E is st with
  | none => trivial
  | some r =>
    rcases r with r | r | r | x
    · exfalso; unfold rtz at hr; split at hr <;> (try split at hr) <;> cases hr
    · exfalso; unfold rtz at hr; split at hr <;> (try split at hr) <;> cases hr
    · exfalso; unfold rtz at hr; split at hr <;> (try split at hr) <;> cases hr
    · exact k x hr
theorem sn_rtl {F : Out → G → Prop} {kb kc : St → Prop} {is : List Instr} {p1 c1 s1 pe mc ms : Nat} (hQ : zQok w p l e R s m args below meth c Q mc ms F)
    (cx : CX w p s m args c cc n own) (hr : meth.sig.returnType = some .long) (hlk : meth.locks = false) (hrun : ∀ st st', runI E is st = some st' → zK w b p l e R s m args below meth c Q n cs ss p1 st' → zK w b p l e R s m args below meth c Q n cs ss pc st) (hd : decode cc p1 = .ok (.lreturn, 1)) (hc : cs ≤ mc) (hs : ss ≤ ms) :
    Sn (zK w b p l e R s m args below meth c Q n) F kb kc cs ss pc (rtl E is) c1 s1 pe := by
  have key : ∀ (st : St) (x : Out × G), rtl E is st = some (.inr (.inr (.inr x))) → F x.1 x.2 → zK w b p l e R s m args below meth c Q n cs ss pc st := by
    intro st x hx hf
    unfold rtl at hx
    split at hx
    · rename_i L1 y g1 hrr
      cases hx
      refine hrun _ _ hrr (fun hn H locs ls hL hG hS => ?_)
      refine W.widen hc hs (hQ _ _ hf H locs _ ?_)
      exact W.lret cx.hx cx.hb hr (fun t ht hW => ⟨⟨rfl, by rw [ht]; exact hG⟩, hS.F ht⟩) hS.2.2 hd
    · cases hx
  intro st
  have k := key st
  cases hr : rtl E is st with
  | none => trivial
  | some r =>
    rcases r with r | r | r | x
    · exfalso; unfold rtl at hr; split at hr <;> (try split at hr) <;> cases hr
    · exfalso; unfold rtl at hr; split at hr <;> (try split at hr) <;> cases hr
    · exfalso; unfold rtl at hr; split at hr <;> (try split at hr) <;> cases hr
    · exact k x hr
theorem sn_rtd {F : Out → G → Prop} {kb kc : St → Prop} {is : List Instr} {p1 c1 s1 pe mc ms : Nat} (hQ : zQok w p l e R s m args below meth c Q mc ms F)
    (cx : CX w p s m args c cc n own) (hr : meth.sig.returnType = some .double) (hlk : meth.locks = false) (hrun : ∀ st st', runI E is st = some st' → zK w b p l e R s m args below meth c Q n cs ss p1 st' → zK w b p l e R s m args below meth c Q n cs ss pc st) (hd : decode cc p1 = .ok (.dreturn, 1)) (hc : cs ≤ mc) (hs : ss ≤ ms) :
    Sn (zK w b p l e R s m args below meth c Q n) F kb kc cs ss pc (rtd E is) c1 s1 pe := by
  have key : ∀ (st : St) (x : Out × G), rtd E is st = some (.inr (.inr (.inr x))) → F x.1 x.2 → zK w b p l e R s m args below meth c Q n cs ss pc st := by
    intro st x hx hf
    unfold rtd at hx
    split at hx
    · rename_i L1 y g1 hrr
      cases hx
      refine hrun _ _ hrr (fun hn H locs ls hL hG hS => ?_)
      refine W.widen hc hs (hQ _ _ hf H locs _ ?_)
      exact W.dret cx.hx cx.hb hr (fun t ht hW => ⟨⟨rfl, by rw [ht]; exact hG⟩, hS.F ht⟩) hS.2.2 hd
    · cases hx
  intro st
  have k := key st
  cases hr : rtd E is st with
  | none => trivial
  | some r =>
    rcases r with r | r | r | x
    · exfalso; unfold rtd at hr; split at hr <;> (try split at hr) <;> cases hr
    · exfalso; unfold rtd at hr; split at hr <;> (try split at hr) <;> cases hr
    · exfalso; unfold rtd at hr; split at hr <;> (try split at hr) <;> cases hr
    · exact k x hr
theorem sn_rtv {F : Out → G → Prop} {kb kc : St → Prop} {is : List Instr} {p1 c1 s1 pe mc ms : Nat} (hQ : zQok w p l e R s m args below meth c Q mc ms F)
    (cx : CX w p s m args c cc n own) (hr : meth.sig.returnType = none) (hlk : meth.locks = false) (hrun : ∀ st st', runI E is st = some st' → zK w b p l e R s m args below meth c Q n cs ss p1 st' → zK w b p l e R s m args below meth c Q n cs ss pc st) (hd : decode cc p1 = .ok (.return_, 1)) (hc : cs ≤ mc) (hs : ss ≤ ms) :
    Sn (zK w b p l e R s m args below meth c Q n) F kb kc cs ss pc (rtv E is) c1 s1 pe := by
  have key : ∀ (st : St) (x : Out × G), rtv E is st = some (.inr (.inr (.inr x))) → F x.1 x.2 → zK w b p l e R s m args below meth c Q n cs ss pc st := by
    intro st x hx hf
    unfold rtv at hx
    split at hx
    · rename_i L1 g1 hrr
      cases hx
      refine hrun _ _ hrr (fun hn H locs ls hL hG hS => ?_)
      refine W.widen hc hs (hQ _ _ hf H locs _ ?_)
      exact W.vret cx.hx cx.hb hr (fun t ht hW => ⟨⟨rfl, by rw [ht]; exact hG⟩, hS.F ht⟩) hS.2.2 hd
    · cases hx
  intro st
  have k := key st
  cases hr : rtv E is st with
  | none => trivial
  | some r =>
    rcases r with r | r | r | x
    · exfalso; unfold rtv at hr; split at hr <;> (try split at hr) <;> cases hr
    · exfalso; unfold rtv at hr; split at hr <;> (try split at hr) <;> cases hr
    · exfalso; unfold rtv at hr; split at hr <;> (try split at hr) <;> cases hr
    · exact k x hr
theorem sn_rta {nmR : String} {F : Out → G → Prop} {kb kc : St → Prop} {is : List Instr} {p1 c1 s1 pe mc ms : Nat} (hQ : zQok w p l e R s m args below meth c Q mc ms F)
    (cx : CX w p s m args c cc n own) (hr : meth.sig.returnType = some (.object nmR)) (hlk : meth.locks = false) (hrun : ∀ st st', runI E is st = some st' → zK w b p l e R s m args below meth c Q n cs ss p1 st' → zK w b p l e R s m args below meth c Q n cs ss pc st) (hd : decode cc p1 = .ok (.areturn, 1)) (hc : cs ≤ mc) (hs : ss ≤ ms) :
    Sn (zK w b p l e R s m args below meth c Q n) F kb kc cs ss pc (rta E is) c1 s1 pe := by
  have key : ∀ (st : St) (x : Out × G), rta E is st = some (.inr (.inr (.inr x))) → F x.1 x.2 → zK w b p l e R s m args below meth c Q n cs ss pc st := by
    intro st x hx hf
    unfold rta at hx
    split at hx
    · rename_i L1 y g1 hrr
      cases hx
      refine hrun _ _ hrr (fun hn H locs ls hL hG hS => ?_)
      refine W.widen hc hs (hQ _ _ hf H locs _ ?_)
      exact W.aret cx.hx cx.hb hr (Or.inl ⟨_, rfl⟩) (Or.inr ⟨_, rfl⟩) (fun t ht hW => ⟨⟨rfl, by rw [ht]; exact hG⟩, hS.F ht⟩) hS.2.2 hd
    · rename_i L1 g1 hrr
      cases hx
      refine hrun _ _ hrr (fun hn H locs ls hL hG hS => ?_)
      refine W.widen hc hs (hQ _ _ hf H locs _ ?_)
      exact W.aret cx.hx cx.hb hr (Or.inl ⟨_, rfl⟩) (Or.inl rfl) (fun t ht hW => ⟨⟨rfl, by rw [ht]; exact hG⟩, hS.F ht⟩) hS.2.2 hd
    · cases hx
  intro st
  have k := key st
  cases hr : rta E is st with
  | none => trivial
  | some r =>
    rcases r with r | r | r | x
    · exfalso; unfold rta at hr; split at hr <;> (try split at hr) <;> cases hr
    · exfalso; unfold rta at hr; split at hr <;> (try split at hr) <;> cases hr
    · exfalso; unfold rta at hr; split at hr <;> (try split at hr) <;> cases hr
    · exact k x hr
end
