/-! ===== the goal at a place, over a picture; the soundness of the straight instructions ===== -/
def CX (w : Wd) (p : Program) (s : State) (m : MethodId) (args : Array Value) (c : Code) (cc : ByteArray) (n : Nat) (own : String) : Prop :=
  p.tables.exec = Jvm.exec ∧ c.code = cc ∧ c.maxLocals = n ∧ s.vm.findClass own = some m.cls ∧ (∀ x ∈ lw_tbl, goodWord x = true → x.before args s = true) ∧ KK w s
def Kn (w : Wd) (b : Bool) (p : Program) (l : Launch) (e : Jvm.Env) (R : Room) (s : State) (m : MethodId) (args : Array Value) (below : List Frame) (meth : Method) (c : Code) (Q : State → Prop) (n cs ss pc : Nat) (st : St) : Prop :=
  st.1.length = n → ∀ (H : Heap) (locs : List Loc) (ls : Array Slot), LvR w b ls st.1 → RepG w st.2.2 H → va_S (zA w) s.heap H locs → W p l e R s m args below meth c H locs cs ss Q (F0 m pc ls (st.2.1.map (ztv w)))
def zfok (own : String) (q : Nat × Nat × Nat) : Bool := match zcl[q.2.1]? with
  | some r => decide (q.2.1 < 7) && (decide (q.2.2 < r.2.2) && (decide (r.1 = own) && decide (Cond.fieldLink own q.1 own (r.2.1 q.2.2).2.1 (r.2.1 q.2.2).2.2.1 ∈ lw_tbl)))
  | none => false
def zkok (own : String) (q : Nat × Value) : Bool := match q.2 with
  | .long x => decide (Cond.constantLong own q.1 x ∈ lw_tbl)
  | .double x => decide (Cond.constantDouble own q.1 x ∈ lw_tbl)
  | _ => false
def zsok (own : String) (q : Nat × Nat) : Bool := decide (q.2 < 3) && (decide (Cond.fieldLink own q.1 "CoilSlits" (zsn q.2) "[I" ∈ lw_tbl) || decide (Cond.fieldLinkNest own q.1 "CoilSlits" (zsn q.2) "[I" "CoilSlits" ∈ zN))
/-- a call, as the machine has it: from the callee's arguments on the stack to its answer there -/
def CallOk (w : Wd) (b : Bool) (p : Program) (l : Launch) (e : Jvm.Env) (R : Room) (s : State) (m : MethodId) (args : Array Value) (below : List Frame) (meth : Method) (c : Code) (Q : State → Prop) (cc : ByteArray) (n mc ms : Nat) (q : Instr × Nat × Ex) : Prop :=
  ∀ (cs ss pc : Nat) (L : List (Option Value)) (S vs : List Value) (g g' : G) (o : Option Value), cs + mc ≤ R.cells → ss + ms ≤ R.slots → decode cc pc = .ok (q.1, 3) → vs.length = q.2.1 → wsum S ≤ 8 → q.2.2 vs g = some (.inl o, g') →
    Kn w b p l e R s m args below meth c Q n (cs + mc) (ss + ms) (pc + 3) (L, o.toList ++ S, g') → Kn w b p l e R s m args below meth c Q n cs ss pc (L, vs.reverse ++ S, g)
def EnvOk (w : Wd) (b : Bool) (p : Program) (l : Launch) (e : Jvm.Env) (R : Room) (s : State) (m : MethodId) (args : Array Value) (below : List Frame) (meth : Method) (c : Code) (Q : State → Prop) (cc : ByteArray) (n : Nat) (own : String) (E : Env) : Prop :=
  eB E = b ∧ (∀ q ∈ eF E, zfok own q = true) ∧ (∀ q ∈ eK E, zkok own q = true) ∧ (∀ q ∈ eS E, zsok own q = true) ∧ (∀ k a, eT E k = some a → w.2.2.2.2 k = some a) ∧ (eI E = true → meth.name = "<init>") ∧ ∀ q ∈ eC E, CallOk w b p l e R s m args below meth c Q cc n 0 0 q
section
variable {w : Wd} {b : Bool} {p : Program} {l : Launch} {e : Jvm.Env} {R : Room} {s : State} {m : MethodId} {args : Array Value} {below : List Frame} {meth : Method} {c : Code} {Q : State → Prop} {cc : ByteArray} {n cs ss pc : Nat} {own : String} {E : Env}
variable {L : List (Option Value)} {S : List Value} {g : G} {st st' : St}
theorem RepG.one {H : Heap} {k : Nat} {c0 : Cel} (h : RepG w g H) (hk : g.1 k = some c0) : va_P w.2.2.1 zcl [(zad w k, zenc w c0)] H := by
  intro j q hq
  cases j with
  | zero => cases hq; exact (h.1 k c0 hk).2
  | succ j => cases hq
theorem RepG.put {H H1 : Heap} {k : Nat} {c0 c1 : Cel} (h : RepG w g H) (hk : g.1 k = some c0) (hz : H1.size = H.size) (ho : ∀ q : Nat, q ≠ zad w k → H1[q]? = H[q]?) (h1 : zat w k c1 H1) : RepG w (zup g.1 k c1, g.2) H1 := by
  have h4 := (h.1 k c0 hk).1
  refine ⟨fun j c2 hj => ?_, by rw [hz]; exact h.2.1, fun h0 => by rw [hz]; exact h.2.2 h0⟩
  simp only [zup] at hj
  split at hj
  · rename_i e; subst e; cases hj; exact ⟨h4, h1⟩
  · rename_i e
    obtain ⟨a1, a2⟩ := h.1 j c2 hj
    exact ⟨a1, va_at.kept a2 (ho _ (zad_ne a1 h4 e))⟩
theorem va_S.put' {H0 H H1 : Heap} {locs : List Loc} {a k : Nat} (h : va_S (zA w) H0 H locs) (hz : H1.size = H.size) (ho : ∀ q : Nat, q ≠ zad w a → H1[q]? = H[q]?) (h4 : 4 ≤ a) : va_S (zA w) H0 H1 (locs ++ [⟨zad w a, k⟩]) := h.put hz ho (zad_ge h4)
theorem CX.hx (h : CX w p s m args c cc n own) : p.tables.exec = Jvm.exec := h.1
theorem CX.hb (h : CX w p s m args c cc n own) : c.code = cc := h.2.1
theorem CX.hml (h : CX w p s m args c cc n own) : c.maxLocals = n := h.2.2.1
theorem CX.hown (h : CX w p s m args c cc n own) : s.vm.findClass own = some m.cls := h.2.2.2.1
theorem CX.hts (h : CX w p s m args c cc n own) {x : Cond} (hx : x ∈ lw_tbl) (hg : goodWord x = true) : x.before args s = true := h.2.2.2.2.1 x hx hg
theorem CX.kk (h : CX w p s m args c cc n own) : KK w s := h.2.2.2.2.2
theorem CX.hall (h : CX w p s m args c cc n own) : ∀ x ∈ lw_tbl.filter goodWord, x.before args s = true := fun x hx => h.hts (List.mem_filter.mp hx).1 (List.mem_filter.mp hx).2
theorem xs_iload_n {k0 : Fin 4} (cx : CX w p s m args c cc n own) (eo : EnvOk w b p l e R s m args below meth c Q cc n own E) (h : xI E (.iload_n k0) st = some st') (hd : decode cc pc = .ok (.iload_n k0, 1)) (k : Kn w b p l e R s m args below meth c Q n cs ss (pc + 1) st') : Kn w b p l e R s m args below meth c Q n cs ss pc st := by
  obtain ⟨L, S, g⟩ := st
  simp only [xI] at h
  split at h
  · rename_i x hl
    cases h
    exact fun hn H locs ls hL hG hS => lv_iload_n cx.hx cx.hb hd rfl (hL.2.2.1 _ _ hl) (k hn H locs ls hL hG hS)
  · cases h
theorem xs_iload {k0 : Nat} (cx : CX w p s m args c cc n own) (eo : EnvOk w b p l e R s m args below meth c Q cc n own E) (h : xI E (.iload k0) st = some st') (hd : decode cc pc = .ok (.iload k0, 2)) (k : Kn w b p l e R s m args below meth c Q n cs ss (pc + 2) st') : Kn w b p l e R s m args below meth c Q n cs ss pc st := by
  obtain ⟨L, S, g⟩ := st
  simp only [xI] at h
  split at h
  · rename_i x hl
    cases h
    exact fun hn H locs ls hL hG hS => lv_iload cx.hx cx.hb hd (hL.2.2.1 _ _ hl) (k hn H locs ls hL hG hS)
  · cases h
theorem xs_aload_n {k0 : Fin 4} (cx : CX w p s m args c cc n own) (eo : EnvOk w b p l e R s m args below meth c Q cc n own E) (h : xI E (.aload_n k0) st = some st') (hd : decode cc pc = .ok (.aload_n k0, 1)) (k : Kn w b p l e R s m args below meth c Q n cs ss (pc + 1) st') : Kn w b p l e R s m args below meth c Q n cs ss pc st := by
  obtain ⟨L, S, g⟩ := st
  simp only [xI] at h
  split at h
  · rename_i x hl
    cases h
    exact fun hn H locs ls hL hG hS => lv_aload_n cx.hx cx.hb hd rfl (hL.2.2.1 _ _ hl) (k hn H locs ls hL hG hS)
  · cases h
theorem xs_aload {k0 : Nat} (cx : CX w p s m args c cc n own) (eo : EnvOk w b p l e R s m args below meth c Q cc n own E) (h : xI E (.aload k0) st = some st') (hd : decode cc pc = .ok (.aload k0, 2)) (k : Kn w b p l e R s m args below meth c Q n cs ss (pc + 2) st') : Kn w b p l e R s m args below meth c Q n cs ss pc st := by
  obtain ⟨L, S, g⟩ := st
  simp only [xI] at h
  split at h
  · rename_i x hl
    cases h
    exact fun hn H locs ls hL hG hS => lv_aload cx.hx cx.hb hd (hL.2.2.1 _ _ hl) (k hn H locs ls hL hG hS)
  · cases h
theorem xs_lload_n {k0 : Fin 4} (cx : CX w p s m args c cc n own) (eo : EnvOk w b p l e R s m args below meth c Q cc n own E) (h : xI E (.lload_n k0) st = some st') (hd : decode cc pc = .ok (.lload_n k0, 1)) (k : Kn w b p l e R s m args below meth c Q n cs ss (pc + 1) st') : Kn w b p l e R s m args below meth c Q n cs ss pc st := by
  obtain ⟨L, S, g⟩ := st
  simp only [xI] at h
  split at h
  · rename_i x hl
    cases h
    exact fun hn H locs ls hL hG hS => lv_lload_n cx.hx cx.hb hd rfl (hL.2.2.1 _ _ hl) (k hn H locs ls hL hG hS)
  · cases h
theorem xs_lload {k0 : Nat} (cx : CX w p s m args c cc n own) (eo : EnvOk w b p l e R s m args below meth c Q cc n own E) (h : xI E (.lload k0) st = some st') (hd : decode cc pc = .ok (.lload k0, 2)) (k : Kn w b p l e R s m args below meth c Q n cs ss (pc + 2) st') : Kn w b p l e R s m args below meth c Q n cs ss pc st := by
  obtain ⟨L, S, g⟩ := st
  simp only [xI] at h
  split at h
  · rename_i x hl
    cases h
    exact fun hn H locs ls hL hG hS => lv_lload cx.hx cx.hb hd (hL.2.2.1 _ _ hl) (k hn H locs ls hL hG hS)
  · cases h
theorem xs_dload_n {k0 : Fin 4} (cx : CX w p s m args c cc n own) (eo : EnvOk w b p l e R s m args below meth c Q cc n own E) (h : xI E (.dload_n k0) st = some st') (hd : decode cc pc = .ok (.dload_n k0, 1)) (k : Kn w b p l e R s m args below meth c Q n cs ss (pc + 1) st') : Kn w b p l e R s m args below meth c Q n cs ss pc st := by
  obtain ⟨L, S, g⟩ := st
  simp only [xI] at h
  split at h
  · rename_i x hl
    cases h
    exact fun hn H locs ls hL hG hS => lv_dload_n cx.hx cx.hb hd rfl (hL.2.2.1 _ _ hl) (k hn H locs ls hL hG hS)
  · cases h
theorem xs_dload {k0 : Nat} (cx : CX w p s m args c cc n own) (eo : EnvOk w b p l e R s m args below meth c Q cc n own E) (h : xI E (.dload k0) st = some st') (hd : decode cc pc = .ok (.dload k0, 2)) (k : Kn w b p l e R s m args below meth c Q n cs ss (pc + 2) st') : Kn w b p l e R s m args below meth c Q n cs ss pc st := by
  obtain ⟨L, S, g⟩ := st
  simp only [xI] at h
  split at h
  · rename_i x hl
    cases h
    exact fun hn H locs ls hL hG hS => lv_dload cx.hx cx.hb hd (hL.2.2.1 _ _ hl) (k hn H locs ls hL hG hS)
  · cases h
theorem xs_iconst {k0 : Int} (cx : CX w p s m args c cc n own) (eo : EnvOk w b p l e R s m args below meth c Q cc n own E) (h : xI E (.iconst k0) st = some st') (hd : decode cc pc = .ok (.iconst k0, 1)) (k : Kn w b p l e R s m args below meth c Q n cs ss (pc + 1) st') : Kn w b p l e R s m args below meth c Q n cs ss pc st := by
  obtain ⟨L, S, g⟩ := st
  simp only [xI] at h
  cases h
  exact fun hn H locs ls hL hG hS => lv_iconst cx.hx cx.hb hd rfl (k hn H locs ls hL hG hS)
theorem xs_bipush {k0 : Int} (cx : CX w p s m args c cc n own) (eo : EnvOk w b p l e R s m args below meth c Q cc n own E) (h : xI E (.bipush k0) st = some st') (hd : decode cc pc = .ok (.bipush k0, 2)) (k : Kn w b p l e R s m args below meth c Q n cs ss (pc + 2) st') : Kn w b p l e R s m args below meth c Q n cs ss pc st := by
  obtain ⟨L, S, g⟩ := st
  simp only [xI] at h
  cases h
  exact fun hn H locs ls hL hG hS => lv_bipush cx.hx cx.hb hd rfl (k hn H locs ls hL hG hS)
theorem xs_sipush {k0 : Int} (cx : CX w p s m args c cc n own) (eo : EnvOk w b p l e R s m args below meth c Q cc n own E) (h : xI E (.sipush k0) st = some st') (hd : decode cc pc = .ok (.sipush k0, 3)) (k : Kn w b p l e R s m args below meth c Q n cs ss (pc + 3) st') : Kn w b p l e R s m args below meth c Q n cs ss pc st := by
  obtain ⟨L, S, g⟩ := st
  simp only [xI] at h
  cases h
  exact fun hn H locs ls hL hG hS => lv_sipush cx.hx cx.hb hd rfl (k hn H locs ls hL hG hS)
theorem xs_lconst {k0 : Fin 2} (cx : CX w p s m args c cc n own) (eo : EnvOk w b p l e R s m args below meth c Q cc n own E) (h : xI E (.lconst k0) st = some st') (hd : decode cc pc = .ok (.lconst k0, 1)) (k : Kn w b p l e R s m args below meth c Q n cs ss (pc + 1) st') : Kn w b p l e R s m args below meth c Q n cs ss pc st := by
  obtain ⟨L, S, g⟩ := st
  simp only [xI] at h
  cases h
  exact fun hn H locs ls hL hG hS => lv_lconst cx.hx cx.hb hd rfl (k hn H locs ls hL hG hS)
theorem xs_dconst {k0 : Fin 2} (cx : CX w p s m args c cc n own) (eo : EnvOk w b p l e R s m args below meth c Q cc n own E) (h : xI E (.dconst k0) st = some st') (hd : decode cc pc = .ok (.dconst k0, 1)) (k : Kn w b p l e R s m args below meth c Q n cs ss (pc + 1) st') : Kn w b p l e R s m args below meth c Q n cs ss pc st := by
  obtain ⟨L, S, g⟩ := st
  simp only [xI] at h

  split at h
  · cases h
    exact fun hn H locs ls hL hG hS => lv_dconst0 cx.hx cx.hb hd (k hn H locs ls hL hG hS)
  · cases h
    exact fun hn H locs ls hL hG hS => lv_dconst1 cx.hx cx.hb hd (k hn H locs ls hL hG hS)
theorem xs_ldc2 {k0 : Nat} (cx : CX w p s m args c cc n own) (eo : EnvOk w b p l e R s m args below meth c Q cc n own E) (h : xI E (.ldc2_w k0) st = some st') (hd : decode cc pc = .ok (.ldc2_w k0, 3)) (k : Kn w b p l e R s m args below meth c Q n cs ss (pc + 3) st') : Kn w b p l e R s m args below meth c Q n cs ss pc st := by
  obtain ⟨L, S, g⟩ := st
  simp only [xI] at h
  split at h
  · rename_i v hv
    cases h
    have hk := eo.2.2.1 _ (lookN_mem hv)
    cases v <;> simp only [zkok, decide_eq_true_eq, Bool.false_eq_true] at hk
    · exact fun hn H locs ls hL hG hS => lv_ldc2 cx.hx cx.hb cx.hown (cx.hts hk rfl) hd (k hn H locs ls hL hG hS)
    · exact fun hn H locs ls hL hG hS => lv_ldc2d cx.hx cx.hb cx.hown (cx.hts hk rfl) hd (k hn H locs ls hL hG hS)
  · cases h
theorem xs_istore_n {k0 : Fin 4} (cx : CX w p s m args c cc n own) (eo : EnvOk w b p l e R s m args below meth c Q cc n own E) (h : xI E (.istore_n k0) st = some st') (hd : decode cc pc = .ok (.istore_n k0, 1)) (k : Kn w b p l e R s m args below meth c Q n cs ss (pc + 1) st') : Kn w b p l e R s m args below meth c Q n cs ss pc st := by
  obtain ⟨L, S, g⟩ := st
  simp only [xI] at h

  split at h
  · rename_i x S
    split at h
    · rename_i hlt
      cases h
      rw [eo.1] at k
      exact fun hn H locs ls hL hG hS => lv_istore_n cx.hx cx.hb hd rfl hL.has hlt rfl (fun ls' hl' => k ((stL_len _ _ _ _).trans hn) H locs ls' (hL.st1 rfl hl') hG hS)
    · cases h
  · cases h
theorem xs_istore {k0 : Nat} (cx : CX w p s m args c cc n own) (eo : EnvOk w b p l e R s m args below meth c Q cc n own E) (h : xI E (.istore k0) st = some st') (hd : decode cc pc = .ok (.istore k0, 2)) (k : Kn w b p l e R s m args below meth c Q n cs ss (pc + 2) st') : Kn w b p l e R s m args below meth c Q n cs ss pc st := by
  obtain ⟨L, S, g⟩ := st
  simp only [xI] at h

  split at h
  · rename_i x S
    split at h
    · rename_i hlt
      cases h
      rw [eo.1] at k
      exact fun hn H locs ls hL hG hS => lv_istore cx.hx cx.hb hd hL.has hlt rfl (fun ls' hl' => k ((stL_len _ _ _ _).trans hn) H locs ls' (hL.st1 rfl hl') hG hS)
    · cases h
  · cases h
theorem xs_astore_n {k0 : Fin 4} (cx : CX w p s m args c cc n own) (eo : EnvOk w b p l e R s m args below meth c Q cc n own E) (h : xI E (.astore_n k0) st = some st') (hd : decode cc pc = .ok (.astore_n k0, 1)) (k : Kn w b p l e R s m args below meth c Q n cs ss (pc + 1) st') : Kn w b p l e R s m args below meth c Q n cs ss pc st := by
  obtain ⟨L, S, g⟩ := st
  simp only [xI] at h

  split at h
  · rename_i x S
    split at h
    · rename_i hlt
      cases h
      rw [eo.1] at k
      exact fun hn H locs ls hL hG hS => lv_astore_n cx.hx cx.hb hd rfl hL.has hlt rfl (fun ls' hl' => k ((stL_len _ _ _ _).trans hn) H locs ls' (hL.st1 rfl hl') hG hS)
    · cases h
  · cases h
theorem xs_astore {k0 : Nat} (cx : CX w p s m args c cc n own) (eo : EnvOk w b p l e R s m args below meth c Q cc n own E) (h : xI E (.astore k0) st = some st') (hd : decode cc pc = .ok (.astore k0, 2)) (k : Kn w b p l e R s m args below meth c Q n cs ss (pc + 2) st') : Kn w b p l e R s m args below meth c Q n cs ss pc st := by
  obtain ⟨L, S, g⟩ := st
  simp only [xI] at h

  split at h
  · rename_i x S
    split at h
    · rename_i hlt
      cases h
      rw [eo.1] at k
      exact fun hn H locs ls hL hG hS => lv_astore cx.hx cx.hb hd hL.has hlt rfl (fun ls' hl' => k ((stL_len _ _ _ _).trans hn) H locs ls' (hL.st1 rfl hl') hG hS)
    · cases h
  · cases h
theorem xs_lstore_n {k0 : Fin 4} (cx : CX w p s m args c cc n own) (eo : EnvOk w b p l e R s m args below meth c Q cc n own E) (h : xI E (.lstore_n k0) st = some st') (hd : decode cc pc = .ok (.lstore_n k0, 1)) (k : Kn w b p l e R s m args below meth c Q n cs ss (pc + 1) st') : Kn w b p l e R s m args below meth c Q n cs ss pc st := by
  obtain ⟨L, S, g⟩ := st
  simp only [xI] at h

  split at h
  · rename_i x S hB
    split at h
    · rename_i hlt
      cases h
      have hbf : b = false := eo.1.symm.trans hB
      subst hbf
      exact fun hn H locs ls hL hG hS => lv_lstore_n cx.hx cx.hb hd rfl hL.has hlt rfl (fun ls' hl' => k ((stL2_len _ _ _).trans hn) H locs ls' (hL.st2 hl') hG hS)
    · cases h
  · cases h
theorem xs_lstore {k0 : Nat} (cx : CX w p s m args c cc n own) (eo : EnvOk w b p l e R s m args below meth c Q cc n own E) (h : xI E (.lstore k0) st = some st') (hd : decode cc pc = .ok (.lstore k0, 2)) (k : Kn w b p l e R s m args below meth c Q n cs ss (pc + 2) st') : Kn w b p l e R s m args below meth c Q n cs ss pc st := by
  obtain ⟨L, S, g⟩ := st
  simp only [xI] at h

  split at h
  · rename_i x S hB
    split at h
    · rename_i hlt
      cases h
      have hbf : b = false := eo.1.symm.trans hB
      subst hbf
      exact fun hn H locs ls hL hG hS => lv_lstore cx.hx cx.hb hd hL.has hlt rfl (fun ls' hl' => k ((stL2_len _ _ _).trans hn) H locs ls' (hL.st2 hl') hG hS)
    · cases h
  · cases h
theorem xs_dstore_n {k0 : Fin 4} (cx : CX w p s m args c cc n own) (eo : EnvOk w b p l e R s m args below meth c Q cc n own E) (h : xI E (.dstore_n k0) st = some st') (hd : decode cc pc = .ok (.dstore_n k0, 1)) (k : Kn w b p l e R s m args below meth c Q n cs ss (pc + 1) st') : Kn w b p l e R s m args below meth c Q n cs ss pc st := by
  obtain ⟨L, S, g⟩ := st
  simp only [xI] at h

  split at h
  · rename_i x S hB
    split at h
    · rename_i hlt
      cases h
      have hbf : b = false := eo.1.symm.trans hB
      subst hbf
      exact fun hn H locs ls hL hG hS => lv_dstore_n cx.hx cx.hb hd rfl hL.has hlt rfl (fun ls' hl' => k ((stL2_len _ _ _).trans hn) H locs ls' (hL.st2 hl') hG hS)
    · cases h
  · cases h
theorem xs_dstore {k0 : Nat} (cx : CX w p s m args c cc n own) (eo : EnvOk w b p l e R s m args below meth c Q cc n own E) (h : xI E (.dstore k0) st = some st') (hd : decode cc pc = .ok (.dstore k0, 2)) (k : Kn w b p l e R s m args below meth c Q n cs ss (pc + 2) st') : Kn w b p l e R s m args below meth c Q n cs ss pc st := by
  obtain ⟨L, S, g⟩ := st
  simp only [xI] at h

  split at h
  · rename_i x S hB
    split at h
    · rename_i hlt
      cases h
      have hbf : b = false := eo.1.symm.trans hB
      subst hbf
      exact fun hn H locs ls hL hG hS => lv_dstore cx.hx cx.hb hd hL.has hlt rfl (fun ls' hl' => k ((stL2_len _ _ _).trans hn) H locs ls' (hL.st2 hl') hG hS)
    · cases h
  · cases h
theorem xs_iinc {k0 : Nat} {n0 : Int} (cx : CX w p s m args c cc n own) (eo : EnvOk w b p l e R s m args below meth c Q cc n own E) (h : xI E (.iinc k0 n0) st = some st') (hd : decode cc pc = .ok (.iinc k0 n0, 3)) (k : Kn w b p l e R s m args below meth c Q n cs ss (pc + 3) st') : Kn w b p l e R s m args below meth c Q n cs ss pc st := by
  obtain ⟨L, S, g⟩ := st
  simp only [xI] at h
  split at h
  · rename_i x hl
    cases h
    rw [eo.1] at k
    intro hn H locs ls hL hG hS
    have hh := hL.has
    have hh2 : lv_has ls L.length ((k0, Value.int x) :: lvl w L) := ⟨hh.1, hh.2.1, fun q hq => by
      rcases List.mem_cons.mp hq with rfl | hq
      · exact hL.2.2.1 _ _ hl
      · exact hh.2.2 q hq⟩
    refine lv_iinc cx.hx cx.hb hd hh2 (k := 0) rfl rfl (List.getElem?_eq_some_iff.mp hl).1 rfl (fun ls' hl' => k ((stL_len _ _ _ _).trans hn) H locs ls' (hL.st1 rfl ⟨hl'.1, hl'.2.1, fun q hq => hl'.2.2 q ?_⟩) hG hS)
    rcases List.mem_cons.mp hq with rfl | hq
    · exact List.mem_cons_self
    · exact List.mem_cons_of_mem _ (by
        rw [List.filter_cons]
        split
        · exact List.mem_cons_of_mem _ hq
        · exact hq)
  · cases h
theorem xs_iadd (cx : CX w p s m args c cc n own) (eo : EnvOk w b p l e R s m args below meth c Q cc n own E) (h : xI E (.iadd) st = some st') (hd : decode cc pc = .ok (.iadd, 1)) (k : Kn w b p l e R s m args below meth c Q n cs ss (pc + 1) st') : Kn w b p l e R s m args below meth c Q n cs ss pc st := by
  obtain ⟨L, S, g⟩ := st
  simp only [xI] at h
  split at h
  · cases h
    exact fun hn H locs ls hL hG hS => lv_iadd cx.hx cx.hb hd (k hn H locs ls hL hG hS)
  · cases h
theorem xs_isub (cx : CX w p s m args c cc n own) (eo : EnvOk w b p l e R s m args below meth c Q cc n own E) (h : xI E (.isub) st = some st') (hd : decode cc pc = .ok (.isub, 1)) (k : Kn w b p l e R s m args below meth c Q n cs ss (pc + 1) st') : Kn w b p l e R s m args below meth c Q n cs ss pc st := by
  obtain ⟨L, S, g⟩ := st
  simp only [xI] at h
  split at h
  · cases h
    exact fun hn H locs ls hL hG hS => lv_isub cx.hx cx.hb hd (k hn H locs ls hL hG hS)
  · cases h
theorem xs_imul (cx : CX w p s m args c cc n own) (eo : EnvOk w b p l e R s m args below meth c Q cc n own E) (h : xI E (.imul) st = some st') (hd : decode cc pc = .ok (.imul, 1)) (k : Kn w b p l e R s m args below meth c Q n cs ss (pc + 1) st') : Kn w b p l e R s m args below meth c Q n cs ss pc st := by
  obtain ⟨L, S, g⟩ := st
  simp only [xI] at h
  split at h
  · cases h
    exact fun hn H locs ls hL hG hS => lv_imul cx.hx cx.hb hd (k hn H locs ls hL hG hS)
  · cases h
theorem xs_iand (cx : CX w p s m args c cc n own) (eo : EnvOk w b p l e R s m args below meth c Q cc n own E) (h : xI E (.iand) st = some st') (hd : decode cc pc = .ok (.iand, 1)) (k : Kn w b p l e R s m args below meth c Q n cs ss (pc + 1) st') : Kn w b p l e R s m args below meth c Q n cs ss pc st := by
  obtain ⟨L, S, g⟩ := st
  simp only [xI] at h
  split at h
  · cases h
    exact fun hn H locs ls hL hG hS => lv_iand cx.hx cx.hb hd (k hn H locs ls hL hG hS)
  · cases h
theorem xs_ladd (cx : CX w p s m args c cc n own) (eo : EnvOk w b p l e R s m args below meth c Q cc n own E) (h : xI E (.ladd) st = some st') (hd : decode cc pc = .ok (.ladd, 1)) (k : Kn w b p l e R s m args below meth c Q n cs ss (pc + 1) st') : Kn w b p l e R s m args below meth c Q n cs ss pc st := by
  obtain ⟨L, S, g⟩ := st
  simp only [xI] at h
  split at h
  · cases h
    exact fun hn H locs ls hL hG hS => lv_ladd cx.hx cx.hb hd (k hn H locs ls hL hG hS)
  · cases h
theorem xs_lsub (cx : CX w p s m args c cc n own) (eo : EnvOk w b p l e R s m args below meth c Q cc n own E) (h : xI E (.lsub) st = some st') (hd : decode cc pc = .ok (.lsub, 1)) (k : Kn w b p l e R s m args below meth c Q n cs ss (pc + 1) st') : Kn w b p l e R s m args below meth c Q n cs ss pc st := by
  obtain ⟨L, S, g⟩ := st
  simp only [xI] at h
  split at h
  · cases h
    exact fun hn H locs ls hL hG hS => lv_lsub cx.hx cx.hb hd (k hn H locs ls hL hG hS)
  · cases h
theorem xs_lmul (cx : CX w p s m args c cc n own) (eo : EnvOk w b p l e R s m args below meth c Q cc n own E) (h : xI E (.lmul) st = some st') (hd : decode cc pc = .ok (.lmul, 1)) (k : Kn w b p l e R s m args below meth c Q n cs ss (pc + 1) st') : Kn w b p l e R s m args below meth c Q n cs ss pc st := by
  obtain ⟨L, S, g⟩ := st
  simp only [xI] at h
  split at h
  · cases h
    exact fun hn H locs ls hL hG hS => lv_lmul cx.hx cx.hb hd (k hn H locs ls hL hG hS)
  · cases h
theorem xs_idiv (cx : CX w p s m args c cc n own) (eo : EnvOk w b p l e R s m args below meth c Q cc n own E) (h : xI E (.idiv) st = some st') (hd : decode cc pc = .ok (.idiv, 1)) (k : Kn w b p l e R s m args below meth c Q n cs ss (pc + 1) st') : Kn w b p l e R s m args below meth c Q n cs ss pc st := by
  obtain ⟨L, S, g⟩ := st
  simp only [xI] at h
  split at h
  · split at h
    · cases h
    · rename_i hne
      cases h
      exact fun hn H locs ls hL hG hS => lv_idiv cx.hx cx.hb hd hne (k hn H locs ls hL hG hS)
  · cases h
theorem xs_irem (cx : CX w p s m args c cc n own) (eo : EnvOk w b p l e R s m args below meth c Q cc n own E) (h : xI E (.irem) st = some st') (hd : decode cc pc = .ok (.irem, 1)) (k : Kn w b p l e R s m args below meth c Q n cs ss (pc + 1) st') : Kn w b p l e R s m args below meth c Q n cs ss pc st := by
  obtain ⟨L, S, g⟩ := st
  simp only [xI] at h
  split at h
  · split at h
    · cases h
    · rename_i hne
      cases h
      exact fun hn H locs ls hL hG hS => lv_irem cx.hx cx.hb hd hne (k hn H locs ls hL hG hS)
  · cases h
theorem xs_dmul (cx : CX w p s m args c cc n own) (eo : EnvOk w b p l e R s m args below meth c Q cc n own E) (h : xI E (.dmul) st = some st') (hd : decode cc pc = .ok (.dmul, 1)) (k : Kn w b p l e R s m args below meth c Q n cs ss (pc + 1) st') : Kn w b p l e R s m args below meth c Q n cs ss pc st := by
  obtain ⟨L, S, g⟩ := st
  simp only [xI] at h
  split at h
  · split at h
    · rename_i hne
      cases h
      exact fun hn H locs ls hL hG hS => lv_dmul cx.hx cx.hb hd hne (k hn H locs ls hL hG hS)
    · cases h
  · cases h
theorem xs_ddiv (cx : CX w p s m args c cc n own) (eo : EnvOk w b p l e R s m args below meth c Q cc n own E) (h : xI E (.ddiv) st = some st') (hd : decode cc pc = .ok (.ddiv, 1)) (k : Kn w b p l e R s m args below meth c Q n cs ss (pc + 1) st') : Kn w b p l e R s m args below meth c Q n cs ss pc st := by
  obtain ⟨L, S, g⟩ := st
  simp only [xI] at h
  split at h
  · split at h
    · rename_i hne
      cases h
      exact fun hn H locs ls hL hG hS => lv_ddiv cx.hx cx.hb hd hne (k hn H locs ls hL hG hS)
    · cases h
  · cases h
theorem xs_dsub (cx : CX w p s m args c cc n own) (eo : EnvOk w b p l e R s m args below meth c Q cc n own E) (h : xI E (.dsub) st = some st') (hd : decode cc pc = .ok (.dsub, 1)) (k : Kn w b p l e R s m args below meth c Q n cs ss (pc + 1) st') : Kn w b p l e R s m args below meth c Q n cs ss pc st := by
  obtain ⟨L, S, g⟩ := st
  simp only [xI] at h
  split at h
  · split at h
    · rename_i hne
      cases h
      exact fun hn H locs ls hL hG hS => lv_dsub cx.hx cx.hb hd hne (k hn H locs ls hL hG hS)
    · cases h
  · cases h
theorem xs_lshl (cx : CX w p s m args c cc n own) (eo : EnvOk w b p l e R s m args below meth c Q cc n own E) (h : xI E (.lshl) st = some st') (hd : decode cc pc = .ok (.lshl, 1)) (k : Kn w b p l e R s m args below meth c Q n cs ss (pc + 1) st') : Kn w b p l e R s m args below meth c Q n cs ss pc st := by
  obtain ⟨L, S, g⟩ := st
  simp only [xI] at h
  split at h
  · cases h
    exact fun hn H locs ls hL hG hS => lv_lshl cx.hx cx.hb hd rfl (k hn H locs ls hL hG hS)
  · cases h
theorem xs_i2l (cx : CX w p s m args c cc n own) (eo : EnvOk w b p l e R s m args below meth c Q cc n own E) (h : xI E (.i2l) st = some st') (hd : decode cc pc = .ok (.i2l, 1)) (k : Kn w b p l e R s m args below meth c Q n cs ss (pc + 1) st') : Kn w b p l e R s m args below meth c Q n cs ss pc st := by
  obtain ⟨L, S, g⟩ := st
  simp only [xI] at h
  split at h
  · cases h
    exact fun hn H locs ls hL hG hS => lv_i2l cx.hx cx.hb hd rfl (k hn H locs ls hL hG hS)
  · cases h
theorem xs_i2d (cx : CX w p s m args c cc n own) (eo : EnvOk w b p l e R s m args below meth c Q cc n own E) (h : xI E (.i2d) st = some st') (hd : decode cc pc = .ok (.i2d, 1)) (k : Kn w b p l e R s m args below meth c Q n cs ss (pc + 1) st') : Kn w b p l e R s m args below meth c Q n cs ss pc st := by
  obtain ⟨L, S, g⟩ := st
  simp only [xI] at h
  split at h
  · cases h
    exact fun hn H locs ls hL hG hS => lv_i2d cx.hx cx.hb hd (k hn H locs ls hL hG hS)
  · cases h
theorem xs_d2l (cx : CX w p s m args c cc n own) (eo : EnvOk w b p l e R s m args below meth c Q cc n own E) (h : xI E (.d2l) st = some st') (hd : decode cc pc = .ok (.d2l, 1)) (k : Kn w b p l e R s m args below meth c Q n cs ss (pc + 1) st') : Kn w b p l e R s m args below meth c Q n cs ss pc st := by
  obtain ⟨L, S, g⟩ := st
  simp only [xI] at h
  split at h
  · cases h
    exact fun hn H locs ls hL hG hS => lv_d2l cx.hx cx.hb hd (k hn H locs ls hL hG hS)
  · cases h
theorem xs_lcmp (cx : CX w p s m args c cc n own) (eo : EnvOk w b p l e R s m args below meth c Q cc n own E) (h : xI E (.lcmp) st = some st') (hd : decode cc pc = .ok (.lcmp, 1)) (k : Kn w b p l e R s m args below meth c Q n cs ss (pc + 1) st') : Kn w b p l e R s m args below meth c Q n cs ss pc st := by
  obtain ⟨L, S, g⟩ := st
  simp only [xI] at h
  split at h
  · cases h
    exact fun hn H locs ls hL hG hS => W.lcmp cx.hx cx.hb hd (k hn H locs ls hL hG hS)
  · cases h
theorem xs_dcmp {k0 : CmpOp} (cx : CX w p s m args c cc n own) (eo : EnvOk w b p l e R s m args below meth c Q cc n own E) (h : xI E (.dcmp k0) st = some st') (hd : decode cc pc = .ok (.dcmp k0, 1)) (k : Kn w b p l e R s m args below meth c Q n cs ss (pc + 1) st') : Kn w b p l e R s m args below meth c Q n cs ss pc st := by
  obtain ⟨L, S, g⟩ := st
  simp only [xI] at h
  split at h
  · cases h
    exact fun hn H locs ls hL hG hS => lv_dcmp cx.hx cx.hb hd (k hn H locs ls hL hG hS)
  · cases h
theorem xs_dup (cx : CX w p s m args c cc n own) (eo : EnvOk w b p l e R s m args below meth c Q cc n own E) (h : xI E (.dup) st = some st') (hd : decode cc pc = .ok (.dup, 1)) (k : Kn w b p l e R s m args below meth c Q n cs ss (pc + 1) st') : Kn w b p l e R s m args below meth c Q n cs ss pc st := by
  obtain ⟨L, S, g⟩ := st
  simp only [xI] at h
  split at h
  · cases h
    exact fun hn H locs ls hL hG hS => lv_dup cx.hx cx.hb hd rfl (k hn H locs ls hL hG hS)
  · cases h
    exact fun hn H locs ls hL hG hS => lv_dup cx.hx cx.hb hd rfl (k hn H locs ls hL hG hS)
  · cases h
theorem xs_dup2 (cx : CX w p s m args c cc n own) (eo : EnvOk w b p l e R s m args below meth c Q cc n own E) (h : xI E (.dup2) st = some st') (hd : decode cc pc = .ok (.dup2, 1)) (k : Kn w b p l e R s m args below meth c Q n cs ss (pc + 1) st') : Kn w b p l e R s m args below meth c Q n cs ss pc st := by
  obtain ⟨L, S, g⟩ := st
  simp only [xI] at h
  split at h
  · cases h
    exact fun hn H locs ls hL hG hS => lv_dup2_11 cx.hx cx.hb hd rfl rfl (k hn H locs ls hL hG hS)
  · cases h
theorem xs_pop (cx : CX w p s m args c cc n own) (eo : EnvOk w b p l e R s m args below meth c Q cc n own E) (h : xI E (.pop) st = some st') (hd : decode cc pc = .ok (.pop, 1)) (k : Kn w b p l e R s m args below meth c Q n cs ss (pc + 1) st') : Kn w b p l e R s m args below meth c Q n cs ss pc st := by
  obtain ⟨L, S, g⟩ := st
  simp only [xI] at h
  split at h
  · cases h
    exact fun hn H locs ls hL hG hS => lv_pop cx.hx cx.hb hd rfl (k hn H locs ls hL hG hS)
  · cases h
theorem xs_aconst_null (cx : CX w p s m args c cc n own) (eo : EnvOk w b p l e R s m args below meth c Q cc n own E) (h : xI E (.aconst_null) st = some st') (hd : decode cc pc = .ok (.aconst_null, 1)) (k : Kn w b p l e R s m args below meth c Q n cs ss (pc + 1) st') : Kn w b p l e R s m args below meth c Q n cs ss pc st := by
  obtain ⟨L, S, g⟩ := st
  simp only [xI] at h
  cases h
  exact fun hn H locs ls hL hG hS => lv_null cx.hx cx.hb hd (k hn H locs ls hL hG hS)
end
