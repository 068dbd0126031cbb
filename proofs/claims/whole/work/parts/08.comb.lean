/-! ===== the soundness of the combinators, over any goal at places ===== -/
abbrev Kp : Type := Nat → Nat → Nat → St → Prop
def Sn (K : Kp) (F : Out → G → Prop) (kb kc : St → Prop) (c0 s0 pc : Nat) (d : Dn) (c1 s1 pe : Nat) : Prop := ∀ st, match d st with
  | some (.inl st') => K c1 s1 pe st' → K c0 s0 pc st
  | some (.inr (.inl st')) => kb st' → K c0 s0 pc st
  | some (.inr (.inr (.inl st'))) => kc st' → K c0 s0 pc st
  | some (.inr (.inr (.inr x))) => F x.1 x.2 → K c0 s0 pc st
  | none => True
def Sc (K : Kp) (c s pc : Nat) (d : Cn) (pt pf : Nat) : Prop := ∀ st, match d st with
  | some (true, st') => K c s pt st' → K c s pc st
  | some (false, st') => K c s pf st' → K c s pc st
  | none => True
section
variable {K : Kp} {F : Out → G → Prop} {kb kc : St → Prop} {c0 s0 c1 s1 c2 s2 c s pc pe pm pt pf pu px p2 : Nat}
theorem sn_blk {E : Env} {is : List Instr} (h : ∀ st st', runI E is st = some st' → K c s pe st' → K c s pc st) : Sn K F kb kc c s pc (blk E is) c s pe := by
  intro st
  unfold blk
  cases hr : runI E is st with
  | none => trivial
  | some st' => exact h st st' hr
theorem sn_sq {a b : Dn} (ha : Sn K F kb kc c0 s0 pc a c1 s1 pm) (hb : Sn K F kb kc c1 s1 pm b c2 s2 pe) : Sn K F kb kc c0 s0 pc (sq a b) c2 s2 pe := by
  intro st
  have h1 := ha st
  unfold sq
  cases hr : a st with
  | none => trivial
  | some r =>
    rw [hr] at h1
    rcases r with st' | st' | st' | x
    · dsimp only at h1 ⊢
      have h2 := hb st'
      cases hr2 : b st' with
      | none => trivial
      | some r2 =>
        rw [hr2] at h2
        rcases r2 with st2 | st2 | st2 | x2
        · exact fun k => h1 (h2 k)
        · exact fun k => h1 (h2 k)
        · exact fun k => h1 (h2 k)
        · exact fun k => h1 (h2 k)
    · exact h1
    · exact h1
    · exact h1
theorem sn_goto {d : Dn} (h : Sn K F kb kc c0 s0 pc d c1 s1 pm) (hg : ∀ st, K c1 s1 pe st → K c1 s1 pm st) : Sn K F kb kc c0 s0 pc d c1 s1 pe := by
  intro st
  have h1 := h st
  cases hr : d st with
  | none => trivial
  | some r =>
    rw [hr] at h1
    rcases r with st' | st' | st' | x
    · exact fun k => h1 (hg _ k)
    · exact h1
    · exact h1
    · exact h1
/-- code whose end isn't reached may be said to end anywhere -/
theorem sn_end {d : Dn} (h : Sn K F kb kc c0 s0 pc d c1 s1 pm) (hn : ∀ st st', d st ≠ some (.inl st')) : Sn K F kb kc c0 s0 pc d c2 s2 pe := by
  intro st
  have h1 := h st
  cases hr : d st with
  | none => trivial
  | some r =>
    rw [hr] at h1
    rcases r with st' | st' | st' | x
    · exact absurd hr (hn st st')
    · exact h1
    · exact h1
    · exact h1
theorem sn_brk (hg : ∀ st, kb st → K c s pc st) : Sn K F kb kc c s pc brk c1 s1 pe := fun st => hg st
theorem sn_cnt (hg : ∀ st, kc st → K c s pc st) : Sn K F kb kc c s pc cnt c1 s1 pe := fun st => hg st
theorem sc_no {d : Cn} (h : Sc K c s pc d pt pf) : Sc K c s pc (cno d) pf pt := by
  intro st
  have h1 := h st
  unfold cno
  cases hr : d st with
  | none => trivial
  | some r =>
    obtain ⟨t, st'⟩ := r
    rw [hr] at h1
    cases t <;> exact h1
theorem sc_an {a b : Cn} (ha : Sc K c s pc a pm pf) (hb : Sc K c s pm b pt pf) : Sc K c s pc (can a b) pt pf := by
  intro st
  have h1 := ha st
  unfold can
  cases hr : a st with
  | none => trivial
  | some r =>
    obtain ⟨t, st'⟩ := r
    rw [hr] at h1
    cases t with
    | false => exact h1
    | true =>
      dsimp only at h1 ⊢
      have h2 := hb st'
      cases hr2 : b st' with
      | none => trivial
      | some r2 =>
        obtain ⟨t2, st2⟩ := r2
        rw [hr2] at h2
        cases t2 <;> exact fun k => h1 (h2 k)
theorem sc_or {a b : Cn} (ha : Sc K c s pc a pt pm) (hb : Sc K c s pm b pt pf) : Sc K c s pc (cor a b) pt pf := by
  intro st
  have h1 := ha st
  unfold cor
  cases hr : a st with
  | none => trivial
  | some r =>
    obtain ⟨t, st'⟩ := r
    rw [hr] at h1
    cases t with
    | true => exact h1
    | false =>
      dsimp only at h1 ⊢
      have h2 := hb st'
      cases hr2 : b st' with
      | none => trivial
      | some r2 =>
        obtain ⟨t2, st2⟩ := r2
        rw [hr2] at h2
        cases t2 <;> exact fun k => h1 (h2 k)
theorem sc_fo {is : List Nat} {d : Cn} (hf : ∀ st, K c s pc (zforget st.1 is, st.2) → K c s pc st) (h : Sc K c s pc d pt pf) : Sc K c s pc (cfo is d) pt pf := by
  intro st
  have h1 := h (zforget st.1 is, st.2)
  unfold cfo
  cases hr : d (zforget st.1 is, st.2) with
  | none => trivial
  | some r =>
    obtain ⟨t, st'⟩ := r
    rw [hr] at h1
    cases t <;> exact fun k => hf _ (h1 k)
theorem sn_ite {d : Cn} {a b : Dn} (hc : Sc K c0 s0 pc d pt pf) (ha : Sn K F kb kc c0 s0 pt a c1 s1 pe) (hb : Sn K F kb kc c0 s0 pf b c1 s1 pe) : Sn K F kb kc c0 s0 pc (ite' d a b) c1 s1 pe := by
  intro st
  have h1 := hc st
  unfold ite'
  cases hr : d st with
  | none => trivial
  | some r =>
    obtain ⟨t, st'⟩ := r
    rw [hr] at h1
    cases t with
    | true =>
      dsimp only at h1 ⊢
      have h2 := ha st'
      cases hr2 : a st' with
      | none => trivial
      | some r2 =>
        rw [hr2] at h2
        rcases r2 with st2 | st2 | st2 | x2
        · exact fun k => h1 (h2 k)
        · exact fun k => h1 (h2 k)
        · exact fun k => h1 (h2 k)
        · exact fun k => h1 (h2 k)
    | false =>
      dsimp only at h1 ⊢
      have h2 := hb st'
      cases hr2 : b st' with
      | none => trivial
      | some r2 =>
        rw [hr2] at h2
        rcases r2 with st2 | st2 | st2 | x2
        · exact fun k => h1 (h2 k)
        · exact fun k => h1 (h2 k)
        · exact fun k => h1 (h2 k)
        · exact fun k => h1 (h2 k)
theorem sn_lop {d : Cn} {body upd : Dn} {kb2 kc2 : St → Prop} (hc : Sc K c s pc d pt px) (hb : Sn K F (K c s px) (K c s pu) c s pt body c s pu) (hu : Sn K F kb2 kc2 c s pu upd c s p2) (hg : ∀ st, K c s pc st → K c s p2 st) : ∀ N, Sn K F kb kc c s pc (lop d body upd N) c s px
  | 0 => fun st => trivial
  | N + 1 => by
    have ih := sn_lop hc hb hu hg N
    intro st
    have h1 := hc st
    unfold lop
    cases hr : d st with
    | none => trivial
    | some r =>
      obtain ⟨t, st'⟩ := r
      rw [hr] at h1
      cases t with
      | false => exact h1
      | true =>
        dsimp only at h1 ⊢
        have h2 := hb st'
        cases hr2 : body st' with
        | none => trivial
        | some r2 =>
          rw [hr2] at h2
          rcases r2 with st2 | st2 | st2 | x2
          · dsimp only at h2 ⊢
            have h3 := hu st2
            cases hr3 : upd st2 with
            | none => trivial
            | some r3 =>
              rw [hr3] at h3
              rcases r3 with st3 | st3 | st3 | x3
              · dsimp only at h3 ⊢
                have h4 := ih st3
                cases hr4 : lop d body upd N st3 with
                | none => trivial
                | some r4 =>
                  rw [hr4] at h4
                  rcases r4 with st4 | st4 | st4 | x4
                  · exact fun k => h1 (h2 (h3 (hg _ (h4 k))))
                  · exact fun k => h1 (h2 (h3 (hg _ (h4 k))))
                  · exact fun k => h1 (h2 (h3 (hg _ (h4 k))))
                  · exact fun k => h1 (h2 (h3 (hg _ (h4 k))))
              · trivial
              · trivial
              · trivial
          · exact fun k => h1 (h2 k)
          · dsimp only at h2 ⊢
            have h3 := hu st2
            cases hr3 : upd st2 with
            | none => trivial
            | some r3 =>
              rw [hr3] at h3
              rcases r3 with st3 | st3 | st3 | x3
              · dsimp only at h3 ⊢
                have h4 := ih st3
                cases hr4 : lop d body upd N st3 with
                | none => trivial
                | some r4 =>
                  rw [hr4] at h4
                  rcases r4 with st4 | st4 | st4 | x4
                  · exact fun k => h1 (h2 (h3 (hg _ (h4 k))))
                  · exact fun k => h1 (h2 (h3 (hg _ (h4 k))))
                  · exact fun k => h1 (h2 (h3 (hg _ (h4 k))))
                  · exact fun k => h1 (h2 (h3 (hg _ (h4 k))))
              · trivial
              · trivial
              · trivial
          · exact fun k => h1 (h2 k)
/-- a switch, case by case -/
def SwOk (K : Kp) (F : Out → G → Prop) (kb kc : St → Prop) (c0 s0 c1 s1 pe : Nat) (tgt : Int32 → Nat) (x : Int32) : List (Int32 × Dn) → Dn → Prop
  | [], d => Sn K F kb kc c0 s0 (tgt x) d c1 s1 pe
  | (k, a) :: r, d => (x = k → Sn K F kb kc c0 s0 (tgt x) a c1 s1 pe) ∧ (x ≠ k → SwOk K F kb kc c0 s0 c1 s1 pe tgt x r d)
theorem swg_ok {tgt : Int32 → Nat} {x : Int32} : ∀ {cs : List (Int32 × Dn)} {d : Dn}, SwOk K F kb kc c0 s0 c1 s1 pe tgt x cs d → Sn K F kb kc c0 s0 (tgt x) (swg x cs d) c1 s1 pe
  | [], d, h => h
  | (k, a) :: r, d, h => by
    unfold swg
    by_cases hx : x = k
    · rw [if_pos hx]; exact h.1 hx
    · rw [if_neg hx]; exact swg_ok (h.2 hx)
theorem sn_swi {E : Env} {is : List Instr} {cs : List (Int32 × Dn)} {d : Dn} (tgt : Int32 → Nat) (h : ∀ st L x S g, runI E is st = some (L, .int x :: S, g) → K c0 s0 (tgt x) (L, S, g) → K c0 s0 pc st) (hs : ∀ x, SwOk K F kb kc c0 s0 c1 s1 pe tgt x cs d) : Sn K F kb kc c0 s0 pc (swi E is cs d) c1 s1 pe := by
  intro st
  unfold swi
  cases hr : runI E is st with
  | none => trivial
  | some st' =>
    obtain ⟨L, S, g⟩ := st'
    cases S with
    | nil => trivial
    | cons v S =>
      cases v with
      | int x =>
        dsimp only
        have h2 := swg_ok (hs x) (L, S, g)
        cases hr2 : swg x cs d (L, S, g) with
        | none => trivial
        | some r2 =>
          rw [hr2] at h2
          rcases r2 with st2 | st2 | st2 | x2
          · exact fun k => h _ _ _ _ _ hr (h2 k)
          · exact fun k => h _ _ _ _ _ hr (h2 k)
          · exact fun k => h _ _ _ _ _ hr (h2 k)
          · exact fun k => h _ _ _ _ _ hr (h2 k)
      | _ => trivial
end
