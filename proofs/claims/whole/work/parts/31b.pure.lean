/-! ===== orders served ===== -/
section
variable {t s : Nat → Nat} {m o p : Nat}
/-- the orders of a state, their numbers and prices: as they were, but for one that may have gone -/
def OS (t : Nat → Nat) (o : Nat) (t' : Nat → Nat) : Prop := (t' 15 = t 15 ∧ ∀ j, j < t 15 → oo t' j 0 = oo t j 0 ∧ oo t' j 5 = oo t j 5) ∨ (t' 15 = t 15 - 1 ∧ ∀ j, j < t 15 - 1 → oo t' j 0 = oo t (if j < o then j else j + 1) 0 ∧ oo t' j 5 = oo t (if j < o then j else j + 1) 5)
theorem OS.refl : OS t o t := .inl ⟨rfl, fun _ _ => ⟨rfl, rfl⟩⟩
theorem orderAt_some {c : Int32} (hI : IV m t) (hm : m < 2 ^ 31) (ho : o < t 15) (hc : nI (oo t o 0) = c) : orderAt t c = some o := by
  unfold orderAt
  cases h : ff (fun o => decide (nI (oo t o 0) = c)) (t 15) with
  | none =>
    have := ff_none h o ho
    simp [hc] at this
  | some o' =>
    obtain ⟨h1, h2, h3⟩ := ff_some h
    have h4 : nI (oo t o' 0) = nI (oo t o 0) := by rw [hc]; exact of_decide_eq_true h2
    have n1 := hI.2.2.2.2.2
    unfold nOk at n1
    have b1 := (hI.2.2.1 o ho).1
    have b2 := (hI.2.2.1 o' h1).1
    rw [zn_eq (by omega) (by omega)] at h4
    by_cases e1 : o < o'
    · have := hI.2.2.2.1 o o' e1 h1; omega
    · by_cases e2 : o' < o
      · have := hI.2.2.2.1 o' o e2 ho; omega
      · rw [show o' = o by omega]
theorem orderAt_gone (h2 : uOk t) (hb : ∀ j, j < t 15 → oo t j 0 < 2 ^ 31) (ho : o < t 15) : orderAt (orderGoes t o) (nI (oo t o 0)) = none := by
  unfold orderAt
  cases h : ff (fun j => decide (nI (oo (orderGoes t o) j 0) = nI (oo t o 0))) (orderGoes t o 15) with
  | none => rfl
  | some j =>
    obtain ⟨h3, h4, _⟩ := ff_some h
    rw [oG_low (by omega), if_pos rfl] at h3
    have h5 := of_decide_eq_true h4
    rw [oG_oo ho h3 (by omega)] at h5
    split at h5
    · have b1 := hb j (by omega)
      have b2 := hb o ho
      rw [zn_eq (by omega) (by omega)] at h5
      have := h2 j o (by omega) ho
      omega
    · have b1 := hb (j + 1) (by omega)
      have b2 := hb o ho
      rw [zn_eq (by omega) (by omega)] at h5
      have := h2 o (j + 1) (by omega) (by omega)
      omega
/-- after a slit -/
theorem slits_after (hI : IV m t) (hm : m < 2 ^ 20) (ho : o < t 15) (hp : p < 30) (ha : p % 5 < t (16 + p / 5)) (hc : canDig t p) : OS t o (slits t o p) ∧ (slits t o p) 8 = t 8 + cuts t o p ∧ (oo t o 4 - cuts t o p = 0 → orderAt (slits t o p) (nI (oo t o 0)) = none) ∧ (oo t o 4 - cuts t o p ≠ 0 → (slits t o p) 15 = t 15 ∧ oo (slits t o p) o 4 = oo t o 4 - cuts t o p ∧ ∀ j c, c < 6 → c ≠ 4 → oo (slits t o p) j c = oo t j c) := by
  obtain ⟨hD, hs⟩ := digs_top hI hp ha hc
  have hD : DK t p m (dug t p) := hD
  have hs : dug t p (16 + p / 5) = p % 5 + 1 := hs
  have e15 : dug t p 15 = t 15 := hD.2.2 15 (by omega) (by omega) (by omega)
  have e8 : dug t p 8 = t 8 := hD.2.2 8 (by omega) (by omega) (by omega)
  have eo : ∀ j c, oo (dug t p) j c = oo t j c := fun j c => oo_eq hD.2.2
  have ec : cuts (dug t p) o p = cuts t o p := DK_cuts hD
  have f15 : cut (dug t p) o p 15 = t 15 := (cut_low hp hs (by omega)).trans e15
  have f8 : cut (dug t p) o p 8 = t 8 + cuts t o p := (cut_low hp hs (by omega)).trans (by simp only [Nat.reduceEqDiff, if_true, if_false, e8, ec])
  have fo : ∀ j c, c < 6 → c ≠ 4 → oo (cut (dug t p) o p) j c = oo t j c := fun j c h6 h4 => (cut_oo hp hs h6).trans (by rw [if_neg (fun h => h4 h.2), eo])
  have f4 : oo (cut (dug t p) o p) o 4 = oo t o 4 - cuts t o p := (cut_oo hp hs (by omega)).trans (by rw [if_pos ⟨rfl, rfl⟩, eo, ec])
  have n1 := hI.2.2.2.2.2
  unfold nOk at n1
  unfold slits
  split
  · rename_i hz
    refine ⟨.inr ⟨by rw [oG_low (by omega), if_pos rfl, f15], fun j hj => ?_⟩, by rw [oG_low (by omega), if_neg (by omega), f8], fun _ => ?_, fun h => absurd hz h⟩
    · rw [oG_oo (by omega) (by omega) (by omega), oG_oo (by omega) (by omega) (by omega)]
      split
      · exact ⟨fo _ _ (by omega) (by omega), fo _ _ (by omega) (by omega)⟩
      · exact ⟨fo _ _ (by omega) (by omega), fo _ _ (by omega) (by omega)⟩
    · rw [← fo o 0 (by omega) (by omega)]
      refine orderAt_gone (fun j j' hj hj' => ?_) (fun j hj => ?_) (by omega)
      · rw [fo _ _ (by omega) (by omega), fo _ _ (by omega) (by omega)]
        exact hI.2.2.2.1 j j' hj (by omega)
      · rw [fo _ _ (by omega) (by omega)]
        have := (hI.2.2.1 j (by omega)).1
        omega
  · rename_i hz
    exact ⟨.inl ⟨f15, fun j hj => ⟨fo _ _ (by omega) (by omega), fo _ _ (by omega) (by omega)⟩⟩, f8, fun h => absurd h hz, fun _ => ⟨f15, f4, fo⟩⟩
theorem OS.trans {t1 t2 : Nat → Nat} (h1 : t1 15 = t 15) (h2 : ∀ j c, c < 6 → c ≠ 4 → oo t1 j c = oo t j c) (h : OS t1 o t2) : OS t o t2 := by
  rcases h with ⟨a, b⟩ | ⟨a, b⟩
  · refine .inl ⟨by omega, fun j hj => ?_⟩
    have := b j (by omega)
    rw [h2 _ _ (by omega) (by omega), h2 _ _ (by omega) (by omega)] at this
    exact this
  · refine .inr ⟨by omega, fun j hj => ?_⟩
    have := b j (by omega)
    rw [h2 _ _ (by omega) (by omega), h2 _ _ (by omega) (by omega)] at this
    exact this
/-- an order is served -/
def srv : Nat → (Nat → Nat) → Nat → (Nat → Nat) × Nat
  | 0, t, _ => (t, 0)
  | k + 1, t, o => match chosen t o with
    | none => (t, 0)
    | some p => if oo t o 4 - cuts t o p = 0 then (slits t o p, cuts t o p) else ((srv k (slits t o p) o).1, cuts t o p + (srv k (slits t o p) o).2)
theorem chosen_ok (h : chosen t o = some p) : p < 30 ∧ p % 5 < t (16 + p / 5) ∧ canDig t p ∧ 1 ≤ fits t o p := by
  obtain ⟨a, b, c⟩ := chs_lt h
  unfold reason at c
  split at c
  · rename_i hm
    split at c
    · rename_i hd
      refine ⟨a, b, hd, ?_⟩
      unfold mism at hm
      split at hm
      · omega
      · split at hm
        · omega
        · split at hm
          · omega
          · omega
    · omega
  · rename_i hm; exact absurd c hm
theorem chosen_cuts (hI : IV m t) (ho : o < t 15) (h : chosen t o = some p) : 1 ≤ cuts t o p := by
  have h1 := (chosen_ok h).2.2.2
  have h2 := hI.2.2.1 o ho
  unfold cuts
  split <;> omega
theorem srv_spec : ∀ (k : Nat) {t : Nat → Nat} {m o : Nat}, IV m t → m + k < 2 ^ 20 → o < t 15 → IV (m + k) (srv k t o).1 ∧ OS t o (srv k t o).1 ∧ (srv k t o).1 8 = t 8 + (srv k t o).2
  | 0, t, m, o, hI, _, _ => ⟨hI, .refl, rfl⟩
  | k + 1, t, m, o, hI, hm, ho => by
    unfold srv
    cases hch : chosen t o with
    | none => exact ⟨hI.mono (by omega), .refl, rfl⟩
    | some p =>
      obtain ⟨h1, h2, h3, h4⟩ := chosen_ok hch
      have hI2 := slits_IV hI ho h1 h2 h3
      obtain ⟨a1, a2, a3, a4⟩ := slits_after hI (by omega) ho h1 h2 h3
      dsimp only
      split
      · exact ⟨hI2.mono (by omega), a1, a2⟩
      · rename_i hz
        obtain ⟨b1, b2, b3⟩ := a4 hz
        obtain ⟨c1, c2, c3⟩ := srv_spec k hI2 (by omega) (show o < slits t o p 15 by omega)
        refine ⟨c1.mono (by omega), c2.trans b1 b3, ?_⟩
        dsimp only
        rw [c3, a2]; omega
/-- behind a price and a number -/
abbrev bh (pr nu : Int32) (P N : Nat) : Prop := nI P < pr ∨ (nI P = pr ∧ nu < nI N)
def nxt (t : Nat → Nat) (pr nu : Int32) : Nat → Option Nat → Option Nat := fun o a => if bh pr nu (oo t o 5) (oo t o 0) ∧ (a = none ∨ nI (oo t (a.getD 0) 5) < nI (oo t o 5)) then some o else a
def nextO (t : Nat → Nat) (pr nu : Int32) : Option Nat := fo (nxt t pr nu) none (t 15)
theorem nxt_lt {pr nu : Int32} {n o : Nat} (h : fo (nxt t pr nu) none n = some o) : o < n ∧ bh pr nu (oo t o 5) (oo t o 0) := by
  have := fo_inv (f := nxt t pr nu) (a := none) (fun k a => ∀ o, a = some o → o < k ∧ bh pr nu (oo t o 5) (oo t o 0)) (fun o h => by cases h) n (fun k x hk h o => by
    unfold nxt
    split
    · rename_i hb
      intro e; cases e; exact ⟨by omega, hb.1⟩
    · intro e; have := h o e; exact ⟨by omega, this.2⟩)
  exact this o h
theorem nxt_none {pr nu : Int32} {n : Nat} (h : fo (nxt t pr nu) none n = none) : ∀ o, o < n → ¬ bh pr nu (oo t o 5) (oo t o 0) := by
  have := fo_inv (f := nxt t pr nu) (a := none) (fun k a => a = none → ∀ o, o < k → ¬ bh pr nu (oo t o 5) (oo t o 0)) (fun _ o h => by omega) n (fun k x hk h => by
    unfold nxt
    split
    · intro e; cases e
    · rename_i hn
      intro e o ho
      by_cases e2 : o = k
      · intro hb
        exact hn ⟨by rw [← e2]; exact hb, .inl e⟩
      · exact h e o (by omega))
  exact this h
def cou (f : Nat → Nat) (n : Nat) : Nat := fo (fun o a => a + f o) 0 n
theorem cou_s {f : Nat → Nat} {n : Nat} : cou f (n + 1) = cou f n + f n := rfl
theorem cou_le {f g : Nat → Nat} : ∀ {n : Nat}, (∀ j, j < n → f j ≤ g j) → cou f n ≤ cou g n
  | 0, _ => Nat.le_refl _
  | n + 1, h => by
    rw [cou_s, cou_s]
    have := cou_le (n := n) (fun j hj => h j (by omega))
    have := h n (by omega)
    omega
theorem cou_lt {f g : Nat → Nat} : ∀ {n o : Nat}, (∀ j, j < n → f j ≤ g j) → o < n → f o < g o → cou f n < cou g n
  | 0, _, _, h, _ => by omega
  | n + 1, o, h, ho, hl => by
    rw [cou_s, cou_s]
    have h2 := h n (by omega)
    by_cases e : o = n
    · have := cou_le (n := n) (fun j hj => h j (by omega))
      rw [e] at hl
      omega
    · have := cou_lt (n := n) (o := o) (fun j hj => h j (by omega)) (by omega) hl
      omega
theorem cou_shift {f : Nat → Nat} {o : Nat} : ∀ {n : Nat}, o ≤ n → cou (fun j => f (if j < o then j else j + 1)) n + f o = cou f (n + 1)
  | 0, h => by rw [show o = 0 by omega]; rfl
  | n + 1, h => by
    by_cases e : o = n + 1
    · rw [cou_s, e]
      congr 1
      have : ∀ k, k ≤ n + 1 → cou (fun j => f (if j < n + 1 then j else j + 1)) k = cou f k := by
        intro k
        induction k with
        | zero => intro _; rfl
        | succ k ih => intro hk; rw [cou_s, cou_s, ih (by omega), if_pos (by omega)]
      exact this (n + 1) (Nat.le_refl _)
    · have := cou_shift (f := f) (o := o) (n := n) (by omega)
      rw [cou_s, cou_s, ← this, if_neg (by omega)]
      omega
theorem cou_le_n {f : Nat → Nat} {n : Nat} (h : ∀ j, j < n → f j ≤ 1) : cou f n ≤ n := by
  have := cou_le (f := f) (g := fun _ => 1) h
  have e : ∀ n, cou (fun _ => 1) n = n := by
    intro n
    induction n with
    | zero => rfl
    | succ n ih => rw [cou_s, ih]
  rw [e] at this
  exact this
/-- how many orders are behind -/
def hm (t : Nat → Nat) (pr nu : Int32) : Nat := cou (fun o => if bh pr nu (oo t o 5) (oo t o 0) then 1 else 0) (t 15)
theorem hm_le (pr nu : Int32) : hm t pr nu ≤ t 15 := cou_le_n (fun j _ => by split <;> omega)
theorem hm_0 {pr nu : Int32} (h : hm t pr nu = 0) : nextO t pr nu = none := by
  cases hn : nextO t pr nu with
  | none => rfl
  | some o =>
    obtain ⟨h1, h2⟩ := nxt_lt hn
    have := cou_lt (f := fun _ => 0) (g := fun o => if bh pr nu (oo t o 5) (oo t o 0) then 1 else 0) (n := t 15) (o := o) (fun _ _ => Nat.zero_le _) h1 (by rw [if_pos h2]; omega)
    unfold hm at h
    omega
theorem bh_trans {pr nu : Int32} {P N P' N' : Nat} (h : bh pr nu P N) (h' : bh (nI P) (nI N) P' N') : bh pr nu P' N' := by
  unfold bh at *
  rcases h' with h' | ⟨h', h2'⟩
  · rcases h with h | ⟨h, h2⟩
    · exact .inl (Int32.lt_trans h' h)
    · exact .inl (h ▸ h')
  · rw [h']
    rcases h with h | ⟨h, h2⟩
    · exact .inl h
    · exact .inr ⟨h, Int32.lt_trans h2 h2'⟩
theorem bh_irr {P N : Nat} : ¬ bh (nI P) (nI N) P N := by
  unfold bh
  rintro (h | ⟨_, h⟩)
  · exact Int32.lt_irrefl h
  · exact Int32.lt_irrefl h
theorem hm_lt {pr nu : Int32} {t' : Nat → Nat} (h : nextO t pr nu = some o) (hO : OS t o t') : hm t' (nI (oo t o 5)) (nI (oo t o 0)) < hm t pr nu := by
  obtain ⟨h1, h2⟩ := nxt_lt h
  have hl : cou (fun j => if bh (nI (oo t o 5)) (nI (oo t o 0)) (oo t j 5) (oo t j 0) then 1 else 0) (t 15) < hm t pr nu := by
    refine cou_lt (o := o) (fun j hj => ?_) h1 (by rw [if_neg bh_irr, if_pos h2]; omega)
    by_cases hb : bh (nI (oo t o 5)) (nI (oo t o 0)) (oo t j 5) (oo t j 0)
    · rw [if_pos hb, if_pos (bh_trans h2 hb)]; omega
    · rw [if_neg hb]; omega
  refine Nat.lt_of_le_of_lt ?_ hl
  unfold hm
  rcases hO with ⟨a, b⟩ | ⟨a, b⟩
  · rw [a]
    refine cou_le fun j hj => ?_
    rw [(b j hj).1, (b j hj).2]
    exact Nat.le_refl _
  · rw [a]
    obtain ⟨n, hn⟩ : ∃ n, t 15 = n + 1 := ⟨t 15 - 1, by omega⟩
    have hs := cou_shift (f := fun j => if bh (nI (oo t o 5)) (nI (oo t o 0)) (oo t j 5) (oo t j 0) then 1 else 0) (o := o) (n := n) (by omega)
    rw [hn, ← hs, show n + 1 - 1 = n by omega]
    refine Nat.le_trans (cou_le fun j hj => ?_) (Nat.le_add_right _ _)
    rw [(b j (by omega)).1, (b j (by omega)).2]
    exact Nat.le_refl _
/-- all orders are served -/
def srvA : Nat → (Nat → Nat) → Option Nat → (Nat → Nat)
  | 0, t, _ => t
  | _ + 1, t, none => t
  | k + 1, t, some o => srvA k (srv 40 t o).1 (nextO (srv 40 t o).1 (nI (oo t o 5)) (nI (oo t o 0)))
theorem srvA_spec : ∀ (k : Nat) {t : Nat → Nat} {m : Nat} {a : Option Nat}, IV m t → m + 40 * k < 2 ^ 20 → (∀ o, a = some o → o < t 15) → IV (m + 40 * k) (srvA k t a)
  | 0, _, _, _, hI, _, _ => hI
  | k + 1, _, _, none, hI, _, _ => hI.mono (by omega)
  | k + 1, t, m, some o, hI, hm, ho => by
    have h1 := srv_spec 40 hI (by omega) (ho o rfl)
    exact (srvA_spec k h1.1 (by omega) (fun o' h => (nxt_lt h).1)).mono (by omega)
end
