/-! ===== the reference's changes: what they do to the cells ===== -/
section
variable {t : Nat → Nat}
def col (c n w g q r : Nat) : Nat := match c with
  | 0 => n
  | 1 => w
  | 2 => g
  | 3 => q
  | _ => r
theorem lays_cc {k n w g q r p c : Nat} (hk : k < 6) (hh : t (16 + k) < 5) (hc : c < 5) : cc (lays t k n w g q r) p c = if p = 5 * k + t (16 + k) then col c n w g q r else cc t p c := by
  unfold cc lays
  rw [updN_ne (by omega)]
  by_cases e : p = 5 * k + t (16 + k)
  · rw [if_pos e, e]
    have : c = 0 ∨ c = 1 ∨ c = 2 ∨ c = 3 ∨ c = 4 := by omega
    rcases this with rfl | rfl | rfl | rfl | rfl
    · rw [updN_ne (by omega), updN_ne (by omega), updN_ne (by omega), updN_ne (by omega)]; exact updN_eq
    · rw [updN_ne (by omega), updN_ne (by omega), updN_ne (by omega)]; exact updN_eq
    · rw [updN_ne (by omega), updN_ne (by omega)]; exact updN_eq
    · rw [updN_ne (by omega)]; exact updN_eq
    · exact updN_eq
  · rw [if_neg e, updN_ne (by omega), updN_ne (by omega), updN_ne (by omega), updN_ne (by omega), updN_ne (by omega)]
theorem lays_ot {k n w g q r i : Nat} (hk : k < 6) (hh : t (16 + k) < 5) (hi : i < 16 ∨ 172 ≤ i) : lays t k n w g q r i = t i := by
  unfold lays
  rw [updN_ne (by omega), updN_ne (by omega), updN_ne (by omega), updN_ne (by omega), updN_ne (by omega), updN_ne (by omega)]
theorem moves_cc {i j p c : Nat} (hi : i < 6) (hj : j < 6) (hh : t (16 + j) < 5) (hc : c < 5) : cc (moves t i j) p c = if p = 5 * j + t (16 + j) then cc t (5 * i + t (16 + i) - 1) c else cc t p c := by
  unfold moves
  dsimp only
  show updN _ _ _ (22 + 5 * p + c) = _
  rw [updN_ne (by omega), updN_ne (by omega), updN_ne (by omega)]
  refine (lays_cc hj hh hc).trans ?_
  congr 1
  have : c = 0 ∨ c = 1 ∨ c = 2 ∨ c = 3 ∨ c = 4 := by omega
  rcases this with rfl | rfl | rfl | rfl | rfl <;> rfl
theorem moves_h {i j k : Nat} (hi : i < 6) (hj : j < 6) (hij : i ≠ j) (hk : k < 6) : moves t i j (16 + k) = if k = j then t (16 + j) + 1 else if k = i then t (16 + i) - 1 else t (16 + k) := by
  unfold moves
  rw [updN_ne (by omega), updN_ne (by omega)]
  by_cases e : k = i
  · rw [e, updN_eq, if_neg hij, if_pos rfl, lays_h hi hj, if_neg hij]
  · rw [updN_ne (by omega), lays_h hk hj, if_neg e]
theorem moves_ot {i j x : Nat} (hi : i < 6) (hj : j < 6) (hh : t (16 + j) < 5) (hx : x < 16 ∨ 172 ≤ x) : moves t i j x = if x = 6 then t 6 + 1 else if x = 7 then t 7 + far i j else t x := by
  unfold moves
  by_cases e7 : x = 7
  · rw [e7, updN_eq, if_neg (by omega), if_pos rfl, updN_ne (by omega), updN_ne (by omega), lays_ot hj hh (by omega)]
  · rw [updN_ne e7, if_neg e7]
    by_cases e6 : x = 6
    · rw [e6, updN_eq, if_pos rfl, updN_ne (by omega), lays_ot hj hh (by omega)]
    · rw [updN_ne e6, if_neg e6, updN_ne (by omega), lays_ot hj hh hx]
/-- the room beside a place's stack -/
theorem roomBut_eq {p : Nat} : roomBut t p = (if 0 = p / 5 then 0 else 5 - t 16) + (if 1 = p / 5 then 0 else 5 - t 17) + (if 2 = p / 5 then 0 else 5 - t 18) + (if 3 = p / 5 then 0 else 5 - t 19) + (if 4 = p / 5 then 0 else 5 - t 20) + (if 5 = p / 5 then 0 else 5 - t 21) := by
  show 0 + _ + _ + _ + _ + _ + _ = _
  rw [Nat.zero_add]
theorem roomBut_pos {p : Nat} (h : 0 < roomBut t p) : ∃ k, k < 6 ∧ k ≠ p / 5 ∧ t (16 + k) < 5 := by
  apply Classical.byContradiction
  intro hn
  have h2 : ∀ k, k < 6 → k ≠ p / 5 → 5 ≤ t (16 + k) := fun k hk hne => by
    apply Classical.byContradiction
    intro h3
    exact hn ⟨k, hk, hne, by omega⟩
  have : roomBut t p = 0 := by
    have := fo_inv (f := fun k a => a + if k = p / 5 then 0 else 5 - t (16 + k)) (a := 0) (fun k a => a = 0) rfl 6 (fun k x hk h => by
      split
      · omega
      · rename_i hne
        have := h2 k hk hne
        omega)
    exact this
  omega
theorem sum6 {f f' : Nat → Nat} {j : Nat} (hj : j < 6) (h1 : f' j + 1 = f j) (h2 : ∀ k, k < 6 → k ≠ j → f' k = f k) : f' 0 + f' 1 + f' 2 + f' 3 + f' 4 + f' 5 = f 0 + f 1 + f 2 + f 3 + f 4 + f 5 - 1 := by
  have : j = 0 ∨ j = 1 ∨ j = 2 ∨ j = 3 ∨ j = 4 ∨ j = 5 := by omega
  rcases this with rfl | rfl | rfl | rfl | rfl | rfl
  · have := h2 1 (by omega) (by omega); have := h2 2 (by omega) (by omega); have := h2 3 (by omega) (by omega); have := h2 4 (by omega) (by omega); have := h2 5 (by omega) (by omega); omega
  · have := h2 0 (by omega) (by omega); have := h2 2 (by omega) (by omega); have := h2 3 (by omega) (by omega); have := h2 4 (by omega) (by omega); have := h2 5 (by omega) (by omega); omega
  · have := h2 0 (by omega) (by omega); have := h2 1 (by omega) (by omega); have := h2 3 (by omega) (by omega); have := h2 4 (by omega) (by omega); have := h2 5 (by omega) (by omega); omega
  · have := h2 0 (by omega) (by omega); have := h2 1 (by omega) (by omega); have := h2 2 (by omega) (by omega); have := h2 4 (by omega) (by omega); have := h2 5 (by omega) (by omega); omega
  · have := h2 0 (by omega) (by omega); have := h2 1 (by omega) (by omega); have := h2 2 (by omega) (by omega); have := h2 3 (by omega) (by omega); have := h2 5 (by omega) (by omega); omega
  · have := h2 0 (by omega) (by omega); have := h2 1 (by omega) (by omega); have := h2 2 (by omega) (by omega); have := h2 3 (by omega) (by omega); have := h2 4 (by omega) (by omega); omega
theorem roomBut_moves {p j : Nat} (hp : p < 30) (hj : j < 6) (hij : p / 5 ≠ j) (hh : t (16 + j) < 5) : roomBut (moves t (p / 5) j) p = roomBut t p - 1 := by
  have hi : p / 5 < 6 := by omega
  have h := fun k (hk : k < 6) => moves_h (t := t) hi hj hij hk
  rw [roomBut_eq, roomBut_eq]
  refine sum6 (f := fun k => if k = p / 5 then 0 else 5 - t (16 + k)) (f' := fun k => if k = p / 5 then 0 else 5 - moves t (p / 5) j (16 + k)) hj ?_ fun k hk hne => ?_
  · show (if j = p / 5 then 0 else 5 - moves t (p / 5) j (16 + j)) + 1 = if j = p / 5 then 0 else 5 - t (16 + j)
    rw [h j hj, if_pos rfl, if_neg (Ne.symm hij), if_neg (Ne.symm hij)]
    omega
  · show (if k = p / 5 then 0 else 5 - moves t (p / 5) j (16 + k)) = if k = p / 5 then 0 else 5 - t (16 + k)
    rw [h k hk, if_neg hne]
    split
    · rfl
    · rfl
theorem nearest_spec {st : Nat} (hs : st < 6) : ∃ f, nearest t st = some f ∧ f < 6 ∧ f ≠ st ∧ ∀ k, k < 6 → k ≠ st → t (16 + f) ≤ t (16 + k) := by
  have := fo_inv (f := nearS t st) (a := none) (fun k a => (a = none → ∀ j, j < k → j = st) ∧ ∀ f, a = some f → f < k ∧ f ≠ st ∧ ∀ j, j < k → j ≠ st → t (16 + f) ≤ t (16 + j)) ⟨fun _ j hj => by omega, fun f h => by cases h⟩ 6 (fun k x hk h => by
    unfold nearS
    split
    · rename_i e
      refine ⟨fun hx j hj => ?_, fun f hf => ?_⟩
      · by_cases e2 : j = k
        · omega
        · exact h.1 hx j (by omega)
      · obtain ⟨a1, a2, a3⟩ := h.2 f hf
        refine ⟨by omega, a2, fun j hj hne => a3 j (by omega) hne⟩
    · rename_i hne
      split
      · refine ⟨fun hx => (by cases hx), fun f hf => ?_⟩
        cases hf
        refine ⟨by omega, hne, fun j hj hjs => ?_⟩
        by_cases e2 : j = k
        · rw [e2]; exact Nat.le_refl _
        · exact absurd (h.1 rfl j (by omega)) hjs
      · rename_i f'
        obtain ⟨a1, a2, a3⟩ := h.2 f' rfl
        split
        · rename_i hb
          refine ⟨fun hx => (by cases hx), fun f hf => ?_⟩
          cases hf
          refine ⟨by omega, hne, fun j hj hjs => ?_⟩
          by_cases e2 : j = k
          · rw [e2]; exact Nat.le_refl _
          · have := a3 j (by omega) hjs
            omega
        · rename_i hb
          refine ⟨fun hx => (by cases hx), fun f hf => ?_⟩
          cases hf
          refine ⟨by omega, a2, fun j hj hjs => ?_⟩
          by_cases e2 : j = k
          · rw [e2]; omega
          · exact a3 j (by omega) hjs)
  cases hn : nearest t st with
  | none =>
    have h1 := this.1 hn
    have h2 := h1 0 (by omega)
    have h3 := h1 1 (by omega)
    omega
  | some f =>
    obtain ⟨a1, a2, a3⟩ := this.2 f hn
    exact ⟨f, rfl, a1, a2, a3⟩
/-- what stands while a coil is dug out -/
def DG (t : Nat → Nat) (p k : Nat) (s : Nat → Nat) : Prop := hOk s ∧ s (16 + p / 5) + k = t (16 + p / 5) ∧ roomBut s p + k = roomBut t p
theorem DG.step {p k : Nat} {s : Nat → Nat} (hp : p < 30) (ha : p % 5 < t (16 + p / 5)) (hc : canDig t p) (hk : k < t (16 + p / 5) - 1 - p % 5) (h : DG t p k s) : ∃ f, nearest s (p / 5) = some f ∧ f < 6 ∧ f ≠ p / 5 ∧ s (16 + f) < 5 ∧ p % 5 + 1 < s (16 + p / 5) ∧ DG t p (k + 1) (moves s (p / 5) f) := by
  obtain ⟨h1, h2, h3⟩ := h
  unfold canDig at hc
  have hi : p / 5 < 6 := by omega
  obtain ⟨f, e, hf, hne, hmin⟩ := nearest_spec (t := s) hi
  have hroom : 0 < roomBut s p := by omega
  obtain ⟨k', hk', hne', hlt⟩ := roomBut_pos hroom
  have h5 : s (16 + f) < 5 := by have := hmin k' hk' hne'; omega
  refine ⟨f, e, hf, hne, h5, by omega, fun j hj => ?_, ?_, ?_⟩
  · rw [moves_h hi hf (Ne.symm hne) hj]
    have := h1 j hj
    have := h1 _ hi
    split
    · omega
    · split <;> omega
  · rw [moves_h hi hf (Ne.symm hne) hi, if_neg (Ne.symm hne), if_pos rfl]
    omega
  · rw [roomBut_moves hp hf (Ne.symm hne) h5]
    omega
theorem digs_DG {p : Nat} (hp : p < 30) (hh : hOk t) (ha : p % 5 < t (16 + p / 5)) (hc : canDig t p) : ∀ k, k ≤ t (16 + p / 5) - 1 - p % 5 → DG t p k (digs t p k) := by
  intro k
  induction k with
  | zero => intro _; exact ⟨hh, rfl, rfl⟩
  | succ k ih =>
    intro hk
    obtain ⟨f, e, _, _, _, _, h⟩ := DG.step hp ha hc (by omega) (ih (by omega))
    show DG t p (k + 1) (moves (digs t p k) (p / 5) ((nearest (digs t p k) (p / 5)).getD 0))
    rw [e]
    exact h
end
