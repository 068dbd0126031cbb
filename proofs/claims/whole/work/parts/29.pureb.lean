/-! ===== what is so of each state stays so ===== -/
section
variable {t : Nat → Nat} {m : Nat}
theorem IV.mono {m' : Nat} (h : IV m t) (hm : m ≤ m') : IV m' t := by
  obtain ⟨a, b, c, d, e, f⟩ := h
  unfold nOk at f
  exact ⟨a, b, c, d, e, by unfold nOk; omega⟩
theorem hOk_moves {i j : Nat} (h : hOk t) (hi : i < 6) (hj : j < 6) (hij : i ≠ j) (hh : t (16 + j) < 5) : hOk (moves t i j) := by
  intro k hk
  rw [moves_h hi hj hij hk]
  have := h k hk
  have := h i hi
  split
  · omega
  · split <;> omega
theorem moves_sc {i j x : Nat} (hi : i < 6) (hj : j < 6) (hh : t (16 + j) < 5) (hx : x < 16 ∨ 172 ≤ x) (h6 : x ≠ 6) (h7 : x ≠ 7) : moves t i j x = t x := by
  rw [moves_ot hi hj hh hx, if_neg h6, if_neg h7]
theorem IV_moves {i j : Nat} (h : IV m t) (hi : i < 6) (hj : j < 6) (hij : i ≠ j) (h1 : 0 < t (16 + i)) (hh : t (16 + j) < 5) : IV m (moves t i j) := by
  obtain ⟨i1, i2, i3, i4, i5, i6⟩ := h
  have hs : ∀ x, (x < 16 ∨ 172 ≤ x) → x ≠ 6 → x ≠ 7 → moves t i j x = t x := fun x hx => moves_sc hi hj hh hx
  have hi5 := i1 i hi
  refine ⟨hOk_moves i1 hi hj hij hh, fun p hp ha => ?_, fun o ho => ?_, fun o o' h1 h2 => ?_, ?_, ?_⟩
  · have h15 : p / 5 < 6 := by omega
    rw [moves_h hi hj hij h15] at ha
    rw [moves_cc hi hj hh (by omega), moves_cc hi hj hh (by omega), moves_cc hi hj hh (by omega), moves_cc hi hj hh (by omega), moves_cc hi hj hh (by omega), hs 4 (by omega) (by omega) (by omega)]
    by_cases e : p = 5 * j + t (16 + j)
    · rw [if_pos e, if_pos e, if_pos e, if_pos e, if_pos e]
      refine i2 _ (by omega) ?_
      have : (5 * i + t (16 + i) - 1) / 5 = i := by omega
      rw [this]
      omega
    · rw [if_neg e, if_neg e, if_neg e, if_neg e, if_neg e]
      refine i2 p hp ?_
      split at ha
      · rename_i e2; rw [e2]; omega
      · split at ha
        · rename_i e2; rw [e2]; omega
        · exact ha
  · rw [hs 15 (by omega) (by omega) (by omega)] at ho
    have h8 : t 15 ≤ 8 := i5.2.2.2.2.2
    show moves t i j (172 + 6 * o + 0) < moves t i j 5 ∧ moves t i j (172 + 6 * o + 1) ≤ 3 ∧ moves t i j (172 + 6 * o + 2) ≤ 9 ∧ 2 ≤ moves t i j (172 + 6 * o + 3) ∧ moves t i j (172 + 6 * o + 3) ≤ 100 ∧ 1 ≤ moves t i j (172 + 6 * o + 4) ∧ moves t i j (172 + 6 * o + 4) ≤ 40 ∧ 1 ≤ moves t i j (172 + 6 * o + 5) ∧ moves t i j (172 + 6 * o + 5) ≤ 99
    rw [hs 5 (by omega) (by omega) (by omega), hs (172 + 6 * o + 0) (by omega) (by omega) (by omega), hs (172 + 6 * o + 1) (by omega) (by omega) (by omega), hs (172 + 6 * o + 2) (by omega) (by omega) (by omega), hs (172 + 6 * o + 3) (by omega) (by omega) (by omega), hs (172 + 6 * o + 4) (by omega) (by omega) (by omega), hs (172 + 6 * o + 5) (by omega) (by omega) (by omega)]
    exact i3 o ho
  · rw [hs 15 (by omega) (by omega) (by omega)] at h2
    show moves t i j (172 + 6 * o + 0) < moves t i j (172 + 6 * o' + 0)
    rw [hs (172 + 6 * o + 0) (by omega) (by omega) (by omega), hs (172 + 6 * o' + 0) (by omega) (by omega) (by omega)]
    exact i4 o o' h1 h2
  · unfold sOk
    rw [hs 0 (by omega) (by omega) (by omega), hs 1 (by omega) (by omega) (by omega), hs 2 (by omega) (by omega) (by omega), hs 3 (by omega) (by omega) (by omega), hs 15 (by omega) (by omega) (by omega)]
    exact i5
  · unfold nOk
    rw [hs 4 (by omega) (by omega) (by omega), hs 5 (by omega) (by omega) (by omega), hs 9 (by omega) (by omega) (by omega), hs 10 (by omega) (by omega) (by omega), hs 11 (by omega) (by omega) (by omega)]
    exact i6
/-- what digging keeps -/
def DK (t : Nat → Nat) (p m : Nat) (s : Nat → Nat) : Prop := IV m s ∧ (∀ c, c < 5 → cc s p c = cc t p c) ∧ ∀ x, x < 16 ∨ 172 ≤ x → x ≠ 6 → x ≠ 7 → s x = t x
theorem digs_DK {p : Nat} (hI : IV m t) (hp : p < 30) (ha : p % 5 < t (16 + p / 5)) (hc : canDig t p) : ∀ k, k ≤ t (16 + p / 5) - 1 - p % 5 → DK t p m (digs t p k) := by
  intro k
  induction k with
  | zero => intro _; exact ⟨hI, fun _ _ => rfl, fun _ _ _ _ => rfl⟩
  | succ k ih =>
    intro hk
    obtain ⟨h1, h2, h3⟩ := ih (by omega)
    obtain ⟨f, e, hf, hne, h5, h6, _⟩ := DG.step hp ha hc (by omega) (digs_DG hp hI.1 ha hc k (by omega))
    have e2 : digs t p (k + 1) = moves (digs t p k) (p / 5) f := by
      show moves (digs t p k) (p / 5) ((nearest (digs t p k) (p / 5)).getD 0) = _
      rw [e]; rfl
    rw [e2]
    have hi : p / 5 < 6 := by omega
    refine ⟨IV_moves h1 hi hf (Ne.symm hne) (by omega) h5, fun c hcc => ?_, fun x hx h6' h7' => ?_⟩
    · rw [moves_cc hi hf h5 hcc, if_neg ?_]
      · exact h2 c hcc
      · intro e3
        apply hne
        omega
    · rw [moves_sc hi hf h5 hx h6' h7']
      exact h3 x hx h6' h7'
/-- dug out: the coil is the topmost -/
theorem digs_top {p : Nat} (hI : IV m t) (hp : p < 30) (ha : p % 5 < t (16 + p / 5)) (hc : canDig t p) : DK t p m (digs t p (t (16 + p / 5) - 1 - p % 5)) ∧ digs t p (t (16 + p / 5) - 1 - p % 5) (16 + p / 5) = p % 5 + 1 := by
  refine ⟨digs_DK hI hp ha hc _ (Nat.le_refl _), ?_⟩
  have := (digs_DG hp hI.1 ha hc _ (Nat.le_refl _)).2.1
  omega
end
