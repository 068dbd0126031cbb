/-! ===== what is so of each state stays so: coils come and go, orders come ===== -/
section
variable {t s : Nat → Nat} {m : Nat}
theorem IV_come {k w g q : Nat} (hI : IV m t) (hk : k < 6) (hh : t (16 + k) < 5) (hw : w ≤ 200) (hg : g ≤ 3) (hq : q ≤ 9) : IV (m + 1) (comeT t k w g q) := by
  obtain ⟨i1, i2, i3, i4, i5, i6⟩ := hI
  have eh : ∀ x, 16 ≤ x → comeT t k w g q x = lays t k (t 4) w g q 0 x := fun x hx => by
    unfold comeT; rw [updN_ne (by omega), updN_ne (by omega)]
  have el : ∀ x, x < 16 → comeT t k w g q x = if x = 4 then t 4 + 1 else if x = 13 then t 13 + w else t x := fun x hx => by
    unfold comeT
    by_cases e : x = 4
    · rw [e, updN_eq, if_pos rfl]
    · rw [updN_ne e, if_neg e]
      by_cases e2 : x = 13
      · rw [e2, updN_eq, if_pos rfl]
      · rw [updN_ne e2, if_neg e2, lays_ot hk hh (by omega)]
  have eo : ∀ x, 172 ≤ x → comeT t k w g q x = t x := fun x hx => by rw [eh x (by omega), lays_ot hk hh (by omega)]
  refine ⟨fun j hj => ?_, fun p hp ha => ?_, fun o ho => ?_, fun o o' h1 h2 => ?_, ?_, ?_⟩
  · rw [eh _ (by omega), lays_h hj hk]
    have := i1 j hj
    split <;> omega
  · rw [eh _ (by omega), lays_h (by omega) hk] at ha
    have ec : ∀ c, c < 5 → cc (comeT t k w g q) p c = if p = 5 * k + t (16 + k) then col c (t 4) w g q 0 else cc t p c := fun c hc => by
      have : cc (comeT t k w g q) p c = cc (lays t k (t 4) w g q 0) p c := eh _ (by omega)
      rw [this, lays_cc hk hh hc]
    rw [ec 0 (by omega), ec 1 (by omega), ec 2 (by omega), ec 3 (by omega), ec 4 (by omega), el 4 (by omega), if_pos rfl]
    by_cases e : p = 5 * k + t (16 + k)
    · simp only [if_pos e, col]
      exact ⟨by omega, hw, hg, hq, by omega⟩
    · simp only [if_neg e]
      have ha2 : p % 5 < t (16 + p / 5) := by
        split at ha
        · rename_i e2; rw [e2]; omega
        · exact ha
      have := i2 p hp ha2
      exact ⟨by omega, this.2⟩
  · rw [el 15 (by omega)] at ho
    have ho : o < t 15 := ho
    have h8 : t 15 ≤ 8 := i5.2.2.2.2.2
    have e5 : comeT t k w g q 5 = t 5 := by rw [el 5 (by omega)]; rfl
    have := i3 o ho
    unfold oo at *
    rw [e5, eo _ (by omega), eo _ (by omega), eo _ (by omega), eo _ (by omega), eo _ (by omega), eo _ (by omega)]
    exact this
  · rw [el 15 (by omega)] at h2
    have h2 : o' < t 15 := h2
    have := i4 o o' h1 h2
    unfold oo at *
    rw [eo _ (by omega), eo _ (by omega)]
    exact this
  · unfold sOk at *
    rw [el _ (by omega), el _ (by omega), el _ (by omega), el _ (by omega), el _ (by omega)]
    exact i5
  · unfold nOk at *
    rw [el _ (by omega), el _ (by omega), el _ (by omega), el _ (by omega), el _ (by omega)]
    simp only [Nat.reduceEqDiff, if_true, if_false]
    omega
theorem IV_sent {p : Nat} (hI : IV m s) (hp : p < 30) (hs : s (16 + p / 5) = p % 5 + 1) : IV m (sentT s p) := by
  obtain ⟨i1, i2, i3, i4, i5, i6⟩ := hI
  have e : ∀ x, x ≠ 14 → x ≠ 16 + p / 5 → sentT s p x = s x := fun x h1 h2 => by
    unfold sentT; rw [updN_ne h1, updN_ne h2]
  have eh : sentT s p (16 + p / 5) = p % 5 := by
    unfold sentT; rw [updN_ne (by omega), updN_eq, hs]; rfl
  have eH : ∀ k, k < 6 → sentT s p (16 + k) = if k = p / 5 then p % 5 else s (16 + k) := fun k hk => by
    by_cases e2 : k = p / 5
    · rw [if_pos e2, e2, eh]
    · rw [if_neg e2, e _ (by omega) (by omega)]
  refine ⟨fun j hj => ?_, fun q hq ha => ?_, fun o ho => ?_, fun o o' h1 h2 => ?_, ?_, ?_⟩
  · rw [eH j hj]
    have := i1 j hj
    split <;> omega
  · rw [eH _ (by omega)] at ha
    have ha2 : q % 5 < s (16 + q / 5) := by
      split at ha
      · rename_i e2; rw [e2, hs]; omega
      · exact ha
    have := i2 q hq ha2
    unfold cc at *
    rw [e _ (by omega) (by omega), e _ (by omega) (by omega), e _ (by omega) (by omega), e _ (by omega) (by omega), e _ (by omega) (by omega), e _ (by omega) (by omega)]
    exact this
  · rw [e _ (by omega) (by omega)] at ho
    have := i3 o ho
    unfold oo at *
    rw [e _ (by omega) (by omega), e _ (by omega) (by omega), e _ (by omega) (by omega), e _ (by omega) (by omega), e _ (by omega) (by omega), e _ (by omega) (by omega), e _ (by omega) (by omega)]
    exact this
  · rw [e _ (by omega) (by omega)] at h2
    have := i4 o o' h1 h2
    unfold oo at *
    rw [e _ (by omega) (by omega), e _ (by omega) (by omega)]
    exact this
  · unfold sOk at *
    rw [e _ (by omega) (by omega), e _ (by omega) (by omega), e _ (by omega) (by omega), e _ (by omega) (by omega), e _ (by omega) (by omega)]
    exact i5
  · unfold nOk at *
    rw [e _ (by omega) (by omega), e _ (by omega) (by omega), e _ (by omega) (by omega), e _ (by omega) (by omega), e _ (by omega) (by omega)]
    exact i6
theorem IV_ord {g q w st pr : Nat} (hI : IV m t) (h8 : t 15 < 8) (h1 : g ≤ 3) (h2 : q ≤ 9) (h3 : 2 ≤ w ∧ w ≤ 100) (h4 : 1 ≤ st ∧ st ≤ 40) (h5 : 1 ≤ pr ∧ pr ≤ 99) : IV (m + 1) (ordT t g q w st pr) := by
  obtain ⟨i1, i2, i3, i4, i5, i6⟩ := hI
  have el : ∀ x, x < 172 → ordT t g q w st pr x = if x = 5 then t 5 + 1 else if x = 15 then t 15 + 1 else t x := fun x hx => ordT_low hx
  have e : ∀ x, x < 172 → x ≠ 5 → x ≠ 15 → ordT t g q w st pr x = t x := fun x hx a b => by rw [el x hx, if_neg a, if_neg b]
  have e5 : ordT t g q w st pr 5 = t 5 + 1 := by rw [el 5 (by omega), if_pos rfl]
  have e15 : ordT t g q w st pr 15 = t 15 + 1 := by rw [el 15 (by omega), if_neg (by omega), if_pos rfl]
  refine ⟨fun j hj => ?_, fun p hp ha => ?_, fun o ho => ?_, fun o o' ha hb => ?_, ?_, ?_⟩
  · rw [e _ (by omega) (by omega) (by omega)]; exact i1 j hj
  · rw [e _ (by omega) (by omega) (by omega)] at ha
    have := i2 p hp ha
    unfold cc at *
    rw [e _ (by omega) (by omega) (by omega), e _ (by omega) (by omega) (by omega), e _ (by omega) (by omega) (by omega), e _ (by omega) (by omega) (by omega), e _ (by omega) (by omega) (by omega), e _ (by omega) (by omega) (by omega)]
    exact this
  · rw [e15] at ho
    rw [ordT_oo (by omega), ordT_oo (by omega), ordT_oo (by omega), ordT_oo (by omega), ordT_oo (by omega), ordT_oo (by omega), e5]
    by_cases eo : o = t 15
    · simp only [if_pos eo, Nat.reduceEqDiff, if_true, if_false]
      omega
    · simp only [if_neg eo]
      have := i3 o (by omega)
      omega
  · rw [e15] at hb
    rw [ordT_oo (by omega), ordT_oo (by omega), if_neg (by omega : ¬ o = t 15)]
    by_cases eo : o' = t 15
    · rw [if_pos eo, if_pos rfl]
      exact (i3 o (by omega)).1
    · rw [if_neg eo]
      exact i4 o o' ha (by omega)
  · unfold sOk at *
    rw [e _ (by omega) (by omega) (by omega), e _ (by omega) (by omega) (by omega), e _ (by omega) (by omega) (by omega), e _ (by omega) (by omega) (by omega), e15]
    omega
  · unfold nOk at *
    rw [e _ (by omega) (by omega) (by omega), e5, e _ (by omega) (by omega) (by omega), e _ (by omega) (by omega) (by omega), e _ (by omega) (by omega) (by omega)]
    omega
end
