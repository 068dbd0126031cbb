/-! ===== what a cut does to the cells ===== -/
section
variable {t s : Nat → Nat} {m o p : Nat}
theorem cut_low (hp : p < 30) (hs : s (16 + p / 5) = p % 5 + 1) {x : Nat} (hx : x < 16) : cut s o p x = if x = 4 then (if restOf s o p < s 0 then s 4 else s 4 + 1) else if x = 8 then s 8 + cuts s o p else if x = 9 then s 9 + cuts s o p * oo s o 3 else if x = 10 then s 10 + cuts s o p * s 1 else if x = 11 then (if restOf s o p < s 0 then s 11 + restOf s o p else s 11) else if x = 12 then s 12 + cuts s o p * oo s o 5 else s x := by
  have h1 : cutA s o p (16 + p / 5) = p % 5 := by rw [cutA_h hp, hs]; rfl
  have h2 : p / 5 < 6 := by omega
  unfold cut cutB
  rw [updN_ne (by omega)]
  by_cases hr : restOf s o p < s 0
  · simp only [if_pos hr]
    by_cases e : x = 4 ∨ x = 8 ∨ x = 9 ∨ x = 10 ∨ x = 11 ∨ x = 12
    · rcases e with rfl | rfl | rfl | rfl | rfl | rfl <;> simp (disch := omega) only [updN_ne, updN_eq, cutA, Nat.reduceEqDiff, if_true, if_false]
    · rw [if_neg (by omega), if_neg (by omega), if_neg (by omega), if_neg (by omega), if_neg (by omega), if_neg (by omega)]
      simp (disch := omega) only [updN_ne, cutA]
  · simp only [if_neg hr]
    have hq : cutA s o p (16 + p / 5) < 5 := by omega
    by_cases e : x = 4 ∨ x = 8 ∨ x = 9 ∨ x = 10 ∨ x = 11 ∨ x = 12
    · rcases e with rfl | rfl | rfl | rfl | rfl | rfl
      · rw [updN_eq]; rfl
      all_goals
        rw [updN_ne (by omega), lays_ot h2 hq (by omega)]
        simp (disch := omega) only [updN_ne, updN_eq, cutA, Nat.reduceEqDiff, if_true, if_false]
    · rw [if_neg (by omega), if_neg (by omega), if_neg (by omega), if_neg (by omega), if_neg (by omega), if_neg (by omega)]
      rw [updN_ne (by omega), lays_ot h2 hq (by omega)]
      simp (disch := omega) only [updN_ne, cutA]
theorem cut_ord (hp : p < 30) (hs : s (16 + p / 5) = p % 5 + 1) {x : Nat} (hx : 172 ≤ x) : cut s o p x = if x = 172 + 6 * o + 4 then oo s o 4 - cuts s o p else s x := by
  have h1 : cutA s o p (16 + p / 5) = p % 5 := by rw [cutA_h hp, hs]; rfl
  have h2 : p / 5 < 6 := by omega
  unfold cut
  by_cases e : x = 172 + 6 * o + 4
  · rw [e, updN_eq, if_pos rfl]
  · rw [updN_ne e, if_neg e]
    unfold cutB
    by_cases hr : restOf s o p < s 0
    · rw [if_pos hr]
      simp (disch := omega) only [updN_ne, cutA]
    · rw [if_neg hr, updN_ne (by omega), lays_ot h2 (by omega) (by omega)]
      simp (disch := omega) only [updN_ne, cutA]
theorem cut_h (hp : p < 30) (hs : s (16 + p / 5) = p % 5 + 1) {k : Nat} (hk : k < 6) : cut s o p (16 + k) = if k = p / 5 ∧ restOf s o p < s 0 then p % 5 else s (16 + k) := by
  have h1 : cutA s o p (16 + p / 5) = p % 5 := by rw [cutA_h hp, hs]; rfl
  have h2 : p / 5 < 6 := by omega
  unfold cut
  rw [updN_ne (by omega)]
  unfold cutB
  by_cases hr : restOf s o p < s 0
  · rw [if_pos hr, updN_ne (by omega)]
    by_cases e : k = p / 5
    · rw [if_pos ⟨e, hr⟩, e, h1]
    · rw [if_neg (fun h => e h.1), cutA_ne (by omega) (by omega) (by omega) (by omega) (by omega)]
  · rw [if_neg hr, updN_ne (by omega), lays_h hk h2]
    simp only [hr, and_false, if_false]
    by_cases e : k = p / 5
    · rw [if_pos e, h1, e, hs]
    · rw [if_neg e, cutA_ne (by omega) (by omega) (by omega) (by omega) (by omega)]
theorem cut_cc (hp : p < 30) (hs : s (16 + p / 5) = p % 5 + 1) {q c : Nat} (hq : q < 30) (hc : c < 5) : cc (cut s o p) q c = if q = p ∧ ¬ restOf s o p < s 0 then col c (s 4) (restOf s o p) (cc s p 2) (cc s p 3 - s 2) 1 else cc s q c := by
  have h1 : cutA s o p (16 + p / 5) = p % 5 := by rw [cutA_h hp, hs]; rfl
  have h2 : p / 5 < 6 := by omega
  have e0 : cc (cutA s o p) q c = cc s q c := by
    unfold cc
    rw [cutA_ne (by omega) (by omega) (by omega) (by omega) (by omega)]
  have e1 : cc (cut s o p) q c = cc (cutB s o p) q c := updN_ne (by omega)
  rw [e1]
  unfold cutB
  by_cases hr : restOf s o p < s 0
  · rw [if_pos hr, if_neg (fun h => h.2 hr), ← e0]
    exact updN_ne (by omega)
  · rw [if_neg hr]
    have e2 : ∀ f n, cc (updN f 4 n) q c = cc f q c := fun f n => updN_ne (by omega)
    rw [e2, lays_cc h2 (by omega) hc, h1, e0]
    have e3 : 5 * (p / 5) + p % 5 = p := by omega
    rw [e3]
    by_cases e : q = p
    · rw [if_pos e, if_pos ⟨e, hr⟩]
    · rw [if_neg e, if_neg (fun h => e h.1)]
/-- all that is so of a state, its orders apart -/
def WI (m : Nat) (t : Nat → Nat) : Prop := hOk t ∧ cOk t ∧ sOk t ∧ nOk m t
theorem cuts_w (hI : IV m s) (ho : o < s 15) (hp : p < 30) (ha : p % 5 < s (16 + p / 5)) : restOf s o p + cuts s o p * (oo s o 3 + s 1) = cc s p 1 := by
  have := @cuts_mul s o p
  unfold restOf; omega
theorem cut_WI (hI : IV m s) (ho : o < s 15) (hp : p < 30) (hs : s (16 + p / 5) = p % 5 + 1) : WI (m + 1) (cut s o p) := by
  have hw := cuts_w hI ho hp (by omega)
  obtain ⟨i1, i2, i3, i4, i5, i6⟩ := hI
  obtain ⟨c0, c1, c2, c3, c4⟩ := i2 p hp (by omega)
  have hl := fun x hx => cut_low (o := o) hp hs (x := x) hx
  refine ⟨fun k hk => ?_, fun q hq ha => ?_, ?_, ?_⟩
  · rw [cut_h hp hs hk]
    have := i1 k hk
    split <;> omega
  · rw [cut_h hp hs (by omega)] at ha
    rw [cut_cc hp hs hq (by omega), cut_cc hp hs hq (by omega), cut_cc hp hs hq (by omega), cut_cc hp hs hq (by omega), cut_cc hp hs hq (by omega), hl 4 (by omega), if_pos rfl]
    have hq1 : q % 5 < s (16 + q / 5) := by
      split at ha
      · rename_i h; rw [h.1, hs]; omega
      · exact ha
    obtain ⟨d0, d1, d2, d3, d4⟩ := i2 q hq hq1
    by_cases hr : restOf s o p < s 0
    · simp only [hr, not_true, and_false, if_false, if_true]
      exact ⟨d0, d1, d2, d3, d4⟩
    · by_cases e : q = p
      · simp only [hr, e, not_false_eq_true, and_true, if_true, if_false, col]
        exact ⟨by omega, by omega, c2, by omega, by omega⟩
      · simp only [hr, e, not_false_eq_true, and_true, if_false]
        exact ⟨by omega, d1, d2, d3, d4⟩
  · obtain ⟨s0, s1, s2, s3, s4, s5⟩ := i5
    unfold sOk
    rw [hl 0 (by omega), hl 1 (by omega), hl 2 (by omega), hl 3 (by omega), hl 15 (by omega)]
    exact ⟨s0, s1, s2, s3, s4, s5⟩
  · obtain ⟨n1, n2, n3⟩ := i6
    have hd : cuts s o p * (oo s o 3 + s 1) = cuts s o p * oo s o 3 + cuts s o p * s 1 := Nat.mul_add _ _ _
    unfold nOk
    rw [hl 4 (by omega), hl 5 (by omega), hl 9 (by omega), hl 10 (by omega), hl 11 (by omega)]
    simp only [Nat.reduceEqDiff, if_true, if_false]
    by_cases hr : restOf s o p < s 0
    · simp only [hr, if_true]
      omega
    · simp only [hr, if_false]
      omega
theorem oG_low {o : Nat} {x : Nat} (hx : x < 172) : orderGoes t o x = if x = 15 then t 15 - 1 else t x := by
  unfold orderGoes goes
  by_cases e : x = 15
  · rw [if_pos e, if_pos e]
  · rw [if_neg e, if_neg e, if_neg (by omega)]
theorem oG_lo {o : Nat} {x : Nat} (hx : x < 172) (h : x ≠ 15) : orderGoes t o x = t x := by
  rw [oG_low hx, if_neg h]
theorem oG_oo {o j c : Nat} (ho : o < t 15) (hj : j < t 15 - 1) (hc : c < 6) : oo (orderGoes t o) j c = if j < o then oo t j c else oo t (j + 1) c := by
  unfold oo orderGoes goes
  rw [if_neg (by omega)]
  by_cases e : j < o
  · rw [if_neg (by omega), if_pos e]
  · rw [if_pos (by omega), if_neg e]
    congr 1; omega
theorem oG_WI (hI : WI m t) : WI m (orderGoes t o) := by
  obtain ⟨i1, i2, i3, i4⟩ := hI
  have hl := fun x hx => oG_low (t := t) (o := o) (x := x) hx
  refine ⟨fun k hk => ?_, fun q hq ha => ?_, ?_, ?_⟩
  · rw [hl _ (by omega), if_neg (by omega)]; exact i1 k hk
  · rw [hl _ (by omega), if_neg (by omega)] at ha
    unfold cc
    simp (disch := omega) only [oG_lo]
    exact i2 q hq ha
  · unfold sOk
    rw [hl 0 (by omega), hl 1 (by omega), hl 2 (by omega), hl 3 (by omega), hl 15 (by omega)]
    unfold sOk at i3
    simp only [Nat.reduceEqDiff, if_true, if_false]
    omega
  · unfold nOk
    rw [hl 4 (by omega), hl 5 (by omega), hl 9 (by omega), hl 10 (by omega), hl 11 (by omega)]
    exact i4
theorem oG_IV {n : Nat} (hW : WI m t) (ho : o < t 15) (hn : t 15 = n) (h1 : ∀ j, j < n → j ≠ o → oo t j 0 < t 5 ∧ oo t j 1 ≤ 3 ∧ oo t j 2 ≤ 9 ∧ 2 ≤ oo t j 3 ∧ oo t j 3 ≤ 100 ∧ 1 ≤ oo t j 4 ∧ oo t j 4 ≤ 40 ∧ 1 ≤ oo t j 5 ∧ oo t j 5 ≤ 99) (h2 : uOk t) : IV m (orderGoes t o) := by
  obtain ⟨a, b, c, d⟩ := oG_WI (o := o) hW
  refine ⟨a, b, fun j hj => ?_, fun j j' hj hj' => ?_, c, d⟩
  · rw [oG_low (by omega), if_pos rfl] at hj
    simp only [oG_oo ho hj (show 0 < 6 by omega), oG_oo ho hj (show 1 < 6 by omega), oG_oo ho hj (show 2 < 6 by omega), oG_oo ho hj (show 3 < 6 by omega), oG_oo ho hj (show 4 < 6 by omega), oG_oo ho hj (show 5 < 6 by omega), oG_lo (t := t) (o := o) (show 5 < 172 by omega) (by omega)]
    by_cases e : j < o
    · simp only [if_pos e]
      exact h1 j (by omega) (by omega)
    · simp only [if_neg e]
      exact h1 (j + 1) (by omega) (by omega)
  · rw [oG_low (by omega), if_pos rfl] at hj'
    rw [oG_oo ho (by omega) (by omega), oG_oo ho hj' (by omega)]
    split
    · split
      · exact h2 j j' hj (by omega)
      · exact h2 j (j' + 1) (by omega) (by omega)
    · split
      · omega
      · exact h2 (j + 1) (j' + 1) (by omega) (by omega)
theorem goes_IV (hI : IV m t) (ho : o < t 15) : IV m (orderGoes t o) := oG_IV ⟨hI.1, hI.2.1, hI.2.2.2.2.1, hI.2.2.2.2.2⟩ ho rfl (fun j hj _ => hI.2.2.1 j hj) hI.2.2.2.1
theorem cut_oo (hp : p < 30) (hs : s (16 + p / 5) = p % 5 + 1) {j c : Nat} (hc : c < 6) : oo (cut s o p) j c = if j = o ∧ c = 4 then oo s o 4 - cuts s o p else oo s j c := by
  refine (cut_ord hp hs (by omega)).trans ?_
  by_cases e : j = o ∧ c = 4
  · rw [if_pos e, if_pos (by omega)]
  · rw [if_neg e, if_neg (by omega)]
theorem cut_IV (hI : IV m s) (ho : o < s 15) (hp : p < 30) (hs : s (16 + p / 5) = p % 5 + 1) (hl : oo s o 4 - cuts s o p ≠ 0) : IV (m + 1) (cut s o p) := by
  obtain ⟨a, b, c, d⟩ := cut_WI hI ho hp hs
  have e15 : cut s o p 15 = s 15 := cut_low hp hs (by omega)
  have e5 : cut s o p 5 = s 5 := cut_low hp hs (by omega)
  refine ⟨a, b, fun j hj => ?_, fun j j' hj hj' => ?_, c, d⟩
  · rw [e15] at hj
    have h := hI.2.2.1 j hj
    rw [cut_oo hp hs (by omega), cut_oo hp hs (by omega), cut_oo hp hs (by omega), cut_oo hp hs (by omega), cut_oo hp hs (by omega), cut_oo hp hs (by omega), e5]
    simp only [Nat.reduceEqDiff, and_false, if_false, and_true]
    by_cases e : j = o
    · rw [if_pos e]
      subst e
      omega
    · rw [if_neg e]
      exact h
  · rw [e15] at hj'
    rw [cut_oo hp hs (by omega), cut_oo hp hs (by omega)]
    simp only [Nat.reduceEqDiff, and_false, if_false]
    exact hI.2.2.2.1 j j' hj hj'
theorem cut_gone (hI : IV m s) (ho : o < s 15) (hp : p < 30) (hs : s (16 + p / 5) = p % 5 + 1) : IV (m + 1) (orderGoes (cut s o p) o) := by
  have e15 : cut s o p 15 = s 15 := cut_low hp hs (by omega)
  have e5 : cut s o p 5 = s 5 := cut_low hp hs (by omega)
  refine oG_IV (cut_WI hI ho hp hs) (by omega) rfl (fun j hj hne => ?_) (fun j j' hj hj' => ?_)
  · rw [e15] at hj
    have h := hI.2.2.1 j hj
    rw [cut_oo hp hs (by omega), cut_oo hp hs (by omega), cut_oo hp hs (by omega), cut_oo hp hs (by omega), cut_oo hp hs (by omega), cut_oo hp hs (by omega), e5]
    simp only [hne, false_and, if_false]
    exact h
  · rw [e15] at hj'
    rw [cut_oo hp hs (by omega), cut_oo hp hs (by omega)]
    simp only [Nat.reduceEqDiff, and_false, if_false]
    exact hI.2.2.2.1 j j' hj hj'
theorem slits_IV (hI : IV m t) (ho : o < t 15) (hp : p < 30) (ha : p % 5 < t (16 + p / 5)) (hc : canDig t p) : IV (m + 1) (slits t o p) := by
  obtain ⟨hD, hs⟩ := digs_top hI hp ha hc
  have e15 : dug t p 15 = t 15 := hD.2.2 15 (by omega) (by omega) (by omega)
  have e4 : oo (dug t p) o 4 = oo t o 4 := oo_eq hD.2.2
  have ec : cuts (dug t p) o p = cuts t o p := DK_cuts hD
  unfold slits
  split
  · exact cut_gone hD.1 (by omega) hp hs
  · exact cut_IV hD.1 (by omega) hp hs (by omega)
end
