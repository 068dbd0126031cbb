/-! ===== the component's yard ===== -/
section
variable {M : Hp} {nx a : Nat} {t t' : Nat → Nat} {co od : Nat → Int32} {E : Env} {rr : List Instr} {L : List (Option Value)} {S : List Value}
def tr (n : Nat) (f : Nat → Int32) : Nat → Int32 := fun k => if k < n then f k else 0
theorem tr_at {n k : Nat} {f : Nat → Int32} (h : k < n) : tr n f k = f k := if_pos h
theorem upd_at {k : Nat} {f : Nat → Int32} {x : Int32} : upd f k x k = x := if_pos rfl
theorem upd_ne {k i : Nat} {f : Nat → Int32} {x : Int32} (h : i ≠ k) : upd f k x i = f i := if_neg h
theorem tr_upd {n k : Nat} {f : Nat → Int32} {x : Int32} (h : k < n) : upd (tr n f) k x = tr n (upd f k x) := by
  funext i
  by_cases e : i = k
  · rw [e, upd_at, tr_at h, upd_at]
  · rw [upd_ne e]
    unfold tr
    by_cases h2 : i < n
    · rw [if_pos h2, if_pos h2, upd_ne e]
    · rw [if_neg h2, if_neg h2]
theorem tr_congr {n : Nat} {f g : Nat → Int32} (h : ∀ k, k < n → f k = g k) : tr n f = tr n g := by
  funext i; unfold tr
  by_cases e : i < n
  · rw [if_pos e, if_pos e, h i e]
  · rw [if_neg e, if_neg e]
theorem cIt {n : Nat} {f g : Nat → Int32} (h : ∀ k, k < n → f k = g k) : (some (cI n (tr n f)) : Option Cel) = some (cI n (tr n g)) := by rw [tr_congr h]
abbrev fY (a : Nat) (t : Nat → Nat) : List Value := [.ref (a + 1), .ref (a + 3), .ref (a + 5), .ref (a + 7), .ref (a + 9), .int (nI (t 15)), .int (nI (t 4)), .int (nI (t 5))]
def taF (t : Nat → Nat) : Nat → Int32 := fun k => if 4 ≤ k ∧ k ≤ 12 then nI (t (k + 2)) else 0
/-- a yard: its coils and orders, all else by the state -/
def yM (M : Hp) (a : Nat) (t : Nat → Nat) (co od : Nat → Int32) : Hp := fun i => if i = a then some (cO 2 (fY a t)) else if i = a + 1 then some (cO 1 [.int (nI 5), .ref (a + 2)]) else if i = a + 2 then some (cI 150 (tr 150 co)) else if i = a + 3 then some (cO 0 [.ref (a + 4)]) else if i = a + 4 then some (cI 6 (tr 6 (fun k => nI (t (16 + k))))) else if i = a + 5 then some (cO 1 [.int (nI 6), .ref (a + 6)]) else if i = a + 6 then some (cI 48 (tr 48 od)) else if i = a + 7 then some (cO 0 [.ref (a + 8)]) else if i = a + 8 then some (cI 4 (tr 4 (fun k => nI (t k)))) else if i = a + 9 then some (cO 0 [.ref (a + 10)]) else if i = a + 10 then some (cI 14 (tr 14 (taF t))) else M i
theorem yM_a : yM M a t co od a = some (cO 2 (fY a t)) := if_pos rfl
theorem yM_1 : yM M a t co od (a + 1) = some (cO 1 [.int (nI 5), .ref (a + 2)]) := by unfold yM; rw [if_neg (by omega), if_pos rfl]
theorem yM_2 : yM M a t co od (a + 2) = some (cI 150 (tr 150 co)) := by unfold yM; rw [if_neg (by omega), if_neg (by omega), if_pos rfl]
theorem yM_3 : yM M a t co od (a + 3) = some (cO 0 [.ref (a + 4)]) := by unfold yM; rw [if_neg (by omega), if_neg (by omega), if_neg (by omega), if_pos rfl]
theorem yM_4 : yM M a t co od (a + 4) = some (cI 6 (tr 6 (fun k => nI (t (16 + k))))) := by unfold yM; rw [if_neg (by omega), if_neg (by omega), if_neg (by omega), if_neg (by omega), if_pos rfl]
theorem yM_5 : yM M a t co od (a + 5) = some (cO 1 [.int (nI 6), .ref (a + 6)]) := by unfold yM; rw [if_neg (by omega), if_neg (by omega), if_neg (by omega), if_neg (by omega), if_neg (by omega), if_pos rfl]
theorem yM_6 : yM M a t co od (a + 6) = some (cI 48 (tr 48 od)) := by unfold yM; rw [if_neg (by omega), if_neg (by omega), if_neg (by omega), if_neg (by omega), if_neg (by omega), if_neg (by omega), if_pos rfl]
theorem yM_7 : yM M a t co od (a + 7) = some (cO 0 [.ref (a + 8)]) := by unfold yM; rw [if_neg (by omega), if_neg (by omega), if_neg (by omega), if_neg (by omega), if_neg (by omega), if_neg (by omega), if_neg (by omega), if_pos rfl]
theorem yM_8 : yM M a t co od (a + 8) = some (cI 4 (tr 4 (fun k => nI (t k)))) := by unfold yM; rw [if_neg (by omega), if_neg (by omega), if_neg (by omega), if_neg (by omega), if_neg (by omega), if_neg (by omega), if_neg (by omega), if_neg (by omega), if_pos rfl]
theorem yM_9 : yM M a t co od (a + 9) = some (cO 0 [.ref (a + 10)]) := by unfold yM; rw [if_neg (by omega), if_neg (by omega), if_neg (by omega), if_neg (by omega), if_neg (by omega), if_neg (by omega), if_neg (by omega), if_neg (by omega), if_neg (by omega), if_pos rfl]
theorem yM_10 : yM M a t co od (a + 10) = some (cI 14 (tr 14 (taF t))) := by unfold yM; rw [if_neg (by omega), if_neg (by omega), if_neg (by omega), if_neg (by omega), if_neg (by omega), if_neg (by omega), if_neg (by omega), if_neg (by omega), if_neg (by omega), if_neg (by omega), if_pos rfl]
theorem yM_ne {i : Nat} (h : i < a ∨ a + 10 < i) : yM M a t co od i = M i := by
  unfold yM
  rw [if_neg (by omega), if_neg (by omega), if_neg (by omega), if_neg (by omega), if_neg (by omega), if_neg (by omega), if_neg (by omega), if_neg (by omega), if_neg (by omega), if_neg (by omega), if_neg (by omega)]
/-- two yards' worth of cells are the same when they are so one by one -/
theorem yM_ext {M' : Hp} {co' od' : Nat → Int32} (h0 : M' a = some (cO 2 (fY a t'))) (h1 : M' (a + 1) = some (cO 1 [.int (nI 5), .ref (a + 2)])) (h2 : M' (a + 2) = some (cI 150 (tr 150 co'))) (h3 : M' (a + 3) = some (cO 0 [.ref (a + 4)])) (h4 : M' (a + 4) = some (cI 6 (tr 6 (fun k => nI (t' (16 + k)))))) (h5 : M' (a + 5) = some (cO 1 [.int (nI 6), .ref (a + 6)])) (h6 : M' (a + 6) = some (cI 48 (tr 48 od'))) (h7 : M' (a + 7) = some (cO 0 [.ref (a + 8)])) (h8 : M' (a + 8) = some (cI 4 (tr 4 (fun k => nI (t' k))))) (h9 : M' (a + 9) = some (cO 0 [.ref (a + 10)])) (h10 : M' (a + 10) = some (cI 14 (tr 14 (taF t')))) (hn : ∀ i, i < a ∨ a + 10 < i → M' i = M i) : M' = yM M a t' co' od' := by
  funext i
  by_cases h : i < a ∨ a + 10 < i
  · rw [yM_ne h, hn i h]
  · have : i = a ∨ i = a + 1 ∨ i = a + 2 ∨ i = a + 3 ∨ i = a + 4 ∨ i = a + 5 ∨ i = a + 6 ∨ i = a + 7 ∨ i = a + 8 ∨ i = a + 9 ∨ i = a + 10 := by omega
    rcases this with rfl | rfl | rfl | rfl | rfl | rfl | rfl | rfl | rfl | rfl | rfl
    · rw [h0, yM_a]
    · rw [h1, yM_1]
    · rw [h2, yM_2]
    · rw [h3, yM_3]
    · rw [h4, yM_4]
    · rw [h5, yM_5]
    · rw [h6, yM_6]
    · rw [h7, yM_7]
    · rw [h8, yM_8]
    · rw [h9, yM_9]
    · rw [h10, yM_10]
theorem yM_congr (h : ∀ k, k < 22 → t k = t' k) : yM M a t co od = yM M a t' co od := by
  have e : fY a t = fY a t' := by unfold fY; rw [h 15 (by omega), h 4 (by omega), h 5 (by omega)]
  refine yM_ext (by rw [yM_a, e]) yM_1 yM_2 yM_3 ?_ yM_5 yM_6 yM_7 ?_ yM_9 ?_ (fun i hi => yM_ne hi)
  · rw [yM_4]; exact cIt (fun k hk => by rw [h _ (by omega)])
  · rw [yM_8]; exact cIt (fun k hk => by rw [h _ (by omega)])
  · rw [yM_10]; refine cIt (fun k hk => ?_)
    unfold taF
    by_cases h2 : 4 ≤ k ∧ k ≤ 12
    · rw [if_pos h2, if_pos h2, h _ (by omega)]
    · rw [if_neg h2, if_neg h2]
theorem yM_over {M' : Hp} (h : ∀ i, i < a ∨ a + 10 < i → M' i = M i) : yM M' a t co od = yM M a t co od := by
  refine yM_ext yM_a yM_1 yM_2 yM_3 yM_4 yM_5 yM_6 yM_7 yM_8 yM_9 yM_10 (fun i hi => by rw [yM_ne hi, h i hi])
/-! writes -/
theorem yM_s2 {f : Nat → Int32} : zup (yM M a t co od) (a + 2) (cI 150 (tr 150 f)) = yM M a t f od := by
  refine yM_ext ?_ ?_ zup_eq ?_ ?_ ?_ ?_ ?_ ?_ ?_ ?_ (fun i hi => by rw [zup_ne (by omega), yM_ne hi])
  all_goals rw [zup_ne (by omega)]
  · exact yM_a
  · exact yM_1
  · exact yM_3
  · exact yM_4
  · exact yM_5
  · exact yM_6
  · exact yM_7
  · exact yM_8
  · exact yM_9
  · exact yM_10
theorem yM_s6 {f : Nat → Int32} : zup (yM M a t co od) (a + 6) (cI 48 (tr 48 f)) = yM M a t co f := by
  refine yM_ext ?_ ?_ ?_ ?_ ?_ ?_ zup_eq ?_ ?_ ?_ ?_ (fun i hi => by rw [zup_ne (by omega), yM_ne hi])
  all_goals rw [zup_ne (by omega)]
  · exact yM_a
  · exact yM_1
  · exact yM_2
  · exact yM_3
  · exact yM_4
  · exact yM_5
  · exact yM_7
  · exact yM_8
  · exact yM_9
  · exact yM_10
theorem yM_sa {k n : Nat} (hk : k = 15 ∨ k = 4 ∨ k = 5) : zup (yM M a t co od) a (cO 2 (fY a (updN t k n))) = yM M a (updN t k n) co od := by
  refine yM_ext zup_eq ?_ ?_ ?_ ?_ ?_ ?_ ?_ ?_ ?_ ?_ (fun i hi => by rw [zup_ne (by omega), yM_ne hi])
  all_goals rw [zup_ne (by omega)]
  · exact yM_1
  · exact yM_2
  · exact yM_3
  · rw [yM_4]; exact cIt (fun j hj => by rw [updN_ne (by omega)])
  · exact yM_5
  · exact yM_6
  · exact yM_7
  · rw [yM_8]; exact cIt (fun j hj => by rw [updN_ne (by omega)])
  · exact yM_9
  · rw [yM_10]; refine cIt (fun j hj => ?_)
    unfold taF
    by_cases h2 : 4 ≤ j ∧ j ≤ 12
    · rw [if_pos h2, if_pos h2, updN_ne (by omega)]
    · rw [if_neg h2, if_neg h2]
theorem fY_ne {k n : Nat} (hk : k ≠ 15 ∧ k ≠ 4 ∧ k ≠ 5) : fY a (updN t k n) = fY a t := by
  unfold fY
  rw [updN_ne (by omega), updN_ne (by omega), updN_ne (by omega)]
theorem yM_s4 {k n : Nat} (hk : k < 6) : zup (yM M a t co od) (a + 4) (cI 6 (upd (tr 6 (fun k => nI (t (16 + k)))) k (nI n))) = yM M a (updN t (16 + k) n) co od := by
  refine yM_ext ?_ ?_ ?_ ?_ ?_ ?_ ?_ ?_ ?_ ?_ ?_ (fun i hi => by rw [zup_ne (by omega), yM_ne hi])
  · rw [zup_ne (by omega), fY_ne (by omega)]; exact yM_a
  · rw [zup_ne (by omega)]; exact yM_1
  · rw [zup_ne (by omega)]; exact yM_2
  · rw [zup_ne (by omega)]; exact yM_3
  · rw [zup_eq, tr_upd hk]
    refine cIt (fun j hj => ?_)
    by_cases e : j = k
    · rw [e, upd_at, updN_eq]
    · rw [upd_ne e, updN_ne (by omega)]
  · rw [zup_ne (by omega)]; exact yM_5
  · rw [zup_ne (by omega)]; exact yM_6
  · rw [zup_ne (by omega)]; exact yM_7
  · rw [zup_ne (by omega), yM_8]; exact cIt (fun j hj => by rw [updN_ne (by omega)])
  · rw [zup_ne (by omega)]; exact yM_9
  · rw [zup_ne (by omega), yM_10]; refine cIt (fun j hj => ?_)
    unfold taF
    by_cases h2 : 4 ≤ j ∧ j ≤ 12
    · rw [if_pos h2, if_pos h2, updN_ne (by omega)]
    · rw [if_neg h2, if_neg h2]
theorem yM_s8 {k n : Nat} (hk : k < 4) : zup (yM M a t co od) (a + 8) (cI 4 (upd (tr 4 (fun k => nI (t k))) k (nI n))) = yM M a (updN t k n) co od := by
  refine yM_ext ?_ ?_ ?_ ?_ ?_ ?_ ?_ ?_ ?_ ?_ ?_ (fun i hi => by rw [zup_ne (by omega), yM_ne hi])
  · rw [zup_ne (by omega), fY_ne (by omega)]; exact yM_a
  · rw [zup_ne (by omega)]; exact yM_1
  · rw [zup_ne (by omega)]; exact yM_2
  · rw [zup_ne (by omega)]; exact yM_3
  · rw [zup_ne (by omega), yM_4]; exact cIt (fun j hj => by rw [updN_ne (by omega)])
  · rw [zup_ne (by omega)]; exact yM_5
  · rw [zup_ne (by omega)]; exact yM_6
  · rw [zup_ne (by omega)]; exact yM_7
  · rw [zup_eq, tr_upd hk]
    refine cIt (fun j hj => ?_)
    by_cases e : j = k
    · rw [e, upd_at, updN_eq]
    · rw [upd_ne e, updN_ne (by omega)]
  · rw [zup_ne (by omega)]; exact yM_9
  · rw [zup_ne (by omega), yM_10]; refine cIt (fun j hj => ?_)
    unfold taF
    by_cases h2 : 4 ≤ j ∧ j ≤ 12
    · rw [if_pos h2, if_pos h2, updN_ne (by omega)]
    · rw [if_neg h2, if_neg h2]
theorem yM_s10 {k n : Nat} (h4 : 4 ≤ k) (hk : k ≤ 12) : zup (yM M a t co od) (a + 10) (cI 14 (upd (tr 14 (taF t)) k (nI n))) = yM M a (updN t (k + 2) n) co od := by
  refine yM_ext ?_ ?_ ?_ ?_ ?_ ?_ ?_ ?_ ?_ ?_ ?_ (fun i hi => by rw [zup_ne (by omega), yM_ne hi])
  · rw [zup_ne (by omega), fY_ne (by omega)]; exact yM_a
  · rw [zup_ne (by omega)]; exact yM_1
  · rw [zup_ne (by omega)]; exact yM_2
  · rw [zup_ne (by omega)]; exact yM_3
  · rw [zup_ne (by omega), yM_4]; exact cIt (fun j hj => by rw [updN_ne (by omega)])
  · rw [zup_ne (by omega)]; exact yM_5
  · rw [zup_ne (by omega)]; exact yM_6
  · rw [zup_ne (by omega)]; exact yM_7
  · rw [zup_ne (by omega), yM_8]; exact cIt (fun j hj => by rw [updN_ne (by omega)])
  · rw [zup_ne (by omega)]; exact yM_9
  · rw [zup_eq, tr_upd (by omega)]
    refine cIt (fun j hj => ?_)
    by_cases e : j = k
    · unfold taF
      rw [e, upd_at, if_pos (by omega), updN_eq]
    · rw [upd_ne e]
      unfold taF
      by_cases h2 : 4 ≤ j ∧ j ≤ 12
      · rw [if_pos h2, if_pos h2, updN_ne (by omega)]
      · rw [if_neg h2, if_neg h2]
/-! the yard's fields -/
theorem gY_0 {g : G} : gfK (some (2, 0)) (some (cO 2 (fY a t))) E rr L S g = runI E rr (L, .ref (a + 1) :: S, g) := rfl
theorem gY_1 {g : G} : gfK (some (2, 1)) (some (cO 2 (fY a t))) E rr L S g = runI E rr (L, .ref (a + 3) :: S, g) := rfl
theorem gY_2 {g : G} : gfK (some (2, 2)) (some (cO 2 (fY a t))) E rr L S g = runI E rr (L, .ref (a + 5) :: S, g) := rfl
theorem gY_3 {g : G} : gfK (some (2, 3)) (some (cO 2 (fY a t))) E rr L S g = runI E rr (L, .ref (a + 7) :: S, g) := rfl
theorem gY_4 {g : G} : gfK (some (2, 4)) (some (cO 2 (fY a t))) E rr L S g = runI E rr (L, .ref (a + 9) :: S, g) := rfl
theorem gY_5 {g : G} : gfK (some (2, 5)) (some (cO 2 (fY a t))) E rr L S g = runI E rr (L, .int (nI (t 15)) :: S, g) := rfl
theorem gY_6 {g : G} : gfK (some (2, 6)) (some (cO 2 (fY a t))) E rr L S g = runI E rr (L, .int (nI (t 4)) :: S, g) := rfl
theorem gY_7 {g : G} : gfK (some (2, 7)) (some (cO 2 (fY a t))) E rr L S g = runI E rr (L, .int (nI (t 5)) :: S, g) := rfl
theorem pY_5 {n : Nat} : pfK (some (2, 5)) (some (cO 2 (fY a t))) E rr L S (yM M a t co od, nx) a (.int (nI n)) = runI E rr (L, S, (yM M a (updN t 15 n) co od, nx)) := by
  have h : pfK (some (2, 5)) (some (cO 2 (fY a t))) E rr L S (yM M a t co od, nx) a (.int (nI n)) = runI E rr (L, S, (zup (yM M a t co od) a (cO 2 ((fY a t).set 5 (.int (nI n)))), nx)) := pfK_at ⟨rfl, by show 5 < 8; omega, .inl rfl⟩
  rw [h, ← yM_sa (.inl rfl)]
  rfl
theorem pY_6 {n : Nat} : pfK (some (2, 6)) (some (cO 2 (fY a t))) E rr L S (yM M a t co od, nx) a (.int (nI n)) = runI E rr (L, S, (yM M a (updN t 4 n) co od, nx)) := by
  have h : pfK (some (2, 6)) (some (cO 2 (fY a t))) E rr L S (yM M a t co od, nx) a (.int (nI n)) = runI E rr (L, S, (zup (yM M a t co od) a (cO 2 ((fY a t).set 6 (.int (nI n)))), nx)) := pfK_at ⟨rfl, by show 6 < 8; omega, .inl rfl⟩
  rw [h, ← yM_sa (.inr (.inl rfl))]
  rfl
theorem pY_7 {n : Nat} : pfK (some (2, 7)) (some (cO 2 (fY a t))) E rr L S (yM M a t co od, nx) a (.int (nI n)) = runI E rr (L, S, (yM M a (updN t 5 n) co od, nx)) := by
  have h : pfK (some (2, 7)) (some (cO 2 (fY a t))) E rr L S (yM M a t co od, nx) a (.int (nI n)) = runI E rr (L, S, (zup (yM M a t co od) a (cO 2 ((fY a t).set 7 (.int (nI n)))), nx)) := pfK_at ⟨rfl, by show 7 < 8; omega, .inl rfl⟩
  rw [h, ← yM_sa (.inr (.inr rfl))]
  rfl
/-! the yard's rows and grids -/
variable {p q c n k i j : Nat} {x : Int32}
theorem y_cget (hp : p < 30) (hc : c < 5) : x_Grid_get [.ref (a + 1), .int (nI p), .int (nI c)] (yM M a t co od, nx) = some (.inl (some (.int (co (5 * p + c)))), (yM M a t co od, nx)) := by
  rw [w_Grid_get yM_1 yM_2 hc (by omega) (by omega) (by omega), tr_at (by omega), Nat.mul_comm]
theorem y_cgetm (hc : c < 5) : x_Grid_get [.ref (a + 1), .int (-1), .int (nI c)] (yM M a t co od, nx) = some (.inl (some (.int (nI 0))), (yM M a t co od, nx)) := w_Grid_get_m1 yM_1 hc (by omega)
theorem y_cput (hp : p < 30) (hc : c < 5) : x_Grid_put [.ref (a + 1), .int (nI p), .int (nI c), .int x] (yM M a t co od, nx) = some (.inl none, (yM M a t (upd co (5 * p + c) x) od, nx)) := by
  rw [w_Grid_put yM_1 yM_2 hc (by omega) (by omega) (by omega), tr_upd (by omega), yM_s2, Nat.mul_comm]
def cpR (w : Nat) (f : Nat → Int32) (p q : Nat) : Nat → Int32 := va_cpy f f (w * p) (w * q) w
theorem tr_cpy {f g : Nat → Int32} {s d : Nat} (h1 : s + k ≤ n) (h2 : d + k ≤ n) : va_cpy (tr n f) (tr n g) s d k = tr n (va_cpy f g s d k) := by
  funext i; unfold va_cpy tr
  by_cases e : d ≤ i ∧ i < d + k
  · rw [if_pos e, if_pos (by omega), if_pos (by omega)]
    exact (if_pos e).symm
  · rw [if_neg e]
    by_cases e2 : i < n
    · rw [if_pos e2, if_pos e2]
      exact (if_neg e).symm
    · rw [if_neg e2, if_neg e2]
theorem y_crow (hp : p < 30) (hq : q < 30) : x_Grid_copyRow [.ref (a + 1), .int (nI p), .int (nI q)] (yM M a t co od, nx) = some (.inl none, (yM M a t (cpR 5 co p q) od, nx)) := by
  rw [w_Grid_copyRow yM_1 yM_2 (by omega) (by omega) (by omega), tr_cpy (by omega) (by omega), yM_s2, Nat.mul_comm p, Nat.mul_comm q]
  rfl
theorem y_oget (hp : p < 8) (hc : c < 6) : x_Grid_get [.ref (a + 5), .int (nI p), .int (nI c)] (yM M a t co od, nx) = some (.inl (some (.int (od (6 * p + c)))), (yM M a t co od, nx)) := by
  rw [w_Grid_get yM_5 yM_6 hc (by omega) (by omega) (by omega), tr_at (by omega), Nat.mul_comm]
theorem y_ogetm (hc : c < 6) : x_Grid_get [.ref (a + 5), .int (-1), .int (nI c)] (yM M a t co od, nx) = some (.inl (some (.int (nI 0))), (yM M a t co od, nx)) := w_Grid_get_m1 yM_5 hc (by omega)
theorem y_oput (hp : p < 8) (hc : c < 6) : x_Grid_put [.ref (a + 5), .int (nI p), .int (nI c), .int x] (yM M a t co od, nx) = some (.inl none, (yM M a t co (upd od (6 * p + c) x), nx)) := by
  rw [w_Grid_put yM_5 yM_6 hc (by omega) (by omega) (by omega), tr_upd (by omega), yM_s6, Nat.mul_comm]
theorem y_orow (hp : p < 8) (hq : q < 8) : x_Grid_copyRow [.ref (a + 5), .int (nI p), .int (nI q)] (yM M a t co od, nx) = some (.inl none, (yM M a t co (cpR 6 od p q), nx)) := by
  rw [w_Grid_copyRow yM_5 yM_6 (by omega) (by omega) (by omega), tr_cpy (by omega) (by omega), yM_s6, Nat.mul_comm p, Nat.mul_comm q]
  rfl
theorem y_hget (hk : k < 6) : x_Row_get [.ref (a + 3), .int (nI k)] (yM M a t co od, nx) = some (.inl (some (.int (nI (t (16 + k))))), (yM M a t co od, nx)) := by
  rw [w_Row_get yM_3 yM_4 hk (by omega), tr_at hk]
theorem y_hgetm : x_Row_get [.ref (a + 3), .int (-1)] (yM M a t co od, nx) = some (.inl (some (.int (nI 0))), (yM M a t co od, nx)) := w_Row_get_m1 yM_3
theorem y_hadd (hk : k < 6) : x_Row_add [.ref (a + 3), .int (nI k), .int (nI n)] (yM M a t co od, nx) = some (.inl none, (yM M a (updN t (16 + k) (t (16 + k) + n)) co od, nx)) := by
  rw [w_Row_add yM_3 yM_4 hk (by omega), tr_at hk, nI_add, yM_s4 hk]
theorem y_hdec (hk : k < 6) (h1 : 1 ≤ t (16 + k)) : x_Row_add [.ref (a + 3), .int (nI k), .int (-1)] (yM M a t co od, nx) = some (.inl none, (yM M a (updN t (16 + k) (t (16 + k) - 1)) co od, nx)) := by
  rw [w_Row_add yM_3 yM_4 hk (by omega), tr_at hk, zn_addm h1, yM_s4 hk]
theorem y_sget (hk : k < 4) : x_Row_get [.ref (a + 7), .int (nI k)] (yM M a t co od, nx) = some (.inl (some (.int (nI (t k)))), (yM M a t co od, nx)) := by
  rw [w_Row_get yM_7 yM_8 hk (by omega), tr_at hk]
theorem y_sput (hk : k < 4) : x_Row_put [.ref (a + 7), .int (nI k), .int (nI n)] (yM M a t co od, nx) = some (.inl none, (yM M a (updN t k n) co od, nx)) := by
  rw [w_Row_put yM_7 yM_8 hk (by omega), yM_s8 hk]
theorem y_tget (h4 : 4 ≤ k) (hk : k ≤ 12) : x_Row_get [.ref (a + 9), .int (nI k)] (yM M a t co od, nx) = some (.inl (some (.int (nI (t (k + 2))))), (yM M a t co od, nx)) := by
  rw [w_Row_get yM_9 yM_10 (by omega) (by omega), tr_at (by omega)]
  unfold taF
  rw [if_pos ⟨h4, hk⟩]
theorem y_tadd (h4 : 4 ≤ k) (hk : k ≤ 12) : x_Row_add [.ref (a + 9), .int (nI k), .int (nI n)] (yM M a t co od, nx) = some (.inl none, (yM M a (updN t (k + 2) (t (k + 2) + n)) co od, nx)) := by
  rw [w_Row_add yM_9 yM_10 (by omega) (by omega), tr_at (by omega)]
  have e : taF t k + nI n = nI (t (k + 2) + n) := by
    unfold taF
    rw [if_pos ⟨h4, hk⟩, nI_add]
  rw [e, yM_s10 h4 hk]
end
