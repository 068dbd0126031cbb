/-! ===== the law: both objects in one picture ===== -/
section
variable {M M' : Hp} {nx : Nat} {t u u2 ps tx tm : Nat → Nat} {co od c1 d1 bf : Nat → Int32} {td : Nat → Int32} {m fl hn hk kp ty th at' tl : Nat} {ft : Int32} {H : Nat → T3} {rd : List Value} {rc : Cfg} {q : Nat → Int64} {F : List Value} {E : Env} {r : List Instr} {L : List (Option Value)} {S : List Value} {T : Nat → Option (Nat × (Nat → Int32))}
/-- the law's own array -/
def oB (q : Nat → Int64) : Hp := fun i => if i = 104 then some (cJ 1 q) else none
theorem oB_104 : oB q 104 = some (cJ 1 q) := rfl
theorem oB_ne {i : Nat} (h : i ≠ 104) : oB q i = none := if_neg h
theorem hst_pt {i : Nat} (h : M i = M' i) : hst M H i = hst M' H i := by
  unfold hst
  by_cases e : 29 ≤ i ∧ i < 95
  · rw [if_pos e, if_pos e]
    exact yM_pt h
  · rw [if_neg e, if_neg e, h]
theorem cB_pt {i : Nat} (h : M i = M' i) : cB M fl hn hk H bf rd i = cB M' fl hn hk H bf rd i := by
  unfold cB
  rw [hst_pt h]
theorem cW_pt {i : Nat} (h : M i = M' i) : cW M fl hn hk H bf rd u c1 d1 t co od i = cW M' fl hn hk H bf rd u c1 d1 t co od i := yM_pt (yM_pt (cB_pt h))
theorem cW_hi {i : Nat} (h : i < 4 ∨ 97 < i) : cW M fl hn hk H bf rd u c1 d1 t co od i = M i := by
  show yM (yM (cB M fl hn hk H bf rd) 16 u c1 d1) 5 t co od i = M i
  rw [yM_ne (by omega), yM_ne (by omega)]
  unfold cB
  rw [if_neg (by omega), if_neg (by omega), if_neg (by omega), if_neg (by omega), if_neg (by omega), if_neg (by omega)]
  unfold hst
  rw [if_neg (by omega)]
theorem cW_in {i : Nat} (h1 : 4 ≤ i) (h2 : i ≤ 97) : cW M fl hn hk H bf rd u c1 d1 t co od i = cW M' fl hn hk H bf rd u c1 d1 t co od i := by
  by_cases e5 : 5 ≤ i ∧ i ≤ 15
  · exact yM_in e5.1 e5.2
  · show yM (yM (cB M fl hn hk H bf rd) 16 u c1 d1) 5 t co od i = yM (yM (cB M' fl hn hk H bf rd) 16 u c1 d1) 5 t co od i
    rw [yM_ne (by omega), yM_ne (a := 5) (by omega)]
    by_cases e6 : 16 ≤ i ∧ i ≤ 26
    · exact yM_in e6.1 e6.2
    · rw [yM_ne (by omega), yM_ne (a := 16) (by omega)]
      by_cases e7 : 29 ≤ i ∧ i < 95
      · rw [hst_at (i := (i - 29) / 11) (by omega) (by omega) (by omega), hst_at (M := M') (i := (i - 29) / 11) (by omega) (by omega) (by omega)]
        exact yM_in (by omega) (by omega)
      · have : i = 4 ∨ i = 27 ∨ i = 28 ∨ i = 95 ∨ i = 96 ∨ i = 97 := by omega
        rcases this with rfl | rfl | rfl | rfl | rfl | rfl <;> rfl
theorem mM_in {i : Nat} (h1 : 98 ≤ i) (h2 : i ≤ 103) : mM M F tm u2 ps tx td i = mM M' F tm u2 ps tx td i := by
  have : i = 98 ∨ i = 99 ∨ i = 100 ∨ i = 101 ∨ i = 102 ∨ i = 103 := by omega
  rcases this with rfl | rfl | rfl | rfl | rfl | rfl <;> rfl
/-- the objects don't touch one another -/
theorem j_swap : cW (mM M F tm u2 ps tx td) fl hn hk H bf rd u c1 d1 t co od = mM (cW M fl hn hk H bf rd u c1 d1 t co od) F tm u2 ps tx td := by
  funext i
  by_cases e : 4 ≤ i ∧ i ≤ 97
  · rw [mM_ne (by omega)]
    exact cW_in e.1 e.2
  · rw [cW_hi (by omega)]
    by_cases e2 : 98 ≤ i ∧ i ≤ 103
    · exact mM_in e2.1 e2.2
    · rw [mM_ne (by omega), mM_ne (by omega), cW_hi (by omega)]
/-- a method of the reference, beside the component -/
theorem n_J {F' : List Value} {tm' u2' ps' tx' : Nat → Nat} {td' : Nat → Int32} {o : Out} {f : G → Option (Out × G)} (h : ∀ M, f (mM M F tm u2 ps tx td, nx) = some (o, (mM M F' tm' u2' ps' tx' td', nx))) : f (cW (mM M F tm u2 ps tx td) fl hn hk H bf rd u c1 d1 t co od, nx) = some (o, (cW (mM M F' tm' u2' ps' tx' td') fl hn hk H bf rd u c1 d1 t co od, nx)) := by
  rw [j_swap, h, j_swap]
theorem j_lo {i : Nat} (h : i < 4) : cW (mM (oB q) F tm u2 ps tx td) fl hn hk H bf rd u c1 d1 t co od i = none := by
  rw [cW_hi (by omega), mM_ne (by omega), oB_ne (by omega)]
theorem m_lo {i : Nat} (h : i < 4) : mM (oB q) F tm u2 ps tx td i = none := by
  rw [mM_ne (by omega), oB_ne (by omega)]
theorem j_104 : cW (mM (oB q) F tm u2 ps tx td) fl hn hk H bf rd u c1 d1 t co od 104 = some (cJ 1 q) := by
  rw [cW_hi (by omega), mM_ne (by omega), oB_104]
theorem j_s104 {q' : Nat → Int64} : zup (cW (mM (oB q) F tm u2 ps tx td) fl hn hk H bf rd u c1 d1 t co od) 104 (cJ 1 q') = cW (mM (oB q') F tm u2 ps tx td) fl hn hk H bf rd u c1 d1 t co od := by
  funext i
  by_cases e : i = 104
  · rw [e, zup_eq, j_104]
  · rw [zup_ne e]
    refine cW_pt ?_
    by_cases e2 : 98 ≤ i ∧ i ≤ 103
    · exact mM_in e2.1 e2.2
    · rw [mM_ne (by omega), mM_ne (by omega), oB_ne e, oB_ne e]
/-! calls that catch -/
theorem xw_ok {n nn : Nat} {pre : List Instr} {f : Ex} {hs : List Hd} {vs us : List Value} {Z Z' : Hp} {v : Int32} (hlen : (zsl vs).length ≤ n ∧ zc1 vs = true) (hr : runI zE0 pre (zpad n (zsl vs), [], (Z, 0)) = some (L, S, (Z, 0))) (hp : popN nn [] S = some (us, [.int (nI 0), .ref 104])) (h : f us (Z, 0) = some (.inl (some (.int v)), (Z', 0))) (ho : Z' 104 = some (cJ 1 q)) : xwrap zE0 n pre nn f hs vs (Z, 0) = some (.inl (some (.int (nI 0))), (zup Z' 104 (cJ 1 (vp_updL q 0 v.toInt64)), 0)) := by
  have e : runI zE0 [.i2l, .lastore] (L, [.int v, .int (nI 0), .ref 104], (Z', 0)) = some (L, [], (zup Z' 104 (cJ 1 (vp_updL q 0 v.toInt64)), 0)) := by
    simp only [runI, xI, ho]
    rfl
  unfold xwrap
  rw [if_pos hlen, hr]
  dsimp only
  rw [hp]
  dsimp only
  rw [h]
  dsimp only
  rw [e]
  rfl
theorem xw_thr {n nn : Nat} {pre : List Instr} {f : Ex} {hs : List Hd} {vs us : List Value} {Z Z' : Hp} {X : String} {k : Int} (hlen : (zsl vs).length ≤ n ∧ zc1 vs = true) (hr : runI zE0 pre (zpad n (zsl vs), [], (Z, 0)) = some (L, S, (Z, 0))) (hp : popN nn [] S = some (us, [.int (nI 0), .ref 104])) (h : f us (Z, 0) = some (.inr X, (Z', 0))) (hk : lookH X hs = some k) : xwrap zE0 n pre nn f hs vs (Z, 0) = some (.inl (some (.int (Int32.ofInt k))), (Z', 0)) := by
  unfold xwrap
  rw [if_pos hlen, hr]
  dsimp only
  rw [hp]
  dsimp only
  rw [h]
  dsimp only
  rw [hk]

theorem w_receive_ok {v1 v2 v3 v4 : Int32} {v : Int32} {Z : Hp} (h : x_Slit_receive [.ref 4, .int v1, .int v2, .int v3, .int v4] (Z, 0) = some (.inl (some (.int v)), (cW (mM (oB q) F tm u2 ps tx td) fl hn hk H bf rd u c1 d1 t co od, 0))) : x_Law_receive [.ref 4, .int v1, .int v2, .int v3, .int v4, .ref 104] (Z, 0) = some (.inl (some (.int (nI 0))), (cW (mM (oB (vp_updL q 0 v.toInt64)) F tm u2 ps tx td) fl hn hk H bf rd u c1 d1 t co od, 0)) := by
  rw [← j_s104]
  exact xw_ok ⟨Nat.le_of_ble_eq_true rfl, rfl⟩ rfl rfl h j_104
theorem w_receive_1 {v1 v2 v3 v4 : Int32} {Z Z' : Hp} (h : x_Slit_receive [.ref 4, .int v1, .int v2, .int v3, .int v4] (Z, 0) = some (.inr xIdx, (Z', 0))) : x_Law_receive [.ref 4, .int v1, .int v2, .int v3, .int v4, .ref 104] (Z, 0) = some (.inl (some (.int (nI 1))), (Z', 0)) :=
  xw_thr (k := 1) ⟨Nat.le_of_ble_eq_true rfl, rfl⟩ rfl rfl h (by decide)
theorem w_receive_2 {v1 v2 v3 v4 : Int32} {Z Z' : Hp} (h : x_Slit_receive [.ref 4, .int v1, .int v2, .int v3, .int v4] (Z, 0) = some (.inr xArg, (Z', 0))) : x_Law_receive [.ref 4, .int v1, .int v2, .int v3, .int v4, .ref 104] (Z, 0) = some (.inl (some (.int (nI 2))), (Z', 0)) :=
  xw_thr (k := 2) ⟨Nat.le_of_ble_eq_true rfl, rfl⟩ rfl rfl h (by decide)
theorem w_receive_3 {v1 v2 v3 v4 : Int32} {Z Z' : Hp} (h : x_Slit_receive [.ref 4, .int v1, .int v2, .int v3, .int v4] (Z, 0) = some (.inr xSta, (Z', 0))) : x_Law_receive [.ref 4, .int v1, .int v2, .int v3, .int v4, .ref 104] (Z, 0) = some (.inl (some (.int (nI 3))), (Z', 0)) :=
  xw_thr (k := 3) ⟨Nat.le_of_ble_eq_true rfl, rfl⟩ rfl rfl h (by decide)
theorem w_move_ok {v1 v2 : Int32} {v : Int32} {Z : Hp} (h : x_Slit_move [.ref 4, .int v1, .int v2] (Z, 0) = some (.inl (some (.int v)), (cW (mM (oB q) F tm u2 ps tx td) fl hn hk H bf rd u c1 d1 t co od, 0))) : x_Law_move [.ref 4, .int v1, .int v2, .ref 104] (Z, 0) = some (.inl (some (.int (nI 0))), (cW (mM (oB (vp_updL q 0 v.toInt64)) F tm u2 ps tx td) fl hn hk H bf rd u c1 d1 t co od, 0)) := by
  rw [← j_s104]
  exact xw_ok ⟨Nat.le_of_ble_eq_true rfl, rfl⟩ rfl rfl h j_104
theorem w_move_1 {v1 v2 : Int32} {Z Z' : Hp} (h : x_Slit_move [.ref 4, .int v1, .int v2] (Z, 0) = some (.inr xIdx, (Z', 0))) : x_Law_move [.ref 4, .int v1, .int v2, .ref 104] (Z, 0) = some (.inl (some (.int (nI 1))), (Z', 0)) :=
  xw_thr (k := 1) ⟨Nat.le_of_ble_eq_true rfl, rfl⟩ rfl rfl h (by decide)
theorem w_move_2 {v1 v2 : Int32} {Z Z' : Hp} (h : x_Slit_move [.ref 4, .int v1, .int v2] (Z, 0) = some (.inr xArg, (Z', 0))) : x_Law_move [.ref 4, .int v1, .int v2, .ref 104] (Z, 0) = some (.inl (some (.int (nI 2))), (Z', 0)) :=
  xw_thr (k := 2) ⟨Nat.le_of_ble_eq_true rfl, rfl⟩ rfl rfl h (by decide)
theorem w_move_3 {v1 v2 : Int32} {Z Z' : Hp} (h : x_Slit_move [.ref 4, .int v1, .int v2] (Z, 0) = some (.inr xSta, (Z', 0))) : x_Law_move [.ref 4, .int v1, .int v2, .ref 104] (Z, 0) = some (.inl (some (.int (nI 3))), (Z', 0)) :=
  xw_thr (k := 3) ⟨Nat.le_of_ble_eq_true rfl, rfl⟩ rfl rfl h (by decide)
theorem w_dig_ok {v1 : Int32} {v : Int32} {Z : Hp} (h : x_Slit_dig [.ref 4, .int v1] (Z, 0) = some (.inl (some (.int v)), (cW (mM (oB q) F tm u2 ps tx td) fl hn hk H bf rd u c1 d1 t co od, 0))) : x_Law_dig [.ref 4, .int v1, .ref 104] (Z, 0) = some (.inl (some (.int (nI 0))), (cW (mM (oB (vp_updL q 0 v.toInt64)) F tm u2 ps tx td) fl hn hk H bf rd u c1 d1 t co od, 0)) := by
  rw [← j_s104]
  exact xw_ok ⟨Nat.le_of_ble_eq_true rfl, rfl⟩ rfl rfl h j_104
theorem w_dig_1 {v1 : Int32} {Z Z' : Hp} (h : x_Slit_dig [.ref 4, .int v1] (Z, 0) = some (.inr xIdx, (Z', 0))) : x_Law_dig [.ref 4, .int v1, .ref 104] (Z, 0) = some (.inl (some (.int (nI 1))), (Z', 0)) :=
  xw_thr (k := 1) ⟨Nat.le_of_ble_eq_true rfl, rfl⟩ rfl rfl h (by decide)
theorem w_dig_2 {v1 : Int32} {Z Z' : Hp} (h : x_Slit_dig [.ref 4, .int v1] (Z, 0) = some (.inr xSta, (Z', 0))) : x_Law_dig [.ref 4, .int v1, .ref 104] (Z, 0) = some (.inl (some (.int (nI 2))), (Z', 0)) :=
  xw_thr (k := 2) ⟨Nat.le_of_ble_eq_true rfl, rfl⟩ rfl rfl h (by decide)
theorem w_sendAway_ok {v1 : Int32} {v : Int32} {Z : Hp} (h : x_Slit_sendAway [.ref 4, .int v1] (Z, 0) = some (.inl (some (.int v)), (cW (mM (oB q) F tm u2 ps tx td) fl hn hk H bf rd u c1 d1 t co od, 0))) : x_Law_sendAway [.ref 4, .int v1, .ref 104] (Z, 0) = some (.inl (some (.int (nI 0))), (cW (mM (oB (vp_updL q 0 v.toInt64)) F tm u2 ps tx td) fl hn hk H bf rd u c1 d1 t co od, 0)) := by
  rw [← j_s104]
  exact xw_ok ⟨Nat.le_of_ble_eq_true rfl, rfl⟩ rfl rfl h j_104
theorem w_sendAway_1 {v1 : Int32} {Z Z' : Hp} (h : x_Slit_sendAway [.ref 4, .int v1] (Z, 0) = some (.inr xIdx, (Z', 0))) : x_Law_sendAway [.ref 4, .int v1, .ref 104] (Z, 0) = some (.inl (some (.int (nI 1))), (Z', 0)) :=
  xw_thr (k := 1) ⟨Nat.le_of_ble_eq_true rfl, rfl⟩ rfl rfl h (by decide)
theorem w_sendAway_2 {v1 : Int32} {Z Z' : Hp} (h : x_Slit_sendAway [.ref 4, .int v1] (Z, 0) = some (.inr xSta, (Z', 0))) : x_Law_sendAway [.ref 4, .int v1, .ref 104] (Z, 0) = some (.inl (some (.int (nI 2))), (Z', 0)) :=
  xw_thr (k := 2) ⟨Nat.le_of_ble_eq_true rfl, rfl⟩ rfl rfl h (by decide)
theorem w_order_ok {v1 v2 v3 v4 v5 : Int32} {v : Int32} {Z : Hp} (h : x_Slit_order [.ref 4, .int v1, .int v2, .int v3, .int v4, .int v5] (Z, 0) = some (.inl (some (.int v)), (cW (mM (oB q) F tm u2 ps tx td) fl hn hk H bf rd u c1 d1 t co od, 0))) : x_Law_order [.ref 4, .int v1, .int v2, .int v3, .int v4, .int v5, .ref 104] (Z, 0) = some (.inl (some (.int (nI 0))), (cW (mM (oB (vp_updL q 0 v.toInt64)) F tm u2 ps tx td) fl hn hk H bf rd u c1 d1 t co od, 0)) := by
  rw [← j_s104]
  exact xw_ok ⟨Nat.le_of_ble_eq_true rfl, rfl⟩ rfl rfl h j_104
theorem w_order_1 {v1 v2 v3 v4 v5 : Int32} {Z Z' : Hp} (h : x_Slit_order [.ref 4, .int v1, .int v2, .int v3, .int v4, .int v5] (Z, 0) = some (.inr xArg, (Z', 0))) : x_Law_order [.ref 4, .int v1, .int v2, .int v3, .int v4, .int v5, .ref 104] (Z, 0) = some (.inl (some (.int (nI 1))), (Z', 0)) :=
  xw_thr (k := 1) ⟨Nat.le_of_ble_eq_true rfl, rfl⟩ rfl rfl h (by decide)
theorem w_order_2 {v1 v2 v3 v4 v5 : Int32} {Z Z' : Hp} (h : x_Slit_order [.ref 4, .int v1, .int v2, .int v3, .int v4, .int v5] (Z, 0) = some (.inr xSta, (Z', 0))) : x_Law_order [.ref 4, .int v1, .int v2, .int v3, .int v4, .int v5, .ref 104] (Z, 0) = some (.inl (some (.int (nI 2))), (Z', 0)) :=
  xw_thr (k := 2) ⟨Nat.le_of_ble_eq_true rfl, rfl⟩ rfl rfl h (by decide)
theorem w_cancel_ok {v1 : Int32} {v : Int32} {Z : Hp} (h : x_Slit_cancel [.ref 4, .int v1] (Z, 0) = some (.inl (some (.int v)), (cW (mM (oB q) F tm u2 ps tx td) fl hn hk H bf rd u c1 d1 t co od, 0))) : x_Law_cancel [.ref 4, .int v1, .ref 104] (Z, 0) = some (.inl (some (.int (nI 0))), (cW (mM (oB (vp_updL q 0 v.toInt64)) F tm u2 ps tx td) fl hn hk H bf rd u c1 d1 t co od, 0)) := by
  rw [← j_s104]
  exact xw_ok ⟨Nat.le_of_ble_eq_true rfl, rfl⟩ rfl rfl h j_104
theorem w_cancel_1 {v1 : Int32} {Z Z' : Hp} (h : x_Slit_cancel [.ref 4, .int v1] (Z, 0) = some (.inr xIdx, (Z', 0))) : x_Law_cancel [.ref 4, .int v1, .ref 104] (Z, 0) = some (.inl (some (.int (nI 1))), (Z', 0)) :=
  xw_thr (k := 1) ⟨Nat.le_of_ble_eq_true rfl, rfl⟩ rfl rfl h (by decide)
theorem w_slit_ok {v1 v2 : Int32} {v : Int32} {Z : Hp} (h : x_Slit_slit [.ref 4, .int v1, .int v2] (Z, 0) = some (.inl (some (.int v)), (cW (mM (oB q) F tm u2 ps tx td) fl hn hk H bf rd u c1 d1 t co od, 0))) : x_Law_slit [.ref 4, .int v1, .int v2, .ref 104] (Z, 0) = some (.inl (some (.int (nI 0))), (cW (mM (oB (vp_updL q 0 v.toInt64)) F tm u2 ps tx td) fl hn hk H bf rd u c1 d1 t co od, 0)) := by
  rw [← j_s104]
  exact xw_ok ⟨Nat.le_of_ble_eq_true rfl, rfl⟩ rfl rfl h j_104
theorem w_slit_1 {v1 v2 : Int32} {Z Z' : Hp} (h : x_Slit_slit [.ref 4, .int v1, .int v2] (Z, 0) = some (.inr xIdx, (Z', 0))) : x_Law_slit [.ref 4, .int v1, .int v2, .ref 104] (Z, 0) = some (.inl (some (.int (nI 1))), (Z', 0)) :=
  xw_thr (k := 1) ⟨Nat.le_of_ble_eq_true rfl, rfl⟩ rfl rfl h (by decide)
theorem w_slit_2 {v1 v2 : Int32} {Z Z' : Hp} (h : x_Slit_slit [.ref 4, .int v1, .int v2] (Z, 0) = some (.inr xSta, (Z', 0))) : x_Law_slit [.ref 4, .int v1, .int v2, .ref 104] (Z, 0) = some (.inl (some (.int (nI 2))), (Z', 0)) :=
  xw_thr (k := 2) ⟨Nat.le_of_ble_eq_true rfl, rfl⟩ rfl rfl h (by decide)
theorem w_serve_ok {v1 : Int32} {v : Int32} {Z : Hp} (h : x_Slit_serve [.ref 4, .int v1] (Z, 0) = some (.inl (some (.int v)), (cW (mM (oB q) F tm u2 ps tx td) fl hn hk H bf rd u c1 d1 t co od, 0))) : x_Law_serve [.ref 4, .int v1, .ref 104] (Z, 0) = some (.inl (some (.int (nI 0))), (cW (mM (oB (vp_updL q 0 v.toInt64)) F tm u2 ps tx td) fl hn hk H bf rd u c1 d1 t co od, 0)) := by
  rw [← j_s104]
  exact xw_ok ⟨Nat.le_of_ble_eq_true rfl, rfl⟩ rfl rfl h j_104
theorem w_serve_1 {v1 : Int32} {Z Z' : Hp} (h : x_Slit_serve [.ref 4, .int v1] (Z, 0) = some (.inr xIdx, (Z', 0))) : x_Law_serve [.ref 4, .int v1, .ref 104] (Z, 0) = some (.inl (some (.int (nI 1))), (Z', 0)) :=
  xw_thr (k := 1) ⟨Nat.le_of_ble_eq_true rfl, rfl⟩ rfl rfl h (by decide)
theorem w_set_ok {v1 v2 : Int32} {v : Int32} {Z : Hp} (h : x_Slit_set [.ref 4, .int v1, .int v2] (Z, 0) = some (.inl (some (.int v)), (cW (mM (oB q) F tm u2 ps tx td) fl hn hk H bf rd u c1 d1 t co od, 0))) : x_Law_set [.ref 4, .int v1, .int v2, .ref 104] (Z, 0) = some (.inl (some (.int (nI 0))), (cW (mM (oB (vp_updL q 0 v.toInt64)) F tm u2 ps tx td) fl hn hk H bf rd u c1 d1 t co od, 0)) := by
  rw [← j_s104]
  exact xw_ok ⟨Nat.le_of_ble_eq_true rfl, rfl⟩ rfl rfl h j_104
theorem w_set_1 {v1 v2 : Int32} {Z Z' : Hp} (h : x_Slit_set [.ref 4, .int v1, .int v2] (Z, 0) = some (.inr xIdx, (Z', 0))) : x_Law_set [.ref 4, .int v1, .int v2, .ref 104] (Z, 0) = some (.inl (some (.int (nI 1))), (Z', 0)) :=
  xw_thr (k := 1) ⟨Nat.le_of_ble_eq_true rfl, rfl⟩ rfl rfl h (by decide)
theorem w_set_2 {v1 v2 : Int32} {Z Z' : Hp} (h : x_Slit_set [.ref 4, .int v1, .int v2] (Z, 0) = some (.inr xArg, (Z', 0))) : x_Law_set [.ref 4, .int v1, .int v2, .ref 104] (Z, 0) = some (.inl (some (.int (nI 2))), (Z', 0)) :=
  xw_thr (k := 2) ⟨Nat.le_of_ble_eq_true rfl, rfl⟩ rfl rfl h (by decide)
theorem w_append_ok {v1 : Int32} {v : Int32} {Z : Hp} (h : x_Slit_append [.ref 4, .int v1] (Z, 0) = some (.inl (some (.int v)), (cW (mM (oB q) F tm u2 ps tx td) fl hn hk H bf rd u c1 d1 t co od, 0))) : x_Law_append [.ref 4, .int v1, .ref 104] (Z, 0) = some (.inl (some (.int (nI 0))), (cW (mM (oB (vp_updL q 0 v.toInt64)) F tm u2 ps tx td) fl hn hk H bf rd u c1 d1 t co od, 0)) := by
  rw [← j_s104]
  exact xw_ok ⟨Nat.le_of_ble_eq_true rfl, rfl⟩ rfl rfl h j_104
theorem w_append_1 {v1 : Int32} {Z Z' : Hp} (h : x_Slit_append [.ref 4, .int v1] (Z, 0) = some (.inr xArg, (Z', 0))) : x_Law_append [.ref 4, .int v1, .ref 104] (Z, 0) = some (.inl (some (.int (nI 1))), (Z', 0)) :=
  xw_thr (k := 1) ⟨Nat.le_of_ble_eq_true rfl, rfl⟩ rfl rfl h (by decide)
theorem w_append_2 {v1 : Int32} {Z Z' : Hp} (h : x_Slit_append [.ref 4, .int v1] (Z, 0) = some (.inr xSta, (Z', 0))) : x_Law_append [.ref 4, .int v1, .ref 104] (Z, 0) = some (.inl (some (.int (nI 2))), (Z', 0)) :=
  xw_thr (k := 2) ⟨Nat.le_of_ble_eq_true rfl, rfl⟩ rfl rfl h (by decide)
theorem w_receiveAll_ok {v : Int32} {Z : Hp} (h : x_Slit_receiveAll [.ref 4] (Z, 0) = some (.inl (some (.int v)), (cW (mM (oB q) F tm u2 ps tx td) fl hn hk H bf rd u c1 d1 t co od, 0))) : x_Law_receiveAll [.ref 4, .ref 104] (Z, 0) = some (.inl (some (.int (nI 0))), (cW (mM (oB (vp_updL q 0 v.toInt64)) F tm u2 ps tx td) fl hn hk H bf rd u c1 d1 t co od, 0)) := by
  rw [← j_s104]
  exact xw_ok ⟨Nat.le_of_ble_eq_true rfl, rfl⟩ rfl rfl h j_104
theorem w_receiveAll_1 {Z Z' : Hp} (h : x_Slit_receiveAll [.ref 4] (Z, 0) = some (.inr xArg, (Z', 0))) : x_Law_receiveAll [.ref 4, .ref 104] (Z, 0) = some (.inl (some (.int (nI 1))), (Z', 0)) :=
  xw_thr (k := 1) ⟨Nat.le_of_ble_eq_true rfl, rfl⟩ rfl rfl h (by decide)
theorem w_undo_ok {v : Int32} {Z : Hp} (h : x_Slit_undo [.ref 4] (Z, 0) = some (.inl (some (.int v)), (cW (mM (oB q) F tm u2 ps tx td) fl hn hk H bf rd u c1 d1 t co od, 0))) : x_Law_undo [.ref 4, .ref 104] (Z, 0) = some (.inl (some (.int (nI 0))), (cW (mM (oB (vp_updL q 0 v.toInt64)) F tm u2 ps tx td) fl hn hk H bf rd u c1 d1 t co od, 0)) := by
  rw [← j_s104]
  exact xw_ok ⟨Nat.le_of_ble_eq_true rfl, rfl⟩ rfl rfl h j_104
theorem w_undo_1 {Z Z' : Hp} (h : x_Slit_undo [.ref 4] (Z, 0) = some (.inr xSta, (Z', 0))) : x_Law_undo [.ref 4, .ref 104] (Z, 0) = some (.inl (some (.int (nI 1))), (Z', 0)) :=
  xw_thr (k := 1) ⟨Nat.le_of_ble_eq_true rfl, rfl⟩ rfl rfl h (by decide)
theorem w_at_ok {v1 v2 : Int32} {v : Int32} {Z : Hp} (h : x_Slit_at [.ref 4, .int v1, .int v2] (Z, 0) = some (.inl (some (.int v)), (cW (mM (oB q) F tm u2 ps tx td) fl hn hk H bf rd u c1 d1 t co od, 0))) : x_Law_at [.ref 4, .int v1, .int v2, .ref 104] (Z, 0) = some (.inl (some (.int (nI 0))), (cW (mM (oB (vp_updL q 0 v.toInt64)) F tm u2 ps tx td) fl hn hk H bf rd u c1 d1 t co od, 0)) := by
  rw [← j_s104]
  exact xw_ok ⟨Nat.le_of_ble_eq_true rfl, rfl⟩ rfl rfl h j_104
theorem w_at_1 {v1 v2 : Int32} {Z Z' : Hp} (h : x_Slit_at [.ref 4, .int v1, .int v2] (Z, 0) = some (.inr xIdx, (Z', 0))) : x_Law_at [.ref 4, .int v1, .int v2, .ref 104] (Z, 0) = some (.inl (some (.int (nI 1))), (Z', 0)) :=
  xw_thr (k := 1) ⟨Nat.le_of_ble_eq_true rfl, rfl⟩ rfl rfl h (by decide)
theorem w_at_2 {v1 v2 : Int32} {Z Z' : Hp} (h : x_Slit_at [.ref 4, .int v1, .int v2] (Z, 0) = some (.inr xArg, (Z', 0))) : x_Law_at [.ref 4, .int v1, .int v2, .ref 104] (Z, 0) = some (.inl (some (.int (nI 2))), (Z', 0)) :=
  xw_thr (k := 2) ⟨Nat.le_of_ble_eq_true rfl, rfl⟩ rfl rfl h (by decide)
theorem w_coil_ok {v1 v2 : Int32} {v : Int32} {Z : Hp} (h : x_Slit_coil [.ref 4, .int v1, .int v2] (Z, 0) = some (.inl (some (.int v)), (cW (mM (oB q) F tm u2 ps tx td) fl hn hk H bf rd u c1 d1 t co od, 0))) : x_Law_coil [.ref 4, .int v1, .int v2, .ref 104] (Z, 0) = some (.inl (some (.int (nI 0))), (cW (mM (oB (vp_updL q 0 v.toInt64)) F tm u2 ps tx td) fl hn hk H bf rd u c1 d1 t co od, 0)) := by
  rw [← j_s104]
  exact xw_ok ⟨Nat.le_of_ble_eq_true rfl, rfl⟩ rfl rfl h j_104
theorem w_coil_1 {v1 v2 : Int32} {Z Z' : Hp} (h : x_Slit_coil [.ref 4, .int v1, .int v2] (Z, 0) = some (.inr xIdx, (Z', 0))) : x_Law_coil [.ref 4, .int v1, .int v2, .ref 104] (Z, 0) = some (.inl (some (.int (nI 1))), (Z', 0)) :=
  xw_thr (k := 1) ⟨Nat.le_of_ble_eq_true rfl, rfl⟩ rfl rfl h (by decide)
theorem w_coil_2 {v1 v2 : Int32} {Z Z' : Hp} (h : x_Slit_coil [.ref 4, .int v1, .int v2] (Z, 0) = some (.inr xArg, (Z', 0))) : x_Law_coil [.ref 4, .int v1, .int v2, .ref 104] (Z, 0) = some (.inl (some (.int (nI 2))), (Z', 0)) :=
  xw_thr (k := 2) ⟨Nat.le_of_ble_eq_true rfl, rfl⟩ rfl rfl h (by decide)
theorem w_orderOf_ok {v1 v2 : Int32} {v : Int32} {Z : Hp} (h : x_Slit_orderOf [.ref 4, .int v1, .int v2] (Z, 0) = some (.inl (some (.int v)), (cW (mM (oB q) F tm u2 ps tx td) fl hn hk H bf rd u c1 d1 t co od, 0))) : x_Law_orderOf [.ref 4, .int v1, .int v2, .ref 104] (Z, 0) = some (.inl (some (.int (nI 0))), (cW (mM (oB (vp_updL q 0 v.toInt64)) F tm u2 ps tx td) fl hn hk H bf rd u c1 d1 t co od, 0)) := by
  rw [← j_s104]
  exact xw_ok ⟨Nat.le_of_ble_eq_true rfl, rfl⟩ rfl rfl h j_104
theorem w_orderOf_1 {v1 v2 : Int32} {Z Z' : Hp} (h : x_Slit_orderOf [.ref 4, .int v1, .int v2] (Z, 0) = some (.inr xArg, (Z', 0))) : x_Law_orderOf [.ref 4, .int v1, .int v2, .ref 104] (Z, 0) = some (.inl (some (.int (nI 1))), (Z', 0)) :=
  xw_thr (k := 1) ⟨Nat.le_of_ble_eq_true rfl, rfl⟩ rfl rfl h (by decide)
theorem w_whyNot_ok {v1 v2 : Int32} {v : Int32} {Z : Hp} (h : x_Slit_whyNot [.ref 4, .int v1, .int v2] (Z, 0) = some (.inl (some (.int v)), (cW (mM (oB q) F tm u2 ps tx td) fl hn hk H bf rd u c1 d1 t co od, 0))) : x_Law_whyNot [.ref 4, .int v1, .int v2, .ref 104] (Z, 0) = some (.inl (some (.int (nI 0))), (cW (mM (oB (vp_updL q 0 v.toInt64)) F tm u2 ps tx td) fl hn hk H bf rd u c1 d1 t co od, 0)) := by
  rw [← j_s104]
  exact xw_ok ⟨Nat.le_of_ble_eq_true rfl, rfl⟩ rfl rfl h j_104
theorem w_whyNot_1 {v1 v2 : Int32} {Z Z' : Hp} (h : x_Slit_whyNot [.ref 4, .int v1, .int v2] (Z, 0) = some (.inr xIdx, (Z', 0))) : x_Law_whyNot [.ref 4, .int v1, .int v2, .ref 104] (Z, 0) = some (.inl (some (.int (nI 1))), (Z', 0)) :=
  xw_thr (k := 1) ⟨Nat.le_of_ble_eq_true rfl, rfl⟩ rfl rfl h (by decide)
theorem w_count_ok {v1 : Int32} {v : Int32} {Z : Hp} (h : x_Slit_count [.ref 4, .int v1] (Z, 0) = some (.inl (some (.int v)), (cW (mM (oB q) F tm u2 ps tx td) fl hn hk H bf rd u c1 d1 t co od, 0))) : x_Law_count [.ref 4, .int v1, .ref 104] (Z, 0) = some (.inl (some (.int (nI 0))), (cW (mM (oB (vp_updL q 0 v.toInt64)) F tm u2 ps tx td) fl hn hk H bf rd u c1 d1 t co od, 0)) := by
  rw [← j_s104]
  exact xw_ok ⟨Nat.le_of_ble_eq_true rfl, rfl⟩ rfl rfl h j_104
theorem w_count_1 {v1 : Int32} {Z Z' : Hp} (h : x_Slit_count [.ref 4, .int v1] (Z, 0) = some (.inr xArg, (Z', 0))) : x_Law_count [.ref 4, .int v1, .ref 104] (Z, 0) = some (.inl (some (.int (nI 1))), (Z', 0)) :=
  xw_thr (k := 1) ⟨Nat.le_of_ble_eq_true rfl, rfl⟩ rfl rfl h (by decide)
theorem w_setting_ok {v1 : Int32} {v : Int32} {Z : Hp} (h : x_Slit_setting [.ref 4, .int v1] (Z, 0) = some (.inl (some (.int v)), (cW (mM (oB q) F tm u2 ps tx td) fl hn hk H bf rd u c1 d1 t co od, 0))) : x_Law_setting [.ref 4, .int v1, .ref 104] (Z, 0) = some (.inl (some (.int (nI 0))), (cW (mM (oB (vp_updL q 0 v.toInt64)) F tm u2 ps tx td) fl hn hk H bf rd u c1 d1 t co od, 0)) := by
  rw [← j_s104]
  exact xw_ok ⟨Nat.le_of_ble_eq_true rfl, rfl⟩ rfl rfl h j_104
theorem w_setting_1 {v1 : Int32} {Z Z' : Hp} (h : x_Slit_setting [.ref 4, .int v1] (Z, 0) = some (.inr xIdx, (Z', 0))) : x_Law_setting [.ref 4, .int v1, .ref 104] (Z, 0) = some (.inl (some (.int (nI 1))), (Z', 0)) :=
  xw_thr (k := 1) ⟨Nat.le_of_ble_eq_true rfl, rfl⟩ rfl rfl h (by decide)
theorem w_choice_ok {v1 : Int32} {v : Int32} {Z : Hp} (h : x_Slit_choice [.ref 4, .int v1] (Z, 0) = some (.inl (some (.int v)), (cW (mM (oB q) F tm u2 ps tx td) fl hn hk H bf rd u c1 d1 t co od, 0))) : x_Law_choice [.ref 4, .int v1, .ref 104] (Z, 0) = some (.inl (some (.int (nI 0))), (cW (mM (oB (vp_updL q 0 v.toInt64)) F tm u2 ps tx td) fl hn hk H bf rd u c1 d1 t co od, 0)) := by
  rw [← j_s104]
  exact xw_ok ⟨Nat.le_of_ble_eq_true rfl, rfl⟩ rfl rfl h j_104
theorem w_choice_1 {v1 : Int32} {Z Z' : Hp} (h : x_Slit_choice [.ref 4, .int v1] (Z, 0) = some (.inr xIdx, (Z', 0))) : x_Law_choice [.ref 4, .int v1, .ref 104] (Z, 0) = some (.inl (some (.int (nI 1))), (Z', 0)) :=
  xw_thr (k := 1) ⟨Nat.le_of_ble_eq_true rfl, rfl⟩ rfl rfl h (by decide)
theorem w_ifServed_ok {v1 v2 v3 : Int32} {v : Int32} {Z : Hp} (h : x_Slit_ifServed [.ref 4, .int v1, .int v2, .int v3] (Z, 0) = some (.inl (some (.int v)), (cW (mM (oB q) F tm u2 ps tx td) fl hn hk H bf rd u c1 d1 t co od, 0))) : x_Law_ifServed [.ref 4, .int v1, .int v2, .int v3, .ref 104] (Z, 0) = some (.inl (some (.int (nI 0))), (cW (mM (oB (vp_updL q 0 v.toInt64)) F tm u2 ps tx td) fl hn hk H bf rd u c1 d1 t co od, 0)) := by
  rw [← j_s104]
  exact xw_ok ⟨Nat.le_of_ble_eq_true rfl, rfl⟩ rfl rfl h j_104
theorem w_ifServed_1 {v1 v2 v3 : Int32} {Z Z' : Hp} (h : x_Slit_ifServed [.ref 4, .int v1, .int v2, .int v3] (Z, 0) = some (.inr xIdx, (Z', 0))) : x_Law_ifServed [.ref 4, .int v1, .int v2, .int v3, .ref 104] (Z, 0) = some (.inl (some (.int (nI 1))), (Z', 0)) :=
  xw_thr (k := 1) ⟨Nat.le_of_ble_eq_true rfl, rfl⟩ rfl rfl h (by decide)
theorem w_ifServed_2 {v1 v2 v3 : Int32} {Z Z' : Hp} (h : x_Slit_ifServed [.ref 4, .int v1, .int v2, .int v3] (Z, 0) = some (.inr xArg, (Z', 0))) : x_Law_ifServed [.ref 4, .int v1, .int v2, .int v3, .ref 104] (Z, 0) = some (.inl (some (.int (nI 2))), (Z', 0)) :=
  xw_thr (k := 2) ⟨Nat.le_of_ble_eq_true rfl, rfl⟩ rfl rfl h (by decide)
end
