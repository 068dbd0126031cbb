/-! ===== the component's object ===== -/
section
variable {M M' : Hp} {nx a b : Nat} {t u t' u' s : Nat → Nat} {co od co' od' c1 d1 c1' d1' bf : Nat → Int32} {m fl hn hk : Nat} {E : Env} {rr : List Instr} {L : List (Option Value)} {S : List Value}
theorem yM_in {i : Nat} (h1 : a ≤ i) (h2 : i ≤ a + 10) : yM M a t co od i = yM M' a t co od i := by
  have : i = a ∨ i = a + 1 ∨ i = a + 2 ∨ i = a + 3 ∨ i = a + 4 ∨ i = a + 5 ∨ i = a + 6 ∨ i = a + 7 ∨ i = a + 8 ∨ i = a + 9 ∨ i = a + 10 := by omega
  rcases this with rfl | rfl | rfl | rfl | rfl | rfl | rfl | rfl | rfl | rfl | rfl
  · rw [yM_a, yM_a]
  · rw [yM_1, yM_1]
  · rw [yM_2, yM_2]
  · rw [yM_3, yM_3]
  · rw [yM_4, yM_4]
  · rw [yM_5, yM_5]
  · rw [yM_6, yM_6]
  · rw [yM_7, yM_7]
  · rw [yM_8, yM_8]
  · rw [yM_9, yM_9]
  · rw [yM_10, yM_10]
theorem yM_pt {i : Nat} (h : M i = M' i) : yM M a t co od i = yM M' a t co od i := by
  by_cases e : a ≤ i ∧ i ≤ a + 10
  · exact yM_in e.1 e.2
  · rw [yM_ne (by omega), yM_ne (by omega), h]
theorem yM_swap (hd : a + 10 < b ∨ b + 10 < a) : yM (yM M b u c1 d1) a t co od = yM (yM M a t co od) b u c1 d1 := by
  funext i
  by_cases e : a ≤ i ∧ i ≤ a + 10
  · rw [yM_ne (a := b) (by omega)]
    exact yM_in e.1 e.2
  · rw [yM_ne (a := a) (by omega)]
    by_cases e2 : b ≤ i ∧ i ≤ b + 10
    · exact yM_in e2.1 e2.2
    · rw [yM_ne (by omega), yM_ne (by omega), yM_ne (by omega)]
abbrev T3 : Type := (Nat → Nat) × (Nat → Int32) × (Nat → Int32)
variable {H : Nat → T3} {rd : List Value}
def hst (M : Hp) (H : Nat → T3) : Hp := fun j => if 29 ≤ j ∧ j < 95 then yM M (29 + 11 * ((j - 29) / 11)) (H ((j - 29) / 11)).1 (H ((j - 29) / 11)).2.1 (H ((j - 29) / 11)).2.2 j else M j
abbrev fS (fl : Nat) : List Value := [.ref 5, .ref 16, .ref 27, .ref 95, .ref 97, .int (nI fl)]
abbrev fH (hn hk : Nat) : List Value := [.ref 28, .int (nI hn), .int (nI hk)]
def hrf : Nat → Option Nat := fun i => if i < 6 then some (29 + 11 * i) else none
def cB (M : Hp) (fl hn hk : Nat) (H : Nat → T3) (bf : Nat → Int32) (rd : List Value) : Hp := fun i => if i = 4 then some (cO 5 (fS fl)) else if i = 27 then some (cO 3 (fH hn hk)) else if i = 28 then some (cR 6 hrf) else if i = 95 then some (cO 0 [.ref 96]) else if i = 96 then some (cI 60 (tr 60 bf)) else if i = 97 then some (cO 4 rd) else hst M H i
/-- the component: its object, history, buffer, reader; the trial; the yard -/
abbrev cW (M : Hp) (fl hn hk : Nat) (H : Nat → T3) (bf : Nat → Int32) (rd : List Value) (u : Nat → Nat) (c1 d1 : Nat → Int32) (t : Nat → Nat) (co od : Nat → Int32) : Hp := yM (yM (cB M fl hn hk H bf rd) 16 u c1 d1) 5 t co od
theorem cW_4 : cW M fl hn hk H bf rd u c1 d1 t co od 4 = some (cO 5 (fS fl)) := rfl
theorem cW_27 : cW M fl hn hk H bf rd u c1 d1 t co od 27 = some (cO 3 (fH hn hk)) := rfl
theorem cW_28 : cW M fl hn hk H bf rd u c1 d1 t co od 28 = some (cR 6 hrf) := rfl
theorem cW_95 : cW M fl hn hk H bf rd u c1 d1 t co od 95 = some (cO 0 [.ref 96]) := rfl
theorem cW_96 : cW M fl hn hk H bf rd u c1 d1 t co od 96 = some (cI 60 (tr 60 bf)) := rfl
theorem cW_97 : cW M fl hn hk H bf rd u c1 d1 t co od 97 = some (cO 4 rd) := rfl
theorem cW_z {c : Cel} {k fl' hn' hk' : Nat} {H' : Nat → T3} {bf' : Nat → Int32} {rd' : List Value} (hk0 : k < 5 ∨ 26 < k) (h1 : cB M fl' hn' hk' H' bf' rd' k = some c) (h2 : ∀ i, i ≠ k → cB M fl hn hk H bf rd i = cB M fl' hn' hk' H' bf' rd' i) : zup (cW M fl hn hk H bf rd u c1 d1 t co od) k c = cW M fl' hn' hk' H' bf' rd' u c1 d1 t co od := by
  funext i
  by_cases e : i = k
  · rw [e, zup_eq]
    show some c = yM (yM (cB M fl' hn' hk' H' bf' rd') 16 u c1 d1) 5 t co od k
    rw [yM_ne (by omega), yM_ne (by omega), h1]
  · rw [zup_ne e]
    exact yM_pt (yM_pt (h2 i e))
theorem cW_s4 {n : Nat} : zup (cW M fl hn hk H bf rd u c1 d1 t co od) 4 (cO 5 (fS n)) = cW M n hn hk H bf rd u c1 d1 t co od := cW_z (by omega) rfl fun i h => by unfold cB; rw [if_neg h, if_neg h]
theorem cW_s27 {n k : Nat} : zup (cW M fl hn hk H bf rd u c1 d1 t co od) 27 (cO 3 (fH n k)) = cW M fl n k H bf rd u c1 d1 t co od := cW_z (by omega) rfl fun i h => by unfold cB; rw [if_neg h, if_neg h]
theorem cW_s96 {f : Nat → Int32} : zup (cW M fl hn hk H bf rd u c1 d1 t co od) 96 (cI 60 (tr 60 f)) = cW M fl hn hk H f rd u c1 d1 t co od := cW_z (by omega) rfl fun i h => by unfold cB; rw [if_neg h, if_neg h]
theorem cW_s97 {f : List Value} : zup (cW M fl hn hk H bf rd u c1 d1 t co od) 97 (cO 4 f) = cW M fl hn hk H bf f u c1 d1 t co od := cW_z (by omega) rfl fun i h => by unfold cB; rw [if_neg h, if_neg h]
theorem cW_t : cW M fl hn hk H bf rd u c1 d1 t co od = yM (yM (cB M fl hn hk H bf rd) 5 t co od) 16 u c1 d1 := yM_swap (by omega)
/-- a method of the trial -/
theorem n_z {o : Out} {f : G → Option (Out × G)} (h : ∀ M, f (yM M 16 u c1 d1, nx) = some (o, (yM M 16 u' c1' d1', nx))) : f (cW M fl hn hk H bf rd u c1 d1 t co od, nx) = some (o, (cW M fl hn hk H bf rd u' c1' d1' t co od, nx)) := by
  rw [cW_t, h, cW_t]
theorem hst_at {i j : Nat} (hi : i < 6) (h1 : 29 + 11 * i ≤ j) (h2 : j ≤ 29 + 11 * i + 10) : cB M fl hn hk H bf rd j = yM M (29 + 11 * i) (H i).1 (H i).2.1 (H i).2.2 j := by
  unfold cB
  rw [if_neg (by omega), if_neg (by omega), if_neg (by omega), if_neg (by omega), if_neg (by omega), if_neg (by omega)]
  unfold hst
  rw [if_pos (by omega), show (j - 29) / 11 = i by omega]
theorem cW_hist {i j : Nat} (hi : i < 6) (h1 : 29 + 11 * i ≤ j) (h2 : j ≤ 29 + 11 * i + 10) : cW M fl hn hk H bf rd u c1 d1 t co od j = yM M' (29 + 11 * i) (H i).1 (H i).2.1 (H i).2.2 j := by
  show yM (yM (cB M fl hn hk H bf rd) 16 u c1 d1) 5 t co od j = _
  rw [yM_ne (by omega), yM_ne (by omega), hst_at hi h1 h2]
  exact yM_in h1 h2
theorem cW_self {i : Nat} (hi : i < 6) : cW M fl hn hk H bf rd u c1 d1 t co od = yM (cW M fl hn hk H bf rd u c1 d1 t co od) (29 + 11 * i) (H i).1 (H i).2.1 (H i).2.2 := by
  funext j
  by_cases e : 29 + 11 * i ≤ j ∧ j ≤ 29 + 11 * i + 10
  · exact cW_hist hi e.1 e.2
  · exact (yM_ne (by omega)).symm
def updH (H : Nat → T3) (i : Nat) (x : T3) : Nat → T3 := fun j => if j = i then x else H j
theorem cW_hset {i : Nat} {x : T3} (hi : i < 6) : yM (cW M fl hn hk H bf rd u c1 d1 t co od) (29 + 11 * i) x.1 x.2.1 x.2.2 = cW M fl hn hk (updH H i x) bf rd u c1 d1 t co od := by
  funext j
  by_cases e : 29 + 11 * i ≤ j ∧ j ≤ 29 + 11 * i + 10
  · refine Eq.trans ?_ (cW_hist (M' := M) hi e.1 e.2).symm
    unfold updH
    rw [if_pos rfl]
    exact yM_in e.1 e.2
  · rw [yM_ne (by omega)]
    refine yM_pt (yM_pt ?_)
    unfold cB
    by_cases e2 : 29 ≤ j ∧ j < 95
    · rw [if_neg (by omega), if_neg (by omega), if_neg (by omega), if_neg (by omega), if_neg (by omega), if_neg (by omega), if_neg (by omega), if_neg (by omega), if_neg (by omega), if_neg (by omega), if_neg (by omega), if_neg (by omega)]
      unfold hst
      rw [if_pos e2, if_pos e2]
      unfold updH
      rw [if_neg (by omega)]
    · have : hst M H j = hst M (updH H i x) j := by
        unfold hst
        rw [if_neg e2, if_neg e2]
      rw [this]
/-! fields -/
theorem gS_0 {g : G} : gfK (some (5, 0)) (some (cO 5 (fS fl))) E rr L S g = runI E rr (L, .ref 5 :: S, g) := rfl
theorem gS_1 {g : G} : gfK (some (5, 1)) (some (cO 5 (fS fl))) E rr L S g = runI E rr (L, .ref 16 :: S, g) := rfl
theorem gS_2 {g : G} : gfK (some (5, 2)) (some (cO 5 (fS fl))) E rr L S g = runI E rr (L, .ref 27 :: S, g) := rfl
theorem gS_3 {g : G} : gfK (some (5, 3)) (some (cO 5 (fS fl))) E rr L S g = runI E rr (L, .ref 95 :: S, g) := rfl
theorem gS_4 {g : G} : gfK (some (5, 4)) (some (cO 5 (fS fl))) E rr L S g = runI E rr (L, .ref 97 :: S, g) := rfl
theorem gS_5 {g : G} : gfK (some (5, 5)) (some (cO 5 (fS fl))) E rr L S g = runI E rr (L, .int (nI fl) :: S, g) := rfl
theorem pS_5 {n : Nat} : pfK (some (5, 5)) (some (cO 5 (fS fl))) E rr L S (cW M fl hn hk H bf rd u c1 d1 t co od, nx) 4 (.int (nI n)) = runI E rr (L, S, (cW M n hn hk H bf rd u c1 d1 t co od, nx)) := by
  have h : pfK (some (5, 5)) (some (cO 5 (fS fl))) E rr L S (cW M fl hn hk H bf rd u c1 d1 t co od, nx) 4 (.int (nI n)) = runI E rr (L, S, (zup (cW M fl hn hk H bf rd u c1 d1 t co od) 4 (cO 5 ((fS fl).set 5 (.int (nI n)))), nx)) := pfK_at ⟨rfl, by show 5 < 6; omega, .inl rfl⟩
  rw [h, ← cW_s4 (n := n)]
  rfl
theorem gH_0 {g : G} : gfK (some (3, 0)) (some (cO 3 (fH hn hk))) E rr L S g = runI E rr (L, .ref 28 :: S, g) := rfl
theorem gH_1 {g : G} : gfK (some (3, 1)) (some (cO 3 (fH hn hk))) E rr L S g = runI E rr (L, .int (nI hn) :: S, g) := rfl
theorem gH_2 {g : G} : gfK (some (3, 2)) (some (cO 3 (fH hn hk))) E rr L S g = runI E rr (L, .int (nI hk) :: S, g) := rfl
theorem pH_1 {n : Nat} : pfK (some (3, 1)) (some (cO 3 (fH hn hk))) E rr L S (cW M fl hn hk H bf rd u c1 d1 t co od, nx) 27 (.int (nI n)) = runI E rr (L, S, (cW M fl n hk H bf rd u c1 d1 t co od, nx)) := by
  have h : pfK (some (3, 1)) (some (cO 3 (fH hn hk))) E rr L S (cW M fl hn hk H bf rd u c1 d1 t co od, nx) 27 (.int (nI n)) = runI E rr (L, S, (zup (cW M fl hn hk H bf rd u c1 d1 t co od) 27 (cO 3 ((fH hn hk).set 1 (.int (nI n)))), nx)) := pfK_at ⟨rfl, by show 1 < 3; omega, .inl rfl⟩
  rw [h, ← cW_s27 (n := n) (k := hk)]
  rfl
theorem pH_2 {n : Nat} : pfK (some (3, 2)) (some (cO 3 (fH hn hk))) E rr L S (cW M fl hn hk H bf rd u c1 d1 t co od, nx) 27 (.int (nI n)) = runI E rr (L, S, (cW M fl hn n H bf rd u c1 d1 t co od, nx)) := by
  have h : pfK (some (3, 2)) (some (cO 3 (fH hn hk))) E rr L S (cW M fl hn hk H bf rd u c1 d1 t co od, nx) 27 (.int (nI n)) = runI E rr (L, S, (zup (cW M fl hn hk H bf rd u c1 d1 t co od) 27 (cO 3 ((fH hn hk).set 2 (.int (nI n)))), nx)) := pfK_at ⟨rfl, by show 2 < 3; omega, .inl rfl⟩
  rw [h, ← cW_s27 (n := hn) (k := n)]
  rfl
/-! the history -/
theorem k_Hist_kept : x_Hist_kept [.ref 27] (cW M fl hn hk H bf rd u c1 d1 t co od, nx) = some (.inl (some (.int (nI hk))), (cW M fl hn hk H bf rd u c1 d1 t co od, nx)) := by
  rw [q_Hist_kept (h := cW_27)]
  simp (disch := omega) only [upd_nI, nI_add, pk_mul, zn_lt, zn_le, zn_eq, zn_e0, zn_l0, zn_g0, zn_le0, zn_ge0, zn_m1, zn_m1', zn_m1m, zn_sub, zn_addm, zn_div, eo_none, eo_some, mg_nI, mg_eo1, mg_eo2, mg_eo, mg_int, mg_lng, mg_sm, mg_smN, mg_cons, mg_pair, mg_nm, mg_fn, mg_out, mg_res, mg_sM, zb_e0, zb_e0', rr_nil, ite_self, rr_getfield, gfK_at, rr_putfield, pfK_at, rr_ivS, rr_ivV, rr_ivP, ws_nil, ws_int, ws_ref, ws_lng, cK_1, cK_0, iv_0, iv_1, iv_2, iv_3, iv_4, iv_5, iv_6, iv_7, fgK_l, fgK_r, fgK_if, zf_nil, zf_0, zf_1, zf_2, zf_3, zf_4, zf_5, zf_6, zf_7, zf_8, zf_9, zf_10, cat_K, ct_eq, ct_ne, ct_lt, ct_ge, ct_gt, ct_le, ct_eq0, ct_ne0, ct_lt0, ct_ge0, ct_gt0, ct_le0, ct_nulr, ct_nul, cno_K, nK_d, can_K, aK_d, cor_K, oK_d, cd_t, cd_f, nK_if, aK_if, oK_if, cfo_K, ite_K, iK_d, iK_if, sq_K, sK_nm, sK_x, sK_if, blk_K, bK_s, rti_K, riK_s, rtz_K, rzK_b, rzK_b', rzK_s, rtv_K, rvK_s, rta_K, raK_s, raK_n, rtl_K, rlK_s, rtd_K, rdK_s, brk_K, cnt_K, zr_fn, zr_if, swi_K, swK_s, swg_nil, swg_cons, stp_K, tK_d, tK_if, vK_nm, vK_bk, vK_ct, vK_fn, vK_if, wK_nm, Classical.not_not, Decidable.not_not, not_true, not_false_iff, if_true, if_false, Nat.zero_le, Nat.reduceLeDiff, Nat.reduceLT, Nat.zero_lt_one, Nat.one_ne_zero, Nat.reduceEqDiff, not_false_eq_true, eq_self, reduceCtorEq, Option.getD_some, Option.getD_none, Nat.reduceAdd, Nat.not_le, Nat.not_lt, Int32.not_le, Int32.not_lt, true_and, and_true, false_and, and_false, true_or, or_true, false_or, or_false, d_Hist_kept, lf_Hist_kept_18, rr_aload0, cW_27, gH_2]
theorem yM_src : Src (yM M a t co od) a t co od := fun i h1 h2 => yM_in h1 h2
/-- a state saved: the ring's next place holds it -/
theorem k_copy_save {i : Nat} (hi : i < 6) : x_Yard_copyFrom [.ref (29 + 11 * i), .ref 5] (cW M fl hn hk H bf rd u c1 d1 t co od, nx) = some (.inl none, (cW M fl hn hk (updH H i (t, cpC 150 co (H i).2.1, cpC 48 od (H i).2.2)) bf rd u c1 d1 t co od, nx)) := by
  have h : x_Yard_copyFrom [.ref (29 + 11 * i), .ref 5] (yM (cW M fl hn hk H bf rd u c1 d1 t co od) (29 + 11 * i) (H i).1 (H i).2.1 (H i).2.2, nx) = _ := k_Yard_copyFrom (b := 5) (t' := t) (co' := co) (od' := od) yM_src (by omega)
  rw [← cW_self hi] at h
  rw [h]
  rw [← cW_hset (x := (t, cpC 150 co (H i).2.1, cpC 48 od (H i).2.2)) hi]
theorem k_copy_restore {i : Nat} (hi : i < 6) : x_Yard_copyFrom [.ref 5, .ref (29 + 11 * i)] (cW M fl hn hk H bf rd u c1 d1 t co od, nx) = some (.inl none, (cW M fl hn hk H bf rd u c1 d1 (H i).1 (cpC 150 (H i).2.1 co) (cpC 48 (H i).2.2 od), nx)) :=
  k_Yard_copyFrom (fun j h1 h2 => by
    rw [yM_ne (by omega), hst_at hi h1 h2]
    exact yM_in h1 h2) (by omega)
theorem k_copy_trial : x_Yard_copyFrom [.ref 16, .ref 5] (cW M fl hn hk H bf rd u c1 d1 t co od, nx) = some (.inl none, (cW M fl hn hk H bf rd t (cpC 150 co c1) (cpC 48 od d1) t co od, nx)) := by
  have h : x_Yard_copyFrom [.ref 16, .ref 5] (yM (yM (cB M fl hn hk H bf rd) 5 t co od) 16 u c1 d1, nx) = _ := k_Yard_copyFrom (b := 5) (t' := t) (co' := co) (od' := od) yM_src (by omega)
  rw [cW_t, h, cW_t]
end
