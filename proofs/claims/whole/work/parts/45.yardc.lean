/-! ===== the component's yard: coils come and go, cuts ===== -/
section
variable {M : Hp} {nx a : Nat} {t t' : Nat → Nat} {co od : Nat → Int32} {m : Nat}
theorem RC_congr (h : ∀ k, 15 ≤ k → t' k = t k) (hR : RC t co od) : RC t' co od := by
  obtain ⟨r1, r2, r3⟩ := hR
  refine ⟨fun p hp ha => ?_, fun p hp ha => ?_, fun o ho j hj => ?_⟩
  · rw [h _ (by omega)] at ha
    have := r1 p hp ha
    unfold cc at *
    rw [h _ (by omega), h _ (by omega), h _ (by omega), h _ (by omega), h _ (by omega)]
    exact this
  · rw [h _ (by omega)] at ha
    exact r2 p hp ha
  · rw [h _ (by omega)] at ho
    rw [r3 o ho j hj]
    congr 1
    exact (h _ (by omega)).symm
def putC (co : Nat → Int32) (p : Nat) (n w g q r : Nat) : Nat → Int32 := upd (upd (upd (upd (upd co (5 * p + 4) (nI n)) (5 * p + 0) (nI w)) (5 * p + 1) (nI g)) (5 * p + 2) (nI q)) (5 * p + 3) (nI r)
theorem putC_ne {p n w g q r i : Nat} (h : i < 5 * p ∨ 5 * p + 5 ≤ i) : putC co p n w g q r i = co i := by
  unfold putC
  rw [upd_ne (by omega), upd_ne (by omega), upd_ne (by omega), upd_ne (by omega), upd_ne (by omega)]
theorem putC_at {p n w g q r : Nat} : putC co p n w g q r (5 * p + 4) = nI n ∧ putC co p n w g q r (5 * p + 0) = nI w ∧ putC co p n w g q r (5 * p + 1) = nI g ∧ putC co p n w g q r (5 * p + 2) = nI q ∧ putC co p n w g q r (5 * p + 3) = nI r := by
  unfold putC
  refine ⟨?_, ?_, ?_, ?_, upd_at⟩
  · rw [upd_ne (by omega), upd_ne (by omega), upd_ne (by omega), upd_ne (by omega), upd_at]
  · rw [upd_ne (by omega), upd_ne (by omega), upd_ne (by omega), upd_at]
  · rw [upd_ne (by omega), upd_ne (by omega), upd_at]
  · rw [upd_ne (by omega), upd_at]
theorem RC_put {k n w g q r : Nat} (hR : RC t co od) (hO : hOk t) (hk : k < 6) (hh : t (16 + k) < 5) : RC (lays t k n w g q r) (putC co (5 * k + t (16 + k)) n w g q r) od := by
  obtain ⟨r1, r2, r3⟩ := hR
  refine ⟨fun p hp ha => ?_, fun p hp ha => ?_, fun o ho j hj => ?_⟩
  · rw [lays_h (by omega) hk] at ha
    rw [lays_cc hk hh (by omega), lays_cc hk hh (by omega), lays_cc hk hh (by omega), lays_cc hk hh (by omega), lays_cc hk hh (by omega)]
    by_cases e : p = 5 * k + t (16 + k)
    · simp only [if_pos e]
      rw [e]
      exact putC_at
    · simp only [if_neg e]
      rw [putC_ne (by omega), putC_ne (by omega), putC_ne (by omega), putC_ne (by omega), putC_ne (by omega)]
      refine r1 p hp ?_
      split at ha
      · rename_i e2; rw [e2]; omega
      · exact ha
  · rw [lays_h (by omega) hk] at ha
    have e : p ≠ 5 * k + t (16 + k) := by
      intro e
      have : p / 5 = k := by omega
      rw [if_pos this] at ha
      omega
    rw [putC_ne (by omega)]
    refine r2 p hp fun h => ha ?_
    split
    · rename_i e3; rw [e3] at h; omega
    · exact h
  · rw [lays_ot hk hh (by omega)] at ho
    rw [r3 o ho j hj]
    congr 1
    exact (lays_ot hk hh (by omega)).symm
theorem k_Yard_putOnTop {k w g q r : Nat} (hk : k < 6) (hh : t (16 + k) < 5) : x_Yard_putOnTop [.ref a, .int (nI k), .int (nI w), .int (nI g), .int (nI q), .int (nI r)] (yM M a t co od, nx) = some (.inl (some (.int (nI (t 4)))), (yM M a (updN (lays t k (t 4) w g q r) 4 (t 4 + 1)) (putC co (5 * k + t (16 + k)) (t 4) w g q r) od, nx)) := by
  have ek : k * 5 + t (16 + k) = 5 * k + t (16 + k) := by omega
  have ec : yM M a (updN (updN t (16 + k) (t (16 + k) + 1)) 4 (t 4 + 1)) (putC co (5 * k + t (16 + k)) (t 4) w g q r) od = yM M a (updN (lays t k (t 4) w g q r) 4 (t 4 + 1)) (putC co (5 * k + t (16 + k)) (t 4) w g q r) od := by
    refine yM_congr fun x hx => ?_
    by_cases e4 : x = 4
    · rw [e4, updN_eq, updN_eq]
    · rw [updN_ne e4, updN_ne e4]
      by_cases h16 : x < 16
      · rw [updN_ne (by omega), lays_ot hk hh (by omega)]
      · obtain ⟨y, rfl⟩ : ∃ y, x = 16 + y := ⟨x - 16, by omega⟩
        rw [lays_h (by omega) hk]
        by_cases e : y = k
        · rw [if_pos e, e, updN_eq]
        · rw [if_neg e, updN_ne (by omega)]
  rw [q_Yard_putOnTop (h := yM_a), ← ec]
  simp (disch := omega) only [upd_nI, nI_add, pk_mul, zn_lt, zn_le, zn_eq, zn_e0, zn_l0, zn_g0, zn_le0, zn_ge0, zn_m1, zn_m1', zn_m1m, zn_sub, zn_addm, zn_div, eo_none, eo_some, mg_nI, mg_eo1, mg_eo2, mg_eo, mg_int, mg_lng, mg_sm, mg_smN, mg_cons, mg_pair, mg_nm, mg_fn, mg_out, mg_res, mg_sM, zb_e0, zb_e0', rr_nil, ite_self, rr_getfield, gfK_at, rr_putfield, pfK_at, rr_ivS, rr_ivV, rr_ivP, ws_nil, ws_int, ws_ref, ws_lng, cK_1, cK_0, iv_0, iv_1, iv_2, iv_3, iv_4, iv_5, iv_6, iv_7, fgK_l, fgK_r, fgK_if, zf_nil, zf_0, zf_1, zf_2, zf_3, zf_4, zf_5, zf_6, zf_7, zf_8, zf_9, zf_10, cat_K, ct_eq, ct_ne, ct_lt, ct_ge, ct_gt, ct_le, ct_eq0, ct_ne0, ct_lt0, ct_ge0, ct_gt0, ct_le0, ct_nulr, ct_nul, cno_K, nK_d, can_K, aK_d, cor_K, oK_d, cd_t, cd_f, nK_if, aK_if, oK_if, cfo_K, ite_K, iK_d, iK_if, sq_K, sK_nm, sK_x, sK_if, blk_K, bK_s, rti_K, riK_s, rtz_K, rzK_b, rzK_b', rzK_s, rtv_K, rvK_s, rta_K, raK_s, raK_n, rtl_K, rlK_s, rtd_K, rdK_s, brk_K, cnt_K, zr_fn, zr_if, swi_K, swK_s, swg_nil, swg_cons, stp_K, tK_d, tK_if, vK_nm, vK_bk, vK_ct, vK_fn, vK_if, wK_nm, Classical.not_not, Decidable.not_not, not_true, not_false_iff, if_true, if_false, Nat.zero_le, Nat.reduceLeDiff, Nat.reduceLT, Nat.zero_lt_one, Nat.one_ne_zero, Nat.reduceEqDiff, not_false_eq_true, eq_self, reduceCtorEq, Option.getD_some, Option.getD_none, Nat.reduceAdd, Nat.not_le, Nat.not_lt, Int32.not_le, Int32.not_lt, true_and, and_true, false_and, and_false, true_or, or_true, false_or, or_false, d_Yard_putOnTop, lc_Yard_putOnTop_65, lc_Yard_putOnTop_38, lc_Yard_putOnTop_78, lf_Yard_putOnTop_25, lf_Yard_putOnTop_59, lf_Yard_putOnTop_14, rr_aload0, rr_dup, rr_dupr, rr_iadd, rr_iconst0, rr_iconst1, rr_iconst2, rr_iconst3, rr_iconst4, rr_iconst5, rr_iload4, rr_iload5, rr_iload6, rr_iload7, rr_iload1, rr_iload2, rr_iload3, rr_imul, rr_istore6 lb_Yard_putOnTop, rr_istore7 lb_Yard_putOnTop, lt_T, lt_F, le_T, le_F, eq_T, eq_F, ne_eq, yM_a, yM_1, yM_2, yM_3, yM_4, yM_5, yM_6, yM_7, yM_8, yM_9, yM_10, gY_0, gY_1, gY_2, gY_3, gY_4, gY_5, gY_6, gY_7, pY_5, pY_6, pY_7, y_cget, y_cgetm, y_cput, y_crow, y_oget, y_ogetm, y_oput, y_orow, y_hget, y_hgetm, y_hadd, y_hdec, y_sget, y_sput, y_tget, y_tadd, xAbs_n, xMin_n, xMax_n, ek, updN_ne, putC]
theorem k_Yard_bringIn {k w g q : Nat} (hk : k < 6) (hh : t (16 + k) < 5) : x_Yard_bringIn [.ref a, .int (nI k), .int (nI w), .int (nI g), .int (nI q)] (yM M a t co od, nx) = some (.inl (some (.int (nI (t 4)))), (yM M a (comeT t k w g q) (putC co (5 * k + t (16 + k)) (t 4) w g q 0) od, nx)) := by
  have hh2 : updN t 13 (t 13 + w) (16 + k) < 5 := by rw [updN_ne (by omega)]; exact hh
  have hp := k_Yard_putOnTop (M := M) (nx := nx) (a := a) (t := updN t 13 (t 13 + w)) (co := co) (od := od) (w := w) (g := g) (q := q) (r := 0) hk hh2
  rw [updN_ne (show 16 + k ≠ 13 by omega), updN_ne (show 4 ≠ 13 by omega)] at hp
  have ec : yM M a (updN (lays (updN t 13 (t 13 + w)) k (t 4) w g q 0) 4 (t 4 + 1)) (putC co (5 * k + t (16 + k)) (t 4) w g q 0) od = yM M a (comeT t k w g q) (putC co (5 * k + t (16 + k)) (t 4) w g q 0) od := by
    refine yM_congr fun x hx => ?_
    unfold comeT
    by_cases e4 : x = 4
    · rw [e4, updN_eq, updN_eq]
    · rw [updN_ne e4, updN_ne e4]
      by_cases h16 : x < 16
      · rw [lays_ot hk hh2 (by omega)]
        by_cases e13 : x = 13
        · rw [e13, updN_eq, updN_eq]
        · rw [updN_ne e13, updN_ne e13, lays_ot hk hh (by omega)]
      · obtain ⟨y, rfl⟩ : ∃ y, x = 16 + y := ⟨x - 16, by omega⟩
        rw [lays_h (by omega) hk, updN_ne (show 16 + y ≠ 13 by omega), updN_ne (show 16 + k ≠ 13 by omega), updN_ne (show 16 + y ≠ 13 by omega), lays_h (by omega) hk]
  rw [q_Yard_bringIn (h := yM_a), ← ec]
  simp (disch := omega) only [upd_nI, nI_add, pk_mul, zn_lt, zn_le, zn_eq, zn_e0, zn_l0, zn_g0, zn_le0, zn_ge0, zn_m1, zn_m1', zn_m1m, zn_sub, zn_addm, zn_div, eo_none, eo_some, mg_nI, mg_eo1, mg_eo2, mg_eo, mg_int, mg_lng, mg_sm, mg_smN, mg_cons, mg_pair, mg_nm, mg_fn, mg_out, mg_res, mg_sM, zb_e0, zb_e0', rr_nil, ite_self, rr_getfield, gfK_at, rr_putfield, pfK_at, rr_ivS, rr_ivV, rr_ivP, ws_nil, ws_int, ws_ref, ws_lng, cK_1, cK_0, iv_0, iv_1, iv_2, iv_3, iv_4, iv_5, iv_6, iv_7, fgK_l, fgK_r, fgK_if, zf_nil, zf_0, zf_1, zf_2, zf_3, zf_4, zf_5, zf_6, zf_7, zf_8, zf_9, zf_10, cat_K, ct_eq, ct_ne, ct_lt, ct_ge, ct_gt, ct_le, ct_eq0, ct_ne0, ct_lt0, ct_ge0, ct_gt0, ct_le0, ct_nulr, ct_nul, cno_K, nK_d, can_K, aK_d, cor_K, oK_d, cd_t, cd_f, nK_if, aK_if, oK_if, cfo_K, ite_K, iK_d, iK_if, sq_K, sK_nm, sK_x, sK_if, blk_K, bK_s, rti_K, riK_s, rtz_K, rzK_b, rzK_b', rzK_s, rtv_K, rvK_s, rta_K, raK_s, raK_n, rtl_K, rlK_s, rtd_K, rdK_s, brk_K, cnt_K, zr_fn, zr_if, swi_K, swK_s, swg_nil, swg_cons, stp_K, tK_d, tK_if, vK_nm, vK_bk, vK_ct, vK_fn, vK_if, wK_nm, Classical.not_not, Decidable.not_not, not_true, not_false_iff, if_true, if_false, Nat.zero_le, Nat.reduceLeDiff, Nat.reduceLT, Nat.zero_lt_one, Nat.one_ne_zero, Nat.reduceEqDiff, not_false_eq_true, eq_self, reduceCtorEq, Option.getD_some, Option.getD_none, Nat.reduceAdd, Nat.not_le, Nat.not_lt, Int32.not_le, Int32.not_lt, true_and, and_true, false_and, and_false, true_or, or_true, false_or, or_false, d_Yard_bringIn, lc_Yard_bringIn_78, lc_Yard_bringIn_81, lf_Yard_bringIn_35, rr_aload0, rr_bipush11, rr_iconst0, rr_iload4, rr_iload1, rr_iload2, rr_iload3, lt_T, lt_F, le_T, le_F, eq_T, eq_F, ne_eq, yM_a, yM_1, yM_2, yM_3, yM_4, yM_5, yM_6, yM_7, yM_8, yM_9, yM_10, gY_0, gY_1, gY_2, gY_3, gY_4, gY_5, gY_6, gY_7, pY_5, pY_6, pY_7, y_cget, y_cgetm, y_cput, y_crow, y_oget, y_ogetm, y_oput, y_orow, y_hget, y_hgetm, y_hadd, y_hdec, y_sget, y_sput, y_tget, y_tadd, xAbs_n, xMin_n, xMax_n, hp]
theorem RC_come {k w g q : Nat} (hR : RC t co od) (hO : hOk t) (hk : k < 6) (hh : t (16 + k) < 5) : RC (comeT t k w g q) (putC co (5 * k + t (16 + k)) (t 4) w g q 0) od := by
  refine RC_congr (fun x hx => ?_) (RC_put (n := t 4) (w := w) (g := g) (q := q) (r := 0) hR hO hk hh)
  unfold comeT
  rw [updN_ne (by omega), updN_ne (by omega)]
theorem RC_take {p : Nat} (hR : RC t co od) (hp : p < 30) (hs : t (16 + p / 5) = p % 5 + 1) : RC (updN t (16 + p / 5) (t (16 + p / 5) - 1)) (upd co (5 * p + 4) (-1)) od := by
  obtain ⟨r1, r2, r3⟩ := hR
  have eh : ∀ x, x < 6 → updN t (16 + p / 5) (t (16 + p / 5) - 1) (16 + x) = if x = p / 5 then p % 5 else t (16 + x) := by
    intro x hx
    by_cases e : x = p / 5
    · rw [if_pos e, e, updN_eq]; omega
    · rw [if_neg e, updN_ne (by omega)]
  refine ⟨fun q hq ha => ?_, fun q hq ha => ?_, fun o ho j hj => ?_⟩
  · rw [eh _ (by omega)] at ha
    have hne : q ≠ p := by intro e; rw [e, if_pos rfl] at ha; omega
    unfold cc
    rw [updN_ne (by omega), updN_ne (by omega), updN_ne (by omega), updN_ne (by omega), updN_ne (by omega), upd_ne (by omega), upd_ne (by omega), upd_ne (by omega), upd_ne (by omega), upd_ne (by omega)]
    refine r1 q hq ?_
    split at ha
    · rename_i e; rw [e]; omega
    · exact ha
  · rw [eh _ (by omega)] at ha
    by_cases e : q = p
    · rw [e, upd_at]
    · rw [upd_ne (by omega)]
      refine r2 q hq fun h => ha ?_
      split
      · rename_i e2; rw [e2] at h; omega
      · exact h
  · rw [updN_ne (by omega)] at ho
    rw [r3 o ho j hj]
    congr 1
    exact (updN_ne (show 172 + 6 * o + j ≠ 16 + p / 5 by omega)).symm
theorem k_Yard_takeTop {p : Nat} (hp : p < 30) (hs : t (16 + p / 5) = p % 5 + 1) : x_Yard_takeTop [.ref a, .int (nI (p / 5))] (yM M a t co od, nx) = some (.inl none, (yM M a (updN t (16 + p / 5) (t (16 + p / 5) - 1)) (upd co (5 * p + 4) (-1)) od, nx)) := by
  have ep : p / 5 * 5 + t (16 + p / 5) - 1 = p := by omega
  rw [q_Yard_takeTop (h := yM_a)]
  simp (disch := omega) only [upd_nI, nI_add, pk_mul, zn_lt, zn_le, zn_eq, zn_e0, zn_l0, zn_g0, zn_le0, zn_ge0, zn_m1, zn_m1', zn_m1m, zn_sub, zn_addm, zn_div, eo_none, eo_some, mg_nI, mg_eo1, mg_eo2, mg_eo, mg_int, mg_lng, mg_sm, mg_smN, mg_cons, mg_pair, mg_nm, mg_fn, mg_out, mg_res, mg_sM, zb_e0, zb_e0', rr_nil, ite_self, rr_getfield, gfK_at, rr_putfield, pfK_at, rr_ivS, rr_ivV, rr_ivP, ws_nil, ws_int, ws_ref, ws_lng, cK_1, cK_0, iv_0, iv_1, iv_2, iv_3, iv_4, iv_5, iv_6, iv_7, fgK_l, fgK_r, fgK_if, zf_nil, zf_0, zf_1, zf_2, zf_3, zf_4, zf_5, zf_6, zf_7, zf_8, zf_9, zf_10, cat_K, ct_eq, ct_ne, ct_lt, ct_ge, ct_gt, ct_le, ct_eq0, ct_ne0, ct_lt0, ct_ge0, ct_gt0, ct_le0, ct_nulr, ct_nul, cno_K, nK_d, can_K, aK_d, cor_K, oK_d, cd_t, cd_f, nK_if, aK_if, oK_if, cfo_K, ite_K, iK_d, iK_if, sq_K, sK_nm, sK_x, sK_if, blk_K, bK_s, rti_K, riK_s, rtz_K, rzK_b, rzK_b', rzK_s, rtv_K, rvK_s, rta_K, raK_s, raK_n, rtl_K, rlK_s, rtd_K, rdK_s, brk_K, cnt_K, zr_fn, zr_if, swi_K, swK_s, swg_nil, swg_cons, stp_K, tK_d, tK_if, vK_nm, vK_bk, vK_ct, vK_fn, vK_if, wK_nm, Classical.not_not, Decidable.not_not, not_true, not_false_iff, if_true, if_false, Nat.zero_le, Nat.reduceLeDiff, Nat.reduceLT, Nat.zero_lt_one, Nat.one_ne_zero, Nat.reduceEqDiff, not_false_eq_true, eq_self, reduceCtorEq, Option.getD_some, Option.getD_none, Nat.reduceAdd, Nat.not_le, Nat.not_lt, Int32.not_le, Int32.not_lt, true_and, and_true, false_and, and_false, true_or, or_true, false_or, or_false, d_Yard_takeTop, lc_Yard_takeTop_65, lc_Yard_takeTop_38, lc_Yard_takeTop_78, lf_Yard_takeTop_14, lf_Yard_takeTop_25, rr_aload0, rr_iadd, rr_iconstm, rr_iconst1, rr_iconst4, rr_iconst5, rr_iload1, rr_imul, rr_isub, lt_T, lt_F, le_T, le_F, eq_T, eq_F, ne_eq, yM_a, yM_1, yM_2, yM_3, yM_4, yM_5, yM_6, yM_7, yM_8, yM_9, yM_10, gY_0, gY_1, gY_2, gY_3, gY_4, gY_5, gY_6, gY_7, pY_5, pY_6, pY_7, y_cget, y_cgetm, y_cput, y_crow, y_oget, y_ogetm, y_oput, y_orow, y_hget, y_hgetm, y_hadd, y_hdec, y_sget, y_sput, y_tget, y_tadd, xAbs_n, xMin_n, xMax_n, ep]
theorem k_Yard_sendTop {p : Nat} (hI : IV m t) (hR : RC t co od) (hp : p < 30) (hs : t (16 + p / 5) = p % 5 + 1) : x_Yard_sendTop [.ref a, .int (nI (p / 5))] (yM M a t co od, nx) = some (.inl (some (.int (nI (cc t p 1)))), (yM M a (sentT t p) (upd co (5 * p + 4) (-1)) od, nx)) := by
  have ep : p / 5 * 5 + t (16 + p / 5) - 1 = p := by omega
  have b0 := (hR.1 p hp (by omega)).2.1
  have hs2 : updN t 14 (t 14 + cc t p 1) (16 + p / 5) = p % 5 + 1 := by rw [updN_ne (by omega)]; exact hs
  have ht := k_Yard_takeTop (M := M) (nx := nx) (a := a) (t := updN t 14 (t 14 + cc t p 1)) (co := co) (od := od) hp hs2
  have ec : yM M a (updN (updN t 14 (t 14 + cc t p 1)) (16 + p / 5) (updN t 14 (t 14 + cc t p 1) (16 + p / 5) - 1)) (upd co (5 * p + 4) (-1)) od = yM M a (sentT t p) (upd co (5 * p + 4) (-1)) od := by
    refine yM_congr fun x hx => ?_
    unfold sentT
    by_cases e4 : x = 14
    · rw [e4, updN_eq, updN_ne (by omega), updN_eq]
    · rw [updN_ne e4]
      by_cases e : x = 16 + p / 5
      · rw [e, updN_eq, updN_eq, updN_ne (by omega)]
      · rw [updN_ne e, updN_ne e4, updN_ne e]
  rw [q_Yard_sendTop (h := yM_a), ← ec]
  simp (disch := omega) only [upd_nI, nI_add, pk_mul, zn_lt, zn_le, zn_eq, zn_e0, zn_l0, zn_g0, zn_le0, zn_ge0, zn_m1, zn_m1', zn_m1m, zn_sub, zn_addm, zn_div, eo_none, eo_some, mg_nI, mg_eo1, mg_eo2, mg_eo, mg_int, mg_lng, mg_sm, mg_smN, mg_cons, mg_pair, mg_nm, mg_fn, mg_out, mg_res, mg_sM, zb_e0, zb_e0', rr_nil, ite_self, rr_getfield, gfK_at, rr_putfield, pfK_at, rr_ivS, rr_ivV, rr_ivP, ws_nil, ws_int, ws_ref, ws_lng, cK_1, cK_0, iv_0, iv_1, iv_2, iv_3, iv_4, iv_5, iv_6, iv_7, fgK_l, fgK_r, fgK_if, zf_nil, zf_0, zf_1, zf_2, zf_3, zf_4, zf_5, zf_6, zf_7, zf_8, zf_9, zf_10, cat_K, ct_eq, ct_ne, ct_lt, ct_ge, ct_gt, ct_le, ct_eq0, ct_ne0, ct_lt0, ct_ge0, ct_gt0, ct_le0, ct_nulr, ct_nul, cno_K, nK_d, can_K, aK_d, cor_K, oK_d, cd_t, cd_f, nK_if, aK_if, oK_if, cfo_K, ite_K, iK_d, iK_if, sq_K, sK_nm, sK_x, sK_if, blk_K, bK_s, rti_K, riK_s, rtz_K, rzK_b, rzK_b', rzK_s, rtv_K, rvK_s, rta_K, raK_s, raK_n, rtl_K, rlK_s, rtd_K, rdK_s, brk_K, cnt_K, zr_fn, zr_if, swi_K, swK_s, swg_nil, swg_cons, stp_K, tK_d, tK_if, vK_nm, vK_bk, vK_ct, vK_fn, vK_if, wK_nm, Classical.not_not, Decidable.not_not, not_true, not_false_iff, if_true, if_false, Nat.zero_le, Nat.reduceLeDiff, Nat.reduceLT, Nat.zero_lt_one, Nat.one_ne_zero, Nat.reduceEqDiff, not_false_eq_true, eq_self, reduceCtorEq, Option.getD_some, Option.getD_none, Nat.reduceAdd, Nat.not_le, Nat.not_lt, Int32.not_le, Int32.not_lt, true_and, and_true, false_and, and_false, true_or, or_true, false_or, or_false, d_Yard_sendTop, lc_Yard_sendTop_65, lc_Yard_sendTop_69, lc_Yard_sendTop_78, lc_Yard_sendTop_93, lf_Yard_sendTop_14, lf_Yard_sendTop_25, lf_Yard_sendTop_35, rr_aload0, rr_bipush12, rr_iadd, rr_iconst0, rr_iconst1, rr_iconst5, rr_iload1, rr_iload2, rr_imul, rr_istore2 lb_Yard_sendTop, rr_isub, lt_T, lt_F, le_T, le_F, eq_T, eq_F, ne_eq, yM_a, yM_1, yM_2, yM_3, yM_4, yM_5, yM_6, yM_7, yM_8, yM_9, yM_10, gY_0, gY_1, gY_2, gY_3, gY_4, gY_5, gY_6, gY_7, pY_5, pY_6, pY_7, y_cget, y_cgetm, y_cput, y_crow, y_oget, y_ogetm, y_oput, y_orow, y_hget, y_hgetm, y_hadd, y_hdec, y_sget, y_sput, y_tget, y_tadd, xAbs_n, xMin_n, xMax_n, ep, b0, ht]
theorem RC_sent {p : Nat} (hR : RC t co od) (hp : p < 30) (hs : t (16 + p / 5) = p % 5 + 1) : RC (sentT t p) (upd co (5 * p + 4) (-1)) od := by
  refine RC_congr (fun x hx => ?_) (RC_take hR hp hs)
  unfold sentT
  by_cases e : x = 14
  · omega
  · rw [updN_ne e]
def ordO (od : Nat → Int32) (o n g q w s p : Nat) : Nat → Int32 := upd (upd (upd (upd (upd (upd od (6 * o + 0) (nI n)) (6 * o + 1) (nI g)) (6 * o + 2) (nI q)) (6 * o + 3) (nI w)) (6 * o + 4) (nI s)) (6 * o + 5) (nI p)
theorem ordT_low {g q w s p x : Nat} (hx : x < 172) : ordT t g q w s p x = if x = 5 then t 5 + 1 else if x = 15 then t 15 + 1 else t x := by
  unfold ordT
  by_cases e : x = 5
  · rw [e, updN_eq, if_pos rfl]
  · rw [updN_ne e, if_neg e]
    by_cases e2 : x = 15
    · rw [e2, updN_eq, if_pos rfl]
    · rw [updN_ne e2, if_neg e2, updN_ne (by omega), updN_ne (by omega), updN_ne (by omega), updN_ne (by omega), updN_ne (by omega), updN_ne (by omega)]
theorem ordT_oo {g q w s p o j : Nat} (hj : j < 6) : oo (ordT t g q w s p) o j = if o = t 15 then (if j = 0 then t 5 else if j = 1 then g else if j = 2 then q else if j = 3 then w else if j = 4 then s else p) else oo t o j := by
  unfold oo ordT
  rw [updN_ne (by omega), updN_ne (by omega)]
  by_cases e : o = t 15
  · rw [if_pos e, e]
    have : j = 0 ∨ j = 1 ∨ j = 2 ∨ j = 3 ∨ j = 4 ∨ j = 5 := by omega
    rcases this with rfl | rfl | rfl | rfl | rfl | rfl <;> simp (disch := omega) only [updN_ne, updN_eq, if_true, if_false, Nat.reduceEqDiff, Nat.add_zero]
  · rw [if_neg e, updN_ne (by omega), updN_ne (by omega), updN_ne (by omega), updN_ne (by omega), updN_ne (by omega), updN_ne (by omega)]
theorem RC_ord {g q w s p : Nat} (hR : RC t co od) : RC (ordT t g q w s p) co (ordO od (t 15) (t 5) g q w s p) := by
  obtain ⟨r1, r2, r3⟩ := hR
  refine ⟨fun x hx ha => ?_, fun x hx ha => ?_, fun o ho j hj => ?_⟩
  · rw [ordT_low (by omega), if_neg (by omega), if_neg (by omega)] at ha
    unfold cc
    rw [ordT_low (by omega), if_neg (by omega), if_neg (by omega), ordT_low (by omega), if_neg (by omega), if_neg (by omega), ordT_low (by omega), if_neg (by omega), if_neg (by omega), ordT_low (by omega), if_neg (by omega), if_neg (by omega), ordT_low (by omega), if_neg (by omega), if_neg (by omega)]
    exact r1 x hx ha
  · rw [ordT_low (by omega), if_neg (by omega), if_neg (by omega)] at ha
    exact r2 x hx ha
  · rw [ordT_low (by omega), if_neg (by omega), if_pos rfl] at ho
    rw [ordT_oo hj]
    unfold ordO
    by_cases e : o = t 15
    · rw [if_pos e, e]
      have : j = 0 ∨ j = 1 ∨ j = 2 ∨ j = 3 ∨ j = 4 ∨ j = 5 := by omega
      rcases this with rfl | rfl | rfl | rfl | rfl | rfl <;> simp (disch := omega) only [upd_ne, upd_at, if_true, if_false, Nat.reduceEqDiff]
    · rw [if_neg e, upd_ne (by omega), upd_ne (by omega), upd_ne (by omega), upd_ne (by omega), upd_ne (by omega), upd_ne (by omega)]
      exact r3 o (by omega) j hj
theorem k_Yard_takeOrder {g q w s p : Nat} (h8 : t 15 < 8) : x_Yard_takeOrder [.ref a, .int (nI g), .int (nI q), .int (nI w), .int (nI s), .int (nI p)] (yM M a t co od, nx) = some (.inl (some (.int (nI (t 5)))), (yM M a (ordT t g q w s p) co (ordO od (t 15) (t 5) g q w s p), nx)) := by
  have ec : yM M a (updN (updN t 15 (t 15 + 1)) 5 (t 5 + 1)) co (ordO od (t 15) (t 5) g q w s p) = yM M a (ordT t g q w s p) co (ordO od (t 15) (t 5) g q w s p) := by
    refine yM_congr fun x hx => ?_
    rw [ordT_low (by omega)]
    rfl
  rw [q_Yard_takeOrder (h := yM_a), ← ec]
  simp (disch := omega) only [upd_nI, nI_add, pk_mul, zn_lt, zn_le, zn_eq, zn_e0, zn_l0, zn_g0, zn_le0, zn_ge0, zn_m1, zn_m1', zn_m1m, zn_sub, zn_addm, zn_div, eo_none, eo_some, mg_nI, mg_eo1, mg_eo2, mg_eo, mg_int, mg_lng, mg_sm, mg_smN, mg_cons, mg_pair, mg_nm, mg_fn, mg_out, mg_res, mg_sM, zb_e0, zb_e0', rr_nil, ite_self, rr_getfield, gfK_at, rr_putfield, pfK_at, rr_ivS, rr_ivV, rr_ivP, ws_nil, ws_int, ws_ref, ws_lng, cK_1, cK_0, iv_0, iv_1, iv_2, iv_3, iv_4, iv_5, iv_6, iv_7, fgK_l, fgK_r, fgK_if, zf_nil, zf_0, zf_1, zf_2, zf_3, zf_4, zf_5, zf_6, zf_7, zf_8, zf_9, zf_10, cat_K, ct_eq, ct_ne, ct_lt, ct_ge, ct_gt, ct_le, ct_eq0, ct_ne0, ct_lt0, ct_ge0, ct_gt0, ct_le0, ct_nulr, ct_nul, cno_K, nK_d, can_K, aK_d, cor_K, oK_d, cd_t, cd_f, nK_if, aK_if, oK_if, cfo_K, ite_K, iK_d, iK_if, sq_K, sK_nm, sK_x, sK_if, blk_K, bK_s, rti_K, riK_s, rtz_K, rzK_b, rzK_b', rzK_s, rtv_K, rvK_s, rta_K, raK_s, raK_n, rtl_K, rlK_s, rtd_K, rdK_s, brk_K, cnt_K, zr_fn, zr_if, swi_K, swK_s, swg_nil, swg_cons, stp_K, tK_d, tK_if, vK_nm, vK_bk, vK_ct, vK_fn, vK_if, wK_nm, Classical.not_not, Decidable.not_not, not_true, not_false_iff, if_true, if_false, Nat.zero_le, Nat.reduceLeDiff, Nat.reduceLT, Nat.zero_lt_one, Nat.one_ne_zero, Nat.reduceEqDiff, not_false_eq_true, eq_self, reduceCtorEq, Option.getD_some, Option.getD_none, Nat.reduceAdd, Nat.not_le, Nat.not_lt, Int32.not_le, Int32.not_lt, true_and, and_true, false_and, and_false, true_or, or_true, false_or, or_false, d_Yard_takeOrder, lc_Yard_takeOrder_38, lf_Yard_takeOrder_62, lf_Yard_takeOrder_29, lf_Yard_takeOrder_55, rr_aload0, rr_dup, rr_dupr, rr_iadd, rr_iconst0, rr_iconst1, rr_iconst2, rr_iconst3, rr_iconst4, rr_iconst5, rr_iload4, rr_iload5, rr_iload6, rr_iload1, rr_iload2, rr_iload3, rr_istore6 lb_Yard_takeOrder, lt_T, lt_F, le_T, le_F, eq_T, eq_F, ne_eq, yM_a, yM_1, yM_2, yM_3, yM_4, yM_5, yM_6, yM_7, yM_8, yM_9, yM_10, gY_0, gY_1, gY_2, gY_3, gY_4, gY_5, gY_6, gY_7, pY_5, pY_6, pY_7, y_cget, y_cgetm, y_cput, y_crow, y_oget, y_ogetm, y_oput, y_orow, y_hget, y_hgetm, y_hadd, y_hdec, y_sget, y_sput, y_tget, y_tadd, xAbs_n, xMin_n, xMax_n, updN_ne, ordO]
def drO (od : Nat → Int32) (o n : Nat) : Nat → Int32 := fun i => if 6 * o ≤ i ∧ i < 6 * o + 6 * n then od (i + 6) else od i
theorem drO_0 {o : Nat} : drO od o 0 = od := by funext i; unfold drO; rw [if_neg (by omega)]
theorem drO_s {o n : Nat} : cpR 6 (drO od o n) (o + n + 1) (o + n) = drO od o (n + 1) := by
  funext i
  unfold cpR va_cpy drO
  by_cases e : 6 * (o + n) ≤ i ∧ i < 6 * (o + n) + 6
  · rw [if_pos e, if_neg (by omega), if_pos (by omega)]
    congr 1; omega
  · rw [if_neg e]
    by_cases e2 : 6 * o ≤ i ∧ i < 6 * o + 6 * n
    · rw [if_pos e2, if_pos (by omega)]
    · rw [if_neg e2, if_neg (by omega)]
theorem RC_drop {o : Nat} (hR : RC t co od) (ho : o < t 15) : RC (orderGoes t o) co (drO od o (t 15 - 1 - o)) := by
  obtain ⟨r1, r2, r3⟩ := hR
  refine ⟨fun x hx ha => ?_, fun x hx ha => ?_, fun j hj c hc => ?_⟩
  · rw [oG_lo (by omega) (by omega)] at ha
    unfold cc
    simp (disch := omega) only [oG_lo]
    exact r1 x hx ha
  · rw [oG_lo (by omega) (by omega)] at ha
    exact r2 x hx ha
  · rw [oG_low (by omega), if_pos rfl] at hj
    rw [oG_oo ho hj hc]
    unfold drO
    by_cases e : j < o
    · rw [if_neg (by omega), if_pos e]
      exact r3 j (by omega) c hc
    · rw [if_pos (by omega), if_neg e]
      have := r3 (j + 1) (by omega) c hc
      rw [show 6 * j + c + 6 = 6 * (j + 1) + c by omega]
      exact this
theorem k_Yard_dropOrder {o : Nat} (ho : o < t 15) (h8 : t 15 ≤ 8) : x_Yard_dropOrder [.ref a, .int (nI o)] (yM M a t co od, nx) = some (.inl none, (yM M a (orderGoes t o) co (drO od o (t 15 - 1 - o)), nx)) := by
  have ec : yM M a (updN t 15 (t 15 - 1)) co (drO od o (t 15 - 1 - o)) = yM M a (orderGoes t o) co (drO od o (t 15 - 1 - o)) := by
    refine yM_congr fun x hx => ?_
    rw [oG_low (by omega)]
    rfl
  rw [q_Yard_dropOrder (h := yM_a), ← ec]
  simp (disch := omega) only [upd_nI, nI_add, pk_mul, zn_lt, zn_le, zn_eq, zn_e0, zn_l0, zn_g0, zn_le0, zn_ge0, zn_m1, zn_m1', zn_m1m, zn_sub, zn_addm, zn_div, eo_none, eo_some, mg_nI, mg_eo1, mg_eo2, mg_eo, mg_int, mg_lng, mg_sm, mg_smN, mg_cons, mg_pair, mg_nm, mg_fn, mg_out, mg_res, mg_sM, zb_e0, zb_e0', rr_nil, ite_self, rr_getfield, gfK_at, rr_putfield, pfK_at, rr_ivS, rr_ivV, rr_ivP, ws_nil, ws_int, ws_ref, ws_lng, cK_1, cK_0, iv_0, iv_1, iv_2, iv_3, iv_4, iv_5, iv_6, iv_7, fgK_l, fgK_r, fgK_if, zf_nil, zf_0, zf_1, zf_2, zf_3, zf_4, zf_5, zf_6, zf_7, zf_8, zf_9, zf_10, cat_K, ct_eq, ct_ne, ct_lt, ct_ge, ct_gt, ct_le, ct_eq0, ct_ne0, ct_lt0, ct_ge0, ct_gt0, ct_le0, ct_nulr, ct_nul, cno_K, nK_d, can_K, aK_d, cor_K, oK_d, cd_t, cd_f, nK_if, aK_if, oK_if, cfo_K, ite_K, iK_d, iK_if, sq_K, sK_nm, sK_x, sK_if, blk_K, bK_s, rti_K, riK_s, rtz_K, rzK_b, rzK_b', rzK_s, rtv_K, rvK_s, rta_K, raK_s, raK_n, rtl_K, rlK_s, rtd_K, rdK_s, brk_K, cnt_K, zr_fn, zr_if, swi_K, swK_s, swg_nil, swg_cons, stp_K, tK_d, tK_if, vK_nm, vK_bk, vK_ct, vK_fn, vK_if, wK_nm, Classical.not_not, Decidable.not_not, not_true, not_false_iff, if_true, if_false, Nat.zero_le, Nat.reduceLeDiff, Nat.reduceLT, Nat.zero_lt_one, Nat.one_ne_zero, Nat.reduceEqDiff, not_false_eq_true, eq_self, reduceCtorEq, Option.getD_some, Option.getD_none, Nat.reduceAdd, Nat.not_le, Nat.not_lt, Int32.not_le, Int32.not_lt, true_and, and_true, false_and, and_false, true_or, or_true, false_or, or_false, d_Yard_dropOrder, lc_Yard_dropOrder_85, lf_Yard_dropOrder_55, lf_Yard_dropOrder_29, rr_aload0, rr_dup, rr_dupr, rr_iadd, rr_iconst1, rr_iinc2 lb_Yard_dropOrder, rr_iload1, rr_iload2, rr_istore2 lb_Yard_dropOrder, rr_isub, lt_T, lt_F, le_T, le_F, eq_T, eq_F, ne_eq]
  rw [lop_run (fun k => ([some (.ref a), some (.int (nI o)), some (.int (nI (o + k)))], [], (yM M a t co (drO od o k), nx))) (r := nm ([some (.ref a), some (.int (nI o)), some (.int (nI (t 15 - 1)))], [], (yM M a t co (drO od o (t 15 - 1 - o)), nx))) (t 15 - 1 - o) ?_ ?_ ?_ (zFU_lt (by omega))]
  · simp (disch := omega) only [upd_nI, nI_add, pk_mul, zn_lt, zn_le, zn_eq, zn_e0, zn_l0, zn_g0, zn_le0, zn_ge0, zn_m1, zn_m1', zn_m1m, zn_sub, zn_addm, zn_div, eo_none, eo_some, mg_nI, mg_eo1, mg_eo2, mg_eo, mg_int, mg_lng, mg_sm, mg_smN, mg_cons, mg_pair, mg_nm, mg_fn, mg_out, mg_res, mg_sM, zb_e0, zb_e0', rr_nil, ite_self, rr_getfield, gfK_at, rr_putfield, pfK_at, rr_ivS, rr_ivV, rr_ivP, ws_nil, ws_int, ws_ref, ws_lng, cK_1, cK_0, iv_0, iv_1, iv_2, iv_3, iv_4, iv_5, iv_6, iv_7, fgK_l, fgK_r, fgK_if, zf_nil, zf_0, zf_1, zf_2, zf_3, zf_4, zf_5, zf_6, zf_7, zf_8, zf_9, zf_10, cat_K, ct_eq, ct_ne, ct_lt, ct_ge, ct_gt, ct_le, ct_eq0, ct_ne0, ct_lt0, ct_ge0, ct_gt0, ct_le0, ct_nulr, ct_nul, cno_K, nK_d, can_K, aK_d, cor_K, oK_d, cd_t, cd_f, nK_if, aK_if, oK_if, cfo_K, ite_K, iK_d, iK_if, sq_K, sK_nm, sK_x, sK_if, blk_K, bK_s, rti_K, riK_s, rtz_K, rzK_b, rzK_b', rzK_s, rtv_K, rvK_s, rta_K, raK_s, raK_n, rtl_K, rlK_s, rtd_K, rdK_s, brk_K, cnt_K, zr_fn, zr_if, swi_K, swK_s, swg_nil, swg_cons, stp_K, tK_d, tK_if, vK_nm, vK_bk, vK_ct, vK_fn, vK_if, wK_nm, Classical.not_not, Decidable.not_not, not_true, not_false_iff, if_true, if_false, Nat.zero_le, Nat.reduceLeDiff, Nat.reduceLT, Nat.zero_lt_one, Nat.one_ne_zero, Nat.reduceEqDiff, not_false_eq_true, eq_self, reduceCtorEq, Option.getD_some, Option.getD_none, Nat.reduceAdd, Nat.not_le, Nat.not_lt, Int32.not_le, Int32.not_lt, true_and, and_true, false_and, and_false, true_or, or_true, false_or, or_false, d_Yard_dropOrder, lc_Yard_dropOrder_85, lf_Yard_dropOrder_55, lf_Yard_dropOrder_29, rr_aload0, rr_dup, rr_dupr, rr_iadd, rr_iconst1, rr_iinc2 lb_Yard_dropOrder, rr_iload1, rr_iload2, rr_istore2 lb_Yard_dropOrder, rr_isub, lt_T, lt_F, le_T, le_F, eq_T, eq_F, ne_eq, yM_a, yM_1, yM_2, yM_3, yM_4, yM_5, yM_6, yM_7, yM_8, yM_9, yM_10, gY_0, gY_1, gY_2, gY_3, gY_4, gY_5, gY_6, gY_7, pY_5, pY_6, pY_7, y_cget, y_cgetm, y_cput, y_crow, y_oget, y_ogetm, y_oput, y_orow, y_hget, y_hgetm, y_hadd, y_hdec, y_sget, y_sput, y_tget, y_tadd, xAbs_n, xMin_n, xMax_n]
  · rw [drO_0]; rfl
  · have e : o + (t 15 - 1 - o) = t 15 - 1 := by omega
    simp (disch := omega) only [upd_nI, nI_add, pk_mul, zn_lt, zn_le, zn_eq, zn_e0, zn_l0, zn_g0, zn_le0, zn_ge0, zn_m1, zn_m1', zn_m1m, zn_sub, zn_addm, zn_div, eo_none, eo_some, mg_nI, mg_eo1, mg_eo2, mg_eo, mg_int, mg_lng, mg_sm, mg_smN, mg_cons, mg_pair, mg_nm, mg_fn, mg_out, mg_res, mg_sM, zb_e0, zb_e0', rr_nil, ite_self, rr_getfield, gfK_at, rr_putfield, pfK_at, rr_ivS, rr_ivV, rr_ivP, ws_nil, ws_int, ws_ref, ws_lng, cK_1, cK_0, iv_0, iv_1, iv_2, iv_3, iv_4, iv_5, iv_6, iv_7, fgK_l, fgK_r, fgK_if, zf_nil, zf_0, zf_1, zf_2, zf_3, zf_4, zf_5, zf_6, zf_7, zf_8, zf_9, zf_10, cat_K, ct_eq, ct_ne, ct_lt, ct_ge, ct_gt, ct_le, ct_eq0, ct_ne0, ct_lt0, ct_ge0, ct_gt0, ct_le0, ct_nulr, ct_nul, cno_K, nK_d, can_K, aK_d, cor_K, oK_d, cd_t, cd_f, nK_if, aK_if, oK_if, cfo_K, ite_K, iK_d, iK_if, sq_K, sK_nm, sK_x, sK_if, blk_K, bK_s, rti_K, riK_s, rtz_K, rzK_b, rzK_b', rzK_s, rtv_K, rvK_s, rta_K, raK_s, raK_n, rtl_K, rlK_s, rtd_K, rdK_s, brk_K, cnt_K, zr_fn, zr_if, swi_K, swK_s, swg_nil, swg_cons, stp_K, tK_d, tK_if, vK_nm, vK_bk, vK_ct, vK_fn, vK_if, wK_nm, Classical.not_not, Decidable.not_not, not_true, not_false_iff, if_true, if_false, Nat.zero_le, Nat.reduceLeDiff, Nat.reduceLT, Nat.zero_lt_one, Nat.one_ne_zero, Nat.reduceEqDiff, not_false_eq_true, eq_self, reduceCtorEq, Option.getD_some, Option.getD_none, Nat.reduceAdd, Nat.not_le, Nat.not_lt, Int32.not_le, Int32.not_lt, true_and, and_true, false_and, and_false, true_or, or_true, false_or, or_false, d_Yard_dropOrder, lc_Yard_dropOrder_85, lf_Yard_dropOrder_55, lf_Yard_dropOrder_29, rr_aload0, rr_dup, rr_dupr, rr_iadd, rr_iconst1, rr_iinc2 lb_Yard_dropOrder, rr_iload1, rr_iload2, rr_istore2 lb_Yard_dropOrder, rr_isub, lt_T, lt_F, le_T, le_F, eq_T, eq_F, ne_eq, yM_a, yM_1, yM_2, yM_3, yM_4, yM_5, yM_6, yM_7, yM_8, yM_9, yM_10, gY_0, gY_1, gY_2, gY_3, gY_4, gY_5, gY_6, gY_7, pY_5, pY_6, pY_7, y_cget, y_cgetm, y_cput, y_crow, y_oget, y_ogetm, y_oput, y_orow, y_hget, y_hgetm, y_hadd, y_hdec, y_sget, y_sput, y_tget, y_tadd, xAbs_n, xMin_n, xMax_n, e]
  · intro k hk
    simp (disch := omega) only [upd_nI, nI_add, pk_mul, zn_lt, zn_le, zn_eq, zn_e0, zn_l0, zn_g0, zn_le0, zn_ge0, zn_m1, zn_m1', zn_m1m, zn_sub, zn_addm, zn_div, eo_none, eo_some, mg_nI, mg_eo1, mg_eo2, mg_eo, mg_int, mg_lng, mg_sm, mg_smN, mg_cons, mg_pair, mg_nm, mg_fn, mg_out, mg_res, mg_sM, zb_e0, zb_e0', rr_nil, ite_self, rr_getfield, gfK_at, rr_putfield, pfK_at, rr_ivS, rr_ivV, rr_ivP, ws_nil, ws_int, ws_ref, ws_lng, cK_1, cK_0, iv_0, iv_1, iv_2, iv_3, iv_4, iv_5, iv_6, iv_7, fgK_l, fgK_r, fgK_if, zf_nil, zf_0, zf_1, zf_2, zf_3, zf_4, zf_5, zf_6, zf_7, zf_8, zf_9, zf_10, cat_K, ct_eq, ct_ne, ct_lt, ct_ge, ct_gt, ct_le, ct_eq0, ct_ne0, ct_lt0, ct_ge0, ct_gt0, ct_le0, ct_nulr, ct_nul, cno_K, nK_d, can_K, aK_d, cor_K, oK_d, cd_t, cd_f, nK_if, aK_if, oK_if, cfo_K, ite_K, iK_d, iK_if, sq_K, sK_nm, sK_x, sK_if, blk_K, bK_s, rti_K, riK_s, rtz_K, rzK_b, rzK_b', rzK_s, rtv_K, rvK_s, rta_K, raK_s, raK_n, rtl_K, rlK_s, rtd_K, rdK_s, brk_K, cnt_K, zr_fn, zr_if, swi_K, swK_s, swg_nil, swg_cons, stp_K, tK_d, tK_if, vK_nm, vK_bk, vK_ct, vK_fn, vK_if, wK_nm, Classical.not_not, Decidable.not_not, not_true, not_false_iff, if_true, if_false, Nat.zero_le, Nat.reduceLeDiff, Nat.reduceLT, Nat.zero_lt_one, Nat.one_ne_zero, Nat.reduceEqDiff, not_false_eq_true, eq_self, reduceCtorEq, Option.getD_some, Option.getD_none, Nat.reduceAdd, Nat.not_le, Nat.not_lt, Int32.not_le, Int32.not_lt, true_and, and_true, false_and, and_false, true_or, or_true, false_or, or_false, d_Yard_dropOrder, lc_Yard_dropOrder_85, lf_Yard_dropOrder_55, lf_Yard_dropOrder_29, rr_aload0, rr_dup, rr_dupr, rr_iadd, rr_iconst1, rr_iinc2 lb_Yard_dropOrder, rr_iload1, rr_iload2, rr_istore2 lb_Yard_dropOrder, rr_isub, lt_T, lt_F, le_T, le_F, eq_T, eq_F, ne_eq, yM_a, yM_1, yM_2, yM_3, yM_4, yM_5, yM_6, yM_7, yM_8, yM_9, yM_10, gY_0, gY_1, gY_2, gY_3, gY_4, gY_5, gY_6, gY_7, pY_5, pY_6, pY_7, y_cget, y_cgetm, y_cput, y_crow, y_oget, y_ogetm, y_oput, y_orow, y_hget, y_hgetm, y_hadd, y_hdec, y_sget, y_sput, y_tget, y_tadd, xAbs_n, xMin_n, xMax_n, drO_s]
    rfl
end
