/-! ===== the component's yard: moving ===== -/
section
variable {M : Hp} {nx a : Nat} {t t' : Nat → Nat} {co od : Nat → Int32} {m : Nat}
/-- the coils' cells after a move -/
def mvC (co : Nat → Int32) (t : Nat → Nat) (i j : Nat) : Nat → Int32 := upd (cpR 5 co (5 * i + t (16 + i) - 1) (5 * j + t (16 + j))) (5 * (5 * i + t (16 + i) - 1) + 4) (-1)
theorem mvC_at {i j p c : Nat} (hi : i < 6) (hj : j < 6) (hij : i ≠ j) (h1 : 0 < t (16 + i)) (h5 : t (16 + i) ≤ 5) (hh : t (16 + j) < 5) (hc : c < 5) : mvC co t i j (5 * p + c) = if p = 5 * i + t (16 + i) - 1 ∧ c = 4 then -1 else if p = 5 * j + t (16 + j) then co (5 * (5 * i + t (16 + i) - 1) + c) else co (5 * p + c) := by
  unfold mvC
  by_cases e : p = 5 * i + t (16 + i) - 1 ∧ c = 4
  · obtain ⟨e1, e2⟩ := e
    rw [if_pos ⟨e1, e2⟩, e1, e2, upd_at]
  · rw [if_neg e, upd_ne (by omega)]
    unfold cpR va_cpy
    by_cases e2 : p = 5 * j + t (16 + j)
    · rw [if_pos e2, if_pos (by omega)]
      congr 1; omega
    · rw [if_neg e2, if_neg (by omega)]
theorem mv_RC {i j : Nat} (hO : hOk t) (hR : RC t co od) (hi : i < 6) (hj : j < 6) (hij : i ≠ j) (h1 : 0 < t (16 + i)) (hh : t (16 + j) < 5) : RC (moves t i j) (mvC co t i j) od := by
  have h5 := hO i hi
  obtain ⟨r1, r2, r3⟩ := hR
  have h15 : moves t i j 15 = t 15 := moves_sc hi hj hh (by omega) (by omega) (by omega)
  refine ⟨fun p hp ha => ?_, fun p hp ha => ?_, fun o ho c hc => ?_⟩
  · rw [moves_h hi hj hij (by omega)] at ha
    rw [mvC_at hi hj hij h1 h5 hh (by omega), mvC_at hi hj hij h1 h5 hh (by omega), mvC_at hi hj hij h1 h5 hh (by omega), mvC_at hi hj hij h1 h5 hh (by omega), mvC_at hi hj hij h1 h5 hh (by omega), moves_cc hi hj hh (by omega), moves_cc hi hj hh (by omega), moves_cc hi hj hh (by omega), moves_cc hi hj hh (by omega), moves_cc hi hj hh (by omega)]
    have hne : p ≠ 5 * i + t (16 + i) - 1 := by
      intro e
      have : p / 5 = i := by omega
      rw [this, if_neg hij, if_pos rfl] at ha
      omega
    simp only [hne, false_and, if_false]
    by_cases e : p = 5 * j + t (16 + j)
    · simp only [e, if_true]
      have e2 : (5 * i + t (16 + i) - 1) / 5 = i := by omega
      exact r1 (5 * i + t (16 + i) - 1) (by omega) (by rw [e2]; omega)
    · simp only [e, if_false]
      refine r1 p hp ?_
      split at ha
      · rename_i e2; rw [e2]; omega
      · split at ha
        · rename_i e2; rw [e2]; omega
        · exact ha
  · rw [moves_h hi hj hij (by omega)] at ha
    rw [mvC_at hi hj hij h1 h5 hh (by omega)]
    by_cases e1 : p = 5 * i + t (16 + i) - 1
    · rw [if_pos ⟨e1, rfl⟩]
    · rw [if_neg (fun h => e1 h.1)]
      have e2 : p ≠ 5 * j + t (16 + j) := by
        intro e
        apply ha
        have : p / 5 = j := by omega
        rw [this, if_pos rfl]
        omega
      rw [if_neg e2]
      refine r2 p hp fun h => ha ?_
      split
      · rename_i e3; rw [e3] at h; omega
      · split
        · rename_i e3; rw [e3] at h; omega
        · exact h
  · rw [h15] at ho
    rw [r3 o ho c hc]
    congr 1
    exact (moves_sc hi hj hh (by omega) (by omega) (by omega)).symm
theorem k_Yard_moveTop {i j : Nat} (hO : hOk t) (hR : RC t co od) (hi : i < 6) (hj : j < 6) (hij : i ≠ j) (h1 : 0 < t (16 + i)) (hh : t (16 + j) < 5) : x_Yard_moveTop [.ref a, .int (nI i), .int (nI j)] (yM M a t co od, nx) = some (.inl (some (.int (nI (cc t (5 * i + t (16 + i) - 1) 0)))), (yM M a (moves t i j) (mvC co t i j) od, nx)) := by
  have h5 := hO i hi
  have e2 : (5 * i + t (16 + i) - 1) / 5 = i := by omega
  have b4 := (hR.1 (5 * i + t (16 + i) - 1) (by omega) (by rw [e2]; omega)).1
  have ei : i * 5 + t (16 + i) - 1 = 5 * i + t (16 + i) - 1 := by omega
  have ej : j * 5 + t (16 + j) = 5 * j + t (16 + j) := by omega
  have ec : yM M a (updN (updN (updN (updN t (16 + i) (t (16 + i) - 1)) (16 + j) (t (16 + j) + 1)) 6 (t 6 + 1)) 7 (t 7 + far i j)) (mvC co t i j) od = yM M a (moves t i j) (mvC co t i j) od := by
    refine yM_congr fun k hk => ?_
    by_cases h16 : k < 16
    · rw [moves_ot hi hj hh (.inl h16)]
      by_cases e7 : k = 7
      · rw [e7, updN_eq]; rfl
      · rw [updN_ne e7]
        by_cases e6 : k = 6
        · rw [e6, updN_eq]; rfl
        · rw [updN_ne e6, updN_ne (by omega), updN_ne (by omega), if_neg e6, if_neg e7]
    · obtain ⟨x, rfl⟩ : ∃ x, k = 16 + x := ⟨k - 16, by omega⟩
      rw [moves_h hi hj hij (by omega), updN_ne (by omega), updN_ne (by omega)]
      by_cases e : x = j
      · rw [if_pos e, e, updN_eq]
      · rw [if_neg e, updN_ne (by omega)]
        by_cases e' : x = i
        · rw [if_pos e', e', updN_eq]
        · rw [if_neg e', updN_ne (by omega)]
  rw [q_Yard_moveTop (h := yM_a)]
  rw [← ec]
  simp (disch := omega) only [upd_nI, nI_add, pk_mul, zn_lt, zn_le, zn_eq, zn_e0, zn_l0, zn_g0, zn_le0, zn_ge0, zn_m1, zn_m1', zn_m1m, zn_sub, zn_addm, zn_div, eo_none, eo_some, mg_nI, mg_eo1, mg_eo2, mg_eo, mg_int, mg_lng, mg_sm, mg_smN, mg_cons, mg_pair, mg_nm, mg_fn, mg_out, mg_res, mg_sM, zb_e0, zb_e0', rr_nil, ite_self, rr_getfield, gfK_at, rr_putfield, pfK_at, rr_ivS, rr_ivV, rr_ivP, ws_nil, ws_int, ws_ref, ws_lng, cK_1, cK_0, iv_0, iv_1, iv_2, iv_3, iv_4, iv_5, iv_6, iv_7, fgK_l, fgK_r, fgK_if, zf_nil, zf_0, zf_1, zf_2, zf_3, zf_4, zf_5, zf_6, zf_7, zf_8, zf_9, zf_10, cat_K, ct_eq, ct_ne, ct_lt, ct_ge, ct_gt, ct_le, ct_eq0, ct_ne0, ct_lt0, ct_ge0, ct_gt0, ct_le0, ct_nulr, ct_nul, cno_K, nK_d, can_K, aK_d, cor_K, oK_d, cd_t, cd_f, nK_if, aK_if, oK_if, cfo_K, ite_K, iK_d, iK_if, sq_K, sK_nm, sK_x, sK_if, blk_K, bK_s, rti_K, riK_s, rtz_K, rzK_b, rzK_b', rzK_s, rtv_K, rvK_s, rta_K, raK_s, raK_n, rtl_K, rlK_s, rtd_K, rdK_s, brk_K, cnt_K, zr_fn, zr_if, swi_K, swK_s, swg_nil, swg_cons, stp_K, tK_d, tK_if, vK_nm, vK_bk, vK_ct, vK_fn, vK_if, wK_nm, Classical.not_not, Decidable.not_not, not_true, not_false_iff, if_true, if_false, Nat.zero_le, Nat.reduceLeDiff, Nat.reduceLT, Nat.zero_lt_one, Nat.one_ne_zero, Nat.reduceEqDiff, not_false_eq_true, eq_self, reduceCtorEq, Option.getD_some, Option.getD_none, Nat.reduceAdd, Nat.not_le, Nat.not_lt, Int32.not_le, Int32.not_lt, true_and, and_true, false_and, and_false, true_or, or_true, false_or, or_false, d_Yard_moveTop, lc_Yard_moveTop_65, lc_Yard_moveTop_69, lc_Yard_moveTop_85, lc_Yard_moveTop_38, lc_Yard_moveTop_78, lc_Yard_moveTop_88, lf_Yard_moveTop_25, lf_Yard_moveTop_14, lf_Yard_moveTop_35, rr_aload0, rr_iadd, rr_iconstm, rr_iconst1, rr_iconst4, rr_iconst5, rr_iload4, rr_iload1, rr_iload2, rr_iload3, rr_imul, rr_istore4 lb_Yard_moveTop, rr_istore3 lb_Yard_moveTop, rr_isub, lt_T, lt_F, le_T, le_F, eq_T, eq_F, ne_eq, yM_a, yM_1, yM_2, yM_3, yM_4, yM_5, yM_6, yM_7, yM_8, yM_9, yM_10, gY_0, gY_1, gY_2, gY_3, gY_4, gY_5, gY_6, gY_7, pY_5, pY_6, pY_7, y_cget, y_cgetm, y_cput, y_crow, y_oget, y_ogetm, y_oput, y_orow, y_hget, y_hgetm, y_hadd, y_hdec, y_sget, y_sput, y_tget, y_tadd, xAbs_n, xMin_n, xMax_n, ei, ej, b4, updN_ne, mvC]
end
