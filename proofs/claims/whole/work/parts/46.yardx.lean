/-! ===== the component's yard: cuts, serving ===== -/
section
variable {M : Hp} {nx a : Nat} {t t' s : Nat → Nat} {co od : Nat → Int32} {m : Nat}
def cutO (od : Nat → Int32) (s : Nat → Nat) (o p : Nat) : Nat → Int32 := upd od (6 * o + 4) (nI (oo s o 4 - cuts s o p))
def cutC (co : Nat → Int32) (s : Nat → Nat) (o p : Nat) : Nat → Int32 := if restOf s o p < s 0 then upd co (5 * p + 4) (-1) else putC (upd co (5 * p + 4) (-1)) p (s 4) (restOf s o p) (cc s p 2) (cc s p 3 - s 2) 1
theorem RC_cut {o p : Nat} (hR : RC s co od) (hp : p < 30) (hs : s (16 + p / 5) = p % 5 + 1) : RC (cut s o p) (cutC co s o p) (cutO od s o p) := by
  obtain ⟨r1, r2, r3⟩ := hR
  have hcc := fun (q c : Nat) (hq : q < 30) (hc : c < 5) => cut_cc (o := o) hp hs hq hc
  refine ⟨fun q hq ha => ?_, fun q hq ha => ?_, fun j hj c hc => ?_⟩
  · rw [cut_h hp hs (by omega)] at ha
    rw [hcc q 0 hq (by omega), hcc q 1 hq (by omega), hcc q 2 hq (by omega), hcc q 3 hq (by omega), hcc q 4 hq (by omega)]
    unfold cutC
    by_cases hr : restOf s o p < s 0
    · have hne : q ≠ p := by
        intro e
        rw [e, if_pos ⟨rfl, hr⟩] at ha
        omega
      simp only [hr, not_true, and_false, if_true, if_false]
      rw [upd_ne (by omega), upd_ne (by omega), upd_ne (by omega), upd_ne (by omega), upd_ne (by omega)]
      refine r1 q hq ?_
      split at ha
      · rename_i e; rw [e.1]; omega
      · exact ha
    · simp only [hr, not_false_eq_true, and_true, if_false]
      simp only [hr, and_false, if_false] at ha
      by_cases e : q = p
      · simp only [if_pos e]
        rw [e]
        exact putC_at
      · simp only [if_neg e]
        rw [putC_ne (by omega), putC_ne (by omega), putC_ne (by omega), putC_ne (by omega), putC_ne (by omega), upd_ne (by omega), upd_ne (by omega), upd_ne (by omega), upd_ne (by omega), upd_ne (by omega)]
        exact r1 q hq ha
  · rw [cut_h hp hs (by omega)] at ha
    unfold cutC
    by_cases hr : restOf s o p < s 0
    · rw [if_pos hr]
      by_cases e : q = p
      · rw [e, upd_at]
      · rw [upd_ne (by omega)]
        refine r2 q hq fun h => ha ?_
        split
        · rename_i e2; rw [e2.1, hs] at h; omega
        · exact h
    · simp only [hr, and_false, if_false] at ha
      rw [if_neg hr]
      have e : q ≠ p := by
        intro e; rw [e, hs] at ha; omega
      rw [putC_ne (by omega), upd_ne (by omega)]
      exact r2 q hq ha
  · have e15 : cut s o p 15 = s 15 := cut_low hp hs (by omega)
    rw [e15] at hj
    rw [cut_oo hp hs hc]
    unfold cutO
    by_cases e : j = o ∧ c = 4
    · rw [if_pos e, e.1, e.2, upd_at]
    · rw [if_neg e, upd_ne (by omega)]
      exact r3 j hj c hc
theorem xMax_s {p q : Nat} (hp : p < 2 ^ 30) (hq : q < 2 ^ 30) {g : G} : xMax [.int (nI p - nI q), .int (nI 0)] g = some (.inl (some (.int (nI (p - q)))), g) := by
  unfold xMax
  dsimp only
  by_cases h : p < q
  · rw [if_pos (by rw [show nI 0 = 0 from rfl, zn_sl0 hp hq]; exact h), show p - q = 0 by omega]
  · rw [if_neg (by rw [show nI 0 = 0 from rfl, zn_sl0 hp hq]; exact h), zn_sub (by omega)]
theorem k_Yard_cutTop {o p : Nat} (hI : IV m s) (hR : RC s co od) (ho : o < s 15) (hp : p < 30) (hs : s (16 + p / 5) = p % 5 + 1) : x_Yard_cutTop [.ref a, .int (nI o), .int (nI (p / 5))] (yM M a s co od, nx) = some (.inl (some (.int (nI (cuts s o p)))), (yM M a (cut s o p) (cutC co s o p) (cutO od s o p), nx)) := by
  have h8 := hI.t15
  have ha : p % 5 < s (16 + p / 5) := by omega
  have ht : takeW s o = oo s o 3 + s 1 := rfl
  obtain ⟨o0, o1, o2, o3, o4, o5, o6, o7, o8⟩ := hI.2.2.1 o ho
  obtain ⟨b4, b0, b1, b2, b3⟩ := hR.1 p hp ha
  obtain ⟨c0, c1, c2, c3, c4⟩ := hI.2.1 p hp ha
  obtain ⟨s0, s1, s2, s3, s4, s5⟩ := hI.2.2.2.2.1
  have e3 := hR.2.2 o ho 3 (by omega)
  have e4 := hR.2.2 o ho 4 (by omega)
  have e5 := hR.2.2 o ho 5 (by omega)
  have ef : cc s p 1 / takeW s o = fits s o p := rfl
  have f1 : fits s o p ≤ 200 := Nat.le_trans (Nat.div_le_self _ _) c1
  have f2 := @cuts_mul s o p
  have f4 := (@cuts_le s o p).2
  have ec : (if oo s o 4 < fits s o p then oo s o 4 else fits s o p) = cuts s o p := by
    unfold cuts; exact min_sw
  have f3 : cuts s o p * takeW s o ≤ cc s p 1 := f2
  have er : cc s p 1 - cuts s o p * takeW s o = restOf s o p := rfl
  have f5 : restOf s o p ≤ 200 := by omega
  have ep : p / 5 * 5 + s (16 + p / 5) - 1 = p := by omega
  have ed : ∀ j, j ≠ 4 → j < 6 → upd od (6 * o + 4) (nI (oo s o 4 - cuts s o p)) (6 * o + j) = od (6 * o + j) := fun j hj hj6 => upd_ne (by omega)
  have eF : updN (updN (updN (updN (updN s (16 + p / 5) (s (16 + p / 5) - 1)) 8 (s 8 + cuts s o p)) 9 (s 9 + cuts s o p * oo s o 3)) 10 (s 10 + cuts s o p * s 1)) 12 (s 12 + cuts s o p * oo s o 5) = cutA s o p := rfl
  have hA : ∀ x, x ≠ 16 + p / 5 → x ≠ 8 → x ≠ 9 → x ≠ 10 → x ≠ 12 → cutA s o p x = s x := fun x a b c d e => cutA_ne a b c d e
  have hq : cutA s o p (16 + p / 5) = p % 5 := by rw [cutA_h hp, hs]; rfl
  have eP : 5 * (p / 5) + p % 5 = p := by omega
  have hput := k_Yard_putOnTop (M := M) (nx := nx) (a := a) (t := cutA s o p) (co := upd co (5 * p + 4) (-1)) (od := cutO od s o p) (k := p / 5) (w := restOf s o p) (g := cc s p 2) (q := cc s p 3 - s 2) (r := 1) (by omega) (by omega)
  rw [hq, eP, hA 4 (by omega) (by omega) (by omega) (by omega) (by omega)] at hput
  have hcut : yM M a (if restOf s o p < s 0 then updN (cutA s o p) 11 (s 11 + restOf s o p) else updN (lays (cutA s o p) (p / 5) (s 4) (restOf s o p) (cc s p 2) (cc s p 3 - s 2) 1) 4 (s 4 + 1)) (cutC co s o p) (cutO od s o p) = yM M a (cut s o p) (cutC co s o p) (cutO od s o p) := by
    refine yM_congr fun x hx => ?_
    unfold cut cutB
    rw [updN_ne (by omega)]
  have htake := k_Yard_takeTop (M := M) (nx := nx) (a := a) (co := co) (od := od) hp hs
  rw [q_Yard_cutTop (h := yM_a), ← hcut]
  by_cases hr : restOf s o p < s 0
  · have eC : cutC co s o p = upd co (5 * p + 4) (-1) := by unfold cutC; rw [if_pos hr]
    rw [if_pos hr, eC]
    simp (disch := omega) only [upd_nI, nI_add, pk_mul, zn_lt, zn_le, zn_eq, zn_e0, zn_l0, zn_g0, zn_le0, zn_ge0, zn_m1, zn_m1', zn_m1m, zn_sub, zn_addm, zn_div, eo_none, eo_some, mg_nI, mg_eo1, mg_eo2, mg_eo, mg_int, mg_lng, mg_sm, mg_smN, mg_cons, mg_pair, mg_nm, mg_fn, mg_out, mg_res, mg_sM, zb_e0, zb_e0', rr_nil, ite_self, rr_getfield, gfK_at, rr_putfield, pfK_at, rr_ivS, rr_ivV, rr_ivP, ws_nil, ws_int, ws_ref, ws_lng, cK_1, cK_0, iv_0, iv_1, iv_2, iv_3, iv_4, iv_5, iv_6, iv_7, fgK_l, fgK_r, fgK_if, zf_nil, zf_0, zf_1, zf_2, zf_3, zf_4, zf_5, zf_6, zf_7, zf_8, zf_9, zf_10, cat_K, ct_eq, ct_ne, ct_lt, ct_ge, ct_gt, ct_le, ct_eq0, ct_ne0, ct_lt0, ct_ge0, ct_gt0, ct_le0, ct_nulr, ct_nul, cno_K, nK_d, can_K, aK_d, cor_K, oK_d, cd_t, cd_f, nK_if, aK_if, oK_if, cfo_K, ite_K, iK_d, iK_if, sq_K, sK_nm, sK_x, sK_if, blk_K, bK_s, rti_K, riK_s, rtz_K, rzK_b, rzK_b', rzK_s, rtv_K, rvK_s, rta_K, raK_s, raK_n, rtl_K, rlK_s, rtd_K, rdK_s, brk_K, cnt_K, zr_fn, zr_if, swi_K, swK_s, swg_nil, swg_cons, stp_K, tK_d, tK_if, vK_nm, vK_bk, vK_ct, vK_fn, vK_if, wK_nm, Classical.not_not, Decidable.not_not, not_true, not_false_iff, if_true, if_false, Nat.zero_le, Nat.reduceLeDiff, Nat.reduceLT, Nat.zero_lt_one, Nat.one_ne_zero, Nat.reduceEqDiff, not_false_eq_true, eq_self, reduceCtorEq, Option.getD_some, Option.getD_none, Nat.reduceAdd, Nat.not_le, Nat.not_lt, Int32.not_le, Int32.not_lt, true_and, and_true, false_and, and_false, true_or, or_true, false_or, or_false, d_Yard_cutTop, lc_Yard_cutTop_65, lc_Yard_cutTop_69, lc_Yard_cutTop_114, lc_Yard_cutTop_121, lc_Yard_cutTop_136, lc_Yard_cutTop_93, lc_Yard_cutTop_38, lc_Yard_cutTop_78, lc_Yard_cutTop_139, lc_Yard_cutTop_81, lf_Yard_cutTop_25, lf_Yard_cutTop_14, lf_Yard_cutTop_29, lf_Yard_cutTop_35, lf_Yard_cutTop_32, rr_aload0, rr_bipush10, rr_bipush6, rr_bipush7, rr_bipush8, rr_bipush9, rr_iadd, rr_iconst0, rr_iconst1, rr_iconst2, rr_iconst3, rr_iconst4, rr_iconst5, rr_iload10, rr_iload4, rr_iload5, rr_iload6, rr_iload7, rr_iload8, rr_iload9, rr_iload1, rr_iload2, rr_iload3, rr_imul, rr_istore10 lb_Yard_cutTop, rr_istore4 lb_Yard_cutTop, rr_istore5 lb_Yard_cutTop, rr_istore6 lb_Yard_cutTop, rr_istore7 lb_Yard_cutTop, rr_istore8 lb_Yard_cutTop, rr_istore9 lb_Yard_cutTop, rr_istore3 lb_Yard_cutTop, rr_isub, rr_pop, lt_T, lt_F, le_T, le_F, eq_T, eq_F, ne_eq, yM_a, yM_1, yM_2, yM_3, yM_4, yM_5, yM_6, yM_7, yM_8, yM_9, yM_10, gY_0, gY_1, gY_2, gY_3, gY_4, gY_5, gY_6, gY_7, pY_5, pY_6, pY_7, y_cget, y_cgetm, y_cput, y_crow, y_oget, y_ogetm, y_oput, y_orow, y_hget, y_hgetm, y_hadd, y_hdec, y_sget, y_sput, y_tget, y_tadd, xAbs_n, xMin_n, xMax_n, ep, b0, b1, b2, e3, e4, e5, k_Yard_widthTaken hR ho h8, k_Yard_stripsIn, ef, ec, zn_sub f3, er, htake, ed, updN_ne, eF, hA, cutO]
  · have eC : cutC co s o p = putC (upd co (5 * p + 4) (-1)) p (s 4) (restOf s o p) (cc s p 2) (cc s p 3 - s 2) 1 := by unfold cutC; rw [if_neg hr]
    rw [if_neg hr, eC]
    have hput2 := hput
    unfold cutO at hput
    simp (disch := omega) only [upd_nI, nI_add, pk_mul, zn_lt, zn_le, zn_eq, zn_e0, zn_l0, zn_g0, zn_le0, zn_ge0, zn_m1, zn_m1', zn_m1m, zn_sub, zn_addm, zn_div, eo_none, eo_some, mg_nI, mg_eo1, mg_eo2, mg_eo, mg_int, mg_lng, mg_sm, mg_smN, mg_cons, mg_pair, mg_nm, mg_fn, mg_out, mg_res, mg_sM, zb_e0, zb_e0', rr_nil, ite_self, rr_getfield, gfK_at, rr_putfield, pfK_at, rr_ivS, rr_ivV, rr_ivP, ws_nil, ws_int, ws_ref, ws_lng, cK_1, cK_0, iv_0, iv_1, iv_2, iv_3, iv_4, iv_5, iv_6, iv_7, fgK_l, fgK_r, fgK_if, zf_nil, zf_0, zf_1, zf_2, zf_3, zf_4, zf_5, zf_6, zf_7, zf_8, zf_9, zf_10, cat_K, ct_eq, ct_ne, ct_lt, ct_ge, ct_gt, ct_le, ct_eq0, ct_ne0, ct_lt0, ct_ge0, ct_gt0, ct_le0, ct_nulr, ct_nul, cno_K, nK_d, can_K, aK_d, cor_K, oK_d, cd_t, cd_f, nK_if, aK_if, oK_if, cfo_K, ite_K, iK_d, iK_if, sq_K, sK_nm, sK_x, sK_if, blk_K, bK_s, rti_K, riK_s, rtz_K, rzK_b, rzK_b', rzK_s, rtv_K, rvK_s, rta_K, raK_s, raK_n, rtl_K, rlK_s, rtd_K, rdK_s, brk_K, cnt_K, zr_fn, zr_if, swi_K, swK_s, swg_nil, swg_cons, stp_K, tK_d, tK_if, vK_nm, vK_bk, vK_ct, vK_fn, vK_if, wK_nm, Classical.not_not, Decidable.not_not, not_true, not_false_iff, if_true, if_false, Nat.zero_le, Nat.reduceLeDiff, Nat.reduceLT, Nat.zero_lt_one, Nat.one_ne_zero, Nat.reduceEqDiff, not_false_eq_true, eq_self, reduceCtorEq, Option.getD_some, Option.getD_none, Nat.reduceAdd, Nat.not_le, Nat.not_lt, Int32.not_le, Int32.not_lt, true_and, and_true, false_and, and_false, true_or, or_true, false_or, or_false, d_Yard_cutTop, lc_Yard_cutTop_65, lc_Yard_cutTop_69, lc_Yard_cutTop_114, lc_Yard_cutTop_121, lc_Yard_cutTop_136, lc_Yard_cutTop_93, lc_Yard_cutTop_38, lc_Yard_cutTop_78, lc_Yard_cutTop_139, lc_Yard_cutTop_81, lf_Yard_cutTop_25, lf_Yard_cutTop_14, lf_Yard_cutTop_29, lf_Yard_cutTop_35, lf_Yard_cutTop_32, rr_aload0, rr_bipush10, rr_bipush6, rr_bipush7, rr_bipush8, rr_bipush9, rr_iadd, rr_iconst0, rr_iconst1, rr_iconst2, rr_iconst3, rr_iconst4, rr_iconst5, rr_iload10, rr_iload4, rr_iload5, rr_iload6, rr_iload7, rr_iload8, rr_iload9, rr_iload1, rr_iload2, rr_iload3, rr_imul, rr_istore10 lb_Yard_cutTop, rr_istore4 lb_Yard_cutTop, rr_istore5 lb_Yard_cutTop, rr_istore6 lb_Yard_cutTop, rr_istore7 lb_Yard_cutTop, rr_istore8 lb_Yard_cutTop, rr_istore9 lb_Yard_cutTop, rr_istore3 lb_Yard_cutTop, rr_isub, rr_pop, lt_T, lt_F, le_T, le_F, eq_T, eq_F, ne_eq, yM_a, yM_1, yM_2, yM_3, yM_4, yM_5, yM_6, yM_7, yM_8, yM_9, yM_10, gY_0, gY_1, gY_2, gY_3, gY_4, gY_5, gY_6, gY_7, pY_5, pY_6, pY_7, y_cget, y_cgetm, y_cput, y_crow, y_oget, y_ogetm, y_oput, y_orow, y_hget, y_hgetm, y_hadd, y_hdec, y_sget, y_sput, y_tget, y_tadd, xAbs_n, xMin_n, xMax_n, ep, b0, b1, b2, e3, e4, e5, k_Yard_widthTaken hR ho h8, k_Yard_stripsIn, ef, ec, zn_sub f3, er, htake, ed, updN_ne, eF, hA, xMax_s, hput, cutO]
theorem k_Yard_dropIfDone {o : Nat} (hR : RC t co od) (ho : o < t 15) (h8 : t 15 ≤ 8) (hb : oo t o 4 ≤ 40) : x_Yard_dropIfDone [.ref a, .int (nI o)] (yM M a t co od, nx) = if oo t o 4 = 0 then some (.inl none, (yM M a (orderGoes t o) co (drO od o (t 15 - 1 - o)), nx)) else some (.inl none, (yM M a t co od, nx)) := by
  have e4 := hR.2.2 o ho 4 (by omega)
  rw [q_Yard_dropIfDone (h := yM_a)]
  by_cases h : oo t o 4 = 0
  · simp (disch := omega) only [upd_nI, nI_add, pk_mul, zn_lt, zn_le, zn_eq, zn_e0, zn_l0, zn_g0, zn_le0, zn_ge0, zn_m1, zn_m1', zn_m1m, zn_sub, zn_addm, zn_div, eo_none, eo_some, mg_nI, mg_eo1, mg_eo2, mg_eo, mg_int, mg_lng, mg_sm, mg_smN, mg_cons, mg_pair, mg_nm, mg_fn, mg_out, mg_res, mg_sM, zb_e0, zb_e0', rr_nil, ite_self, rr_getfield, gfK_at, rr_putfield, pfK_at, rr_ivS, rr_ivV, rr_ivP, ws_nil, ws_int, ws_ref, ws_lng, cK_1, cK_0, iv_0, iv_1, iv_2, iv_3, iv_4, iv_5, iv_6, iv_7, fgK_l, fgK_r, fgK_if, zf_nil, zf_0, zf_1, zf_2, zf_3, zf_4, zf_5, zf_6, zf_7, zf_8, zf_9, zf_10, cat_K, ct_eq, ct_ne, ct_lt, ct_ge, ct_gt, ct_le, ct_eq0, ct_ne0, ct_lt0, ct_ge0, ct_gt0, ct_le0, ct_nulr, ct_nul, cno_K, nK_d, can_K, aK_d, cor_K, oK_d, cd_t, cd_f, nK_if, aK_if, oK_if, cfo_K, ite_K, iK_d, iK_if, sq_K, sK_nm, sK_x, sK_if, blk_K, bK_s, rti_K, riK_s, rtz_K, rzK_b, rzK_b', rzK_s, rtv_K, rvK_s, rta_K, raK_s, raK_n, rtl_K, rlK_s, rtd_K, rdK_s, brk_K, cnt_K, zr_fn, zr_if, swi_K, swK_s, swg_nil, swg_cons, stp_K, tK_d, tK_if, vK_nm, vK_bk, vK_ct, vK_fn, vK_if, wK_nm, Classical.not_not, Decidable.not_not, not_true, not_false_iff, if_true, if_false, Nat.zero_le, Nat.reduceLeDiff, Nat.reduceLT, Nat.zero_lt_one, Nat.one_ne_zero, Nat.reduceEqDiff, not_false_eq_true, eq_self, reduceCtorEq, Option.getD_some, Option.getD_none, Nat.reduceAdd, Nat.not_le, Nat.not_lt, Int32.not_le, Int32.not_lt, true_and, and_true, false_and, and_false, true_or, or_true, false_or, or_false, d_Yard_dropIfDone, lc_Yard_dropIfDone_69, lc_Yard_dropIfDone_105, lf_Yard_dropIfDone_29, rr_aload0, rr_iconst4, rr_iload1, lt_T, lt_F, le_T, le_F, eq_T, eq_F, ne_eq, yM_a, yM_1, yM_2, yM_3, yM_4, yM_5, yM_6, yM_7, yM_8, yM_9, yM_10, gY_0, gY_1, gY_2, gY_3, gY_4, gY_5, gY_6, gY_7, pY_5, pY_6, pY_7, y_cget, y_cgetm, y_cput, y_crow, y_oget, y_ogetm, y_oput, y_orow, y_hget, y_hgetm, y_hadd, y_hdec, y_sget, y_sput, y_tget, y_tadd, xAbs_n, xMin_n, xMax_n, e4, h, k_Yard_dropOrder ho h8]
  · simp (disch := omega) only [upd_nI, nI_add, pk_mul, zn_lt, zn_le, zn_eq, zn_e0, zn_l0, zn_g0, zn_le0, zn_ge0, zn_m1, zn_m1', zn_m1m, zn_sub, zn_addm, zn_div, eo_none, eo_some, mg_nI, mg_eo1, mg_eo2, mg_eo, mg_int, mg_lng, mg_sm, mg_smN, mg_cons, mg_pair, mg_nm, mg_fn, mg_out, mg_res, mg_sM, zb_e0, zb_e0', rr_nil, ite_self, rr_getfield, gfK_at, rr_putfield, pfK_at, rr_ivS, rr_ivV, rr_ivP, ws_nil, ws_int, ws_ref, ws_lng, cK_1, cK_0, iv_0, iv_1, iv_2, iv_3, iv_4, iv_5, iv_6, iv_7, fgK_l, fgK_r, fgK_if, zf_nil, zf_0, zf_1, zf_2, zf_3, zf_4, zf_5, zf_6, zf_7, zf_8, zf_9, zf_10, cat_K, ct_eq, ct_ne, ct_lt, ct_ge, ct_gt, ct_le, ct_eq0, ct_ne0, ct_lt0, ct_ge0, ct_gt0, ct_le0, ct_nulr, ct_nul, cno_K, nK_d, can_K, aK_d, cor_K, oK_d, cd_t, cd_f, nK_if, aK_if, oK_if, cfo_K, ite_K, iK_d, iK_if, sq_K, sK_nm, sK_x, sK_if, blk_K, bK_s, rti_K, riK_s, rtz_K, rzK_b, rzK_b', rzK_s, rtv_K, rvK_s, rta_K, raK_s, raK_n, rtl_K, rlK_s, rtd_K, rdK_s, brk_K, cnt_K, zr_fn, zr_if, swi_K, swK_s, swg_nil, swg_cons, stp_K, tK_d, tK_if, vK_nm, vK_bk, vK_ct, vK_fn, vK_if, wK_nm, Classical.not_not, Decidable.not_not, not_true, not_false_iff, if_true, if_false, Nat.zero_le, Nat.reduceLeDiff, Nat.reduceLT, Nat.zero_lt_one, Nat.one_ne_zero, Nat.reduceEqDiff, not_false_eq_true, eq_self, reduceCtorEq, Option.getD_some, Option.getD_none, Nat.reduceAdd, Nat.not_le, Nat.not_lt, Int32.not_le, Int32.not_lt, true_and, and_true, false_and, and_false, true_or, or_true, false_or, or_false, d_Yard_dropIfDone, lc_Yard_dropIfDone_69, lc_Yard_dropIfDone_105, lf_Yard_dropIfDone_29, rr_aload0, rr_iconst4, rr_iload1, lt_T, lt_F, le_T, le_F, eq_T, eq_F, ne_eq, yM_a, yM_1, yM_2, yM_3, yM_4, yM_5, yM_6, yM_7, yM_8, yM_9, yM_10, gY_0, gY_1, gY_2, gY_3, gY_4, gY_5, gY_6, gY_7, pY_5, pY_6, pY_7, y_cget, y_cgetm, y_cput, y_crow, y_oget, y_ogetm, y_oput, y_orow, y_hget, y_hgetm, y_hadd, y_hdec, y_sget, y_sput, y_tget, y_tadd, xAbs_n, xMin_n, xMax_n, e4, h]
end
