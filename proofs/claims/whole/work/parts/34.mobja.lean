/-! ===== the reference's object: saving, and undoing ===== -/
section
variable {M : Hp} {nx : Nat} {t u ps tx : Nat → Nat} {td : Nat → Int32} {kp ty th at' tl : Nat} {ft : Int32} {m : Nat}
theorem k_Mod_fails {n : Nat} : x_Mod_fails [.ref 98, .int (nI n)] (mM M (fM kp ty th at' ft tl) t u ps tx td, nx) = some (.inl (some (.int (nI 0))), (mM M (fM kp ty n at' ft tl) t u ps tx td, nx)) := by
  rw [q_Mod_fails (h := mM_98)]
  simp (disch := omega) only [upd_nI, nI_add, pk_mul, zn_lt, zn_le, zn_eq, zn_e0, zn_l0, zn_g0, zn_le0, zn_ge0, zn_m1, zn_m1', zn_m1m, zn_sub, zn_addm, zn_div, eo_none, eo_some, mg_nI, mg_eo1, mg_eo2, mg_eo, mg_int, mg_lng, mg_sm, mg_smN, mg_cons, mg_pair, mg_nm, mg_fn, mg_out, mg_res, mg_sM, zb_e0, zb_e0', rr_nil, ite_self, rr_getfield, gfK_at, rr_putfield, pfK_at, rr_ivS, rr_ivV, rr_ivP, ws_nil, ws_int, ws_ref, ws_lng, cK_1, cK_0, iv_0, iv_1, iv_2, iv_3, iv_4, iv_5, iv_6, iv_7, fgK_l, fgK_r, fgK_if, zf_nil, zf_0, zf_1, zf_2, zf_3, zf_4, zf_5, zf_6, zf_7, zf_8, zf_9, zf_10, cat_K, ct_eq, ct_ne, ct_lt, ct_ge, ct_gt, ct_le, ct_eq0, ct_ne0, ct_lt0, ct_ge0, ct_gt0, ct_le0, ct_nulr, ct_nul, cno_K, nK_d, can_K, aK_d, cor_K, oK_d, cd_t, cd_f, nK_if, aK_if, oK_if, cfo_K, ite_K, iK_d, iK_if, sq_K, sK_nm, sK_x, sK_if, blk_K, bK_s, rti_K, riK_s, rtz_K, rzK_b, rzK_b', rzK_s, rtv_K, rvK_s, rta_K, raK_s, raK_n, rtl_K, rlK_s, rtd_K, rdK_s, brk_K, cnt_K, zr_fn, zr_if, swi_K, swK_s, swg_nil, swg_cons, stp_K, tK_d, tK_if, vK_nm, vK_bk, vK_ct, vK_fn, vK_if, wK_nm, Classical.not_not, Decidable.not_not, not_true, not_false_iff, if_true, if_false, Nat.zero_le, Nat.reduceLeDiff, Nat.reduceLT, Nat.zero_lt_one, Nat.one_ne_zero, Nat.reduceEqDiff, not_false_eq_true, eq_self, reduceCtorEq, Option.getD_some, Option.getD_none, Nat.reduceAdd, Nat.not_le, Nat.not_lt, Int32.not_le, Int32.not_lt, true_and, and_true, false_and, and_false, true_or, or_true, false_or, or_false, d_Mod_fails, lf_Mod_fails_25, rr_aload0, rr_iconst0, rr_iload1, mM_98, mM_99, mM_100, mM_101, mM_102, mM_103, mr_t, mr_p, mr_x, mr_d, mw_t, mw_p, mw_x, mw_d, g_now, g_then, g_past, g_kept, g_text, g_typed, g_thrown, g_at, g_fault, g_told, g_tolds, p_kept, p_typed, p_thrown, p_at, p_fault, p_fault0, p_tolds, rr_getfield, rr_putfield]
theorem k_Mod_thrown : x_Mod_thrown [.ref 98] (mM M (fM kp ty th at' ft tl) t u ps tx td, nx) = some (.inl (some (.int (nI th))), (mM M (fM kp ty th at' ft tl) t u ps tx td, nx)) := by
  rw [q_Mod_thrown (h := mM_98)]
  simp (disch := omega) only [upd_nI, nI_add, pk_mul, zn_lt, zn_le, zn_eq, zn_e0, zn_l0, zn_g0, zn_le0, zn_ge0, zn_m1, zn_m1', zn_m1m, zn_sub, zn_addm, zn_div, eo_none, eo_some, mg_nI, mg_eo1, mg_eo2, mg_eo, mg_int, mg_lng, mg_sm, mg_smN, mg_cons, mg_pair, mg_nm, mg_fn, mg_out, mg_res, mg_sM, zb_e0, zb_e0', rr_nil, ite_self, rr_getfield, gfK_at, rr_putfield, pfK_at, rr_ivS, rr_ivV, rr_ivP, ws_nil, ws_int, ws_ref, ws_lng, cK_1, cK_0, iv_0, iv_1, iv_2, iv_3, iv_4, iv_5, iv_6, iv_7, fgK_l, fgK_r, fgK_if, zf_nil, zf_0, zf_1, zf_2, zf_3, zf_4, zf_5, zf_6, zf_7, zf_8, zf_9, zf_10, cat_K, ct_eq, ct_ne, ct_lt, ct_ge, ct_gt, ct_le, ct_eq0, ct_ne0, ct_lt0, ct_ge0, ct_gt0, ct_le0, ct_nulr, ct_nul, cno_K, nK_d, can_K, aK_d, cor_K, oK_d, cd_t, cd_f, nK_if, aK_if, oK_if, cfo_K, ite_K, iK_d, iK_if, sq_K, sK_nm, sK_x, sK_if, blk_K, bK_s, rti_K, riK_s, rtz_K, rzK_b, rzK_b', rzK_s, rtv_K, rvK_s, rta_K, raK_s, raK_n, rtl_K, rlK_s, rtd_K, rdK_s, brk_K, cnt_K, zr_fn, zr_if, swi_K, swK_s, swg_nil, swg_cons, stp_K, tK_d, tK_if, vK_nm, vK_bk, vK_ct, vK_fn, vK_if, wK_nm, Classical.not_not, Decidable.not_not, not_true, not_false_iff, if_true, if_false, Nat.zero_le, Nat.reduceLeDiff, Nat.reduceLT, Nat.zero_lt_one, Nat.one_ne_zero, Nat.reduceEqDiff, not_false_eq_true, eq_self, reduceCtorEq, Option.getD_some, Option.getD_none, Nat.reduceAdd, Nat.not_le, Nat.not_lt, Int32.not_le, Int32.not_lt, true_and, and_true, false_and, and_false, true_or, or_true, false_or, or_false, d_Mod_thrown, lf_Mod_thrown_25, rr_aload0, mM_98, mM_99, mM_100, mM_101, mM_102, mM_103, mr_t, mr_p, mr_x, mr_d, mw_t, mw_p, mw_x, mw_d, g_now, g_then, g_past, g_kept, g_text, g_typed, g_thrown, g_at, g_fault, g_told, g_tolds, p_kept, p_typed, p_thrown, p_at, p_fault, p_fault0, p_tolds, rr_getfield, rr_putfield]
def shP (ps : Nat → Nat) (n : Nat) : Nat → Nat := fun k => if k < n then ps (k + 220) else ps k
def cpP (ps t : Nat → Nat) (b n : Nat) : Nat → Nat := fun k => if b ≤ k ∧ k < b + n then t (k - b) else ps k
def savP (kp : Nat) (ps t : Nat → Nat) : Nat → Nat := if kp = 6 then cpP (shP ps 1100) t 1100 220 else cpP ps t (220 * kp) 220
def savK (kp : Nat) : Nat := if kp = 6 then 6 else kp + 1
def ldP (t ps : Nat → Nat) (b n : Nat) : Nat → Nat := fun k => if k < n then ps (b + k) else t k
theorem shP_0 : shP ps 0 = ps := by funext k; unfold shP; rw [if_neg (by omega)]
theorem shP_s {n : Nat} : updN (shP ps n) n (shP ps n (n + 220)) = shP ps (n + 1) := by
  funext k; unfold updN shP
  by_cases e : k = n
  · rw [if_pos e, if_neg (by omega), if_pos (by omega), e]
  · rw [if_neg e]
    by_cases h : k < n
    · rw [if_pos h, if_pos (by omega)]
    · rw [if_neg h, if_neg (by omega)]
theorem cpP_0 {b : Nat} : cpP ps t b 0 = ps := by funext k; unfold cpP; rw [if_neg (by omega)]
theorem cpP_s {b n : Nat} : updN (cpP ps t b n) (b + n) (t n) = cpP ps t b (n + 1) := by
  funext k; unfold updN cpP
  by_cases e : k = b + n
  · rw [if_pos e, if_pos (by omega), e, Nat.add_sub_cancel_left]
  · rw [if_neg e]
    by_cases h : b ≤ k ∧ k < b + n
    · rw [if_pos h, if_pos (by omega)]
    · rw [if_neg h, if_neg (by omega)]
theorem ldP_0 {b : Nat} : ldP t ps b 0 = t := by funext k; unfold ldP; rw [if_neg (by omega)]
theorem ldP_s {b n : Nat} : updN (ldP t ps b n) n (ps (b + n)) = ldP t ps b (n + 1) := by
  funext k; unfold updN ldP
  by_cases e : k = n
  · rw [if_pos e, if_pos (by omega), e]
  · rw [if_neg e]
    by_cases h : k < n
    · rw [if_pos h, if_pos (by omega)]
    · rw [if_neg h, if_neg (by omega)]
end
