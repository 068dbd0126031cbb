/-! ===== new objects ===== -/
section
variable {M N : Hp} {a r n c nx A v i k : Nat} {E : Env} {rr : List Instr} {L : List (Option Value)} {S : List Value} {g : G} {T : Nat → Option (Nat × (Nat → Int32))} {x : Int32}
def hf (k : Nat) : Nat → Option Nat := fun i => if i < k then some (29 + 11 * i) else none
theorem hf_s : va_up (hf k) k (some (29 + 11 * k)) = hf (k + 1) := by
  funext j
  unfold va_up hf
  by_cases e : j = k
  · rw [if_pos e, if_pos (by omega), e]
  · rw [if_neg e]
    by_cases e2 : j < k
    · rw [if_pos e2, if_pos (by omega)]
    · rw [if_neg e2, if_neg (by omega)]
theorem hf_0 : hf 0 = fun _ => none := by
  funext j
  unfold hf
  rw [if_neg (by omega)]
/-- the history with its first yards -/
def hN (M : Hp) : Nat → Hp
  | 0 => zup (zup (zup M 27 (cO 3 [.null, .int 0, .int 0])) 28 (cR 6 (fun _ => none))) 27 (cO 3 [.ref 28, .int 0, .int 0])
  | k + 1 => zup (yM (hN M k) (29 + 11 * k) t00 co00 od00) 28 (cR 6 (hf (k + 1)))
theorem hN_s : hN M (k + 1) = zup (yM (hN M k) (29 + 11 * k) t00 co00 od00) 28 (cR 6 (hf (k + 1))) := rfl
theorem hN_27 : ∀ k, hN M k 27 = some (cO 3 [.ref 28, .int 0, .int 0])
  | 0 => zup_eq
  | k + 1 => by rw [hN_s, zup_ne (by omega), yM_ne (by omega)]; exact hN_27 k
theorem hN_28 : ∀ k, hN M k 28 = some (cR 6 (hf k))
  | 0 => by
    rw [hf_0]
    show zup _ 27 _ 28 = _
    rw [zup_ne (by omega), zup_eq]
  | k + 1 => by rw [hN_s, zup_eq]
theorem hN_lo (h : i < 27) : ∀ k, hN M k i = M i
  | 0 => by
    show zup _ 27 _ i = _
    rw [zup_ne (by omega), zup_ne (by omega), zup_ne (by omega)]
  | k + 1 => by rw [hN_s, zup_ne (by omega), yM_ne (by omega)]; exact hN_lo h k
theorem hN_hi (h : 94 < i) : ∀ k, k ≤ 6 → hN M k i = M i
  | 0, _ => by
    show zup _ 27 _ i = _
    rw [zup_ne (by omega), zup_ne (by omega), zup_ne (by omega)]
  | k + 1, hk => by rw [hN_s, zup_ne (by omega), yM_ne (by omega)]; exact hN_hi h k (by omega)
theorem hN_in {j : Nat} (h1 : 29 + 11 * j ≤ i) (h2 : i ≤ 29 + 11 * j + 10) : ∀ k, j < k → hN M k i = yM N (29 + 11 * j) t00 co00 od00 i
  | 0, h => absurd h (Nat.not_lt_zero j)
  | k + 1, h => by
    rw [hN_s, zup_ne (by omega)]
    by_cases e : j = k
    · subst e
      exact yM_in h1 h2
    · rw [yM_ne (by omega)]
      exact hN_in h1 h2 k (by omega)
theorem hst_k {K : Dn} (hk : k < 6) (hM : M 0 = none) : sq (ast (cno (cat E_Hist_init [.iload_n 1, .aload_n 0, .getfield 11, .arraylength] (.if_icmp .ge 22)))) (sq (blk E_Hist_init [.aload_n 0, .getfield 11, .iload_n 1]) (sq (newO 2) (sq (blk E_Hist_init [.dup]) (sq (calD 1 x_Yard_init) (sq (blk E_Hist_init [.aastore, .iinc 1 1]) K))))) ([some (.ref 27), some (.int (nI k))], [], (hN M k, 29 + 11 * k)) = K ([some (.ref 27), some (.int (nI (k + 1)))], [], (hN M (k + 1), 29 + 11 * (k + 1))) := by
  have r27 := hN_27 (M := M) k
  have r28 := hN_28 (M := M) k
  have r0 : hN M k 0 = none := by rw [hN_lo (by omega)]; exact hM
  have e : 29 + 11 * k + 11 = 29 + 11 * (k + 1) := by omega
  have hY := k_Yard_init (M := hN M k) (a := 29 + 11 * k) (by omega) r0
  simp (disch := omega) only [upd_nI, nI_add, pk_mul, zn_lt, zn_le, zn_eq, zn_e0, zn_l0, zn_g0, zn_le0, zn_ge0, zn_m1, zn_m1', zn_m1m, zn_sub, zn_addm, zn_div, eo_none, eo_some, mg_nI, mg_eo1, mg_eo2, mg_eo, mg_int, mg_lng, mg_sm, mg_smN, mg_cons, mg_pair, mg_nm, mg_fn, mg_out, mg_res, mg_sM, zb_e0, zb_e0', rr_nil, ite_self, rr_getfield, gfK_at, rr_putfield, pfK_at, rr_ivS, rr_ivV, rr_ivP, ws_nil, ws_int, ws_ref, ws_lng, cK_1, cK_0, iv_0, iv_1, iv_2, iv_3, iv_4, iv_5, iv_6, iv_7, fgK_l, fgK_r, fgK_if, zf_nil, zf_0, zf_1, zf_2, zf_3, zf_4, zf_5, zf_6, zf_7, zf_8, zf_9, zf_10, cat_K, ct_eq, ct_ne, ct_lt, ct_ge, ct_gt, ct_le, ct_eq0, ct_ne0, ct_lt0, ct_ge0, ct_gt0, ct_le0, ct_nulr, ct_nul, cno_K, nK_d, can_K, aK_d, cor_K, oK_d, cd_t, cd_f, nK_if, aK_if, oK_if, cfo_K, ite_K, iK_d, iK_if, sq_K, sK_nm, sK_x, sK_if, blk_K, bK_s, rti_K, riK_s, rtz_K, rzK_b, rzK_b', rzK_s, rtv_K, rvK_s, rta_K, raK_s, raK_n, rtl_K, rlK_s, rtd_K, rdK_s, brk_K, cnt_K, zr_fn, zr_if, swi_K, swK_s, swg_nil, swg_cons, stp_K, tK_d, tK_if, vK_nm, vK_bk, vK_ct, vK_fn, vK_if, wK_nm, Classical.not_not, Decidable.not_not, not_true, not_false_iff, if_true, if_false, Nat.zero_le, Nat.reduceLeDiff, Nat.reduceLT, Nat.zero_lt_one, Nat.one_ne_zero, Nat.reduceEqDiff, not_false_eq_true, eq_self, reduceCtorEq, Option.getD_some, Option.getD_none, Nat.reduceAdd, Nat.not_le, Nat.not_lt, Int32.not_le, Int32.not_lt, true_and, and_true, false_and, and_false, true_or, or_true, false_or, or_false, lt_T, lt_F, le_T, le_F, eq_T, eq_F, ne_eq, ast_K, asT_d, asT_0, asT_t, rr_iload1, rr_aload0, rr_getfield, lf_Hist_init_11, r27, gI_3_0, rr_alenR r28, newO_s, rr_dupr, clS_1, hY, caK_0, rr_aastore, yM_ne, r28, yM_a, asK_s, hf_s, rr_iinc1 lb_Hist_init, e, hN_s, decide_true]
theorem k_Hist_init (hM : M 0 = none) : x_Hist_init [.ref 27] (zup M 27 (cO 3 (zdf 3)), 28) = some (.inl none, (hN M 6, 95)) := by
  have h0 : zup (zup (zup M 27 (cO 3 [.null, .int 0, .int 0])) 28 (cR 6 (fun _ => none))) 27 (cO 3 [.ref 28, .int 0, .int 0]) = hN M 0 := rfl
  have e0 : ∀ K : Dn, sq (blk E_Hist_init [.aload_n 0, .invokespecial 3, .aload_n 0, .bipush 6]) (sq (newR 6) (sq (blk E_Hist_init [.putfield 11, .iconst 0, .istore_n 1]) K)) ([some (.ref 27), none], [], (zup M 27 (cO 3 [.null, .int 0, .int 0]), 28)) = K ([some (.ref 27), some (.int (nI 0))], [], (hN M 0, 29 + 11 * 0)) := fun K => by
    simp (disch := omega) only [upd_nI, nI_add, pk_mul, zn_lt, zn_le, zn_eq, zn_e0, zn_l0, zn_g0, zn_le0, zn_ge0, zn_m1, zn_m1', zn_m1m, zn_sub, zn_addm, zn_div, eo_none, eo_some, mg_nI, mg_eo1, mg_eo2, mg_eo, mg_int, mg_lng, mg_sm, mg_smN, mg_cons, mg_pair, mg_nm, mg_fn, mg_out, mg_res, mg_sM, zb_e0, zb_e0', rr_nil, ite_self, rr_getfield, gfK_at, rr_putfield, pfK_at, rr_ivS, rr_ivV, rr_ivP, ws_nil, ws_int, ws_ref, ws_lng, cK_1, cK_0, iv_0, iv_1, iv_2, iv_3, iv_4, iv_5, iv_6, iv_7, fgK_l, fgK_r, fgK_if, zf_nil, zf_0, zf_1, zf_2, zf_3, zf_4, zf_5, zf_6, zf_7, zf_8, zf_9, zf_10, cat_K, ct_eq, ct_ne, ct_lt, ct_ge, ct_gt, ct_le, ct_eq0, ct_ne0, ct_lt0, ct_ge0, ct_gt0, ct_le0, ct_nulr, ct_nul, cno_K, nK_d, can_K, aK_d, cor_K, oK_d, cd_t, cd_f, nK_if, aK_if, oK_if, cfo_K, ite_K, iK_d, iK_if, sq_K, sK_nm, sK_x, sK_if, blk_K, bK_s, rti_K, riK_s, rtz_K, rzK_b, rzK_b', rzK_s, rtv_K, rvK_s, rta_K, raK_s, raK_n, rtl_K, rlK_s, rtd_K, rdK_s, brk_K, cnt_K, zr_fn, zr_if, swi_K, swK_s, swg_nil, swg_cons, stp_K, tK_d, tK_if, vK_nm, vK_bk, vK_ct, vK_fn, vK_if, wK_nm, Classical.not_not, Decidable.not_not, not_true, not_false_iff, if_true, if_false, Nat.zero_le, Nat.reduceLeDiff, Nat.reduceLT, Nat.zero_lt_one, Nat.one_ne_zero, Nat.reduceEqDiff, not_false_eq_true, eq_self, reduceCtorEq, Option.getD_some, Option.getD_none, Nat.reduceAdd, Nat.not_le, Nat.not_lt, Int32.not_le, Int32.not_lt, true_and, and_true, false_and, and_false, true_or, or_true, false_or, or_false, rr_aload0, lc_Hist_init_3, xObj_s, rr_bipush6, newR_s, rr_putfield, lf_Hist_init_11, zup_ne, zup_eq, pI_3_0 (E := E_Hist_init) rfl, rr_iconst0, rr_istore1 lb_Hist_init, h0, Nat.mul_zero, Nat.add_zero]
  have r27 := hN_27 (M := M) 6
  have r28 := hN_28 (M := M) 6
  rw [q_Hist_init, zdf_3]
  unfold d_Hist_init
  rw [e0, hst_k (by omega) hM, hst_k (by omega) hM, hst_k (by omega) hM, hst_k (by omega) hM, hst_k (by omega) hM, hst_k (by omega) hM]
  simp (disch := omega) only [upd_nI, nI_add, pk_mul, zn_lt, zn_le, zn_eq, zn_e0, zn_l0, zn_g0, zn_le0, zn_ge0, zn_m1, zn_m1', zn_m1m, zn_sub, zn_addm, zn_div, eo_none, eo_some, mg_nI, mg_eo1, mg_eo2, mg_eo, mg_int, mg_lng, mg_sm, mg_smN, mg_cons, mg_pair, mg_nm, mg_fn, mg_out, mg_res, mg_sM, zb_e0, zb_e0', rr_nil, ite_self, rr_getfield, gfK_at, rr_putfield, pfK_at, rr_ivS, rr_ivV, rr_ivP, ws_nil, ws_int, ws_ref, ws_lng, cK_1, cK_0, iv_0, iv_1, iv_2, iv_3, iv_4, iv_5, iv_6, iv_7, fgK_l, fgK_r, fgK_if, zf_nil, zf_0, zf_1, zf_2, zf_3, zf_4, zf_5, zf_6, zf_7, zf_8, zf_9, zf_10, cat_K, ct_eq, ct_ne, ct_lt, ct_ge, ct_gt, ct_le, ct_eq0, ct_ne0, ct_lt0, ct_ge0, ct_gt0, ct_le0, ct_nulr, ct_nul, cno_K, nK_d, can_K, aK_d, cor_K, oK_d, cd_t, cd_f, nK_if, aK_if, oK_if, cfo_K, ite_K, iK_d, iK_if, sq_K, sK_nm, sK_x, sK_if, blk_K, bK_s, rti_K, riK_s, rtz_K, rzK_b, rzK_b', rzK_s, rtv_K, rvK_s, rta_K, raK_s, raK_n, rtl_K, rlK_s, rtd_K, rdK_s, brk_K, cnt_K, zr_fn, zr_if, swi_K, swK_s, swg_nil, swg_cons, stp_K, tK_d, tK_if, vK_nm, vK_bk, vK_ct, vK_fn, vK_if, wK_nm, Classical.not_not, Decidable.not_not, not_true, not_false_iff, if_true, if_false, Nat.zero_le, Nat.reduceLeDiff, Nat.reduceLT, Nat.zero_lt_one, Nat.one_ne_zero, Nat.reduceEqDiff, not_false_eq_true, eq_self, reduceCtorEq, Option.getD_some, Option.getD_none, Nat.reduceAdd, Nat.not_le, Nat.not_lt, Int32.not_le, Int32.not_lt, true_and, and_true, false_and, and_false, true_or, or_true, false_or, or_false, lt_T, lt_F, le_T, le_F, eq_T, eq_F, ne_eq, asf_K, asF_f, asF_0, rr_iload1, rr_aload0, rr_getfield, lf_Hist_init_11, r27, gI_3_0, rr_alenR r28, decide_false, Nat.lt_irrefl, Nat.reduceMul]
theorem k_Read_init : x_Read_init [.ref r] g = some (.inl none, g) := by
  rw [q_Read_init]
  simp (disch := omega) only [upd_nI, nI_add, pk_mul, zn_lt, zn_le, zn_eq, zn_e0, zn_l0, zn_g0, zn_le0, zn_ge0, zn_m1, zn_m1', zn_m1m, zn_sub, zn_addm, zn_div, eo_none, eo_some, mg_nI, mg_eo1, mg_eo2, mg_eo, mg_int, mg_lng, mg_sm, mg_smN, mg_cons, mg_pair, mg_nm, mg_fn, mg_out, mg_res, mg_sM, zb_e0, zb_e0', rr_nil, ite_self, rr_getfield, gfK_at, rr_putfield, pfK_at, rr_ivS, rr_ivV, rr_ivP, ws_nil, ws_int, ws_ref, ws_lng, cK_1, cK_0, iv_0, iv_1, iv_2, iv_3, iv_4, iv_5, iv_6, iv_7, fgK_l, fgK_r, fgK_if, zf_nil, zf_0, zf_1, zf_2, zf_3, zf_4, zf_5, zf_6, zf_7, zf_8, zf_9, zf_10, cat_K, ct_eq, ct_ne, ct_lt, ct_ge, ct_gt, ct_le, ct_eq0, ct_ne0, ct_lt0, ct_ge0, ct_gt0, ct_le0, ct_nulr, ct_nul, cno_K, nK_d, can_K, aK_d, cor_K, oK_d, cd_t, cd_f, nK_if, aK_if, oK_if, cfo_K, ite_K, iK_d, iK_if, sq_K, sK_nm, sK_x, sK_if, blk_K, bK_s, rti_K, riK_s, rtz_K, rzK_b, rzK_b', rzK_s, rtv_K, rvK_s, rta_K, raK_s, raK_n, rtl_K, rlK_s, rtd_K, rdK_s, brk_K, cnt_K, zr_fn, zr_if, swi_K, swK_s, swg_nil, swg_cons, stp_K, tK_d, tK_if, vK_nm, vK_bk, vK_ct, vK_fn, vK_if, wK_nm, Classical.not_not, Decidable.not_not, not_true, not_false_iff, if_true, if_false, Nat.zero_le, Nat.reduceLeDiff, Nat.reduceLT, Nat.zero_lt_one, Nat.one_ne_zero, Nat.reduceEqDiff, not_false_eq_true, eq_self, reduceCtorEq, Option.getD_some, Option.getD_none, Nat.reduceAdd, Nat.not_le, Nat.not_lt, Int32.not_le, Int32.not_lt, true_and, and_true, false_and, and_false, true_or, or_true, false_or, or_false, d_Read_init, lc_Read_init_3, lt_Read_init, li_Read_init, rr_aload0, xObj_s]
def SH1 (M : Hp) : Hp := zup (yM (zup M 4 (cO 5 [.null, .null, .null, .null, .null, .int 0])) 5 t00 co00 od00) 4 (cO 5 [.ref 5, .null, .null, .null, .null, .int 0])
def SH2 (M : Hp) : Hp := zup (yM (SH1 M) 16 t00 co00 od00) 4 (cO 5 [.ref 5, .ref 16, .null, .null, .null, .int 0])
def SH3 (M : Hp) : Hp := zup (hN (SH2 M) 6) 4 (cO 5 [.ref 5, .ref 16, .ref 27, .null, .null, .int 0])
def SH4 (M : Hp) : Hp := zup (rowM (SH3 M) 95 96 60) 4 (cO 5 [.ref 5, .ref 16, .ref 27, .ref 95, .null, .int 0])
def SH5 (M : Hp) : Hp := zup (zup (SH4 M) 97 (cO 4 (zdf 4))) 4 (cO 5 [.ref 5, .ref 16, .ref 27, .ref 95, .ref 97, .int 0])
theorem sst1 {K : Dn} (hM : M 0 = none) : sq (newO 2) (sq (blk E_Slit_init [.dup]) (sq (calD 1 x_Yard_init) (sq (blk E_Slit_init [.putfield 12, .aload_n 0]) K))) ([some (.ref 4)], [.ref 4], (zup M 4 (cO 5 [.null, .null, .null, .null, .null, .int 0]), 5)) = K ([some (.ref 4)], [.ref 4], (SH1 M, 16)) := by
  have r0 : (zup M 4 (cO 5 [.null, .null, .null, .null, .null, .int 0])) 0 = none := by
    simp (disch := omega) only [zup_ne, yM_ne, hN_lo, rowM_ne]
    exact hM
  have r4 : (zup M 4 (cO 5 [.null, .null, .null, .null, .null, .int 0])) 4 = some (cO 5 [.null, .null, .null, .null, .null, .int 0]) := zup_eq
  have hY := k_Yard_init (M := zup M 4 (cO 5 [.null, .null, .null, .null, .null, .int 0])) (a := 5) (by omega) r0
  have f1 : zup (yM (zup M 4 (cO 5 [.null, .null, .null, .null, .null, .int 0])) 5 t00 co00 od00) 4 (cO 5 [.ref 5, .null, .null, .null, .null, .int 0]) = SH1 M := rfl
  simp (disch := omega) only [upd_nI, nI_add, pk_mul, zn_lt, zn_le, zn_eq, zn_e0, zn_l0, zn_g0, zn_le0, zn_ge0, zn_m1, zn_m1', zn_m1m, zn_sub, zn_addm, zn_div, eo_none, eo_some, mg_nI, mg_eo1, mg_eo2, mg_eo, mg_int, mg_lng, mg_sm, mg_smN, mg_cons, mg_pair, mg_nm, mg_fn, mg_out, mg_res, mg_sM, zb_e0, zb_e0', rr_nil, ite_self, rr_getfield, gfK_at, rr_putfield, pfK_at, rr_ivS, rr_ivV, rr_ivP, ws_nil, ws_int, ws_ref, ws_lng, cK_1, cK_0, iv_0, iv_1, iv_2, iv_3, iv_4, iv_5, iv_6, iv_7, fgK_l, fgK_r, fgK_if, zf_nil, zf_0, zf_1, zf_2, zf_3, zf_4, zf_5, zf_6, zf_7, zf_8, zf_9, zf_10, cat_K, ct_eq, ct_ne, ct_lt, ct_ge, ct_gt, ct_le, ct_eq0, ct_ne0, ct_lt0, ct_ge0, ct_gt0, ct_le0, ct_nulr, ct_nul, cno_K, nK_d, can_K, aK_d, cor_K, oK_d, cd_t, cd_f, nK_if, aK_if, oK_if, cfo_K, ite_K, iK_d, iK_if, sq_K, sK_nm, sK_x, sK_if, blk_K, bK_s, rti_K, riK_s, rtz_K, rzK_b, rzK_b', rzK_s, rtv_K, rvK_s, rta_K, raK_s, raK_n, rtl_K, rlK_s, rtd_K, rdK_s, brk_K, cnt_K, zr_fn, zr_if, swi_K, swK_s, swg_nil, swg_cons, stp_K, tK_d, tK_if, vK_nm, vK_bk, vK_ct, vK_fn, vK_if, wK_nm, Classical.not_not, Decidable.not_not, not_true, not_false_iff, if_true, if_false, Nat.zero_le, Nat.reduceLeDiff, Nat.reduceLT, Nat.zero_lt_one, Nat.one_ne_zero, Nat.reduceEqDiff, not_false_eq_true, eq_self, reduceCtorEq, Option.getD_some, Option.getD_none, Nat.reduceAdd, Nat.not_le, Nat.not_lt, Int32.not_le, Int32.not_lt, true_and, and_true, false_and, and_false, true_or, or_true, false_or, or_false, newO_s, rr_dupr, rr_bipush60, rr_aload0, clS_1, clS_2, hY, caK_0, yM_ne, hN_lo, rowM_ne, r4, rr_putfield, lf_Slit_init_12, pI_5_0 (E := E_Slit_init) rfl, f1, Nat.reduceAdd]
theorem sst2 {K : Dn} (hM : M 0 = none) : sq (newO 2) (sq (blk E_Slit_init [.dup]) (sq (calD 1 x_Yard_init) (sq (blk E_Slit_init [.putfield 16, .aload_n 0]) K))) ([some (.ref 4)], [.ref 4], (SH1 M, 16)) = K ([some (.ref 4)], [.ref 4], (SH2 M, 27)) := by
  have r0 : (SH1 M) 0 = none := by
    simp (disch := omega) only [SH1, zup_ne, yM_ne, hN_lo, rowM_ne]
    exact hM
  have r4 : (SH1 M) 4 = some (cO 5 [.ref 5, .null, .null, .null, .null, .int 0]) := zup_eq
  have hY := k_Yard_init (M := SH1 M) (a := 16) (by omega) r0
  have f1 : zup (yM (SH1 M) 16 t00 co00 od00) 4 (cO 5 [.ref 5, .ref 16, .null, .null, .null, .int 0]) = SH2 M := rfl
  simp (disch := omega) only [upd_nI, nI_add, pk_mul, zn_lt, zn_le, zn_eq, zn_e0, zn_l0, zn_g0, zn_le0, zn_ge0, zn_m1, zn_m1', zn_m1m, zn_sub, zn_addm, zn_div, eo_none, eo_some, mg_nI, mg_eo1, mg_eo2, mg_eo, mg_int, mg_lng, mg_sm, mg_smN, mg_cons, mg_pair, mg_nm, mg_fn, mg_out, mg_res, mg_sM, zb_e0, zb_e0', rr_nil, ite_self, rr_getfield, gfK_at, rr_putfield, pfK_at, rr_ivS, rr_ivV, rr_ivP, ws_nil, ws_int, ws_ref, ws_lng, cK_1, cK_0, iv_0, iv_1, iv_2, iv_3, iv_4, iv_5, iv_6, iv_7, fgK_l, fgK_r, fgK_if, zf_nil, zf_0, zf_1, zf_2, zf_3, zf_4, zf_5, zf_6, zf_7, zf_8, zf_9, zf_10, cat_K, ct_eq, ct_ne, ct_lt, ct_ge, ct_gt, ct_le, ct_eq0, ct_ne0, ct_lt0, ct_ge0, ct_gt0, ct_le0, ct_nulr, ct_nul, cno_K, nK_d, can_K, aK_d, cor_K, oK_d, cd_t, cd_f, nK_if, aK_if, oK_if, cfo_K, ite_K, iK_d, iK_if, sq_K, sK_nm, sK_x, sK_if, blk_K, bK_s, rti_K, riK_s, rtz_K, rzK_b, rzK_b', rzK_s, rtv_K, rvK_s, rta_K, raK_s, raK_n, rtl_K, rlK_s, rtd_K, rdK_s, brk_K, cnt_K, zr_fn, zr_if, swi_K, swK_s, swg_nil, swg_cons, stp_K, tK_d, tK_if, vK_nm, vK_bk, vK_ct, vK_fn, vK_if, wK_nm, Classical.not_not, Decidable.not_not, not_true, not_false_iff, if_true, if_false, Nat.zero_le, Nat.reduceLeDiff, Nat.reduceLT, Nat.zero_lt_one, Nat.one_ne_zero, Nat.reduceEqDiff, not_false_eq_true, eq_self, reduceCtorEq, Option.getD_some, Option.getD_none, Nat.reduceAdd, Nat.not_le, Nat.not_lt, Int32.not_le, Int32.not_lt, true_and, and_true, false_and, and_false, true_or, or_true, false_or, or_false, newO_s, rr_dupr, rr_bipush60, rr_aload0, clS_1, clS_2, hY, caK_0, yM_ne, hN_lo, rowM_ne, r4, rr_putfield, lf_Slit_init_16, pI_5_1 (E := E_Slit_init) rfl, f1, Nat.reduceAdd]
theorem sst3 {K : Dn} (hM : M 0 = none) : sq (newO 3) (sq (blk E_Slit_init [.dup]) (sq (calD 1 x_Hist_init) (sq (blk E_Slit_init [.putfield 22, .aload_n 0]) K))) ([some (.ref 4)], [.ref 4], (SH2 M, 27)) = K ([some (.ref 4)], [.ref 4], (SH3 M, 95)) := by
  have r0 : (SH2 M) 0 = none := by
    simp (disch := omega) only [SH1, SH2, zup_ne, yM_ne, hN_lo, rowM_ne]
    exact hM
  have r4 : (SH2 M) 4 = some (cO 5 [.ref 5, .ref 16, .null, .null, .null, .int 0]) := zup_eq
  have hY := k_Hist_init (M := SH2 M) r0
  have f1 : zup (hN (SH2 M) 6) 4 (cO 5 [.ref 5, .ref 16, .ref 27, .null, .null, .int 0]) = SH3 M := rfl
  simp (disch := omega) only [upd_nI, nI_add, pk_mul, zn_lt, zn_le, zn_eq, zn_e0, zn_l0, zn_g0, zn_le0, zn_ge0, zn_m1, zn_m1', zn_m1m, zn_sub, zn_addm, zn_div, eo_none, eo_some, mg_nI, mg_eo1, mg_eo2, mg_eo, mg_int, mg_lng, mg_sm, mg_smN, mg_cons, mg_pair, mg_nm, mg_fn, mg_out, mg_res, mg_sM, zb_e0, zb_e0', rr_nil, ite_self, rr_getfield, gfK_at, rr_putfield, pfK_at, rr_ivS, rr_ivV, rr_ivP, ws_nil, ws_int, ws_ref, ws_lng, cK_1, cK_0, iv_0, iv_1, iv_2, iv_3, iv_4, iv_5, iv_6, iv_7, fgK_l, fgK_r, fgK_if, zf_nil, zf_0, zf_1, zf_2, zf_3, zf_4, zf_5, zf_6, zf_7, zf_8, zf_9, zf_10, cat_K, ct_eq, ct_ne, ct_lt, ct_ge, ct_gt, ct_le, ct_eq0, ct_ne0, ct_lt0, ct_ge0, ct_gt0, ct_le0, ct_nulr, ct_nul, cno_K, nK_d, can_K, aK_d, cor_K, oK_d, cd_t, cd_f, nK_if, aK_if, oK_if, cfo_K, ite_K, iK_d, iK_if, sq_K, sK_nm, sK_x, sK_if, blk_K, bK_s, rti_K, riK_s, rtz_K, rzK_b, rzK_b', rzK_s, rtv_K, rvK_s, rta_K, raK_s, raK_n, rtl_K, rlK_s, rtd_K, rdK_s, brk_K, cnt_K, zr_fn, zr_if, swi_K, swK_s, swg_nil, swg_cons, stp_K, tK_d, tK_if, vK_nm, vK_bk, vK_ct, vK_fn, vK_if, wK_nm, Classical.not_not, Decidable.not_not, not_true, not_false_iff, if_true, if_false, Nat.zero_le, Nat.reduceLeDiff, Nat.reduceLT, Nat.zero_lt_one, Nat.one_ne_zero, Nat.reduceEqDiff, not_false_eq_true, eq_self, reduceCtorEq, Option.getD_some, Option.getD_none, Nat.reduceAdd, Nat.not_le, Nat.not_lt, Int32.not_le, Int32.not_lt, true_and, and_true, false_and, and_false, true_or, or_true, false_or, or_false, newO_s, rr_dupr, rr_bipush60, rr_aload0, clS_1, clS_2, hY, caK_0, yM_ne, hN_lo, rowM_ne, r4, rr_putfield, lf_Slit_init_22, pI_5_2 (E := E_Slit_init) rfl, f1, Nat.reduceAdd]
theorem sst4 {K : Dn} (hM : M 0 = none) : sq (newO 0) (sq (blk E_Slit_init [.dup, .bipush 60]) (sq (calD 2 x_Row_init) (sq (blk E_Slit_init [.putfield 31, .aload_n 0]) K))) ([some (.ref 4)], [.ref 4], (SH3 M, 95)) = K ([some (.ref 4)], [.ref 4], (SH4 M, 97)) := by
  have r0 : (SH3 M) 0 = none := by
    simp (disch := omega) only [SH1, SH2, SH3, zup_ne, yM_ne, hN_lo, rowM_ne]
    exact hM
  have r4 : (SH3 M) 4 = some (cO 5 [.ref 5, .ref 16, .ref 27, .null, .null, .int 0]) := zup_eq
  have hY := k_Row_init (M := SH3 M) (r := 95) (n := 60) (nx := 96) (by omega) (by omega) (by omega)
  have f1 : zup (rowM (SH3 M) 95 96 60) 4 (cO 5 [.ref 5, .ref 16, .ref 27, .ref 95, .null, .int 0]) = SH4 M := rfl
  simp (disch := omega) only [upd_nI, nI_add, pk_mul, zn_lt, zn_le, zn_eq, zn_e0, zn_l0, zn_g0, zn_le0, zn_ge0, zn_m1, zn_m1', zn_m1m, zn_sub, zn_addm, zn_div, eo_none, eo_some, mg_nI, mg_eo1, mg_eo2, mg_eo, mg_int, mg_lng, mg_sm, mg_smN, mg_cons, mg_pair, mg_nm, mg_fn, mg_out, mg_res, mg_sM, zb_e0, zb_e0', rr_nil, ite_self, rr_getfield, gfK_at, rr_putfield, pfK_at, rr_ivS, rr_ivV, rr_ivP, ws_nil, ws_int, ws_ref, ws_lng, cK_1, cK_0, iv_0, iv_1, iv_2, iv_3, iv_4, iv_5, iv_6, iv_7, fgK_l, fgK_r, fgK_if, zf_nil, zf_0, zf_1, zf_2, zf_3, zf_4, zf_5, zf_6, zf_7, zf_8, zf_9, zf_10, cat_K, ct_eq, ct_ne, ct_lt, ct_ge, ct_gt, ct_le, ct_eq0, ct_ne0, ct_lt0, ct_ge0, ct_gt0, ct_le0, ct_nulr, ct_nul, cno_K, nK_d, can_K, aK_d, cor_K, oK_d, cd_t, cd_f, nK_if, aK_if, oK_if, cfo_K, ite_K, iK_d, iK_if, sq_K, sK_nm, sK_x, sK_if, blk_K, bK_s, rti_K, riK_s, rtz_K, rzK_b, rzK_b', rzK_s, rtv_K, rvK_s, rta_K, raK_s, raK_n, rtl_K, rlK_s, rtd_K, rdK_s, brk_K, cnt_K, zr_fn, zr_if, swi_K, swK_s, swg_nil, swg_cons, stp_K, tK_d, tK_if, vK_nm, vK_bk, vK_ct, vK_fn, vK_if, wK_nm, Classical.not_not, Decidable.not_not, not_true, not_false_iff, if_true, if_false, Nat.zero_le, Nat.reduceLeDiff, Nat.reduceLT, Nat.zero_lt_one, Nat.one_ne_zero, Nat.reduceEqDiff, not_false_eq_true, eq_self, reduceCtorEq, Option.getD_some, Option.getD_none, Nat.reduceAdd, Nat.not_le, Nat.not_lt, Int32.not_le, Int32.not_lt, true_and, and_true, false_and, and_false, true_or, or_true, false_or, or_false, newO_s, rr_dupr, rr_bipush60, rr_aload0, clS_1, clS_2, hY, caK_0, yM_ne, hN_lo, rowM_ne, r4, rr_putfield, lf_Slit_init_31, pI_5_3 (E := E_Slit_init) rfl, f1, Nat.reduceAdd]
theorem k_Slit_init (hM : M 0 = none) : x_Slit_init [.ref 4] (zup M 4 (cO 5 (zdf 5)), 5) = some (.inl none, (SH5 M, 98)) := by
  have e0 : ∀ K : Dn, sq (blk E_Slit_init [.aload_n 0, .invokespecial 3, .aload_n 0]) K ([some (.ref 4)], [], (zup M 4 (cO 5 [.null, .null, .null, .null, .null, .int 0]), 5)) = K ([some (.ref 4)], [.ref 4], (zup M 4 (cO 5 [.null, .null, .null, .null, .null, .int 0]), 5)) := fun K => by
    simp (disch := omega) only [upd_nI, nI_add, pk_mul, zn_lt, zn_le, zn_eq, zn_e0, zn_l0, zn_g0, zn_le0, zn_ge0, zn_m1, zn_m1', zn_m1m, zn_sub, zn_addm, zn_div, eo_none, eo_some, mg_nI, mg_eo1, mg_eo2, mg_eo, mg_int, mg_lng, mg_sm, mg_smN, mg_cons, mg_pair, mg_nm, mg_fn, mg_out, mg_res, mg_sM, zb_e0, zb_e0', rr_nil, ite_self, rr_getfield, gfK_at, rr_putfield, pfK_at, rr_ivS, rr_ivV, rr_ivP, ws_nil, ws_int, ws_ref, ws_lng, cK_1, cK_0, iv_0, iv_1, iv_2, iv_3, iv_4, iv_5, iv_6, iv_7, fgK_l, fgK_r, fgK_if, zf_nil, zf_0, zf_1, zf_2, zf_3, zf_4, zf_5, zf_6, zf_7, zf_8, zf_9, zf_10, cat_K, ct_eq, ct_ne, ct_lt, ct_ge, ct_gt, ct_le, ct_eq0, ct_ne0, ct_lt0, ct_ge0, ct_gt0, ct_le0, ct_nulr, ct_nul, cno_K, nK_d, can_K, aK_d, cor_K, oK_d, cd_t, cd_f, nK_if, aK_if, oK_if, cfo_K, ite_K, iK_d, iK_if, sq_K, sK_nm, sK_x, sK_if, blk_K, bK_s, rti_K, riK_s, rtz_K, rzK_b, rzK_b', rzK_s, rtv_K, rvK_s, rta_K, raK_s, raK_n, rtl_K, rlK_s, rtd_K, rdK_s, brk_K, cnt_K, zr_fn, zr_if, swi_K, swK_s, swg_nil, swg_cons, stp_K, tK_d, tK_if, vK_nm, vK_bk, vK_ct, vK_fn, vK_if, wK_nm, Classical.not_not, Decidable.not_not, not_true, not_false_iff, if_true, if_false, Nat.zero_le, Nat.reduceLeDiff, Nat.reduceLT, Nat.zero_lt_one, Nat.one_ne_zero, Nat.reduceEqDiff, not_false_eq_true, eq_self, reduceCtorEq, Option.getD_some, Option.getD_none, Nat.reduceAdd, Nat.not_le, Nat.not_lt, Int32.not_le, Int32.not_lt, true_and, and_true, false_and, and_false, true_or, or_true, false_or, or_false, rr_aload0, lc_Slit_init_3, xObj_s]
  have r4 : SH4 M 4 = some (cO 5 [.ref 5, .ref 16, .ref 27, .ref 95, .null, .int 0]) := zup_eq
  have f1 : zup (zup (SH4 M) 97 (cO 4 (zdf 4))) 4 (cO 5 [.ref 5, .ref 16, .ref 27, .ref 95, .ref 97, .int 0]) = SH5 M := rfl
  rw [q_Slit_init, zdf_5]
  unfold d_Slit_init
  rw [e0, sst1 hM, sst2 hM, sst3 hM, sst4 hM]
  simp (disch := omega) only [upd_nI, nI_add, pk_mul, zn_lt, zn_le, zn_eq, zn_e0, zn_l0, zn_g0, zn_le0, zn_ge0, zn_m1, zn_m1', zn_m1m, zn_sub, zn_addm, zn_div, eo_none, eo_some, mg_nI, mg_eo1, mg_eo2, mg_eo, mg_int, mg_lng, mg_sm, mg_smN, mg_cons, mg_pair, mg_nm, mg_fn, mg_out, mg_res, mg_sM, zb_e0, zb_e0', rr_nil, ite_self, rr_getfield, gfK_at, rr_putfield, pfK_at, rr_ivS, rr_ivV, rr_ivP, ws_nil, ws_int, ws_ref, ws_lng, cK_1, cK_0, iv_0, iv_1, iv_2, iv_3, iv_4, iv_5, iv_6, iv_7, fgK_l, fgK_r, fgK_if, zf_nil, zf_0, zf_1, zf_2, zf_3, zf_4, zf_5, zf_6, zf_7, zf_8, zf_9, zf_10, cat_K, ct_eq, ct_ne, ct_lt, ct_ge, ct_gt, ct_le, ct_eq0, ct_ne0, ct_lt0, ct_ge0, ct_gt0, ct_le0, ct_nulr, ct_nul, cno_K, nK_d, can_K, aK_d, cor_K, oK_d, cd_t, cd_f, nK_if, aK_if, oK_if, cfo_K, ite_K, iK_d, iK_if, sq_K, sK_nm, sK_x, sK_if, blk_K, bK_s, rti_K, riK_s, rtz_K, rzK_b, rzK_b', rzK_s, rtv_K, rvK_s, rta_K, raK_s, raK_n, rtl_K, rlK_s, rtd_K, rdK_s, brk_K, cnt_K, zr_fn, zr_if, swi_K, swK_s, swg_nil, swg_cons, stp_K, tK_d, tK_if, vK_nm, vK_bk, vK_ct, vK_fn, vK_if, wK_nm, Classical.not_not, Decidable.not_not, not_true, not_false_iff, if_true, if_false, Nat.zero_le, Nat.reduceLeDiff, Nat.reduceLT, Nat.zero_lt_one, Nat.one_ne_zero, Nat.reduceEqDiff, not_false_eq_true, eq_self, reduceCtorEq, Option.getD_some, Option.getD_none, Nat.reduceAdd, Nat.not_le, Nat.not_lt, Int32.not_le, Int32.not_lt, true_and, and_true, false_and, and_false, true_or, or_true, false_or, or_false, newO_s, rr_dupr, clS_1, k_Read_init, caK_0, zup_ne, r4, rr_putfield, lf_Slit_init_38, pI_5_4 (E := E_Slit_init) rfl, f1, Nat.reduceAdd]
abbrev H00 : Nat → T3 := fun _ => (t00, co00, od00)
theorem slit_new : SH5 M = cW M 0 0 0 H00 (fun _ => 0) (rdV (0, 0, 0, 0, some 0)) t00 co00 od00 t00 co00 od00 := by
  funext i
  by_cases e4 : i = 4
  · subst e4
    exact zup_eq
  by_cases e97 : i = 97
  · subst e97
    unfold SH5
    rw [zup_ne (by omega), zup_eq]
    rfl
  by_cases e96 : i = 96
  · subst e96
    unfold SH5 SH4
    rw [zup_ne (by omega), zup_ne (by omega), zup_ne (by omega), rowM_b (by omega), cW_96, tr_0]
  by_cases e95 : i = 95
  · subst e95
    unfold SH5 SH4
    rw [zup_ne (by omega), zup_ne (by omega), zup_ne (by omega), rowM_r]
    rfl
  have h1 : SH5 M i = hN (SH2 M) 6 i := by
    unfold SH5 SH4 SH3
    rw [zup_ne e4, zup_ne e97, zup_ne e4, rowM_ne e95 e96, zup_ne e4]
  rw [h1]
  by_cases e27 : i = 27
  · subst e27
    rw [hN_27]
    rfl
  by_cases e28 : i = 28
  · subst e28
    rw [hN_28]
    rfl
  by_cases er : 29 ≤ i ∧ i < 95
  · have hj : (i - 29) / 11 < 6 := by omega
    have a1 : 29 + 11 * ((i - 29) / 11) ≤ i := by omega
    have a2 : i ≤ 29 + 11 * ((i - 29) / 11) + 10 := by omega
    rw [hN_in (N := M) a1 a2 6 hj, cW_hist (M' := M) hj a1 a2]
  by_cases eh : 97 < i
  · rw [hN_hi (by omega) 6 (by omega), cW_hi (by omega)]
    unfold SH2 SH1
    rw [zup_ne e4, yM_ne (by omega), zup_ne e4, yM_ne (by omega), zup_ne e4]
  rw [hN_lo (by omega)]
  unfold SH2
  rw [zup_ne e4]
  by_cases e16 : 16 ≤ i
  · show _ = yM (yM (cB M 0 0 0 H00 (fun _ => 0) (rdV (0, 0, 0, 0, some 0))) 16 t00 co00 od00) 5 t00 co00 od00 i
    rw [yM_ne (a := 5) (by omega)]
    exact yM_in e16 (by omega)
  rw [yM_ne (by omega)]
  unfold SH1
  rw [zup_ne e4]
  by_cases e5 : 5 ≤ i
  · exact yM_in e5 (by omega)
  rw [yM_ne (by omega), zup_ne e4, cW_hi (by omega)]
def MH1 (M : Hp) : Hp := zup (zup (zup M 98 (cO 6 [.null, .null, .null, .int 0, .null, .int 0, .int 0, .int 0, .int 0, .null, .int 0])) 99 (cI 220 (fun _ => 0))) 98 (cO 6 [.ref 99, .null, .null, .int 0, .null, .int 0, .int 0, .int 0, .int 0, .null, .int 0])
def MH2 (M : Hp) : Hp := zup (zup (MH1 M) 100 (cI 220 (fun _ => 0))) 98 (cO 6 [.ref 99, .ref 100, .null, .int 0, .null, .int 0, .int 0, .int 0, .int 0, .null, .int 0])
def MH3 (M : Hp) : Hp := zup (zup (MH2 M) 101 (cI 1320 (fun _ => 0))) 98 (cO 6 [.ref 99, .ref 100, .ref 101, .int 0, .null, .int 0, .int 0, .int 0, .int 0, .null, .int 0])
def MH4 (M : Hp) : Hp := zup (zup (MH3 M) 102 (cI 60 (fun _ => 0))) 98 (cO 6 [.ref 99, .ref 100, .ref 101, .int 0, .ref 102, .int 0, .int 0, .int 0, .int 0, .null, .int 0])
def MH5 (M : Hp) : Hp := zup (zup (MH4 M) 103 (cI 68 (fun _ => 0))) 98 (cO 6 [.ref 99, .ref 100, .ref 101, .int 0, .ref 102, .int 0, .int 0, .int 0, .int 0, .ref 103, .int 0])
theorem mst1 {K : Dn} : sq (newI 220) (sq (blk E_Mod_init [.putfield 7, .aload_n 0, .sipush 220]) K) ([some (.ref 98)], [.int (nI 220), .ref 98], (zup M 98 (cO 6 [.null, .null, .null, .int 0, .null, .int 0, .int 0, .int 0, .int 0, .null, .int 0]), 99)) = K ([some (.ref 98)], [.int (nI 220), .ref 98], (MH1 M, 100)) := by
  have r4 : (zup M 98 (cO 6 [.null, .null, .null, .int 0, .null, .int 0, .int 0, .int 0, .int 0, .null, .int 0])) 98 = some (cO 6 [.null, .null, .null, .int 0, .null, .int 0, .int 0, .int 0, .int 0, .null, .int 0]) := zup_eq
  have f1 : zup (zup (zup M 98 (cO 6 [.null, .null, .null, .int 0, .null, .int 0, .int 0, .int 0, .int 0, .null, .int 0])) 99 (cI 220 (fun _ => 0))) 98 (cO 6 [.ref 99, .null, .null, .int 0, .null, .int 0, .int 0, .int 0, .int 0, .null, .int 0]) = MH1 M := rfl
  simp (disch := omega) only [upd_nI, nI_add, pk_mul, zn_lt, zn_le, zn_eq, zn_e0, zn_l0, zn_g0, zn_le0, zn_ge0, zn_m1, zn_m1', zn_m1m, zn_sub, zn_addm, zn_div, eo_none, eo_some, mg_nI, mg_eo1, mg_eo2, mg_eo, mg_int, mg_lng, mg_sm, mg_smN, mg_cons, mg_pair, mg_nm, mg_fn, mg_out, mg_res, mg_sM, zb_e0, zb_e0', rr_nil, ite_self, rr_getfield, gfK_at, rr_putfield, pfK_at, rr_ivS, rr_ivV, rr_ivP, ws_nil, ws_int, ws_ref, ws_lng, cK_1, cK_0, iv_0, iv_1, iv_2, iv_3, iv_4, iv_5, iv_6, iv_7, fgK_l, fgK_r, fgK_if, zf_nil, zf_0, zf_1, zf_2, zf_3, zf_4, zf_5, zf_6, zf_7, zf_8, zf_9, zf_10, cat_K, ct_eq, ct_ne, ct_lt, ct_ge, ct_gt, ct_le, ct_eq0, ct_ne0, ct_lt0, ct_ge0, ct_gt0, ct_le0, ct_nulr, ct_nul, cno_K, nK_d, can_K, aK_d, cor_K, oK_d, cd_t, cd_f, nK_if, aK_if, oK_if, cfo_K, ite_K, iK_d, iK_if, sq_K, sK_nm, sK_x, sK_if, blk_K, bK_s, rti_K, riK_s, rtz_K, rzK_b, rzK_b', rzK_s, rtv_K, rvK_s, rta_K, raK_s, raK_n, rtl_K, rlK_s, rtd_K, rdK_s, brk_K, cnt_K, zr_fn, zr_if, swi_K, swK_s, swg_nil, swg_cons, stp_K, tK_d, tK_if, vK_nm, vK_bk, vK_ct, vK_fn, vK_if, wK_nm, Classical.not_not, Decidable.not_not, not_true, not_false_iff, if_true, if_false, Nat.zero_le, Nat.reduceLeDiff, Nat.reduceLT, Nat.zero_lt_one, Nat.one_ne_zero, Nat.reduceEqDiff, not_false_eq_true, eq_self, reduceCtorEq, Option.getD_some, Option.getD_none, Nat.reduceAdd, Nat.not_le, Nat.not_lt, Int32.not_le, Int32.not_lt, true_and, and_true, false_and, and_false, true_or, or_true, false_or, or_false, newI_s, rr_aload0, rr_sipush220, zup_ne, r4, rr_putfield, lf_Mod_init_7, pI_6_0 (E := E_Mod_init) rfl, f1, Nat.reduceAdd]
theorem mst2 {K : Dn} : sq (newI 220) (sq (blk E_Mod_init [.putfield 13, .aload_n 0, .sipush 1320]) K) ([some (.ref 98)], [.int (nI 220), .ref 98], (MH1 M, 100)) = K ([some (.ref 98)], [.int (nI 1320), .ref 98], (MH2 M, 101)) := by
  have r4 : (MH1 M) 98 = some (cO 6 [.ref 99, .null, .null, .int 0, .null, .int 0, .int 0, .int 0, .int 0, .null, .int 0]) := zup_eq
  have f1 : zup (zup (MH1 M) 100 (cI 220 (fun _ => 0))) 98 (cO 6 [.ref 99, .ref 100, .null, .int 0, .null, .int 0, .int 0, .int 0, .int 0, .null, .int 0]) = MH2 M := rfl
  simp (disch := omega) only [upd_nI, nI_add, pk_mul, zn_lt, zn_le, zn_eq, zn_e0, zn_l0, zn_g0, zn_le0, zn_ge0, zn_m1, zn_m1', zn_m1m, zn_sub, zn_addm, zn_div, eo_none, eo_some, mg_nI, mg_eo1, mg_eo2, mg_eo, mg_int, mg_lng, mg_sm, mg_smN, mg_cons, mg_pair, mg_nm, mg_fn, mg_out, mg_res, mg_sM, zb_e0, zb_e0', rr_nil, ite_self, rr_getfield, gfK_at, rr_putfield, pfK_at, rr_ivS, rr_ivV, rr_ivP, ws_nil, ws_int, ws_ref, ws_lng, cK_1, cK_0, iv_0, iv_1, iv_2, iv_3, iv_4, iv_5, iv_6, iv_7, fgK_l, fgK_r, fgK_if, zf_nil, zf_0, zf_1, zf_2, zf_3, zf_4, zf_5, zf_6, zf_7, zf_8, zf_9, zf_10, cat_K, ct_eq, ct_ne, ct_lt, ct_ge, ct_gt, ct_le, ct_eq0, ct_ne0, ct_lt0, ct_ge0, ct_gt0, ct_le0, ct_nulr, ct_nul, cno_K, nK_d, can_K, aK_d, cor_K, oK_d, cd_t, cd_f, nK_if, aK_if, oK_if, cfo_K, ite_K, iK_d, iK_if, sq_K, sK_nm, sK_x, sK_if, blk_K, bK_s, rti_K, riK_s, rtz_K, rzK_b, rzK_b', rzK_s, rtv_K, rvK_s, rta_K, raK_s, raK_n, rtl_K, rlK_s, rtd_K, rdK_s, brk_K, cnt_K, zr_fn, zr_if, swi_K, swK_s, swg_nil, swg_cons, stp_K, tK_d, tK_if, vK_nm, vK_bk, vK_ct, vK_fn, vK_if, wK_nm, Classical.not_not, Decidable.not_not, not_true, not_false_iff, if_true, if_false, Nat.zero_le, Nat.reduceLeDiff, Nat.reduceLT, Nat.zero_lt_one, Nat.one_ne_zero, Nat.reduceEqDiff, not_false_eq_true, eq_self, reduceCtorEq, Option.getD_some, Option.getD_none, Nat.reduceAdd, Nat.not_le, Nat.not_lt, Int32.not_le, Int32.not_lt, true_and, and_true, false_and, and_false, true_or, or_true, false_or, or_false, newI_s, rr_aload0, rr_sipush1320, zup_ne, r4, rr_putfield, lf_Mod_init_13, pI_6_1 (E := E_Mod_init) rfl, f1, Nat.reduceAdd]
theorem mst3 {K : Dn} : sq (newI 1320) (sq (blk E_Mod_init [.putfield 16, .aload_n 0, .bipush 60]) K) ([some (.ref 98)], [.int (nI 1320), .ref 98], (MH2 M, 101)) = K ([some (.ref 98)], [.int (nI 60), .ref 98], (MH3 M, 102)) := by
  have r4 : (MH2 M) 98 = some (cO 6 [.ref 99, .ref 100, .null, .int 0, .null, .int 0, .int 0, .int 0, .int 0, .null, .int 0]) := zup_eq
  have f1 : zup (zup (MH2 M) 101 (cI 1320 (fun _ => 0))) 98 (cO 6 [.ref 99, .ref 100, .ref 101, .int 0, .null, .int 0, .int 0, .int 0, .int 0, .null, .int 0]) = MH3 M := rfl
  simp (disch := omega) only [upd_nI, nI_add, pk_mul, zn_lt, zn_le, zn_eq, zn_e0, zn_l0, zn_g0, zn_le0, zn_ge0, zn_m1, zn_m1', zn_m1m, zn_sub, zn_addm, zn_div, eo_none, eo_some, mg_nI, mg_eo1, mg_eo2, mg_eo, mg_int, mg_lng, mg_sm, mg_smN, mg_cons, mg_pair, mg_nm, mg_fn, mg_out, mg_res, mg_sM, zb_e0, zb_e0', rr_nil, ite_self, rr_getfield, gfK_at, rr_putfield, pfK_at, rr_ivS, rr_ivV, rr_ivP, ws_nil, ws_int, ws_ref, ws_lng, cK_1, cK_0, iv_0, iv_1, iv_2, iv_3, iv_4, iv_5, iv_6, iv_7, fgK_l, fgK_r, fgK_if, zf_nil, zf_0, zf_1, zf_2, zf_3, zf_4, zf_5, zf_6, zf_7, zf_8, zf_9, zf_10, cat_K, ct_eq, ct_ne, ct_lt, ct_ge, ct_gt, ct_le, ct_eq0, ct_ne0, ct_lt0, ct_ge0, ct_gt0, ct_le0, ct_nulr, ct_nul, cno_K, nK_d, can_K, aK_d, cor_K, oK_d, cd_t, cd_f, nK_if, aK_if, oK_if, cfo_K, ite_K, iK_d, iK_if, sq_K, sK_nm, sK_x, sK_if, blk_K, bK_s, rti_K, riK_s, rtz_K, rzK_b, rzK_b', rzK_s, rtv_K, rvK_s, rta_K, raK_s, raK_n, rtl_K, rlK_s, rtd_K, rdK_s, brk_K, cnt_K, zr_fn, zr_if, swi_K, swK_s, swg_nil, swg_cons, stp_K, tK_d, tK_if, vK_nm, vK_bk, vK_ct, vK_fn, vK_if, wK_nm, Classical.not_not, Decidable.not_not, not_true, not_false_iff, if_true, if_false, Nat.zero_le, Nat.reduceLeDiff, Nat.reduceLT, Nat.zero_lt_one, Nat.one_ne_zero, Nat.reduceEqDiff, not_false_eq_true, eq_self, reduceCtorEq, Option.getD_some, Option.getD_none, Nat.reduceAdd, Nat.not_le, Nat.not_lt, Int32.not_le, Int32.not_lt, true_and, and_true, false_and, and_false, true_or, or_true, false_or, or_false, newI_s, rr_aload0, rr_bipush60, zup_ne, r4, rr_putfield, lf_Mod_init_16, pI_6_2 (E := E_Mod_init) rfl, f1, Nat.reduceAdd]
theorem mst4 {K : Dn} : sq (newI 60) (sq (blk E_Mod_init [.putfield 19, .aload_n 0, .bipush 68]) K) ([some (.ref 98)], [.int (nI 60), .ref 98], (MH3 M, 102)) = K ([some (.ref 98)], [.int (nI 68), .ref 98], (MH4 M, 103)) := by
  have r4 : (MH3 M) 98 = some (cO 6 [.ref 99, .ref 100, .ref 101, .int 0, .null, .int 0, .int 0, .int 0, .int 0, .null, .int 0]) := zup_eq
  have f1 : zup (zup (MH3 M) 102 (cI 60 (fun _ => 0))) 98 (cO 6 [.ref 99, .ref 100, .ref 101, .int 0, .ref 102, .int 0, .int 0, .int 0, .int 0, .null, .int 0]) = MH4 M := rfl
  simp (disch := omega) only [upd_nI, nI_add, pk_mul, zn_lt, zn_le, zn_eq, zn_e0, zn_l0, zn_g0, zn_le0, zn_ge0, zn_m1, zn_m1', zn_m1m, zn_sub, zn_addm, zn_div, eo_none, eo_some, mg_nI, mg_eo1, mg_eo2, mg_eo, mg_int, mg_lng, mg_sm, mg_smN, mg_cons, mg_pair, mg_nm, mg_fn, mg_out, mg_res, mg_sM, zb_e0, zb_e0', rr_nil, ite_self, rr_getfield, gfK_at, rr_putfield, pfK_at, rr_ivS, rr_ivV, rr_ivP, ws_nil, ws_int, ws_ref, ws_lng, cK_1, cK_0, iv_0, iv_1, iv_2, iv_3, iv_4, iv_5, iv_6, iv_7, fgK_l, fgK_r, fgK_if, zf_nil, zf_0, zf_1, zf_2, zf_3, zf_4, zf_5, zf_6, zf_7, zf_8, zf_9, zf_10, cat_K, ct_eq, ct_ne, ct_lt, ct_ge, ct_gt, ct_le, ct_eq0, ct_ne0, ct_lt0, ct_ge0, ct_gt0, ct_le0, ct_nulr, ct_nul, cno_K, nK_d, can_K, aK_d, cor_K, oK_d, cd_t, cd_f, nK_if, aK_if, oK_if, cfo_K, ite_K, iK_d, iK_if, sq_K, sK_nm, sK_x, sK_if, blk_K, bK_s, rti_K, riK_s, rtz_K, rzK_b, rzK_b', rzK_s, rtv_K, rvK_s, rta_K, raK_s, raK_n, rtl_K, rlK_s, rtd_K, rdK_s, brk_K, cnt_K, zr_fn, zr_if, swi_K, swK_s, swg_nil, swg_cons, stp_K, tK_d, tK_if, vK_nm, vK_bk, vK_ct, vK_fn, vK_if, wK_nm, Classical.not_not, Decidable.not_not, not_true, not_false_iff, if_true, if_false, Nat.zero_le, Nat.reduceLeDiff, Nat.reduceLT, Nat.zero_lt_one, Nat.one_ne_zero, Nat.reduceEqDiff, not_false_eq_true, eq_self, reduceCtorEq, Option.getD_some, Option.getD_none, Nat.reduceAdd, Nat.not_le, Nat.not_lt, Int32.not_le, Int32.not_lt, true_and, and_true, false_and, and_false, true_or, or_true, false_or, or_false, newI_s, rr_aload0, rr_bipush68, zup_ne, r4, rr_putfield, lf_Mod_init_19, pI_6_4 (E := E_Mod_init) rfl, f1, Nat.reduceAdd]
def MH6 (M : Hp) : Hp := zup (MH5 M) 99 (cI 220 (upd (upd (upd (fun _ => 0) 0 (nI 20)) 1 (nI 1)) 2 (nI 1)))
theorem k_Mod_init : x_Mod_init [.ref 98] (zup M 98 (cO 6 (zdf 6)), 99) = some (.inl none, (MH6 M, 104)) := by
  have e0 : ∀ K : Dn, sq (blk E_Mod_init [.aload_n 0, .invokespecial 1, .aload_n 0, .sipush 220]) K ([some (.ref 98)], [], (zup M 98 (cO 6 [.null, .null, .null, .int 0, .null, .int 0, .int 0, .int 0, .int 0, .null, .int 0]), 99)) = K ([some (.ref 98)], [.int (nI 220), .ref 98], (zup M 98 (cO 6 [.null, .null, .null, .int 0, .null, .int 0, .int 0, .int 0, .int 0, .null, .int 0]), 99)) := fun K => by
    simp (disch := omega) only [upd_nI, nI_add, pk_mul, zn_lt, zn_le, zn_eq, zn_e0, zn_l0, zn_g0, zn_le0, zn_ge0, zn_m1, zn_m1', zn_m1m, zn_sub, zn_addm, zn_div, eo_none, eo_some, mg_nI, mg_eo1, mg_eo2, mg_eo, mg_int, mg_lng, mg_sm, mg_smN, mg_cons, mg_pair, mg_nm, mg_fn, mg_out, mg_res, mg_sM, zb_e0, zb_e0', rr_nil, ite_self, rr_getfield, gfK_at, rr_putfield, pfK_at, rr_ivS, rr_ivV, rr_ivP, ws_nil, ws_int, ws_ref, ws_lng, cK_1, cK_0, iv_0, iv_1, iv_2, iv_3, iv_4, iv_5, iv_6, iv_7, fgK_l, fgK_r, fgK_if, zf_nil, zf_0, zf_1, zf_2, zf_3, zf_4, zf_5, zf_6, zf_7, zf_8, zf_9, zf_10, cat_K, ct_eq, ct_ne, ct_lt, ct_ge, ct_gt, ct_le, ct_eq0, ct_ne0, ct_lt0, ct_ge0, ct_gt0, ct_le0, ct_nulr, ct_nul, cno_K, nK_d, can_K, aK_d, cor_K, oK_d, cd_t, cd_f, nK_if, aK_if, oK_if, cfo_K, ite_K, iK_d, iK_if, sq_K, sK_nm, sK_x, sK_if, blk_K, bK_s, rti_K, riK_s, rtz_K, rzK_b, rzK_b', rzK_s, rtv_K, rvK_s, rta_K, raK_s, raK_n, rtl_K, rlK_s, rtd_K, rdK_s, brk_K, cnt_K, zr_fn, zr_if, swi_K, swK_s, swg_nil, swg_cons, stp_K, tK_d, tK_if, vK_nm, vK_bk, vK_ct, vK_fn, vK_if, wK_nm, Classical.not_not, Decidable.not_not, not_true, not_false_iff, if_true, if_false, Nat.zero_le, Nat.reduceLeDiff, Nat.reduceLT, Nat.zero_lt_one, Nat.one_ne_zero, Nat.reduceEqDiff, not_false_eq_true, eq_self, reduceCtorEq, Option.getD_some, Option.getD_none, Nat.reduceAdd, Nat.not_le, Nat.not_lt, Int32.not_le, Int32.not_lt, true_and, and_true, false_and, and_false, true_or, or_true, false_or, or_false, rr_aload0, lc_Mod_init_1, xObj_s, rr_sipush220]
  have r4 : MH4 M 98 = some (cO 6 [.ref 99, .ref 100, .ref 101, .int 0, .ref 102, .int 0, .int 0, .int 0, .int 0, .null, .int 0]) := zup_eq
  have r5 : MH5 M 98 = some (cO 6 [.ref 99, .ref 100, .ref 101, .int 0, .ref 102, .int 0, .int 0, .int 0, .int 0, .ref 103, .int 0]) := zup_eq
  have r9 : MH5 M 99 = some (cI 220 (fun _ => 0)) := by
    unfold MH5 MH4 MH3 MH2 MH1
    simp (disch := omega) only [zup_ne, zup_eq]
  have f1 : zup (zup (MH4 M) 103 (cI 68 (fun _ => 0))) 98 (cO 6 [.ref 99, .ref 100, .ref 101, .int 0, .ref 102, .int 0, .int 0, .int 0, .int 0, .ref 103, .int 0]) = MH5 M := rfl
  have f2 : zup (MH5 M) 99 (cI 220 (upd (upd (upd (fun _ => 0) 0 (nI 20)) 1 (nI 1)) 2 (nI 1))) = MH6 M := rfl
  rw [q_Mod_init, zdf_6]
  unfold d_Mod_init
  rw [e0, mst1, mst2, mst3, mst4]
  simp (disch := omega) only [upd_nI, nI_add, pk_mul, zn_lt, zn_le, zn_eq, zn_e0, zn_l0, zn_g0, zn_le0, zn_ge0, zn_m1, zn_m1', zn_m1m, zn_sub, zn_addm, zn_div, eo_none, eo_some, mg_nI, mg_eo1, mg_eo2, mg_eo, mg_int, mg_lng, mg_sm, mg_smN, mg_cons, mg_pair, mg_nm, mg_fn, mg_out, mg_res, mg_sM, zb_e0, zb_e0', rr_nil, ite_self, rr_getfield, gfK_at, rr_putfield, pfK_at, rr_ivS, rr_ivV, rr_ivP, ws_nil, ws_int, ws_ref, ws_lng, cK_1, cK_0, iv_0, iv_1, iv_2, iv_3, iv_4, iv_5, iv_6, iv_7, fgK_l, fgK_r, fgK_if, zf_nil, zf_0, zf_1, zf_2, zf_3, zf_4, zf_5, zf_6, zf_7, zf_8, zf_9, zf_10, cat_K, ct_eq, ct_ne, ct_lt, ct_ge, ct_gt, ct_le, ct_eq0, ct_ne0, ct_lt0, ct_ge0, ct_gt0, ct_le0, ct_nulr, ct_nul, cno_K, nK_d, can_K, aK_d, cor_K, oK_d, cd_t, cd_f, nK_if, aK_if, oK_if, cfo_K, ite_K, iK_d, iK_if, sq_K, sK_nm, sK_x, sK_if, blk_K, bK_s, rti_K, riK_s, rtz_K, rzK_b, rzK_b', rzK_s, rtv_K, rvK_s, rta_K, raK_s, raK_n, rtl_K, rlK_s, rtd_K, rdK_s, brk_K, cnt_K, zr_fn, zr_if, swi_K, swK_s, swg_nil, swg_cons, stp_K, tK_d, tK_if, vK_nm, vK_bk, vK_ct, vK_fn, vK_if, wK_nm, Classical.not_not, Decidable.not_not, not_true, not_false_iff, if_true, if_false, Nat.zero_le, Nat.reduceLeDiff, Nat.reduceLT, Nat.zero_lt_one, Nat.one_ne_zero, Nat.reduceEqDiff, not_false_eq_true, eq_self, reduceCtorEq, Option.getD_some, Option.getD_none, Nat.reduceAdd, Nat.not_le, Nat.not_lt, Int32.not_le, Int32.not_lt, true_and, and_true, false_and, and_false, true_or, or_true, false_or, or_false, newI_s, rr_aload0, rr_bipush20, rr_iconst0, rr_iconst1, rr_iconst2, zup_ne, zup_eq, zup_zup, r4, r5, r9, rr_putfield, rr_getfield, gI_6_0, lf_Mod_init_22, lf_Mod_init_7, pI_6_9 (E := E_Mod_init) rfl, f1, f2, rr_iastoreK, isK_s, Nat.reduceAdd]
theorem mod_new : MH6 M = mM M (fM 0 0 0 0 (nI 0) 0) t00 (fun _ => 0) (fun _ => 0) (fun _ => 0) (fun _ => 0) := by
  have e9 : upd (upd (upd (fun _ => 0) 0 (nI 20)) 1 (nI 1)) 2 (nI 1) = fun k => nI (t00 k) := by
    have e : (fun _ => 0 : Nat → Int32) = fun q => nI ((fun _ => 0 : Nat → Nat) q) := rfl
    rw [e, upd_nI, upd_nI, upd_nI]
    rfl
  funext i
  unfold MH6
  by_cases e99 : i = 99
  · subst e99
    rw [zup_eq, e9, mM_99]
  rw [zup_ne e99]
  unfold MH5
  by_cases e98 : i = 98
  · subst e98
    rw [zup_eq, mM_98]
    rfl
  rw [zup_ne e98]
  by_cases e103 : i = 103
  · subst e103
    rw [zup_eq, mM_103]
  rw [zup_ne e103]
  unfold MH4
  rw [zup_ne e98]
  by_cases e102 : i = 102
  · subst e102
    rw [zup_eq, mM_102]
    rfl
  rw [zup_ne e102]
  unfold MH3
  rw [zup_ne e98]
  by_cases e101 : i = 101
  · subst e101
    rw [zup_eq, mM_101]
    rfl
  rw [zup_ne e101]
  unfold MH2
  rw [zup_ne e98]
  by_cases e100 : i = 100
  · subst e100
    rw [zup_eq, mM_100]
    rfl
  rw [zup_ne e100]
  unfold MH1
  rw [zup_ne e98, zup_ne e99, zup_ne e98, mM_ne (by omega)]
end
