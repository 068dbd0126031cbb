/-! ===== coils of a text are received ===== -/
section
variable {M : Hp} {nx : Nat} {t u ps tx : Nat → Nat} {td : Nat → Int32} {kp ty th at' tl : Nat} {ft : Int32} {m : Nat}
theorem lowest_6 : lowest t < 6 := by
  have := @lowest_lt t 5
  have h : lowest t ≤ 5 := this
  omega
def stkOf (t : Nat → Nat) (c : Cfg) : Nat := match c.2.2.2.2 with
  | none => lowest t
  | some k => k
theorem stkOf_lt {c : Cfg} (h : cOK c) : stkOf t c < 6 := by
  unfold stkOf
  cases e : c.2.2.2.2 with
  | none => exact lowest_6
  | some k => exact h.2.2.2.2 k e
/-- the parts are received one after the other -/
def recv : List Cfg → (Nat → Nat) → Nat → (Nat → Nat) × Nat
  | [], t, n => (t, n)
  | c :: P, t, n => if t (16 + stkOf t c) < 5 then recv P (comeT t (stkOf t c) c.2.1 c.2.2.1 c.2.2.2.1) (n + 1) else (t, n)
theorem hOk_come {k w g q : Nat} (hO : hOk t) (hk : k < 6) (hh : t (16 + k) < 5) : hOk (comeT t k w g q) := by
  intro j hj
  have e : comeT t k w g q (16 + j) = lays t k (t 4) w g q 0 (16 + j) := by
    unfold comeT
    rw [updN_ne (by omega), updN_ne (by omega)]
  rw [e, lays_h hj hk]
  have := hO j hj
  split <;> omega
theorem IV_recv : ∀ (P : List Cfg) {t : Nat → Nat} {m : Nat} (n : Nat), IV m t → (∀ c, c ∈ P → cOK c) → IV (m + P.length) (recv P t n).1
  | [], t, m, n, h, _ => h
  | c :: P, t, m, n, h, hc => by
    have h1 := hc c List.mem_cons_self
    unfold recv
    by_cases e : t (16 + stkOf t c) < 5
    · rw [if_pos e]
      have := IV_recv P (n + 1) (IV_come h (stkOf_lt h1) e h1.2.1 h1.2.2.1 h1.2.2.2.1) (fun c' hc' => hc c' (List.mem_cons_of_mem _ hc'))
      rw [List.length_cons, show m + (P.length + 1) = m + 1 + P.length by omega]
      exact this
    · rw [if_neg e]
      exact IV.mono h (by omega)
theorem recv_le : ∀ (P : List Cfg) (t : Nat → Nat) (n : Nat), (recv P t n).2 ≤ n + P.length
  | [], t, n => Nat.le_refl _
  | c :: P, t, n => by
    unfold recv
    by_cases e : t (16 + stkOf t c) < 5
    · rw [if_pos e]
      have := recv_le P (comeT t (stkOf t c) c.2.1 c.2.2.1 c.2.2.2.1) (n + 1)
      rw [List.length_cons]
      omega
    · rw [if_neg e, List.length_cons]
      dsimp only
      omega
theorem scanL_ok : ∀ (n a : Nat) (c : Cfg), cOK c → ∀ c', c' ∈ scanL tx n a c → cOK c'
  | 0, a, c, h, c', hc => by cases hc
  | n + 1, a, c, h, c', hc => by
    unfold scanL at hc
    cases hs : stepC c (tx a) with
    | none => rw [hs] at hc; cases hc
    | some q =>
      rw [hs] at hc
      dsimp only at hc
      have hq := cOK_step hs h
      by_cases e : 5 ≤ q.1 ∧ (n = 0 ∨ tx (a + 1) = 59)
      · rw [if_pos e] at hc
        rcases List.mem_cons.mp hc with rfl | hc
        · exact hq
        · exact scanL_ok n (a + 1) q hq c' hc
      · rw [if_neg e] at hc
        exact scanL_ok n (a + 1) q hq c' hc
theorem scanL_len : ∀ (n a : Nat) (c : Cfg), (scanL tx n a c).length ≤ n
  | 0, a, c => Nat.le_refl _
  | n + 1, a, c => by
    unfold scanL
    cases hs : stepC c (tx a) with
    | none => exact Nat.zero_le _
    | some q =>
      have := scanL_len n (a + 1) q
      dsimp only
      split
      · rw [List.length_cons]; omega
      · omega
theorem stepC_z {z z' : Nat × Nat × Nat × Option Nat} {l : Nat} : stepC (0, z) l = stepC (0, z') l := by
  unfold stepC
  rw [if_pos rfl, if_pos rfl]
theorem scanL_z {n a : Nat} {z z' : Nat × Nat × Nat × Option Nat} : scanL tx n a (0, z) = scanL tx n a (0, z') := by
  cases n with
  | zero => rfl
  | succ n =>
    unfold scanL
    rw [stepC_z (z := z) (z' := z')]
theorem scan_z1 {n a : Nat} {z z' : Nat × Nat × Nat × Option Nat} : (scan tx n a (0, z)).1 = (scan tx n a (0, z')).1 := by
  cases n with
  | zero => rfl
  | succ n =>
    unfold scan
    rw [stepC_z (z := z) (z' := z')]
    cases stepC (0, z') (tx a) <;> rfl
theorem scan_z2 {n a : Nat} {z z' : Nat × Nat × Nat × Option Nat} : (scan tx n a (0, z)).2.1 = (scan tx n a (0, z')).2.1 := by
  cases n with
  | zero => rfl
  | succ n =>
    unfold scan
    rw [stepC_z (z := z) (z' := z')]
    cases stepC (0, z') (tx a) <;> rfl
theorem k_Mod_lowest (hO : hOk t) : x_Mod_lowest [.ref 98] (mM M (fM kp ty th at' ft tl) t u ps tx td, nx) = some (.inl (some (.int (nI (lowest t)))), (mM M (fM kp ty th at' ft tl) t u ps tx td, nx)) := by
  rw [q_Mod_lowest (h := mM_98)]
  simp (disch := omega) only [upd_nI, nI_add, pk_mul, zn_lt, zn_le, zn_eq, zn_e0, zn_l0, zn_g0, zn_le0, zn_ge0, zn_m1, zn_m1', zn_m1m, zn_sub, zn_addm, zn_div, eo_none, eo_some, mg_nI, mg_eo1, mg_eo2, mg_eo, mg_int, mg_lng, mg_sm, mg_smN, mg_cons, mg_pair, mg_nm, mg_fn, mg_out, mg_res, mg_sM, zb_e0, zb_e0', rr_nil, ite_self, rr_getfield, gfK_at, rr_putfield, pfK_at, rr_ivS, rr_ivV, rr_ivP, ws_nil, ws_int, ws_ref, ws_lng, cK_1, cK_0, iv_0, iv_1, iv_2, iv_3, iv_4, iv_5, iv_6, iv_7, fgK_l, fgK_r, fgK_if, zf_nil, zf_0, zf_1, zf_2, zf_3, zf_4, zf_5, zf_6, zf_7, zf_8, zf_9, zf_10, cat_K, ct_eq, ct_ne, ct_lt, ct_ge, ct_gt, ct_le, ct_eq0, ct_ne0, ct_lt0, ct_ge0, ct_gt0, ct_le0, ct_nulr, ct_nul, cno_K, nK_d, can_K, aK_d, cor_K, oK_d, cd_t, cd_f, nK_if, aK_if, oK_if, cfo_K, ite_K, iK_d, iK_if, sq_K, sK_nm, sK_x, sK_if, blk_K, bK_s, rti_K, riK_s, rtz_K, rzK_b, rzK_b', rzK_s, rtv_K, rvK_s, rta_K, raK_s, raK_n, rtl_K, rlK_s, rtd_K, rdK_s, brk_K, cnt_K, zr_fn, zr_if, swi_K, swK_s, swg_nil, swg_cons, stp_K, tK_d, tK_if, vK_nm, vK_bk, vK_ct, vK_fn, vK_if, wK_nm, Classical.not_not, Decidable.not_not, not_true, not_false_iff, if_true, if_false, Nat.zero_le, Nat.reduceLeDiff, Nat.reduceLT, Nat.zero_lt_one, Nat.one_ne_zero, Nat.reduceEqDiff, not_false_eq_true, eq_self, reduceCtorEq, Option.getD_some, Option.getD_none, Nat.reduceAdd, Nat.not_le, Nat.not_lt, Int32.not_le, Int32.not_lt, true_and, and_true, false_and, and_false, true_or, or_true, false_or, or_false, d_Mod_lowest, lf_Mod_lowest_7, lt_Mod_lowest, rr_aload0, rr_bipush16, rr_bipush6, rr_iadd, rr_ialoadS, rr_iconst0, rr_iconst1, rr_iinc2 lb_Mod_lowest, rr_iload1, rr_iload2, rr_istore1 lb_Mod_lowest, rr_istore2 lb_Mod_lowest, mM_98, mM_99, mM_100, mM_101, mM_102, mM_103, mr_t, mr_p, mr_x, mr_d, mw_t, mw_p, mw_x, mw_d, g_now, g_then, g_past, g_kept, g_text, g_typed, g_thrown, g_at, g_fault, g_told, g_tolds, p_kept, p_typed, p_thrown, p_at, p_fault, p_fault0, p_tolds, rr_getfield, rr_putfield, lt_T, lt_F, le_T, le_F, eq_T, eq_F, ne_eq]
  rw [lop_run (fun k => ([some (.ref 98), some (.int (nI (fo (fun k f => if t (16 + (k + 1)) < t (16 + f) then k + 1 else f) 0 k))), some (.int (nI (k + 1)))], [], (mM M (fM kp ty th at' ft tl) t u ps tx td, nx))) (r := nm ([some (.ref 98), some (.int (nI (lowest t))), some (.int (nI 6))], [], (mM M (fM kp ty th at' ft tl) t u ps tx td, nx))) 5 ?_ ?_ ?_ (zFU_lt (by omega))]
  · simp (disch := omega) only [upd_nI, nI_add, pk_mul, zn_lt, zn_le, zn_eq, zn_e0, zn_l0, zn_g0, zn_le0, zn_ge0, zn_m1, zn_m1', zn_m1m, zn_sub, zn_addm, zn_div, eo_none, eo_some, mg_nI, mg_eo1, mg_eo2, mg_eo, mg_int, mg_lng, mg_sm, mg_smN, mg_cons, mg_pair, mg_nm, mg_fn, mg_out, mg_res, mg_sM, zb_e0, zb_e0', rr_nil, ite_self, rr_getfield, gfK_at, rr_putfield, pfK_at, rr_ivS, rr_ivV, rr_ivP, ws_nil, ws_int, ws_ref, ws_lng, cK_1, cK_0, iv_0, iv_1, iv_2, iv_3, iv_4, iv_5, iv_6, iv_7, fgK_l, fgK_r, fgK_if, zf_nil, zf_0, zf_1, zf_2, zf_3, zf_4, zf_5, zf_6, zf_7, zf_8, zf_9, zf_10, cat_K, ct_eq, ct_ne, ct_lt, ct_ge, ct_gt, ct_le, ct_eq0, ct_ne0, ct_lt0, ct_ge0, ct_gt0, ct_le0, ct_nulr, ct_nul, cno_K, nK_d, can_K, aK_d, cor_K, oK_d, cd_t, cd_f, nK_if, aK_if, oK_if, cfo_K, ite_K, iK_d, iK_if, sq_K, sK_nm, sK_x, sK_if, blk_K, bK_s, rti_K, riK_s, rtz_K, rzK_b, rzK_b', rzK_s, rtv_K, rvK_s, rta_K, raK_s, raK_n, rtl_K, rlK_s, rtd_K, rdK_s, brk_K, cnt_K, zr_fn, zr_if, swi_K, swK_s, swg_nil, swg_cons, stp_K, tK_d, tK_if, vK_nm, vK_bk, vK_ct, vK_fn, vK_if, wK_nm, Classical.not_not, Decidable.not_not, not_true, not_false_iff, if_true, if_false, Nat.zero_le, Nat.reduceLeDiff, Nat.reduceLT, Nat.zero_lt_one, Nat.one_ne_zero, Nat.reduceEqDiff, not_false_eq_true, eq_self, reduceCtorEq, Option.getD_some, Option.getD_none, Nat.reduceAdd, Nat.not_le, Nat.not_lt, Int32.not_le, Int32.not_lt, true_and, and_true, false_and, and_false, true_or, or_true, false_or, or_false, d_Mod_lowest, lf_Mod_lowest_7, lt_Mod_lowest, rr_aload0, rr_bipush16, rr_bipush6, rr_iadd, rr_ialoadS, rr_iconst0, rr_iconst1, rr_iinc2 lb_Mod_lowest, rr_iload1, rr_iload2, rr_istore1 lb_Mod_lowest, rr_istore2 lb_Mod_lowest, mM_98, mM_99, mM_100, mM_101, mM_102, mM_103, mr_t, mr_p, mr_x, mr_d, mw_t, mw_p, mw_x, mw_d, g_now, g_then, g_past, g_kept, g_text, g_typed, g_thrown, g_at, g_fault, g_told, g_tolds, p_kept, p_typed, p_thrown, p_at, p_fault, p_fault0, p_tolds, rr_getfield, rr_putfield, lt_T, lt_F, le_T, le_F, eq_T, eq_F, ne_eq]
  · rfl
  · simp (disch := omega) only [upd_nI, nI_add, pk_mul, zn_lt, zn_le, zn_eq, zn_e0, zn_l0, zn_g0, zn_le0, zn_ge0, zn_m1, zn_m1', zn_m1m, zn_sub, zn_addm, zn_div, eo_none, eo_some, mg_nI, mg_eo1, mg_eo2, mg_eo, mg_int, mg_lng, mg_sm, mg_smN, mg_cons, mg_pair, mg_nm, mg_fn, mg_out, mg_res, mg_sM, zb_e0, zb_e0', rr_nil, ite_self, rr_getfield, gfK_at, rr_putfield, pfK_at, rr_ivS, rr_ivV, rr_ivP, ws_nil, ws_int, ws_ref, ws_lng, cK_1, cK_0, iv_0, iv_1, iv_2, iv_3, iv_4, iv_5, iv_6, iv_7, fgK_l, fgK_r, fgK_if, zf_nil, zf_0, zf_1, zf_2, zf_3, zf_4, zf_5, zf_6, zf_7, zf_8, zf_9, zf_10, cat_K, ct_eq, ct_ne, ct_lt, ct_ge, ct_gt, ct_le, ct_eq0, ct_ne0, ct_lt0, ct_ge0, ct_gt0, ct_le0, ct_nulr, ct_nul, cno_K, nK_d, can_K, aK_d, cor_K, oK_d, cd_t, cd_f, nK_if, aK_if, oK_if, cfo_K, ite_K, iK_d, iK_if, sq_K, sK_nm, sK_x, sK_if, blk_K, bK_s, rti_K, riK_s, rtz_K, rzK_b, rzK_b', rzK_s, rtv_K, rvK_s, rta_K, raK_s, raK_n, rtl_K, rlK_s, rtd_K, rdK_s, brk_K, cnt_K, zr_fn, zr_if, swi_K, swK_s, swg_nil, swg_cons, stp_K, tK_d, tK_if, vK_nm, vK_bk, vK_ct, vK_fn, vK_if, wK_nm, Classical.not_not, Decidable.not_not, not_true, not_false_iff, if_true, if_false, Nat.zero_le, Nat.reduceLeDiff, Nat.reduceLT, Nat.zero_lt_one, Nat.one_ne_zero, Nat.reduceEqDiff, not_false_eq_true, eq_self, reduceCtorEq, Option.getD_some, Option.getD_none, Nat.reduceAdd, Nat.not_le, Nat.not_lt, Int32.not_le, Int32.not_lt, true_and, and_true, false_and, and_false, true_or, or_true, false_or, or_false, d_Mod_lowest, lf_Mod_lowest_7, lt_Mod_lowest, rr_aload0, rr_bipush16, rr_bipush6, rr_iadd, rr_ialoadS, rr_iconst0, rr_iconst1, rr_iinc2 lb_Mod_lowest, rr_iload1, rr_iload2, rr_istore1 lb_Mod_lowest, rr_istore2 lb_Mod_lowest, mM_98, mM_99, mM_100, mM_101, mM_102, mM_103, mr_t, mr_p, mr_x, mr_d, mw_t, mw_p, mw_x, mw_d, g_now, g_then, g_past, g_kept, g_text, g_typed, g_thrown, g_at, g_fault, g_told, g_tolds, p_kept, p_typed, p_thrown, p_at, p_fault, p_fault0, p_tolds, rr_getfield, rr_putfield, lt_T, lt_F, le_T, le_F, eq_T, eq_F, ne_eq, lowest]
  · intro k hk
    have hl := @lowest_lt t k
    have h1 := hO (k + 1) (by omega)
    have h2 := hO _ (show fo (fun k f => if t (16 + (k + 1)) < t (16 + f) then k + 1 else f) 0 k < 6 by omega)
    rw [fo_s]
    generalize hfo : fo (fun k f => if t (16 + (k + 1)) < t (16 + f) then k + 1 else f) 0 k = f at hl h2
    by_cases h : t (16 + (k + 1)) < t (16 + f)
    · simp (disch := omega) only [upd_nI, nI_add, pk_mul, zn_lt, zn_le, zn_eq, zn_e0, zn_l0, zn_g0, zn_le0, zn_ge0, zn_m1, zn_m1', zn_m1m, zn_sub, zn_addm, zn_div, eo_none, eo_some, mg_nI, mg_eo1, mg_eo2, mg_eo, mg_int, mg_lng, mg_sm, mg_smN, mg_cons, mg_pair, mg_nm, mg_fn, mg_out, mg_res, mg_sM, zb_e0, zb_e0', rr_nil, ite_self, rr_getfield, gfK_at, rr_putfield, pfK_at, rr_ivS, rr_ivV, rr_ivP, ws_nil, ws_int, ws_ref, ws_lng, cK_1, cK_0, iv_0, iv_1, iv_2, iv_3, iv_4, iv_5, iv_6, iv_7, fgK_l, fgK_r, fgK_if, zf_nil, zf_0, zf_1, zf_2, zf_3, zf_4, zf_5, zf_6, zf_7, zf_8, zf_9, zf_10, cat_K, ct_eq, ct_ne, ct_lt, ct_ge, ct_gt, ct_le, ct_eq0, ct_ne0, ct_lt0, ct_ge0, ct_gt0, ct_le0, ct_nulr, ct_nul, cno_K, nK_d, can_K, aK_d, cor_K, oK_d, cd_t, cd_f, nK_if, aK_if, oK_if, cfo_K, ite_K, iK_d, iK_if, sq_K, sK_nm, sK_x, sK_if, blk_K, bK_s, rti_K, riK_s, rtz_K, rzK_b, rzK_b', rzK_s, rtv_K, rvK_s, rta_K, raK_s, raK_n, rtl_K, rlK_s, rtd_K, rdK_s, brk_K, cnt_K, zr_fn, zr_if, swi_K, swK_s, swg_nil, swg_cons, stp_K, tK_d, tK_if, vK_nm, vK_bk, vK_ct, vK_fn, vK_if, wK_nm, Classical.not_not, Decidable.not_not, not_true, not_false_iff, if_true, if_false, Nat.zero_le, Nat.reduceLeDiff, Nat.reduceLT, Nat.zero_lt_one, Nat.one_ne_zero, Nat.reduceEqDiff, not_false_eq_true, eq_self, reduceCtorEq, Option.getD_some, Option.getD_none, Nat.reduceAdd, Nat.not_le, Nat.not_lt, Int32.not_le, Int32.not_lt, true_and, and_true, false_and, and_false, true_or, or_true, false_or, or_false, d_Mod_lowest, lf_Mod_lowest_7, lt_Mod_lowest, rr_aload0, rr_bipush16, rr_bipush6, rr_iadd, rr_ialoadS, rr_iconst0, rr_iconst1, rr_iinc2 lb_Mod_lowest, rr_iload1, rr_iload2, rr_istore1 lb_Mod_lowest, rr_istore2 lb_Mod_lowest, mM_98, mM_99, mM_100, mM_101, mM_102, mM_103, mr_t, mr_p, mr_x, mr_d, mw_t, mw_p, mw_x, mw_d, g_now, g_then, g_past, g_kept, g_text, g_typed, g_thrown, g_at, g_fault, g_told, g_tolds, p_kept, p_typed, p_thrown, p_at, p_fault, p_fault0, p_tolds, rr_getfield, rr_putfield, lt_T, lt_F, le_T, le_F, eq_T, eq_F, ne_eq, h]
    · simp (disch := omega) only [upd_nI, nI_add, pk_mul, zn_lt, zn_le, zn_eq, zn_e0, zn_l0, zn_g0, zn_le0, zn_ge0, zn_m1, zn_m1', zn_m1m, zn_sub, zn_addm, zn_div, eo_none, eo_some, mg_nI, mg_eo1, mg_eo2, mg_eo, mg_int, mg_lng, mg_sm, mg_smN, mg_cons, mg_pair, mg_nm, mg_fn, mg_out, mg_res, mg_sM, zb_e0, zb_e0', rr_nil, ite_self, rr_getfield, gfK_at, rr_putfield, pfK_at, rr_ivS, rr_ivV, rr_ivP, ws_nil, ws_int, ws_ref, ws_lng, cK_1, cK_0, iv_0, iv_1, iv_2, iv_3, iv_4, iv_5, iv_6, iv_7, fgK_l, fgK_r, fgK_if, zf_nil, zf_0, zf_1, zf_2, zf_3, zf_4, zf_5, zf_6, zf_7, zf_8, zf_9, zf_10, cat_K, ct_eq, ct_ne, ct_lt, ct_ge, ct_gt, ct_le, ct_eq0, ct_ne0, ct_lt0, ct_ge0, ct_gt0, ct_le0, ct_nulr, ct_nul, cno_K, nK_d, can_K, aK_d, cor_K, oK_d, cd_t, cd_f, nK_if, aK_if, oK_if, cfo_K, ite_K, iK_d, iK_if, sq_K, sK_nm, sK_x, sK_if, blk_K, bK_s, rti_K, riK_s, rtz_K, rzK_b, rzK_b', rzK_s, rtv_K, rvK_s, rta_K, raK_s, raK_n, rtl_K, rlK_s, rtd_K, rdK_s, brk_K, cnt_K, zr_fn, zr_if, swi_K, swK_s, swg_nil, swg_cons, stp_K, tK_d, tK_if, vK_nm, vK_bk, vK_ct, vK_fn, vK_if, wK_nm, Classical.not_not, Decidable.not_not, not_true, not_false_iff, if_true, if_false, Nat.zero_le, Nat.reduceLeDiff, Nat.reduceLT, Nat.zero_lt_one, Nat.one_ne_zero, Nat.reduceEqDiff, not_false_eq_true, eq_self, reduceCtorEq, Option.getD_some, Option.getD_none, Nat.reduceAdd, Nat.not_le, Nat.not_lt, Int32.not_le, Int32.not_lt, true_and, and_true, false_and, and_false, true_or, or_true, false_or, or_false, d_Mod_lowest, lf_Mod_lowest_7, lt_Mod_lowest, rr_aload0, rr_bipush16, rr_bipush6, rr_iadd, rr_ialoadS, rr_iconst0, rr_iconst1, rr_iinc2 lb_Mod_lowest, rr_iload1, rr_iload2, rr_istore1 lb_Mod_lowest, rr_istore2 lb_Mod_lowest, mM_98, mM_99, mM_100, mM_101, mM_102, mM_103, mr_t, mr_p, mr_x, mr_d, mw_t, mw_p, mw_x, mw_d, g_now, g_then, g_past, g_kept, g_text, g_typed, g_thrown, g_at, g_fault, g_told, g_tolds, p_kept, p_typed, p_thrown, p_at, p_fault, p_fault0, p_tolds, rr_getfield, rr_putfield, lt_T, lt_F, le_T, le_F, eq_T, eq_F, ne_eq, h]
theorem recv_loop {c : Cn} {b u0 : Dn} {P : List Cfg} (hP : ∀ q, q ∈ P → cOK q)
    (hst : ∀ (n : Nat) (t : Nat → Nat) (q : Cfg), hOk t → P[n]? = some q → fgK [3] (stp (cfo [3] c) b u0 ([some (.ref 98), some (.int (nI n)), some (.int (nI 1)), none], [], (mM M (fM kp ty th at' ft tl) t u ps tx td, nx))) = .inl (if t (16 + stkOf t q) < 5 then ([some (.ref 98), some (.int (nI (n + 1))), some (.int (nI 1)), none], [], (mM M (fM kp ty th at' ft tl) (comeT t (stkOf t q) q.2.1 q.2.2.1 q.2.2.2.1) u ps tx td, nx)) else ([some (.ref 98), some (.int (nI n)), some (.int (nI 0)), none], [], (mM M (fM kp ty th at' ft tl) t u ps tx td, nx))))
    (hend : ∀ (n j : Nat) (t : Nat → Nat), n ≤ P.length → (n = P.length ∧ j = 1) ∨ j = 0 → stp (cfo [3] c) b u0 ([some (.ref 98), some (.int (nI n)), some (.int (nI j)), none], [], (mM M (fM kp ty th at' ft tl) t u ps tx td, nx)) = .inr (nm ([some (.ref 98), some (.int (nI n)), some (.int (nI j)), none], [], (mM M (fM kp ty th at' ft tl) t u ps tx td, nx)))) :
    ∀ (R : List Cfg) {N n : Nat} {t : Nat → Nat}, P.drop n = R → n ≤ P.length → R.length + 1 < N → hOk t → ∃ j, lop (cfo [3] c) b u0 N ([some (.ref 98), some (.int (nI n)), some (.int (nI 1)), none], [], (mM M (fM kp ty th at' ft tl) t u ps tx td, nx)) = nm ([some (.ref 98), some (.int (nI (recv R t n).2)), some (.int (nI j)), none], [], (mM M (fM kp ty th at' ft tl) (recv R t n).1 u ps tx td, nx)) := by
  intro R
  induction R with
  | nil =>
    intro N n t hR hn hN hO
    obtain ⟨N, rfl⟩ : ∃ j, N = j + 1 := ⟨N - 1, by omega⟩
    have : P.length ≤ n := List.drop_eq_nil_iff.mp hR
    exact ⟨1, lop_end (hend n 1 t hn (.inl ⟨by omega, rfl⟩))⟩
  | cons q R ih =>
    intro N n t hR hn hN hO
    rw [List.length_cons] at hN
    obtain ⟨N, rfl⟩ : ∃ j, N = j + 1 := ⟨N - 1, by omega⟩
    have hlt : n < P.length := by
      by_cases e : n < P.length
      · exact e
      · rw [List.drop_eq_nil_iff.mpr (by omega)] at hR; cases hR
    have hq : P[n]? = some q := by
      have h1 : (P.drop n)[0]? = some q := by rw [hR]; rfl
      rw [List.getElem?_drop] at h1
      exact h1
    have hR2 : P.drop (n + 1) = R := by
      rw [← List.drop_drop, hR]; rfl
    have hqP : q ∈ P := List.mem_of_getElem? hq
    have hs := hst n t q hO hq
    unfold recv
    by_cases e : t (16 + stkOf t q) < 5
    · rw [if_pos e] at hs
      rw [if_pos e, lop_stepF hs]
      exact ih hR2 (by omega) (by omega) (hOk_come hO (stkOf_lt (hP q hqP)) e)
    · rw [if_neg e] at hs
      rw [if_neg e, lop_stepF hs]
      obtain ⟨N, rfl⟩ : ∃ j, N = j + 1 := ⟨N - 1, by omega⟩
      exact ⟨0, lop_end (hend n 0 t hn (.inr rfl))⟩
theorem k_Mod_receiveAll (h60 : ty ≤ 60) (hx : ∀ i, i < ty → tx i < 128) (z : Nat × Nat × Nat × Option Nat) (hz : cOK (0, z)) (hp : kp ≤ 6) (hO : hOk t) :
    ∃ (p k : Nat) (td' : Nat → Int32) (ft' : Int32),
     (¬ ((scan tx ty 0 (0, z)).1 = ty ∧ 5 ≤ (scan tx ty 0 (0, z)).2.1) → x_Mod_receiveAll [.ref 98] (mM M (fM kp ty th at' ft tl) t u ps tx td, nx) = some (.inl (some (.int (nI 0))), (mM M (fM kp ty 1 p ft' k) t u ps tx td', nx))) ∧
     ((scan tx ty 0 (0, z)).1 = ty ∧ 5 ≤ (scan tx ty 0 (0, z)).2.1 → x_Mod_receiveAll [.ref 98] (mM M (fM kp ty th at' ft tl) t u ps tx td, nx) = some (.inl (some (.int (nI (recv (scanL tx ty 0 (0, z)) t 0).2))), (mM M (fM (savK kp) 0 0 p ft' k) (recv (scanL tx ty 0 (0, z)) t 0).1 u (savP kp ps t) tx td', nx))) := by
  obtain ⟨p, k, r, td', q, h1, h2, h3, h4⟩ := k_Mod_isText (M := M) (nx := nx) (t := t) (u := u) (ps := ps) (tx := tx) (td := td) (kp := kp) (ty := ty) (th := 0) (at' := at') (tl := tl) (ft := ft) h60 hx z
  refine ⟨p, k, td', nI (if p < ty then 1 else 0), fun hn => ?_, fun hy => ?_⟩
  · rw [h2] at hn
    rcases h4 with ⟨_, a, b, _⟩ | ⟨rfl, _⟩
    · exact absurd ⟨a, b⟩ hn
    · rw [q_Mod_receiveAll (h := mM_98)]
      simp (disch := omega) only [upd_nI, nI_add, pk_mul, zn_lt, zn_le, zn_eq, zn_e0, zn_l0, zn_g0, zn_le0, zn_ge0, zn_m1, zn_m1', zn_m1m, zn_sub, zn_addm, zn_div, eo_none, eo_some, mg_nI, mg_eo1, mg_eo2, mg_eo, mg_int, mg_lng, mg_sm, mg_smN, mg_cons, mg_pair, mg_nm, mg_fn, mg_out, mg_res, mg_sM, zb_e0, zb_e0', rr_nil, ite_self, rr_getfield, gfK_at, rr_putfield, pfK_at, rr_ivS, rr_ivV, rr_ivP, ws_nil, ws_int, ws_ref, ws_lng, cK_1, cK_0, iv_0, iv_1, iv_2, iv_3, iv_4, iv_5, iv_6, iv_7, fgK_l, fgK_r, fgK_if, zf_nil, zf_0, zf_1, zf_2, zf_3, zf_4, zf_5, zf_6, zf_7, zf_8, zf_9, zf_10, cat_K, ct_eq, ct_ne, ct_lt, ct_ge, ct_gt, ct_le, ct_eq0, ct_ne0, ct_lt0, ct_ge0, ct_gt0, ct_le0, ct_nulr, ct_nul, cno_K, nK_d, can_K, aK_d, cor_K, oK_d, cd_t, cd_f, nK_if, aK_if, oK_if, cfo_K, ite_K, iK_d, iK_if, sq_K, sK_nm, sK_x, sK_if, blk_K, bK_s, rti_K, riK_s, rtz_K, rzK_b, rzK_b', rzK_s, rtv_K, rvK_s, rta_K, raK_s, raK_n, rtl_K, rlK_s, rtd_K, rdK_s, brk_K, cnt_K, zr_fn, zr_if, swi_K, swK_s, swg_nil, swg_cons, stp_K, tK_d, tK_if, vK_nm, vK_bk, vK_ct, vK_fn, vK_if, wK_nm, Classical.not_not, Decidable.not_not, not_true, not_false_iff, if_true, if_false, Nat.zero_le, Nat.reduceLeDiff, Nat.reduceLT, Nat.zero_lt_one, Nat.one_ne_zero, Nat.reduceEqDiff, not_false_eq_true, eq_self, reduceCtorEq, Option.getD_some, Option.getD_none, Nat.reduceAdd, Nat.not_le, Nat.not_lt, Int32.not_le, Int32.not_lt, true_and, and_true, false_and, and_false, true_or, or_true, false_or, or_false, d_Mod_receiveAll, lc_Mod_receiveAll_163, lc_Mod_receiveAll_36, lc_Mod_receiveAll_113, lc_Mod_receiveAll_166, lc_Mod_receiveAll_116, lf_Mod_receiveAll_25, lf_Mod_receiveAll_134, lf_Mod_receiveAll_151, lf_Mod_receiveAll_22, lf_Mod_receiveAll_7, lt_Mod_receiveAll, rr_aload0, rr_bipush16, rr_iadd, rr_ialoadS, rr_iconstm, rr_iconst0, rr_iconst1, rr_iconst2, rr_iconst3, rr_iconst4, rr_iconst5, rr_iinc1 lb_Mod_receiveAll, rr_iload1, rr_iload2, rr_iload3, rr_imul, rr_istore1 lb_Mod_receiveAll, rr_istore2 lb_Mod_receiveAll, rr_istore3 lb_Mod_receiveAll, rr_pop, mM_98, mM_99, mM_100, mM_101, mM_102, mM_103, mr_t, mr_p, mr_x, mr_d, mw_t, mw_p, mw_x, mw_d, g_now, g_then, g_past, g_kept, g_text, g_typed, g_thrown, g_at, g_fault, g_told, g_tolds, p_kept, p_typed, p_thrown, p_at, p_fault, p_fault0, p_tolds, rr_getfield, rr_putfield, lt_T, lt_F, le_T, le_F, eq_T, eq_F, ne_eq, h1, k_Mod_fails]
  · rw [h2] at hy
    rcases h4 with ⟨rfl, a, b, h5, h6, h7⟩ | ⟨_, h⟩
    · generalize hPP : scanL tx ty 0 (0, z) = P at h6 h7
      have hPk : ∀ q, q ∈ P → cOK q := fun q hq => by
        rw [← hPP] at hq
        exact scanL_ok ty 0 (0, z) hz q hq
      rw [q_Mod_receiveAll (h := mM_98)]
      simp (disch := omega) only [upd_nI, nI_add, pk_mul, zn_lt, zn_le, zn_eq, zn_e0, zn_l0, zn_g0, zn_le0, zn_ge0, zn_m1, zn_m1', zn_m1m, zn_sub, zn_addm, zn_div, eo_none, eo_some, mg_nI, mg_eo1, mg_eo2, mg_eo, mg_int, mg_lng, mg_sm, mg_smN, mg_cons, mg_pair, mg_nm, mg_fn, mg_out, mg_res, mg_sM, zb_e0, zb_e0', rr_nil, ite_self, rr_getfield, gfK_at, rr_putfield, pfK_at, rr_ivS, rr_ivV, rr_ivP, ws_nil, ws_int, ws_ref, ws_lng, cK_1, cK_0, iv_0, iv_1, iv_2, iv_3, iv_4, iv_5, iv_6, iv_7, fgK_l, fgK_r, fgK_if, zf_nil, zf_0, zf_1, zf_2, zf_3, zf_4, zf_5, zf_6, zf_7, zf_8, zf_9, zf_10, cat_K, ct_eq, ct_ne, ct_lt, ct_ge, ct_gt, ct_le, ct_eq0, ct_ne0, ct_lt0, ct_ge0, ct_gt0, ct_le0, ct_nulr, ct_nul, cno_K, nK_d, can_K, aK_d, cor_K, oK_d, cd_t, cd_f, nK_if, aK_if, oK_if, cfo_K, ite_K, iK_d, iK_if, sq_K, sK_nm, sK_x, sK_if, blk_K, bK_s, rti_K, riK_s, rtz_K, rzK_b, rzK_b', rzK_s, rtv_K, rvK_s, rta_K, raK_s, raK_n, rtl_K, rlK_s, rtd_K, rdK_s, brk_K, cnt_K, zr_fn, zr_if, swi_K, swK_s, swg_nil, swg_cons, stp_K, tK_d, tK_if, vK_nm, vK_bk, vK_ct, vK_fn, vK_if, wK_nm, Classical.not_not, Decidable.not_not, not_true, not_false_iff, if_true, if_false, Nat.zero_le, Nat.reduceLeDiff, Nat.reduceLT, Nat.zero_lt_one, Nat.one_ne_zero, Nat.reduceEqDiff, not_false_eq_true, eq_self, reduceCtorEq, Option.getD_some, Option.getD_none, Nat.reduceAdd, Nat.not_le, Nat.not_lt, Int32.not_le, Int32.not_lt, true_and, and_true, false_and, and_false, true_or, or_true, false_or, or_false, d_Mod_receiveAll, lc_Mod_receiveAll_163, lc_Mod_receiveAll_36, lc_Mod_receiveAll_113, lc_Mod_receiveAll_166, lc_Mod_receiveAll_116, lf_Mod_receiveAll_25, lf_Mod_receiveAll_134, lf_Mod_receiveAll_151, lf_Mod_receiveAll_22, lf_Mod_receiveAll_7, lt_Mod_receiveAll, rr_aload0, rr_bipush16, rr_iadd, rr_ialoadS, rr_iconstm, rr_iconst0, rr_iconst1, rr_iconst2, rr_iconst3, rr_iconst4, rr_iconst5, rr_iinc1 lb_Mod_receiveAll, rr_iload1, rr_iload2, rr_iload3, rr_imul, rr_istore1 lb_Mod_receiveAll, rr_istore2 lb_Mod_receiveAll, rr_istore3 lb_Mod_receiveAll, rr_pop, mM_98, mM_99, mM_100, mM_101, mM_102, mM_103, mr_t, mr_p, mr_x, mr_d, mw_t, mw_p, mw_x, mw_d, g_now, g_then, g_past, g_kept, g_text, g_typed, g_thrown, g_at, g_fault, g_told, g_tolds, p_kept, p_typed, p_thrown, p_at, p_fault, p_fault0, p_tolds, rr_getfield, rr_putfield, lt_T, lt_F, le_T, le_F, eq_T, eq_F, ne_eq, h1, k_Mod_saves hp]
      generalize hlp : lop _ _ _ zFU _ = Rr
      have hh : ∃ j, Rr = nm ([some (.ref 98), some (.int (nI (recv P t 0).2)), some (.int (nI j)), none], [], (mM M (fM (savK kp) 0 0 p (nI 0) k) (recv P t 0).1 u (savP kp ps t) tx td', nx)) := by
        rw [← hlp]
        refine recv_loop hPk ?_ ?_ P (n := 0) rfl (Nat.zero_le _) (by show P.length + 1 < 5000; omega) hO
        · intro n t q hO hq
          obtain ⟨d0, d1, d2, d3⟩ := h7 n q hq
          have hnl : n < P.length := (List.getElem?_eq_some_iff.mp hq).1
          have hq6 := stkOf_lt (t := t) (hPk q (List.mem_of_getElem? hq))
          have h5s := hO _ hq6
          have d30 : ∀ x, td' (4 * n + 3) = x → td' (4 * n + 3) = x := fun _ h => h
          by_cases e : t (16 + stkOf t q) < 5
          · rw [if_pos e]
            unfold stkOf at hq6 h5s e ⊢
            cases es : q.2.2.2.2 with
            | none =>
              rw [es] at hq6 h5s e d3
              dsimp only at hq6 h5s e
              simp (disch := omega) only [upd_nI, nI_add, pk_mul, zn_lt, zn_le, zn_eq, zn_e0, zn_l0, zn_g0, zn_le0, zn_ge0, zn_m1, zn_m1', zn_m1m, zn_sub, zn_addm, zn_div, eo_none, eo_some, mg_nI, mg_eo1, mg_eo2, mg_eo, mg_int, mg_lng, mg_sm, mg_smN, mg_cons, mg_pair, mg_nm, mg_fn, mg_out, mg_res, mg_sM, zb_e0, zb_e0', rr_nil, ite_self, rr_getfield, gfK_at, rr_putfield, pfK_at, rr_ivS, rr_ivV, rr_ivP, ws_nil, ws_int, ws_ref, ws_lng, cK_1, cK_0, iv_0, iv_1, iv_2, iv_3, iv_4, iv_5, iv_6, iv_7, fgK_l, fgK_r, fgK_if, zf_nil, zf_0, zf_1, zf_2, zf_3, zf_4, zf_5, zf_6, zf_7, zf_8, zf_9, zf_10, cat_K, ct_eq, ct_ne, ct_lt, ct_ge, ct_gt, ct_le, ct_eq0, ct_ne0, ct_lt0, ct_ge0, ct_gt0, ct_le0, ct_nulr, ct_nul, cno_K, nK_d, can_K, aK_d, cor_K, oK_d, cd_t, cd_f, nK_if, aK_if, oK_if, cfo_K, ite_K, iK_d, iK_if, sq_K, sK_nm, sK_x, sK_if, blk_K, bK_s, rti_K, riK_s, rtz_K, rzK_b, rzK_b', rzK_s, rtv_K, rvK_s, rta_K, raK_s, raK_n, rtl_K, rlK_s, rtd_K, rdK_s, brk_K, cnt_K, zr_fn, zr_if, swi_K, swK_s, swg_nil, swg_cons, stp_K, tK_d, tK_if, vK_nm, vK_bk, vK_ct, vK_fn, vK_if, wK_nm, Classical.not_not, Decidable.not_not, not_true, not_false_iff, if_true, if_false, Nat.zero_le, Nat.reduceLeDiff, Nat.reduceLT, Nat.zero_lt_one, Nat.one_ne_zero, Nat.reduceEqDiff, not_false_eq_true, eq_self, reduceCtorEq, Option.getD_some, Option.getD_none, Nat.reduceAdd, Nat.not_le, Nat.not_lt, Int32.not_le, Int32.not_lt, true_and, and_true, false_and, and_false, true_or, or_true, false_or, or_false, d_Mod_receiveAll, lc_Mod_receiveAll_163, lc_Mod_receiveAll_36, lc_Mod_receiveAll_113, lc_Mod_receiveAll_166, lc_Mod_receiveAll_116, lf_Mod_receiveAll_25, lf_Mod_receiveAll_134, lf_Mod_receiveAll_151, lf_Mod_receiveAll_22, lf_Mod_receiveAll_7, lt_Mod_receiveAll, rr_aload0, rr_bipush16, rr_iadd, rr_ialoadS, rr_iconstm, rr_iconst0, rr_iconst1, rr_iconst2, rr_iconst3, rr_iconst4, rr_iconst5, rr_iinc1 lb_Mod_receiveAll, rr_iload1, rr_iload2, rr_iload3, rr_imul, rr_istore1 lb_Mod_receiveAll, rr_istore2 lb_Mod_receiveAll, rr_istore3 lb_Mod_receiveAll, rr_pop, mM_98, mM_99, mM_100, mM_101, mM_102, mM_103, mr_t, mr_p, mr_x, mr_d, mw_t, mw_p, mw_x, mw_d, g_now, g_then, g_past, g_kept, g_text, g_typed, g_thrown, g_at, g_fault, g_told, g_tolds, p_kept, p_typed, p_thrown, p_at, p_fault, p_fault0, p_tolds, rr_getfield, rr_putfield, lt_T, lt_F, le_T, le_F, eq_T, eq_F, ne_eq, d0, d1, d2, d3, k_Mod_lowest hO, k_Mod_comes]
            | some s =>
              rw [es] at hq6 h5s e d3
              dsimp only at hq6 h5s e
              simp (disch := omega) only [upd_nI, nI_add, pk_mul, zn_lt, zn_le, zn_eq, zn_e0, zn_l0, zn_g0, zn_le0, zn_ge0, zn_m1, zn_m1', zn_m1m, zn_sub, zn_addm, zn_div, eo_none, eo_some, mg_nI, mg_eo1, mg_eo2, mg_eo, mg_int, mg_lng, mg_sm, mg_smN, mg_cons, mg_pair, mg_nm, mg_fn, mg_out, mg_res, mg_sM, zb_e0, zb_e0', rr_nil, ite_self, rr_getfield, gfK_at, rr_putfield, pfK_at, rr_ivS, rr_ivV, rr_ivP, ws_nil, ws_int, ws_ref, ws_lng, cK_1, cK_0, iv_0, iv_1, iv_2, iv_3, iv_4, iv_5, iv_6, iv_7, fgK_l, fgK_r, fgK_if, zf_nil, zf_0, zf_1, zf_2, zf_3, zf_4, zf_5, zf_6, zf_7, zf_8, zf_9, zf_10, cat_K, ct_eq, ct_ne, ct_lt, ct_ge, ct_gt, ct_le, ct_eq0, ct_ne0, ct_lt0, ct_ge0, ct_gt0, ct_le0, ct_nulr, ct_nul, cno_K, nK_d, can_K, aK_d, cor_K, oK_d, cd_t, cd_f, nK_if, aK_if, oK_if, cfo_K, ite_K, iK_d, iK_if, sq_K, sK_nm, sK_x, sK_if, blk_K, bK_s, rti_K, riK_s, rtz_K, rzK_b, rzK_b', rzK_s, rtv_K, rvK_s, rta_K, raK_s, raK_n, rtl_K, rlK_s, rtd_K, rdK_s, brk_K, cnt_K, zr_fn, zr_if, swi_K, swK_s, swg_nil, swg_cons, stp_K, tK_d, tK_if, vK_nm, vK_bk, vK_ct, vK_fn, vK_if, wK_nm, Classical.not_not, Decidable.not_not, not_true, not_false_iff, if_true, if_false, Nat.zero_le, Nat.reduceLeDiff, Nat.reduceLT, Nat.zero_lt_one, Nat.one_ne_zero, Nat.reduceEqDiff, not_false_eq_true, eq_self, reduceCtorEq, Option.getD_some, Option.getD_none, Nat.reduceAdd, Nat.not_le, Nat.not_lt, Int32.not_le, Int32.not_lt, true_and, and_true, false_and, and_false, true_or, or_true, false_or, or_false, d_Mod_receiveAll, lc_Mod_receiveAll_163, lc_Mod_receiveAll_36, lc_Mod_receiveAll_113, lc_Mod_receiveAll_166, lc_Mod_receiveAll_116, lf_Mod_receiveAll_25, lf_Mod_receiveAll_134, lf_Mod_receiveAll_151, lf_Mod_receiveAll_22, lf_Mod_receiveAll_7, lt_Mod_receiveAll, rr_aload0, rr_bipush16, rr_iadd, rr_ialoadS, rr_iconstm, rr_iconst0, rr_iconst1, rr_iconst2, rr_iconst3, rr_iconst4, rr_iconst5, rr_iinc1 lb_Mod_receiveAll, rr_iload1, rr_iload2, rr_iload3, rr_imul, rr_istore1 lb_Mod_receiveAll, rr_istore2 lb_Mod_receiveAll, rr_istore3 lb_Mod_receiveAll, rr_pop, mM_98, mM_99, mM_100, mM_101, mM_102, mM_103, mr_t, mr_p, mr_x, mr_d, mw_t, mw_p, mw_x, mw_d, g_now, g_then, g_past, g_kept, g_text, g_typed, g_thrown, g_at, g_fault, g_told, g_tolds, p_kept, p_typed, p_thrown, p_at, p_fault, p_fault0, p_tolds, rr_getfield, rr_putfield, lt_T, lt_F, le_T, le_F, eq_T, eq_F, ne_eq, d0, d1, d2, d3, k_Mod_comes]
          · rw [if_neg e]
            unfold stkOf at hq6 h5s e
            cases es : q.2.2.2.2 with
            | none =>
              rw [es] at hq6 h5s e d3
              dsimp only at hq6 h5s e
              simp (disch := omega) only [upd_nI, nI_add, pk_mul, zn_lt, zn_le, zn_eq, zn_e0, zn_l0, zn_g0, zn_le0, zn_ge0, zn_m1, zn_m1', zn_m1m, zn_sub, zn_addm, zn_div, eo_none, eo_some, mg_nI, mg_eo1, mg_eo2, mg_eo, mg_int, mg_lng, mg_sm, mg_smN, mg_cons, mg_pair, mg_nm, mg_fn, mg_out, mg_res, mg_sM, zb_e0, zb_e0', rr_nil, ite_self, rr_getfield, gfK_at, rr_putfield, pfK_at, rr_ivS, rr_ivV, rr_ivP, ws_nil, ws_int, ws_ref, ws_lng, cK_1, cK_0, iv_0, iv_1, iv_2, iv_3, iv_4, iv_5, iv_6, iv_7, fgK_l, fgK_r, fgK_if, zf_nil, zf_0, zf_1, zf_2, zf_3, zf_4, zf_5, zf_6, zf_7, zf_8, zf_9, zf_10, cat_K, ct_eq, ct_ne, ct_lt, ct_ge, ct_gt, ct_le, ct_eq0, ct_ne0, ct_lt0, ct_ge0, ct_gt0, ct_le0, ct_nulr, ct_nul, cno_K, nK_d, can_K, aK_d, cor_K, oK_d, cd_t, cd_f, nK_if, aK_if, oK_if, cfo_K, ite_K, iK_d, iK_if, sq_K, sK_nm, sK_x, sK_if, blk_K, bK_s, rti_K, riK_s, rtz_K, rzK_b, rzK_b', rzK_s, rtv_K, rvK_s, rta_K, raK_s, raK_n, rtl_K, rlK_s, rtd_K, rdK_s, brk_K, cnt_K, zr_fn, zr_if, swi_K, swK_s, swg_nil, swg_cons, stp_K, tK_d, tK_if, vK_nm, vK_bk, vK_ct, vK_fn, vK_if, wK_nm, Classical.not_not, Decidable.not_not, not_true, not_false_iff, if_true, if_false, Nat.zero_le, Nat.reduceLeDiff, Nat.reduceLT, Nat.zero_lt_one, Nat.one_ne_zero, Nat.reduceEqDiff, not_false_eq_true, eq_self, reduceCtorEq, Option.getD_some, Option.getD_none, Nat.reduceAdd, Nat.not_le, Nat.not_lt, Int32.not_le, Int32.not_lt, true_and, and_true, false_and, and_false, true_or, or_true, false_or, or_false, d_Mod_receiveAll, lc_Mod_receiveAll_163, lc_Mod_receiveAll_36, lc_Mod_receiveAll_113, lc_Mod_receiveAll_166, lc_Mod_receiveAll_116, lf_Mod_receiveAll_25, lf_Mod_receiveAll_134, lf_Mod_receiveAll_151, lf_Mod_receiveAll_22, lf_Mod_receiveAll_7, lt_Mod_receiveAll, rr_aload0, rr_bipush16, rr_iadd, rr_ialoadS, rr_iconstm, rr_iconst0, rr_iconst1, rr_iconst2, rr_iconst3, rr_iconst4, rr_iconst5, rr_iinc1 lb_Mod_receiveAll, rr_iload1, rr_iload2, rr_iload3, rr_imul, rr_istore1 lb_Mod_receiveAll, rr_istore2 lb_Mod_receiveAll, rr_istore3 lb_Mod_receiveAll, rr_pop, mM_98, mM_99, mM_100, mM_101, mM_102, mM_103, mr_t, mr_p, mr_x, mr_d, mw_t, mw_p, mw_x, mw_d, g_now, g_then, g_past, g_kept, g_text, g_typed, g_thrown, g_at, g_fault, g_told, g_tolds, p_kept, p_typed, p_thrown, p_at, p_fault, p_fault0, p_tolds, rr_getfield, rr_putfield, lt_T, lt_F, le_T, le_F, eq_T, eq_F, ne_eq, d0, d1, d2, d3, k_Mod_lowest hO]
            | some s =>
              rw [es] at hq6 h5s e d3
              dsimp only at hq6 h5s e
              simp (disch := omega) only [upd_nI, nI_add, pk_mul, zn_lt, zn_le, zn_eq, zn_e0, zn_l0, zn_g0, zn_le0, zn_ge0, zn_m1, zn_m1', zn_m1m, zn_sub, zn_addm, zn_div, eo_none, eo_some, mg_nI, mg_eo1, mg_eo2, mg_eo, mg_int, mg_lng, mg_sm, mg_smN, mg_cons, mg_pair, mg_nm, mg_fn, mg_out, mg_res, mg_sM, zb_e0, zb_e0', rr_nil, ite_self, rr_getfield, gfK_at, rr_putfield, pfK_at, rr_ivS, rr_ivV, rr_ivP, ws_nil, ws_int, ws_ref, ws_lng, cK_1, cK_0, iv_0, iv_1, iv_2, iv_3, iv_4, iv_5, iv_6, iv_7, fgK_l, fgK_r, fgK_if, zf_nil, zf_0, zf_1, zf_2, zf_3, zf_4, zf_5, zf_6, zf_7, zf_8, zf_9, zf_10, cat_K, ct_eq, ct_ne, ct_lt, ct_ge, ct_gt, ct_le, ct_eq0, ct_ne0, ct_lt0, ct_ge0, ct_gt0, ct_le0, ct_nulr, ct_nul, cno_K, nK_d, can_K, aK_d, cor_K, oK_d, cd_t, cd_f, nK_if, aK_if, oK_if, cfo_K, ite_K, iK_d, iK_if, sq_K, sK_nm, sK_x, sK_if, blk_K, bK_s, rti_K, riK_s, rtz_K, rzK_b, rzK_b', rzK_s, rtv_K, rvK_s, rta_K, raK_s, raK_n, rtl_K, rlK_s, rtd_K, rdK_s, brk_K, cnt_K, zr_fn, zr_if, swi_K, swK_s, swg_nil, swg_cons, stp_K, tK_d, tK_if, vK_nm, vK_bk, vK_ct, vK_fn, vK_if, wK_nm, Classical.not_not, Decidable.not_not, not_true, not_false_iff, if_true, if_false, Nat.zero_le, Nat.reduceLeDiff, Nat.reduceLT, Nat.zero_lt_one, Nat.one_ne_zero, Nat.reduceEqDiff, not_false_eq_true, eq_self, reduceCtorEq, Option.getD_some, Option.getD_none, Nat.reduceAdd, Nat.not_le, Nat.not_lt, Int32.not_le, Int32.not_lt, true_and, and_true, false_and, and_false, true_or, or_true, false_or, or_false, d_Mod_receiveAll, lc_Mod_receiveAll_163, lc_Mod_receiveAll_36, lc_Mod_receiveAll_113, lc_Mod_receiveAll_166, lc_Mod_receiveAll_116, lf_Mod_receiveAll_25, lf_Mod_receiveAll_134, lf_Mod_receiveAll_151, lf_Mod_receiveAll_22, lf_Mod_receiveAll_7, lt_Mod_receiveAll, rr_aload0, rr_bipush16, rr_iadd, rr_ialoadS, rr_iconstm, rr_iconst0, rr_iconst1, rr_iconst2, rr_iconst3, rr_iconst4, rr_iconst5, rr_iinc1 lb_Mod_receiveAll, rr_iload1, rr_iload2, rr_iload3, rr_imul, rr_istore1 lb_Mod_receiveAll, rr_istore2 lb_Mod_receiveAll, rr_istore3 lb_Mod_receiveAll, rr_pop, mM_98, mM_99, mM_100, mM_101, mM_102, mM_103, mr_t, mr_p, mr_x, mr_d, mw_t, mw_p, mw_x, mw_d, g_now, g_then, g_past, g_kept, g_text, g_typed, g_thrown, g_at, g_fault, g_told, g_tolds, p_kept, p_typed, p_thrown, p_at, p_fault, p_fault0, p_tolds, rr_getfield, rr_putfield, lt_T, lt_F, le_T, le_F, eq_T, eq_F, ne_eq, d0, d1, d2, d3]
        · intro n j t hn hj
          rcases hj with ⟨rfl, rfl⟩ | rfl
          · simp (disch := omega) only [upd_nI, nI_add, pk_mul, zn_lt, zn_le, zn_eq, zn_e0, zn_l0, zn_g0, zn_le0, zn_ge0, zn_m1, zn_m1', zn_m1m, zn_sub, zn_addm, zn_div, eo_none, eo_some, mg_nI, mg_eo1, mg_eo2, mg_eo, mg_int, mg_lng, mg_sm, mg_smN, mg_cons, mg_pair, mg_nm, mg_fn, mg_out, mg_res, mg_sM, zb_e0, zb_e0', rr_nil, ite_self, rr_getfield, gfK_at, rr_putfield, pfK_at, rr_ivS, rr_ivV, rr_ivP, ws_nil, ws_int, ws_ref, ws_lng, cK_1, cK_0, iv_0, iv_1, iv_2, iv_3, iv_4, iv_5, iv_6, iv_7, fgK_l, fgK_r, fgK_if, zf_nil, zf_0, zf_1, zf_2, zf_3, zf_4, zf_5, zf_6, zf_7, zf_8, zf_9, zf_10, cat_K, ct_eq, ct_ne, ct_lt, ct_ge, ct_gt, ct_le, ct_eq0, ct_ne0, ct_lt0, ct_ge0, ct_gt0, ct_le0, ct_nulr, ct_nul, cno_K, nK_d, can_K, aK_d, cor_K, oK_d, cd_t, cd_f, nK_if, aK_if, oK_if, cfo_K, ite_K, iK_d, iK_if, sq_K, sK_nm, sK_x, sK_if, blk_K, bK_s, rti_K, riK_s, rtz_K, rzK_b, rzK_b', rzK_s, rtv_K, rvK_s, rta_K, raK_s, raK_n, rtl_K, rlK_s, rtd_K, rdK_s, brk_K, cnt_K, zr_fn, zr_if, swi_K, swK_s, swg_nil, swg_cons, stp_K, tK_d, tK_if, vK_nm, vK_bk, vK_ct, vK_fn, vK_if, wK_nm, Classical.not_not, Decidable.not_not, not_true, not_false_iff, if_true, if_false, Nat.zero_le, Nat.reduceLeDiff, Nat.reduceLT, Nat.zero_lt_one, Nat.one_ne_zero, Nat.reduceEqDiff, not_false_eq_true, eq_self, reduceCtorEq, Option.getD_some, Option.getD_none, Nat.reduceAdd, Nat.not_le, Nat.not_lt, Int32.not_le, Int32.not_lt, true_and, and_true, false_and, and_false, true_or, or_true, false_or, or_false, d_Mod_receiveAll, lc_Mod_receiveAll_163, lc_Mod_receiveAll_36, lc_Mod_receiveAll_113, lc_Mod_receiveAll_166, lc_Mod_receiveAll_116, lf_Mod_receiveAll_25, lf_Mod_receiveAll_134, lf_Mod_receiveAll_151, lf_Mod_receiveAll_22, lf_Mod_receiveAll_7, lt_Mod_receiveAll, rr_aload0, rr_bipush16, rr_iadd, rr_ialoadS, rr_iconstm, rr_iconst0, rr_iconst1, rr_iconst2, rr_iconst3, rr_iconst4, rr_iconst5, rr_iinc1 lb_Mod_receiveAll, rr_iload1, rr_iload2, rr_iload3, rr_imul, rr_istore1 lb_Mod_receiveAll, rr_istore2 lb_Mod_receiveAll, rr_istore3 lb_Mod_receiveAll, rr_pop, mM_98, mM_99, mM_100, mM_101, mM_102, mM_103, mr_t, mr_p, mr_x, mr_d, mw_t, mw_p, mw_x, mw_d, g_now, g_then, g_past, g_kept, g_text, g_typed, g_thrown, g_at, g_fault, g_told, g_tolds, p_kept, p_typed, p_thrown, p_at, p_fault, p_fault0, p_tolds, rr_getfield, rr_putfield, lt_T, lt_F, le_T, le_F, eq_T, eq_F, ne_eq, h6]
          · simp (disch := omega) only [upd_nI, nI_add, pk_mul, zn_lt, zn_le, zn_eq, zn_e0, zn_l0, zn_g0, zn_le0, zn_ge0, zn_m1, zn_m1', zn_m1m, zn_sub, zn_addm, zn_div, eo_none, eo_some, mg_nI, mg_eo1, mg_eo2, mg_eo, mg_int, mg_lng, mg_sm, mg_smN, mg_cons, mg_pair, mg_nm, mg_fn, mg_out, mg_res, mg_sM, zb_e0, zb_e0', rr_nil, ite_self, rr_getfield, gfK_at, rr_putfield, pfK_at, rr_ivS, rr_ivV, rr_ivP, ws_nil, ws_int, ws_ref, ws_lng, cK_1, cK_0, iv_0, iv_1, iv_2, iv_3, iv_4, iv_5, iv_6, iv_7, fgK_l, fgK_r, fgK_if, zf_nil, zf_0, zf_1, zf_2, zf_3, zf_4, zf_5, zf_6, zf_7, zf_8, zf_9, zf_10, cat_K, ct_eq, ct_ne, ct_lt, ct_ge, ct_gt, ct_le, ct_eq0, ct_ne0, ct_lt0, ct_ge0, ct_gt0, ct_le0, ct_nulr, ct_nul, cno_K, nK_d, can_K, aK_d, cor_K, oK_d, cd_t, cd_f, nK_if, aK_if, oK_if, cfo_K, ite_K, iK_d, iK_if, sq_K, sK_nm, sK_x, sK_if, blk_K, bK_s, rti_K, riK_s, rtz_K, rzK_b, rzK_b', rzK_s, rtv_K, rvK_s, rta_K, raK_s, raK_n, rtl_K, rlK_s, rtd_K, rdK_s, brk_K, cnt_K, zr_fn, zr_if, swi_K, swK_s, swg_nil, swg_cons, stp_K, tK_d, tK_if, vK_nm, vK_bk, vK_ct, vK_fn, vK_if, wK_nm, Classical.not_not, Decidable.not_not, not_true, not_false_iff, if_true, if_false, Nat.zero_le, Nat.reduceLeDiff, Nat.reduceLT, Nat.zero_lt_one, Nat.one_ne_zero, Nat.reduceEqDiff, not_false_eq_true, eq_self, reduceCtorEq, Option.getD_some, Option.getD_none, Nat.reduceAdd, Nat.not_le, Nat.not_lt, Int32.not_le, Int32.not_lt, true_and, and_true, false_and, and_false, true_or, or_true, false_or, or_false, d_Mod_receiveAll, lc_Mod_receiveAll_163, lc_Mod_receiveAll_36, lc_Mod_receiveAll_113, lc_Mod_receiveAll_166, lc_Mod_receiveAll_116, lf_Mod_receiveAll_25, lf_Mod_receiveAll_134, lf_Mod_receiveAll_151, lf_Mod_receiveAll_22, lf_Mod_receiveAll_7, lt_Mod_receiveAll, rr_aload0, rr_bipush16, rr_iadd, rr_ialoadS, rr_iconstm, rr_iconst0, rr_iconst1, rr_iconst2, rr_iconst3, rr_iconst4, rr_iconst5, rr_iinc1 lb_Mod_receiveAll, rr_iload1, rr_iload2, rr_iload3, rr_imul, rr_istore1 lb_Mod_receiveAll, rr_istore2 lb_Mod_receiveAll, rr_istore3 lb_Mod_receiveAll, rr_pop, mM_98, mM_99, mM_100, mM_101, mM_102, mM_103, mr_t, mr_p, mr_x, mr_d, mw_t, mw_p, mw_x, mw_d, g_now, g_then, g_past, g_kept, g_text, g_typed, g_thrown, g_at, g_fault, g_told, g_tolds, p_kept, p_typed, p_thrown, p_at, p_fault, p_fault0, p_tolds, rr_getfield, rr_putfield, lt_T, lt_F, le_T, le_F, eq_T, eq_F, ne_eq]
      obtain ⟨j, rfl⟩ := hh
      simp (disch := omega) only [upd_nI, nI_add, pk_mul, zn_lt, zn_le, zn_eq, zn_e0, zn_l0, zn_g0, zn_le0, zn_ge0, zn_m1, zn_m1', zn_m1m, zn_sub, zn_addm, zn_div, eo_none, eo_some, mg_nI, mg_eo1, mg_eo2, mg_eo, mg_int, mg_lng, mg_sm, mg_smN, mg_cons, mg_pair, mg_nm, mg_fn, mg_out, mg_res, mg_sM, zb_e0, zb_e0', rr_nil, ite_self, rr_getfield, gfK_at, rr_putfield, pfK_at, rr_ivS, rr_ivV, rr_ivP, ws_nil, ws_int, ws_ref, ws_lng, cK_1, cK_0, iv_0, iv_1, iv_2, iv_3, iv_4, iv_5, iv_6, iv_7, fgK_l, fgK_r, fgK_if, zf_nil, zf_0, zf_1, zf_2, zf_3, zf_4, zf_5, zf_6, zf_7, zf_8, zf_9, zf_10, cat_K, ct_eq, ct_ne, ct_lt, ct_ge, ct_gt, ct_le, ct_eq0, ct_ne0, ct_lt0, ct_ge0, ct_gt0, ct_le0, ct_nulr, ct_nul, cno_K, nK_d, can_K, aK_d, cor_K, oK_d, cd_t, cd_f, nK_if, aK_if, oK_if, cfo_K, ite_K, iK_d, iK_if, sq_K, sK_nm, sK_x, sK_if, blk_K, bK_s, rti_K, riK_s, rtz_K, rzK_b, rzK_b', rzK_s, rtv_K, rvK_s, rta_K, raK_s, raK_n, rtl_K, rlK_s, rtd_K, rdK_s, brk_K, cnt_K, zr_fn, zr_if, swi_K, swK_s, swg_nil, swg_cons, stp_K, tK_d, tK_if, vK_nm, vK_bk, vK_ct, vK_fn, vK_if, wK_nm, Classical.not_not, Decidable.not_not, not_true, not_false_iff, if_true, if_false, Nat.zero_le, Nat.reduceLeDiff, Nat.reduceLT, Nat.zero_lt_one, Nat.one_ne_zero, Nat.reduceEqDiff, not_false_eq_true, eq_self, reduceCtorEq, Option.getD_some, Option.getD_none, Nat.reduceAdd, Nat.not_le, Nat.not_lt, Int32.not_le, Int32.not_lt, true_and, and_true, false_and, and_false, true_or, or_true, false_or, or_false, d_Mod_receiveAll, lc_Mod_receiveAll_163, lc_Mod_receiveAll_36, lc_Mod_receiveAll_113, lc_Mod_receiveAll_166, lc_Mod_receiveAll_116, lf_Mod_receiveAll_25, lf_Mod_receiveAll_134, lf_Mod_receiveAll_151, lf_Mod_receiveAll_22, lf_Mod_receiveAll_7, lt_Mod_receiveAll, rr_aload0, rr_bipush16, rr_iadd, rr_ialoadS, rr_iconstm, rr_iconst0, rr_iconst1, rr_iconst2, rr_iconst3, rr_iconst4, rr_iconst5, rr_iinc1 lb_Mod_receiveAll, rr_iload1, rr_iload2, rr_iload3, rr_imul, rr_istore1 lb_Mod_receiveAll, rr_istore2 lb_Mod_receiveAll, rr_istore3 lb_Mod_receiveAll, rr_pop, mM_98, mM_99, mM_100, mM_101, mM_102, mM_103, mr_t, mr_p, mr_x, mr_d, mw_t, mw_p, mw_x, mw_d, g_now, g_then, g_past, g_kept, g_text, g_typed, g_thrown, g_at, g_fault, g_told, g_tolds, p_kept, p_typed, p_thrown, p_at, p_fault, p_fault0, p_tolds, rr_getfield, rr_putfield, lt_T, lt_F, le_T, le_F, eq_T, eq_F, ne_eq]
    · exact absurd hy h
end
