/-! ===== the reference reads a width ===== -/
section
variable {M : Hp} {nx : Nat} {t u ps tx : Nat → Nat} {td : Nat → Int32} {kp ty th at' tl : Nat} {ft : Int32} {m : Nat}
/-- the parts that are read -/
def scanL (tx : Nat → Nat) : Nat → Nat → Cfg → List Cfg
  | 0, _, _ => []
  | n + 1, a, c => match stepC c (tx a) with
    | none => []
    | some c' => if 5 ≤ c'.1 ∧ (n = 0 ∨ tx (a + 1) = 59) then c' :: scanL tx n (a + 1) c' else scanL tx n (a + 1) c'
/-- read through, from a place to another, within a part -/
def Thru (tx : Nat → Nat) (ty a : Nat) (c : Cfg) (b : Nat) (c' : Cfg) : Prop := a ≤ b ∧ b ≤ ty ∧ scan tx (ty - a) a c = scan tx (ty - b) b c' ∧ scanL tx (ty - a) a c = scanL tx (ty - b) b c'
theorem Thru.refl {a : Nat} {c : Cfg} (h : a ≤ ty) : Thru tx ty a c a c := ⟨Nat.le_refl _, h, rfl, rfl⟩
theorem Thru.trans {a b d : Nat} {c c' c'' : Cfg} (h : Thru tx ty a c b c') (h' : Thru tx ty b c' d c'') : Thru tx ty a c d c'' :=
  ⟨Nat.le_trans h.1 h'.1, h'.2.1, h.2.2.1.trans h'.2.2.1, h.2.2.2.trans h'.2.2.2⟩
theorem scan_s {a : Nat} {c c' : Cfg} (ha : a < ty) (h : stepC c (tx a) = some c') : scan tx (ty - a) a c = scan tx (ty - (a + 1)) (a + 1) c' := by
  obtain ⟨n, hn⟩ : ∃ n, ty - a = n + 1 := ⟨ty - a - 1, by omega⟩
  rw [hn, show ty - (a + 1) = n by omega]
  show (match stepC c (tx a) with
    | none => (a, c)
    | some c' => scan tx n (a + 1) c') = _
  rw [h]
theorem scanL_s {a : Nat} {c c' : Cfg} (ha : a < ty) (h : stepC c (tx a) = some c') : scanL tx (ty - a) a c = if 5 ≤ c'.1 ∧ (a + 1 = ty ∨ tx (a + 1) = 59) then c' :: scanL tx (ty - (a + 1)) (a + 1) c' else scanL tx (ty - (a + 1)) (a + 1) c' := by
  obtain ⟨n, hn⟩ : ∃ n, ty - a = n + 1 := ⟨ty - a - 1, by omega⟩
  rw [hn, show ty - (a + 1) = n by omega]
  show (match stepC c (tx a) with
    | none => []
    | some c' => if 5 ≤ c'.1 ∧ (n = 0 ∨ tx (a + 1) = 59) then c' :: scanL tx n (a + 1) c' else scanL tx n (a + 1) c') = _
  rw [h]
  have e : (n = 0) = (a + 1 = ty) := propext ⟨fun _ => by omega, fun _ => by omega⟩
  simp only [e]
theorem Thru.step {a : Nat} {c c' : Cfg} (ha : a < ty) (h : stepC c (tx a) = some c') (h5 : ¬ (5 ≤ c'.1 ∧ (a + 1 = ty ∨ tx (a + 1) = 59))) : Thru tx ty a c (a + 1) c' :=
  ⟨by omega, by omega, scan_s ha h, (scanL_s ha h).trans (if_neg h5)⟩
theorem scan_end {a : Nat} {c : Cfg} (h : a = ty ∨ (a < ty ∧ stepC c (tx a) = none)) : scan tx (ty - a) a c = (a, c) := by
  rcases h with rfl | ⟨h1, h2⟩
  · rw [Nat.sub_self]; rfl
  · obtain ⟨n, hn⟩ : ∃ n, ty - a = n + 1 := ⟨ty - a - 1, by omega⟩
    rw [hn]
    show (match stepC c (tx a) with
      | none => (a, c)
      | some c' => scan tx n (a + 1) c') = _
    rw [h2]
abbrev wC (v : Nat) : Cfg := (1, v, 0, 5, none)
theorem step_w {v l : Nat} (h : 48 ≤ l ∧ l ≤ 57) (hv : 10 * v + (l - 48) ≤ 200) : stepC (wC v) l = some (wC (10 * v + (l - 48))) := by
  unfold stepC
  rw [if_neg (by decide), if_pos rfl, if_neg (by omega), if_pos ⟨h.1, h.2, hv⟩]
theorem step_w0 {z : Nat × Nat × Nat × Option Nat} {l : Nat} (h : 49 ≤ l ∧ l ≤ 57) : stepC (0, z) l = some (wC (l - 48)) := by
  unfold stepC
  rw [if_pos rfl, if_pos h]
theorem width_loop {c : Cn} {b u0 : Dn} (h60 : ty ≤ 60)
    (hst : ∀ (p v : Nat), p < ty → v ≤ 200 → 48 ≤ tx p ∧ tx p ≤ 57 → 10 * v + (tx p - 48) ≤ 200 → stp c b u0 ([some (.ref 98), some (.int (nI v))], [], (mM M (fM kp ty th p ft tl) t u ps tx td, nx)) = .inl ([some (.ref 98), some (.int (nI (10 * v + (tx p - 48))))], [], (mM M (fM kp ty th (p + 1) ft tl) t u ps tx td, nx)))
    (hend : ∀ (p v : Nat), p ≤ ty → v ≤ 200 → ¬ (p < ty ∧ (48 ≤ tx p ∧ tx p ≤ 57) ∧ 10 * v + (tx p - 48) ≤ 200) → stp c b u0 ([some (.ref 98), some (.int (nI v))], [], (mM M (fM kp ty th p ft tl) t u ps tx td, nx)) = .inr (nm ([some (.ref 98), some (.int (nI v))], [], (mM M (fM kp ty th p ft tl) t u ps tx td, nx)))) :
    ∀ (n : Nat) {N p v : Nat}, n + p = ty → n < N → v ≤ 200 → ∃ q v', lop c b u0 N ([some (.ref 98), some (.int (nI v))], [], (mM M (fM kp ty th p ft tl) t u ps tx td, nx)) = nm ([some (.ref 98), some (.int (nI v'))], [], (mM M (fM kp ty th q ft tl) t u ps tx td, nx)) ∧ Thru tx ty p (wC v) q (wC v') ∧ v' ≤ 200 ∧ ¬ (q < ty ∧ (48 ≤ tx q ∧ tx q ≤ 57) ∧ 10 * v' + (tx q - 48) ≤ 200) := by
  intro n
  induction n with
  | zero =>
    intro N p v hp hN hv
    obtain ⟨N, rfl⟩ : ∃ j, N = j + 1 := ⟨N - 1, by omega⟩
    exact ⟨p, v, lop_end (hend p v (by omega) hv (by omega)), Thru.refl (by omega), hv, by omega⟩
  | succ n ih =>
    intro N p v hp hN hv
    obtain ⟨N, rfl⟩ : ∃ j, N = j + 1 := ⟨N - 1, by omega⟩
    by_cases h : (48 ≤ tx p ∧ tx p ≤ 57) ∧ 10 * v + (tx p - 48) ≤ 200
    · obtain ⟨q, v', r1, r2, r3, r4⟩ := ih (N := N) (p := p + 1) (v := 10 * v + (tx p - 48)) (by omega) (by omega) h.2
      refine ⟨q, v', ?_, ?_, r3, r4⟩
      · rw [lop_step (hst p v (by omega) hv h.1 h.2)]
        exact r1
      · exact Thru.trans (Thru.step (by omega) (step_w h.1 h.2) (by intro h5; exact absurd h5.1 (by show ¬ 5 ≤ 1; omega))) r2
    · exact ⟨p, v, lop_end (hend p v (by omega) hv (fun h2 => h h2.2)), Thru.refl (by omega), hv, fun h2 => h h2.2⟩
theorem k_Mod_isWidth (h60 : ty ≤ 60) (ha : at' ≤ ty) (hx : ∀ i, i < ty → tx i < 128) (htl : tl ≤ 15) {z : Nat × Nat × Nat × Option Nat} :
    (¬ (at' < ty ∧ 49 ≤ tx at' ∧ tx at' ≤ 57) → x_Mod_isWidth [.ref 98] (mM M (fM kp ty th at' ft tl) t u ps tx td, nx) = some (.inl (some (.int (nI 0))), (mM M (fM kp ty th at' (nI (if at' < ty then 1 else 0)) tl) t u ps tx td, nx))) ∧
    (at' < ty ∧ 49 ≤ tx at' ∧ tx at' ≤ 57 → ∃ q v, x_Mod_isWidth [.ref 98] (mM M (fM kp ty th at' ft tl) t u ps tx td, nx) = some (.inl (some (.int (nI 1))), (mM M (fM kp ty th q ft tl) t u ps tx (upd td (4 * tl) (nI v)), nx)) ∧ Thru tx ty at' (0, z) q (wC v) ∧ at' + 1 ≤ q ∧ v ≤ 200 ∧ ¬ (q < ty ∧ (48 ≤ tx q ∧ tx q ≤ 57) ∧ 10 * v + (tx q - 48) ≤ 200)) := by
  refine ⟨fun h => ?_, fun h => ?_⟩
  · rw [q_Mod_isWidth (h := mM_98)]
    simp (disch := omega) only [upd_nI, nI_add, pk_mul, zn_lt, zn_le, zn_eq, zn_e0, zn_l0, zn_g0, zn_le0, zn_ge0, zn_m1, zn_m1', zn_m1m, zn_sub, zn_addm, zn_div, eo_none, eo_some, mg_nI, mg_eo1, mg_eo2, mg_eo, mg_int, mg_lng, mg_sm, mg_smN, mg_cons, mg_pair, mg_nm, mg_fn, mg_out, mg_res, mg_sM, zb_e0, zb_e0', rr_nil, ite_self, rr_getfield, gfK_at, rr_putfield, pfK_at, rr_ivS, rr_ivV, rr_ivP, ws_nil, ws_int, ws_ref, ws_lng, cK_1, cK_0, iv_0, iv_1, iv_2, iv_3, iv_4, iv_5, iv_6, iv_7, fgK_l, fgK_r, fgK_if, zf_nil, zf_0, zf_1, zf_2, zf_3, zf_4, zf_5, zf_6, zf_7, zf_8, zf_9, zf_10, cat_K, ct_eq, ct_ne, ct_lt, ct_ge, ct_gt, ct_le, ct_eq0, ct_ne0, ct_lt0, ct_ge0, ct_gt0, ct_le0, ct_nulr, ct_nul, cno_K, nK_d, can_K, aK_d, cor_K, oK_d, cd_t, cd_f, nK_if, aK_if, oK_if, cfo_K, ite_K, iK_d, iK_if, sq_K, sK_nm, sK_x, sK_if, blk_K, bK_s, rti_K, riK_s, rtz_K, rzK_b, rzK_b', rzK_s, rtv_K, rvK_s, rta_K, raK_s, raK_n, rtl_K, rlK_s, rtd_K, rdK_s, brk_K, cnt_K, zr_fn, zr_if, swi_K, swK_s, swg_nil, swg_cons, stp_K, tK_d, tK_if, vK_nm, vK_bk, vK_ct, vK_fn, vK_if, wK_nm, Classical.not_not, Decidable.not_not, not_true, not_false_iff, if_true, if_false, Nat.zero_le, Nat.reduceLeDiff, Nat.reduceLT, Nat.zero_lt_one, Nat.one_ne_zero, Nat.reduceEqDiff, not_false_eq_true, eq_self, reduceCtorEq, Option.getD_some, Option.getD_none, Nat.reduceAdd, Nat.not_le, Nat.not_lt, Int32.not_le, Int32.not_lt, true_and, and_true, false_and, and_false, true_or, or_true, false_or, or_false, d_Mod_isWidth, lc_Mod_isWidth_144, lc_Mod_isWidth_147, lf_Mod_isWidth_19, lf_Mod_isWidth_137, lf_Mod_isWidth_22, lf_Mod_isWidth_151, lt_Mod_isWidth, rr_aload0, rr_bipush10, rr_bipush48, rr_bipush49, rr_bipush57, rr_dup, rr_dupr, rr_iadd, rr_ialoadS, rr_iastoreS, rr_iconst0, rr_iconst1, rr_iconst4, rr_iload1, rr_imul, rr_istore1 lb_Mod_isWidth, rr_isub, rr_sipush200, mM_98, mM_99, mM_100, mM_101, mM_102, mM_103, mr_t, mr_p, mr_x, mr_d, mw_t, mw_p, mw_x, mw_d, g_now, g_then, g_past, g_kept, g_text, g_typed, g_thrown, g_at, g_fault, g_told, g_tolds, p_kept, p_typed, p_thrown, p_at, p_fault, p_fault0, p_tolds, rr_getfield, rr_putfield, lt_T, lt_F, le_T, le_F, eq_T, eq_F, ne_eq, k_Mod_isNext h60 (show at' ≤ 60 by omega) hx (show 49 < 128 by omega) (show 57 < 128 by omega), h, k_Mod_stops h60 (show at' ≤ 60 by omega)]
  · rw [q_Mod_isWidth (h := mM_98)]
    simp (disch := omega) only [upd_nI, nI_add, pk_mul, zn_lt, zn_le, zn_eq, zn_e0, zn_l0, zn_g0, zn_le0, zn_ge0, zn_m1, zn_m1', zn_m1m, zn_sub, zn_addm, zn_div, eo_none, eo_some, mg_nI, mg_eo1, mg_eo2, mg_eo, mg_int, mg_lng, mg_sm, mg_smN, mg_cons, mg_pair, mg_nm, mg_fn, mg_out, mg_res, mg_sM, zb_e0, zb_e0', rr_nil, ite_self, rr_getfield, gfK_at, rr_putfield, pfK_at, rr_ivS, rr_ivV, rr_ivP, ws_nil, ws_int, ws_ref, ws_lng, cK_1, cK_0, iv_0, iv_1, iv_2, iv_3, iv_4, iv_5, iv_6, iv_7, fgK_l, fgK_r, fgK_if, zf_nil, zf_0, zf_1, zf_2, zf_3, zf_4, zf_5, zf_6, zf_7, zf_8, zf_9, zf_10, cat_K, ct_eq, ct_ne, ct_lt, ct_ge, ct_gt, ct_le, ct_eq0, ct_ne0, ct_lt0, ct_ge0, ct_gt0, ct_le0, ct_nulr, ct_nul, cno_K, nK_d, can_K, aK_d, cor_K, oK_d, cd_t, cd_f, nK_if, aK_if, oK_if, cfo_K, ite_K, iK_d, iK_if, sq_K, sK_nm, sK_x, sK_if, blk_K, bK_s, rti_K, riK_s, rtz_K, rzK_b, rzK_b', rzK_s, rtv_K, rvK_s, rta_K, raK_s, raK_n, rtl_K, rlK_s, rtd_K, rdK_s, brk_K, cnt_K, zr_fn, zr_if, swi_K, swK_s, swg_nil, swg_cons, stp_K, tK_d, tK_if, vK_nm, vK_bk, vK_ct, vK_fn, vK_if, wK_nm, Classical.not_not, Decidable.not_not, not_true, not_false_iff, if_true, if_false, Nat.zero_le, Nat.reduceLeDiff, Nat.reduceLT, Nat.zero_lt_one, Nat.one_ne_zero, Nat.reduceEqDiff, not_false_eq_true, eq_self, reduceCtorEq, Option.getD_some, Option.getD_none, Nat.reduceAdd, Nat.not_le, Nat.not_lt, Int32.not_le, Int32.not_lt, true_and, and_true, false_and, and_false, true_or, or_true, false_or, or_false, d_Mod_isWidth, lc_Mod_isWidth_144, lc_Mod_isWidth_147, lf_Mod_isWidth_19, lf_Mod_isWidth_137, lf_Mod_isWidth_22, lf_Mod_isWidth_151, lt_Mod_isWidth, rr_aload0, rr_bipush10, rr_bipush48, rr_bipush49, rr_bipush57, rr_dup, rr_dupr, rr_iadd, rr_ialoadS, rr_iastoreS, rr_iconst0, rr_iconst1, rr_iconst4, rr_iload1, rr_imul, rr_istore1 lb_Mod_isWidth, rr_isub, rr_sipush200, mM_98, mM_99, mM_100, mM_101, mM_102, mM_103, mr_t, mr_p, mr_x, mr_d, mw_t, mw_p, mw_x, mw_d, g_now, g_then, g_past, g_kept, g_text, g_typed, g_thrown, g_at, g_fault, g_told, g_tolds, p_kept, p_typed, p_thrown, p_at, p_fault, p_fault0, p_tolds, rr_getfield, rr_putfield, lt_T, lt_F, le_T, le_F, eq_T, eq_F, ne_eq, k_Mod_isNext h60 (show at' ≤ 60 by omega) hx (show 49 < 128 by omega) (show 57 < 128 by omega), h]
    generalize hlp : lop _ _ _ zFU _ = Rr
    have hh : ∃ q v, Rr = nm ([some (.ref 98), some (.int (nI v))], [], (mM M (fM kp ty th q ft tl) t u ps tx td, nx)) ∧ Thru tx ty (at' + 1) (wC (tx at' - 48)) q (wC v) ∧ v ≤ 200 ∧ ¬ (q < ty ∧ (48 ≤ tx q ∧ tx q ≤ 57) ∧ 10 * v + (tx q - 48) ≤ 200) := by
      sorry
    obtain ⟨q, v, rfl, r2, r3, r4⟩ := hh
    refine ⟨q, v, ?_, ?_, r2.1, r3, r4⟩
    · simp (disch := omega) only [upd_nI, nI_add, pk_mul, zn_lt, zn_le, zn_eq, zn_e0, zn_l0, zn_g0, zn_le0, zn_ge0, zn_m1, zn_m1', zn_m1m, zn_sub, zn_addm, zn_div, eo_none, eo_some, mg_nI, mg_eo1, mg_eo2, mg_eo, mg_int, mg_lng, mg_sm, mg_smN, mg_cons, mg_pair, mg_nm, mg_fn, mg_out, mg_res, mg_sM, zb_e0, zb_e0', rr_nil, ite_self, rr_getfield, gfK_at, rr_putfield, pfK_at, rr_ivS, rr_ivV, rr_ivP, ws_nil, ws_int, ws_ref, ws_lng, cK_1, cK_0, iv_0, iv_1, iv_2, iv_3, iv_4, iv_5, iv_6, iv_7, fgK_l, fgK_r, fgK_if, zf_nil, zf_0, zf_1, zf_2, zf_3, zf_4, zf_5, zf_6, zf_7, zf_8, zf_9, zf_10, cat_K, ct_eq, ct_ne, ct_lt, ct_ge, ct_gt, ct_le, ct_eq0, ct_ne0, ct_lt0, ct_ge0, ct_gt0, ct_le0, ct_nulr, ct_nul, cno_K, nK_d, can_K, aK_d, cor_K, oK_d, cd_t, cd_f, nK_if, aK_if, oK_if, cfo_K, ite_K, iK_d, iK_if, sq_K, sK_nm, sK_x, sK_if, blk_K, bK_s, rti_K, riK_s, rtz_K, rzK_b, rzK_b', rzK_s, rtv_K, rvK_s, rta_K, raK_s, raK_n, rtl_K, rlK_s, rtd_K, rdK_s, brk_K, cnt_K, zr_fn, zr_if, swi_K, swK_s, swg_nil, swg_cons, stp_K, tK_d, tK_if, vK_nm, vK_bk, vK_ct, vK_fn, vK_if, wK_nm, Classical.not_not, Decidable.not_not, not_true, not_false_iff, if_true, if_false, Nat.zero_le, Nat.reduceLeDiff, Nat.reduceLT, Nat.zero_lt_one, Nat.one_ne_zero, Nat.reduceEqDiff, not_false_eq_true, eq_self, reduceCtorEq, Option.getD_some, Option.getD_none, Nat.reduceAdd, Nat.not_le, Nat.not_lt, Int32.not_le, Int32.not_lt, true_and, and_true, false_and, and_false, true_or, or_true, false_or, or_false, d_Mod_isWidth, lc_Mod_isWidth_144, lc_Mod_isWidth_147, lf_Mod_isWidth_19, lf_Mod_isWidth_137, lf_Mod_isWidth_22, lf_Mod_isWidth_151, lt_Mod_isWidth, rr_aload0, rr_bipush10, rr_bipush48, rr_bipush49, rr_bipush57, rr_dup, rr_dupr, rr_iadd, rr_ialoadS, rr_iastoreS, rr_iconst0, rr_iconst1, rr_iconst4, rr_iload1, rr_imul, rr_istore1 lb_Mod_isWidth, rr_isub, rr_sipush200, mM_98, mM_99, mM_100, mM_101, mM_102, mM_103, mr_t, mr_p, mr_x, mr_d, mw_t, mw_p, mw_x, mw_d, g_now, g_then, g_past, g_kept, g_text, g_typed, g_thrown, g_at, g_fault, g_told, g_tolds, p_kept, p_typed, p_thrown, p_at, p_fault, p_fault0, p_tolds, rr_getfield, rr_putfield, lt_T, lt_F, le_T, le_F, eq_T, eq_F, ne_eq]
    · exact Thru.trans (Thru.step h.1 (step_w0 h.2) (by intro h5; exact absurd h5.1 (by show ¬ 5 ≤ 1; omega))) r2
end
