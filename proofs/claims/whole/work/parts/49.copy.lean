/-! ===== a yard copied ===== -/
section
variable {M M' : Hp} {nx a b : Nat} {t t' t'' s : Nat → Nat} {co od co' od' : Nat → Int32} {m : Nat}
theorem fY_co (h : t'' 15 = t 15 ∧ t'' 4 = t 4 ∧ t'' 5 = t 5) : fY a t'' = fY a t := by
  unfold fY
  rw [h.1, h.2.1, h.2.2]
theorem yM_g4 {f : Nat → Int32} (h1 : ∀ k, k < 6 → f k = nI (t'' (16 + k))) (h2 : ∀ k, k < 16 → t'' k = t k) : zup (yM M a t co od) (a + 4) (cI 6 (tr 6 f)) = yM M a t'' co od := by
  refine yM_ext ?_ ?_ ?_ ?_ ?_ ?_ ?_ ?_ ?_ ?_ ?_ (fun i hi => by rw [zup_ne (by omega), yM_ne hi])
  · rw [zup_ne (by omega), fY_co ⟨h2 _ (by omega), h2 _ (by omega), h2 _ (by omega)⟩]; exact yM_a
  · rw [zup_ne (by omega)]; exact yM_1
  · rw [zup_ne (by omega)]; exact yM_2
  · rw [zup_ne (by omega)]; exact yM_3
  · rw [zup_eq]; exact cIt h1
  · rw [zup_ne (by omega)]; exact yM_5
  · rw [zup_ne (by omega)]; exact yM_6
  · rw [zup_ne (by omega)]; exact yM_7
  · rw [zup_ne (by omega), yM_8]; exact cIt (fun k hk => by rw [h2 k (by omega)])
  · rw [zup_ne (by omega)]; exact yM_9
  · rw [zup_ne (by omega), yM_10]
    refine cIt (fun k hk => ?_)
    unfold taF
    by_cases h : 4 ≤ k ∧ k ≤ 12
    · rw [if_pos h, if_pos h, h2 _ (by omega)]
    · rw [if_neg h, if_neg h]
theorem yM_g8 {f : Nat → Int32} (h1 : ∀ k, k < 4 → f k = nI (t'' k)) (h2 : ∀ k, 4 ≤ k → t'' k = t k) : zup (yM M a t co od) (a + 8) (cI 4 (tr 4 f)) = yM M a t'' co od := by
  refine yM_ext ?_ ?_ ?_ ?_ ?_ ?_ ?_ ?_ ?_ ?_ ?_ (fun i hi => by rw [zup_ne (by omega), yM_ne hi])
  · rw [zup_ne (by omega), fY_co ⟨h2 _ (by omega), h2 _ (by omega), h2 _ (by omega)⟩]; exact yM_a
  · rw [zup_ne (by omega)]; exact yM_1
  · rw [zup_ne (by omega)]; exact yM_2
  · rw [zup_ne (by omega)]; exact yM_3
  · rw [zup_ne (by omega), yM_4]; exact cIt (fun k hk => by rw [h2 _ (by omega)])
  · rw [zup_ne (by omega)]; exact yM_5
  · rw [zup_ne (by omega)]; exact yM_6
  · rw [zup_ne (by omega)]; exact yM_7
  · rw [zup_eq]; exact cIt h1
  · rw [zup_ne (by omega)]; exact yM_9
  · rw [zup_ne (by omega), yM_10]
    refine cIt (fun k hk => ?_)
    unfold taF
    by_cases h : 4 ≤ k ∧ k ≤ 12
    · rw [if_pos h, if_pos h, h2 _ (by omega)]
    · rw [if_neg h, if_neg h]
theorem yM_g10 {f : Nat → Int32} (h1 : ∀ k, k < 14 → f k = taF t'' k) (h2 : ∀ k, k < 6 ∨ 14 < k → t'' k = t k) : zup (yM M a t co od) (a + 10) (cI 14 (tr 14 f)) = yM M a t'' co od := by
  refine yM_ext ?_ ?_ ?_ ?_ ?_ ?_ ?_ ?_ ?_ ?_ ?_ (fun i hi => by rw [zup_ne (by omega), yM_ne hi])
  · rw [zup_ne (by omega), fY_co ⟨h2 _ (by omega), h2 _ (by omega), h2 _ (by omega)⟩]; exact yM_a
  · rw [zup_ne (by omega)]; exact yM_1
  · rw [zup_ne (by omega)]; exact yM_2
  · rw [zup_ne (by omega)]; exact yM_3
  · rw [zup_ne (by omega), yM_4]; exact cIt (fun k hk => by rw [h2 _ (by omega)])
  · rw [zup_ne (by omega)]; exact yM_5
  · rw [zup_ne (by omega)]; exact yM_6
  · rw [zup_ne (by omega)]; exact yM_7
  · rw [zup_ne (by omega), yM_8]; exact cIt (fun k hk => by rw [h2 _ (by omega)])
  · rw [zup_ne (by omega)]; exact yM_9
  · rw [zup_eq]; exact cIt h1
def mixH (t t' : Nat → Nat) : Nat → Nat := fun k => if 16 ≤ k then t' k else t k
def mixS (t t' : Nat → Nat) : Nat → Nat := fun k => if k < 4 then t' k else t k
def mixT (t t' : Nat → Nat) : Nat → Nat := fun k => if 6 ≤ k ∧ k ≤ 14 then t' k else t k
theorem yM_cp2 {f : Nat → Int32} : zup (yM M a t co od) (a + 2) (cI 150 (va_cpy (tr 150 f) (tr 150 co) 0 0 150)) = yM M a t (cpC 150 f co) od := by
  rw [tr_cpy (by omega) (by omega), yM_s2]; rfl
theorem yM_cp6 {f : Nat → Int32} : zup (yM M a t co od) (a + 6) (cI 48 (va_cpy (tr 48 f) (tr 48 od) 0 0 48)) = yM M a t co (cpC 48 f od) := by
  rw [tr_cpy (by omega) (by omega), yM_s6]; rfl
theorem yM_cp4 : zup (yM M a t co od) (a + 4) (cI 6 (va_cpy (tr 6 (fun k => nI (t' (16 + k)))) (tr 6 (fun k => nI (t (16 + k)))) 0 0 6)) = yM M a (mixH t t') co od := by
  rw [tr_cpy (by omega) (by omega)]
  refine yM_g4 (fun k hk => ?_) (fun k hk => if_neg (by omega))
  have e : mixH t t' (16 + k) = t' (16 + k) := if_pos (by omega)
  rw [e]
  exact cpC_at (f := fun k => nI (t' (16 + k))) hk
theorem yM_cp8 : zup (yM M a t co od) (a + 8) (cI 4 (va_cpy (tr 4 (fun k => nI (t' k))) (tr 4 (fun k => nI (t k))) 0 0 4)) = yM M a (mixS t t') co od := by
  rw [tr_cpy (by omega) (by omega)]
  refine yM_g8 (fun k hk => ?_) (fun k hk => if_neg (by omega))
  have e : mixS t t' k = t' k := if_pos (by omega)
  rw [e]
  exact cpC_at (f := fun k => nI (t' k)) hk
theorem yM_cp10 : zup (yM M a t co od) (a + 10) (cI 14 (va_cpy (tr 14 (taF t')) (tr 14 (taF t)) 0 0 14)) = yM M a (mixT t t') co od := by
  rw [tr_cpy (by omega) (by omega)]
  refine yM_g10 (fun k hk => ?_) (fun k hk => if_neg (by omega))
  refine (cpC_at (f := taF t') hk).trans ?_
  unfold taF
  by_cases h : 4 ≤ k ∧ k ≤ 12
  · rw [if_pos h, if_pos h]
    have e : mixT t t' (k + 2) = t' (k + 2) := if_pos (by omega)
    rw [e]
  · rw [if_neg h, if_neg h]
/-- the source's cells, seen beside the yard that is written -/
def Src (M : Hp) (b : Nat) (t' : Nat → Nat) (co' od' : Nat → Int32) : Prop := ∀ i, b ≤ i → i ≤ b + 10 → M i = yM (fun _ => none) b t' co' od' i
theorem Src.at {i : Nat} {c : Option Cel} (h : Src M b t' co' od') (hd : a + 10 < b ∨ b + 10 < a) (hi : b ≤ i) (hi2 : i ≤ b + 10) (hc : yM (fun _ => none) b t' co' od' i = c) : yM M a t co od i = c := by
  rw [yM_ne (by omega), h i hi hi2, hc]
theorem k_Yard_copyFrom (h : Src M b t' co' od') (hd : a + 10 < b ∨ b + 10 < a) : x_Yard_copyFrom [.ref a, .ref b] (yM M a t co od, nx) = some (.inl none, (yM M a t' (cpC 150 co' co) (cpC 48 od' od), nx)) := by
  have hS : ∀ {t : Nat → Nat} {co od : Nat → Int32} (i : Nat) {c : Option Cel}, b ≤ i → i ≤ b + 10 → yM (fun _ => none) b t' co' od' i = c → yM M a t co od i = c := fun i _ h1 h2 h3 => h.at hd h1 h2 h3
  have h0 : ∀ {t : Nat → Nat} {co od : Nat → Int32}, yM M a t co od b = some (cO 2 (fY b t')) := hS b (by omega) (by omega) yM_a
  have h1 : ∀ {t : Nat → Nat} {co od : Nat → Int32}, yM M a t co od (b + 1) = some (cO 1 [.int (nI 5), .ref (b + 2)]) := hS _ (by omega) (by omega) yM_1
  have h2 : ∀ {t : Nat → Nat} {co od : Nat → Int32}, yM M a t co od (b + 2) = some (cI 150 (tr 150 co')) := hS _ (by omega) (by omega) yM_2
  have h3 : ∀ {t : Nat → Nat} {co od : Nat → Int32}, yM M a t co od (b + 3) = some (cO 0 [.ref (b + 4)]) := hS _ (by omega) (by omega) yM_3
  have h4 : ∀ {t : Nat → Nat} {co od : Nat → Int32}, yM M a t co od (b + 4) = some (cI 6 (tr 6 (fun k => nI (t' (16 + k))))) := hS _ (by omega) (by omega) yM_4
  have h5 : ∀ {t : Nat → Nat} {co od : Nat → Int32}, yM M a t co od (b + 5) = some (cO 1 [.int (nI 6), .ref (b + 6)]) := hS _ (by omega) (by omega) yM_5
  have h6 : ∀ {t : Nat → Nat} {co od : Nat → Int32}, yM M a t co od (b + 6) = some (cI 48 (tr 48 od')) := hS _ (by omega) (by omega) yM_6
  have h7 : ∀ {t : Nat → Nat} {co od : Nat → Int32}, yM M a t co od (b + 7) = some (cO 0 [.ref (b + 8)]) := hS _ (by omega) (by omega) yM_7
  have h8 : ∀ {t : Nat → Nat} {co od : Nat → Int32}, yM M a t co od (b + 8) = some (cI 4 (tr 4 (fun k => nI (t' k)))) := hS _ (by omega) (by omega) yM_8
  have h9 : ∀ {t : Nat → Nat} {co od : Nat → Int32}, yM M a t co od (b + 9) = some (cO 0 [.ref (b + 10)]) := hS _ (by omega) (by omega) yM_9
  have h10 : ∀ {t : Nat → Nat} {co od : Nat → Int32}, yM M a t co od (b + 10) = some (cI 14 (tr 14 (taF t'))) := hS _ (by omega) (by omega) yM_10
  have g1 := @w_Grid_copyFrom (yM M a t co od) nx (a + 1) (a + 2) 150 5 (tr 150 co) (b + 1) (b + 2) (tr 150 co') 5 yM_1 yM_2 h1 h2 (by omega)
  rw [yM_cp2] at g1
  have g2 := @w_Row_copyFrom (yM M a t (cpC 150 co' co) od) nx (a + 3) (a + 4) 6 (tr 6 (fun k => nI (t (16 + k)))) (b + 3) (b + 4) (tr 6 (fun k => nI (t' (16 + k)))) yM_3 yM_4 h3 h4 (by omega)
  rw [yM_cp4] at g2
  have g3 := @w_Grid_copyFrom (yM M a (mixH t t') (cpC 150 co' co) od) nx (a + 5) (a + 6) 48 6 (tr 48 od) (b + 5) (b + 6) (tr 48 od') 6 yM_5 yM_6 h5 h6 (by omega)
  rw [yM_cp6] at g3
  have g4 := @w_Row_copyFrom (yM M a (mixH t t') (cpC 150 co' co) (cpC 48 od' od)) nx (a + 7) (a + 8) 4 (tr 4 (fun k => nI (mixH t t' k))) (b + 7) (b + 8) (tr 4 (fun k => nI (t' k))) yM_7 yM_8 h7 h8 (by omega)
  rw [yM_cp8] at g4
  have g5 := @w_Row_copyFrom (yM M a (mixS (mixH t t') t') (cpC 150 co' co) (cpC 48 od' od)) nx (a + 9) (a + 10) 14 (tr 14 (taF (mixS (mixH t t') t'))) (b + 9) (b + 10) (tr 14 (taF t')) yM_9 yM_10 h9 h10 (by omega)
  rw [yM_cp10] at g5
  have ec : yM M a (updN (updN (updN (mixT (mixS (mixH t t') t') t') 15 (t' 15)) 4 (t' 4)) 5 (t' 5)) (cpC 150 co' co) (cpC 48 od' od) = yM M a t' (cpC 150 co' co) (cpC 48 od' od) := by
    refine yM_congr fun k hk => ?_
    by_cases e5 : k = 5
    · rw [e5, updN_eq]
    · rw [updN_ne e5]
      by_cases e4 : k = 4
      · rw [e4, updN_eq]
      · rw [updN_ne e4]
        by_cases e15 : k = 15
        · rw [e15, updN_eq]
        · rw [updN_ne e15]
          unfold mixT mixS mixH
          by_cases x1 : 6 ≤ k ∧ k ≤ 14
          · rw [if_pos x1]
          · rw [if_neg x1]
            by_cases x2 : k < 4
            · rw [if_pos x2]
            · rw [if_neg x2, if_pos (by omega)]
  rw [q_Yard_copyFrom (h := yM_a), ← ec]
  simp (disch := omega) only [upd_nI, nI_add, pk_mul, zn_lt, zn_le, zn_eq, zn_e0, zn_l0, zn_g0, zn_le0, zn_ge0, zn_m1, zn_m1', zn_m1m, zn_sub, zn_addm, zn_div, eo_none, eo_some, mg_nI, mg_eo1, mg_eo2, mg_eo, mg_int, mg_lng, mg_sm, mg_smN, mg_cons, mg_pair, mg_nm, mg_fn, mg_out, mg_res, mg_sM, zb_e0, zb_e0', rr_nil, ite_self, rr_getfield, gfK_at, rr_putfield, pfK_at, rr_ivS, rr_ivV, rr_ivP, ws_nil, ws_int, ws_ref, ws_lng, cK_1, cK_0, iv_0, iv_1, iv_2, iv_3, iv_4, iv_5, iv_6, iv_7, fgK_l, fgK_r, fgK_if, zf_nil, zf_0, zf_1, zf_2, zf_3, zf_4, zf_5, zf_6, zf_7, zf_8, zf_9, zf_10, cat_K, ct_eq, ct_ne, ct_lt, ct_ge, ct_gt, ct_le, ct_eq0, ct_ne0, ct_lt0, ct_ge0, ct_gt0, ct_le0, ct_nulr, ct_nul, cno_K, nK_d, can_K, aK_d, cor_K, oK_d, cd_t, cd_f, nK_if, aK_if, oK_if, cfo_K, ite_K, iK_d, iK_if, sq_K, sK_nm, sK_x, sK_if, blk_K, bK_s, rti_K, riK_s, rtz_K, rzK_b, rzK_b', rzK_s, rtv_K, rvK_s, rta_K, raK_s, raK_n, rtl_K, rlK_s, rtd_K, rdK_s, brk_K, cnt_K, zr_fn, zr_if, swi_K, swK_s, swg_nil, swg_cons, stp_K, tK_d, tK_if, vK_nm, vK_bk, vK_ct, vK_fn, vK_if, wK_nm, Classical.not_not, Decidable.not_not, not_true, not_false_iff, if_true, if_false, Nat.zero_le, Nat.reduceLeDiff, Nat.reduceLT, Nat.zero_lt_one, Nat.one_ne_zero, Nat.reduceEqDiff, not_false_eq_true, eq_self, reduceCtorEq, Option.getD_some, Option.getD_none, Nat.reduceAdd, Nat.not_le, Nat.not_lt, Int32.not_le, Int32.not_lt, true_and, and_true, false_and, and_false, true_or, or_true, false_or, or_false, d_Yard_copyFrom, lc_Yard_copyFrom_48, lc_Yard_copyFrom_52, lf_Yard_copyFrom_14, lf_Yard_copyFrom_25, lf_Yard_copyFrom_29, lf_Yard_copyFrom_32, lf_Yard_copyFrom_35, lf_Yard_copyFrom_55, lf_Yard_copyFrom_59, lf_Yard_copyFrom_62, rr_aload0, rr_aload1, lt_T, lt_F, le_T, le_F, eq_T, eq_F, ne_eq, yM_a, yM_1, yM_2, yM_3, yM_4, yM_5, yM_6, yM_7, yM_8, yM_9, yM_10, gY_0, gY_1, gY_2, gY_3, gY_4, gY_5, gY_6, gY_7, pY_5, pY_6, pY_7, y_cget, y_cgetm, y_cput, y_crow, y_oget, y_ogetm, y_oput, y_orow, y_hget, y_hgetm, y_hadd, y_hdec, y_sget, y_sput, y_tget, y_tadd, xAbs_n, xMin_n, xMax_n, h0, g1, g2, g3, g4, g5]
end
