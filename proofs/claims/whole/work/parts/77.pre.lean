/-! ===== the law: its start ===== -/
section
variable {m : Nat} {E : Env} {r : List Instr} {L : List (Option Value)} {S : List Value} {g : G} {a b : Nat} {x u' : Option Value} {T : Nat → Option (Nat × (Nat → Int32))} {nx : Nat}
theorem rz_astore1 (hE : eB E = false) : runI E (.astore_n 1 :: r) (some (.ref a) :: u' :: L, .ref b :: S, g) = runI E r (some (.ref a) :: some (.ref b) :: L, S, g) := by
  simp only [runI, xI, hE]
  rfl
theorem rz_astore2 (hE : eB E = false) : runI E (.astore_n 2 :: r) (x :: some (.ref a) :: u' :: L, .ref b :: S, g) = runI E r (x :: some (.ref a) :: some (.ref b) :: L, S, g) := by
  simp only [runI, xI, hE]
  rfl
theorem rz_astore3 {y : Option Value} (hE : eB E = false) : runI E (.astore_n 3 :: r) (x :: y :: some (.ref a) :: u' :: L, .ref b :: S, g) = runI E r (x :: y :: some (.ref a) :: some (.ref b) :: L, S, g) := by
  simp only [runI, xI, hE]
  rfl
/-- nothing is there -/
def B00 : Hp := fun _ => none
abbrev mH0 (M : Hp) : Hp := mM M (fM 0 0 0 0 (nI 0) 0) t00 (fun _ => 0) (fun _ => 0) (fun _ => 0) (fun _ => 0)
abbrev cH0 (M : Hp) : Hp := cW M 0 0 0 H00 (fun _ => 0) (rdV (0, 0, 0, 0, some 0)) t00 co00 od00 t00 co00 od00
/-- both objects, new -/
def Z00 : Hp := cH0 (mH0 (oB (fun _ => 0)))
theorem z_new : zup (mH0 (cH0 B00)) 104 (cJ 1 (fun _ => 0)) = Z00 := by
  have e : mH0 (cH0 B00) = cH0 (mH0 B00) := j_swap.symm
  rw [e]
  funext i
  unfold Z00
  by_cases e : i = 104
  · subst e
    rw [zup_eq]
    exact j_104.symm
  · rw [zup_ne e]
    refine cW_pt ?_
    by_cases e2 : 98 ≤ i ∧ i ≤ 103
    · exact mM_in e2.1 e2.2
    · have a1 : mH0 B00 i = B00 i := mM_ne (by omega)
      have a2 : mH0 (oB (fun _ => 0)) i = oB (fun _ => 0) i := mM_ne (by omega)
      rw [a1, a2, oB_ne e]
      rfl
theorem t00_0 {k : Nat} (h : 3 ≤ k) : t00 k = 0 := by
  rw [t00_at, if_neg (by omega), if_neg (by omega)]
theorem IV_00 : IV 0 t00 := by
  refine ⟨fun k hk => ?_, fun p hp ha => ?_, fun o ho => ?_, fun o o' h1 h2 => ?_, ?_, ?_⟩
  · rw [t00_0 (by omega)]; omega
  · rw [t00_0 (by omega)] at ha
    omega
  · rw [t00_0 (by omega)] at ho
    omega
  · rw [t00_0 (by omega)] at h2
    omega
  · unfold sOk
    rw [t00_0 (k := 3) (by omega), t00_0 (k := 15) (by omega), t00_at, t00_at, t00_at]
    simp only [if_true, Nat.reduceEqDiff, if_false, true_or, or_true]
    omega
  · unfold nOk
    rw [t00_0 (k := 4) (by omega), t00_0 (k := 5) (by omega), t00_0 (k := 9) (by omega), t00_0 (k := 10) (by omega), t00_0 (k := 11) (by omega)]
    omega
theorem RC_00 : RC t00 co00 od00 := by
  refine ⟨fun p hp ha => ?_, fun p hp ha => ?_, fun o ho => ?_⟩
  · rw [t00_0 (by omega)] at ha
    omega
  · unfold co00 co0
    rw [if_pos (by omega)]
  · rw [t00_0 (by omega)] at ho
    omega
theorem JR_00 : JR 0 Z00 := JR_mk IV_00 RC_00 (by omega) (by omega) ⟨Nat.zero_le _, fun i hi => absurd hi (Nat.not_lt_zero i)⟩ ⟨by dsimp only; omega, by dsimp only; omega, by dsimp only; omega, by dsimp only; omega, fun k hk => by cases hk; omega⟩ (fun i hi => absurd hi (Nat.not_lt_zero i))
theorem law_pre : d_Law_pre T ([some (.ref 3), none, none, none, none, none, none, none, none], [], (B00, 4)) = some (.inl (lwL 0 none none none, [], (Z00, 105))) := by
  have hS := k_Slit_init (M := B00) rfl
  rw [slit_new] at hS
  have hM := k_Mod_init (M := cH0 B00)
  rw [mod_new] at hM
  unfold d_Law_pre
  simp (disch := omega) only [upd_nI, nI_add, pk_mul, zn_lt, zn_le, zn_eq, zn_e0, zn_l0, zn_g0, zn_le0, zn_ge0, zn_m1, zn_m1', zn_m1m, zn_sub, zn_addm, zn_div, eo_none, eo_some, mg_nI, mg_eo1, mg_eo2, mg_eo, mg_int, mg_lng, mg_sm, mg_smN, mg_cons, mg_pair, mg_nm, mg_fn, mg_out, mg_res, mg_sM, zb_e0, zb_e0', rr_nil, ite_self, rr_getfield, gfK_at, rr_putfield, pfK_at, rr_ivS, rr_ivV, rr_ivP, ws_nil, ws_int, ws_ref, ws_lng, cK_1, cK_0, iv_0, iv_1, iv_2, iv_3, iv_4, iv_5, iv_6, iv_7, fgK_l, fgK_r, fgK_if, zf_nil, zf_0, zf_1, zf_2, zf_3, zf_4, zf_5, zf_6, zf_7, zf_8, zf_9, zf_10, cat_K, ct_eq, ct_ne, ct_lt, ct_ge, ct_gt, ct_le, ct_eq0, ct_ne0, ct_lt0, ct_ge0, ct_gt0, ct_le0, ct_nulr, ct_nul, cno_K, nK_d, can_K, aK_d, cor_K, oK_d, cd_t, cd_f, nK_if, aK_if, oK_if, cfo_K, ite_K, iK_d, iK_if, sq_K, sK_nm, sK_x, sK_if, blk_K, bK_s, rti_K, riK_s, rtz_K, rzK_b, rzK_b', rzK_s, rtv_K, rvK_s, rta_K, raK_s, raK_n, rtl_K, rlK_s, rtd_K, rdK_s, brk_K, cnt_K, zr_fn, zr_if, swi_K, swK_s, swg_nil, swg_cons, stp_K, tK_d, tK_if, vK_nm, vK_bk, vK_ct, vK_fn, vK_if, wK_nm, Classical.not_not, Decidable.not_not, not_true, not_false_iff, if_true, if_false, Nat.zero_le, Nat.reduceLeDiff, Nat.reduceLT, Nat.zero_lt_one, Nat.one_ne_zero, Nat.reduceEqDiff, not_false_eq_true, eq_self, reduceCtorEq, Option.getD_some, Option.getD_none, Nat.reduceAdd, Nat.not_le, Nat.not_lt, Int32.not_le, Int32.not_lt, true_and, and_true, false_and, and_false, true_or, or_true, false_or, or_false, newO_s, rr_dupr, clS_1, hS, caK_0, rz_astore1 lb_Law, hM, rz_astore2 lb_Law, rr_iconst1, newJ_s, z_new, rz_astore3 lb_Law, rr_iconst0, rz_istore4r lb_Law, Nat.reduceAdd]
end
