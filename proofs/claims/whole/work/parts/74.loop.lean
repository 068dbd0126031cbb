/-! ===== the law: its loop ===== -/
section
variable {n i m : Nat} {f : Nat → Int32} {T : Nat → Option (Nat × (Nat → Int32))} {Z : Hp} {E : Env} {r : List Instr} {L : List (Option Value)} {S : List Value} {g : G} {A : Nat} {x : Int32} {a b c : Option Value}
theorem and31 (v : Int32) : ∃ n, n < 32 ∧ v &&& nI 31 = nI n := by
  refine ⟨(v &&& nI 31).toBitVec.toNat, ?_, ?_⟩
  · rw [Int32.toBitVec_and, BitVec.toNat_and]
    have h : (nI 31).toBitVec.toNat = 31 := by decide
    rw [h]
    exact Nat.lt_of_le_of_lt Nat.and_le_right (by decide)
  · apply Int32.toBitVec.inj
    show _ = BitVec.ofNat 32 _
    rw [BitVec.ofNat_toNat, BitVec.setWidth_eq]
theorem rz_iinc46 (hE : eB E = false) : runI E (.iinc 4 6 :: r) (a :: b :: c :: some (.ref A) :: some (.int x) :: L, S, g) = runI E r (a :: b :: c :: some (.ref A) :: some (.int (x + nI 6)) :: L, S, g) := by
  simp only [runI, xI, hE]
  rfl
theorem le6 (hn : n < 2 ^ 30) (hi : i < 2 ^ 30) : (nI n - nI 6 < nI i) = (n < i + 6) := by
  refine propext ⟨fun h => ?_, fun h => ?_⟩
  · have h1 := Int32.lt_iff_toInt_lt.mp h
    rw [pk_sub_toInt hn (by omega), nI_toInt (by omega)] at h1
    omega
  · apply Int32.lt_iff_toInt_lt.mpr
    rw [pk_sub_toInt hn (by omega), nI_toInt (by omega)]
    omega
theorem JR.at3 (h : JR m Z) : Z 3 = none := by
  obtain ⟨fl, hn, hk, H, bf, rc, u, c1, d1, t, co, od, th, at', ft, tl, u2, ps, tx, td, q, rfl, _⟩ := h
  exact j_3
theorem JR.mono {m' : Nat} (h : JR m Z) (hm : m ≤ m') : JR m' Z := by
  obtain ⟨fl, hn, hk, H, bf, rc, u, c1, d1, t, co, od, th, at', ft, tl, u2, ps, tx, td, q, rfl, hI, hR, s1, s2, hb, hq, hH⟩ := h
  exact JR_mk (hI.mono hm) hR s1 s2 hb hq (hH.mono hm)
theorem law_body (hT : T 3 = some (n, f)) (hn : n < 2 ^ 20) (hi : i + 6 ≤ n) (hJ : JR m Z) (hm : m + 320 < 2 ^ 20) : ∃ (Z' : Hp) (a b c : Option Value), (d_Law_body T (lwL i none none none, [], (Z, 0)) = some (.inl (lwL i a b c, [], (Z', 0))) ∨ d_Law_body T (lwL i none none none, [], (Z, 0)) = some (.inr (.inr (.inl (lwL i a b c, [], (Z', 0)))))) ∧ JR (m + 320) Z' := by
  have h3 := hJ.at3
  have hn31 : n < 2 ^ 31 := by omega
  obtain ⟨k, hk, e⟩ := and31 (f i)
  have sw : d_Law_body T (lwL i none none none, [], (Z, 0)) = swg (nI k) [(0, d_Law_c0 T), (1, d_Law_c1 T), (2, d_Law_c2 T), (3, d_Law_c3 T), (4, d_Law_c4 T), (5, d_Law_c5 T), (6, d_Law_c6 T), (7, d_Law_c7 T), (8, d_Law_c8 T), (9, d_Law_c9 T), (10, d_Law_c10 T), (11, d_Law_c11 T), (12, d_Law_c12 T), (13, d_Law_c13 T), (14, d_Law_c14 T), (15, d_Law_c15 T), (16, d_Law_c16 T), (17, d_Law_c17 T), (18, d_Law_c18 T), (19, d_Law_c19 T), (20, d_Law_c20 T), (21, d_Law_c21 T), (22, d_Law_c22 T), (23, d_Law_c23 T), (24, d_Law_c24 T), (25, d_Law_c25 T), (26, d_Law_c26 T)] (blk (E_Law_law T) []) (lwL i none none none, [], (Z, 0)) := by
    simp (disch := omega) only [upd_nI, nI_add, pk_mul, zn_lt, zn_le, zn_eq, zn_e0, zn_l0, zn_g0, zn_le0, zn_ge0, zn_m1, zn_m1', zn_m1m, zn_sub, zn_addm, zn_div, eo_none, eo_some, mg_nI, mg_eo1, mg_eo2, mg_eo, mg_int, mg_lng, mg_sm, mg_smN, mg_cons, mg_pair, mg_nm, mg_fn, mg_out, mg_res, mg_sM, zb_e0, zb_e0', rr_nil, ite_self, rr_getfield, gfK_at, rr_putfield, pfK_at, rr_ivS, rr_ivV, rr_ivP, ws_nil, ws_int, ws_ref, ws_lng, cK_1, cK_0, iv_0, iv_1, iv_2, iv_3, iv_4, iv_5, iv_6, iv_7, fgK_l, fgK_r, fgK_if, zf_nil, zf_0, zf_1, zf_2, zf_3, zf_4, zf_5, zf_6, zf_7, zf_8, zf_9, zf_10, cat_K, ct_eq, ct_ne, ct_lt, ct_ge, ct_gt, ct_le, ct_eq0, ct_ne0, ct_lt0, ct_ge0, ct_gt0, ct_le0, ct_nulr, ct_nul, cno_K, nK_d, can_K, aK_d, cor_K, oK_d, cd_t, cd_f, nK_if, aK_if, oK_if, cfo_K, ite_K, iK_d, iK_if, sq_K, sK_nm, sK_x, sK_if, blk_K, bK_s, rti_K, riK_s, rtz_K, rzK_b, rzK_b', rzK_s, rtv_K, rvK_s, rta_K, raK_s, raK_n, rtl_K, rlK_s, rtd_K, rdK_s, brk_K, cnt_K, zr_fn, zr_if, swi_K, swK_s, stp_K, tK_d, tK_if, vK_nm, vK_bk, vK_ct, vK_fn, vK_if, wK_nm, Classical.not_not, Decidable.not_not, not_true, not_false_iff, if_true, if_false, Nat.zero_le, Nat.reduceLeDiff, Nat.reduceLT, Nat.zero_lt_one, Nat.one_ne_zero, Nat.reduceEqDiff, not_false_eq_true, eq_self, reduceCtorEq, Option.getD_some, Option.getD_none, Nat.reduceAdd, Nat.not_le, Nat.not_lt, Int32.not_le, Int32.not_lt, true_and, and_true, false_and, and_false, true_or, or_true, false_or, or_false, d_Law_body, lc_Law_101, lc_Law_104, lc_Law_108, lc_Law_111, lc_Law_114, lc_Law_117, lc_Law_118, lc_Law_121, lc_Law_124, lc_Law_127, lc_Law_128, lc_Law_131, lc_Law_132, lc_Law_135, lc_Law_139, lc_Law_142, lc_Law_145, lc_Law_148, lc_Law_151, lc_Law_154, lc_Law_157, lc_Law_160, lc_Law_163, lc_Law_167, lc_Law_168, lc_Law_171, lc_Law_172, lc_Law_175, lc_Law_176, lc_Law_180, lc_Law_181, lc_Law_185, lc_Law_90, lc_Law_91, lc_Law_97, rr_aload0, rr_aload1, rr_aload2, rr_aload3, rr_iload4, rr_iload5, rr_iload6, rz_dload5, rz_dload7, rr_iconst0, rr_iconst1, rr_iconst2, rr_iconst3, rr_iconst4, rr_iconst5, rr_iadd, rr_isub, rr_bipush31, rr_bipush6, rz_iand, rz_i2l, rz_lcmp, rz_dcmp, rz_istore5i lb_Law, rz_istore6i lb_Law, rz_istore6n lb_Law, rz_dstore5i lb_Law, rz_dstore7n lb_Law, cal_1, cal_2, cal_3, cal_4, cal_5, cal_6, cal_7, caK_1, caK_0, lt_T, lt_F, le_T, le_F, eq_T, eq_F, ne_eq, rz_script h3 hT, e]
  rw [sw]
  have : k = 0 ∨ k = 1 ∨ k = 2 ∨ k = 3 ∨ k = 4 ∨ k = 5 ∨ k = 6 ∨ k = 7 ∨ k = 8 ∨ k = 9 ∨ k = 10 ∨ k = 11 ∨ k = 12 ∨ k = 13 ∨ k = 14 ∨ k = 15 ∨ k = 16 ∨ k = 17 ∨ k = 18 ∨ k = 19 ∨ k = 20 ∨ k = 21 ∨ k = 22 ∨ k = 23 ∨ k = 24 ∨ k = 25 ∨ k = 26 ∨ k = 27 ∨ k = 28 ∨ k = 29 ∨ k = 30 ∨ k = 31 := by omega
  rcases this with rfl | rfl | rfl | rfl | rfl | rfl | rfl | rfl | rfl | rfl | rfl | rfl | rfl | rfl | rfl | rfl | rfl | rfl | rfl | rfl | rfl | rfl | rfl | rfl | rfl | rfl | rfl | rfl | rfl | rfl | rfl | rfl
  · obtain ⟨e, b, Z1, Z2, hw, hmd, ht, h1, he, ho, hJ2⟩ := op_receive (v1 := f (i + 1)) (v2 := f (i + 2)) (v3 := f (i + 3)) (v4 := f (i + 4)) hJ hm
    exact ⟨Z2, _, _, _, .inr (cs_0 hT hn31 hi h3 h1 he hw hmd ht ho), hJ2⟩
  · obtain ⟨e, b, Z1, Z2, hw, hmd, ht, h1, he, ho, hJ2⟩ := op_move (v1 := f (i + 1)) (v2 := f (i + 2)) hJ hm
    exact ⟨Z2, _, _, _, .inr (cs_1 hT hn31 hi h3 h1 he hw hmd ht ho), hJ2⟩
  · obtain ⟨e, b, Z1, Z2, hw, hmd, ht, h1, he, ho, hJ2⟩ := op_dig (v1 := f (i + 1)) hJ hm
    exact ⟨Z2, _, _, _, .inr (cs_2 hT hn31 hi h3 h1 he hw hmd ht ho), hJ2⟩
  · obtain ⟨e, b, Z1, Z2, hw, hmd, ht, h1, he, ho, hJ2⟩ := op_sendAway (v1 := f (i + 1)) hJ hm
    exact ⟨Z2, _, _, _, .inr (cs_3 hT hn31 hi h3 h1 he hw hmd ht ho), hJ2⟩
  · obtain ⟨e, b, Z1, Z2, hw, hmd, ht, h1, he, ho, hJ2⟩ := op_order (v1 := f (i + 1)) (v2 := f (i + 2)) (v3 := f (i + 3)) (v4 := f (i + 4)) (v5 := f (i + 5)) hJ hm
    exact ⟨Z2, _, _, _, .inr (cs_4 hT hn31 hi h3 h1 he hw hmd ht ho), hJ2⟩
  · obtain ⟨e, b, Z1, Z2, hw, hmd, ht, h1, he, ho, hJ2⟩ := op_cancel (v1 := f (i + 1)) hJ hm
    exact ⟨Z2, _, _, _, .inr (cs_5 hT hn31 hi h3 h1 he hw hmd ht ho), hJ2⟩
  · obtain ⟨e, b, Z1, Z2, hw, hmd, ht, h1, he, ho, hJ2⟩ := op_slit (v1 := f (i + 1)) (v2 := f (i + 2)) hJ hm
    exact ⟨Z2, _, _, _, .inr (cs_6 hT hn31 hi h3 h1 he hw hmd ht ho), hJ2⟩
  · obtain ⟨e, b, Z1, Z2, hw, hmd, ht, h1, he, ho, hJ2⟩ := op_serve (v1 := f (i + 1)) hJ hm
    exact ⟨Z2, _, _, _, .inr (cs_7 hT hn31 hi h3 h1 he hw hmd ht ho), hJ2⟩
  · obtain ⟨b, Z1, Z2, g1, g2, hJ2⟩ := on_serveAll hJ hm
    exact ⟨Z2, none, none, none, .inl (cs_8 g1 g2), hJ2⟩
  · obtain ⟨e, b, Z1, Z2, hw, hmd, ht, h1, he, ho, hJ2⟩ := op_set (v1 := f (i + 1)) (v2 := f (i + 2)) hJ hm
    exact ⟨Z2, _, _, _, .inr (cs_9 hT hn31 hi h3 h1 he hw hmd ht ho), hJ2⟩
  · obtain ⟨e, b, Z1, Z2, hw, hmd, ht, h1, he, ho, hJ2⟩ := op_append (v1 := f (i + 1)) hJ hm
    exact ⟨Z2, _, _, _, .inr (cs_10 hT hn31 hi h3 h1 he hw hmd ht ho), hJ2⟩
  · obtain ⟨b, Z1, Z2, g1, g2, hJ2⟩ := on_clearBuffer hJ hm
    exact ⟨Z2, none, none, none, .inl (cs_11 g1 g2), hJ2⟩
  · obtain ⟨b, Z1, Z2, g1, g2, hJ2⟩ := on_firstError hJ hm
    exact ⟨Z2, none, none, none, .inl (cs_12 g1 g2), hJ2⟩
  · obtain ⟨e, b, Z1, Z2, hw, hmd, ht, h1, he, ho, hJ2⟩ := op_receiveAll hJ hm
    exact ⟨Z2, _, _, _, .inr (cs_13 hT hn31 hi h3 h1 he hw hmd ht ho), hJ2⟩
  · obtain ⟨e, b, Z1, Z2, hw, hmd, ht, h1, he, ho, hJ2⟩ := op_undo hJ hm
    exact ⟨Z2, _, _, _, .inr (cs_14 hT hn31 hi h3 h1 he hw hmd ht ho), hJ2⟩
  · obtain ⟨e, b, Z1, Z2, hw, hmd, ht, h1, he, ho, hJ2⟩ := op_at (v1 := f (i + 1)) (v2 := f (i + 2)) hJ hm
    exact ⟨Z2, _, _, _, .inr (cs_15 hT hn31 hi h3 h1 he hw hmd ht ho), hJ2⟩
  · obtain ⟨e, b, Z1, Z2, hw, hmd, ht, h1, he, ho, hJ2⟩ := op_coil (v1 := f (i + 1)) (v2 := f (i + 2)) hJ hm
    exact ⟨Z2, _, _, _, .inr (cs_16 hT hn31 hi h3 h1 he hw hmd ht ho), hJ2⟩
  · obtain ⟨e, b, Z1, Z2, hw, hmd, ht, h1, he, ho, hJ2⟩ := op_orderOf (v1 := f (i + 1)) (v2 := f (i + 2)) hJ hm
    exact ⟨Z2, _, _, _, .inr (cs_17 hT hn31 hi h3 h1 he hw hmd ht ho), hJ2⟩
  · obtain ⟨e, b, Z1, Z2, hw, hmd, ht, h1, he, ho, hJ2⟩ := op_whyNot (v1 := f (i + 1)) (v2 := f (i + 2)) hJ hm
    exact ⟨Z2, _, _, _, .inr (cs_18 hT hn31 hi h3 h1 he hw hmd ht ho), hJ2⟩
  · obtain ⟨e, b, Z1, Z2, hw, hmd, ht, h1, he, ho, hJ2⟩ := op_count (v1 := f (i + 1)) hJ hm
    exact ⟨Z2, _, _, _, .inr (cs_19 hT hn31 hi h3 h1 he hw hmd ht ho), hJ2⟩
  · obtain ⟨e, b, Z1, Z2, hw, hmd, ht, h1, he, ho, hJ2⟩ := op_setting (v1 := f (i + 1)) hJ hm
    exact ⟨Z2, _, _, _, .inr (cs_20 hT hn31 hi h3 h1 he hw hmd ht ho), hJ2⟩
  · obtain ⟨e, b, Z1, Z2, hw, hmd, ht, h1, he, ho, hJ2⟩ := op_choice (v1 := f (i + 1)) hJ hm
    exact ⟨Z2, _, _, _, .inr (cs_21 hT hn31 hi h3 h1 he hw hmd ht ho), hJ2⟩
  · obtain ⟨e, b, Z1, Z2, hw, hmd, ht, h1, he, ho, hJ2⟩ := op_ifServed (v1 := f (i + 1)) (v2 := f (i + 2)) (v3 := f (i + 3)) hJ hm
    exact ⟨Z2, _, _, _, .inr (cs_22 hT hn31 hi h3 h1 he hw hmd ht ho), hJ2⟩
  · obtain ⟨b, Z1, Z2, g1, g2, hJ2⟩ := on_bestRule hJ hm
    exact ⟨Z2, none, none, none, .inl (cs_23 g1 g2), hJ2⟩
  · obtain ⟨b, Z1, Z2, g1, g2, hJ2⟩ := on_bestStack hJ hm
    exact ⟨Z2, none, none, none, .inl (cs_24 g1 g2), hJ2⟩
  · obtain ⟨z, Z1, Z2, hz, g1, g2, hJ2⟩ := on_used hJ hm
    exact ⟨Z2, _, _, _, .inr (cs_25 hz g1 g2), hJ2⟩
  · obtain ⟨b, Z1, Z2, g1, g2, hJ2⟩ := on_digest hJ hm
    exact ⟨Z2, none, none, none, .inl (cs_26 g1 g2), hJ2⟩
  · exact ⟨Z, none, none, none, .inl rfl, hJ.mono (by omega)⟩
  · exact ⟨Z, none, none, none, .inl rfl, hJ.mono (by omega)⟩
  · exact ⟨Z, none, none, none, .inl rfl, hJ.mono (by omega)⟩
  · exact ⟨Z, none, none, none, .inl rfl, hJ.mono (by omega)⟩
  · exact ⟨Z, none, none, none, .inl rfl, hJ.mono (by omega)⟩
theorem law_step (hT : T 3 = some (n, f)) (hn : n < 2 ^ 20) (hi : i + 6 ≤ n) (hJ : JR m Z) (hm : m + 320 < 2 ^ 20) : ∃ Z' : Hp, fgK [5, 6, 7] (stp (c_Law T) (d_Law_body T) (u_Law T) (lwL i none none none, [], (Z, 0))) = .inl (lwL (i + 6) none none none, [], (Z', 0)) ∧ JR (m + 320) Z' := by
  have h3 := hJ.at3
  have hl := le6 (n := n) (i := i) (by omega) (by omega)
  have hl2 : ¬ n < i + 6 := by omega
  obtain ⟨Z', a, b, c, hb, hJ2⟩ := law_body hT hn hi hJ hm
  refine ⟨Z', ?_, hJ2⟩
  rcases hb with hb | hb
  · simp (disch := omega) only [upd_nI, nI_add, pk_mul, zn_le, zn_eq, zn_e0, zn_l0, zn_g0, zn_le0, zn_ge0, zn_m1, zn_m1', zn_m1m, zn_addm, zn_div, eo_none, eo_some, mg_nI, mg_eo1, mg_eo2, mg_eo, mg_int, mg_lng, mg_sm, mg_smN, mg_cons, mg_pair, mg_nm, mg_fn, mg_out, mg_res, mg_sM, zb_e0, zb_e0', rr_nil, ite_self, rr_getfield, gfK_at, rr_putfield, pfK_at, rr_ivS, rr_ivV, rr_ivP, ws_nil, ws_int, ws_ref, ws_lng, cK_1, cK_0, iv_0, iv_1, iv_2, iv_3, iv_4, iv_5, iv_6, iv_7, fgK_l, fgK_r, fgK_if, zf_nil, zf_0, zf_1, zf_2, zf_3, zf_4, zf_5, zf_6, zf_7, zf_8, zf_9, zf_10, cat_K, ct_eq, ct_ne, ct_lt, ct_ge, ct_gt, ct_le, ct_eq0, ct_ne0, ct_lt0, ct_ge0, ct_gt0, ct_le0, ct_nulr, ct_nul, cno_K, nK_d, can_K, aK_d, cor_K, oK_d, cd_t, cd_f, nK_if, aK_if, oK_if, cfo_K, ite_K, iK_d, iK_if, sq_K, sK_nm, sK_x, sK_if, blk_K, bK_s, rti_K, riK_s, rtz_K, rzK_b, rzK_b', rzK_s, rtv_K, rvK_s, rta_K, raK_s, raK_n, rtl_K, rlK_s, rtd_K, rdK_s, brk_K, cnt_K, zr_fn, zr_if, swi_K, swK_s, swg_nil, swg_cons, stp_K, tK_d, tK_if, vK_nm, vK_bk, vK_ct, vK_fn, vK_if, wK_nm, Classical.not_not, Decidable.not_not, not_true, not_false_iff, if_true, if_false, Nat.zero_le, Nat.reduceLeDiff, Nat.reduceLT, Nat.zero_lt_one, Nat.one_ne_zero, Nat.reduceEqDiff, not_false_eq_true, eq_self, reduceCtorEq, Option.getD_some, Option.getD_none, Nat.reduceAdd, Nat.not_le, Nat.not_lt, Int32.not_le, Int32.not_lt, true_and, and_true, false_and, and_false, true_or, or_true, false_or, or_false, c_Law, u_Law, lc_Law_101, lc_Law_104, lc_Law_108, lc_Law_111, lc_Law_114, lc_Law_117, lc_Law_118, lc_Law_121, lc_Law_124, lc_Law_127, lc_Law_128, lc_Law_131, lc_Law_132, lc_Law_135, lc_Law_139, lc_Law_142, lc_Law_145, lc_Law_148, lc_Law_151, lc_Law_154, lc_Law_157, lc_Law_160, lc_Law_163, lc_Law_167, lc_Law_168, lc_Law_171, lc_Law_172, lc_Law_175, lc_Law_176, lc_Law_180, lc_Law_181, lc_Law_185, lc_Law_90, lc_Law_91, lc_Law_97, rr_aload0, rr_aload1, rr_aload2, rr_aload3, rr_iload4, rr_iload5, rr_iload6, rz_dload5, rz_dload7, rr_iconst0, rr_iconst1, rr_iconst2, rr_iconst3, rr_iconst4, rr_iconst5, rr_iadd, rr_isub, rr_bipush31, rr_bipush6, rz_iand, rz_i2l, rz_lcmp, rz_dcmp, rz_istore5i lb_Law, rz_istore6i lb_Law, rz_istore6n lb_Law, rz_dstore5i lb_Law, rz_dstore7n lb_Law, cal_1, cal_2, cal_3, cal_4, cal_5, cal_6, cal_7, caK_1, caK_0, lt_T, lt_F, le_T, le_F, eq_T, eq_F, ne_eq, rz_slen h3 hT, hl, hl2, hb, rz_iinc46 lb_Law]
  · simp (disch := omega) only [upd_nI, nI_add, pk_mul, zn_le, zn_eq, zn_e0, zn_l0, zn_g0, zn_le0, zn_ge0, zn_m1, zn_m1', zn_m1m, zn_addm, zn_div, eo_none, eo_some, mg_nI, mg_eo1, mg_eo2, mg_eo, mg_int, mg_lng, mg_sm, mg_smN, mg_cons, mg_pair, mg_nm, mg_fn, mg_out, mg_res, mg_sM, zb_e0, zb_e0', rr_nil, ite_self, rr_getfield, gfK_at, rr_putfield, pfK_at, rr_ivS, rr_ivV, rr_ivP, ws_nil, ws_int, ws_ref, ws_lng, cK_1, cK_0, iv_0, iv_1, iv_2, iv_3, iv_4, iv_5, iv_6, iv_7, fgK_l, fgK_r, fgK_if, zf_nil, zf_0, zf_1, zf_2, zf_3, zf_4, zf_5, zf_6, zf_7, zf_8, zf_9, zf_10, cat_K, ct_eq, ct_ne, ct_lt, ct_ge, ct_gt, ct_le, ct_eq0, ct_ne0, ct_lt0, ct_ge0, ct_gt0, ct_le0, ct_nulr, ct_nul, cno_K, nK_d, can_K, aK_d, cor_K, oK_d, cd_t, cd_f, nK_if, aK_if, oK_if, cfo_K, ite_K, iK_d, iK_if, sq_K, sK_nm, sK_x, sK_if, blk_K, bK_s, rti_K, riK_s, rtz_K, rzK_b, rzK_b', rzK_s, rtv_K, rvK_s, rta_K, raK_s, raK_n, rtl_K, rlK_s, rtd_K, rdK_s, brk_K, cnt_K, zr_fn, zr_if, swi_K, swK_s, swg_nil, swg_cons, stp_K, tK_d, tK_if, vK_nm, vK_bk, vK_ct, vK_fn, vK_if, wK_nm, Classical.not_not, Decidable.not_not, not_true, not_false_iff, if_true, if_false, Nat.zero_le, Nat.reduceLeDiff, Nat.reduceLT, Nat.zero_lt_one, Nat.one_ne_zero, Nat.reduceEqDiff, not_false_eq_true, eq_self, reduceCtorEq, Option.getD_some, Option.getD_none, Nat.reduceAdd, Nat.not_le, Nat.not_lt, Int32.not_le, Int32.not_lt, true_and, and_true, false_and, and_false, true_or, or_true, false_or, or_false, c_Law, u_Law, lc_Law_101, lc_Law_104, lc_Law_108, lc_Law_111, lc_Law_114, lc_Law_117, lc_Law_118, lc_Law_121, lc_Law_124, lc_Law_127, lc_Law_128, lc_Law_131, lc_Law_132, lc_Law_135, lc_Law_139, lc_Law_142, lc_Law_145, lc_Law_148, lc_Law_151, lc_Law_154, lc_Law_157, lc_Law_160, lc_Law_163, lc_Law_167, lc_Law_168, lc_Law_171, lc_Law_172, lc_Law_175, lc_Law_176, lc_Law_180, lc_Law_181, lc_Law_185, lc_Law_90, lc_Law_91, lc_Law_97, rr_aload0, rr_aload1, rr_aload2, rr_aload3, rr_iload4, rr_iload5, rr_iload6, rz_dload5, rz_dload7, rr_iconst0, rr_iconst1, rr_iconst2, rr_iconst3, rr_iconst4, rr_iconst5, rr_iadd, rr_isub, rr_bipush31, rr_bipush6, rz_iand, rz_i2l, rz_lcmp, rz_dcmp, rz_istore5i lb_Law, rz_istore6i lb_Law, rz_istore6n lb_Law, rz_dstore5i lb_Law, rz_dstore7n lb_Law, cal_1, cal_2, cal_3, cal_4, cal_5, cal_6, cal_7, caK_1, caK_0, lt_T, lt_F, le_T, le_F, eq_T, eq_F, ne_eq, rz_slen h3 hT, hl, hl2, hb, rz_iinc46 lb_Law]
theorem law_end (hT : T 3 = some (n, f)) (hn : n < 2 ^ 20) (hi2 : i < 2 ^ 20) (hi : ¬ i + 6 ≤ n) (hJ : JR m Z) : stp (c_Law T) (d_Law_body T) (u_Law T) (lwL i none none none, [], (Z, 0)) = .inr (nm (lwL i none none none, [], (Z, 0))) := by
  have h3 := hJ.at3
  have hl := le6 (n := n) (i := i) (by omega) (by omega)
  have hl2 : n < i + 6 := by omega
  simp (disch := omega) only [upd_nI, nI_add, pk_mul, zn_le, zn_eq, zn_e0, zn_l0, zn_g0, zn_le0, zn_ge0, zn_m1, zn_m1', zn_m1m, zn_addm, zn_div, eo_none, eo_some, mg_nI, mg_eo1, mg_eo2, mg_eo, mg_int, mg_lng, mg_sm, mg_smN, mg_cons, mg_pair, mg_nm, mg_fn, mg_out, mg_res, mg_sM, zb_e0, zb_e0', rr_nil, ite_self, rr_getfield, gfK_at, rr_putfield, pfK_at, rr_ivS, rr_ivV, rr_ivP, ws_nil, ws_int, ws_ref, ws_lng, cK_1, cK_0, iv_0, iv_1, iv_2, iv_3, iv_4, iv_5, iv_6, iv_7, fgK_l, fgK_r, fgK_if, zf_nil, zf_0, zf_1, zf_2, zf_3, zf_4, zf_5, zf_6, zf_7, zf_8, zf_9, zf_10, cat_K, ct_eq, ct_ne, ct_lt, ct_ge, ct_gt, ct_le, ct_eq0, ct_ne0, ct_lt0, ct_ge0, ct_gt0, ct_le0, ct_nulr, ct_nul, cno_K, nK_d, can_K, aK_d, cor_K, oK_d, cd_t, cd_f, nK_if, aK_if, oK_if, cfo_K, ite_K, iK_d, iK_if, sq_K, sK_nm, sK_x, sK_if, blk_K, bK_s, rti_K, riK_s, rtz_K, rzK_b, rzK_b', rzK_s, rtv_K, rvK_s, rta_K, raK_s, raK_n, rtl_K, rlK_s, rtd_K, rdK_s, brk_K, cnt_K, zr_fn, zr_if, swi_K, swK_s, swg_nil, swg_cons, stp_K, tK_d, tK_if, vK_nm, vK_bk, vK_ct, vK_fn, vK_if, wK_nm, Classical.not_not, Decidable.not_not, not_true, not_false_iff, if_true, if_false, Nat.zero_le, Nat.reduceLeDiff, Nat.reduceLT, Nat.zero_lt_one, Nat.one_ne_zero, Nat.reduceEqDiff, not_false_eq_true, eq_self, reduceCtorEq, Option.getD_some, Option.getD_none, Nat.reduceAdd, Nat.not_le, Nat.not_lt, Int32.not_le, Int32.not_lt, true_and, and_true, false_and, and_false, true_or, or_true, false_or, or_false, c_Law, u_Law, lc_Law_101, lc_Law_104, lc_Law_108, lc_Law_111, lc_Law_114, lc_Law_117, lc_Law_118, lc_Law_121, lc_Law_124, lc_Law_127, lc_Law_128, lc_Law_131, lc_Law_132, lc_Law_135, lc_Law_139, lc_Law_142, lc_Law_145, lc_Law_148, lc_Law_151, lc_Law_154, lc_Law_157, lc_Law_160, lc_Law_163, lc_Law_167, lc_Law_168, lc_Law_171, lc_Law_172, lc_Law_175, lc_Law_176, lc_Law_180, lc_Law_181, lc_Law_185, lc_Law_90, lc_Law_91, lc_Law_97, rr_aload0, rr_aload1, rr_aload2, rr_aload3, rr_iload4, rr_iload5, rr_iload6, rz_dload5, rz_dload7, rr_iconst0, rr_iconst1, rr_iconst2, rr_iconst3, rr_iconst4, rr_iconst5, rr_iadd, rr_isub, rr_bipush31, rr_bipush6, rz_iand, rz_i2l, rz_lcmp, rz_dcmp, rz_istore5i lb_Law, rz_istore6i lb_Law, rz_istore6n lb_Law, rz_dstore5i lb_Law, rz_dstore7n lb_Law, cal_1, cal_2, cal_3, cal_4, cal_5, cal_6, cal_7, caK_1, caK_0, lt_T, lt_F, le_T, le_F, eq_T, eq_F, ne_eq, rz_slen h3 hT, hl, hl2]
theorem law_ar {m k : Nat} (h : m + (320 * (k + 1) + 320) ≤ 1000000) : m + 320 ≤ 1000000 ∧ m + 320 + (320 * k + 320) ≤ 1000000 := by
  rw [Nat.mul_succ] at h
  generalize 320 * k = K at h ⊢
  omega
theorem law_loop (hT : T 3 = some (n, f)) (hn : n < 2 ^ 20) : ∀ (k : Nat) {N i m : Nat} {Z : Hp}, n - i < 6 * (k + 1) → k < N → i ≤ n → JR m Z → m + (320 * k + 320) ≤ 1000000 → ∃ (Z' : Hp) (i' : Nat), lop (c_Law T) (d_Law_body T) (u_Law T) N (lwL i none none none, [], (Z, 0)) = nm (lwL i' none none none, [], (Z', 0)) := by
  intro k
  induction k with
  | zero =>
    intro N i m Z h1 hN hi hJ hm
    obtain ⟨N, rfl⟩ : ∃ j, N = j + 1 := ⟨N - 1, by omega⟩
    exact ⟨Z, i, lop_end (law_end hT hn (by omega) (by omega) hJ)⟩
  | succ k ih =>
    intro N i m Z h1 hN hi hJ hm
    obtain ⟨N, rfl⟩ : ∃ j, N = j + 1 := ⟨N - 1, by omega⟩
    obtain ⟨hm0, hm2⟩ := law_ar hm
    have hm1 : m + 320 < 2 ^ 20 := Nat.lt_of_le_of_lt hm0 (by decide)
    clear hm
    by_cases h : i + 6 ≤ n
    · obtain ⟨Z', g, hJ2⟩ := law_step hT hn h hJ hm1
      unfold c_Law at g ⊢
      rw [lop_stepF g]
      exact ih (N := N) (i := i + 6) (m := m + 320) (by omega) (by omega) h hJ2 hm2
    · exact ⟨Z, i, lop_end (law_end hT hn (by omega) h hJ)⟩
end
