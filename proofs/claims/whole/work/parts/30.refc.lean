/-! ===== the reference: slits ===== -/
section
variable {M : Hp} {A nx : Nat} {t : Nat → Nat} {m : Nat}
theorem zn_sl0 {a b : Nat} (ha : a < 2 ^ 30) (hb : b < 2 ^ 30) : (nI a - nI b < 0) = (a < b) := by
  have h1 := pk_sub_toInt ha hb
  refine propext ⟨fun h => ?_, fun h => ?_⟩
  · have := Int32.lt_iff_toInt_lt.mp h
    rw [h1, show (0 : Int32).toInt = 0 from rfl] at this
    omega
  · apply Int32.lt_iff_toInt_lt.mpr
    rw [h1, show (0 : Int32).toInt = 0 from rfl]
    omega
theorem zn_sm {a b : Nat} [Decidable (nI a - nI b < 0)] (ha : a < 2 ^ 30) (hb : b < 2 ^ 30) : (if nI a - nI b < 0 then nI 0 else nI a - nI b) = nI (a - b) := by
  by_cases h : a < b
  · rw [if_pos (by rw [zn_sl0 ha hb]; exact h), show a - b = 0 by omega]
  · rw [if_neg (by rw [zn_sl0 ha hb]; exact h), zn_sub (by omega)]
/-- the topmost coil, at p, is cut for an order -/
def cutA (s : Nat → Nat) (o p : Nat) : Nat → Nat := updN (updN (updN (updN (updN s (16 + p / 5) (s (16 + p / 5) - 1)) 8 (s 8 + cuts s o p)) 9 (s 9 + cuts s o p * oo s o 3)) 10 (s 10 + cuts s o p * s 1)) 12 (s 12 + cuts s o p * oo s o 5)
def cutB (s : Nat → Nat) (o p : Nat) : Nat → Nat := if restOf s o p < s 0 then updN (cutA s o p) 11 (s 11 + restOf s o p) else updN (lays (cutA s o p) (p / 5) (s 4) (restOf s o p) (cc s p 2) (cc s p 3 - s 2) 1) 4 (s 4 + 1)
def cut (s : Nat → Nat) (o p : Nat) : Nat → Nat := updN (cutB s o p) (172 + 6 * o + 4) (oo s o 4 - cuts s o p)
def dug (t : Nat → Nat) (p : Nat) : Nat → Nat := digs t p (t (16 + p / 5) - 1 - p % 5)
def slits (t : Nat → Nat) (o p : Nat) : Nat → Nat := if oo t o 4 - cuts t o p = 0 then orderGoes (cut (dug t p) o p) o else cut (dug t p) o p
theorem oo_eq {s : Nat → Nat} {o c : Nat} (h : ∀ x, x < 16 ∨ 172 ≤ x → x ≠ 6 → x ≠ 7 → s x = t x) : oo s o c = oo t o c := h _ (by omega) (by omega) (by omega)
theorem DK_fits {s : Nat → Nat} {o p : Nat} (h : DK t p m s) : fits s o p = fits t o p := by
  unfold fits
  rw [h.2.1 1 (by omega), oo_eq h.2.2, h.2.2 1 (by omega) (by omega) (by omega)]
theorem DK_cuts {s : Nat → Nat} {o p : Nat} (h : DK t p m s) : cuts s o p = cuts t o p := by
  unfold cuts
  rw [DK_fits h, oo_eq h.2.2]
theorem cutA_ne {s : Nat → Nat} {o p x : Nat} (h : x ≠ 16 + p / 5) (h8 : x ≠ 8) (h9 : x ≠ 9) (h10 : x ≠ 10) (h12 : x ≠ 12) : cutA s o p x = s x := by
  unfold cutA
  rw [updN_ne h12, updN_ne h10, updN_ne h9, updN_ne h8, updN_ne h]
theorem cutA_h {s : Nat → Nat} {o p : Nat} (hp : p < 30) : cutA s o p (16 + p / 5) = s (16 + p / 5) - 1 := by
  unfold cutA
  rw [updN_ne (by omega), updN_ne (by omega), updN_ne (by omega), updN_ne (by omega), updN_eq]
/-- what stands when a coil is topmost and suits -/
def TP (s : Nat → Nat) (o p m : Nat) : Prop := IV m s ∧ o < s 15 ∧ p < 30 ∧ s (16 + p / 5) = p % 5 + 1
theorem k_Mod_slits {o p : Nat} (hI : IV m t) (ho : o < t 15) (hp : p < 30) (ha : p % 5 < t (16 + p / 5)) (hc : canDig t p) (hm : m < 2 ^ 20) : x_Mod_slits [.ref A, .int (nI o), .int (nI p)] (sM M A t, nx) = some (.inl (some (.int (nI (cuts t o p)))), (sM M A (slits t o p), nx)) := by
  obtain ⟨hD, hs⟩ := digs_top hI hp ha hc
  have hdig := k_Mod_digs (M := M) (A := A) (nx := nx) hp hI.1 ha hc
  have e : slits t o p = if oo t o 4 - cuts t o p = 0 then orderGoes (cut (digs t p (t (16 + p / 5) - 1 - p % 5)) o p) o else cut (digs t p (t (16 + p / 5) - 1 - p % 5)) o p := rfl
  rw [e]
  generalize digs t p (t (16 + p / 5) - 1 - p % 5) = s at hD hs hdig
  have hI2 := hD.1
  have e15 : s 15 = t 15 := hD.2.2 15 (by omega) (by omega) (by omega)
  have ho2 : o < s 15 := by omega
  have hoc := hI2.oc ho2 hp (by omega)
  have e4 : oo t o 4 = oo s o 4 := (oo_eq hD.2.2).symm
  rw [← DK_cuts hD, e4]
  have hcu := k_Mod_cuts (M := M) (A := A) (nx := nx) hoc
  have hre := k_Mod_restOf (M := M) (A := A) (nx := nx) hoc
  obtain ⟨i1, i2, i3, i4, i5, i6⟩ := hI2
  obtain ⟨c0, c1, c2, c3, c4⟩ := i2 p hp (by omega)
  obtain ⟨o0, o1, o2, o3, o4, o5, o6, o7, o8⟩ := i3 o ho2
  obtain ⟨s0, s1, s2, s3, s4, s5⟩ := i5
  have ho8 : o < 8 := by omega
  have f2 : cuts s o p ≤ oo s o 4 := cuts_le.2
  have f3 : restOf s o p ≤ 200 := by unfold restOf; omega
  have h5 : s (16 + p / 5) ≤ 5 := by omega
  have h55 : p / 5 < 6 := by omega
  have e1 : ∀ x, x ≠ 16 + p / 5 → x ≠ 8 → x ≠ 9 → x ≠ 10 → x ≠ 12 → cutA s o p x = s x := fun x a b c d e => cutA_ne a b c d e
  have eA := e1
  rw [q_Mod_slits]
  have hq : cutA s o p (16 + p / 5) < 5 := by rw [cutA_h hp]; omega
  have hq2 : cutA s o p 4 = s 4 := e1 4 (by omega) (by omega) (by omega) (by omega) (by omega)
  have b15 : cut s o p 15 = s 15 := by
    unfold cut cutB
    rw [updN_ne (by omega)]
    split
    · rw [updN_ne (by omega), e1 15 (by omega) (by omega) (by omega) (by omega) (by omega)]
    · rw [updN_ne (by omega), lays_ot h55 hq (by omega), e1 15 (by omega) (by omega) (by omega) (by omega) (by omega)]
  have hgo := k_Mod_orderGoes (M := M) (A := A) (nx := nx) (t := cut s o p) (o := o) (by omega) (by omega)
  have b4 : oo (cut s o p) o 4 = oo s o 4 - cuts s o p := updN_eq
  have eF : updN (updN (updN (updN (updN s (16 + p / 5) (s (16 + p / 5) - 1)) 8 (s 8 + cuts s o p)) 9 (s 9 + cuts s o p * s (172 + 6 * o + 3))) 10 (s 10 + cuts s o p * s 1)) 12 (s 12 + cuts s o p * s (172 + 6 * o + 5)) = cutA s o p := rfl
  have c3' : s (22 + 5 * p + 3) ≤ 9 := c3
  have hcc : ∀ c, c < 5 → cutA s o p (22 + 5 * p + c) = s (22 + 5 * p + c) := fun c hc => e1 _ (by omega) (by omega) (by omega) (by omega) (by omega)
  by_cases hr : restOf s o p < s 0
  · have eB : updN (updN (cutA s o p) 11 (s 11 + restOf s o p)) (172 + 6 * o + 4) (s (172 + 6 * o + 4) - cuts s o p) = cut s o p := by
      unfold cut cutB; rw [if_pos hr]
    simp (disch := omega) only [upd_nI, nI_add, pk_mul, zn_lt, zn_le, zn_eq, zn_e0, zn_l0, zn_g0, zn_le0, zn_ge0, zn_m1, zn_m1', zn_m1m, zn_sub, zn_addm, zn_div, eo_none, eo_some, mg_nI, mg_eo1, mg_eo2, mg_eo, mg_int, mg_lng, mg_sm, mg_smN, mg_cons, mg_pair, mg_nm, mg_fn, mg_out, mg_res, mg_sM, zb_e0, zb_e0', rr_nil, ite_self, rr_getfield, gfK_at, rr_putfield, pfK_at, rr_ivS, rr_ivV, rr_ivP, ws_nil, ws_int, ws_ref, ws_lng, cK_1, cK_0, iv_0, iv_1, iv_2, iv_3, iv_4, iv_5, iv_6, iv_7, fgK_l, fgK_r, fgK_if, zf_nil, zf_0, zf_1, zf_2, zf_3, zf_4, zf_5, zf_6, zf_7, zf_8, zf_9, zf_10, cat_K, ct_eq, ct_ne, ct_lt, ct_ge, ct_gt, ct_le, ct_eq0, ct_ne0, ct_lt0, ct_ge0, ct_gt0, ct_le0, ct_nulr, ct_nul, cno_K, nK_d, can_K, aK_d, cor_K, oK_d, cd_t, cd_f, nK_if, aK_if, oK_if, cfo_K, ite_K, iK_d, iK_if, sq_K, sK_nm, sK_x, sK_if, blk_K, bK_s, rti_K, riK_s, rtz_K, rzK_b, rzK_b', rzK_s, rtv_K, rvK_s, rta_K, raK_s, raK_n, rtl_K, rlK_s, rtd_K, rdK_s, brk_K, cnt_K, zr_fn, zr_if, swi_K, swK_s, swg_nil, swg_cons, stp_K, tK_d, tK_if, vK_nm, vK_bk, vK_ct, vK_fn, vK_if, wK_nm, Classical.not_not, Decidable.not_not, not_true, not_false_iff, if_true, if_false, Nat.zero_le, Nat.reduceLeDiff, Nat.reduceLT, Nat.zero_lt_one, Nat.one_ne_zero, Nat.reduceEqDiff, not_false_eq_true, eq_self, reduceCtorEq, Option.getD_some, Option.getD_none, Nat.reduceAdd, Nat.not_le, Nat.not_lt, Int32.not_le, Int32.not_lt, true_and, and_true, false_and, and_false, true_or, or_true, false_or, or_false, d_Mod_slits, lc_Mod_slits_87, lc_Mod_slits_78, lc_Mod_slits_84, lc_Mod_slits_48, lc_Mod_slits_44, lc_Mod_slits_55, lc_Mod_slits_90, lt_Mod_slits, rr_aload0, rr_bipush10, rr_bipush11, rr_bipush12, rr_bipush16, rr_bipush6, rr_bipush8, rr_bipush9, rr_dup2, rr_iadd, rr_ialoadS, rr_iastoreS, rr_iconst0, rr_iconst1, rr_iconst2, rr_iconst3, rr_iconst4, rr_iconst5, rr_idiv, rr_iload4, rr_iload5, rr_iload1, rr_iload2, rr_iload3, rr_imul, rr_istore4 lb_Mod_slits, rr_istore5 lb_Mod_slits, rr_istore3 lb_Mod_slits, rr_isub, rr_pop, rr_sipush172, hdig, hcu, hre, k_Mod_by, hr, updN_ne, eF, cutA_ne, eB, b4, hgo]
  · have eB : updN (updN (lays (cutA s o p) (p / 5) (s 4) (restOf s o p) (cc s p 2) (cc s p 3 - s 2) 1) 4 (s 4 + 1)) (172 + 6 * o + 4) (s (172 + 6 * o + 4) - cuts s o p) = cut s o p := by
      unfold cut cutB; rw [if_neg hr]
    have hl : ∀ n w g q r i, i < 16 ∨ 172 ≤ i → lays (cutA s o p) (p / 5) n w g q r i = cutA s o p i := fun n w g q r i hi => lays_ot h55 hq hi
    simp (disch := omega) only [upd_nI, nI_add, pk_mul, zn_lt, zn_le, zn_eq, zn_e0, zn_l0, zn_g0, zn_le0, zn_ge0, zn_m1, zn_m1', zn_m1m, zn_sub, zn_addm, zn_div, eo_none, eo_some, mg_nI, mg_eo1, mg_eo2, mg_eo, mg_int, mg_lng, mg_sm, mg_smN, mg_cons, mg_pair, mg_nm, mg_fn, mg_out, mg_res, mg_sM, zb_e0, zb_e0', rr_nil, ite_self, rr_getfield, gfK_at, rr_putfield, pfK_at, rr_ivS, rr_ivV, rr_ivP, ws_nil, ws_int, ws_ref, ws_lng, cK_1, cK_0, iv_0, iv_1, iv_2, iv_3, iv_4, iv_5, iv_6, iv_7, fgK_l, fgK_r, fgK_if, zf_nil, zf_0, zf_1, zf_2, zf_3, zf_4, zf_5, zf_6, zf_7, zf_8, zf_9, zf_10, cat_K, ct_eq, ct_ne, ct_lt, ct_ge, ct_gt, ct_le, ct_eq0, ct_ne0, ct_lt0, ct_ge0, ct_gt0, ct_le0, ct_nulr, ct_nul, cno_K, nK_d, can_K, aK_d, cor_K, oK_d, cd_t, cd_f, nK_if, aK_if, oK_if, cfo_K, ite_K, iK_d, iK_if, sq_K, sK_nm, sK_x, sK_if, blk_K, bK_s, rti_K, riK_s, rtz_K, rzK_b, rzK_b', rzK_s, rtv_K, rvK_s, rta_K, raK_s, raK_n, rtl_K, rlK_s, rtd_K, rdK_s, brk_K, cnt_K, zr_fn, zr_if, swi_K, swK_s, swg_nil, swg_cons, stp_K, tK_d, tK_if, vK_nm, vK_bk, vK_ct, vK_fn, vK_if, wK_nm, Classical.not_not, Decidable.not_not, not_true, not_false_iff, if_true, if_false, Nat.zero_le, Nat.reduceLeDiff, Nat.reduceLT, Nat.zero_lt_one, Nat.one_ne_zero, Nat.reduceEqDiff, not_false_eq_true, eq_self, reduceCtorEq, Option.getD_some, Option.getD_none, Nat.reduceAdd, Nat.not_le, Nat.not_lt, Int32.not_le, Int32.not_lt, true_and, and_true, false_and, and_false, true_or, or_true, false_or, or_false, d_Mod_slits, lc_Mod_slits_87, lc_Mod_slits_78, lc_Mod_slits_84, lc_Mod_slits_48, lc_Mod_slits_44, lc_Mod_slits_55, lc_Mod_slits_90, lt_Mod_slits, rr_aload0, rr_bipush10, rr_bipush11, rr_bipush12, rr_bipush16, rr_bipush6, rr_bipush8, rr_bipush9, rr_dup2, rr_iadd, rr_ialoadS, rr_iastoreS, rr_iconst0, rr_iconst1, rr_iconst2, rr_iconst3, rr_iconst4, rr_iconst5, rr_idiv, rr_iload4, rr_iload5, rr_iload1, rr_iload2, rr_iload3, rr_imul, rr_istore4 lb_Mod_slits, rr_istore5 lb_Mod_slits, rr_istore3 lb_Mod_slits, rr_isub, rr_pop, rr_sipush172, hdig, hcu, hre, k_Mod_by, k_Mod_of, hr, updN_ne, eF, cutA_ne, eB, b4, hgo, k_Mod_lays, hl, zn_sm]
end
