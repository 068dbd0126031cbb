/-! ===== the law: each call of both ===== -/
section
variable {m : Nat} {Z : Hp} {v1 v2 v3 v4 v5 : Int32}
theorem op_receive (hJ : JR m Z) (hm : m + 320 < 2 ^ 20) : Op m Z (x_Law_receive [.ref 4, .int v1, .int v2, .int v3, .int v4, .ref 104]) (x_Mod_receive [.ref 98, .int v1, .int v2, .int v3, .int v4]) := by
  obtain ⟨fl, hn, hk, H, bf, rc, u, c1, d1, t, co, od, th, at', ft, tl, u2, ps, tx, td, q, rfl, hI, hR, s1, s2, hb, hq, hH⟩ := hJ
  have hI' := hI.mono (show m ≤ m + 320 by omega)
  have hH' := hH.mono (show m ≤ m + 320 by omega)
  have hO := hI.1
  have h8 := hI.t15
  have s2' := savK_le s2
  have hV := hH'.save hI' hR s1 s2
  have m31 : m < 2 ^ 31 := by omega
  by_cases h4 : nI 0 ≤ v4 ∧ v4 ≤ nI 5
  · obtain ⟨k, rfl, -, k5⟩ := rng (by omega) (by omega) h4
    have k6 : k < 6 := by omega
    by_cases h : (nI 1 ≤ v1 ∧ v1 ≤ nI 200) ∧ (nI 0 ≤ v2 ∧ v2 ≤ nI 3) ∧ (nI 0 ≤ v3 ∧ v3 ≤ nI 9)
    · obtain ⟨a, rfl, a1, a2⟩ := rng (by omega) (by omega) h.1
      obtain ⟨b, rfl, -, b2⟩ := rng (by omega) (by omega) h.2.1
      obtain ⟨c, rfl, -, c2⟩ := rng (by omega) (by omega) h.2.2
      by_cases hf : t (16 + k) = 5
      · exact op_no (e := 3) (by omega) (by omega) (w_receive_3 (k_Slit_receive3 k6 ⟨a1, a2⟩ b2 c2 hf)) j_3 (n_J (fun M => k_Mod_receive3 k6 ⟨a1, a2⟩ b2 c2 hf)) (JR_mk hI' hR s1 s2 hb hq hH')
      · have hf2 : t (16 + k) < 5 := by have := hO k k6; omega
        exact op_ok (w_receive_ok (k_Slit_receive4 s1 s2 k6 ⟨a1, a2⟩ b2 c2 hf2)) j_3 (n_J (fun M => k_Mod_receive4 s2 k6 ⟨a1, a2⟩ b2 c2 hf2)) (JR_mk ((IV_come hI k6 hf2 a2 b2 c2).mono (by omega)) (RC_come hR hO k6 hf2) (by omega) s2' hb hq hV)
    · exact op_no (e := 2) (by omega) (by omega) (w_receive_2 (k_Slit_receive2 k6 h)) j_3 (n_J (fun M => k_Mod_receive2 k6 h)) (JR_mk hI' hR s1 s2 hb hq hH')
  · exact op_no (e := 1) (by omega) (by omega) (w_receive_1 (k_Slit_receive1 h4)) j_3 (n_J (fun M => k_Mod_receive1 h4)) (JR_mk hI' hR s1 s2 hb hq hH')
theorem op_move (hJ : JR m Z) (hm : m + 320 < 2 ^ 20) : Op m Z (x_Law_move [.ref 4, .int v1, .int v2, .ref 104]) (x_Mod_move [.ref 98, .int v1, .int v2]) := by
  obtain ⟨fl, hn, hk, H, bf, rc, u, c1, d1, t, co, od, th, at', ft, tl, u2, ps, tx, td, q, rfl, hI, hR, s1, s2, hb, hq, hH⟩ := hJ
  have hI' := hI.mono (show m ≤ m + 320 by omega)
  have hH' := hH.mono (show m ≤ m + 320 by omega)
  have hO := hI.1
  have h8 := hI.t15
  have s2' := savK_le s2
  have hV := hH'.save hI' hR s1 s2
  have m31 : m < 2 ^ 31 := by omega
  by_cases h : (nI 0 ≤ v1 ∧ v1 ≤ nI 5) ∧ (nI 0 ≤ v2 ∧ v2 ≤ nI 5)
  · obtain ⟨i, rfl, -, i5⟩ := rng (by omega) (by omega) h.1
    obtain ⟨j, rfl, -, j5⟩ := rng (by omega) (by omega) h.2
    have i6 : i < 6 := by omega
    have j6 : j < 6 := by omega
    by_cases e : i = j
    · subst e
      exact op_no (e := 2) (by omega) (by omega) (w_move_2 (k_Slit_move2 i6)) j_3 (n_J (fun M => k_Mod_move2 i6)) (JR_mk hI' hR s1 s2 hb hq hH')
    · have a1 := hO i i6
      have a2 := hO j j6
      by_cases hf : t (16 + i) = 0 ∨ t (16 + j) = 5
      · exact op_no (e := 3) (by omega) (by omega) (w_move_3 (k_Slit_move3 i6 j6 e a1 a2 hf)) j_3 (n_J (fun M => k_Mod_move3 i6 j6 e a1 a2 hf)) (JR_mk hI' hR s1 s2 hb hq hH')
      · have b1 : 0 < t (16 + i) := by omega
        have b2 : t (16 + j) < 5 := by omega
        exact op_ok (w_move_ok (k_Slit_move4 s1 s2 hO hR i6 j6 e b1 b2)) j_3 (n_J (fun M => k_Mod_move4 s2 hO i6 j6 e b1 b2)) (JR_mk (IV_moves hI' i6 j6 e b1 b2) (mv_RC hO hR i6 j6 e b1 b2) (by omega) s2' hb hq hV)
  · exact op_no (e := 1) (by omega) (by omega) (w_move_1 (k_Slit_move1 h)) j_3 (n_J (fun M => k_Mod_move1 h)) (JR_mk hI' hR s1 s2 hb hq hH')
theorem op_dig (hJ : JR m Z) (hm : m + 320 < 2 ^ 20) : Op m Z (x_Law_dig [.ref 4, .int v1, .ref 104]) (x_Mod_dig [.ref 98, .int v1]) := by
  obtain ⟨fl, hn, hk, H, bf, rc, u, c1, d1, t, co, od, th, at', ft, tl, u2, ps, tx, td, q, rfl, hI, hR, s1, s2, hb, hq, hH⟩ := hJ
  have hI' := hI.mono (show m ≤ m + 320 by omega)
  have hH' := hH.mono (show m ≤ m + 320 by omega)
  have hO := hI.1
  have h8 := hI.t15
  have s2' := savK_le s2
  have hV := hH'.save hI' hR s1 s2
  have m31 : m < 2 ^ 31 := by omega
  cases h : placeOf t v1 with
  | none =>
    exact op_no (e := 1) (by omega) (by omega) (w_dig_1 (k_Slit_dig1 hI m31 hR h)) j_3 (n_J (fun M => k_Mod_dig1 hO h)) (JR_mk hI' hR s1 s2 hb hq hH')
  | some p =>
    obtain ⟨p1, p2, p3⟩ := placeOf_lt h
    by_cases hc : t (16 + p / 5) - 1 - p % 5 ≤ roomBut t p
    · obtain ⟨hD, hs⟩ := digs_top hI' p1 p2 hc
      have hD : DK t p (m + 320) (dug t p) := hD
      have hs : dug t p (16 + p / 5) = p % 5 + 1 := hs
      have hR2 : RC (dug t p) (digC co t p (t (16 + p / 5) - 1 - p % 5)) od := digC_RC hR p1 hI.1 p2 hc _ (Nat.le_refl _)
      exact op_ok (w_dig_ok (k_Slit_dig3 s1 s2 hI m31 hR h hc)) j_3 (n_J (fun M => k_Mod_dig3 s2 hO h hc)) (JR_mk hD.1 hR2 (by omega) s2' hb hq hV)
    · exact op_no (e := 2) (by omega) (by omega) (w_dig_2 (k_Slit_dig2 hI m31 hR h hc)) j_3 (n_J (fun M => k_Mod_dig2 hO h hc)) (JR_mk hI' hR s1 s2 hb hq hH')
theorem op_sendAway (hJ : JR m Z) (hm : m + 320 < 2 ^ 20) : Op m Z (x_Law_sendAway [.ref 4, .int v1, .ref 104]) (x_Mod_sendAway [.ref 98, .int v1]) := by
  obtain ⟨fl, hn, hk, H, bf, rc, u, c1, d1, t, co, od, th, at', ft, tl, u2, ps, tx, td, q, rfl, hI, hR, s1, s2, hb, hq, hH⟩ := hJ
  have hI' := hI.mono (show m ≤ m + 320 by omega)
  have hH' := hH.mono (show m ≤ m + 320 by omega)
  have hO := hI.1
  have h8 := hI.t15
  have s2' := savK_le s2
  have hV := hH'.save hI' hR s1 s2
  have m31 : m < 2 ^ 31 := by omega
  cases h : placeOf t v1 with
  | none =>
    exact op_no (e := 1) (by omega) (by omega) (w_sendAway_1 (k_Slit_send1 hI m31 hR h)) j_3 (n_J (fun M => k_Mod_send1 hO h)) (JR_mk hI' hR s1 s2 hb hq hH')
  | some p =>
    obtain ⟨p1, p2, p3⟩ := placeOf_lt h
    by_cases hc : t (16 + p / 5) - 1 - p % 5 ≤ roomBut t p
    · obtain ⟨hD, hs⟩ := digs_top hI' p1 p2 hc
      have hD : DK t p (m + 320) (dug t p) := hD
      have hs : dug t p (16 + p / 5) = p % 5 + 1 := hs
      have hR2 : RC (dug t p) (digC co t p (t (16 + p / 5) - 1 - p % 5)) od := digC_RC hR p1 hI.1 p2 hc _ (Nat.le_refl _)
      exact op_ok (w_sendAway_ok (k_Slit_send3 s1 s2 hI m31 hR h hc)) j_3 (n_J (fun M => k_Mod_send3 s2 hI h hc)) (JR_mk (IV_sent hD.1 p1 hs) (RC_sent hR2 p1 hs) (by omega) s2' hb hq hV)
    · exact op_no (e := 2) (by omega) (by omega) (w_sendAway_2 (k_Slit_send2 hI m31 hR h hc)) j_3 (n_J (fun M => k_Mod_send2 hO h hc)) (JR_mk hI' hR s1 s2 hb hq hH')
theorem op_order (hJ : JR m Z) (hm : m + 320 < 2 ^ 20) : Op m Z (x_Law_order [.ref 4, .int v1, .int v2, .int v3, .int v4, .int v5, .ref 104]) (x_Mod_order [.ref 98, .int v1, .int v2, .int v3, .int v4, .int v5]) := by
  obtain ⟨fl, hn, hk, H, bf, rc, u, c1, d1, t, co, od, th, at', ft, tl, u2, ps, tx, td, q, rfl, hI, hR, s1, s2, hb, hq, hH⟩ := hJ
  have hI' := hI.mono (show m ≤ m + 320 by omega)
  have hH' := hH.mono (show m ≤ m + 320 by omega)
  have hO := hI.1
  have h8 := hI.t15
  have s2' := savK_le s2
  have hV := hH'.save hI' hR s1 s2
  have m31 : m < 2 ^ 31 := by omega
  by_cases h : (nI 0 ≤ v1 ∧ v1 ≤ nI 3) ∧ (nI 0 ≤ v2 ∧ v2 ≤ nI 9) ∧ (nI 2 ≤ v3 ∧ v3 ≤ nI 100) ∧ (nI 1 ≤ v4 ∧ v4 ≤ nI 40) ∧ (nI 1 ≤ v5 ∧ v5 ≤ nI 99)
  · obtain ⟨a, rfl, -, a2⟩ := rng (by omega) (by omega) h.1
    obtain ⟨b, rfl, -, b2⟩ := rng (by omega) (by omega) h.2.1
    obtain ⟨c, rfl, c1', c2⟩ := rng (by omega) (by omega) h.2.2.1
    obtain ⟨d, rfl, d1', d2⟩ := rng (by omega) (by omega) h.2.2.2.1
    obtain ⟨e, rfl, e1, e2⟩ := rng (by omega) (by omega) h.2.2.2.2
    by_cases hf : t 15 = 8
    · exact op_no (e := 2) (by omega) (by omega) (w_order_2 (k_Slit_order2 a2 b2 ⟨c1', c2⟩ ⟨d1', d2⟩ ⟨e1, e2⟩ hf)) j_3 (n_J (fun M => k_Mod_order2 a2 b2 ⟨c1', c2⟩ ⟨d1', d2⟩ ⟨e1, e2⟩ hf)) (JR_mk hI' hR s1 s2 hb hq hH')
    · have hf2 : t 15 < 8 := by omega
      exact op_ok (w_order_ok (k_Slit_order3 s1 s2 a2 b2 ⟨c1', c2⟩ ⟨d1', d2⟩ ⟨e1, e2⟩ hf2)) j_3 (n_J (fun M => k_Mod_order3 s2 a2 b2 ⟨c1', c2⟩ ⟨d1', d2⟩ ⟨e1, e2⟩ hf2)) (JR_mk ((IV_ord hI hf2 a2 b2 ⟨c1', c2⟩ ⟨d1', d2⟩ ⟨e1, e2⟩).mono (by omega)) (RC_ord hR) (by omega) s2' hb hq hV)
  · exact op_no (e := 1) (by omega) (by omega) (w_order_1 (k_Slit_order1 h)) j_3 (n_J (fun M => k_Mod_order1 h)) (JR_mk hI' hR s1 s2 hb hq hH')
theorem op_cancel (hJ : JR m Z) (hm : m + 320 < 2 ^ 20) : Op m Z (x_Law_cancel [.ref 4, .int v1, .ref 104]) (x_Mod_cancel [.ref 98, .int v1]) := by
  obtain ⟨fl, hn, hk, H, bf, rc, u, c1, d1, t, co, od, th, at', ft, tl, u2, ps, tx, td, q, rfl, hI, hR, s1, s2, hb, hq, hH⟩ := hJ
  have hI' := hI.mono (show m ≤ m + 320 by omega)
  have hH' := hH.mono (show m ≤ m + 320 by omega)
  have hO := hI.1
  have h8 := hI.t15
  have s2' := savK_le s2
  have hV := hH'.save hI' hR s1 s2
  have m31 : m < 2 ^ 31 := by omega
  cases h : orderAt t v1 with
  | none =>
    exact op_no (e := 1) (by omega) (by omega) (w_cancel_1 (k_Slit_cancel1 h8 hR h)) j_3 (n_J (fun M => k_Mod_cancel1 h8 h)) (JR_mk hI' hR s1 s2 hb hq hH')
  | some o =>
    obtain ⟨p1, p2⟩ := orderAt_lt h
    exact op_ok (w_cancel_ok (k_Slit_cancel2 s1 s2 h8 hR h)) j_3 (n_J (fun M => k_Mod_cancel2 s2 h8 h)) (JR_mk (goes_IV hI' p1) (RC_drop hR p1) (by omega) s2' hb hq hV)
theorem op_slit (hJ : JR m Z) (hm : m + 320 < 2 ^ 20) : Op m Z (x_Law_slit [.ref 4, .int v1, .int v2, .ref 104]) (x_Mod_slit [.ref 98, .int v1, .int v2]) := by
  obtain ⟨fl, hn, hk, H, bf, rc, u, c1, d1, t, co, od, th, at', ft, tl, u2, ps, tx, td, q, rfl, hI, hR, s1, s2, hb, hq, hH⟩ := hJ
  have hI' := hI.mono (show m ≤ m + 320 by omega)
  have hH' := hH.mono (show m ≤ m + 320 by omega)
  have hO := hI.1
  have h8 := hI.t15
  have s2' := savK_le s2
  have hV := hH'.save hI' hR s1 s2
  have m31 : m < 2 ^ 31 := by omega
  by_cases h : orderAt t v1 = none ∨ placeOf t v2 = none
  · exact op_no (e := 1) (by omega) (by omega) (w_slit_1 (k_Slit_slit1 hI m31 hR h)) j_3 (n_J (fun M => k_Mod_slit1 h8 hO h)) (JR_mk hI' hR s1 s2 hb hq hH')
  · obtain ⟨o, ho⟩ : ∃ o, orderAt t v1 = some o := by
      cases e : orderAt t v1 with
      | none => exact absurd (Or.inl e) h
      | some o => exact ⟨o, rfl⟩
    obtain ⟨p, hp⟩ : ∃ p, placeOf t v2 = some p := by
      cases e : placeOf t v2 with
      | none => exact absurd (Or.inr e) h
      | some p => exact ⟨p, rfl⟩
    obtain ⟨o1, o2⟩ := orderAt_lt ho
    obtain ⟨p1, p2, p3⟩ := placeOf_lt hp
    by_cases hr : reason t o p = 0
    · obtain ⟨co', od', g1, g2⟩ := k_Slit_slit3 (M := mM (oB q) (fM hk fl th at' ft tl) t u2 ps tx td) (nx := 0) (u := u) (c1 := c1) (d1 := d1) (bf := bf) (fl := fl) (rd := rdV rc) (H := H) s1 s2 hI (show m < 2 ^ 20 by omega) hR ho hp hr
      exact op_ok (w_slit_ok g1) j_3 (n_J (fun M => k_Mod_slit3 s2 hI (show m < 2 ^ 20 by omega) ho hp hr)) (JR_mk ((slits_IV hI o1 p1 p2 (reason_0 hr)).mono (by omega)) g2 (by omega) s2' hb hq hV)
    · exact op_no (e := 2) (by omega) (by omega) (w_slit_2 (k_Slit_slit2 hI m31 hR ho hp hr)) j_3 (n_J (fun M => k_Mod_slit2 hI ho hp hr)) (JR_mk hI' hR s1 s2 hb hq hH')
theorem op_whyNot (hJ : JR m Z) (hm : m + 320 < 2 ^ 20) : Op m Z (x_Law_whyNot [.ref 4, .int v1, .int v2, .ref 104]) (x_Mod_whyNot [.ref 98, .int v1, .int v2]) := by
  obtain ⟨fl, hn, hk, H, bf, rc, u, c1, d1, t, co, od, th, at', ft, tl, u2, ps, tx, td, q, rfl, hI, hR, s1, s2, hb, hq, hH⟩ := hJ
  have hI' := hI.mono (show m ≤ m + 320 by omega)
  have hH' := hH.mono (show m ≤ m + 320 by omega)
  have hO := hI.1
  have h8 := hI.t15
  have s2' := savK_le s2
  have hV := hH'.save hI' hR s1 s2
  have m31 : m < 2 ^ 31 := by omega
  by_cases h : orderAt t v1 = none ∨ placeOf t v2 = none
  · exact op_no (e := 1) (by omega) (by omega) (w_whyNot_1 (k_Slit_whyNot1 hI m31 hR h)) j_3 (n_J (fun M => k_Mod_whyNot1 h8 hO h)) (JR_mk hI' hR s1 s2 hb hq hH')
  · obtain ⟨o, ho⟩ : ∃ o, orderAt t v1 = some o := by
      cases e : orderAt t v1 with
      | none => exact absurd (Or.inl e) h
      | some o => exact ⟨o, rfl⟩
    obtain ⟨p, hp⟩ : ∃ p, placeOf t v2 = some p := by
      cases e : placeOf t v2 with
      | none => exact absurd (Or.inr e) h
      | some p => exact ⟨p, rfl⟩
    obtain ⟨o1, o2⟩ := orderAt_lt ho
    obtain ⟨p1, p2, p3⟩ := placeOf_lt hp
    exact op_ok (w_whyNot_ok (k_Slit_whyNot2 hI m31 hR ho hp)) j_3 (n_J (fun M => k_Mod_whyNot2 hI ho hp)) (JR_mk hI' hR s1 s2 hb hq hH')
theorem op_serve (hJ : JR m Z) (hm : m + 320 < 2 ^ 20) : Op m Z (x_Law_serve [.ref 4, .int v1, .ref 104]) (x_Mod_serve [.ref 98, .int v1]) := by
  obtain ⟨fl, hn, hk, H, bf, rc, u, c1, d1, t, co, od, th, at', ft, tl, u2, ps, tx, td, q, rfl, hI, hR, s1, s2, hb, hq, hH⟩ := hJ
  have hI' := hI.mono (show m ≤ m + 320 by omega)
  have hH' := hH.mono (show m ≤ m + 320 by omega)
  have hO := hI.1
  have h8 := hI.t15
  have s2' := savK_le s2
  have hV := hH'.save hI' hR s1 s2
  have m31 : m < 2 ^ 31 := by omega
  cases h : orderAt t v1 with
  | none =>
    exact op_no (e := 1) (by omega) (by omega) (w_serve_1 (k_Slit_serve1 h8 hR h)) j_3 (n_J (fun M => k_Mod_serve1 h8 h)) (JR_mk hI' hR s1 s2 hb hq hH')
  | some o =>
    obtain ⟨p1, p2⟩ := orderAt_lt h
    obtain ⟨co', od', g1, g2⟩ := k_Slit_serve2 (M := mM (oB q) (fM hk fl th at' ft tl) t u2 ps tx td) (nx := 0) (u := u) (c1 := c1) (d1 := d1) (bf := bf) (fl := fl) (rd := rdV rc) (H := H) s1 s2 hI (show m + 40 < 2 ^ 20 by omega) hR h
    exact op_ok (w_serve_ok g1) j_3 (n_J (fun M => k_Mod_serve2 s2 hI (show m + 40 < 2 ^ 20 by omega) h)) (JR_mk ((srv_spec 40 hI (by omega) p1).1.mono (by omega)) g2 (by omega) s2' hb hq hV)
theorem op_set (hJ : JR m Z) (hm : m + 320 < 2 ^ 20) : Op m Z (x_Law_set [.ref 4, .int v1, .int v2, .ref 104]) (x_Mod_set [.ref 98, .int v1, .int v2]) := by
  obtain ⟨fl, hn, hk, H, bf, rc, u, c1, d1, t, co, od, th, at', ft, tl, u2, ps, tx, td, q, rfl, hI, hR, s1, s2, hb, hq, hH⟩ := hJ
  have hI' := hI.mono (show m ≤ m + 320 by omega)
  have hH' := hH.mono (show m ≤ m + 320 by omega)
  have hO := hI.1
  have h8 := hI.t15
  have s2' := savK_le s2
  have hV := hH'.save hI' hR s1 s2
  have m31 : m < 2 ^ 31 := by omega
  by_cases h : nI 0 ≤ v1 ∧ v1 ≤ nI 3
  · obtain ⟨k, rfl, -, k3⟩ := rng (by omega) (by omega) h
    have k4 : k < 4 := by omega
    have hmo : mostS k ≤ 100 := by
      unfold mostS
      split
      · omega
      · split
        · omega
        · split <;> omega
    have hle : leastS k ≤ 1 := by
      unfold leastS
      split <;> omega
    by_cases h2 : nI (leastS k) ≤ v2 ∧ v2 ≤ nI (mostS k)
    · obtain ⟨n, rfl, n1, n2⟩ := rng (by omega) (by omega) h2
      exact op_ok (w_set_ok (k_Slit_set3 s1 s2 (m_lo (by omega)) (m_lo (by omega)) k4 n1 n2)) j_3 (n_J (fun M => k_Mod_set3 s2 k4 n1 n2)) (JR_mk (IV_set hI' k4 n1 n2) (RC_congr (fun x hx => updN_ne (by omega)) hR) (by omega) s2' hb hq hV)
    · exact op_no (e := 2) (by omega) (by omega) (w_set_2 (k_Slit_set2 (m_lo (by omega)) (m_lo (by omega)) k4 h2)) j_3 (n_J (fun M => k_Mod_set2 k4 h2)) (JR_mk hI' hR s1 s2 hb hq hH')
  · exact op_no (e := 1) (by omega) (by omega) (w_set_1 (k_Slit_set1 h)) j_3 (n_J (fun M => k_Mod_set1 h)) (JR_mk hI' hR s1 s2 hb hq hH')
theorem op_append (hJ : JR m Z) (hm : m + 320 < 2 ^ 20) : Op m Z (x_Law_append [.ref 4, .int v1, .ref 104]) (x_Mod_append [.ref 98, .int v1]) := by
  obtain ⟨fl, hn, hk, H, bf, rc, u, c1, d1, t, co, od, th, at', ft, tl, u2, ps, tx, td, q, rfl, hI, hR, s1, s2, hb, hq, hH⟩ := hJ
  have hI' := hI.mono (show m ≤ m + 320 by omega)
  have hH' := hH.mono (show m ≤ m + 320 by omega)
  have hO := hI.1
  have h8 := hI.t15
  have s2' := savK_le s2
  have hV := hH'.save hI' hR s1 s2
  have m31 : m < 2 ^ 31 := by omega
  have hb1 := hb.1
  by_cases h : nI 33 ≤ v1 ∧ v1 ≤ nI 126
  · obtain ⟨l, rfl, l1, l2⟩ := rng (by omega) (by omega) h
    by_cases hf : fl = 60
    · exact op_no (e := 2) (by omega) (by omega) (w_append_2 (k_Slit_append2 l1 l2 hf)) j_3 (n_J (fun M => k_Mod_append2 l1 l2 hf)) (JR_mk hI' hR s1 s2 hb hq hH')
    · have hf2 : fl < 60 := by omega
      have hb2 : bOK (updN tx fl l) (upd bf fl (nI l)) (fl + 1) := by
        refine ⟨by omega, fun i hi => ?_⟩
        by_cases e : i = fl
        · rw [e, upd_at, updN_eq]
          exact ⟨rfl, by omega⟩
        · rw [upd_ne e, updN_ne e]
          exact hb.2 i (by omega)
      exact op_ok (w_append_ok (k_Slit_append3 l1 l2 hf2)) j_3 (n_J (fun M => k_Mod_append3 l1 l2 hf2)) (JR_mk hI' hR s1 s2 hb2 hq hH')
  · exact op_no (e := 1) (by omega) (by omega) (w_append_1 (k_Slit_append1 h)) j_3 (n_J (fun M => k_Mod_append1 h)) (JR_mk hI' hR s1 s2 hb hq hH')
theorem op_receiveAll (hJ : JR m Z) (hm : m + 320 < 2 ^ 20) : Op m Z (x_Law_receiveAll [.ref 4, .ref 104]) (x_Mod_receiveAll [.ref 98]) := by
  obtain ⟨fl, hn, hk, H, bf, rc, u, c1, d1, t, co, od, th, at', ft, tl, u2, ps, tx, td, q, rfl, hI, hR, s1, s2, hb, hq, hH⟩ := hJ
  have hI' := hI.mono (show m ≤ m + 320 by omega)
  have hH' := hH.mono (show m ≤ m + 320 by omega)
  have hO := hI.1
  have h8 := hI.t15
  have s2' := savK_le s2
  have hV := hH'.save hI' hR s1 s2
  have m31 : m < 2 ^ 31 := by omega
  have hb1 := hb.1
  have hq0 : cOK (0, rc.2) := ⟨by dsimp only; omega, hq.2.1, hq.2.2.1, hq.2.2.2.1, hq.2.2.2.2⟩
  have hx : ∀ i, i < fl → tx i < 128 := fun i hi => (hb.2 i hi).2
  by_cases hA : allR tx fl 0 (0, rc.2)
  · obtain ⟨rc', co', g1, g2, g3⟩ := k_Slit_receiveAll2 (M := mM (oB q) (fM hk fl th at' ft tl) t u2 ps tx td) (nx := 0) (u := u) (c1 := c1) (d1 := d1) (H := H) s1 s2 hb hq hO hR hA
    have hA' : (scan tx fl 0 (0, rc.2)).1 = fl ∧ 5 ≤ (scan tx fl 0 (0, rc.2)).2.1 := by
      unfold allR at hA
      rw [Nat.sub_zero] at hA
      exact hA
    have g4 := w_receiveAll_ok g1
    obtain ⟨p', k', td', ft', r1, r2⟩ := k_Mod_receiveAll (M := cW (oB (vp_updL q 0 (nI (recv (scanL tx fl 0 (0, rc.2)) t 0).2).toInt64)) 0 ((hn + 1) % 6) (savK hk) (svH H hn t co od) bf (rdV rc') u c1 d1 (recv (scanL tx fl 0 (0, rc.2)) t 0).1 co' od) (nx := 0) (t := t) (u := u2) (ps := ps) (td := td) (kp := hk) (th := th) (at' := at') (tl := tl) (ft := ft) hb1 hx rc.2 hq0 s2 hO
    have r3 := r2 hA'
    rw [← j_swap, ← j_swap] at r3
    have hI2 := IV_recv (scanL tx fl 0 (0, rc.2)) 0 hI (fun c hc => scanL_ok fl 0 (0, rc.2) hq0 c hc)
    have hlen := scanL_len (tx := tx) fl 0 (0, rc.2)
    exact op_ok g4 j_3 r3 (JR_mk (hI2.mono (by omega)) g3 (by omega) s2' ⟨Nat.zero_le _, fun i hi => absurd hi (Nat.not_lt_zero i)⟩ g2 hV)
  · obtain ⟨rc', g1, g2⟩ := k_Slit_receiveAll1 (M := mM (oB q) (fM hk fl th at' ft tl) t u2 ps tx td) (nx := 0) (t := t) (co := co) (od := od) (u := u) (c1 := c1) (d1 := d1) (hn := hn) (hk := hk) (H := H) hb hq hA
    have hA' : ¬ ((scan tx fl 0 (0, rc.2)).1 = fl ∧ 5 ≤ (scan tx fl 0 (0, rc.2)).2.1) := by
      unfold allR at hA
      rw [Nat.sub_zero] at hA
      exact hA
    have g4 := w_receiveAll_1 g1
    obtain ⟨p', k', td', ft', r1, r2⟩ := k_Mod_receiveAll (M := cW (oB q) fl hn hk H bf (rdV rc') u c1 d1 t co od) (nx := 0) (t := t) (u := u2) (ps := ps) (td := td) (kp := hk) (th := th) (at' := at') (tl := tl) (ft := ft) hb1 hx rc.2 hq0 s2 hO
    have r3 := r1 hA'
    rw [← j_swap, ← j_swap] at r3
    exact op_no (by omega) (by omega) g4 j_3 r3 (JR_mk hI' hR s1 s2 hb g2 hH')
theorem op_undo (hJ : JR m Z) (hm : m + 320 < 2 ^ 20) : Op m Z (x_Law_undo [.ref 4, .ref 104]) (x_Mod_undo [.ref 98]) := by
  obtain ⟨fl, hn, hk, H, bf, rc, u, c1, d1, t, co, od, th, at', ft, tl, u2, ps, tx, td, q, rfl, hI, hR, s1, s2, hb, hq, hH⟩ := hJ
  have hI' := hI.mono (show m ≤ m + 320 by omega)
  have hH' := hH.mono (show m ≤ m + 320 by omega)
  have hO := hI.1
  have h8 := hI.t15
  have s2' := savK_le s2
  have hV := hH'.save hI' hR s1 s2
  have m31 : m < 2 ^ 31 := by omega
  by_cases h : hk = 0
  · exact op_no (e := 1) (by omega) (by omega) (w_undo_1 (k_Slit_undo1 h)) j_3 (n_J (fun M => (k_Mod_undo s2).trans (if_pos h))) (JR_mk hI' hR s1 s2 hb hq hH')
  · have h1 : 1 ≤ hk := by omega
    obtain ⟨l1, l2, l3⟩ := hH'.last (t := t) s1 s2 h1
    have l4 := IV_congr l1 l2
    have l5 := RC_copy (co' := co) (od' := od) l3 l2.t15
    have l6 := RC_congr2 (fun k _ hk' => l1 k hk') l2.t15 l5
    have g1 := w_undo_ok (k_Slit_undo2 (M := mM (oB q) (fM hk fl th at' ft tl) t u2 ps tx td) (nx := 0) (t := t) (u := u) (co := co) (od := od) (c1 := c1) (d1 := d1) (bf := bf) (fl := fl) (rd := rdV rc) (H := H) s1 s2 h1)
    have ey : ∀ B : Hp, cW B fl ((hn + 6 - 1) % 6) (hk - 1) H bf (rdV rc) u c1 d1 (H ((hn + 6 - 1) % 6)).1 (cpC 150 (H ((hn + 6 - 1) % 6)).2.1 co) (cpC 48 (H ((hn + 6 - 1) % 6)).2.2 od) = cW B fl ((hn + 6 - 1) % 6) (hk - 1) H bf (rdV rc) u c1 d1 (ldP t ps (220 * (hk - 1)) 220) (cpC 150 (H ((hn + 6 - 1) % 6)).2.1 co) (cpC 48 (H ((hn + 6 - 1) % 6)).2.2 od) := fun B => yM_congr (fun k hk' => (l1 k (by omega)).symm)
    rw [ey] at g1
    exact op_ok g1 j_3 (n_J (fun M => (k_Mod_undo s2).trans (if_neg h))) (JR_mk l4 l6 (by omega) (by omega) hb hq (hH'.undo s1 s2 h1))
theorem op_at (hJ : JR m Z) (hm : m + 320 < 2 ^ 20) : Op m Z (x_Law_at [.ref 4, .int v1, .int v2, .ref 104]) (x_Mod_at [.ref 98, .int v1, .int v2]) := by
  obtain ⟨fl, hn, hk, H, bf, rc, u, c1, d1, t, co, od, th, at', ft, tl, u2, ps, tx, td, q, rfl, hI, hR, s1, s2, hb, hq, hH⟩ := hJ
  have hI' := hI.mono (show m ≤ m + 320 by omega)
  have hH' := hH.mono (show m ≤ m + 320 by omega)
  have hO := hI.1
  have h8 := hI.t15
  have s2' := savK_le s2
  have hV := hH'.save hI' hR s1 s2
  have m31 : m < 2 ^ 31 := by omega
  by_cases h : nI 0 ≤ v1 ∧ v1 ≤ nI 5
  · obtain ⟨k, rfl, -, k5⟩ := rng (by omega) (by omega) h
    have k6 : k < 6 := by omega
    by_cases h2 : nI 0 ≤ v2 ∧ v2 ≤ nI 4
    · obtain ⟨j, rfl, -, j4⟩ := rng (by omega) (by omega) h2
      exact op_ok (w_at_ok (k_Slit_at3 hR k6 (show j < 5 by omega))) j_3 (n_J (fun M => k_Mod_at3 hO k6 (show j < 5 by omega))) (JR_mk hI' hR s1 s2 hb hq hH')
    · exact op_no (e := 2) (by omega) (by omega) (w_at_2 (k_Slit_at2 k6 h2)) j_3 (n_J (fun M => k_Mod_at2 k6 h2)) (JR_mk hI' hR s1 s2 hb hq hH')
  · exact op_no (e := 1) (by omega) (by omega) (w_at_1 (k_Slit_at1 h)) j_3 (n_J (fun M => k_Mod_at1 h)) (JR_mk hI' hR s1 s2 hb hq hH')
theorem op_coil (hJ : JR m Z) (hm : m + 320 < 2 ^ 20) : Op m Z (x_Law_coil [.ref 4, .int v1, .int v2, .ref 104]) (x_Mod_coil [.ref 98, .int v1, .int v2]) := by
  obtain ⟨fl, hn, hk, H, bf, rc, u, c1, d1, t, co, od, th, at', ft, tl, u2, ps, tx, td, q, rfl, hI, hR, s1, s2, hb, hq, hH⟩ := hJ
  have hI' := hI.mono (show m ≤ m + 320 by omega)
  have hH' := hH.mono (show m ≤ m + 320 by omega)
  have hO := hI.1
  have h8 := hI.t15
  have s2' := savK_le s2
  have hV := hH'.save hI' hR s1 s2
  have m31 : m < 2 ^ 31 := by omega
  have h4 := hI.2.2.2.2.2.1
  have m30 : m < 2 ^ 30 := by omega
  by_cases h : nI 0 ≤ v1 ∧ v1 < nI (t 4)
  · obtain ⟨k, rfl, -, k5⟩ := rng (hi := t 4) (by omega) (by omega) ⟨h.1, Int32.le_of_lt h.2⟩
    have k6 : k < t 4 := (zn_lt (by omega) (by omega)).mp h.2
    by_cases h2 : nI 0 ≤ v2 ∧ v2 ≤ nI 5
    · obtain ⟨j, rfl, -, j4⟩ := rng (by omega) (by omega) h2
      exact op_ok (w_coil_ok (k_Slit_coil3 hI m30 hR k6 (show j < 6 by omega))) j_3 (n_J (fun M => k_Mod_coil3 hI m30 k6 (show j < 6 by omega))) (JR_mk hI' hR s1 s2 hb hq hH')
    · exact op_no (e := 2) (by omega) (by omega) (w_coil_2 (k_Slit_coil2 hI m30 k6 h2)) j_3 (n_J (fun M => k_Mod_coil2 hI m30 k6 h2)) (JR_mk hI' hR s1 s2 hb hq hH')
  · exact op_no (e := 1) (by omega) (by omega) (w_coil_1 (k_Slit_coil1 h)) j_3 (n_J (fun M => k_Mod_coil1 hI m30 h)) (JR_mk hI' hR s1 s2 hb hq hH')
theorem op_orderOf (hJ : JR m Z) (hm : m + 320 < 2 ^ 20) : Op m Z (x_Law_orderOf [.ref 4, .int v1, .int v2, .ref 104]) (x_Mod_orderOf [.ref 98, .int v1, .int v2]) := by
  obtain ⟨fl, hn, hk, H, bf, rc, u, c1, d1, t, co, od, th, at', ft, tl, u2, ps, tx, td, q, rfl, hI, hR, s1, s2, hb, hq, hH⟩ := hJ
  have hI' := hI.mono (show m ≤ m + 320 by omega)
  have hH' := hH.mono (show m ≤ m + 320 by omega)
  have hO := hI.1
  have h8 := hI.t15
  have s2' := savK_le s2
  have hV := hH'.save hI' hR s1 s2
  have m31 : m < 2 ^ 31 := by omega
  by_cases h : v1 < 0 ∨ ¬ (nI 0 ≤ v2 ∧ v2 ≤ nI 7)
  · exact op_no (e := 1) (by omega) (by omega) (w_orderOf_1 (k_Slit_orderOf1 h)) j_3 (n_J (fun M => k_Mod_orderOf1 h)) (JR_mk hI' hR s1 s2 hb hq hH')
  · have h2 : nI 0 ≤ v2 ∧ v2 ≤ nI 7 := Classical.not_not.mp (fun h' => h (.inr h'))
    have h1 : ¬ v1 < 0 := fun h' => h (.inl h')
    obtain ⟨w, rfl, -, w7⟩ := rng (by omega) (by omega) h2
    have w8 : w < 8 := by omega
    obtain ⟨n, rfl, -, n2⟩ := rng (v := v1) (lo := 0) (hi := 2147483647) (by omega) (by omega) ⟨Int32.not_lt.mp h1, Int32.le_iff_toInt_le.mpr (by
      rw [nI_toInt (by omega)]
      have := Int32.toInt_lt v1
      omega)⟩
    by_cases hf : n < t 15
    · exact op_ok (w_orderOf_ok (k_Slit_orderOf2 hI m31 hR hf w8)) j_3 (n_J (fun M => k_Mod_orderOf2 hI hf w8)) (JR_mk hI' hR s1 s2 hb hq hH')
    · exact op_ok (w_orderOf_ok (k_Slit_orderOf3 (show n < 2 ^ 31 by omega) h8 (show t 15 ≤ n by omega) w8)) j_3 (n_J (fun M => k_Mod_orderOf3 (show n < 2 ^ 31 by omega) h8 (show t 15 ≤ n by omega) w8)) (JR_mk hI' hR s1 s2 hb hq hH')
theorem op_count (hJ : JR m Z) (hm : m + 320 < 2 ^ 20) : Op m Z (x_Law_count [.ref 4, .int v1, .ref 104]) (x_Mod_count [.ref 98, .int v1]) := by
  obtain ⟨fl, hn, hk, H, bf, rc, u, c1, d1, t, co, od, th, at', ft, tl, u2, ps, tx, td, q, rfl, hI, hR, s1, s2, hb, hq, hH⟩ := hJ
  have hI' := hI.mono (show m ≤ m + 320 by omega)
  have hH' := hH.mono (show m ≤ m + 320 by omega)
  have hO := hI.1
  have h8 := hI.t15
  have s2' := savK_le s2
  have hV := hH'.save hI' hR s1 s2
  have m31 : m < 2 ^ 31 := by omega
  by_cases h : nI 0 ≤ v1 ∧ v1 ≤ nI 13
  · obtain ⟨w, rfl, -, w7⟩ := rng (by omega) (by omega) h
    have w8 : w < 14 := by omega
    exact op_ok (w_count_ok (k_Slit_count2 hI m31 hR w8)) j_3 (n_J (fun M => k_Mod_count2 hO w8)) (JR_mk hI' hR s1 s2 hb hq hH')
  · exact op_no (e := 1) (by omega) (by omega) (w_count_1 (k_Slit_count1 h)) j_3 (n_J (fun M => k_Mod_count1 h)) (JR_mk hI' hR s1 s2 hb hq hH')
theorem op_setting (hJ : JR m Z) (hm : m + 320 < 2 ^ 20) : Op m Z (x_Law_setting [.ref 4, .int v1, .ref 104]) (x_Mod_setting [.ref 98, .int v1]) := by
  obtain ⟨fl, hn, hk, H, bf, rc, u, c1, d1, t, co, od, th, at', ft, tl, u2, ps, tx, td, q, rfl, hI, hR, s1, s2, hb, hq, hH⟩ := hJ
  have hI' := hI.mono (show m ≤ m + 320 by omega)
  have hH' := hH.mono (show m ≤ m + 320 by omega)
  have hO := hI.1
  have h8 := hI.t15
  have s2' := savK_le s2
  have hV := hH'.save hI' hR s1 s2
  have m31 : m < 2 ^ 31 := by omega
  by_cases h : nI 0 ≤ v1 ∧ v1 ≤ nI 3
  · obtain ⟨w, rfl, -, w7⟩ := rng (by omega) (by omega) h
    have w8 : w < 4 := by omega
    exact op_ok (w_setting_ok (k_Slit_setting2 w8)) j_3 (n_J (fun M => k_Mod_setting2 w8)) (JR_mk hI' hR s1 s2 hb hq hH')
  · exact op_no (e := 1) (by omega) (by omega) (w_setting_1 (k_Slit_setting1 h)) j_3 (n_J (fun M => k_Mod_setting1 h)) (JR_mk hI' hR s1 s2 hb hq hH')
theorem op_choice (hJ : JR m Z) (hm : m + 320 < 2 ^ 20) : Op m Z (x_Law_choice [.ref 4, .int v1, .ref 104]) (x_Mod_choice [.ref 98, .int v1]) := by
  obtain ⟨fl, hn, hk, H, bf, rc, u, c1, d1, t, co, od, th, at', ft, tl, u2, ps, tx, td, q, rfl, hI, hR, s1, s2, hb, hq, hH⟩ := hJ
  have hI' := hI.mono (show m ≤ m + 320 by omega)
  have hH' := hH.mono (show m ≤ m + 320 by omega)
  have hO := hI.1
  have h8 := hI.t15
  have s2' := savK_le s2
  have hV := hH'.save hI' hR s1 s2
  have m31 : m < 2 ^ 31 := by omega
  cases h : orderAt t v1 with
  | none =>
    exact op_no (e := 1) (by omega) (by omega) (w_choice_1 (k_Slit_choice1 h8 hR h)) j_3 (n_J (fun M => k_Mod_choice1 h8 h)) (JR_mk hI' hR s1 s2 hb hq hH')
  | some o =>
    exact op_ok (w_choice_ok (k_Slit_choice2 hI m31 hR h)) j_3 (n_J (fun M => k_Mod_choice2 hI h)) (JR_mk hI' hR s1 s2 hb hq hH')
theorem op_ifServed (hJ : JR m Z) (hm : m + 320 < 2 ^ 20) : Op m Z (x_Law_ifServed [.ref 4, .int v1, .int v2, .int v3, .ref 104]) (x_Mod_ifServed [.ref 98, .int v1, .int v2, .int v3]) := by
  obtain ⟨fl, hn, hk, H, bf, rc, u, c1, d1, t, co, od, th, at', ft, tl, u2, ps, tx, td, q, rfl, hI, hR, s1, s2, hb, hq, hH⟩ := hJ
  have hI' := hI.mono (show m ≤ m + 320 by omega)
  have hH' := hH.mono (show m ≤ m + 320 by omega)
  have hO := hI.1
  have h8 := hI.t15
  have s2' := savK_le s2
  have hV := hH'.save hI' hR s1 s2
  have m31 : m < 2 ^ 31 := by omega
  cases h : orderAt t v1 with
  | none =>
    exact op_no (e := 1) (by omega) (by omega) (w_ifServed_1 (k_Slit_ifServed1 h8 hR h)) j_3 (n_J (fun M => k_Mod_ifServed1 h8 h)) (JR_mk hI' hR s1 s2 hb hq hH')
  | some o =>
    by_cases h' : (nI 0 ≤ v2 ∧ v2 ≤ nI 2) ∧ (nI 0 ≤ v3 ∧ v3 ≤ nI 3)
    · obtain ⟨r, rfl, -, r2⟩ := rng (by omega) (by omega) h'.1
      obtain ⟨w, rfl, -, w3⟩ := rng (by omega) (by omega) h'.2
      have w4 : w < 4 := by omega
      obtain ⟨c2, d2, g1⟩ := k_Slit_ifServed3 (M := mM (oB q) (fM hk fl th at' ft tl) t u2 ps tx td) (nx := 0) (u := u) (c1 := c1) (d1 := d1) (bf := bf) (fl := fl) (hn := hn) (hk := hk) (rd := rdV rc) (H := H) u2 hI (show m + 40 < 2 ^ 20 by omega) hR h r2 w4
      exact op_ok (w_ifServed_ok g1) j_3 (n_J (fun M => k_Mod_ifServed3 hI (show m + 40 < 2 ^ 20 by omega) h r2 w4)) (JR_mk hI' hR s1 s2 hb hq hH')
    · exact op_no (e := 2) (by omega) (by omega) (w_ifServed_2 (k_Slit_ifServed2 h8 hR h h')) j_3 (n_J (fun M => k_Mod_ifServed2 h8 h h')) (JR_mk hI' hR s1 s2 hb hq hH')
theorem on_serveAll (hJ : JR m Z) (hm : m + 320 < 2 ^ 20) : ∃ (b : Int32) (Z1 Z2 : Hp), x_Slit_serveAll [.ref 4] (Z, 0) = some (.inl (some (.int b)), (Z1, 0)) ∧ x_Mod_serveAll [.ref 98] (Z1, 0) = some (.inl (some (.int b)), (Z2, 0)) ∧ JR (m + 320) Z2 := by
  obtain ⟨fl, hn, hk, H, bf, rc, u, c1, d1, t, co, od, th, at', ft, tl, u2, ps, tx, td, q, rfl, hI, hR, s1, s2, hb, hq, hH⟩ := hJ
  have hI' := hI.mono (show m ≤ m + 320 by omega)
  have hH' := hH.mono (show m ≤ m + 320 by omega)
  have hO := hI.1
  have h8 := hI.t15
  have s2' := savK_le s2
  have hV := hH'.save hI' hR s1 s2
  have m20 : m < 2 ^ 20 := by omega
  obtain ⟨co', od', g1, g2⟩ := k_Slit_serveAll (M := mM (oB q) (fM hk fl th at' ft tl) t u2 ps tx td) (nx := 0) (u := u) (c1 := c1) (d1 := d1) (bf := bf) (fl := fl) (rd := rdV rc) (H := H) s1 s2 hI hm hR
  have hI2 : IV (m + 320) (allS t) := srvA_spec 8 hI (by omega) (fun o h => (nxt_lt h).1)
  exact ⟨_, _, _, g1, n_J (fun M => k_Mod_serveAll s2 hI hm), JR_mk hI2 g2 (by omega) s2' hb hq hV⟩
theorem on_clearBuffer (hJ : JR m Z) (hm : m + 320 < 2 ^ 20) : ∃ (b : Int32) (Z1 Z2 : Hp), x_Slit_clearBuffer [.ref 4] (Z, 0) = some (.inl (some (.int b)), (Z1, 0)) ∧ x_Mod_clearBuffer [.ref 98] (Z1, 0) = some (.inl (some (.int b)), (Z2, 0)) ∧ JR (m + 320) Z2 := by
  obtain ⟨fl, hn, hk, H, bf, rc, u, c1, d1, t, co, od, th, at', ft, tl, u2, ps, tx, td, q, rfl, hI, hR, s1, s2, hb, hq, hH⟩ := hJ
  have hI' := hI.mono (show m ≤ m + 320 by omega)
  have hH' := hH.mono (show m ≤ m + 320 by omega)
  have hO := hI.1
  have h8 := hI.t15
  have s2' := savK_le s2
  have hV := hH'.save hI' hR s1 s2
  have m20 : m < 2 ^ 20 := by omega
  exact ⟨_, _, _, k_Slit_clearBuffer hb.1, n_J (fun M => k_Mod_clearBuffer), JR_mk hI' hR s1 s2 ⟨Nat.zero_le _, fun i hi => absurd hi (Nat.not_lt_zero i)⟩ hq hH'⟩
theorem on_firstError (hJ : JR m Z) (hm : m + 320 < 2 ^ 20) : ∃ (b : Int32) (Z1 Z2 : Hp), x_Slit_firstError [.ref 4] (Z, 0) = some (.inl (some (.int b)), (Z1, 0)) ∧ x_Mod_firstError [.ref 98] (Z1, 0) = some (.inl (some (.int b)), (Z2, 0)) ∧ JR (m + 320) Z2 := by
  obtain ⟨fl, hn, hk, H, bf, rc, u, c1, d1, t, co, od, th, at', ft, tl, u2, ps, tx, td, q, rfl, hI, hR, s1, s2, hb, hq, hH⟩ := hJ
  have hI' := hI.mono (show m ≤ m + 320 by omega)
  have hH' := hH.mono (show m ≤ m + 320 by omega)
  have hO := hI.1
  have h8 := hI.t15
  have s2' := savK_le s2
  have hV := hH'.save hI' hR s1 s2
  have m20 : m < 2 ^ 20 := by omega
  have hq0 : cOK (0, rc.2) := ⟨by dsimp only; omega, hq.2.1, hq.2.2.1, hq.2.2.2.1, hq.2.2.2.2⟩
  have hx : ∀ i, i < fl → tx i < 128 := fun i hi => (hb.2 i hi).2
  have g1 := k_Slit_firstError (M := mM (oB q) (fM hk fl th at' ft tl) t u2 ps tx td) (nx := 0) (t := t) (u := u) (co := co) (od := od) (c1 := c1) (d1 := d1) (hn := hn) (hk := hk) (H := H) hb hq
  obtain ⟨p', k', td', ft', r1⟩ := k_Mod_firstError (M := cW (oB q) fl hn hk H bf (rdV (scan tx fl 0 (0, rc.2)).2) u c1 d1 t co od) (nx := 0) (t := t) (u := u2) (ps := ps) (td := td) (kp := hk) (th := th) (at' := at') (tl := tl) (ft := ft) hb.1 hx rc.2
  rw [← j_swap, ← j_swap] at r1
  exact ⟨_, _, _, g1, r1, JR_mk hI' hR s1 s2 hb (cOK_scan fl 0 _ hq0) hH'⟩
theorem on_bestRule (hJ : JR m Z) (hm : m + 320 < 2 ^ 20) : ∃ (b : Int32) (Z1 Z2 : Hp), x_Slit_bestRule [.ref 4] (Z, 0) = some (.inl (some (.int b)), (Z1, 0)) ∧ x_Mod_bestRule [.ref 98] (Z1, 0) = some (.inl (some (.int b)), (Z2, 0)) ∧ JR (m + 320) Z2 := by
  obtain ⟨fl, hn, hk, H, bf, rc, u, c1, d1, t, co, od, th, at', ft, tl, u2, ps, tx, td, q, rfl, hI, hR, s1, s2, hb, hq, hH⟩ := hJ
  have hI' := hI.mono (show m ≤ m + 320 by omega)
  have hH' := hH.mono (show m ≤ m + 320 by omega)
  have hO := hI.1
  have h8 := hI.t15
  have s2' := savK_le s2
  have hV := hH'.save hI' hR s1 s2
  have m20 : m < 2 ^ 20 := by omega
  obtain ⟨c2, d2, g1⟩ := k_Slit_bestRule (M := mM (oB q) (fM hk fl th at' ft tl) t u2 ps tx td) (nx := 0) (u := u) (c1 := c1) (d1 := d1) (bf := bf) (fl := fl) (hn := hn) (hk := hk) (rd := rdV rc) (H := H) u2 hI hm hR
  exact ⟨_, _, _, g1, n_J (fun M => k_Mod_bestRule hI hm), JR_mk hI' hR s1 s2 hb hq hH'⟩
theorem on_bestStack (hJ : JR m Z) (hm : m + 320 < 2 ^ 20) : ∃ (b : Int32) (Z1 Z2 : Hp), x_Slit_bestStack [.ref 4] (Z, 0) = some (.inl (some (.int b)), (Z1, 0)) ∧ x_Mod_bestStack [.ref 98] (Z1, 0) = some (.inl (some (.int b)), (Z2, 0)) ∧ JR (m + 320) Z2 := by
  obtain ⟨fl, hn, hk, H, bf, rc, u, c1, d1, t, co, od, th, at', ft, tl, u2, ps, tx, td, q, rfl, hI, hR, s1, s2, hb, hq, hH⟩ := hJ
  have hI' := hI.mono (show m ≤ m + 320 by omega)
  have hH' := hH.mono (show m ≤ m + 320 by omega)
  have hO := hI.1
  have h8 := hI.t15
  have s2' := savK_le s2
  have hV := hH'.save hI' hR s1 s2
  have m20 : m < 2 ^ 20 := by omega
  exact ⟨_, _, _, k_Slit_bestStack hI hR, n_J (fun M => k_Mod_bestStack hI), JR_mk hI' hR s1 s2 hb hq hH'⟩
theorem on_digest (hJ : JR m Z) (hm : m + 320 < 2 ^ 20) : ∃ (b : Int64) (Z1 Z2 : Hp), x_Slit_digest [.ref 4] (Z, 0) = some (.inl (some (.long b)), (Z1, 0)) ∧ x_Mod_digest [.ref 98] (Z1, 0) = some (.inl (some (.long b)), (Z2, 0)) ∧ JR (m + 320) Z2 := by
  obtain ⟨fl, hn, hk, H, bf, rc, u, c1, d1, t, co, od, th, at', ft, tl, u2, ps, tx, td, q, rfl, hI, hR, s1, s2, hb, hq, hH⟩ := hJ
  have hI' := hI.mono (show m ≤ m + 320 by omega)
  have hH' := hH.mono (show m ≤ m + 320 by omega)
  have hO := hI.1
  have h8 := hI.t15
  have s2' := savK_le s2
  have hV := hH'.save hI' hR s1 s2
  have m20 : m < 2 ^ 20 := by omega
  obtain ⟨u', c1', d1', g1⟩ := k_Slit_digest (M := mM (oB q) (fM hk fl th at' ft tl) t u2 ps tx td) (nx := 0) (u := u) (c1 := c1) (d1 := d1) (hn := hn) (hk := hk) (rd := rdV rc) (H := H) hI hm hR hb
  obtain ⟨u3, r1⟩ := k_Mod_digest (M := cW (oB q) fl hn hk H bf (rdV rc) u' c1' d1' t co od) (nx := 0) (u := u2) (ps := ps) (tx := tx) (td := td) (kp := hk) (th := th) (at' := at') (tl := tl) (ft := ft) hI hm hb.1 (fun a b r o w ho hr hw => byServ_um hI (show m + 40 < 2 ^ 20 by omega) hR a b r o w ho hr hw) (fun a b => bestR_um hI hm hR a b)
  rw [← j_swap, ← j_swap] at r1
  exact ⟨_, _, _, g1, r1, JR_mk hI' hR s1 s2 hb hq hH'⟩
theorem on_used (hJ : JR m Z) (hm : m + 320 < 2 ^ 20) : ∃ (b : UInt64) (Z1 Z2 : Hp), FP.Core.val64 b ≠ .nan ∧ x_Slit_used [.ref 4] (Z, 0) = some (.inl (some (.double b)), (Z1, 0)) ∧ x_Mod_used [.ref 98] (Z1, 0) = some (.inl (some (.double b)), (Z2, 0)) ∧ JR (m + 320) Z2 := by
  obtain ⟨fl, hn, hk, H, bf, rc, u, c1, d1, t, co, od, th, at', ft, tl, u2, ps, tx, td, q, rfl, hI, hR, s1, s2, hb, hq, hH⟩ := hJ
  have hI' := hI.mono (show m ≤ m + 320 by omega)
  have hH' := hH.mono (show m ≤ m + 320 by omega)
  have m20 : m < 2 ^ 20 := by omega
  exact ⟨_, _, _, shr_nan hI m20, k_Slit_used hI m20, n_J (fun M => k_Mod_used hI m20), JR_mk hI' hR s1 s2 hb hq hH'⟩
end
