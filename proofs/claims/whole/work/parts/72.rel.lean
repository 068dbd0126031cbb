/-! ===== the law: what is so of both objects between its calls ===== -/
section
variable {t u u2 ps tx : Nat → Nat} {co od c1 d1 bf : Nat → Int32} {td : Nat → Int32} {m fl hn hk th at' tl : Nat} {ft : Int32} {H : Nat → T3} {rc : Cfg} {q : Nat → Int64}
theorem rng {v : Int32} {lo hi : Nat} (hl : lo < 2 ^ 31) (hh : hi < 2 ^ 31) (h : nI lo ≤ v ∧ v ≤ nI hi) : ∃ n, v = nI n ∧ lo ≤ n ∧ n ≤ hi := by
  have h1 := Int32.le_iff_toInt_le.mp h.1
  have h2 := Int32.le_iff_toInt_le.mp h.2
  rw [nI_toInt hl] at h1
  rw [nI_toInt hh] at h2
  refine ⟨v.toInt.toNat, ?_, by omega, by omega⟩
  apply Int32.toInt_inj.mp
  rw [nI_toInt (by omega)]
  omega
/-- the saved states: the ring, and the row -/
def HR (m hn hk : Nat) (H : Nat → T3) (ps : Nat → Nat) : Prop := ∀ i, i < hk → (∀ k, k < 220 → ps (220 * i + k) = (H ((hn + 6 - hk + i) % 6)).1 k) ∧ IV m (H ((hn + 6 - hk + i) % 6)).1 ∧ RC (H ((hn + 6 - hk + i) % 6)).1 (H ((hn + 6 - hk + i) % 6)).2.1 (H ((hn + 6 - hk + i) % 6)).2.2
theorem HR.mono {m' : Nat} (h : HR m hn hk H ps) (hm : m ≤ m') : HR m' hn hk H ps := fun i hi => ⟨(h i hi).1, (h i hi).2.1.mono hm, (h i hi).2.2⟩
theorem savK_le (h : hk ≤ 6) : savK hk ≤ 6 := by unfold savK; split <;> omega
theorem svH_at : svH H hn t co od hn = (t, cpC 150 co (H hn).2.1, cpC 48 od (H hn).2.2) := if_pos rfl
theorem svH_ne {j : Nat} (h : j ≠ hn) : svH H hn t co od j = H j := if_neg h
theorem HR.save (h : HR m hn hk H ps) (hI : IV m t) (hR : RC t co od) (s1 : hn < 6) (s2 : hk ≤ 6) : HR m ((hn + 1) % 6) (savK hk) (svH H hn t co od) (savP hk ps t) := by
  intro i hi
  by_cases e6 : hk = 6
  · subst e6
    have eK : savK 6 = 6 := rfl
    have eP : savP 6 ps t = cpP (shP ps 1100) t 1100 220 := rfl
    rw [eK] at hi ⊢
    rw [eP]
    by_cases e5 : i = 5
    · subst e5
      have ej : ((hn + 1) % 6 + 6 - 6 + 5) % 6 = hn := by omega
      rw [ej, svH_at]
      refine ⟨fun k hk => ?_, hI, RC_copy hR hI.t15⟩
      unfold cpP
      rw [if_pos (by omega), show 220 * 5 + k - 1100 = k by omega]
    · have ej : ((hn + 1) % 6 + 6 - 6 + i) % 6 = (hn + 6 - 6 + (i + 1)) % 6 := by omega
      rw [ej, svH_ne (by omega)]
      obtain ⟨a1, a2, a3⟩ := h (i + 1) (by omega)
      refine ⟨fun k hk => ?_, a2, a3⟩
      rw [← a1 k hk]
      unfold cpP shP
      rw [if_neg (by omega), if_pos (by omega), show 220 * i + k + 220 = 220 * (i + 1) + k by omega]
  · have eK : savK hk = hk + 1 := if_neg e6
    have eP : savP hk ps t = cpP ps t (220 * hk) 220 := if_neg e6
    rw [eK] at hi ⊢
    rw [eP]
    by_cases e5 : i = hk
    · subst e5
      have ej : ((hn + 1) % 6 + 6 - (i + 1) + i) % 6 = hn := by omega
      rw [ej, svH_at]
      refine ⟨fun k hk => ?_, hI, RC_copy hR hI.t15⟩
      unfold cpP
      rw [if_pos (by omega), show 220 * i + k - 220 * i = k by omega]
    · have ej : ((hn + 1) % 6 + 6 - (hk + 1) + i) % 6 = (hn + 6 - hk + i) % 6 := by omega
      rw [ej, svH_ne (by omega)]
      obtain ⟨a1, a2, a3⟩ := h i (by omega)
      refine ⟨fun k hk' => ?_, a2, a3⟩
      rw [← a1 k hk']
      unfold cpP
      rw [if_neg (by omega)]
theorem HR.undo (h : HR m hn hk H ps) (s1 : hn < 6) (s2 : hk ≤ 6) (h1 : 1 ≤ hk) : HR m ((hn + 6 - 1) % 6) (hk - 1) H ps := by
  intro i hi
  have ej : ((hn + 6 - 1) % 6 + 6 - (hk - 1) + i) % 6 = (hn + 6 - hk + i) % 6 := by omega
  rw [ej]
  exact h i (by omega)
theorem HR.last (h : HR m hn hk H ps) (s1 : hn < 6) (s2 : hk ≤ 6) (h1 : 1 ≤ hk) : (∀ k, k < 220 → ldP t ps (220 * (hk - 1)) 220 k = (H ((hn + 6 - 1) % 6)).1 k) ∧ IV m (H ((hn + 6 - 1) % 6)).1 ∧ RC (H ((hn + 6 - 1) % 6)).1 (H ((hn + 6 - 1) % 6)).2.1 (H ((hn + 6 - 1) % 6)).2.2 := by
  have ej : (hn + 6 - hk + (hk - 1)) % 6 = (hn + 6 - 1) % 6 := by omega
  have h2 := h (hk - 1) (by omega)
  rw [ej] at h2
  refine ⟨fun k hk' => ?_, h2.2⟩
  rw [← h2.1 k hk']
  unfold ldP
  rw [if_pos hk']
/-- between two calls -/
def JR (m : Nat) (Z : Hp) : Prop := ∃ (fl hn hk : Nat) (H : Nat → T3) (bf : Nat → Int32) (rc : Cfg) (u : Nat → Nat) (c1 d1 : Nat → Int32) (t : Nat → Nat) (co od : Nat → Int32) (th at' : Nat) (ft : Int32) (tl : Nat) (u2 ps tx : Nat → Nat) (td : Nat → Int32) (q : Nat → Int64), Z = (cW (mM (oB q) (fM hk fl th at' ft tl) t u2 ps tx td) fl hn hk H bf (rdV rc) u c1 d1 t co od) ∧ IV m t ∧ RC t co od ∧ hn < 6 ∧ hk ≤ 6 ∧ bOK tx bf fl ∧ cOK rc ∧ HR m hn hk H ps
theorem JR_mk (hI : IV m t) (hR : RC t co od) (s1 : hn < 6) (s2 : hk ≤ 6) (hb : bOK tx bf fl) (hq : cOK rc) (hH : HR m hn hk H ps) : JR m (cW (mM (oB q) (fM hk fl th at' ft tl) t u2 ps tx td) fl hn hk H bf (rdV rc) u c1 d1 t co od) :=
  ⟨fl, hn, hk, H, bf, rc, u, c1, d1, t, co, od, th, at', ft, tl, u2, ps, tx, td, q, rfl, hI, hR, s1, s2, hb, hq, hH⟩
/-- a call of both -/
def Op (m : Nat) (Z : Hp) (w md : G → Option (Out × G)) : Prop := ∃ (e : Nat) (b : Int32) (Z1 Z2 : Hp), w (Z, 0) = some (.inl (some (.int (nI e))), (Z1, 0)) ∧ md (Z1, 0) = some (.inl (some (.int b)), (Z2, 0)) ∧ x_Mod_thrown [.ref 98] (Z2, 0) = some (.inl (some (.int (nI e))), (Z2, 0)) ∧ Z1 3 = none ∧ e < 4 ∧ (e = 0 → ∃ q, Z2 104 = some (cJ 1 q) ∧ q 0 = b.toInt64) ∧ JR (m + 320) Z2
theorem op_no {w md : G → Option (Out × G)} {Z Z1 : Hp} {e : Nat} {b : Int32} (h1 : 1 ≤ e) (h2 : e < 4) (hw : w (Z, 0) = some (.inl (some (.int (nI e))), (Z1, 0))) (h3 : Z1 3 = none) (hm : md (Z1, 0) = some (.inl (some (.int b)), ((cW (mM (oB q) (fM hk fl e at' ft tl) t u2 ps tx td) fl hn hk H bf (rdV rc) u c1 d1 t co od), 0))) (hJ : JR (m + 320) (cW (mM (oB q) (fM hk fl e at' ft tl) t u2 ps tx td) fl hn hk H bf (rdV rc) u c1 d1 t co od)) : Op m Z w md :=
  ⟨e, b, Z1, _, hw, hm, n_J (fun M => k_Mod_thrown), h3, h2, fun h => by omega, hJ⟩
theorem op_ok {w md : G → Option (Out × G)} {Z Z1 : Hp} {v : Int32} (hw : w (Z, 0) = some (.inl (some (.int (nI 0))), (Z1, 0))) (h3 : Z1 3 = none) (hm : md (Z1, 0) = some (.inl (some (.int v)), ((cW (mM (oB (vp_updL q 0 v.toInt64)) (fM hk fl 0 at' ft tl) t u2 ps tx td) fl hn hk H bf (rdV rc) u c1 d1 t co od), 0))) (hJ : JR (m + 320) (cW (mM (oB (vp_updL q 0 v.toInt64)) (fM hk fl 0 at' ft tl) t u2 ps tx td) fl hn hk H bf (rdV rc) u c1 d1 t co od)) : Op m Z w md :=
  ⟨0, v, Z1, _, hw, hm, n_J (fun M => k_Mod_thrown), h3, by omega, fun _ => ⟨_, j_104, if_pos rfl⟩, hJ⟩
theorem j_3 {F : List Value} {tm : Nat → Nat} {rd : List Value} : cW (mM (oB q) F tm u2 ps tx td) fl hn hk H bf rd u c1 d1 t co od 3 = none := j_lo (by omega)
end
