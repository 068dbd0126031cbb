/-! ===== shares as doubles ===== -/
theorem zd_fits {c : Nat} {q : Int} (h1 : 2 ^ 52 ≤ c) (h2 : c < 2 ^ 53) (h3 : -1074 ≤ q) (h4 : q ≤ 971) : FP.Core.fits FP.Core.b64 (.fin false c q) := by
  have e1 : FP.Core.Fmt.qmin FP.Core.b64 = -1074 := by decide
  have e2 : FP.Core.Fmt.qmax FP.Core.b64 = 971 := by decide
  exact ⟨h2, by rw [e1]; exact h3, by rw [e2]; exact h4, .inr h1⟩
theorem zd_i2d {a : Nat} (h0 : 0 < a) (ha : a < 2 ^ 31) : FP.Core.val64 (FP.i2d (nI a)) = .fin false (a * 2 ^ (52 - a.log2)) ((a.log2 : Int) - 52) := by
  have e : FP.Core.ofInt ((a : Nat) : Int) = .fin false a 0 := by
    unfold FP.Core.ofInt
    rw [decide_eq_false (by omega), Int.natAbs_natCast]
  have h1 : FP.Core.val64 (FP.i2d (nI a)) = FP.Core.roundRatio FP.Core.b64 false a 1 0 := by
    have h2 := FP.Core.val64_i2d (nI a)
    rw [nI_toInt ha, e] at h2
    exact h2
  rw [h1]
  have l1 : 2 ^ a.log2 ≤ a := Nat.log2_self_le (by omega)
  have l2 : a < 2 ^ (a.log2 + 1) := Nat.lt_log2_self
  have l3 : a.log2 < 31 := (Nat.pow_lt_pow_iff_right (by decide : 1 < 2)).mp (Nat.lt_of_le_of_lt l1 ha)
  generalize a.log2 = L at l1 l2 l3 ⊢
  have p1 : 2 ^ 52 ≤ a * 2 ^ (52 - L) := by
    calc 2 ^ 52 = 2 ^ L * 2 ^ (52 - L) := by rw [← Nat.pow_add, show L + (52 - L) = 52 by omega]
      _ ≤ a * 2 ^ (52 - L) := Nat.mul_le_mul_right _ l1
  have p2 : a * 2 ^ (52 - L) < 2 ^ 53 := by
    calc a * 2 ^ (52 - L) < 2 ^ (L + 1) * 2 ^ (52 - L) := Nat.mul_lt_mul_of_pos_right l2 (Nat.two_pow_pos _)
      _ = 2 ^ 53 := by rw [← Nat.pow_add, show L + 1 + (52 - L) = 53 by omega]
  refine FP.Core.roundRatio_exact FP.Core.good_b64 (by decide) (zd_fits p1 p2 (by omega) (by omega)) ?_
  rw [show (0 - ((L : Int) - 52)).toNat = 52 - L by omega, show ((L : Int) - 52 - 0).toNat = 0 by omega]
  simp only [Nat.pow_zero, Nat.mul_one]
theorem zd_least {a b : Nat} : ∀ k : Nat, b ≤ a * 2 ^ k → ∃ n, n ≤ k ∧ b ≤ a * 2 ^ n ∧ (n = 0 ∨ a * 2 ^ (n - 1) < b)
  | 0, h => ⟨0, Nat.le_refl _, h, .inl rfl⟩
  | k + 1, h => by
    by_cases e : b ≤ a * 2 ^ k
    · obtain ⟨n, h1, h2, h3⟩ := zd_least k e
      exact ⟨n, by omega, h2, h3⟩
    · exact ⟨k + 1, Nat.le_refl _, h, .inr (by rw [Nat.add_sub_cancel]; omega)⟩
/-- a share other than 0 -/
def shV (x : UInt64) (n c : Nat) : Prop := FP.Core.val64 x = .fin false c (-52 - (n : Int)) ∧ 2 ^ 52 ≤ c ∧ c < 2 ^ 53 ∧ n ≤ 28
theorem zd_round {a b : Nat} (h0 : 0 < a) (hab : a ≤ b) (hb : b < 2 ^ 28) : ∃ (n c : Nat), FP.Core.roundRatio FP.Core.b64 false a b 0 = .fin false c (-52 - (n : Int)) ∧ 2 ^ 52 ≤ c ∧ c < 2 ^ 53 ∧ n ≤ 28 := by
  have hk : b ≤ a * 2 ^ 28 := Nat.le_trans (Nat.le_of_lt hb) (Nat.le_mul_of_pos_left _ h0)
  obtain ⟨n, n1, n2, n3⟩ := zd_least 28 hk
  have hB : 0 < b := by omega
  have e1 : FP.Core.Fmt.qmin FP.Core.b64 = -1074 := by decide
  have e2 : FP.Core.Fmt.qmax FP.Core.b64 = 971 := by decide
  have hq : FP.Core.quantum FP.Core.b64 a b 0 = -52 - (n : Int) := by
    refine FP.Core.quantum_eq h0 hB (by rw [e1]; omega) ?_ (.inr ?_)
    · show a * 2 ^ (-(-52 - (n : Int) - 0 + ((53 : Nat) : Int))).toNat < b * 2 ^ (-52 - (n : Int) - 0 + ((53 : Nat) : Int)).toNat
      rcases n3 with rfl | n3
      · rw [show (-(-52 - ((0 : Nat) : Int) - 0 + ((53 : Nat) : Int))).toNat = 0 by omega, show (-52 - ((0 : Nat) : Int) - 0 + ((53 : Nat) : Int)).toNat = 1 by omega]
        omega
      · by_cases en : n = 0
        · subst en
          rw [show (-(-52 - ((0 : Nat) : Int) - 0 + ((53 : Nat) : Int))).toNat = 0 by omega, show (-52 - ((0 : Nat) : Int) - 0 + ((53 : Nat) : Int)).toNat = 1 by omega]
          omega
        · rw [show (-(-52 - (n : Int) - 0 + ((53 : Nat) : Int))).toNat = n - 1 by omega, show (-52 - (n : Int) - 0 + ((53 : Nat) : Int)).toNat = 0 by omega, Nat.pow_zero, Nat.mul_one]
          exact n3
    · show ¬ a * 2 ^ (-(-52 - (n : Int) - 0 + (((53 : Nat) : Int) - 1))).toNat < b * 2 ^ (-52 - (n : Int) - 0 + (((53 : Nat) : Int) - 1)).toNat
      rw [show (-(-52 - (n : Int) - 0 + (((53 : Nat) : Int) - 1))).toNat = n by omega, show (-52 - (n : Int) - 0 + (((53 : Nat) : Int) - 1)).toNat = 0 by omega, Nat.pow_zero, Nat.mul_one]
      omega
  have hr : FP.Core.roundRatio FP.Core.b64 false a b 0 = FP.Core.settle FP.Core.b64 false (FP.Core.nearest (a * 2 ^ (52 + n)) b) (-52 - (n : Int)) := by
    unfold FP.Core.roundRatio
    rw [if_neg (by omega), hq]
    unfold FP.Core.roundAt FP.Core.unitsNum FP.Core.unitsDen
    rw [show (0 - (-52 - (n : Int))).toNat = 52 + n by omega, show (-52 - (n : Int) - 0).toNat = 0 by omega, Nat.pow_zero, Nat.mul_one]
  have c1 : 2 ^ 52 ≤ FP.Core.nearest (a * 2 ^ (52 + n)) b := FP.Core.nearest_ge hB (by
    rw [Nat.pow_add, Nat.mul_left_comm]
    exact Nat.mul_le_mul_left _ n2)
  have t1 : FP.Core.Fmt.tails FP.Core.b64 = 2 ^ 52 := by decide
  have p1 : 2 ^ (FP.Core.Fmt.p FP.Core.b64) = 2 ^ 53 := by decide
  rw [hr]
  unfold FP.Core.settle FP.Core.bound
  rw [p1, t1, e2]
  by_cases hc : FP.Core.nearest (a * 2 ^ (52 + n)) b < 2 ^ 53
  · rw [if_pos hc, if_pos (by omega)]
    exact ⟨n, _, rfl, c1, hc, n1⟩
  · have hn : n ≠ 0 := by
      intro en
      subst en
      have : a = b := by omega
      subst this
      apply hc
      rw [Nat.add_zero, Nat.mul_comm, FP.Core.nearest_exact _ hB]
      decide
    rw [if_neg hc, if_pos (by omega)]
    refine ⟨n - 1, 2 ^ 52, ?_, Nat.le_refl _, by decide, by omega⟩
    rw [show -52 - (n : Int) + 1 = -52 - ((n - 1 : Nat) : Int) by omega]
theorem zd_share {a b : Nat} (h0 : 0 < a) (hab : a ≤ b) (hb : b < 2 ^ 28) : ∃ (n c : Nat), shV (FP.ddiv (FP.i2d (nI a)) (FP.i2d (nI b))) n c := by
  obtain ⟨n, c, h1, h2, h3, h4⟩ := zd_round h0 hab hb
  refine ⟨n, c, ?_, h2, h3, h4⟩
  have e := zd_div (FP.i2d (nI a)) (FP.i2d (nI b))
  rw [zd_i2d h0 (by omega), zd_i2d (show 0 < b by omega) (by omega)] at e
  have hd : b * 2 ^ (52 - b.log2) ≠ 0 := by
    have := Nat.mul_pos (show 0 < b by omega) (Nat.two_pow_pos (52 - b.log2))
    omega
  have e2 : FP.Core.quotient FP.Core.b64 (.fin false (a * 2 ^ (52 - a.log2)) ((a.log2 : Int) - 52)) (.fin false (b * 2 ^ (52 - b.log2)) ((b.log2 : Int) - 52)) = FP.Core.roundRatio FP.Core.b64 false (a * 2 ^ (52 - a.log2)) (b * 2 ^ (52 - b.log2)) ((a.log2 : Int) - 52 - ((b.log2 : Int) - 52)) := by
    unfold FP.Core.quotient
    dsimp only
    rw [if_neg hd]
    rfl
  rw [e2] at e
  show FP.Core.val64 (FP.Core.ddiv (FP.i2d (nI a)) (FP.i2d (nI b))) = _
  rw [e, ← h1]
  have la : a.log2 < 31 := (Nat.pow_lt_pow_iff_right (by decide : 1 < 2)).mp (Nat.lt_of_le_of_lt (Nat.log2_self_le (by omega : a ≠ 0)) (show a < 2 ^ 31 by omega))
  have lb : b.log2 < 31 := (Nat.pow_lt_pow_iff_right (by decide : 1 < 2)).mp (Nat.lt_of_le_of_lt (Nat.log2_self_le (by omega : b ≠ 0)) (show b < 2 ^ 31 by omega))
  generalize a.log2 = L at la ⊢
  generalize b.log2 = K at lb ⊢
  refine FP.Core.roundRatio_congr (Nat.mul_pos (by omega) (Nat.two_pow_pos _)) (by omega) ?_
  have x1 : 2 ^ (52 - L) * 2 ^ ((L : Int) - 52 - ((K : Int) - 52) - 0).toNat = 2 ^ (52 - K) * 2 ^ (0 - ((L : Int) - 52 - ((K : Int) - 52))).toNat := by
    rw [← Nat.pow_add, ← Nat.pow_add]
    congr 1
    omega
  calc a * 2 ^ (52 - L) * b * 2 ^ ((L : Int) - 52 - ((K : Int) - 52) - 0).toNat = a * b * (2 ^ (52 - L) * 2 ^ ((L : Int) - 52 - ((K : Int) - 52) - 0).toNat) := by ac_rfl
    _ = a * b * (2 ^ (52 - K) * 2 ^ (0 - ((L : Int) - 52 - ((K : Int) - 52))).toNat) := by rw [x1]
    _ = a * (b * 2 ^ (52 - K)) * 2 ^ (0 - ((L : Int) - 52 - ((K : Int) - 52))).toNat := by ac_rfl
theorem zd_one : shV FP.dconst1 0 (2 ^ 52) := ⟨FP.Core.val64_dconst1, Nat.le_refl _, by decide, by decide⟩
theorem zd_none {b : Nat} (h0 : 0 < b) (hb : b < 2 ^ 31) : FP.ddiv (FP.i2d (nI 0)) (FP.i2d (nI b)) = 0 := by
  have e := zd_div (FP.i2d (nI 0)) (FP.i2d (nI b))
  have z0 : FP.Core.val64 (FP.i2d (nI 0)) = .fin false 0 (-1074) := by decide +kernel
  have z1 : FP.Core.val64 0 = .fin false 0 (-1074) := by decide +kernel
  rw [z0, zd_i2d h0 hb] at e
  have hd : b * 2 ^ (52 - b.log2) ≠ 0 := by
    have := Nat.mul_pos h0 (Nat.two_pow_pos (52 - b.log2))
    omega
  have e2 : FP.Core.quotient FP.Core.b64 (.fin false 0 (-1074)) (.fin false (b * 2 ^ (52 - b.log2)) ((b.log2 : Int) - 52)) = .fin false 0 (-1074) := by
    unfold FP.Core.quotient
    dsimp only
    rw [if_neg hd]
    unfold FP.Core.roundRatio
    rw [if_pos rfl]
    rfl
  rw [e2] at e
  refine FP.Core.val64_inj ?_ (e.trans z1.symm)
  rw [e]
  intro h
  cases h
theorem zd_dbl {x : UInt64} {c : Nat} {q : Int} (h : FP.Core.val64 x = .fin false c q) (h1 : 2 ^ 52 ≤ c) (h2 : c < 2 ^ 53) (h3 : -1074 ≤ q) (h4 : q ≤ 970) : FP.Core.val64 (FP.dmul x 4611686018427387904) = .fin false c (q + 1) := by
  have e := FP.Core.val64_dmul x 4611686018427387904
  have z : FP.Core.val64 4611686018427387904 = .fin false (2 ^ 52) (-51) := by decide +kernel
  rw [h, z] at e
  refine e.trans ?_
  show FP.Core.roundRatio FP.Core.b64 false (c * 2 ^ 52) 1 (q + -51) = _
  refine FP.Core.roundRatio_exact FP.Core.good_b64 (by decide) (zd_fits h1 h2 (by omega) (by omega)) ?_
  rw [show (q + -51 - (q + 1)).toNat = 0 by omega, show (q + 1 - (q + -51)).toNat = 52 by omega, Nat.pow_zero, Nat.mul_one, Nat.mul_one]
theorem zd_ok {x : UInt64} {c : Nat} {q : Int} (h : FP.Core.val64 x = .fin false c q) : x &&& 0x7fffffffffffffff ≤ 0x7ff0000000000000 := by
  have hn : FP.Core.val64 x ≠ .nan := by rw [h]; intro h; cases h
  have hf := FP.Core.val64_fits x
  rw [h] at hf
  have e := FP.Core.of64_val64 hn
  rw [h] at e
  have hlt := FP.Core.encode_lt FP.Core.good_b64 (.fin false c q) hf
  rw [FP.Core.size_b64] at hlt
  have ex : x.toNat = FP.Core.encode FP.Core.b64 (.fin false c q) := by
    rw [← e]
    unfold FP.Core.of64
    rw [UInt64.toNat_ofNat_of_lt' (by simpa using hlt)]
  have t1 : FP.Core.Fmt.tails FP.Core.b64 = 4503599627370496 := by decide
  have p1 : 2 ^ (FP.Core.Fmt.p FP.Core.b64) = 9007199254740992 := by decide
  have qm : FP.Core.Fmt.qmin FP.Core.b64 = -1074 := by decide
  have qM : FP.Core.Fmt.qmax FP.Core.b64 = 971 := by decide
  obtain ⟨f1, f2, f3, f4⟩ := hf
  rw [p1] at f1
  rw [qm] at f2
  rw [qM] at f3
  have hle : FP.Core.encode FP.Core.b64 (.fin false c q) ≤ 9218868437227405312 := by
    show (if c < FP.Core.Fmt.tails FP.Core.b64 then FP.Core.assemble FP.Core.b64 false 0 c else FP.Core.assemble FP.Core.b64 false ((q - FP.Core.Fmt.qmin FP.Core.b64).toNat + 1) (c - FP.Core.Fmt.tails FP.Core.b64)) ≤ _
    rw [t1, qm]
    unfold FP.Core.assemble
    rw [t1]
    have z : false.toNat = 0 := rfl
    rw [z, Nat.zero_mul]
    split
    · omega
    · omega
  rw [UInt64.le_iff_toNat_le, UInt64.toNat_and, ex]
  exact Nat.le_trans Nat.and_le_left hle
theorem zd_lt1 {x : UInt64} {c : Nat} {q : Int} (h : FP.Core.val64 x = .fin false c q) (h2 : c < 2 ^ 53) (hq : q ≤ -53) : FP.dcmp x FP.dconst1 = some .lt := by
  show FP.Core.order (FP.Core.val64 x) (FP.Core.val64 FP.dconst1) = _
  have z : FP.Core.val64 FP.dconst1 = .fin false (2 ^ 52) (-52) := FP.Core.val64_dconst1
  rw [h, z]
  show some (compare (FP.Core.signed false (FP.Core.inUnits c q (min q (-52)))) (FP.Core.signed false (FP.Core.inUnits (2 ^ 52) (-52) (min q (-52))))) = _
  congr 1
  have e : min q (-52) = q := by omega
  rw [e]
  show compare ((c * 2 ^ (q - q).toNat : Nat) : Int) ((2 ^ 52 * 2 ^ (-52 - q).toNat : Nat) : Int) = .lt
  rw [show (q - q).toNat = 0 by omega, Nat.pow_zero, Nat.mul_one]
  have : 2 ^ 1 ≤ 2 ^ (-52 - q).toNat := Nat.pow_le_pow_right (by decide) (by omega)
  have h3 : 2 ^ 52 * 2 ^ 1 ≤ 2 ^ 52 * 2 ^ (-52 - q).toNat := Nat.mul_le_mul_left _ this
  rw [FP.Core.compare_ite, if_pos (by omega)]
theorem zd_ge1 {x : UInt64} {c : Nat} (h : FP.Core.val64 x = .fin false c (-52)) (h1 : 2 ^ 52 ≤ c) : FP.dcmp x FP.dconst1 = some .gt ∨ FP.dcmp x FP.dconst1 = some .eq := by
  have e : FP.dcmp x FP.dconst1 = some (compare (c : Int) ((2 ^ 52 : Nat) : Int)) := by
    show FP.Core.order (FP.Core.val64 x) (FP.Core.val64 FP.dconst1) = _
    have z : FP.Core.val64 FP.dconst1 = .fin false (2 ^ 52) (-52) := FP.Core.val64_dconst1
    rw [h, z]
    show some (compare ((c * 2 ^ 0 : Nat) : Int) ((2 ^ 52 * 2 ^ 0 : Nat) : Int)) = _
    rw [Nat.pow_zero, Nat.mul_one, Nat.mul_one]
  rw [e]
  by_cases hc : c = 2 ^ 52
  · right
    rw [FP.Core.compare_ite, if_neg (by omega), if_pos (by omega)]
  · left
    rw [FP.Core.compare_ite, if_neg (by omega), if_neg (by omega)]
theorem zd_gt0 {x : UInt64} {c : Nat} {q : Int} (h : FP.Core.val64 x = .fin false c q) (h1 : 0 < c) : FP.dcmp x FP.dconst0 = some .gt := by
  show FP.Core.order (FP.Core.val64 x) (FP.Core.val64 FP.dconst0) = _
  have z : FP.Core.val64 FP.dconst0 = .fin false 0 (FP.Core.Fmt.qmin FP.Core.b64) := FP.Core.val64_dconst0
  rw [h, z]
  show some (compare ((c * 2 ^ (q - min q (FP.Core.Fmt.qmin FP.Core.b64)).toNat : Nat) : Int) ((0 * 2 ^ (FP.Core.Fmt.qmin FP.Core.b64 - min q (FP.Core.Fmt.qmin FP.Core.b64)).toNat : Nat) : Int)) = _
  congr 1
  have := Nat.mul_pos h1 (Nat.two_pow_pos (q - min q (FP.Core.Fmt.qmin FP.Core.b64)).toNat)
  rw [Nat.zero_mul, FP.Core.compare_ite, if_neg (by omega), if_neg (by omega)]
/-- what is above 1, in units of the last digit -/
theorem zd_frac {x : UInt64} {c : Nat} (h : FP.Core.val64 x = .fin false c (-52)) (h1 : 2 ^ 52 ≤ c) (h2 : c < 2 ^ 53) : ∃ c1 q1, FP.Core.val64 (FP.dsub x FP.dconst1) = .fin false c1 q1 ∧ ∃ c2 q2, FP.Core.val64 (FP.dmul (FP.dsub x FP.dconst1) 4841369599423283200) = .fin false c2 q2 ∧ FP.d2l (FP.dmul (FP.dsub x FP.dconst1) 4841369599423283200) = Int64.ofInt ((c - 2 ^ 52 : Nat) : Int) := by
  have e := FP.Core.val64_dsub x FP.dconst1
  have z : FP.Core.val64 FP.dconst1 = .fin false (2 ^ 52) (-52) := FP.Core.val64_dconst1
  have zM : FP.Core.val64 4841369599423283200 = .fin false (2 ^ 52) 0 := by decide +kernel
  rw [h, z] at e
  have es : FP.Core.exactSum (.fin false c (-52)) (FP.Core.negate (.fin false (2 ^ 52) (-52))) = .fin false (c - 2 ^ 52) (-52) := by
    show FP.Core.Datum.fin (FP.Core.sumSign false true (FP.Core.sumUnits false c (-52) true (2 ^ 52) (-52) (min (-52) (-52)))) (FP.Core.sumUnits false c (-52) true (2 ^ 52) (-52) (min (-52) (-52))).natAbs (min (-52) (-52)) = _
    have eu : FP.Core.sumUnits false c (-52) true (2 ^ 52) (-52) (min (-52) (-52)) = ((c - 2 ^ 52 : Nat) : Int) := by
      show ((c * 2 ^ 0 : Nat) : Int) + -((2 ^ 52 * 2 ^ 0 : Nat) : Int) = _
      omega
    rw [eu]
    have e1 : FP.Core.sumSign false true ((c - 2 ^ 52 : Nat) : Int) = false := by
      unfold FP.Core.sumSign
      split
      · rfl
      · exact decide_eq_false (by omega)
    rw [e1, Int.natAbs_natCast]
    rfl
  rw [es] at e
  generalize hk : c - 2 ^ 52 = k at e
  have hk2 : k < 2 ^ 52 := by omega
  have e' : FP.Core.val64 (FP.dsub x FP.dconst1) = FP.Core.roundRatio FP.Core.b64 false k 1 (-52) := e
  have em := FP.Core.val64_dmul (FP.dsub x FP.dconst1) 4841369599423283200
  have qm : FP.Core.Fmt.qmin FP.Core.b64 = -1074 := by decide
  have d2l : ∀ y c2 q2, FP.Core.val64 y = .fin false c2 q2 → c2 * 2 ^ q2.toNat / 2 ^ (-q2).toNat = k → FP.d2l y = Int64.ofInt ((k : Nat) : Int) := by
    intro y c2 q2 hy ht
    show Int64.ofInt (FP.Core.toInt (-2 ^ 63) (2 ^ 63 - 1) (FP.Core.val64 y)) = _
    rw [hy]
    show Int64.ofInt (max (-2 ^ 63) (min (2 ^ 63 - 1) ((c2 * 2 ^ q2.toNat / 2 ^ (-q2).toNat : Nat) : Int))) = _
    rw [ht]
    exact congrArg Int64.ofInt (by omega)
  by_cases k0 : k = 0
  · subst k0
    have e2 : FP.Core.val64 (FP.dsub x FP.dconst1) = .fin false 0 (-1074) := by
      rw [e']
      unfold FP.Core.roundRatio
      rw [if_pos rfl, qm]
    rw [e2, zM] at em
    have e3 : FP.Core.val64 (FP.dmul (FP.dsub x FP.dconst1) 4841369599423283200) = .fin false 0 (-1074) := by
      refine em.trans ?_
      show FP.Core.roundRatio FP.Core.b64 false (0 * 2 ^ 52) 1 (-1074 + 0) = _
      unfold FP.Core.roundRatio
      rw [if_pos (Nat.zero_mul _), qm]
    exact ⟨_, _, e2, _, _, e3, d2l _ _ _ e3 (by rw [Nat.zero_mul, Nat.zero_div])⟩
  · have l1 : 2 ^ k.log2 ≤ k := Nat.log2_self_le k0
    have l2 : k < 2 ^ (k.log2 + 1) := Nat.lt_log2_self
    have l3 : k.log2 < 52 := (Nat.pow_lt_pow_iff_right (by decide : 1 < 2)).mp (Nat.lt_of_le_of_lt l1 hk2)
    generalize k.log2 = L at l1 l2 l3
    have p1 : 2 ^ 52 ≤ k * 2 ^ (52 - L) := by
      calc 2 ^ 52 = 2 ^ L * 2 ^ (52 - L) := by rw [← Nat.pow_add, show L + (52 - L) = 52 by omega]
        _ ≤ k * 2 ^ (52 - L) := Nat.mul_le_mul_right _ l1
    have p2 : k * 2 ^ (52 - L) < 2 ^ 53 := by
      calc k * 2 ^ (52 - L) < 2 ^ (L + 1) * 2 ^ (52 - L) := Nat.mul_lt_mul_of_pos_right l2 (Nat.two_pow_pos _)
        _ = 2 ^ 53 := by rw [← Nat.pow_add, show L + 1 + (52 - L) = 53 by omega]
    have e2 : FP.Core.val64 (FP.dsub x FP.dconst1) = .fin false (k * 2 ^ (52 - L)) ((L : Int) - 104) := by
      rw [e']
      refine FP.Core.roundRatio_exact FP.Core.good_b64 (by decide) (zd_fits p1 p2 (by omega) (by omega)) ?_
      rw [show (-52 - ((L : Int) - 104)).toNat = 52 - L by omega, show ((L : Int) - 104 - -52).toNat = 0 by omega]
      simp only [Nat.pow_zero, Nat.mul_one]
    rw [e2, zM] at em
    have e3 : FP.Core.val64 (FP.dmul (FP.dsub x FP.dconst1) 4841369599423283200) = .fin false (k * 2 ^ (52 - L)) ((L : Int) - 52) := by
      refine em.trans ?_
      show FP.Core.roundRatio FP.Core.b64 false (k * 2 ^ (52 - L) * 2 ^ 52) 1 ((L : Int) - 104 + 0) = _
      refine FP.Core.roundRatio_exact FP.Core.good_b64 (by decide) (zd_fits p1 p2 (by omega) (by omega)) ?_
      rw [show ((L : Int) - 104 + 0 - ((L : Int) - 52)).toNat = 0 by omega, show ((L : Int) - 52 - ((L : Int) - 104 + 0)).toNat = 52 by omega]
      simp only [Nat.pow_zero, Nat.mul_one]
    refine ⟨_, _, e2, _, _, e3, d2l _ _ _ e3 ?_⟩
    rw [show ((L : Int) - 52).toNat = 0 by omega, show (-((L : Int) - 52)).toNat = 52 - L by omega, Nat.pow_zero, Nat.mul_one, Nat.mul_div_cancel _ (Nat.two_pow_pos _)]
/-- the bits of a share -/
theorem zd_bits {x : UInt64} {n c : Nat} (h : shV x n c) : x.toInt64 = Int64.ofNat ((1023 - n) * 2 ^ 52) + Int64.ofInt ((c - 2 ^ 52 : Nat) : Int) := by
  obtain ⟨h1, h2, h3, h4⟩ := h
  have hn : FP.Core.val64 x ≠ .nan := by rw [h1]; intro h; cases h
  have e := FP.Core.of64_val64 hn
  rw [h1] at e
  have t1 : FP.Core.Fmt.tails FP.Core.b64 = 2 ^ 52 := by decide
  have qm : FP.Core.Fmt.qmin FP.Core.b64 = -1074 := by decide
  have ee : FP.Core.encode FP.Core.b64 (.fin false c (-52 - (n : Int))) = (1023 - n) * 2 ^ 52 + (c - 2 ^ 52) := by
    show (if c < FP.Core.Fmt.tails FP.Core.b64 then FP.Core.assemble FP.Core.b64 false 0 c else FP.Core.assemble FP.Core.b64 false ((-52 - (n : Int) - FP.Core.Fmt.qmin FP.Core.b64).toNat + 1) (c - FP.Core.Fmt.tails FP.Core.b64)) = _
    rw [t1, qm, if_neg (by omega)]
    unfold FP.Core.assemble
    rw [t1, show (-52 - (n : Int) - -1074).toNat + 1 = 1023 - n by omega]
    show (0 * FP.Core.Fmt.exps FP.Core.b64 + (1023 - n)) * 2 ^ 52 + (c - 2 ^ 52) = _
    rw [Nat.zero_mul, Nat.zero_add]
  have g1 : ∀ a : Nat, (UInt64.ofNat a).toInt64 = Int64.ofNat a := fun a => rfl
  rw [← e]
  unfold FP.Core.of64
  rw [ee, g1, Int64.ofNat_add, Int64.ofInt_eq_ofNat]
