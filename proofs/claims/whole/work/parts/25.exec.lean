/-! ===== how instructions run: rewriting rules ===== -/
section
variable {E : Env} {r is : List Instr} {L : List (Option Value)} {S : List Value} {g : G} {x y : Int32} {A B : Nat} {M : Hp} {nx : Nat} {a b c d e f' g' h' i' j' : Option Value} {u v : Value} {vs : List Value} {ob : List Value}
/-- what is written into cells of small numbers -/
def updN (t : Nat → Nat) (k n : Nat) : Nat → Nat := fun j => if j = k then n else t j
/-- the picture with the reference's cells at A -/
def sM (M : Hp) (A : Nat) (t : Nat → Nat) : Hp := zup M A (cI 220 (fun k => nI (t k)))
theorem zup_eq {k : Nat} {c : Cel} : zup M k c k = some c := if_pos rfl
theorem zup_ne {k j : Nat} {c : Cel} (h : j ≠ k) : zup M k c j = M j := if_neg h
theorem zup_zup {k : Nat} {c c' : Cel} : zup (zup M k c) k c' = zup M k c' := by
  funext j; unfold zup; split <;> rfl
theorem zup_same {k : Nat} {c : Cel} (h : M k = some c) : zup M k c = M := by
  funext j; unfold zup; split
  · rename_i e; rw [e, h]
  · rfl
theorem zup_comm {k j : Nat} {c c' : Cel} (h : k ≠ j) : zup (zup M k c) j c' = zup (zup M j c') k c := by
  funext q; unfold zup; split
  · split
    · omega
    · rfl
  · rfl
theorem upd_nI {t : Nat → Nat} {k n : Nat} : upd (fun q => nI (t q)) k (nI n) = fun q => nI (updN t k n q) := by
  funext q; unfold upd updN; split <;> rfl
theorem updN_eq {t : Nat → Nat} {k n : Nat} : updN t k n k = n := if_pos rfl
theorem updN_ne {t : Nat → Nat} {k j n : Nat} (h : j ≠ k) : updN t k n j = t j := if_neg h
theorem zix_n {i n : Nat} (h : i < n) (hn : n < 2 ^ 31) : zix (nI i) n = some i := by
  unfold zix
  rw [nI_toInt (by omega)]
  rw [if_pos ⟨by omega, by omega⟩]
  rfl
/-! values -/
theorem zn_lt {a b : Nat} (ha : a < 2 ^ 31) (hb : b < 2 ^ 31) : (nI a < nI b) = (a < b) := propext (nI_ltI ha hb)
theorem zn_le {a b : Nat} (ha : a < 2 ^ 31) (hb : b < 2 ^ 31) : (nI a ≤ nI b) = (a ≤ b) := propext (nI_leI ha hb)
theorem zn_eq {a b : Nat} (ha : a < 2 ^ 31) (hb : b < 2 ^ 31) : (nI a = nI b) = (a = b) := propext (nI_eq ha hb)
theorem zn_e0 {a : Nat} (ha : a < 2 ^ 31) : (nI a = 0) = (a = 0) := zn_eq ha (b := 0) (by decide)
theorem zn_l0 {a : Nat} (ha : a < 2 ^ 31) : (nI a < 0) = False := by
  have := zn_lt ha (b := 0) (by decide)
  rw [show nI 0 = 0 from rfl] at this
  rw [this]; exact propext ⟨fun h => by omega, False.elim⟩
theorem zn_g0 {a : Nat} (ha : a < 2 ^ 31) : ((0 : Int32) < nI a) = (0 < a) := zn_lt (a := 0) (by decide) ha
theorem zn_le0 {a : Nat} (ha : a < 2 ^ 31) : (nI a ≤ 0) = (a = 0) := by
  have := zn_le ha (b := 0) (by decide)
  rw [show nI 0 = 0 from rfl] at this
  rw [this]; exact propext ⟨fun h => by omega, fun h => by omega⟩
theorem zn_ge0 {a : Nat} (ha : a < 2 ^ 31) : ((0 : Int32) ≤ nI a) = True := by
  have := zn_le (a := 0) (by decide) ha
  rw [show nI 0 = 0 from rfl] at this
  rw [this]; exact propext ⟨fun _ => trivial, fun _ => Nat.zero_le _⟩
theorem zn_m1 {a : Nat} (ha : a < 2 ^ 31) : (nI a = -1) = False := by
  refine propext ⟨fun h => ?_, False.elim⟩
  have h2 := congrArg Int32.toInt h
  rw [nI_toInt ha] at h2
  have h3 : (-1 : Int32).toInt = -1 := by decide
  rw [h3] at h2
  omega
theorem zn_m1' {a : Nat} (ha : a < 2 ^ 31) : ((-1 : Int32) = nI a) = False := by
  exact propext ⟨fun h => (zn_m1 ha).mp h.symm, False.elim⟩
theorem zn_m1m : ((-1 : Int32) = -1) = True := eq_self _
theorem zn_sg0 {a b : Nat} (ha : a < 2 ^ 30) (hb : b < 2 ^ 30) : ((0 : Int32) < nI a - nI b) = (b < a) := by
  have h1 := pk_sub_toInt ha hb
  refine propext ⟨fun h => ?_, fun h => ?_⟩
  · have := Int32.lt_iff_toInt_lt.mp h
    rw [h1, show (0 : Int32).toInt = 0 from rfl] at this
    omega
  · apply Int32.lt_iff_toInt_lt.mpr
    rw [h1, show (0 : Int32).toInt = 0 from rfl]
    omega
theorem zn_se0 {a b : Nat} (ha : a < 2 ^ 30) (hb : b < 2 ^ 30) : (nI a - nI b = 0) = (a = b) := by
  have h1 := pk_sub_toInt ha hb
  refine propext ⟨fun h => ?_, fun h => ?_⟩
  · rw [h, show (0 : Int32).toInt = 0 from rfl] at h1
    omega
  · rw [h]; exact Int32.sub_self _
theorem zn_sub {a b : Nat} (h : b ≤ a) : nI a - nI b = nI (a - b) := pk_sub h
theorem zn_addm {a : Nat} (h : 1 ≤ a) : nI a + -1 = nI (a - 1) := by
  obtain ⟨k, rfl⟩ : ∃ k, a = k + 1 := ⟨a - 1, by omega⟩
  rw [Nat.add_sub_cancel, ← nI_1]
  rw [Int32.add_assoc, show (1 : Int32) + -1 = 0 from by decide, Int32.add_zero]
theorem zn_div {a d : Nat} (h0 : 0 < d) (ha : a < 2 ^ 31) (hd : d < 2 ^ 31) : nI a / nI d = nI (a / d) := pk_div ha h0 hd
theorem zn_rem {a d : Nat} (h0 : 0 < d) (ha : a < 2 ^ 31) (hd : d < 2 ^ 31) : nI a - nI a / nI d * nI d = nI (a % d) := by
  rw [zn_div h0 ha hd, pk_mul, zn_sub (Nat.div_mul_le_self a d)]
  congr 1
  have := Nat.div_add_mod a d
  rw [Nat.mul_comm] at this
  omega
/-- a place, or -1 -/
def eo (o : Option Nat) : Int32 := match o with
  | none => -1
  | some p => nI p
theorem eo_none : eo none = -1 := rfl
theorem eo_some {p : Nat} : eo (some p) = nI p := rfl
theorem eo_m1 {o : Option Nat} (h : ∀ p, o = some p → p < 2 ^ 31) : (eo o = -1) = (o = none) := by
  cases o with
  | none => exact propext ⟨fun _ => rfl, fun _ => rfl⟩
  | some p => exact (zn_m1 (h p rfl)).trans (propext ⟨False.elim, fun h => by cases h⟩)
/-! branches that come together -/
theorem mg_nI {P : Prop} [Decidable P] {a b : Nat} : (if P then nI a else nI b) = nI (if P then a else b) := by split <;> rfl
theorem mg_eo1 {P : Prop} [Decidable P] {a : Nat} {o : Option Nat} : (if P then nI a else eo o) = eo (if P then some a else o) := by split <;> rfl
theorem mg_eo2 {P : Prop} [Decidable P] {a : Nat} {o : Option Nat} : (if P then eo o else nI a) = eo (if P then o else some a) := by split <;> rfl
theorem mg_eo {P : Prop} [Decidable P] {o o' : Option Nat} : (if P then eo o else eo o') = eo (if P then o else o') := by split <;> rfl
theorem mg_int {P : Prop} [Decidable P] : (if P then Value.int x else Value.int y) = .int (if P then x else y) := by split <;> rfl
theorem mg_lng {P : Prop} [Decidable P] {x y : Int64} : (if P then Value.long x else Value.long y) = .long (if P then x else y) := by split <;> rfl
theorem mg_sm {P : Prop} [Decidable P] : (if P then (some u : Option Value) else some v) = some (if P then u else v) := by split <;> rfl
theorem mg_smN {P : Prop} [Decidable P] {a b : Nat} : (if P then (some a : Option Nat) else some b) = some (if P then a else b) := by split <;> rfl
theorem mg_cons {α : Type} {P : Prop} [Decidable P] {a b : α} {l m : List α} : (if P then a :: l else b :: m) = (if P then a else b) :: (if P then l else m) := by split <;> rfl
theorem mg_pair {α β : Type} {P : Prop} [Decidable P] {a c : α} {b d : β} : (if P then (a, b) else (c, d)) = (if P then a else c, if P then b else d) := by split <;> rfl
theorem mg_nm {α β : Type} {P : Prop} [Decidable P] {a b : α} : (if P then (some (.inl a) : Option (α ⊕ β)) else some (.inl b)) = some (.inl (if P then a else b)) := by split <;> rfl
theorem mg_fn {P : Prop} [Decidable P] {a b : Out × G} : (if P then (some (.inr (.inr (.inr a))) : Res) else some (.inr (.inr (.inr b)))) = some (.inr (.inr (.inr (if P then a else b)))) := by split <;> rfl
theorem mg_out {α β : Type} {P : Prop} [Decidable P] {a b : α} : (if P then (.inl a : α ⊕ β) else .inl b) = .inl (if P then a else b) := by split <;> rfl
theorem mg_res {P : Prop} [Decidable P] {a c : Out} {b d : G} : (if P then (some (a, b) : Option (Out × G)) else some (c, d)) = some (if P then a else c, if P then b else d) := by split <;> rfl
theorem mg_sM {P : Prop} [Decidable P] {t t' : Nat → Nat} : (if P then sM M A t else sM M A t') = sM M A (if P then t else t') := by split <;> rfl
theorem zb_e0 {P : Prop} [Decidable P] : (nI (if P then 1 else 0) = 0) = ¬P := by
  split
  · rename_i h; exact propext ⟨fun q => absurd q (by decide), fun q => absurd h q⟩
  · rename_i h; exact propext ⟨fun _ => h, fun _ => rfl⟩
theorem zb_e0' {P : Prop} [Decidable P] : (nI (if P then 0 else 1) = 0) = P := by
  split
  · rename_i h; exact propext ⟨fun _ => h, fun _ => rfl⟩
  · rename_i h; exact propext ⟨fun q => absurd q (by decide), fun q => absurd q h⟩
/-! running -/
theorem rr_nil {st : St} : runI E [] st = some st := rfl
theorem rr_iload0 : runI E (.iload_n 0 :: r) (some (.int x) :: L, S, g) = runI E r (some (.int x) :: L, .int x :: S, g) := rfl
theorem rr_aload0 : runI E (.aload_n 0 :: r) (some (.ref A) :: L, S, g) = runI E r (some (.ref A) :: L, .ref A :: S, g) := rfl
theorem rr_istore0 {u' : Option Value} (h : eB E = true) : runI E (.istore_n 0 :: r) (u' :: L, .int x :: S, g) = runI E r (some (.int x) :: L, S, g) := by simp only [runI, xI, h]; rfl
theorem rr_astore0 {u' : Option Value} (h : eB E = true) : runI E (.astore_n 0 :: r) (u' :: L, .ref A :: S, g) = runI E r (some (.ref A) :: L, S, g) := by simp only [runI, xI, h]; rfl
theorem rr_iinc0 (h : eB E = true) : runI E (.iinc 0 1 :: r) (some (.int x) :: L, S, g) = runI E r (some (.int (x + nI 1)) :: L, S, g) := by simp [runI, xI, stL, h]; rfl
theorem rr_iload1 : runI E (.iload_n 1 :: r) (a :: some (.int x) :: L, S, g) = runI E r (a :: some (.int x) :: L, .int x :: S, g) := rfl
theorem rr_aload1 : runI E (.aload_n 1 :: r) (a :: some (.ref A) :: L, S, g) = runI E r (a :: some (.ref A) :: L, .ref A :: S, g) := rfl
theorem rr_istore1 {u' : Option Value} (h : eB E = true) : runI E (.istore_n 1 :: r) (a :: u' :: L, .int x :: S, g) = runI E r (a :: some (.int x) :: L, S, g) := by simp only [runI, xI, h]; rfl
theorem rr_astore1 {u' : Option Value} (h : eB E = true) : runI E (.astore_n 1 :: r) (a :: u' :: L, .ref A :: S, g) = runI E r (a :: some (.ref A) :: L, S, g) := by simp only [runI, xI, h]; rfl
theorem rr_iinc1 (h : eB E = true) : runI E (.iinc 1 1 :: r) (a :: some (.int x) :: L, S, g) = runI E r (a :: some (.int (x + nI 1)) :: L, S, g) := by simp [runI, xI, stL, h]; rfl
theorem rr_iload2 : runI E (.iload_n 2 :: r) (a :: b :: some (.int x) :: L, S, g) = runI E r (a :: b :: some (.int x) :: L, .int x :: S, g) := rfl
theorem rr_aload2 : runI E (.aload_n 2 :: r) (a :: b :: some (.ref A) :: L, S, g) = runI E r (a :: b :: some (.ref A) :: L, .ref A :: S, g) := rfl
theorem rr_istore2 {u' : Option Value} (h : eB E = true) : runI E (.istore_n 2 :: r) (a :: b :: u' :: L, .int x :: S, g) = runI E r (a :: b :: some (.int x) :: L, S, g) := by simp only [runI, xI, h]; rfl
theorem rr_astore2 {u' : Option Value} (h : eB E = true) : runI E (.astore_n 2 :: r) (a :: b :: u' :: L, .ref A :: S, g) = runI E r (a :: b :: some (.ref A) :: L, S, g) := by simp only [runI, xI, h]; rfl
theorem rr_iinc2 (h : eB E = true) : runI E (.iinc 2 1 :: r) (a :: b :: some (.int x) :: L, S, g) = runI E r (a :: b :: some (.int (x + nI 1)) :: L, S, g) := by simp [runI, xI, stL, h]; rfl
theorem rr_iload3 : runI E (.iload_n 3 :: r) (a :: b :: c :: some (.int x) :: L, S, g) = runI E r (a :: b :: c :: some (.int x) :: L, .int x :: S, g) := rfl
theorem rr_aload3 : runI E (.aload_n 3 :: r) (a :: b :: c :: some (.ref A) :: L, S, g) = runI E r (a :: b :: c :: some (.ref A) :: L, .ref A :: S, g) := rfl
theorem rr_istore3 {u' : Option Value} (h : eB E = true) : runI E (.istore_n 3 :: r) (a :: b :: c :: u' :: L, .int x :: S, g) = runI E r (a :: b :: c :: some (.int x) :: L, S, g) := by simp only [runI, xI, h]; rfl
theorem rr_astore3 {u' : Option Value} (h : eB E = true) : runI E (.astore_n 3 :: r) (a :: b :: c :: u' :: L, .ref A :: S, g) = runI E r (a :: b :: c :: some (.ref A) :: L, S, g) := by simp only [runI, xI, h]; rfl
theorem rr_iinc3 (h : eB E = true) : runI E (.iinc 3 1 :: r) (a :: b :: c :: some (.int x) :: L, S, g) = runI E r (a :: b :: c :: some (.int (x + nI 1)) :: L, S, g) := by simp [runI, xI, stL, h]; rfl
theorem rr_iload4 : runI E (.iload 4 :: r) (a :: b :: c :: d :: some (.int x) :: L, S, g) = runI E r (a :: b :: c :: d :: some (.int x) :: L, .int x :: S, g) := rfl
theorem rr_aload4 : runI E (.aload 4 :: r) (a :: b :: c :: d :: some (.ref A) :: L, S, g) = runI E r (a :: b :: c :: d :: some (.ref A) :: L, .ref A :: S, g) := rfl
theorem rr_istore4 {u' : Option Value} (h : eB E = true) : runI E (.istore 4 :: r) (a :: b :: c :: d :: u' :: L, .int x :: S, g) = runI E r (a :: b :: c :: d :: some (.int x) :: L, S, g) := by simp only [runI, xI, h]; rfl
theorem rr_iinc4 (h : eB E = true) : runI E (.iinc 4 1 :: r) (a :: b :: c :: d :: some (.int x) :: L, S, g) = runI E r (a :: b :: c :: d :: some (.int (x + nI 1)) :: L, S, g) := by simp [runI, xI, stL, h]; rfl
theorem rr_iload5 : runI E (.iload 5 :: r) (a :: b :: c :: d :: e :: some (.int x) :: L, S, g) = runI E r (a :: b :: c :: d :: e :: some (.int x) :: L, .int x :: S, g) := rfl
theorem rr_aload5 : runI E (.aload 5 :: r) (a :: b :: c :: d :: e :: some (.ref A) :: L, S, g) = runI E r (a :: b :: c :: d :: e :: some (.ref A) :: L, .ref A :: S, g) := rfl
theorem rr_istore5 {u' : Option Value} (h : eB E = true) : runI E (.istore 5 :: r) (a :: b :: c :: d :: e :: u' :: L, .int x :: S, g) = runI E r (a :: b :: c :: d :: e :: some (.int x) :: L, S, g) := by simp only [runI, xI, h]; rfl
theorem rr_iinc5 (h : eB E = true) : runI E (.iinc 5 1 :: r) (a :: b :: c :: d :: e :: some (.int x) :: L, S, g) = runI E r (a :: b :: c :: d :: e :: some (.int (x + nI 1)) :: L, S, g) := by simp [runI, xI, stL, h]; rfl
theorem rr_iload6 : runI E (.iload 6 :: r) (a :: b :: c :: d :: e :: f' :: some (.int x) :: L, S, g) = runI E r (a :: b :: c :: d :: e :: f' :: some (.int x) :: L, .int x :: S, g) := rfl
theorem rr_aload6 : runI E (.aload 6 :: r) (a :: b :: c :: d :: e :: f' :: some (.ref A) :: L, S, g) = runI E r (a :: b :: c :: d :: e :: f' :: some (.ref A) :: L, .ref A :: S, g) := rfl
theorem rr_istore6 {u' : Option Value} (h : eB E = true) : runI E (.istore 6 :: r) (a :: b :: c :: d :: e :: f' :: u' :: L, .int x :: S, g) = runI E r (a :: b :: c :: d :: e :: f' :: some (.int x) :: L, S, g) := by simp only [runI, xI, h]; rfl
theorem rr_iinc6 (h : eB E = true) : runI E (.iinc 6 1 :: r) (a :: b :: c :: d :: e :: f' :: some (.int x) :: L, S, g) = runI E r (a :: b :: c :: d :: e :: f' :: some (.int (x + nI 1)) :: L, S, g) := by simp [runI, xI, stL, h]; rfl
theorem rr_iload7 : runI E (.iload 7 :: r) (a :: b :: c :: d :: e :: f' :: g' :: some (.int x) :: L, S, g) = runI E r (a :: b :: c :: d :: e :: f' :: g' :: some (.int x) :: L, .int x :: S, g) := rfl
theorem rr_istore7 {u' : Option Value} (h : eB E = true) : runI E (.istore 7 :: r) (a :: b :: c :: d :: e :: f' :: g' :: u' :: L, .int x :: S, g) = runI E r (a :: b :: c :: d :: e :: f' :: g' :: some (.int x) :: L, S, g) := by simp only [runI, xI, h]; rfl
theorem rr_iinc7 (h : eB E = true) : runI E (.iinc 7 1 :: r) (a :: b :: c :: d :: e :: f' :: g' :: some (.int x) :: L, S, g) = runI E r (a :: b :: c :: d :: e :: f' :: g' :: some (.int (x + nI 1)) :: L, S, g) := by simp [runI, xI, stL, h]; rfl
theorem rr_iload8 : runI E (.iload 8 :: r) (a :: b :: c :: d :: e :: f' :: g' :: h' :: some (.int x) :: L, S, g) = runI E r (a :: b :: c :: d :: e :: f' :: g' :: h' :: some (.int x) :: L, .int x :: S, g) := rfl
theorem rr_istore8 {u' : Option Value} (h : eB E = true) : runI E (.istore 8 :: r) (a :: b :: c :: d :: e :: f' :: g' :: h' :: u' :: L, .int x :: S, g) = runI E r (a :: b :: c :: d :: e :: f' :: g' :: h' :: some (.int x) :: L, S, g) := by simp only [runI, xI, h]; rfl
theorem rr_iload9 : runI E (.iload 9 :: r) (a :: b :: c :: d :: e :: f' :: g' :: h' :: i' :: some (.int x) :: L, S, g) = runI E r (a :: b :: c :: d :: e :: f' :: g' :: h' :: i' :: some (.int x) :: L, .int x :: S, g) := rfl
theorem rr_istore9 {u' : Option Value} (h : eB E = true) : runI E (.istore 9 :: r) (a :: b :: c :: d :: e :: f' :: g' :: h' :: i' :: u' :: L, .int x :: S, g) = runI E r (a :: b :: c :: d :: e :: f' :: g' :: h' :: i' :: some (.int x) :: L, S, g) := by simp only [runI, xI, h]; rfl
theorem rr_iload10 : runI E (.iload 10 :: r) (a :: b :: c :: d :: e :: f' :: g' :: h' :: i' :: j' :: some (.int x) :: L, S, g) = runI E r (a :: b :: c :: d :: e :: f' :: g' :: h' :: i' :: j' :: some (.int x) :: L, .int x :: S, g) := rfl
theorem rr_istore10 {u' : Option Value} (h : eB E = true) : runI E (.istore 10 :: r) (a :: b :: c :: d :: e :: f' :: g' :: h' :: i' :: j' :: u' :: L, .int x :: S, g) = runI E r (a :: b :: c :: d :: e :: f' :: g' :: h' :: i' :: j' :: some (.int x) :: L, S, g) := by simp only [runI, xI, h]; rfl
theorem rr_iconst0 : runI E (.iconst 0 :: r) (L, S, g) = runI E r (L, .int (nI 0) :: S, g) := rfl
theorem rr_iconst1 : runI E (.iconst 1 :: r) (L, S, g) = runI E r (L, .int (nI 1) :: S, g) := rfl
theorem rr_iconst2 : runI E (.iconst 2 :: r) (L, S, g) = runI E r (L, .int (nI 2) :: S, g) := rfl
theorem rr_iconst3 : runI E (.iconst 3 :: r) (L, S, g) = runI E r (L, .int (nI 3) :: S, g) := rfl
theorem rr_iconst4 : runI E (.iconst 4 :: r) (L, S, g) = runI E r (L, .int (nI 4) :: S, g) := rfl
theorem rr_iconst5 : runI E (.iconst 5 :: r) (L, S, g) = runI E r (L, .int (nI 5) :: S, g) := rfl
theorem rr_iconstm : runI E (.iconst (-1) :: r) (L, S, g) = runI E r (L, .int (-1) :: S, g) := rfl
theorem rr_bipush6 : runI E (.bipush 6 :: r) (L, S, g) = runI E r (L, .int (nI 6) :: S, g) := rfl
theorem rr_bipush7 : runI E (.bipush 7 :: r) (L, S, g) = runI E r (L, .int (nI 7) :: S, g) := rfl
theorem rr_bipush8 : runI E (.bipush 8 :: r) (L, S, g) = runI E r (L, .int (nI 8) :: S, g) := rfl
theorem rr_bipush9 : runI E (.bipush 9 :: r) (L, S, g) = runI E r (L, .int (nI 9) :: S, g) := rfl
theorem rr_bipush10 : runI E (.bipush 10 :: r) (L, S, g) = runI E r (L, .int (nI 10) :: S, g) := rfl
theorem rr_bipush11 : runI E (.bipush 11 :: r) (L, S, g) = runI E r (L, .int (nI 11) :: S, g) := rfl
theorem rr_bipush12 : runI E (.bipush 12 :: r) (L, S, g) = runI E r (L, .int (nI 12) :: S, g) := rfl
theorem rr_bipush13 : runI E (.bipush 13 :: r) (L, S, g) = runI E r (L, .int (nI 13) :: S, g) := rfl
theorem rr_bipush14 : runI E (.bipush 14 :: r) (L, S, g) = runI E r (L, .int (nI 14) :: S, g) := rfl
theorem rr_bipush15 : runI E (.bipush 15 :: r) (L, S, g) = runI E r (L, .int (nI 15) :: S, g) := rfl
theorem rr_bipush16 : runI E (.bipush 16 :: r) (L, S, g) = runI E r (L, .int (nI 16) :: S, g) := rfl
theorem rr_bipush20 : runI E (.bipush 20 :: r) (L, S, g) = runI E r (L, .int (nI 20) :: S, g) := rfl
theorem rr_bipush22 : runI E (.bipush 22 :: r) (L, S, g) = runI E r (L, .int (nI 22) :: S, g) := rfl
theorem rr_bipush30 : runI E (.bipush 30 :: r) (L, S, g) = runI E r (L, .int (nI 30) :: S, g) := rfl
theorem rr_bipush31 : runI E (.bipush 31 :: r) (L, S, g) = runI E r (L, .int (nI 31) :: S, g) := rfl
theorem rr_bipush33 : runI E (.bipush 33 :: r) (L, S, g) = runI E r (L, .int (nI 33) :: S, g) := rfl
theorem rr_bipush40 : runI E (.bipush 40 :: r) (L, S, g) = runI E r (L, .int (nI 40) :: S, g) := rfl
theorem rr_bipush48 : runI E (.bipush 48 :: r) (L, S, g) = runI E r (L, .int (nI 48) :: S, g) := rfl
theorem rr_bipush49 : runI E (.bipush 49 :: r) (L, S, g) = runI E r (L, .int (nI 49) :: S, g) := rfl
theorem rr_bipush51 : runI E (.bipush 51 :: r) (L, S, g) = runI E r (L, .int (nI 51) :: S, g) := rfl
theorem rr_bipush52 : runI E (.bipush 52 :: r) (L, S, g) = runI E r (L, .int (nI 52) :: S, g) := rfl
theorem rr_bipush53 : runI E (.bipush 53 :: r) (L, S, g) = runI E r (L, .int (nI 53) :: S, g) := rfl
theorem rr_bipush57 : runI E (.bipush 57 :: r) (L, S, g) = runI E r (L, .int (nI 57) :: S, g) := rfl
theorem rr_bipush59 : runI E (.bipush 59 :: r) (L, S, g) = runI E r (L, .int (nI 59) :: S, g) := rfl
theorem rr_bipush60 : runI E (.bipush 60 :: r) (L, S, g) = runI E r (L, .int (nI 60) :: S, g) := rfl
theorem rr_bipush68 : runI E (.bipush 68 :: r) (L, S, g) = runI E r (L, .int (nI 68) :: S, g) := rfl
theorem rr_bipush99 : runI E (.bipush 99 :: r) (L, S, g) = runI E r (L, .int (nI 99) :: S, g) := rfl
theorem rr_bipush100 : runI E (.bipush 100 :: r) (L, S, g) = runI E r (L, .int (nI 100) :: S, g) := rfl
theorem rr_bipush103 : runI E (.bipush 103 :: r) (L, S, g) = runI E r (L, .int (nI 103) :: S, g) := rfl
theorem rr_bipush113 : runI E (.bipush 113 :: r) (L, S, g) = runI E r (L, .int (nI 113) :: S, g) := rfl
theorem rr_bipush115 : runI E (.bipush 115 :: r) (L, S, g) = runI E r (L, .int (nI 115) :: S, g) := rfl
theorem rr_bipush126 : runI E (.bipush 126 :: r) (L, S, g) = runI E r (L, .int (nI 126) :: S, g) := rfl
theorem rr_sipush200 : runI E (.sipush 200 :: r) (L, S, g) = runI E r (L, .int (nI 200) :: S, g) := rfl
theorem rr_sipush220 : runI E (.sipush 220 :: r) (L, S, g) = runI E r (L, .int (nI 220) :: S, g) := rfl
theorem rr_sipush172 : runI E (.sipush 172 :: r) (L, S, g) = runI E r (L, .int (nI 172) :: S, g) := rfl
theorem rr_sipush1320 : runI E (.sipush 1320 :: r) (L, S, g) = runI E r (L, .int (nI 1320) :: S, g) := rfl
theorem rr_sipush1100 : runI E (.sipush 1100 :: r) (L, S, g) = runI E r (L, .int (nI 1100) :: S, g) := rfl
theorem rr_sipush1022 : runI E (.sipush 1022 :: r) (L, S, g) = runI E r (L, .int (nI 1022) :: S, g) := rfl
theorem rr_iadd : runI E (.iadd :: r) (L, .int y :: .int x :: S, g) = runI E r (L, .int (x + y) :: S, g) := rfl
theorem rr_isub : runI E (.isub :: r) (L, .int y :: .int x :: S, g) = runI E r (L, .int (x - y) :: S, g) := rfl
theorem rr_imul : runI E (.imul :: r) (L, .int y :: .int x :: S, g) = runI E r (L, .int (x * y) :: S, g) := rfl
theorem rr_idiv {n : Nat} (h0 : 0 < n) (hn : n < 2 ^ 31) : runI E (.idiv :: r) (L, .int (nI n) :: .int x :: S, g) = runI E r (L, .int (x / nI n) :: S, g) := by
  have h : ¬ nI n = 0 := by rw [zn_e0 hn]; omega
  simp only [runI, xI, h, if_false]
theorem rr_irem {n m : Nat} (h0 : 0 < n) (hm : m < 2 ^ 31) (hn : n < 2 ^ 31) : runI E (.irem :: r) (L, .int (nI n) :: .int (nI m) :: S, g) = runI E r (L, .int (nI (m % n)) :: S, g) := by
  have h : ¬ nI n = 0 := by rw [zn_e0 hn]; omega
  simp only [runI, xI, h, if_false, zn_rem h0 hm hn]
theorem rr_dup : runI E (.dup :: r) (L, .int x :: S, g) = runI E r (L, .int x :: .int x :: S, g) := rfl
theorem rr_dupr : runI E (.dup :: r) (L, .ref A :: S, g) = runI E r (L, .ref A :: .ref A :: S, g) := rfl
theorem rr_dup2 : runI E (.dup2 :: r) (L, .int x :: .ref A :: S, g) = runI E r (L, .int x :: .ref A :: .int x :: .ref A :: S, g) := rfl
theorem rr_pop : runI E (.pop :: r) (L, .int x :: S, g) = runI E r (L, S, g) := rfl
theorem rr_anull : runI E (.aconst_null :: r) (L, S, g) = runI E r (L, .null :: S, g) := rfl
theorem rr_ialoadS {i : Nat} {t : Nat → Nat} (h : i < 220) : runI E (.iaload :: r) (L, .int (nI i) :: .ref A :: S, (sM M A t, nx)) = runI E r (L, .int (nI (t i)) :: S, (sM M A t, nx)) := by
  simp only [runI, xI, sM, zup_eq, zix_n h (by omega)]
theorem rr_iastoreS {i n : Nat} {t : Nat → Nat} (h : i < 220) : runI E (.iastore :: r) (L, .int (nI n) :: .int (nI i) :: .ref A :: S, (sM M A t, nx)) = runI E r (L, S, (sM M A (updN t i n), nx)) := by
  simp only [runI, xI, sM, zup_eq, zix_n h (by omega), zup_zup, upd_nI]
theorem rr_iaload {n i : Nat} {f : Nat → Int32} (hM : M A = some (cI n f)) (h : i < n) (hn : n < 2 ^ 31) : runI E (.iaload :: r) (L, .int (nI i) :: .ref A :: S, (M, nx)) = runI E r (L, .int (f i) :: S, (M, nx)) := by
  simp only [runI, xI, hM, zix_n h hn]
theorem rr_iastore {n i : Nat} {f : Nat → Int32} {x : Int32} (hM : M A = some (cI n f)) (h : i < n) (hn : n < 2 ^ 31) : runI E (.iastore :: r) (L, .int x :: .int (nI i) :: .ref A :: S, (M, nx)) = runI E r (L, S, (zup M A (cI n (upd f i x)), nx)) := by
  simp only [runI, xI, hM, zix_n h hn]
theorem rr_alen {n : Nat} {f : Nat → Int32} (hM : M A = some (cI n f)) : runI E (.arraylength :: r) (L, .ref A :: S, (M, nx)) = runI E r (L, .int (nI n) :: S, (M, nx)) := by
  simp only [runI, xI, hM]
def gfK (o : Option (Nat × Nat)) (oc : Option Cel) (E : Env) (r : List Instr) (L : List (Option Value)) (S : List Value) (g : G) : Option St := match o, oc with
  | some (cj, j), some (.inr (ci, fs)) => if ci = cj then match fs[j]? with
    | some v => runI E r (L, v :: S, g)
    | none => none
    else none
  | _, _ => none
theorem rr_getfield {k : Nat} : runI E (.getfield k :: r) (L, .ref A :: S, (M, nx)) = gfK (lookN (eF E) k) (M A) E r L S (M, nx) := by
  simp only [runI, xI, gfK]
  cases h : M A with
  | none => cases lookN (eF E) k <;> rfl
  | some c =>
    rcases c with c | ⟨ci, fs⟩
    · cases lookN (eF E) k <;> rfl
    · cases lookN (eF E) k with
      | none => rfl
      | some p =>
        obtain ⟨cj, j⟩ := p
        dsimp only
        by_cases e : ci = cj
        · rw [if_pos e, if_pos e]; cases fs[j]? <;> rfl
        · rw [if_neg e, if_neg e]
theorem gfK_at {ci j : Nat} {fs : List Value} {v : Value} (h : fs[j]? = some v) : gfK (some (ci, j)) (some (.inr (ci, fs))) E r L S g = runI E r (L, v :: S, g) := by
  simp only [gfK, if_pos, h]
def pfK (o : Option (Nat × Nat)) (oc : Option Cel) (E : Env) (r : List Instr) (L : List (Option Value)) (S : List Value) (g : G) (A : Nat) (v : Value) : Option St := match o, oc with
  | some (cj, j), some (.inr (ci, fs)) => if ci = cj ∧ zfit (zty ci j) v = true ∧ j < fs.length ∧ ((((zcl[ci]?).getD ("", F_Row, 0)).2.1 j).2.2.2 = false ∨ eI E = true) then runI E r (L, S, (zup g.1 A (cO ci (fs.set j v)), g.2)) else none
  | _, _ => none
theorem rr_putfield {k : Nat} : runI E (.putfield k :: r) (L, v :: .ref A :: S, (M, nx)) = pfK (lookN (eF E) k) (M A) E r L S (M, nx) A v := by
  simp only [runI, xI, pfK]
  cases h : M A with
  | none => cases lookN (eF E) k <;> rfl
  | some c =>
    rcases c with c | ⟨ci, fs⟩
    · cases lookN (eF E) k <;> rfl
    · cases lookN (eF E) k with
      | none => rfl
      | some p =>
        obtain ⟨cj, j⟩ := p
        dsimp only
        by_cases e : ci = cj ∧ zfit (zty ci j) v = true ∧ j < fs.length ∧ ((((zcl[ci]?).getD ("", F_Row, 0)).2.1 j).2.2.2 = false ∨ eI E = true)
        · rw [if_pos e, if_pos e]
        · rw [if_neg e, if_neg e]
theorem pfK_at {ci j : Nat} {fs : List Value} {v : Value} (h : zfit (zty ci j) v = true ∧ j < fs.length ∧ ((((zcl[ci]?).getD ("", F_Row, 0)).2.1 j).2.2.2 = false ∨ eI E = true)) : pfK (some (ci, j)) (some (.inr (ci, fs))) E r L S (M, nx) A v = runI E r (L, S, (zup M A (cO ci (fs.set j v)), nx)) := by
  exact if_pos ⟨rfl, h⟩
/-! calls -/
def cK (o : Option (Out × G)) (E : Env) (r : List Instr) (L : List (Option Value)) (S : List Value) : Option St := match o with
  | some (.inl o, g) => runI E r (L, o.toList ++ S, g)
  | _ => none
def ivK (o : Option (Nat × Ex)) (E : Env) (r : List Instr) (L : List (Option Value)) (S : List Value) (g : G) : Option St := match o with
  | some (n, f) => match popN n [] S with
    | some (vs, S) => if wsum S ≤ 8 then cK (f vs g) E r L S else none
    | none => none
  | none => none
theorem rr_ivS {k : Nat} : runI E (.invokestatic k :: r) (L, S, g) = ivK (lookI (eC E) (.invokestatic k)) E r L S g := by
  simp only [runI, xI, ivK]
  cases lookI (eC E) (.invokestatic k) with
  | none => rfl
  | some q =>
    obtain ⟨n, f⟩ := q
    dsimp only
    cases popN n [] S with
    | none => rfl
    | some q =>
      obtain ⟨vs, S⟩ := q
      dsimp only
      by_cases e : wsum S ≤ 8
      · rw [if_pos e, if_pos e]
        cases hf : f vs g with
        | none => rfl
        | some o =>
          obtain ⟨o, g⟩ := o
          cases o <;> rfl
      · rw [if_neg e, if_neg e]
theorem rr_ivV {k : Nat} : runI E (.invokevirtual k :: r) (L, S, g) = ivK (lookI (eC E) (.invokevirtual k)) E r L S g := by
  simp only [runI, xI, ivK]
  cases lookI (eC E) (.invokevirtual k) with
  | none => rfl
  | some q =>
    obtain ⟨n, f⟩ := q
    dsimp only
    cases popN n [] S with
    | none => rfl
    | some q =>
      obtain ⟨vs, S⟩ := q
      dsimp only
      by_cases e : wsum S ≤ 8
      · rw [if_pos e, if_pos e]
        cases hf : f vs g with
        | none => rfl
        | some o =>
          obtain ⟨o, g⟩ := o
          cases o <;> rfl
      · rw [if_neg e, if_neg e]
theorem rr_ivP {k : Nat} : runI E (.invokespecial k :: r) (L, S, g) = ivK (lookI (eC E) (.invokespecial k)) E r L S g := by
  simp only [runI, xI, ivK]
  cases lookI (eC E) (.invokespecial k) with
  | none => rfl
  | some q =>
    obtain ⟨n, f⟩ := q
    dsimp only
    cases popN n [] S with
    | none => rfl
    | some q =>
      obtain ⟨vs, S⟩ := q
      dsimp only
      by_cases e : wsum S ≤ 8
      · rw [if_pos e, if_pos e]
        cases hf : f vs g with
        | none => rfl
        | some o =>
          obtain ⟨o, g⟩ := o
          cases o <;> rfl
      · rw [if_neg e, if_neg e]
theorem ws_nil : wsum [] = 0 := rfl
theorem ws_int : wsum (.int x :: S) = wsum S + 1 := rfl
theorem ws_ref : wsum (.ref A :: S) = wsum S + 1 := rfl
theorem ws_lng {x : Int64} : wsum (.long x :: S) = wsum S + 2 := rfl
theorem cK_1 : cK (some (.inl (some v), g)) E r L S = runI E r (L, v :: S, g) := rfl
theorem cK_0 : cK (some (.inl none, g)) E r L S = runI E r (L, S, g) := rfl
theorem iv_0 {f : Ex} {uu : Value} : ivK (some (0, f)) E r L (S) g = if wsum S ≤ 8 then cK (f [] g) E r L S else none := rfl
theorem iv_1 {f : Ex} {u1 : Value} : ivK (some (1, f)) E r L (u1 :: S) g = if wsum S ≤ 8 then cK (f [u1] g) E r L S else none := rfl
theorem iv_2 {f : Ex} {u1 u2 : Value} : ivK (some (2, f)) E r L (u2 :: u1 :: S) g = if wsum S ≤ 8 then cK (f [u1, u2] g) E r L S else none := rfl
theorem iv_3 {f : Ex} {u1 u2 u3 : Value} : ivK (some (3, f)) E r L (u3 :: u2 :: u1 :: S) g = if wsum S ≤ 8 then cK (f [u1, u2, u3] g) E r L S else none := rfl
theorem iv_4 {f : Ex} {u1 u2 u3 u4 : Value} : ivK (some (4, f)) E r L (u4 :: u3 :: u2 :: u1 :: S) g = if wsum S ≤ 8 then cK (f [u1, u2, u3, u4] g) E r L S else none := rfl
theorem iv_5 {f : Ex} {u1 u2 u3 u4 u5 : Value} : ivK (some (5, f)) E r L (u5 :: u4 :: u3 :: u2 :: u1 :: S) g = if wsum S ≤ 8 then cK (f [u1, u2, u3, u4, u5] g) E r L S else none := rfl
theorem iv_6 {f : Ex} {u1 u2 u3 u4 u5 u6 : Value} : ivK (some (6, f)) E r L (u6 :: u5 :: u4 :: u3 :: u2 :: u1 :: S) g = if wsum S ≤ 8 then cK (f [u1, u2, u3, u4, u5, u6] g) E r L S else none := rfl
theorem iv_7 {f : Ex} {u1 u2 u3 u4 u5 u6 u7 : Value} : ivK (some (7, f)) E r L (u7 :: u6 :: u5 :: u4 :: u3 :: u2 :: u1 :: S) g = if wsum S ≤ 8 then cK (f [u1, u2, u3, u4, u5, u6, u7] g) E r L S else none := rfl
/-! conditions -/
def ctK (o : Option St) (j : Instr) : Option (Bool × St) := match o with
  | some (L, S, g) => match zcj j S with
    | some (t, S) => some (t, L, S, g)
    | none => none
  | none => none
theorem cat_K {j : Instr} {st : St} : cat E is j st = ctK (runI E is st) j := by
  unfold cat ctK; cases runI E is st <;> rfl
theorem ct_eq {o : Int} : ctK (some (L, .int y :: .int x :: S, g)) (.if_icmp .eq o) = some (decide (x = y), L, S, g) := rfl
theorem ct_ne {o : Int} : ctK (some (L, .int y :: .int x :: S, g)) (.if_icmp .ne o) = some (decide (¬ x = y), L, S, g) := rfl
theorem ct_lt {o : Int} : ctK (some (L, .int y :: .int x :: S, g)) (.if_icmp .lt o) = some (decide (x < y), L, S, g) := rfl
theorem ct_ge {o : Int} : ctK (some (L, .int y :: .int x :: S, g)) (.if_icmp .ge o) = some (decide (y ≤ x), L, S, g) := rfl
theorem ct_gt {o : Int} : ctK (some (L, .int y :: .int x :: S, g)) (.if_icmp .gt o) = some (decide (y < x), L, S, g) := rfl
theorem ct_le {o : Int} : ctK (some (L, .int y :: .int x :: S, g)) (.if_icmp .le o) = some (decide (x ≤ y), L, S, g) := rfl
theorem ct_eq0 {o : Int} : ctK (some (L, .int x :: S, g)) (.ifCond .eq o) = some (decide (x = 0), L, S, g) := rfl
theorem ct_ne0 {o : Int} : ctK (some (L, .int x :: S, g)) (.ifCond .ne o) = some (decide (¬ x = 0), L, S, g) := rfl
theorem ct_lt0 {o : Int} : ctK (some (L, .int x :: S, g)) (.ifCond .lt o) = some (decide (x < 0), L, S, g) := rfl
theorem ct_ge0 {o : Int} : ctK (some (L, .int x :: S, g)) (.ifCond .ge o) = some (decide (0 ≤ x), L, S, g) := rfl
theorem ct_gt0 {o : Int} : ctK (some (L, .int x :: S, g)) (.ifCond .gt o) = some (decide (0 < x), L, S, g) := rfl
theorem ct_le0 {o : Int} : ctK (some (L, .int x :: S, g)) (.ifCond .le o) = some (decide (x ≤ 0), L, S, g) := rfl
theorem ct_nulr {o : Int} : ctK (some (L, .ref A :: S, g)) (.ifnull o) = some (decide False, L, S, g) := rfl
theorem ct_nul {o : Int} : ctK (some (L, .null :: S, g)) (.ifnull o) = some (decide True, L, S, g) := rfl
def nK (o : Option (Bool × St)) : Option (Bool × St) := match o with
  | some (t, st) => some (!t, st)
  | none => none
theorem cno_K {c : Cn} {st : St} : cno c st = nK (c st) := rfl
theorem nK_d {P : Prop} [Decidable P] {st : St} : nK (some (decide P, st)) = some (decide (¬ P), st) := by
  unfold nK; by_cases h : P <;> simp [h]
def aK (o : Option (Bool × St)) (b : Cn) : Option (Bool × St) := match o with
  | some (true, st) => b st
  | some (false, st) => some (false, st)
  | none => none
theorem can_K {c b : Cn} {st : St} : can c b st = aK (c st) b := rfl
theorem aK_d {P : Prop} [Decidable P] {st : St} {b : Cn} : aK (some (decide P, st)) b = if P then b st else some (decide False, st) := by
  unfold aK; by_cases h : P <;> simp [h]
def oK (o : Option (Bool × St)) (b : Cn) : Option (Bool × St) := match o with
  | some (true, st) => some (true, st)
  | some (false, st) => b st
  | none => none
theorem cor_K {c b : Cn} {st : St} : cor c b st = oK (c st) b := rfl
theorem oK_d {P : Prop} [Decidable P] {st : St} {b : Cn} : oK (some (decide P, st)) b = if P then some (decide True, st) else b st := by
  unfold oK; by_cases h : P <;> simp [h]
/-- conditions that come together -/
theorem cd_t {P Q : Prop} [Decidable P] [Decidable Q] {st : St} : (if P then some (decide Q, st) else some (decide False, st)) = some (decide (P ∧ Q), st) := by
  by_cases h : P <;> simp [h]
theorem cd_f {P Q : Prop} [Decidable P] [Decidable Q] {st : St} : (if P then some (decide True, st) else some (decide Q, st)) = some (decide (P ∨ Q), st) := by
  by_cases h : P <;> simp [h]
theorem nK_if {P : Prop} [Decidable P] {o o' : Option (Bool × St)} : nK (if P then o else o') = if P then nK o else nK o' := by split <;> rfl
theorem aK_if {P : Prop} [Decidable P] {o o' : Option (Bool × St)} {b : Cn} : aK (if P then o else o') b = if P then aK o b else aK o' b := by split <;> rfl
theorem oK_if {P : Prop} [Decidable P] {o o' : Option (Bool × St)} {b : Cn} : oK (if P then o else o') b = if P then oK o b else oK o' b := by split <;> rfl
theorem cfo_K {l : List Nat} {c : Cn} {st : St} : cfo l c st = c (zforget st.1 l, st.2) := rfl
/-! branches, blocks, ends -/
def iK (o : Option (Bool × St)) (a b : Dn) : Res := match o with
  | some (true, st) => a st
  | some (false, st) => b st
  | none => none
theorem ite_K {c : Cn} {a b : Dn} {st : St} : ite' c a b st = iK (c st) a b := rfl
theorem iK_d {P : Prop} [Decidable P] {st : St} {a b : Dn} : iK (some (decide P, st)) a b = if P then a st else b st := by
  unfold iK; by_cases h : P <;> simp [h]
theorem iK_if {P : Prop} [Decidable P] {o o' : Option (Bool × St)} {a b : Dn} : iK (if P then o else o') a b = if P then iK o a b else iK o' a b := by split <;> rfl
def sK (o : Res) (b : Dn) : Res := match o with
  | some (.inl st) => b st
  | some (.inr x) => some (.inr x)
  | none => none
theorem sq_K {a b : Dn} {st : St} : sq a b st = sK (a st) b := rfl
theorem sK_nm {st : St} {b : Dn} : sK (some (.inl st)) b = b st := rfl
theorem sK_x {q : St ⊕ (St ⊕ (Out × G))} {b : Dn} : sK (some (.inr q)) b = some (.inr q) := rfl
theorem sK_if {P : Prop} [Decidable P] {o o' : Res} {b : Dn} : sK (if P then o else o') b = if P then sK o b else sK o' b := by split <;> rfl
def bK (o : Option St) : Res := match o with
  | some st => nm st
  | none => none
theorem blk_K {st : St} : blk E is st = bK (runI E is st) := rfl
theorem bK_s {st : St} : bK (some st) = some (.inl st) := rfl
def riK (o : Option St) : Res := match o with
  | some (_, [.int x], g) => fn (.inl (some (.int x))) g
  | _ => none
theorem rti_K {st : St} : rti E is st = riK (runI E is st) := rfl
theorem riK_s : riK (some (L, [.int x], g)) = some (.inr (.inr (.inr (.inl (some (.int x)), g)))) := rfl
def rzK (o : Option St) : Res := match o with
  | some (_, [.int x], g) => if x = 0 ∨ x = 1 then fn (.inl (some (.int x))) g else none
  | _ => none
theorem rtz_K {st : St} : rtz E is st = rzK (runI E is st) := rfl
theorem rzK_s {n : Nat} (h : n < 2) : rzK (some (L, [.int (nI n)], g)) = some (.inr (.inr (.inr (.inl (some (.int (nI n))), g)))) := by
  have : n = 0 ∨ n = 1 := by omega
  rcases this with rfl | rfl <;> rfl
theorem rzK_b {P : Prop} [Decidable P] : rzK (some (L, [.int (nI (if P then 1 else 0))], g)) = some (.inr (.inr (.inr (.inl (some (.int (nI (if P then 1 else 0)))), g)))) := rzK_s (by split <;> omega)
theorem rzK_b' {P : Prop} [Decidable P] : rzK (some (L, [.int (nI (if P then 0 else 1))], g)) = some (.inr (.inr (.inr (.inl (some (.int (nI (if P then 0 else 1)))), g)))) := rzK_s (by split <;> omega)
def rvK (o : Option St) : Res := match o with
  | some (_, [], g) => fn (.inl none) g
  | _ => none
theorem rtv_K {st : St} : rtv E is st = rvK (runI E is st) := rfl
theorem rvK_s : rvK (some (L, [], g)) = some (.inr (.inr (.inr (.inl none, g)))) := rfl
def raK (o : Option St) : Res := match o with
  | some (_, [.ref x], g) => fn (.inl (some (.ref x))) g
  | some (_, [.null], g) => fn (.inl (some .null)) g
  | _ => none
theorem rta_K {st : St} : rta E is st = raK (runI E is st) := rfl
theorem raK_s : raK (some (L, [.ref A], g)) = some (.inr (.inr (.inr (.inl (some (.ref A)), g)))) := rfl
theorem raK_n : raK (some (L, [.null], g)) = some (.inr (.inr (.inr (.inl (some .null), g)))) := rfl
def rlK (o : Option St) : Res := match o with
  | some (_, [.long x], g) => fn (.inl (some (.long x))) g
  | _ => none
theorem rtl_K {st : St} : rtl E is st = rlK (runI E is st) := rfl
theorem rlK_s {x : Int64} : rlK (some (L, [.long x], g)) = some (.inr (.inr (.inr (.inl (some (.long x)), g)))) := rfl
def rdK (o : Option St) : Res := match o with
  | some (_, [.double x], g) => fn (.inl (some (.double x))) g
  | _ => none
theorem rtd_K {st : St} : rtd E is st = rdK (runI E is st) := rfl
theorem rdK_s {x : UInt64} : rdK (some (L, [.double x], g)) = some (.inr (.inr (.inr (.inl (some (.double x)), g)))) := rfl
theorem brk_K {st : St} : brk st = some (.inr (.inl st)) := rfl
theorem cnt_K {st : St} : cnt st = some (.inr (.inr (.inl st))) := rfl
theorem zr_fn {q : Out × G} : zres (some (.inr (.inr (.inr q)))) = some q := rfl
theorem zr_if {P : Prop} [Decidable P] {o o' : Res} : zres (if P then o else o') = if P then zres o else zres o' := by split <;> rfl
def swK (o : Option St) (cs : List (Int32 × Dn)) (d : Dn) : Res := match o with
  | some (L, .int x :: S, g) => swg x cs d (L, S, g)
  | _ => none
theorem swi_K {cs : List (Int32 × Dn)} {d : Dn} {st : St} : swi E is cs d st = swK (runI E is st) cs d := rfl
theorem swK_s {cs : List (Int32 × Dn)} {d : Dn} : swK (some (L, .int x :: S, g)) cs d = swg x cs d (L, S, g) := rfl
theorem swg_nil {d : Dn} {st : St} : swg x [] d st = d st := rfl
theorem swg_cons {k : Int32} {a : Dn} {cs : List (Int32 × Dn)} {d : Dn} {st : St} : swg x ((k, a) :: cs) d st = if x = k then a st else swg x cs d st := by
  show (if x = k then a else swg x cs d) st = _
  split <;> rfl
/-! loops -/
def wK (o : Res) : St ⊕ Res := match o with
  | some (.inl st) => .inl st
  | _ => .inr none
def vK (o : Res) (u : Dn) : St ⊕ Res := match o with
  | some (.inl st) => wK (u st)
  | some (.inr (.inl st)) => .inr (nm st)
  | some (.inr (.inr (.inl st))) => wK (u st)
  | some (.inr (.inr (.inr x))) => .inr (some (.inr (.inr (.inr x))))
  | none => .inr none
def tK (o : Option (Bool × St)) (b u : Dn) : St ⊕ Res := match o with
  | some (false, st) => .inr (nm st)
  | some (true, st) => vK (b st) u
  | none => .inr none
/-- a turn of a loop: it goes on, or the loop has ended -/
def stp (c : Cn) (b u : Dn) (st : St) : St ⊕ Res := tK (c st) b u
theorem stp_K {c : Cn} {b u : Dn} {st : St} : stp c b u st = tK (c st) b u := rfl
theorem tK_d {P : Prop} [Decidable P] {st : St} {b u : Dn} : tK (some (decide P, st)) b u = if P then vK (b st) u else .inr (some (.inl st)) := by
  unfold tK; by_cases h : P <;> simp [h]
theorem tK_if {P : Prop} [Decidable P] {o o' : Option (Bool × St)} {b u : Dn} : tK (if P then o else o') b u = if P then tK o b u else tK o' b u := by split <;> rfl
theorem vK_nm {st : St} {u : Dn} : vK (some (.inl st)) u = wK (u st) := rfl
theorem vK_bk {st : St} {u : Dn} : vK (some (.inr (.inl st))) u = .inr (some (.inl st)) := rfl
theorem vK_ct {st : St} {u : Dn} : vK (some (.inr (.inr (.inl st)))) u = wK (u st) := rfl
theorem vK_fn {q : Out × G} {u : Dn} : vK (some (.inr (.inr (.inr q)))) u = .inr (some (.inr (.inr (.inr q)))) := rfl
theorem vK_if {P : Prop} [Decidable P] {o o' : Res} {u : Dn} : vK (if P then o else o') u = if P then vK o u else vK o' u := by split <;> rfl
theorem wK_nm {st : St} : wK (some (.inl st)) = .inl st := rfl
theorem lop_succ {c : Cn} {b u : Dn} {N : Nat} {st : St} : lop c b u (N + 1) st = match c st with
    | some (false, st) => nm st
    | some (true, st) => match b st with
      | some (.inl st) => match u st with
        | some (.inl st) => lop c b u N st
        | _ => none
      | some (.inr (.inl st)) => nm st
      | some (.inr (.inr (.inl st))) => match u st with
        | some (.inl st) => lop c b u N st
        | _ => none
      | some (.inr (.inr (.inr x))) => some (.inr (.inr (.inr x)))
      | none => none
    | none => none := rfl
theorem lop_stp {c : Cn} {b u : Dn} {N : Nat} {st : St} : lop c b u (N + 1) st = match stp c b u st with
    | .inl st => lop c b u N st
    | .inr r => r := by
  rw [lop_succ]
  unfold stp
  cases hc : c st with
  | none => rfl
  | some q =>
    obtain ⟨t, st⟩ := q
    cases t with
    | false => rfl
    | true =>
      dsimp only [tK]
      cases hb : b st with
      | none => rfl
      | some r =>
        rcases r with st | st | st | x
        · dsimp only [vK]
          cases hu : u st with
          | none => rfl
          | some r => rcases r with st | r <;> rfl
        · rfl
        · dsimp only [vK]
          cases hu : u st with
          | none => rfl
          | some r => rcases r with st | r <;> rfl
        · rfl
/-- a loop runs n turns, and ends in the next one -/
theorem lop_run (hd : Nat → St) {c : Cn} {b u : Dn} {N : Nat} {r : Res} {st0 : St} (n : Nat) (h0 : hd 0 = st0) (hx : stp c b u (hd n) = .inr r) (h : ∀ k, k < n → stp c b u (hd k) = .inl (hd (k + 1))) (hN : n < N) : lop c b u N st0 = r := by
  subst h0
  have : ∀ m k N, k + m = n → m < N → lop c b u N (hd k) = r := by
    intro m
    induction m with
    | zero =>
      intro k N hk hN
      obtain ⟨N, rfl⟩ : ∃ j, N = j + 1 := ⟨N - 1, by omega⟩
      rw [lop_stp, show k = n by omega, hx]
    | succ m ih =>
      intro k N hk hN
      obtain ⟨N, rfl⟩ : ∃ j, N = j + 1 := ⟨N - 1, by omega⟩
      rw [lop_stp, h k (by omega)]
      exact ih (k + 1) N (by omega) (by omega)
  exact this n 0 N (by omega) hN
/-- the same, for a loop that forgets locals at its head -/
def fgK (l : List Nat) (o : St ⊕ Res) : St ⊕ Res := match o with
  | .inl st => .inl (zforget st.1 l, st.2)
  | .inr r => .inr r
theorem fgK_l {l : List Nat} : fgK l (.inl (L, S, g)) = .inl (zforget L l, S, g) := rfl
theorem fgK_r {l : List Nat} {r : Res} : fgK l (.inr r) = .inr r := rfl
theorem fgK_if {P : Prop} [Decidable P] {l : List Nat} {o o' : St ⊕ Res} : fgK l (if P then o else o') = if P then fgK l o else fgK l o' := by split <;> rfl
theorem zforget_idem : ∀ (l : List Nat) (L : List (Option Value)), zforget (zforget L l) l = zforget L l := by
  have h1 : ∀ (l : List Nat) (L : List (Option Value)) (j : Nat) , (∀ L : List (Option Value), zforget (L.set j none) l = (zforget L l).set j none) := by
    intro l
    induction l with
    | nil => intro _ _ _; rfl
    | cons i l ih =>
      intro L j L'
      show zforget ((L'.set j none).set i none) l = (zforget (L'.set i none) l).set j none
      rw [← ih [] j]
      by_cases e : i = j
      · subst e; rfl
      · rw [List.set_comm _ _ e]
  intro l
  induction l with
  | nil => intro _; rfl
  | cons i l ih =>
    intro L
    show zforget ((zforget (L.set i none) l).set i none) l = zforget (L.set i none) l
    rw [h1 l [] i, ih, ← h1 l [] i, List.set_set]
theorem lop_fg {l : List Nat} {c : Cn} {b u : Dn} {N : Nat} {st : St} : lop (cfo l c) b u N (zforget st.1 l, st.2) = lop (cfo l c) b u N st := by
  cases N with
  | zero => rfl
  | succ N =>
    rw [lop_succ, lop_succ]
    have h : cfo l c (zforget st.1 l, st.2) = cfo l c st := by
      show c (zforget (zforget st.1 l) l, st.2) = c (zforget st.1 l, st.2)
      rw [zforget_idem]
    rw [h]
theorem lop_runF {l : List Nat} (hd : Nat → St) {c : Cn} {b u : Dn} {N : Nat} {r : Res} {st0 : St} (n : Nat) (h0 : hd 0 = (zforget st0.1 l, st0.2)) (hx : stp (cfo l c) b u (hd n) = .inr r) (h : ∀ k, k < n → fgK l (stp (cfo l c) b u (hd k)) = .inl (hd (k + 1))) (hN : n < N) : lop (cfo l c) b u N st0 = r := by
  rw [← lop_fg, ← h0]
  have : ∀ m k N, k + m = n → m < N → lop (cfo l c) b u N (hd k) = r := by
    intro m
    induction m with
    | zero =>
      intro k N hk hN
      obtain ⟨N, rfl⟩ : ∃ j, N = j + 1 := ⟨N - 1, by omega⟩
      rw [lop_stp, show k = n by omega, hx]
    | succ m ih =>
      intro k N hk hN
      obtain ⟨N, rfl⟩ : ∃ j, N = j + 1 := ⟨N - 1, by omega⟩
      have h2 := h k (by omega)
      rw [lop_stp]
      cases hs : stp (cfo l c) b u (hd k) with
      | inr r => rw [hs] at h2; cases h2
      | inl st =>
        rw [hs] at h2
        have h3 : (zforget st.1 l, st.2) = hd (k + 1) := Sum.inl.inj h2
        show lop (cfo l c) b u N st = r
        rw [← lop_fg, h3]
        exact ih (k + 1) N (by omega) (by omega)
  exact this n 0 N (by omega) hN
theorem zf_nil : zforget L [] = L := rfl
theorem zf_0 {l : List Nat} {u' : Option Value} : zforget (u' :: L) (0 :: l) = zforget (none :: L) l := rfl
theorem zf_1 {l : List Nat} {u' : Option Value} : zforget (a :: u' :: L) (1 :: l) = zforget (a :: none :: L) l := rfl
theorem zf_2 {l : List Nat} {u' : Option Value} : zforget (a :: b :: u' :: L) (2 :: l) = zforget (a :: b :: none :: L) l := rfl
theorem zf_3 {l : List Nat} {u' : Option Value} : zforget (a :: b :: c :: u' :: L) (3 :: l) = zforget (a :: b :: c :: none :: L) l := rfl
theorem zf_4 {l : List Nat} {u' : Option Value} : zforget (a :: b :: c :: d :: u' :: L) (4 :: l) = zforget (a :: b :: c :: d :: none :: L) l := rfl
theorem zf_5 {l : List Nat} {u' : Option Value} : zforget (a :: b :: c :: d :: e :: u' :: L) (5 :: l) = zforget (a :: b :: c :: d :: e :: none :: L) l := rfl
theorem zf_6 {l : List Nat} {u' : Option Value} : zforget (a :: b :: c :: d :: e :: f' :: u' :: L) (6 :: l) = zforget (a :: b :: c :: d :: e :: f' :: none :: L) l := rfl
theorem zf_7 {l : List Nat} {u' : Option Value} : zforget (a :: b :: c :: d :: e :: f' :: g' :: u' :: L) (7 :: l) = zforget (a :: b :: c :: d :: e :: f' :: g' :: none :: L) l := rfl
theorem zf_8 {l : List Nat} {u' : Option Value} : zforget (a :: b :: c :: d :: e :: f' :: g' :: h' :: u' :: L) (8 :: l) = zforget (a :: b :: c :: d :: e :: f' :: g' :: h' :: none :: L) l := rfl
theorem zf_9 {l : List Nat} {u' : Option Value} : zforget (a :: b :: c :: d :: e :: f' :: g' :: h' :: i' :: u' :: L) (9 :: l) = zforget (a :: b :: c :: d :: e :: f' :: g' :: h' :: i' :: none :: L) l := rfl
theorem zf_10 {l : List Nat} {u' : Option Value} : zforget (a :: b :: c :: d :: e :: f' :: g' :: h' :: i' :: j' :: u' :: L) (10 :: l) = zforget (a :: b :: c :: d :: e :: f' :: g' :: h' :: i' :: j' :: none :: L) l := rfl
/-- a fold over the first numbers -/
def fo {α : Type} (f : Nat → α → α) (a : α) : Nat → α
  | 0 => a
  | n + 1 => f n (fo f a n)
theorem fo_0 {α : Type} {f : Nat → α → α} {a : α} : fo f a 0 = a := rfl
theorem fo_s {α : Type} {f : Nat → α → α} {a : α} {n : Nat} : fo f a (n + 1) = f n (fo f a n) := rfl
theorem fo_inv {α : Type} {f : Nat → α → α} {a : α} (P : Nat → α → Prop) (h0 : P 0 a) (n : Nat) (hs : ∀ k x, k < n → P k x → P (k + 1) (f k x)) : P n (fo f a n) := by
  have : ∀ k, k ≤ n → P k (fo f a k) := by
    intro k
    induction k with
    | zero => intro _; exact h0
    | succ k ih => intro hk; exact hs k _ (by omega) (ih (by omega))
  exact this n (Nat.le_refl n)
/-- the first number below n of a kind -/
def ff (c : Nat → Bool) : Nat → Option Nat
  | 0 => none
  | n + 1 => match ff c n with
    | some p => some p
    | none => if c n then some n else none
theorem ff_some {c : Nat → Bool} : ∀ {n p : Nat}, ff c n = some p → p < n ∧ c p = true ∧ ∀ j, j < p → c j = false
  | 0, _, h => by cases h
  | n + 1, p, h => by
    unfold ff at h
    split at h
    · rename_i q hq
      cases h
      have := ff_some hq
      exact ⟨by omega, this.2⟩
    · rename_i hq
      split at h
      · rename_i hc
        cases h
        refine ⟨by omega, hc, fun j hj => ?_⟩
        exact ff_none hq j hj
      · cases h
where ff_none {c : Nat → Bool} : ∀ {n : Nat}, ff c n = none → ∀ j, j < n → c j = false
  | 0, _, j, hj => by omega
  | n + 1, h, j, hj => by
    unfold ff at h
    split at h
    · cases h
    · rename_i hq
      split at h
      · cases h
      · rename_i hc
        by_cases e : j = n
        · rw [e]; simpa using hc
        · exact ff_none hq j (by omega)
theorem ff_none {c : Nat → Bool} {n : Nat} (h : ff c n = none) : ∀ j, j < n → c j = false := ff_some.ff_none h
theorem ff_congr {c c' : Nat → Bool} : ∀ {n : Nat}, (∀ j, j < n → c j = c' j) → ff c n = ff c' n
  | 0, _ => rfl
  | n + 1, h => by
    unfold ff
    rw [ff_congr (n := n) (fun j hj => h j (by omega)), h n (by omega)]
theorem zFU_lt {n : Nat} (h : n < 5000) : n < zFU := h
/-- a loop that looks for the first number of a kind and leaves with it -/
theorem lop_find (hd : Nat → St) (cd : Nat → Bool) {c : Cn} {b u : Dn} {N : Nat} {r0 : Res} (r1 : Nat → Res) {st0 : St} (n : Nat) (h0 : hd 0 = st0) (hx : stp c b u (hd n) = .inr r0) (h : ∀ k, k < n → stp c b u (hd k) = if cd k = true then .inr (r1 k) else .inl (hd (k + 1))) (hN : n < N) : lop c b u N st0 = match ff cd n with
    | some p => r1 p
    | none => r0 := by
  cases hf : ff cd n with
  | none =>
    exact lop_run hd n h0 hx (fun k hk => by rw [h k hk, ff_none hf k hk]; rfl) hN
  | some p =>
    have hp := ff_some hf
    exact lop_run hd p h0 (by rw [h p hp.1, hp.2.1]; rfl) (fun k hk => by rw [h k (by omega), hp.2.2 k hk]; rfl) (by omega)
end

