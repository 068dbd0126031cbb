/-! ===== straight instructions: what they do to a picture ===== -/
/-- no local of two words; fields (index, class, place); calls (instruction, arguments with the receiver, what it does); constants; statics (index, place); the static arrays; may final fields be set -/
abbrev Env : Type := Bool × List (Nat × Nat × Nat) × List (Instr × Nat × Ex) × List (Nat × Value) × List (Nat × Nat) × (Nat → Option (Nat × (Nat → Int32))) × Bool
def eB (E : Env) : Bool := E.1
def eF (E : Env) : List (Nat × Nat × Nat) := E.2.1
def eC (E : Env) : List (Instr × Nat × Ex) := E.2.2.1
def eK (E : Env) : List (Nat × Value) := E.2.2.2.1
def eS (E : Env) : List (Nat × Nat) := E.2.2.2.2.1
def eT (E : Env) : Nat → Option (Nat × (Nat → Int32)) := E.2.2.2.2.2.1
def eI (E : Env) : Bool := E.2.2.2.2.2.2
def lookN {α : Type} (l : List (Nat × α)) (k : Nat) : Option α := match l with
  | [] => none
  | (j, a) :: r => if j = k then some a else lookN r k
def lookI {α : Type} (l : List (Instr × α)) (k : Instr) : Option α := match l with
  | [] => none
  | (j, a) :: r => if j = k then some a else lookI r k
theorem lookN_mem {α : Type} {l : List (Nat × α)} {k : Nat} {a : α} (h : lookN l k = some a) : (k, a) ∈ l := by
  induction l with
  | nil => cases h
  | cons x r ih =>
    obtain ⟨j, b⟩ := x
    unfold lookN at h
    split at h
    · rename_i e; subst e; cases h; exact List.mem_cons_self
    · exact List.mem_cons_of_mem _ (ih h)
theorem lookI_mem {α : Type} {l : List (Instr × α)} {k : Instr} {a : α} (h : lookI l k = some a) : (k, a) ∈ l := by
  induction l with
  | nil => cases h
  | cons x r ih =>
    obtain ⟨j, b⟩ := x
    unfold lookI at h
    split at h
    · rename_i e; subst e; cases h; exact List.mem_cons_self
    · exact List.mem_cons_of_mem _ (ih h)
def popN : Nat → List Value → List Value → Option (List Value × List Value)
  | 0, acc, S => some (acc, S)
  | n + 1, acc, v :: S => popN n (v :: acc) S
  | _ + 1, _, [] => none
theorem popN_spec : ∀ {n : Nat} {acc S vs S' : List Value}, popN n acc S = some (vs, S') → ∃ us, vs = us ++ acc ∧ us.length = n ∧ S = us.reverse ++ S'
  | 0, acc, S, vs, S', h => by cases h; exact ⟨[], rfl, rfl, rfl⟩
  | n + 1, acc, v :: S, vs, S', h => by
    obtain ⟨us, e1, e2, e3⟩ := popN_spec (n := n) h
    exact ⟨us ++ [v], by rw [e1]; simp, by simp [e2], by rw [e3]; simp⟩
  | n + 1, acc, [], vs, S', h => by cases h
def wsum : List Value → Nat
  | [] => 0
  | .long _ :: r => wsum r + 2
  | .double _ :: r => wsum r + 2
  | .int _ :: r => wsum r + 1
  | .ref _ :: r => wsum r + 1
  | .null :: r => wsum r + 1
  | .float _ :: r => wsum r + 1
  | _ :: r => wsum r + 2
theorem cat_le (v : Value) : v.category ≤ 2 := by rcases lv_cat v with h | h <;> omega
theorem wsum_ge : ∀ S : List Value, (S.map fun v => v.category).sum ≤ wsum S
  | [] => Nat.le_refl _
  | v :: r => by
    have ih := wsum_ge r
    have hc : wsum r + v.category ≤ wsum (v :: r) := by cases v <;> simp [wsum, Value.category]
    simp only [List.map_cons, List.sum_cons]
    omega
theorem wsum_tv {w : Wd} : ∀ S : List Value, ((S.map (ztv w)).map fun v => v.category).sum ≤ wsum S
  | S => by
    rw [List.map_map]
    have : ((fun v : Value => v.category) ∘ ztv w) = fun v => v.category := by funext v; exact ztv_cat w v
    rw [this]; exact wsum_ge S
/-- an index within n -/
def zix (i : Int32) (n : Nat) : Option Nat := if 0 ≤ i.toInt ∧ i.toInt < n then some i.toInt.toNat else none
theorem zix_in {i : Int32} {n j : Nat} (h : zix i n = some j) : vp_in i n ∧ i.toNatClampNeg = j := by
  unfold zix at h
  split at h
  · rename_i q
    cases h
    exact ⟨vp_in_iff.mpr q, rfl⟩
  · cases h
def zfit (ty : FieldType) (v : Value) : Bool := match ty, v with
  | .int, .int _ => true
  | .boolean, .int x => decide (x = 0) || decide (x = 1)
  | .object _, .ref _ => true
  | .array _, .ref _ => true
  | _, _ => false
theorem zfit_ok {w : Wd} {ty : FieldType} {v : Value} (h : zfit ty v = true) : narrow ty (ztv w v) = ztv w v ∧ fits ty (ztv w v) = true := by
  unfold zfit at h
  split at h
  · exact ⟨rfl, rfl⟩
  · rename_i x
    simp only [Bool.or_eq_true, decide_eq_true_eq] at h
    rcases h with rfl | rfl <;> exact ⟨rfl, rfl⟩
  · exact ⟨rfl, rfl⟩
  · exact ⟨rfl, rfl⟩
  · cases h
def xI (E : Env) : Instr → St → Option St
  | .iload_n k, (L, S, g) => match L[(k : Nat)]? with
    | some (some (.int x)) => some (L, .int x :: S, g)
    | _ => none
  | .iload k, (L, S, g) => match L[k]? with
    | some (some (.int x)) => some (L, .int x :: S, g)
    | _ => none
  | .aload_n k, (L, S, g) => match L[(k : Nat)]? with
    | some (some (.ref x)) => some (L, .ref x :: S, g)
    | _ => none
  | .aload k, (L, S, g) => match L[k]? with
    | some (some (.ref x)) => some (L, .ref x :: S, g)
    | _ => none
  | .lload_n k, (L, S, g) => match L[(k : Nat)]? with
    | some (some (.long x)) => some (L, .long x :: S, g)
    | _ => none
  | .lload k, (L, S, g) => match L[k]? with
    | some (some (.long x)) => some (L, .long x :: S, g)
    | _ => none
  | .dload_n k, (L, S, g) => match L[(k : Nat)]? with
    | some (some (.double x)) => some (L, .double x :: S, g)
    | _ => none
  | .dload k, (L, S, g) => match L[k]? with
    | some (some (.double x)) => some (L, .double x :: S, g)
    | _ => none
  | .iconst n, (L, S, g) => some (L, .int (Int32.ofInt n) :: S, g)
  | .bipush n, (L, S, g) => some (L, .int (Int8.ofInt n).toInt32 :: S, g)
  | .sipush n, (L, S, g) => some (L, .int (Int16.ofInt n).toInt32 :: S, g)
  | .lconst n, (L, S, g) => some (L, .long (Int64.ofNat (n : Nat)) :: S, g)
  | .dconst n, (L, S, g) => match n with
    | 0 => some (L, .double FP.dconst0 :: S, g)
    | 1 => some (L, .double FP.dconst1 :: S, g)
  | .ldc2_w k, (L, S, g) => match lookN (eK E) k with
    | some v => some (L, v :: S, g)
    | none => none
  | .istore_n k, (L, S, g) => match S with
    | .int x :: S => if (k : Nat) < L.length then some (stL (eB E) L k (.int x), S, g) else none
    | _ => none
  | .istore k, (L, S, g) => match S with
    | .int x :: S => if k < L.length then some (stL (eB E) L k (.int x), S, g) else none
    | _ => none
  | .astore_n k, (L, S, g) => match S with
    | .ref x :: S => if (k : Nat) < L.length then some (stL (eB E) L k (.ref x), S, g) else none
    | _ => none
  | .astore k, (L, S, g) => match S with
    | .ref x :: S => if k < L.length then some (stL (eB E) L k (.ref x), S, g) else none
    | _ => none
  | .lstore_n k, (L, S, g) => match eB E, S with
    | false, .long x :: S => if (k : Nat) + 1 < L.length then some (stL2 L k (.long x), S, g) else none
    | _, _ => none
  | .lstore k, (L, S, g) => match eB E, S with
    | false, .long x :: S => if k + 1 < L.length then some (stL2 L k (.long x), S, g) else none
    | _, _ => none
  | .dstore_n k, (L, S, g) => match eB E, S with
    | false, .double x :: S => if (k : Nat) + 1 < L.length then some (stL2 L k (.double x), S, g) else none
    | _, _ => none
  | .dstore k, (L, S, g) => match eB E, S with
    | false, .double x :: S => if k + 1 < L.length then some (stL2 L k (.double x), S, g) else none
    | _, _ => none
  | .iinc k n, (L, S, g) => match L[k]? with
    | some (some (.int x)) => some (stL (eB E) L k (.int (x + Int32.ofInt n)), S, g)
    | _ => none
  | .iadd, (L, S, g) => match S with
    | .int y :: .int x :: S => some (L, .int (x + y) :: S, g)
    | _ => none
  | .isub, (L, S, g) => match S with
    | .int y :: .int x :: S => some (L, .int (x - y) :: S, g)
    | _ => none
  | .imul, (L, S, g) => match S with
    | .int y :: .int x :: S => some (L, .int (x * y) :: S, g)
    | _ => none
  | .idiv, (L, S, g) => match S with
    | .int y :: .int x :: S => if y = 0 then none else some (L, .int (x / y) :: S, g)
    | _ => none
  | .irem, (L, S, g) => match S with
    | .int y :: .int x :: S => if y = 0 then none else some (L, .int (x - x / y * y) :: S, g)
    | _ => none
  | .iand, (L, S, g) => match S with
    | .int y :: .int x :: S => some (L, .int (x &&& y) :: S, g)
    | _ => none
  | .ladd, (L, S, g) => match S with
    | .long y :: .long x :: S => some (L, .long (x + y) :: S, g)
    | _ => none
  | .lsub, (L, S, g) => match S with
    | .long y :: .long x :: S => some (L, .long (x - y) :: S, g)
    | _ => none
  | .lmul, (L, S, g) => match S with
    | .long y :: .long x :: S => some (L, .long (x * y) :: S, g)
    | _ => none
  | .lshl, (L, S, g) => match S with
    | .int y :: .long x :: S => some (L, .long (x <<< (y.toInt64 &&& 63)) :: S, g)
    | _ => none
  | .i2l, (L, S, g) => match S with
    | .int x :: S => some (L, .long x.toInt64 :: S, g)
    | _ => none
  | .i2d, (L, S, g) => match S with
    | .int x :: S => some (L, .double (FP.i2d x) :: S, g)
    | _ => none
  | .d2l, (L, S, g) => match S with
    | .double x :: S => some (L, .long (FP.d2l x) :: S, g)
    | _ => none
  | .dmul, (L, S, g) => match S with
    | .double y :: .double x :: S => if FP.dmul x y &&& 0x7fffffffffffffff ≤ 0x7ff0000000000000 then some (L, .double (FP.dmul x y) :: S, g) else none
    | _ => none
  | .ddiv, (L, S, g) => match S with
    | .double y :: .double x :: S => if FP.ddiv x y &&& 0x7fffffffffffffff ≤ 0x7ff0000000000000 then some (L, .double (FP.ddiv x y) :: S, g) else none
    | _ => none
  | .dsub, (L, S, g) => match S with
    | .double y :: .double x :: S => if FP.dsub x y &&& 0x7fffffffffffffff ≤ 0x7ff0000000000000 then some (L, .double (FP.dsub x y) :: S, g) else none
    | _ => none
  | .lcmp, (L, S, g) => match S with
    | .long y :: .long x :: S => some (L, .int (lg_cmp x y) :: S, g)
    | _ => none
  | .dcmp op, (L, S, g) => match S with
    | .double y :: .double x :: S => some (L, .int (Op.cmpValue (FP.dcmp x y) op) :: S, g)
    | _ => none
  | .dup, (L, S, g) => match S with
    | .int x :: S => some (L, .int x :: .int x :: S, g)
    | .ref x :: S => some (L, .ref x :: .ref x :: S, g)
    | _ => none
  | .dup2, (L, S, g) => match S with
    | .int y :: .ref x :: S => some (L, .int y :: .ref x :: .int y :: .ref x :: S, g)
    | _ => none
  | .pop, (L, S, g) => match S with
    | .int _ :: S => some (L, S, g)
    | _ => none
  | .arraylength, (L, S, g) => match S with
    | .ref a :: S => match g.1 a with
      | some (.inl (.inl (n, _))) => some (L, .int (nI n) :: S, g)
      | some (.inl (.inr (.inl (n, _)))) => some (L, .int (nI n) :: S, g)
      | some (.inl (.inr (.inr (n, _)))) => some (L, .int (nI n) :: S, g)
      | some (.inr _) => none
      | none => match eT E a with
        | some (n, _) => some (L, .int (nI n) :: S, g)
        | none => none
    | _ => none
  | .iaload, (L, S, g) => match S with
    | .int i :: .ref a :: S => match g.1 a with
      | some (.inl (.inl (n, f))) => match zix i n with
        | some j => some (L, .int (f j) :: S, g)
        | none => none
      | some _ => none
      | none => match eT E a with
        | some (n, f) => match zix i n with
          | some j => some (L, .int (f j) :: S, g)
          | none => none
        | none => none
    | _ => none
  | .iastore, (L, S, g) => match S with
    | .int x :: .int i :: .ref a :: S => match g.1 a with
      | some (.inl (.inl (n, f))) => match zix i n with
        | some j => some (L, S, (zup g.1 a (cI n (upd f j x)), g.2))
        | none => none
      | _ => none
    | _ => none
  | .laload, (L, S, g) => match S with
    | .int i :: .ref a :: S => match g.1 a with
      | some (.inl (.inr (.inl (n, f)))) => match zix i n with
        | some j => some (L, .long (f j) :: S, g)
        | none => none
      | _ => none
    | _ => none
  | .lastore, (L, S, g) => match S with
    | .long x :: .int i :: .ref a :: S => match g.1 a with
      | some (.inl (.inr (.inl (n, f)))) => match zix i n with
        | some j => some (L, S, (zup g.1 a (cJ n (vp_updL f j x)), g.2))
        | none => none
      | _ => none
    | _ => none
  | .aaload, (L, S, g) => match S with
    | .int i :: .ref a :: S => match g.1 a with
      | some (.inl (.inr (.inr (n, f)))) => match zix i n with
        | some j => match f j with
          | some q => some (L, .ref q :: S, g)
          | none => some (L, .null :: S, g)
        | none => none
      | _ => none
    | _ => none
  | .aastore, (L, S, g) => match S with
    | .ref v :: .int i :: .ref a :: S => match g.1 a with
      | some (.inl (.inr (.inr (n, f)))) => match zix i n with
        | some j => match g.1 v with
          | some (.inr (2, _)) => some (L, S, (zup g.1 a (cR n (va_up f j (some v))), g.2))
          | _ => none
        | none => none
      | _ => none
    | _ => none
  | .aconst_null, (L, S, g) => some (L, .null :: S, g)
  | .getfield k, (L, S, g) => match S with
    | .ref a :: S => match g.1 a with
      | some (.inr (ci, fs)) => match lookN (eF E) k with
        | some (cj, j) => if ci = cj then match fs[j]? with
            | some v => some (L, v :: S, g)
            | none => none
          else none
        | none => none
      | _ => none
    | _ => none
  | .putfield k, (L, S, g) => match S with
    | v :: .ref a :: S => match g.1 a with
      | some (.inr (ci, fs)) => match lookN (eF E) k with
        | some (cj, j) => if ci = cj ∧ zfit (zty ci j) v = true ∧ j < fs.length ∧ ((((zcl[ci]?).getD ("", F_Row, 0)).2.1 j).2.2.2 = false ∨ eI E = true) then some (L, S, (zup g.1 a (cO ci (fs.set j v)), g.2))
          else none
        | none => none
      | _ => none
    | _ => none
  | .getstatic k, (L, S, g) => match lookN (eS E) k with
    | some j => some (L, .ref j :: S, g)
    | none => none
  | .invokevirtual k, (L, S, g) => match lookI (eC E) (.invokevirtual k) with
    | some (n, f) => match popN n [] S with
      | some (vs, S) => if wsum S ≤ 8 then match f vs g with
          | some (.inl o, g) => some (L, o.toList ++ S, g)
          | _ => none
        else none
      | none => none
    | none => none
  | .invokespecial k, (L, S, g) => match lookI (eC E) (.invokespecial k) with
    | some (n, f) => match popN n [] S with
      | some (vs, S) => if wsum S ≤ 8 then match f vs g with
          | some (.inl o, g) => some (L, o.toList ++ S, g)
          | _ => none
        else none
      | none => none
    | none => none
  | .invokestatic k, (L, S, g) => match lookI (eC E) (.invokestatic k) with
    | some (n, f) => match popN n [] S with
      | some (vs, S) => if wsum S ≤ 8 then match f vs g with
          | some (.inl o, g) => some (L, o.toList ++ S, g)
          | _ => none
        else none
      | none => none
    | none => none
  | _, _ => none
def runI (E : Env) : List Instr → St → Option St
  | [], st => some st
  | i :: r, st => match xI E i st with
    | some st => runI E r st
    | none => none
def zchk (cc : ByteArray) : Nat → List Instr → Option Nat
  | pc, [] => some pc
  | pc, i :: r => match decode cc pc with
    | .ok (j, n) => if j = i then zchk cc (pc + n) r else none
    | _ => none
