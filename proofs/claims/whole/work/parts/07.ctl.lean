/-! ===== blocks, conditions, branches, loops, switches, ends ===== -/
def ilen : Instr → Nat
  | .iload _ => 2
  | .aload _ => 2
  | .lload _ => 2
  | .dload _ => 2
  | .istore _ => 2
  | .astore _ => 2
  | .lstore _ => 2
  | .dstore _ => 2
  | .bipush _ => 2
  | .sipush _ => 3
  | .ldc2_w _ => 3
  | .iinc _ _ => 3
  | .getfield _ => 3
  | .putfield _ => 3
  | .getstatic _ => 3
  | .invokevirtual _ => 3
  | .invokespecial _ => 3
  | .invokestatic _ => 3
  | _ => 1
def zck (cc : ByteArray) : Nat → List Instr → Option Nat
  | pc, [] => some pc
  | pc, i :: r => if decode cc pc = .ok (i, ilen i) then zck cc (pc + ilen i) r else none
/-- how a piece of code goes on: nm: to its end; bk, ct: to the end, or the head, of the loop round it; fn: the method is left -/
abbrev Res : Type := Option (St ⊕ (St ⊕ (St ⊕ (Out × G))))
abbrev nm (st : St) : Res := some (.inl st)
abbrev bk (st : St) : Res := some (.inr (.inl st))
abbrev ct (st : St) : Res := some (.inr (.inr (.inl st)))
abbrev fn (o : Out) (g : G) : Res := some (.inr (.inr (.inr (o, g))))
abbrev Dn : Type := St → Res
abbrev Cn : Type := St → Option (Bool × St)
def blk (E : Env) (is : List Instr) : Dn := fun st => match runI E is st with
  | some st => nm st
  | none => none
def sq (a b : Dn) : Dn := fun st => match a st with
  | some (.inl st) => b st
  | some (.inr x) => some (.inr x)
  | none => none
def brk : Dn := fun st => bk st
def cnt : Dn := fun st => ct st
/-- the operands of a conditional jump: is it taken -/
def zcj (i : Instr) (S : List Value) : Option (Bool × List Value) := match i, S with
  | .if_icmp .eq _, .int y :: .int x :: S => some (decide (x = y), S)
  | .if_icmp .ne _, .int y :: .int x :: S => some (decide (¬ x = y), S)
  | .if_icmp .lt _, .int y :: .int x :: S => some (decide (x < y), S)
  | .if_icmp .ge _, .int y :: .int x :: S => some (decide (y ≤ x), S)
  | .if_icmp .gt _, .int y :: .int x :: S => some (decide (y < x), S)
  | .if_icmp .le _, .int y :: .int x :: S => some (decide (x ≤ y), S)
  | .ifCond .eq _, .int x :: S => some (decide (x = 0), S)
  | .ifCond .ne _, .int x :: S => some (decide (¬ x = 0), S)
  | .ifCond .lt _, .int x :: S => some (decide (x < 0), S)
  | .ifCond .ge _, .int x :: S => some (decide (0 ≤ x), S)
  | .ifCond .gt _, .int x :: S => some (decide (0 < x), S)
  | .ifCond .le _, .int x :: S => some (decide (x ≤ 0), S)
  | .ifnull _, .ref _ :: S => some (false, S)
  | .ifnull _, .null :: S => some (true, S)
  | _, _ => none
def zoff (i : Instr) : Int := match i with
  | .if_icmp _ o => o
  | .ifCond _ o => o
  | .ifnull o => o
  | .goto o => o
  | _ => 0
def cat (E : Env) (is : List Instr) (j : Instr) : Cn := fun st => match runI E is st with
  | some (L, S, g) => match zcj j S with
    | some (t, S) => some (t, L, S, g)
    | none => none
  | none => none
def cno (c : Cn) : Cn := fun st => match c st with
  | some (t, st) => some (!t, st)
  | none => none
def can (a b : Cn) : Cn := fun st => match a st with
  | some (true, st) => b st
  | some (false, st) => some (false, st)
  | none => none
def cor (a b : Cn) : Cn := fun st => match a st with
  | some (true, st) => some (true, st)
  | some (false, st) => b st
  | none => none
/-- forgetting locals ahead of a condition -/
def cfo (is : List Nat) (c : Cn) : Cn := fun st => c (zforget st.1 is, st.2)
def ite' (c : Cn) (a b : Dn) : Dn := fun st => match c st with
  | some (true, st) => a st
  | some (false, st) => b st
  | none => none
def lop (c : Cn) (body upd : Dn) : Nat → Dn
  | 0 => fun _ => none
  | N + 1 => fun st => match c st with
    | some (false, st) => nm st
    | some (true, st) => match body st with
      | some (.inl st) => match upd st with
        | some (.inl st) => lop c body upd N st
        | _ => none
      | some (.inr (.inl st)) => nm st
      | some (.inr (.inr (.inl st))) => match upd st with
        | some (.inl st) => lop c body upd N st
        | _ => none
      | some (.inr (.inr (.inr x))) => some (.inr (.inr (.inr x)))
      | none => none
    | none => none
/-- a switch: the first case of that number, or the default -/
def swg (x : Int32) : List (Int32 × Dn) → Dn → Dn
  | [], d => d
  | (k, a) :: r, d => if x = k then a else swg x r d
def swi (E : Env) (is : List Instr) (cs : List (Int32 × Dn)) (d : Dn) : Dn := fun st => match runI E is st with
  | some (L, .int x :: S, g) => swg x cs d (L, S, g)
  | _ => none
/-- the ends -/
def rti (E : Env) (is : List Instr) : Dn := fun st => match runI E is st with
  | some (_, [.int x], g) => fn (.inl (some (.int x))) g
  | _ => none
def rtz (E : Env) (is : List Instr) : Dn := fun st => match runI E is st with
  | some (_, [.int x], g) => if x = 0 ∨ x = 1 then fn (.inl (some (.int x))) g else none
  | _ => none
def rtl (E : Env) (is : List Instr) : Dn := fun st => match runI E is st with
  | some (_, [.long x], g) => fn (.inl (some (.long x))) g
  | _ => none
def rtd (E : Env) (is : List Instr) : Dn := fun st => match runI E is st with
  | some (_, [.double x], g) => fn (.inl (some (.double x))) g
  | _ => none
def rta (E : Env) (is : List Instr) : Dn := fun st => match runI E is st with
  | some (_, [.ref x], g) => fn (.inl (some (.ref x))) g
  | some (_, [.null], g) => fn (.inl (some .null)) g
  | _ => none
def rtv (E : Env) (is : List Instr) : Dn := fun st => match runI E is st with
  | some (_, [], g) => fn (.inl none) g
  | _ => none
/-- the locals at the entry -/
def zsl : List Value → List (Option Value)
  | [] => []
  | .long x :: r => some (.long x) :: none :: zsl r
  | .double x :: r => some (.double x) :: none :: zsl r
  | v :: r => some v :: zsl r
def zpad (n : Nat) (l : List (Option Value)) : List (Option Value) := l ++ List.replicate (n - l.length) none
/-- what a method does -/
def exm (n : Nat) (d : Dn) : Ex := fun vs g => if (zsl vs).length ≤ n then match d (zpad n (zsl vs), [], g) with
    | some (.inr (.inr (.inr x))) => some x
    | _ => none
  else none
section
variable {w : Wd} {b : Bool} {p : Program} {l : Launch} {e : Jvm.Env} {R : Room} {s : State} {m : MethodId} {args : Array Value} {below : List Frame} {meth : Method} {c : Code} {Q : State → Prop} {cc : ByteArray} {n cs ss pc : Nat} {own : String} {E : Env}
variable {L : List (Option Value)} {S : List Value} {g : G} {st st' : St}
theorem xI_sound {i : Instr} (cx : CX w p s m args c cc n own) (eo : EnvOk w b p l e R s m args below meth c Q cc n own E) (hR : cs ≤ R.cells ∧ ss ≤ R.slots) (h : xI E i st = some st') (hd : decode cc pc = .ok (i, ilen i)) (k : Kn w b p l e R s m args below meth c Q n cs ss (pc + ilen i) st') : Kn w b p l e R s m args below meth c Q n cs ss pc st := by
  cases i
  case iload_n => exact xs_iload_n cx eo h hd k
  case iload => exact xs_iload cx eo h hd k
  case aload_n => exact xs_aload_n cx eo h hd k
  case aload => exact xs_aload cx eo h hd k
  case lload_n => exact xs_lload_n cx eo h hd k
  case lload => exact xs_lload cx eo h hd k
  case dload_n => exact xs_dload_n cx eo h hd k
  case dload => exact xs_dload cx eo h hd k
  case iconst => exact xs_iconst cx eo h hd k
  case bipush => exact xs_bipush cx eo h hd k
  case sipush => exact xs_sipush cx eo h hd k
  case lconst => exact xs_lconst cx eo h hd k
  case dconst => exact xs_dconst cx eo h hd k
  case ldc2_w => exact xs_ldc2 cx eo h hd k
  case istore_n => exact xs_istore_n cx eo h hd k
  case istore => exact xs_istore cx eo h hd k
  case astore_n => exact xs_astore_n cx eo h hd k
  case astore => exact xs_astore cx eo h hd k
  case lstore_n => exact xs_lstore_n cx eo h hd k
  case lstore => exact xs_lstore cx eo h hd k
  case dstore_n => exact xs_dstore_n cx eo h hd k
  case dstore => exact xs_dstore cx eo h hd k
  case iinc => exact xs_iinc cx eo h hd k
  case iadd => exact xs_iadd cx eo h hd k
  case isub => exact xs_isub cx eo h hd k
  case imul => exact xs_imul cx eo h hd k
  case idiv => exact xs_idiv cx eo h hd k
  case irem => exact xs_irem cx eo h hd k
  case iand => exact xs_iand cx eo h hd k
  case ladd => exact xs_ladd cx eo h hd k
  case lsub => exact xs_lsub cx eo h hd k
  case lmul => exact xs_lmul cx eo h hd k
  case lshl => exact xs_lshl cx eo h hd k
  case i2l => exact xs_i2l cx eo h hd k
  case i2d => exact xs_i2d cx eo h hd k
  case d2l => exact xs_d2l cx eo h hd k
  case dmul => exact xs_dmul cx eo h hd k
  case ddiv => exact xs_ddiv cx eo h hd k
  case dsub => exact xs_dsub cx eo h hd k
  case lcmp => exact xs_lcmp cx eo h hd k
  case dcmp => exact xs_dcmp cx eo h hd k
  case dup => exact xs_dup cx eo h hd k
  case dup2 => exact xs_dup2 cx eo h hd k
  case pop => exact xs_pop cx eo h hd k
  case aconst_null => exact xs_aconst_null cx eo h hd k
  case arraylength => exact xs_arraylength cx eo h hd k
  case iaload => exact xs_iaload cx eo h hd k
  case iastore => exact xs_iastore cx eo h hd k
  case laload => exact xs_laload cx eo h hd k
  case lastore => exact xs_lastore cx eo h hd k
  case aaload => exact xs_aaload cx eo h hd k
  case aastore => exact xs_aastore cx eo h hd k
  case getfield => exact xs_getfield cx eo h hd k
  case putfield => exact xs_putfield cx eo h hd k
  case getstatic => exact xs_getstatic cx eo h hd k
  case invokevirtual => obtain ⟨L, S, g⟩ := st; exact xs_call eo hR h hd k
  case invokespecial => obtain ⟨L, S, g⟩ := st; exact xs_call eo hR h hd k
  case invokestatic => obtain ⟨L, S, g⟩ := st; exact xs_call eo hR h hd k
  all_goals (obtain ⟨L, S, g⟩ := st; cases (show (none : Option St) = some st' from h))
theorem run_sound (cx : CX w p s m args c cc n own) (eo : EnvOk w b p l e R s m args below meth c Q cc n own E) (hR : cs ≤ R.cells ∧ ss ≤ R.slots) : ∀ (is : List Instr) {pc pe : Nat} {st st' : St}, zck cc pc is = some pe → runI E is st = some st' → Kn w b p l e R s m args below meth c Q n cs ss pe st' → Kn w b p l e R s m args below meth c Q n cs ss pc st
  | [], pc, pe, st, st', hz, hr, k => by
    cases hz; cases hr; exact k
  | i :: r, pc, pe, st, st', hz, hr, k => by
    unfold zck at hz
    split at hz
    · rename_i hd
      unfold runI at hr
      split at hr
      · rename_i st1 h1
        exact xI_sound cx eo hR h1 hd (run_sound cx eo hR r hz hr k)
      · cases hr
    · cases hz
end
