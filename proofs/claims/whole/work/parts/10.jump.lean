/-! ===== jumps, switches, new cells ===== -/
def swt (x : Int32) : List (Int32 × Nat) → Nat → Nat
  | [], d => d
  | (k, p) :: r, d => if x = k then p else swt x r d
theorem swt_spec {x : Int32} : ∀ {tl : List (Int32 × Nat)} {d : Nat}, (∃ q ∈ tl, q.1 = x ∧ swt x tl d = q.2) ∨ ((∀ q ∈ tl, q.1 ≠ x) ∧ swt x tl d = d)
  | [], d => Or.inr ⟨fun q h => absurd h List.not_mem_nil, rfl⟩
  | (k, p) :: r, d => by
    unfold swt
    by_cases hx : x = k
    · exact Or.inl ⟨(k, p), List.mem_cons_self, hx.symm, by rw [if_pos hx]⟩
    · rw [if_neg hx]
      rcases swt_spec (x := x) (tl := r) (d := d) with ⟨q, h1, h2, h3⟩ | ⟨h1, h2⟩
      · exact Or.inl ⟨q, List.mem_cons_of_mem _ h1, h2, h3⟩
      · exact Or.inr ⟨fun q hq => by
          rcases List.mem_cons.mp hq with rfl | hq
          · exact fun e => hx e.symm
          · exact h1 q hq, h2⟩
def zsw (cc : ByteArray) (pc : Nat) (tl : List (Int32 × Nat)) (pd : Nat) : Bool := match decode cc pc with
  | .ok (.tableswitch d lo hi offs, _) => decide ((pc : Int) + d = (pd : Int)) && (tl.all (fun q => decide (lo ≤ q.1.toInt) && (decide (q.1.toInt ≤ hi) && match offs[(q.1.toInt - lo).toNat]? with
      | some o => decide ((pc : Int) + o = (q.2 : Int))
      | none => false)) && (List.range (hi - lo + 1).toNat).all (fun i => tl.any (fun q => decide (q.1.toInt = lo + (i : Int))) || match offs[i]? with
      | some o => decide ((pc : Int) + o = (pd : Int))
      | none => false))
  | .ok (.lookupswitch d ps, _) => decide ((pc : Int) + d = (pd : Int)) && ((ps.toList.zip (ps.toList.drop 1)).all (fun (a, next) => a.1 < next.1) && (tl.all (fun q => decide ((pc : Int) + Op.lookupswitch.offset ps.toList d q.1.toInt = (q.2 : Int))) && ps.toList.all (fun r => tl.any (fun q => decide (q.1.toInt = r.1)))))
  | _ => false
theorem zoffset_none {d v : Int} : ∀ {l : List (Int × Int)}, (∀ r ∈ l, r.1 ≠ v) → Op.lookupswitch.offset l d v = d
  | [], _ => rfl
  | (a, o) :: r, h => by
    rw [Op.lookupswitch.offset_cons, if_neg (h (a, o) List.mem_cons_self)]
    exact zoffset_none fun q hq => h q (List.mem_cons_of_mem _ hq)
def SwL (K : Kp) (F : Out → G → Prop) (kb kc : St → Prop) (c0 s0 c1 s1 pe : Nat) : List (Int32 × Nat) → List (Int32 × Dn) → Prop
  | [], [] => True
  | (k, p) :: tl, (j, a) :: cl => k = j ∧ Sn K F kb kc c0 s0 p a c1 s1 pe ∧ SwL K F kb kc c0 s0 c1 s1 pe tl cl
  | _, _ => False
theorem swl_ok {K : Kp} {F : Out → G → Prop} {kb kc : St → Prop} {c0 s0 c1 s1 pe pd : Nat} {d : Dn} {x : Int32} (hd : Sn K F kb kc c0 s0 pd d c1 s1 pe) : ∀ {tl : List (Int32 × Nat)} {cl : List (Int32 × Dn)}, SwL K F kb kc c0 s0 c1 s1 pe tl cl → Sn K F kb kc c0 s0 (swt x tl pd) (swg x cl d) c1 s1 pe
  | [], [], _ => hd
  | (k, p) :: tl, (j, a) :: cl, h => by
    obtain ⟨rfl, h2, h3⟩ := h
    unfold swt swg
    by_cases hx : x = k
    · rw [if_pos hx, if_pos hx]; exact h2
    · rw [if_neg hx, if_neg hx]; exact swl_ok hd h3
  | [], _ :: _, h => h.elim
  | _ :: _, [], h => h.elim
theorem sn_sw {K : Kp} {F : Out → G → Prop} {kb kc : St → Prop} {c0 s0 c1 s1 pe pd pc : Nat} {E : Env} {is : List Instr} {cl : List (Int32 × Dn)} {d : Dn} (tl : List (Int32 × Nat)) (h : ∀ st L x S g, runI E is st = some (L, .int x :: S, g) → K c0 s0 (swt x tl pd) (L, S, g) → K c0 s0 pc st) (hs : SwL K F kb kc c0 s0 c1 s1 pe tl cl) (hd : Sn K F kb kc c0 s0 pd d c1 s1 pe) : Sn K F kb kc c0 s0 pc (swi E is cl d) c1 s1 pe := by
  intro st
  unfold swi
  cases hr : runI E is st with
  | none => trivial
  | some st' =>
    obtain ⟨L, S, g⟩ := st'
    cases S with
    | nil => trivial
    | cons v S =>
      cases v with
      | int x =>
        dsimp only
        have h2 := swl_ok (x := x) hd hs (L, S, g)
        cases hr2 : swg x cl d (L, S, g) with
        | none => trivial
        | some r2 =>
          rw [hr2] at h2
          rcases r2 with st2 | st2 | st2 | x2
          · exact fun k => h _ _ _ _ _ hr (h2 k)
          · exact fun k => h _ _ _ _ _ hr (h2 k)
          · exact fun k => h _ _ _ _ _ hr (h2 k)
          · exact fun k => h _ _ _ _ _ hr (h2 k)
      | _ => trivial
/-- what a new object of a class holds -/
def zdf (ci : Nat) : List Value := match ci with
  | 0 => [.null]
  | 1 => [.int 0, .null]
  | 2 => [.null, .null, .null, .null, .null, .int 0, .int 0, .int 0]
  | 3 => [.null, .int 0, .int 0]
  | 4 => [.int 0, .int 0, .int 0, .int 0, .int 0]
  | 5 => [.null, .null, .null, .null, .null, .int 0]
  | _ => [.null, .null, .null, .int 0, .null, .int 0, .int 0, .int 0, .int 0, .null, .int 0]
theorem zdf_ok : ∀ ci, ci < 7 → ∀ j, j < ((zcl[ci]?).getD ("", F_Row, 0)).2.2 → defaultValue (zty ci j) = vp_V (zdf ci) j := by decide +kernel
theorem zdf_tv {w : Wd} (ci : Nat) : (zdf ci).map (ztv w) = zdf ci := by
  unfold zdf
  split <;> rfl
def newO (ci : Nat) : Dn := fun (L, S, g) => if g.2 = 0 then none else nm (L, .ref g.2 :: S, (zup g.1 g.2 (cO ci (zdf ci)), g.2 + 1))
/-- a new array: of the length on the stack, at most N -/
def newI (N : Nat) : Dn := fun (L, S, g) => if g.2 = 0 then none else match S with
  | .int x :: S => if 0 ≤ x.toInt ∧ x.toInt ≤ N then nm (L, .ref g.2 :: S, (zup g.1 g.2 (cI x.toInt.toNat (fun _ => 0)), g.2 + 1)) else none
  | _ => none
def newJ (N : Nat) : Dn := fun (L, S, g) => if g.2 = 0 then none else match S with
  | .int x :: S => if 0 ≤ x.toInt ∧ x.toInt ≤ N then nm (L, .ref g.2 :: S, (zup g.1 g.2 (cJ x.toInt.toNat (fun _ => 0)), g.2 + 1)) else none
  | _ => none
def newR (N : Nat) : Dn := fun (L, S, g) => if g.2 = 0 then none else match S with
  | .int x :: S => if 0 ≤ x.toInt ∧ x.toInt ≤ N then nm (L, .ref g.2 :: S, (zup g.1 g.2 (cR x.toInt.toNat (fun _ => none)), g.2 + 1)) else none
  | _ => none
/-- a call that may make cells -/
def calD (n : Nat) (f : Ex) : Dn := fun (L, S, g) => match popN n [] S with
  | some (vs, S) => if wsum S ≤ 8 then match f vs g with
      | some (.inl o, g) => nm (L, o.toList ++ S, g)
      | _ => none
    else none
  | none => none
/-- a condition that is known to hold; to fail -/
def ast (c : Cn) : Dn := fun st => match c st with
  | some (true, st) => nm st
  | _ => none
def asf (c : Cn) : Dn := fun st => match c st with
  | some (false, st) => nm st
  | _ => none
theorem sn_ast {K : Kp} {F : Out → G → Prop} {kb kc : St → Prop} {c0 s0 pc pt pf : Nat} {d : Cn} (h : Sc K c0 s0 pc d pt pf) : Sn K F kb kc c0 s0 pc (ast d) c0 s0 pt := by
  intro st
  have h1 := h st
  unfold ast
  cases hr : d st with
  | none => trivial
  | some r =>
    obtain ⟨t, st'⟩ := r
    rw [hr] at h1
    cases t with
    | true => exact h1
    | false => trivial
theorem sn_asf {K : Kp} {F : Out → G → Prop} {kb kc : St → Prop} {c0 s0 pc pt pf : Nat} {d : Cn} (h : Sc K c0 s0 pc d pt pf) : Sn K F kb kc c0 s0 pc (asf d) c0 s0 pf := by
  intro st
  have h1 := h st
  unfold asf
  cases hr : d st with
  | none => trivial
  | some r =>
    obtain ⟨t, st'⟩ := r
    rw [hr] at h1
    cases t with
    | false => exact h1
    | true => trivial
section
variable {w : Wd} {b : Bool} {p : Program} {l : Launch} {e : Jvm.Env} {R : Room} {s : State} {m : MethodId} {args : Array Value} {below : List Frame} {meth : Method} {c : Code} {Q : State → Prop} {cc : ByteArray} {n cs ss pc : Nat} {own : String} {E : Env}
variable {L : List (Option Value)} {S : List Value} {g g' : G} {st st' : St} {o : Option Value} {H : Heap} {locs : List Loc}
theorem zj_sound {j : Instr} {S S' : List Value} {t : Bool} {tgt : Nat} (cx : CX w p s m args c cc n own) (hd : decode cc pc = .ok (j, 3)) (ht : (pc : Int) + zoff j = (tgt : Int)) (hz : zcj j S = some (t, S'))
    (kt : t = true → zK w b p l e R s m args below meth c Q n cs ss tgt (L, S', g)) (kf : t = false → zK w b p l e R s m args below meth c Q n cs ss (pc + 3) (L, S', g)) : zK w b p l e R s m args below meth c Q n cs ss pc (L, S, g) := by
  unfold zcj at hz
  split at hz
  · cases hz
    exact fun hn H locs ls hL hG hS => lv_icmp_eq cx.hx cx.hb hd ht (fun h => kt (decide_eq_true h) hn H locs ls hL hG hS) (fun h => kf (decide_eq_false h) hn H locs ls hL hG hS)
  · cases hz
    exact fun hn H locs ls hL hG hS => lv_icmp_ne cx.hx cx.hb hd ht (fun h => kt (decide_eq_true h) hn H locs ls hL hG hS) (fun h => kf (decide_eq_false (fun q => q h)) hn H locs ls hL hG hS)
  · cases hz
    exact fun hn H locs ls hL hG hS => lv_icmp_lt cx.hx cx.hb hd ht (fun h => kt (decide_eq_true h) hn H locs ls hL hG hS) (fun h => kf (decide_eq_false h) hn H locs ls hL hG hS)
  · cases hz
    exact fun hn H locs ls hL hG hS => lv_icmp_ge cx.hx cx.hb hd ht (fun h => kt (decide_eq_true h) hn H locs ls hL hG hS) (fun h => kf (decide_eq_false h) hn H locs ls hL hG hS)
  · cases hz
    exact fun hn H locs ls hL hG hS => lv_icmp_gt cx.hx cx.hb hd ht (fun h => kt (decide_eq_true h) hn H locs ls hL hG hS) (fun h => kf (decide_eq_false h) hn H locs ls hL hG hS)
  · cases hz
    exact fun hn H locs ls hL hG hS => lv_icmp_le cx.hx cx.hb hd ht (fun h => kt (decide_eq_true h) hn H locs ls hL hG hS) (fun h => kf (decide_eq_false h) hn H locs ls hL hG hS)
  · cases hz
    exact fun hn H locs ls hL hG hS => lv_if_eq cx.hx cx.hb hd ht (fun h => kt (decide_eq_true h) hn H locs ls hL hG hS) (fun h => kf (decide_eq_false h) hn H locs ls hL hG hS)
  · cases hz
    exact fun hn H locs ls hL hG hS => lv_if_ne cx.hx cx.hb hd ht (fun h => kt (decide_eq_true h) hn H locs ls hL hG hS) (fun h => kf (decide_eq_false (fun q => q h)) hn H locs ls hL hG hS)
  · cases hz
    exact fun hn H locs ls hL hG hS => lv_if_lt cx.hx cx.hb hd ht (fun h => kt (decide_eq_true h) hn H locs ls hL hG hS) (fun h => kf (decide_eq_false h) hn H locs ls hL hG hS)
  · cases hz
    exact fun hn H locs ls hL hG hS => lv_if_ge cx.hx cx.hb hd ht (fun h => kt (decide_eq_true h) hn H locs ls hL hG hS) (fun h => kf (decide_eq_false h) hn H locs ls hL hG hS)
  · cases hz
    exact fun hn H locs ls hL hG hS => lv_if_gt cx.hx cx.hb hd ht (fun h => kt (decide_eq_true h) hn H locs ls hL hG hS) (fun h => kf (decide_eq_false h) hn H locs ls hL hG hS)
  · cases hz
    exact fun hn H locs ls hL hG hS => lv_if_le cx.hx cx.hb hd ht (fun h => kt (decide_eq_true h) hn H locs ls hL hG hS) (fun h => kf (decide_eq_false h) hn H locs ls hL hG hS)
  · cases hz
    exact fun hn H locs ls hL hG hS => lv_ifnull cx.hx cx.hb hd (kf rfl hn H locs ls hL hG hS)
  · cases hz
    exact fun hn H locs ls hL hG hS => lv_ifnullN cx.hx cx.hb hd ht (kt rfl hn H locs ls hL hG hS)
  · cases hz
theorem sc_cat {is : List Instr} {j : Instr} {p1 tgt : Nat} (cx : CX w p s m args c cc n own) (eo : EnvOk w b p l e R s m args below meth c Q cc n own E) (hR : cs ≤ R.cells ∧ ss ≤ R.slots) (hz : zck cc pc is = some p1) (hd : decode cc p1 = .ok (j, 3)) (ht : (p1 : Int) + zoff j = (tgt : Int)) : Sc (zK w b p l e R s m args below meth c Q n) cs ss pc (cat E is j) tgt (p1 + 3) := by
  intro st
  unfold cat
  cases hr : runI E is st with
  | none => trivial
  | some st' =>
    obtain ⟨L, S, g⟩ := st'
    dsimp only
    cases hj : zcj j S with
    | none => trivial
    | some r =>
      obtain ⟨t, S'⟩ := r
      cases t with
      | true => exact fun k => run_sound cx eo hR is hz hr (zj_sound cx hd ht hj (fun _ => k) (fun h => by cases h))
      | false => exact fun k => run_sound cx eo hR is hz hr (zj_sound cx hd ht hj (fun h => by cases h) (fun _ => k))
theorem k_goto {off : Int} {tgt : Nat} (cx : CX w p s m args c cc n own) (hd : decode cc pc = .ok (.goto off, 3)) (ht : (pc : Int) + off = (tgt : Int)) (st : St) (k : zK w b p l e R s m args below meth c Q n cs ss tgt st) : zK w b p l e R s m args below meth c Q n cs ss pc st :=
  fun hn H locs ls hL hG hS => lv_goto cx.hx cx.hb hd ht (k hn H locs ls hL hG hS)
theorem zforget_len : ∀ (is : List Nat) (L : List (Option Value)), (zforget L is).length = L.length
  | [], _ => rfl
  | i :: is, L => by
    show (zforget (L.set i none) is).length = _
    rw [zforget_len is]; simp
theorem k_fo {is : List Nat} (st : St) (k : zK w b p l e R s m args below meth c Q n cs ss pc (zforget st.1 is, st.2)) : zK w b p l e R s m args below meth c Q n cs ss pc st :=
  fun hn H locs ls hL hG hS => k (by rw [zforget_len]; exact hn) H locs ls (LvR.forget is hL) hG hS
theorem sw_sound {is : List Instr} {p1 pd : Nat} {tl : List (Int32 × Nat)} (cx : CX w p s m args c cc n own) (eo : EnvOk w b p l e R s m args below meth c Q cc n own E) (hR : cs ≤ R.cells ∧ ss ≤ R.slots) (hz : zck cc pc is = some p1) (hd : zsw cc p1 tl pd = true) (st : St) (L : List (Option Value)) (x : Int32) (S : List Value) (g : G) (hr : runI E is st = some (L, .int x :: S, g)) (k : zK w b p l e R s m args below meth c Q n cs ss (swt x tl pd) (L, S, g)) : zK w b p l e R s m args below meth c Q n cs ss pc st := by
  refine run_sound cx eo hR is hz hr (fun hn H locs ls hL hG hS => ?_)
  have k1 := k hn H locs ls hL hG hS
  unfold zsw at hd
  split at hd
  · rename_i d lo hi offs len hdec
    simp only [Bool.and_eq_true, decide_eq_true_eq, List.all_eq_true, List.any_eq_true, Bool.or_eq_true] at hd
    obtain ⟨h1, h2, h3⟩ := hd
    rcases swt_spec (x := x) (tl := tl) (d := pd) with ⟨q, q1, q2, q3⟩ | ⟨q1, q2⟩
    · obtain ⟨a1, a2, a3⟩ := h2 q q1
      split at a3
      · rename_i off ho
        rw [q2] at a1 a2 ho
        rw [q3] at k1
        exact lv_tableIn cx.hx cx.hb hdec (by omega) (by omega) ho (of_decide_eq_true a3) k1
      · cases a3
    · rw [q2] at k1
      by_cases hlo : x.toInt < lo
      · exact lv_tableOut cx.hx cx.hb hdec (Or.inl hlo) h1 k1
      · by_cases hhi : hi < x.toInt
        · exact lv_tableOut cx.hx cx.hb hdec (Or.inr hhi) h1 k1
        · rcases h3 (x.toInt - lo).toNat (List.mem_range.mpr (by omega)) with ⟨q, hq1, hq2⟩ | h4
          · exact absurd (Int32.toInt_inj.mp (by rw [hq2]; omega)) (q1 q hq1)
          · split at h4
            · rename_i off ho
              exact lv_tableIn cx.hx cx.hb hdec hlo hhi ho (of_decide_eq_true h4) k1
            · cases h4
  · rename_i d ps len hdec
    simp only [Bool.and_eq_true, decide_eq_true_eq] at hd
    obtain ⟨h1, h2, h3, h4⟩ := hd
    rw [List.all_eq_true] at h3 h4
    rcases swt_spec (x := x) (tl := tl) (d := pd) with ⟨q, q1, q2, q3⟩ | ⟨q1, q2⟩
    · have a3 := of_decide_eq_true (h3 q q1)
      rw [q2] at a3
      rw [q3] at k1
      exact lv_lookup cx.hx cx.hb hdec h2 rfl a3 k1
    · rw [q2] at k1
      refine lv_lookup cx.hx cx.hb hdec h2 (zoffset_none fun r hr2 e2 => ?_) h1 k1
      obtain ⟨q, hq1, hq2⟩ := List.any_eq_true.mp (h4 r hr2)
      exact q1 q hq1 (Int32.toInt_inj.mp ((of_decide_eq_true hq2).trans e2))
  · cases hd
theorem zad_succ {k : Nat} (h : 4 ≤ k) : zad w (k + 1) = zad w k + 1 := by
  unfold zad; rw [if_neg (by omega), if_neg (by omega)]; omega
theorem RepG.push {H H1 : Heap} {c1 : Cel} (h : RepG w g H) (h0 : g.2 ≠ 0) (hz : H1.size = H.size + 1) (ho : ∀ q : Nat, q < H.size → H1[q]? = H[q]?) (h1 : zat w g.2 c1 H1) : RepG w (zup g.1 g.2 c1, g.2 + 1) H1 := by
  obtain ⟨h4, hsz⟩ := h.2.2 h0
  refine ⟨fun j c2 hj => ?_, by have := h.2.1; omega, fun _ => ⟨by show 4 ≤ g.2 + 1; omega, by show H1.size = zad w (g.2 + 1); rw [hz, hsz, zad_succ h4]⟩⟩
  simp only [zup] at hj
  split at hj
  · rename_i e; subst e; cases hj; exact ⟨h4, h1⟩
  · obtain ⟨a1, a2⟩ := h.1 j c2 hj
    exact ⟨a1, va_at.kept a2 (ho _ a2.lt)⟩
theorem va_S.push' {H0 H H1 : Heap} (h : va_S (zA w) H0 H locs) (hz : H1.size = H.size + 1) (ho : ∀ q : Nat, q < H.size → H1[q]? = H[q]?) : va_S (zA w) H0 H1 locs :=
  ⟨Nat.le_trans h.1 (by omega), fun q h1 h2 => (ho q (Nat.lt_of_lt_of_le h1 h.1)).trans (h.2.1 q h1 h2), h.2.2⟩
theorem sn_newO {F : Out → G → Prop} {kb kc : St → Prop} {index ci N : Nat} {C : String} (cx : CX w p s m args c cc n own) (hd : decode cc pc = .ok (.new index, 3)) (h7 : ci < 7) (hC : ((zcl[ci]?).getD ("", F_Row, 0)).1 = C) (hN : ((zcl[ci]?).getD ("", F_Row, 0)).2.2 = N) (h1 : Cond.classLink own index C ∈ lw_tbl) (h2 : Cond.instantiable C N ∈ lw_tbl) (h3 : Cond.initialized C ∈ lw_tbl) (hc : cs + 1 ≤ R.cells) (hs : ss + N ≤ R.slots) :
    Sn (zK w b p l e R s m args below meth c Q n) F kb kc cs ss pc (newO ci) (cs + 1) (ss + N) (pc + 3) := by
  intro st
  obtain ⟨L, S, g⟩ := st
  unfold newO
  by_cases h0 : g.2 = 0
  · simp only [h0, if_true]
  · simp only [h0, if_false]
    intro k hn H locs ls hL hG hS
    obtain ⟨r, hr⟩ := zcl_at h7
    rw [hr] at hC hN
    obtain ⟨C', T, N'⟩ := r
    dsimp only [Option.getD_some] at hC hN
    subst hC; subst hN
    have hKn := cx.kk.1.1 ci _ hr
    obtain ⟨h4, hsz⟩ := hG.2.2 h0
    refine W.newcK cx.hx cx.hb cx.hown (cx.hts h1 rfl) (cx.hts h2 rfl) (cx.hts h3 rfl) rfl hd hc hs hKn.2.1 hsz fun H1 kC hkC e1 z1 o1 => ?_
    rw [← hsz] at z1 o1
    refine k hn H1 locs ls hL (hG.push h0 z1 o1 ⟨_, hr, ?_⟩) (hS.push' z1 o1)
    have hdf := zdf_ok ci h7
    rw [hr] at hdf
    have h5 := (u_born (zty ci) cx.hall (zlay hr h7) hKn hkC e1 (ztyok hr h7)).to hdf
    show t_OB (zad w g.2) _ _ _ H1 (vp_V ((zdf ci).map (ztv w)))
    rw [zdf_tv]
    exact h5
end
