/-! ===== the law: calls of what catches; its loop; its ends ===== -/
section
variable {w : Wd} {b : Bool} {p : Program} {l : Launch} {e : Jvm.Env} {R : Room} {s : State} {m : MethodId} {args : Array Value} {below : List Frame} {meth : Method} {c : Code} {Q : State → Prop} {cc : ByteArray} {n cs ss pc : Nat} {own : String} {E : Env}
variable {L : List (Option Value)} {S : List Value} {g g' : G} {st st' : St} {o : Option Value} {H : Heap} {locs : List Loc}
variable {mc ms pe p1 c1 s1 tgt : Nat} {F : Out → G → Prop} {ret : Option FieldType} {kb kc : St → Prop} {is : List Instr}
theorem call_SW (cx : CX w p s m args c cc n own) (hKX : KX w s) {y : MethodName} {bytes : ByteArray} {maxL idx nn : Nat} {hh : List (Nat × Nat × Nat × Nat)} {rm : Room} {f : Ex} (hct : CTW w l y bytes maxL ret hh rm f) (hcode : Cond.codeWith y bytes maxL ret hh ∈ lw_tbl) (hlink : Cond.methodLink own idx y ∈ lw_tbl) (hini : Cond.initialized y.cls ∈ lw_tbl) (hst : Cond.static y ∈ lw_tbl)
    (hd : y.cls ≠ "java/lang/invoke/MethodHandle" ∧ y.cls ≠ "java/lang/invoke/VarHandle" ∧ (parseMethodDescriptor y.desc).map (fun d => d.parameters.length) = some nn) (hR : rm.frames + 1 ≤ R.frames ∧ 8 + (maxL + 11) + rm.locals ≤ R.locals) :
    CallOk w b p l e R s m args below meth c Q cc n rm.cells rm.slots (.invokestatic idx, nn, f) := by
  intro cs ss pc L S vs g g' o hc hs hdg hlen h8 hf k hn H locs ls hL hG hS
  have hG2 : GoodIn zW (Cond.codeWith y bytes maxL ret hh :: zW) := fun x hx => by
    rcases List.mem_cons.mp hx with rfl | hx
    · exact ⟨List.mem_filter.mpr ⟨hcode, rfl⟩, Or.inl rfl⟩
    · exact zW_good x hx
  have hcw : vx_CSW R s args own idx y bytes maxL ret hh (Cond.codeWith y bytes maxL ret hh :: zW) rm rm.cells rm.slots nn :=
    ⟨⟨rfl, rfl, hR.1, hR.2, pay_in cx.hall hG2, List.mem_cons_self⟩, cx.hts hcode rfl, cx.hts hini rfl, ⟨hd.1, hd.2.1⟩, fun sig h => by
      have h2 := hd.2.2
      rw [h] at h2
      exact (Option.some.inj h2).symm, cx.hts hlink rfl, cx.hts hst rfl⟩
  have hrun := vx_runSW (e := e) (below := below) (meth := meth) (As := vs.map (ztv w)) (rest := S.map (ztv w)) (g := F0 m pc ls ((vs.reverse ++ S).map (ztv w))) (cells := cs) (slots := ss) (locs := locs) (H := H) ⟨cx.hx, cx.hb, cx.hml, cx.hown, cx.hall⟩ (hct _ _ _ _ hf) hcw
    ⟨zPX_blind, fun U hU hW => ⟨rfl, ⟨KK.warm hW (fun a h1 h2 => by rw [hU]; exact hS.2.1 a h1 h2) cx.kk, KX.warm hW (fun a h1 h2 => by rw [hU]; exact hS.2.1 a h1 h2) hKX⟩, by rw [hU]; exact hG⟩⟩ rfl (by simp at hlen ⊢; exact hlen) (by show ls.size = n; rw [hL.2.1]; exact hn) (by show List.map _ _ = _; simp) (lv_room (Nat.le_trans (wsum_tv S) h8)) hdg ⟨hc, hs⟩
  refine run_then hrun hS fun H1 locs1 hG1 hS1 => ?_
  have k1 := k hn H1 locs1 ls hL hG1 hS1
  cases o <;> exact k1
theorem k_mono {c2 s2 : Nat} (h1 : cs ≤ c2) (h2 : ss ≤ s2) (st : St) (k : zK w b p l e R s m args below meth c Q n c2 s2 pc st) : zK w b p l e R s m args below meth c Q n cs ss pc st :=
  fun hn H locs ls hL hG hS => W.widen h1 h2 (k hn H locs ls hL hG hS)
def LC (w : Wd) (p : Program) (l : Launch) (e : Jvm.Env) (R : Room) (s : State) (m : MethodId) (args : Array Value) (below : List Frame) (meth : Method) (c : Code) (Q : State → Prop) (cc : ByteArray) (n : Nat) (own : String) (E : Env) : Prop :=
  CX w p s m args c cc n own ∧ EnvOk w false p l e R s m args below meth c Q cc n own E
theorem l_blk (h : LC w p l e R s m args below meth c Q cc n own E) (hR : cs ≤ R.cells ∧ ss ≤ R.slots) (hz : zck cc pc is = some pe) : Sn (zK w false p l e R s m args below meth c Q n) F kb kc cs ss pc (blk E is) cs ss pe :=
  sn_blk fun _ _ hr k => run_sound h.1 h.2 hR is hz hr k
theorem l_cat {j : Instr} (h : LC w p l e R s m args below meth c Q cc n own E) (hR : cs ≤ R.cells ∧ ss ≤ R.slots) (hz : zck cc pc is = some p1) (hd : decode cc p1 = .ok (j, 3)) (ht : (p1 : Int) + zoff j = (tgt : Int)) : Sc (zK w false p l e R s m args below meth c Q n) cs ss pc (cat E is j) tgt (p1 + 3) := sc_cat h.1 h.2 hR hz hd ht
theorem l_goto {off : Int} (h : LC w p l e R s m args below meth c Q cc n own E) (hd : decode cc pc = .ok (.goto off, 3)) (ht : (pc : Int) + off = (tgt : Int)) (st : St) (k : zK w false p l e R s m args below meth c Q n cs ss tgt st) : zK w false p l e R s m args below meth c Q n cs ss pc st := k_goto h.1 hd ht st k
theorem l_gotoW {off : Int} {c2 s2 : Nat} (h : LC w p l e R s m args below meth c Q cc n own E) (hd : decode cc pc = .ok (.goto off, 3)) (ht : (pc : Int) + off = (tgt : Int)) (h1 : cs ≤ c2) (h2 : ss ≤ s2) (st : St) (k : zK w false p l e R s m args below meth c Q n c2 s2 tgt st) : zK w false p l e R s m args below meth c Q n cs ss pc st := k_goto h.1 hd ht st (k_mono h1 h2 st k)
theorem l_wide {d : Dn} {c0 s0 c2 s2 : Nat} (h1 : c1 ≤ c2) (h2 : s1 ≤ s2) (h : Sn (zK w false p l e R s m args below meth c Q n) F kb kc c0 s0 pc d c1 s1 pe) : Sn (zK w false p l e R s m args below meth c Q n) F kb kc c0 s0 pc d c2 s2 pe := by
  intro st
  have h3 := h st
  cases hr : d st with
  | none => trivial
  | some r =>
    rw [hr] at h3
    rcases r with r | r | r | x
    · exact fun k => h3 (k_mono h1 h2 _ k)
    · exact h3
    · exact h3
    · exact h3
/-- an answer that the law must not give -/
theorem l_ret0 {g0 : Out → G → Prop} (hF : ∀ g1, ¬ F (.inl (some (.int 0))) g1) : Sn (zK w false p l e R s m args below meth c Q n) F kb kc cs ss pc (rti E [.iconst 0]) c1 s1 pe := by
  intro st
  obtain ⟨L, S, g⟩ := st
  cases S with
  | nil => exact fun h => absurd h (hF _)
  | cons v S => trivial
theorem l_sw {cl : List (Int32 × Dn)} {d : Dn} {pd : Nat} (h : LC w p l e R s m args below meth c Q cc n own E) (hR : cs ≤ R.cells ∧ ss ≤ R.slots) (tl : List (Int32 × Nat)) (hz : zck cc pc is = some p1) (hd : zsw cc p1 tl pd = true) (hs : SwL (zK w false p l e R s m args below meth c Q n) F kb kc cs ss c1 s1 pe tl cl) (hdf : Sn (zK w false p l e R s m args below meth c Q n) F kb kc cs ss pd d c1 s1 pe) : Sn (zK w false p l e R s m args below meth c Q n) F kb kc cs ss pc (swi E is cl d) c1 s1 pe :=
  sn_sw tl (fun st L x S g hr k => sw_sound h.1 h.2 hR hz hd st L x S g hr k) hs hdf
/-- a loop that makes cells at each turn -/
theorem sn_lopA {C1 S1 pt px pu p2 dc ds : Nat} {d : Cn} {body upd : Dn} (hc : ∀ cs ss, cs ≤ C1 → ss ≤ S1 → Sc (zK w b p l e R s m args below meth c Q n) cs ss pc d pt px)
    (hb : ∀ cs ss, cs + dc ≤ C1 → ss + ds ≤ S1 → Sn (zK w b p l e R s m args below meth c Q n) F (zK w b p l e R s m args below meth c Q n (cs + dc) (ss + ds) px) (zK w b p l e R s m args below meth c Q n (cs + dc) (ss + ds) pu) cs ss pt body (cs + dc) (ss + ds) pu)
    (hu : ∀ cs ss, cs ≤ C1 → ss ≤ S1 → Sn (zK w b p l e R s m args below meth c Q n) F (fun _ => False) (fun _ => False) cs ss pu upd cs ss p2)
    (hg : ∀ cs ss st, zK w b p l e R s m args below meth c Q n cs ss pc st → zK w b p l e R s m args below meth c Q n cs ss p2 st) : ∀ N cs ss, cs + dc * N ≤ C1 → ss + ds * N ≤ S1 → Sn (zK w b p l e R s m args below meth c Q n) F kb kc cs ss pc (lop d body upd N) (cs + dc * N) (ss + ds * N) px
  | 0, cs, ss, _, _ => fun st => trivial
  | N + 1, cs, ss, h1, h2 => by
    have e1 : cs + dc * (N + 1) = cs + dc + dc * N := by rw [Nat.mul_succ]; omega
    have e2 : ss + ds * (N + 1) = ss + ds + ds * N := by rw [Nat.mul_succ]; omega
    have ih := sn_lopA hc hb hu hg N (cs + dc) (ss + ds) (by omega) (by omega)
    rw [← e1, ← e2] at ih
    intro st
    have h3 := hc cs ss (by omega) (by omega) st
    unfold lop
    cases hr : d st with
    | none => trivial
    | some r =>
      obtain ⟨t, st'⟩ := r
      rw [hr] at h3
      cases t with
      | false => exact fun k => h3 (k_mono (by omega) (by omega) _ k)
      | true =>
        dsimp only at h3 ⊢
        have h4 := hb cs ss (by omega) (by omega) st'
        cases hr2 : body st' with
        | none => trivial
        | some r2 =>
          rw [hr2] at h4
          rcases r2 with st2 | st2 | st2 | x2
          · dsimp only at h4 ⊢
            have h5 := hu (cs + dc) (ss + ds) (by omega) (by omega) st2
            cases hr3 : upd st2 with
            | none => trivial
            | some r3 =>
              rw [hr3] at h5
              rcases r3 with st3 | st3 | st3 | x3
              · dsimp only at h5 ⊢
                have h6 := ih st3
                cases hr4 : lop d body upd N st3 with
                | none => trivial
                | some r4 =>
                  rw [hr4] at h6
                  rcases r4 with st4 | st4 | st4 | x4
                  · exact fun k => h3 (h4 (h5 (hg _ _ _ (h6 k))))
                  · exact fun k => h3 (h4 (h5 (hg _ _ _ (h6 k))))
                  · exact fun k => h3 (h4 (h5 (hg _ _ _ (h6 k))))
                  · exact fun k => h3 (h4 (h5 (hg _ _ _ (h6 k))))
              · trivial
              · trivial
              · trivial
          · exact fun k => h3 (h4 (k_mono (by omega) (by omega) _ k))
          · dsimp only at h4 ⊢
            have h5 := hu (cs + dc) (ss + ds) (by omega) (by omega) st2
            cases hr3 : upd st2 with
            | none => trivial
            | some r3 =>
              rw [hr3] at h5
              rcases r3 with st3 | st3 | st3 | x3
              · dsimp only at h5 ⊢
                have h6 := ih st3
                cases hr4 : lop d body upd N st3 with
                | none => trivial
                | some r4 =>
                  rw [hr4] at h6
                  rcases r4 with st4 | st4 | st4 | x4
                  · exact fun k => h3 (h4 (h5 (hg _ _ _ (h6 k))))
                  · exact fun k => h3 (h4 (h5 (hg _ _ _ (h6 k))))
                  · exact fun k => h3 (h4 (h5 (hg _ _ _ (h6 k))))
                  · exact fun k => h3 (h4 (h5 (hg _ _ _ (h6 k))))
              · trivial
              · trivial
              · trivial
          · exact fun k => h3 (h4 k)
end
theorem l_ret0z {w : Wd} {p : Program} {l : Launch} {e : Jvm.Env} {R : Room} {s : State} {m : MethodId} {args : Array Value} {below : List Frame} {meth : Method} {c : Code} {Q : State → Prop} {cc : ByteArray} {n cs ss pc c1 s1 pe : Nat} {own : String} {E : Env} {F : Out → G → Prop} {kb kc : St → Prop} (_ : CX w p s m args c cc n own) (hF : ∀ g1, ¬ F (.inl (some (.int 0))) g1) : Sn (zK w false p l e R s m args below meth c Q n) F kb kc cs ss pc (rtz E [.iconst 0]) c1 s1 pe := by
  intro st
  obtain ⟨L, S, g⟩ := st
  cases S with
  | nil => exact fun h => absurd h (hF _)
  | cons v S => trivial
