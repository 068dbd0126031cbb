/-! ===== the soundness of what reads and writes the heap, and of calls ===== -/
section
variable {w : Wd} {b : Bool} {p : Program} {l : Launch} {e : Jvm.Env} {R : Room} {s : State} {m : MethodId} {args : Array Value} {below : List Frame} {meth : Method} {c : Code} {Q : State → Prop} {cc : ByteArray} {n cs ss pc : Nat} {own : String} {E : Env}
variable {L : List (Option Value)} {S : List Value} {g : G} {st st' : St}
theorem zcl_at {ci : Nat} (h : ci < 7) : ∃ r, zcl[ci]? = some r := by
  match ci, h with
  | 0, _ => exact ⟨_, rfl⟩
  | 1, _ => exact ⟨_, rfl⟩
  | 2, _ => exact ⟨_, rfl⟩
  | 3, _ => exact ⟨_, rfl⟩
  | 4, _ => exact ⟨_, rfl⟩
  | 5, _ => exact ⟨_, rfl⟩
  | 6, _ => exact ⟨_, rfl⟩
theorem zfok_spec {own : String} {q : Nat × Nat × Nat} (h : zfok own q = true) : ∃ r : vw_C, zcl[q.2.1]? = some r ∧ q.2.1 < 7 ∧ q.2.2 < r.2.2 ∧ r.1 = own ∧ Cond.fieldLink own q.1 own (r.2.1 q.2.2).2.1 (r.2.1 q.2.2).2.2.1 ∈ lw_tbl := by
  unfold zfok at h
  split at h
  · rename_i r hr
    simp only [Bool.and_eq_true, decide_eq_true_eq] at h
    exact ⟨r, hr, h.1, h.2.1, h.2.2.1, h.2.2.2⟩
  · cases h
theorem zlay {r : vw_C} {ci : Nat} (hr : zcl[ci]? = some r) (h : ci < 7) : ∀ x ∈ u_ws r.1 r.2.1 r.2.2, x ∈ lw_tbl.filter goodWord := by
  have h1 := zlay_ok ci h
  rw [hr] at h1
  intro x hx
  refine List.mem_filter.mpr ⟨h1 x hx, ?_⟩
  obtain ⟨k, -, rfl⟩ := List.mem_map.mp hx
  unfold u_lay
  split <;> rfl
theorem ztyok {r : vw_C} {ci : Nat} (hr : zcl[ci]? = some r) (h : ci < 7) : ∀ k, k < r.2.2 → parseFieldDescriptor (r.2.1 k).2.2.1 = some (zty ci k) := by
  have h1 := zty_ok ci h
  rw [hr] at h1
  exact h1
theorem znmok {r : vw_C} {ci : Nat} (hr : zcl[ci]? = some r) (h : ci < 7) : ∀ a, a < r.2.2 → ∀ b, b < r.2.2 → a ≠ b → (r.2.1 a).2.1 ≠ (r.2.1 b).2.1 := by
  have h1 := znm_ok ci h
  rw [hr] at h1
  exact h1
theorem zdcok {r : vw_C} {ci : Nat} (hr : zcl[ci]? = some r) (h : ci < 7) : ∀ k, k < r.2.2 → (r.2.1 k).1 = r.1 := by
  have h1 := zdc_ok ci h
  rw [hr] at h1
  exact h1
theorem xs_getfield {k0 : Nat} (cx : CX w p s m args c cc n own) (eo : EnvOk w b p l e R s m args below meth c Q cc n own E) (h : xI E (.getfield k0) st = some st') (hd : decode cc pc = .ok (.getfield k0, 3)) (k : Kn w b p l e R s m args below meth c Q n cs ss (pc + 3) st') : Kn w b p l e R s m args below meth c Q n cs ss pc st := by
  obtain ⟨L, S, g⟩ := st
  simp only [xI] at h
  split at h
  · rename_i a S
    split at h
    · rename_i ci fs hM
      split at h
      · rename_i cj j hf
        split at h
        · rename_i hcj
          subst hcj
          split at h
          · rename_i v hv
            cases h
            obtain ⟨⟨C, T, N⟩, hr, h7, hj, hC, hlink⟩ := zfok_spec (eo.2.1 _ (lookN_mem hf))
            dsimp only at hr h7 hj hC hlink
            subst hC
            intro hn H locs ls hL hG hS
            refine va_get (D := w.2.2.1) (cl := zcl) (ref := C) (T := T) (C := C) (N := N) (ci := ci) cx.hx cx.hb cx.hall (zlay hr h7) cx.hown cx.kk.1 (hG.one hM) 0 rfl hr j hj (cx.hts hlink rfl) (fun x hx => ?_) (v := ztv w v) ?_ hd (k hn H locs ls hL hG hS)
            · have hdc : (T j).1 = C := zdcok hr h7 j hj
              rw [hdc] at hx; exact hx
            · rw [List.getElem?_map, hv]; rfl
          · cases h
        · cases h
      · cases h
    · cases h
  · cases h
theorem xs_getstatic {k0 : Nat} (cx : CX w p s m args c cc n own) (eo : EnvOk w b p l e R s m args below meth c Q cc n own E) (h : xI E (.getstatic k0) st = some st') (hd : decode cc pc = .ok (.getstatic k0, 3)) (k : Kn w b p l e R s m args below meth c Q n cs ss (pc + 3) st') : Kn w b p l e R s m args below meth c Q n cs ss pc st := by
  obtain ⟨L, S, g⟩ := st
  simp only [xI] at h
  split at h
  · rename_i j hj
    cases h
    have hk := eo.2.2.2.1 _ (lookN_mem hj)
    simp only [zsok, Bool.and_eq_true, Bool.or_eq_true, decide_eq_true_eq] at hk
    intro hn H locs ls hL hG hS
    rcases hk.2 with h1 | h1
    · exact va_gets cx.hx cx.hb (cx.kk.2.2.1 j hk.1) hS cx.hown (cx.hts h1 rfl) (fun _ h => h) hd (k hn H locs ls hL hG hS)
    · exact va_getsN cx.hx cx.hb (cx.kk.2.2.1 j hk.1) hS cx.hown (va_Nw.use rfl (cx.kk.2.2.2.1 _ h1)) (fun _ h => h) hd (k hn H locs ls hL hG hS)
  · cases h
theorem xs_arraylength (cx : CX w p s m args c cc n own) (eo : EnvOk w b p l e R s m args below meth c Q cc n own E) (h : xI E .arraylength st = some st') (hd : decode cc pc = .ok (.arraylength, 1)) (k : Kn w b p l e R s m args below meth c Q n cs ss (pc + 1) st') : Kn w b p l e R s m args below meth c Q n cs ss pc st := by
  obtain ⟨L, S, g⟩ := st
  simp only [xI] at h
  split at h
  · split at h
    · rename_i hM
      cases h
      exact fun hn H locs ls hL hG hS => va_alen cx.hx cx.hb cx.kk.1 (hG.one hM) 0 0 rfl rfl rfl hd (k hn H locs ls hL hG hS)
    · rename_i hM
      cases h
      exact fun hn H locs ls hL hG hS => va_alen cx.hx cx.hb cx.kk.1 (hG.one hM) 0 1 rfl rfl rfl hd (k hn H locs ls hL hG hS)
    · rename_i hM
      cases h
      exact fun hn H locs ls hL hG hS => va_alen cx.hx cx.hb cx.kk.1 (hG.one hM) 0 2 rfl rfl rfl hd (k hn H locs ls hL hG hS)
    · cases h
    · split at h
      · rename_i hT
        cases h
        intro hn H locs ls hL hG hS
        obtain ⟨-, cell, q1, q2, q3, q4, q5, q6, q7⟩ := cx.kk.2.1 _ _ (eo.2.2.2.2.1 _ _ hT)
        exact W.alen cx.hx cx.hb (by rw [hS.2.1 _ (Array.getElem?_eq_some_iff.mp q1).1 q7]; exact q1) q2 q5 rfl rfl hd (k hn H locs ls hL hG hS)
      · cases h
  · cases h
theorem xs_iaload (cx : CX w p s m args c cc n own) (eo : EnvOk w b p l e R s m args below meth c Q cc n own E) (h : xI E .iaload st = some st') (hd : decode cc pc = .ok (.iaload, 1)) (k : Kn w b p l e R s m args below meth c Q n cs ss (pc + 1) st') : Kn w b p l e R s m args below meth c Q n cs ss pc st := by
  obtain ⟨L, S, g⟩ := st
  simp only [xI] at h
  split at h
  · split at h
    · rename_i hM
      split at h
      · rename_i hi
        cases h
        obtain ⟨h1, h2⟩ := zix_in hi
        subst h2
        exact fun hn H locs ls hL hG hS => va_iald cx.hx cx.hb cx.kk.1 (hG.one hM) 0 0 rfl rfl h1 hd (k hn H locs ls hL hG hS)
      · cases h
    · cases h
    · split at h
      · rename_i hT
        split at h
        · rename_i hi
          cases h
          obtain ⟨h1, h2⟩ := zix_in hi
          subst h2
          exact fun hn H locs ls hL hG hS => va_ti cx.hx cx.hb (cx.kk.2.1 _ _ (eo.2.2.2.2.1 _ _ hT)).2 hS h1 rfl hd (k hn H locs ls hL hG hS)
        · cases h
      · cases h
  · cases h
theorem xs_laload (cx : CX w p s m args c cc n own) (eo : EnvOk w b p l e R s m args below meth c Q cc n own E) (h : xI E .laload st = some st') (hd : decode cc pc = .ok (.laload, 1)) (k : Kn w b p l e R s m args below meth c Q n cs ss (pc + 1) st') : Kn w b p l e R s m args below meth c Q n cs ss pc st := by
  obtain ⟨L, S, g⟩ := st
  simp only [xI] at h
  split at h
  · split at h
    · rename_i hM
      split at h
      · rename_i hi
        cases h
        obtain ⟨h1, h2⟩ := zix_in hi
        subst h2
        exact fun hn H locs ls hL hG hS => va_lald cx.hx cx.hb cx.kk.1 (hG.one hM) 0 1 rfl rfl h1 hd (k hn H locs ls hL hG hS)
      · cases h
    · cases h
  · cases h
theorem xs_aaload (cx : CX w p s m args c cc n own) (eo : EnvOk w b p l e R s m args below meth c Q cc n own E) (h : xI E .aaload st = some st') (hd : decode cc pc = .ok (.aaload, 1)) (k : Kn w b p l e R s m args below meth c Q n cs ss (pc + 1) st') : Kn w b p l e R s m args below meth c Q n cs ss pc st := by
  obtain ⟨L, S, g⟩ := st
  simp only [xI] at h
  split at h
  · split at h
    · rename_i f hM
      split at h
      · rename_i j hi
        obtain ⟨h1, h2⟩ := zix_in hi
        subst h2
        split at h
        · rename_i q hq
          cases h
          exact fun hn H locs ls hL hG hS => va_aldq cx.hx cx.hb cx.kk.1 (hG.one hM) 0 2 rfl rfl h1 hd (by dsimp only; rw [hq]; exact k hn H locs ls hL hG hS)
        · rename_i hq
          cases h
          exact fun hn H locs ls hL hG hS => va_aldq cx.hx cx.hb cx.kk.1 (hG.one hM) 0 2 rfl rfl h1 hd (by dsimp only; rw [hq]; exact k hn H locs ls hL hG hS)
      · cases h
    · cases h
  · cases h
theorem xs_iastore (cx : CX w p s m args c cc n own) (eo : EnvOk w b p l e R s m args below meth c Q cc n own E) (h : xI E .iastore st = some st') (hd : decode cc pc = .ok (.iastore, 1)) (k : Kn w b p l e R s m args below meth c Q n cs ss (pc + 1) st') : Kn w b p l e R s m args below meth c Q n cs ss pc st := by
  obtain ⟨L, S, g⟩ := st
  simp only [xI] at h
  split at h
  · rename_i x i a S
    split at h
    · rename_i N f hM
      split at h
      · rename_i j hi
        cases h
        obtain ⟨h1, h2⟩ := zix_in hi
        subst h2
        intro hn H locs ls hL hG hS
        obtain ⟨h4, hat⟩ := hG.1 _ _ hM
        refine W.iast cx.hx cx.hb hat ((cx.kk.1.2 0 _ rfl).1 N (fun j => .int (f j))) (fun q => by cases q) (by show ¬ (i < 0 ∨ (arrV _ _ _).slots.size ≤ _); rw [arrV_size]; exact h1) rfl rfl hd fun H1 e1 z1 o1 => ?_
        refine k hn H1 _ ls hL (hG.put hM z1 o1 ?_) (hS.put' z1 o1 h4)
        show H1[zad w a]? = some (arrV (w.2.2.2.1 0) N (fun j => .int (upd f i.toNatClampNeg x j)))
        rw [e1]
        refine congrArg some ((arrV_store _ _ _ _ _).trans (congrArg (arrV _ _) ?_))
        funext q
        by_cases hq : q = i.toNatClampNeg
        · subst hq; simp [updV, upd]
        · simp [updV, upd, hq]
      · cases h
    · cases h
  · cases h
theorem xs_lastore (cx : CX w p s m args c cc n own) (eo : EnvOk w b p l e R s m args below meth c Q cc n own E) (h : xI E .lastore st = some st') (hd : decode cc pc = .ok (.lastore, 1)) (k : Kn w b p l e R s m args below meth c Q n cs ss (pc + 1) st') : Kn w b p l e R s m args below meth c Q n cs ss pc st := by
  obtain ⟨L, S, g⟩ := st
  simp only [xI] at h
  split at h
  · rename_i x i a S
    split at h
    · rename_i N f hM
      split at h
      · rename_i j hi
        cases h
        obtain ⟨h1, h2⟩ := zix_in hi
        subst h2
        intro hn H locs ls hL hG hS
        obtain ⟨h4, hat⟩ := hG.1 _ _ hM
        refine W.last cx.hx cx.hb hat ((cx.kk.1.2 1 _ rfl).1 N (fun j => .long (f j))) (fun q => by cases q) (by show ¬ (i < 0 ∨ (arrV _ _ _).slots.size ≤ _); rw [arrV_size]; exact h1) rfl rfl hd fun H1 e1 z1 o1 => ?_
        refine k hn H1 _ ls hL (hG.put hM z1 o1 ?_) (hS.put' z1 o1 h4)
        show H1[zad w a]? = some (arrV (w.2.2.2.1 1) N (fun j => .long (vp_updL f i.toNatClampNeg x j)))
        rw [e1]
        refine congrArg some ((arrV_store _ _ _ _ _).trans (congrArg (arrV _ _) ?_))
        funext q
        by_cases hq : q = i.toNatClampNeg
        · subst hq; simp [updV, vp_updL]
        · simp [updV, vp_updL, hq]
      · cases h
    · cases h
  · cases h
theorem xs_aastore (cx : CX w p s m args c cc n own) (eo : EnvOk w b p l e R s m args below meth c Q cc n own E) (h : xI E .aastore st = some st') (hd : decode cc pc = .ok (.aastore, 1)) (k : Kn w b p l e R s m args below meth c Q n cs ss (pc + 1) st') : Kn w b p l e R s m args below meth c Q n cs ss pc st := by
  obtain ⟨L, S, g⟩ := st
  simp only [xI] at h
  split at h
  · rename_i v i a S
    split at h
    · rename_i N f hM
      split at h
      · rename_i j hi
        split at h
        · rename_i vs hV
          cases h
          obtain ⟨h1, h2⟩ := zix_in hi
          subst h2
          intro hn H locs ls hL hG hS
          obtain ⟨h4, hat⟩ := hG.1 _ _ hM
          obtain ⟨r', hr', cellV, g1, g2, g3, -⟩ := (hG.1 _ _ hV).2
          have hcls := (cx.kk.1.1 2 _ rfl).2
          obtain ⟨kA, comp, k1, k2, k3, -⟩ := (cx.kk.1.2 2 _ rfl).2
          have hcomp : comp = w.2.2.1.1 2 := Option.some.inj (k3.symm.trans hcls.1)
          subst hcomp
          obtain ⟨kC, hkC, -⟩ := hcls.2
          have hlt : i.toNatClampNeg < N := Nat.not_le.mp fun q => h1 (Or.inr q)
          have h0 : ¬ i < 0 := fun q => h1 (Or.inl q)
          refine W.aast cx.hx cx.hb hat (fun q h => by cases h) (fun h => by cases h) k1 k2 rfl hkC ⟨h0, by show _ < (arrV _ _ _).slots.size; rw [arrV_size]; exact hlt⟩ g1 (fun q h => by rw [g3] at h; cases h) (by rw [g2]; exact hkC) (by rw [g2]; exact va_assign hcls) rfl rfl hd fun H1 e1 z1 o1 => ?_
          refine k hn H1 _ ls hL (hG.put hM z1 o1 ?_) (hS.put' z1 o1 h4)
          show H1[zad w a]? = some (arrV (w.2.2.2.1 2) N (fun j => va_rf ((va_up f i.toNatClampNeg (some v) j).map (zad w))))
          rw [e1]
          refine congrArg some ((arrV_store _ _ _ _ _).trans (congrArg (arrV _ _) ?_))
          funext q
          by_cases hq : q = i.toNatClampNeg
          · subst hq; simp [updV, va_up, va_rf]
          · simp [updV, va_up, hq]
        · cases h
      · cases h
    · cases h
  · cases h
theorem xs_putfield {k0 : Nat} (cx : CX w p s m args c cc n own) (eo : EnvOk w b p l e R s m args below meth c Q cc n own E) (h : xI E (.putfield k0) st = some st') (hd : decode cc pc = .ok (.putfield k0, 3)) (k : Kn w b p l e R s m args below meth c Q n cs ss (pc + 3) st') : Kn w b p l e R s m args below meth c Q n cs ss pc st := by
  obtain ⟨L, S, g⟩ := st
  simp only [xI] at h
  split at h
  · rename_i v a S
    split at h
    · rename_i ci fs hM
      split at h
      · rename_i cj j hf
        split at h
        · rename_i hcj
          obtain ⟨hcj, hfit, hlen, hfin⟩ := hcj
          subst hcj
          cases h
          obtain ⟨⟨C, T, N⟩, hr, h7, hj, hC, hlink⟩ := zfok_spec (eo.2.1 _ (lookN_mem hf))
          dsimp only at hr h7 hj hC hlink
          subst hC
          rw [hr] at hfin
          intro hn H locs ls hL hG hS
          obtain ⟨h4, hat⟩ := hG.1 _ _ hM
          have hap := va_apart (own := C) cx.hall (zlay hr h7) (zty ci) (ztyok hr h7) (znmok hr h7) cx.kk.1 hr
          obtain ⟨r, h1, cell, q1, q2, q3, q4⟩ := hat
          have hrr : r = (C, T, N) := Option.some.inj (h1.symm.trans hr)
          subst hrr
          obtain ⟨hSl, hfc, kC, hkC, hkind⟩ := cx.kk.1.1 ci _ hr
          obtain ⟨cf, kf, fi, f, hi, hsl⟩ := hSl j hj
          have hlay := cx.hall _ (zlay hr h7 _ (u_in_lay hj))
          have hst := (u_facts hfc hkC (u_lays cx.hall (zlay hr h7) hj) hi).1
          obtain ⟨z1, z2⟩ := zfit_ok (w := w) hfit
          have hdc : (T j).1 = C := zdcok hr h7 j hj
          have hi' : s.fieldFound? C (T j).2.1 (T j).2.2.1 = some (cf, kf, fi, f) := by have hi2 := hi; dsimp only at hi2; rw [hdc] at hi2; exact hi2
          have hend : ∀ (H1 : Heap), H1[zad w a]? = some (cell.setSlot f.slot (ztv w v)) → H1.size = H.size → (∀ q : Nat, q ≠ zad w a → H1[q]? = H[q]?) → W p l e R s m args below meth c H1 (locs ++ [⟨zad w a, f.slot⟩]) cs ss Q (F0 m (pc + 3) ls (S.map (ztv w))) := by
            intro H1 e1 e2 e3
            rw [hsl] at e1
            refine k hn H1 _ ls hL (hG.put hM e2 e3 ?_) (hS.put' e2 e3 h4)
            refine ⟨_, hr, t_OB.to (V := updV (vp_V (fs.map (ztv w))) j (ztv w v)) ⟨_, e1, q2, q3, t_set q4 hap hj _⟩ (fun i _ => ?_)⟩
            rw [vp_updV_set (by simpa using hlen), List.map_set]
          unfold u_lay at hlay
          by_cases hF : (T j).2.2.2 = true
          · rw [if_pos hF] at hlay
            have hI : eI E = true := by
              rcases hfin with h0 | h0
              · exact absurd hF (by rw [show (T j).2.2.2 = false from h0]; decide)
              · exact h0
            have hcf : m.cls = cf := by
              obtain ⟨_, _, c', _, _, _, -, -, hf', -, -, -, hown2, -⟩ := Cond.laysFinal_spec hlay
              have e1 : c' = cf := by have := hi.symm.trans hf'; simp at this; exact this.1.symm
              rw [hdc] at hown2
              rw [← e1]; exact Option.some.inj (cx.hown.symm.trans hown2)
            have h6 := u_fits hfc hkC hkind (Or.inr hlay) hi (ztyok hr h7 j hj) z1 z2
            exact W.putFinK cx.hx cx.hb cx.hown (cx.hts hlink rfl) hi' hst hcf (eo.2.2.2.2.2.1 hI) (by rw [q2]; exact h6) q1 q3 (by rw [hsl]; exact k2_hasslot (q4 j hj)) rfl rfl hd hend
          · rw [if_neg hF] at hlay
            have h6 := u_store hfc hkC hkind hlay hi (ztyok hr h7 j hj) z1 z2
            exact W.putK cx.hx cx.hb (f := f) ⟨cx.hown, cx.hts hlink rfl, ⟨_, _, _, hi'⟩, hst⟩ (by rw [q2]; exact h6) q1 q3 (by rw [hsl]; exact k2_hasslot (q4 j hj)) rfl rfl hd hend
        · cases h
      · cases h
    · cases h
  · cases h
theorem xs_call {i0 : Instr} (eo : EnvOk w b p l e R s m args below meth c Q cc n own E) (hR : cs ≤ R.cells ∧ ss ≤ R.slots) (h : (match lookI (eC E) i0 with
    | some (n, f) => match popN n [] S with
      | some (vs, S) => if wsum S ≤ 8 then match f vs g with
          | some (.inl o, g) => some (L, o.toList ++ S, g)
          | _ => none
        else none
      | none => none
    | none => none) = some st') (hd : decode cc pc = .ok (i0, 3)) (k : Kn w b p l e R s m args below meth c Q n cs ss (pc + 3) st') : Kn w b p l e R s m args below meth c Q n cs ss pc (L, S, g) := by
  split at h
  · rename_i nn f hf
    split at h
    · rename_i vs S' hp
      split at h
      · rename_i h8
        split at h
        · rename_i o g' hx
          cases h
          obtain ⟨us, e1, e2, e3⟩ := popN_spec hp
          rw [List.append_nil] at e1
          subst e1
          rw [e3]
          exact eo.2.2.2.2.2.2 _ (lookI_mem hf) cs ss pc L S' vs g g' o hR.1 hR.2 hd e2 h8 hx k
        · cases h
      · cases h
    · cases h
  · cases h
end
