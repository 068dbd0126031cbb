/-! ===== new arrays; calls ===== -/
section
variable {w : Wd} {b : Bool} {p : Program} {l : Launch} {e : Jvm.Env} {R : Room} {s : State} {m : MethodId} {args : Array Value} {below : List Frame} {meth : Method} {c : Code} {Q : State → Prop} {cc : ByteArray} {n cs ss pc : Nat} {own : String} {E : Env}
variable {L : List (Option Value)} {S : List Value} {g g' : G} {st st' : St} {o : Option Value} {H : Heap} {locs : List Loc}
theorem znneg {x : Int32} (h : 0 ≤ x.toInt) : ¬ x < 0 := fun q => by
  have q1 := Int32.lt_iff_toInt_lt.mp q
  simp at q1; omega
theorem sn_newI {F : Out → G → Prop} {kb kc : St → Prop} {N : Nat} (cx : CX w p s m args c cc n own) (hd : decode cc pc = .ok (.newarray .int, 2)) (h1 : Cond.arrayClass .int ∈ lw_tbl) (hN : N < 2 ^ 20) (hc : cs + 1 ≤ R.cells) (hs : ss + N ≤ R.slots) :
    Sn (zK w b p l e R s m args below meth c Q n) F kb kc cs ss pc (newI N) (cs + 1) (ss + N) (pc + 2) := by
  intro st
  obtain ⟨L, S, g⟩ := st
  by_cases h0 : g.2 = 0
  · unfold newI; simp only [h0, if_true]
  · cases S with
    | nil => unfold newI; simp only [h0, if_false]
    | cons v S =>
      cases v with
      | int x =>
        by_cases hx : 0 ≤ x.toInt ∧ x.toInt ≤ N
        · unfold newI; simp only [h0, if_false, hx, and_self, if_true]
          intro k hn H locs ls hL hG hS
          obtain ⟨h4, hsz⟩ := hG.2.2 h0
          refine W.widen (Nat.le_refl _) (show ss ≤ ss + (N - x.toInt.toNat) by omega) ?_
          refine va_newaK (atype := .int) (N := x.toInt.toNat) cx.hx cx.hb (cx.hts h1 rfl) rfl hd rfl (znneg hx.1) rfl (by show x.toInt.toNat * 4 ≤ _; omega) hc (by omega) hsz fun H1 cA e1 z1 o1 hAr hNm => ?_
          rw [← hsz] at z1 o1
          have hcA : w.2.2.2.1 0 = cA := Option.some.inj ((cx.kk.1.2 0 _ rfl).2.symm.trans hNm)
          have k1 := k hn H1 locs ls hL (hG.push h0 z1 o1 (show zat w g.2 (cI x.toInt.toNat (fun _ => 0)) H1 by
            show H1[zad w g.2]? = some (vp_cell (w.2.2.2.1 0) (x.toInt.toNat, .inl (fun _ => 0)))
            rw [hcA]
            exact e1)) (hS.push' z1 o1)
          rw [show ss + (N - x.toInt.toNat) + x.toInt.toNat = ss + N by omega]
          exact k1
        · unfold newI; simp only [h0, if_false, hx]
      | _ => unfold newI; simp only [h0, if_false]
theorem sn_newJ {F : Out → G → Prop} {kb kc : St → Prop} {N : Nat} (cx : CX w p s m args c cc n own) (hd : decode cc pc = .ok (.newarray .long, 2)) (h1 : Cond.arrayClass .long ∈ lw_tbl) (hN : N < 2 ^ 20) (hc : cs + 1 ≤ R.cells) (hs : ss + N ≤ R.slots) :
    Sn (zK w b p l e R s m args below meth c Q n) F kb kc cs ss pc (newJ N) (cs + 1) (ss + N) (pc + 2) := by
  intro st
  obtain ⟨L, S, g⟩ := st
  by_cases h0 : g.2 = 0
  · unfold newJ; simp only [h0, if_true]
  · cases S with
    | nil => unfold newJ; simp only [h0, if_false]
    | cons v S =>
      cases v with
      | int x =>
        by_cases hx : 0 ≤ x.toInt ∧ x.toInt ≤ N
        · unfold newJ; simp only [h0, if_false, hx, and_self, if_true]
          intro k hn H locs ls hL hG hS
          obtain ⟨h4, hsz⟩ := hG.2.2 h0
          refine W.widen (Nat.le_refl _) (show ss ≤ ss + (N - x.toInt.toNat) by omega) ?_
          refine va_newaK (atype := .long) (N := x.toInt.toNat) cx.hx cx.hb (cx.hts h1 rfl) rfl hd rfl (znneg hx.1) rfl (by show x.toInt.toNat * 8 ≤ _; omega) hc (by omega) hsz fun H1 cA e1 z1 o1 hAr hNm => ?_
          rw [← hsz] at z1 o1
          have hcA : w.2.2.2.1 1 = cA := Option.some.inj ((cx.kk.1.2 1 _ rfl).2.symm.trans hNm)
          have k1 := k hn H1 locs ls hL (hG.push h0 z1 o1 (show zat w g.2 (cJ x.toInt.toNat (fun _ => 0)) H1 by
            show H1[zad w g.2]? = some (vp_cell (w.2.2.2.1 1) (x.toInt.toNat, .inr (.inl (fun _ => 0))))
            rw [hcA]
            exact e1)) (hS.push' z1 o1)
          rw [show ss + (N - x.toInt.toNat) + x.toInt.toNat = ss + N by omega]
          exact k1
        · unfold newJ; simp only [h0, if_false, hx]
      | _ => unfold newJ; simp only [h0, if_false]
theorem sn_newR {F : Out → G → Prop} {kb kc : St → Prop} {N index : Nat} (cx : CX w p s m args c cc n own) (hd : decode cc pc = .ok (.anewarray index, 3)) (h1 : Cond.classLink own index "CoilSlits$Yard" ∈ lw_tbl) (hN : N < 2 ^ 20) (hc : cs + 1 ≤ R.cells) (hs : ss + N ≤ R.slots) :
    Sn (zK w b p l e R s m args below meth c Q n) F kb kc cs ss pc (newR N) (cs + 1) (ss + N) (pc + 3) := by
  intro st
  obtain ⟨L, S, g⟩ := st
  by_cases h0 : g.2 = 0
  · unfold newR; simp only [h0, if_true]
  · cases S with
    | nil => unfold newR; simp only [h0, if_false]
    | cons v S =>
      cases v with
      | int x =>
        by_cases hx : 0 ≤ x.toInt ∧ x.toInt ≤ N
        · unfold newR; simp only [h0, if_false, hx, and_self, if_true]
          intro k hn H locs ls hL hG hS
          obtain ⟨h4, hsz⟩ := hG.2.2 h0
          refine W.widen (Nat.le_refl _) (show ss ≤ ss + (N - x.toInt.toNat) by omega) ?_
          refine W.anew cx.hx cx.hb cx.hown (cx.hts h1 rfl) (va_AO.use cx.kk.2.2.2.2) rfl hd rfl (znneg hx.1) (by show x.toInt.toNat * 4 ≤ _; omega) hc (by show _ + x.toInt.toNat ≤ _; omega) fun cA kA comp f1 f2 f3 f4 => ?_
          generalize hH1 : H.push ({ cls := cA, slots := Array.replicate x.toNatClampNeg .null, vm := .none } : Cell) = H1
          have z1 : H1.size = H.size + 1 := by rw [← hH1, Array.size_push]
          have e1 : H1[H.size]? = some (arrV cA x.toInt.toNat (fun _ => .null)) := by rw [← hH1, Array.getElem?_push_size, ← arrV_new]; rfl
          have o1 : ∀ q : Nat, q < H.size → H1[q]? = H[q]? := fun q hq => by rw [← hH1, Array.getElem?_push, if_neg (Nat.ne_of_lt hq)]
          have hcA : w.2.2.2.1 2 = cA := by
            obtain ⟨kA', comp', -, -, -, k4⟩ := (cx.kk.1.2 2 _ rfl).2
            exact Option.some.inj (k4.symm.trans f1)
          have k1 := k hn H1 locs ls hL (hG.push h0 z1 o1 (show zat w g.2 (cR x.toInt.toNat (fun _ => none)) H1 by
            show H1[zad w g.2]? = some (vp_cell (w.2.2.2.1 2) _)
            rw [hcA, vp_cell_q, ← hsz]
            exact e1)) (hS.push' z1 o1)
          rw [hsz]
          rw [show ss + (N - x.toInt.toNat) + x.toNatClampNeg = ss + N by show ss + (N - x.toInt.toNat) + x.toInt.toNat = ss + N; omega]
          exact k1
        · unfold newR; simp only [h0, if_false, hx]
      | _ => unfold newR; simp only [h0, if_false]
theorem sn_cal {F : Out → G → Prop} {kb kc : St → Prop} {i : Instr} {nn mc ms : Nat} {f : Ex} (hc : CallOk w b p l e R s m args below meth c Q cc n mc ms (i, nn, f)) (hd : decode cc pc = .ok (i, 3)) (h1 : cs + mc ≤ R.cells) (h2 : ss + ms ≤ R.slots) :
    Sn (zK w b p l e R s m args below meth c Q n) F kb kc cs ss pc (calD nn f) (cs + mc) (ss + ms) (pc + 3) := by
  intro st
  obtain ⟨L, S, g⟩ := st
  unfold calD
  dsimp only
  cases hp : popN nn [] S with
  | none => trivial
  | some r =>
    obtain ⟨vs, S'⟩ := r
    dsimp only
    by_cases h8 : wsum S' ≤ 8
    · rw [if_pos h8]
      cases hf : f vs g with
      | none => trivial
      | some r2 =>
        obtain ⟨o, g'⟩ := r2
        cases o with
        | inr _ => trivial
        | inl o =>
          obtain ⟨us, e1, e2, e3⟩ := popN_spec hp
          rw [List.append_nil] at e1
          subst e1
          subst e3
          exact fun k => hc cs ss pc L S' vs g g' o h1 h2 hd e2 h8 hf k
    · rw [if_neg h8]; trivial
/-- behind a call -/
theorem run_then {mc ms : Nat} {args2 : Array Value} {gj : JFrame} {rest : List Value} (hr : va_Run p l e R s m args below meth c H locs cs ss mc ms gj rest (zQ w o g' args2) (zA w)) (hS : va_S (zA w) s.heap H locs)
    (kk : ∀ (H1 : Heap) (locs1 : List Loc), RepG w g' H1 → va_S (zA w) s.heap H1 locs1 → W p l e R s m args below meth c H1 locs1 (cs + mc) (ss + ms) Q { gj with pc := gj.pc + 3, stack := (o.map (ztv w)).toList ++ rest }) : W p l e R s m args below meth c H locs cs ss Q gj := by
  intro T hT X
  obtain ⟨v, st₀, t, T', L, h0, X', hL, e1, e2, ⟨⟨hv, hg⟩, hz, hk⟩, st⟩ := hr T hT X
  cases hv
  rw [h0] at hz hk
  obtain ⟨t2, a1, b1⟩ := kk T'.heap (locs ++ L) (by rw [e1]; exact hg)
    ⟨Nat.le_trans hS.1 (by rw [e1]; exact hz), fun q h1 h2 => by rw [e1, hk q (Nat.lt_of_lt_of_le h1 hS.1) h2]; exact hS.2.1 q h1 h2, fun q hq => by
      rcases List.mem_append.mp hq with h | h
      · exact hS.2.2 q h
      · exact hL q h⟩ T' rfl X'
  exact ⟨t2, st t2 a1, b1⟩
theorem zpre (cx : CX w p s m args c cc n own) {vs : List Value} (hG : RepG w g H) (hS : va_S (zA w) s.heap H locs) : ∀ U : State, U.heap = H → s.WarmedH U.vm → zPc w vs g (vs.map (ztv w)).toArray U := by
  intro U hU hW
  refine ⟨rfl, KK.warm hW (fun a h1 h2 => by rw [hU]; exact hS.2.1 a h1 h2) cx.kk, by rw [hU]; exact hG⟩
theorem zcallB (cx : CX w p s m args c cc n own) {y : MethodName} {bytes : ByteArray} {maxL idx nn : Nat} {ret : Option FieldType} {rm : Room} (hcode : Cond.code y bytes maxL ret ∈ lw_tbl) (hlink : Cond.methodLink own idx y ∈ lw_tbl) (hini : Cond.initialized y.cls ∈ lw_tbl)
    (hd : y.cls ≠ "java/lang/invoke/MethodHandle" ∧ y.cls ≠ "java/lang/invoke/VarHandle" ∧ (parseMethodDescriptor y.desc).map (fun d => d.parameters.length) = some nn) (hR : rm.frames + 1 ≤ R.frames ∧ 8 + (maxL + 11) + rm.locals ≤ R.locals) :
    CallB R s args own idx y bytes maxL ret (Cond.code y bytes maxL ret :: zW) rm rm.cells rm.slots nn :=
  callB_of nn cx.hall (fun x hx => by
    rcases List.mem_cons.mp hx with rfl | hx
    · exact ⟨List.mem_filter.mpr ⟨hcode, rfl⟩, Or.inl rfl⟩
    · exact zW_good x hx) rfl rfl rfl (cx.hts hini rfl) (cx.hts hlink rfl) hd hR
theorem call_V (cx : CX w p s m args c cc n own) {y : MethodName} {bytes : ByteArray} {maxL idx nn ci : Nat} {ret : Option FieldType} {rm : Room} {f : Ex} (hct : CT w l y bytes maxL ret rm f) (hcode : Cond.code y bytes maxL ret ∈ lw_tbl) (hlink : Cond.methodLink own idx y ∈ lw_tbl) (hini : Cond.initialized y.cls ∈ lw_tbl) (hin : Cond.instanceMethod y ∈ lw_tbl) (hsel : Cond.selects y.cls y y ∈ lw_tbl) (h7 : ci < 7) (hci : ((zcl[ci]?).getD ("", F_Row, 0)).1 = y.cls)
    (hd : y.cls ≠ "java/lang/invoke/MethodHandle" ∧ y.cls ≠ "java/lang/invoke/VarHandle" ∧ (parseMethodDescriptor y.desc).map (fun d => d.parameters.length) = some nn) (hR : rm.frames + 1 ≤ R.frames ∧ 8 + (maxL + 11) + rm.locals ≤ R.locals) :
    CallOk w b p l e R s m args below meth c Q cc n rm.cells rm.slots (.invokevirtual idx, nn + 1, zrv ci f) := by
  intro cs ss pc L S vs g g' o hc hs hdg hlen h8 hf k hn H locs ls hL hG hS
  have hf2 := hf
  dsimp only at hf2
  unfold zrv at hf2
  split at hf2
  · rename_i a As
    split at hf2
    · rename_i cj fs hM
      split at hf2
      · rename_i hcj
        subst hcj
        obtain ⟨r, hr⟩ := zcl_at h7
        rw [hr] at hci
        dsimp only [Option.getD_some] at hci
        have hrecv := va_recv cx.kk.1 (hG.one hM) (ci := cj) (q0 := 0) hr rfl
        rw [hci] at hrecv
        have hrun := va_runV (e := e) (below := below) (meth := meth) (As := As.map (ztv w)) (rest := S.map (ztv w)) (g := F0 m pc ls ((((Value.ref a :: As).reverse ++ S)).map (ztv w))) (cells := cs) (slots := ss) (locs := locs) (H := H) ⟨cx.hx, cx.hb, cx.hml, cx.hown, cx.hall⟩ (hct _ _ _ _ hf2) ⟨zcallB cx hcode hlink hini hd hR, cx.hts hin rfl, cx.hts hsel rfl⟩ ⟨zPc_blind, hrecv, zpre cx (vs := .ref a :: As) hG hS⟩ rfl (by simp at hlen ⊢; exact hlen) (by show ls.size = n; rw [hL.2.1]; exact hn) (by show List.map _ _ = _; simp [ztv]) (lv_room (Nat.le_trans (wsum_tv S) h8)) hdg ⟨hc, hs⟩
        refine run_then hrun hS fun H1 locs1 hG1 hS1 => ?_
        have k1 := k hn H1 locs1 ls hL hG1 hS1
        cases o <;> exact k1
      · cases hf2
    · cases hf2
  · cases hf2
theorem call_S (cx : CX w p s m args c cc n own) {y : MethodName} {bytes : ByteArray} {maxL idx nn : Nat} {ret : Option FieldType} {rm : Room} {f : Ex} (hct : CT w l y bytes maxL ret rm f) (hcode : Cond.code y bytes maxL ret ∈ lw_tbl) (hlink : Cond.methodLink own idx y ∈ lw_tbl) (hini : Cond.initialized y.cls ∈ lw_tbl) (hst : Cond.static y ∈ lw_tbl)
    (hd : y.cls ≠ "java/lang/invoke/MethodHandle" ∧ y.cls ≠ "java/lang/invoke/VarHandle" ∧ (parseMethodDescriptor y.desc).map (fun d => d.parameters.length) = some nn) (hR : rm.frames + 1 ≤ R.frames ∧ 8 + (maxL + 11) + rm.locals ≤ R.locals) :
    CallOk w b p l e R s m args below meth c Q cc n rm.cells rm.slots (.invokestatic idx, nn, f) := by
  intro cs ss pc L S vs g g' o hc hs hdg hlen h8 hf k hn H locs ls hL hG hS
  have hrun := va_runS (e := e) (below := below) (meth := meth) (As := vs.map (ztv w)) (rest := S.map (ztv w)) (g := F0 m pc ls ((vs.reverse ++ S).map (ztv w))) (cells := cs) (slots := ss) (locs := locs) (H := H) ⟨cx.hx, cx.hb, cx.hml, cx.hown, cx.hall⟩ (hct _ _ _ _ hf) ⟨zcallB cx hcode hlink hini hd hR, cx.hts hst rfl⟩ ⟨zPc_blind, zpre cx (vs := vs) hG hS⟩ rfl (by simp at hlen ⊢; exact hlen) (by show ls.size = n; rw [hL.2.1]; exact hn) (by show List.map _ _ = _; simp) (lv_room (Nat.le_trans (wsum_tv S) h8)) hdg ⟨hc, hs⟩
  refine run_then hrun hS fun H1 locs1 hG1 hS1 => ?_
  have k1 := k hn H1 locs1 ls hL hG1 hS1
  cases o <;> exact k1
theorem call_SN (cx : CX w p s m args c cc n own) {y : MethodName} {host : String} {bytes : ByteArray} {maxL idx nn : Nat} {ret : Option FieldType} {rm : Room} {f : Ex} (hct : CT w l y bytes maxL ret rm f) (hcode : Cond.code y bytes maxL ret ∈ lw_tbl) (hlink : Cond.methodLinkNest own idx y host ∈ zN) (hini : Cond.initialized y.cls ∈ lw_tbl) (hst : Cond.static y ∈ lw_tbl)
    (hd : y.cls ≠ "java/lang/invoke/MethodHandle" ∧ y.cls ≠ "java/lang/invoke/VarHandle" ∧ (parseMethodDescriptor y.desc).map (fun d => d.parameters.length) = some nn) (hR : rm.frames + 1 ≤ R.frames ∧ 8 + (maxL + 11) + rm.locals ≤ R.locals) :
    CallOk w b p l e R s m args below meth c Q cc n rm.cells rm.slots (.invokestatic idx, nn, f) := by
  intro cs ss pc L S vs g g' o hc hs hdg hlen h8 hf k hn H locs ls hL hG hS
  have hcb := va_cnB (ws := Cond.code y bytes maxL ret :: zW) (rm := rm) nn cx.hall (fun x hx => by
    rcases List.mem_cons.mp hx with rfl | hx
    · exact ⟨List.mem_filter.mpr ⟨hcode, rfl⟩, Or.inl rfl⟩
    · exact zW_good x hx) rfl rfl rfl (cx.kk.2.2.2.1 _ hlink) (cx.hts hini rfl) hd hR
  have hrun := va_runSN (e := e) (below := below) (meth := meth) (As := vs.map (ztv w)) (rest := S.map (ztv w)) (g := F0 m pc ls ((vs.reverse ++ S).map (ztv w))) (cells := cs) (slots := ss) (locs := locs) (H := H) ⟨cx.hx, cx.hb, cx.hml, cx.hown, cx.hall⟩ (hct _ _ _ _ hf) ⟨hcb, cx.hts hst rfl, trivial⟩ ⟨zPc_blind, zpre cx (vs := vs) hG hS⟩ rfl (by simp at hlen ⊢; exact hlen) (by show ls.size = n; rw [hL.2.1]; exact hn) (by show List.map _ _ = _; simp) (lv_room (Nat.le_trans (wsum_tv S) h8)) hdg ⟨hc, hs⟩
  refine run_then hrun hS fun H1 locs1 hG1 hS1 => ?_
  have k1 := k hn H1 locs1 ls hL hG1 hS1
  cases o <;> exact k1
/-- a constructor's receiver is a cell -/
def zri (f : Ex) : Ex := fun vs g => match vs with
  | .ref a :: As => f (.ref a :: As) g
  | _ => none
theorem call_I (cx : CX w p s m args c cc n own) {y : MethodName} {bytes : ByteArray} {maxL idx nn : Nat} {rm : Room} {f : Ex} (hct : CT w l y bytes maxL none rm f) (hy1 : y.name = "<init>") (hcode : Cond.code y bytes maxL none ∈ lw_tbl) (hlink : Cond.methodLink own idx y ∈ lw_tbl) (hini : Cond.initialized y.cls ∈ lw_tbl) (hin : Cond.instanceMethod y ∈ lw_tbl)
    (hd : y.cls ≠ "java/lang/invoke/MethodHandle" ∧ y.cls ≠ "java/lang/invoke/VarHandle" ∧ (parseMethodDescriptor y.desc).map (fun d => d.parameters.length) = some nn) (hR : rm.frames + 1 ≤ R.frames ∧ 8 + (maxL + 11) + rm.locals ≤ R.locals) :
    CallOk w b p l e R s m args below meth c Q cc n rm.cells rm.slots (.invokespecial idx, nn + 1, zri f) := by
  intro cs ss pc L S vs g g' o hc hs hdg hlen h8 hf k hn H locs ls hL hG hS
  have hf2 := hf
  dsimp only at hf2
  unfold zri at hf2
  split at hf2
  · rename_i a As
    have hrun := va_runI (e := e) (below := below) (meth := meth) (As := As.map (ztv w)) (rest := S.map (ztv w)) (g := F0 m pc ls ((((Value.ref a :: As).reverse ++ S)).map (ztv w))) (cells := cs) (slots := ss) (locs := locs) (H := H) ⟨cx.hx, cx.hb, cx.hml, cx.hown, cx.hall⟩ (hct _ _ _ _ hf2) ⟨zcallB cx hcode hlink hini hd hR, hy1, cx.hts hin rfl⟩ ⟨zPc_blind, zpre cx (vs := .ref a :: As) hG hS⟩ rfl (by simp at hlen ⊢; exact hlen) (by show ls.size = n; rw [hL.2.1]; exact hn) (by show List.map _ _ = _; simp [ztv]) (lv_room (Nat.le_trans (wsum_tv S) h8)) hdg ⟨hc, hs⟩
    refine run_then hrun hS fun H1 locs1 hG1 hS1 => ?_
    have k1 := k hn H1 locs1 ls hL hG1 hS1
    cases o <;> exact k1
  · cases hf2
theorem call_IN (cx : CX w p s m args c cc n own) {y : MethodName} {host : String} {bytes : ByteArray} {maxL idx nn : Nat} {rm : Room} {f : Ex} (hct : CT w l y bytes maxL none rm f) (hy1 : y.name = "<init>") (hcode : Cond.code y bytes maxL none ∈ lw_tbl) (hlink : Cond.methodLinkNest own idx y host ∈ zN) (hini : Cond.initialized y.cls ∈ lw_tbl) (hin : Cond.instanceMethod y ∈ lw_tbl)
    (hd : y.cls ≠ "java/lang/invoke/MethodHandle" ∧ y.cls ≠ "java/lang/invoke/VarHandle" ∧ (parseMethodDescriptor y.desc).map (fun d => d.parameters.length) = some nn) (hR : rm.frames + 1 ≤ R.frames ∧ 8 + (maxL + 11) + rm.locals ≤ R.locals) :
    CallOk w b p l e R s m args below meth c Q cc n rm.cells rm.slots (.invokespecial idx, nn + 1, zri f) := by
  intro cs ss pc L S vs g g' o hc hs hdg hlen h8 hf k hn H locs ls hL hG hS
  have hf2 := hf
  dsimp only at hf2
  unfold zri at hf2
  split at hf2
  · rename_i a As
    have hcb := va_cnB (ws := Cond.code y bytes maxL none :: zW) (rm := rm) nn cx.hall (fun x hx => by
      rcases List.mem_cons.mp hx with rfl | hx
      · exact ⟨List.mem_filter.mpr ⟨hcode, rfl⟩, Or.inl rfl⟩
      · exact zW_good x hx) rfl rfl rfl (cx.kk.2.2.2.1 _ hlink) (cx.hts hini rfl) hd hR
    have hrun := va_runIN (e := e) (below := below) (meth := meth) (As := As.map (ztv w)) (rest := S.map (ztv w)) (g := F0 m pc ls ((((Value.ref a :: As).reverse ++ S)).map (ztv w))) (cells := cs) (slots := ss) (locs := locs) (H := H) ⟨cx.hx, cx.hb, cx.hml, cx.hown, cx.hall⟩ (hct _ _ _ _ hf2) ⟨hcb, hy1, cx.hts hin rfl⟩ ⟨zPc_blind, zpre cx (vs := .ref a :: As) hG hS⟩ rfl (by simp at hlen ⊢; exact hlen) (by show ls.size = n; rw [hL.2.1]; exact hn) (by show List.map _ _ = _; simp [ztv]) (lv_room (Nat.le_trans (wsum_tv S) h8)) hdg ⟨hc, hs⟩
    refine run_then hrun hS fun H1 locs1 hG1 hS1 => ?_
    have k1 := k hn H1 locs1 ls hL hG1 hS1
    cases o <;> exact k1
  · cases hf2
end
