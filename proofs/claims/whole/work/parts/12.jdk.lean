/-! ===== what the class uses of the JDK, as calls ===== -/
def xObj : Ex := fun vs g => match vs with
  | [.ref _] => some (.inl none, g)
  | _ => none
def xMin : Ex := fun vs g => match vs with
  | [.int x, .int y] => some (.inl (some (.int (if y < x then y else x))), g)
  | _ => none
def xMax : Ex := fun vs g => match vs with
  | [.int x, .int y] => some (.inl (some (.int (if x < y then y else x))), g)
  | _ => none
def xAbs : Ex := fun vs g => match vs with
  | [.int x] => some (.inl (some (.int (if 0 ≤ x then x else 0 - x))), g)
  | _ => none
def xCopy : Ex := fun vs g => match vs with
  | [.ref a0, .int sp, .ref a, .int dp, .int n] => match g.1 a0, g.1 a with
    | some (.inl (.inl (n0, f))), some (.inl (.inl (n1, h))) => if 0 ≤ sp.toInt ∧ 0 ≤ dp.toInt ∧ 0 ≤ n.toInt ∧ sp.toInt + n.toInt ≤ n0 ∧ dp.toInt + n.toInt ≤ n1 then
        some (.inl none, (zup g.1 a (cI n1 (va_cpy f h sp.toInt.toNat dp.toInt.toNat n.toInt.toNat)), g.2))
      else none
    | _, _ => none
  | _ => none
def xRaw : Ex := fun vs g => match vs with
  | [.double x] => some (.inl (some (.long x.toInt64)), g)
  | _ => none
def yRaw : MethodName := ⟨"java/lang/Double", "doubleToRawLongBits", "(D)J"⟩
section
variable {w : Wd} {b : Bool} {p : Program} {l : Launch} {e : Jvm.Env} {R : Room} {s : State} {m : MethodId} {args : Array Value} {below : List Frame} {meth : Method} {c : Code} {Q : State → Prop} {cc : ByteArray} {n cs ss pc : Nat} {own : String} {E : Env}
variable {L : List (Option Value)} {S : List Value} {g g' : G} {st st' : St} {o : Option Value} {H : Heap} {locs : List Loc}
theorem call_obj (cx : CX w p s m args c cc n own) {idx : Nat} (hlink : Cond.methodLink own idx objectInit ∈ lw_tbl) (hin : Cond.instanceMethod objectInit ∈ lw_tbl) (hcode : Cond.code objectInit ⟨#[0xb1]⟩ 1 none ∈ lw_tbl) (hR : 1 ≤ R.frames ∧ 20 ≤ R.locals) :
    CallOk w b p l e R s m args below meth c Q cc n 0 0 (.invokespecial idx, 1, xObj) := by
  intro cs ss pc L S vs g g' o hc hs hdg hlen h8 hf k hn H locs ls hL hG hS
  dsimp only at hf
  unfold xObj at hf
  split at hf
  · rename_i a
    cases hf
    exact W.objInit (rest := S.map (ztv w)) cx.hx cx.hb cx.hown (cx.hts hlink rfl) (cx.hts hin rfl) (cx.hts hcode rfl) rfl (by rw [cx.hml]; show ls.size = n; rw [hL.2.1]; exact hn) rfl hdg hR.1 (by have h2 := wsum_tv (w := w) S; show 2 * 0 + _ + 12 ≤ _; omega) (k hn H locs ls hL hG hS)
  · cases hf
theorem call_min (cx : CX w p s m args c cc n own) {idx : Nat} (hlink : Cond.methodLink own idx Lib.Math.min.name ∈ lw_tbl) (hst : Cond.static Lib.Math.min.name ∈ lw_tbl) (hini : Cond.initialized "java/lang/Math" ∈ lw_tbl) (hcode : Cond.code Lib.Math.min.name Lib.Math.min.code 2 (some .int) ∈ lw_tbl) (hR : 1 ≤ R.frames ∧ 21 ≤ R.locals) :
    CallOk w b p l e R s m args below meth c Q cc n 0 0 (.invokestatic idx, 2, xMin) := by
  intro cs ss pc L S vs g g' o hc hs hdg hlen h8 hf k hn H locs ls hL hG hS
  dsimp only at hf
  unfold xMin at hf
  split at hf
  · rename_i x y
    cases hf
    exact va_mmin (rest := S.map (ztv w)) cx.hx cx.hb (by rw [cx.hml, hL.2.1]; exact hn.symm) cx.hown (cx.hts hlink rfl) (cx.hts hst rfl) (cx.hts hini rfl) (cx.hts hcode rfl) hR.1 (by have h2 := wsum_tv (w := w) S; omega) (by omega) (by omega) hdg (k hn H locs ls hL hG hS)
  · cases hf
theorem call_max (cx : CX w p s m args c cc n own) {idx : Nat} (hlink : Cond.methodLink own idx Lib.Math.max.name ∈ lw_tbl) (hst : Cond.static Lib.Math.max.name ∈ lw_tbl) (hini : Cond.initialized "java/lang/Math" ∈ lw_tbl) (hcode : Cond.code Lib.Math.max.name Lib.Math.max.code 2 (some .int) ∈ lw_tbl) (hR : 1 ≤ R.frames ∧ 21 ≤ R.locals) :
    CallOk w b p l e R s m args below meth c Q cc n 0 0 (.invokestatic idx, 2, xMax) := by
  intro cs ss pc L S vs g g' o hc hs hdg hlen h8 hf k hn H locs ls hL hG hS
  dsimp only at hf
  unfold xMax at hf
  split at hf
  · rename_i x y
    cases hf
    exact va_mmax (rest := S.map (ztv w)) cx.hx cx.hb (by rw [cx.hml, hL.2.1]; exact hn.symm) cx.hown (cx.hts hlink rfl) (cx.hts hst rfl) (cx.hts hini rfl) (cx.hts hcode rfl) hR.1 (by have h2 := wsum_tv (w := w) S; omega) (by omega) (by omega) hdg (k hn H locs ls hL hG hS)
  · cases hf
theorem call_abs (cx : CX w p s m args c cc n own) {idx : Nat} (hlink : Cond.methodLink own idx Lib.Math.abs.name ∈ lw_tbl) (hst : Cond.static Lib.Math.abs.name ∈ lw_tbl) (hini : Cond.initialized "java/lang/Math" ∈ lw_tbl) (hcode : Cond.code Lib.Math.abs.name Lib.Math.abs.code 1 (some .int) ∈ lw_tbl) (hR : 1 ≤ R.frames ∧ 21 ≤ R.locals) :
    CallOk w b p l e R s m args below meth c Q cc n 0 0 (.invokestatic idx, 1, xAbs) := by
  intro cs ss pc L S vs g g' o hc hs hdg hlen h8 hf k hn H locs ls hL hG hS
  dsimp only at hf
  unfold xAbs at hf
  split at hf
  · rename_i x
    cases hf
    exact va_mabs (rest := S.map (ztv w)) cx.hx cx.hb (by rw [cx.hml, hL.2.1]; exact hn.symm) cx.hown (cx.hts hlink rfl) (cx.hts hst rfl) (cx.hts hini rfl) (cx.hts hcode rfl) hR.1 (by have h2 := wsum_tv (w := w) S; omega) (by omega) (by omega) hdg (k hn H locs ls hL hG hS)
  · cases hf
theorem call_copy (cx : CX w p s m args c cc n own) {idx : Nat} (hlink : Cond.methodLink own idx arraycopyName ∈ lw_tbl) (hnat : Cond.native arraycopyName ∈ lw_tbl) (hst : Cond.static arraycopyName ∈ lw_tbl) (hini : Cond.initialized "java/lang/System" ∈ lw_tbl) (hR : 1 ≤ R.frames ∧ 60 ≤ R.locals) :
    CallOk w b p l e R s m args below meth c Q cc n 0 0 (.invokestatic idx, 5, xCopy) := by
  intro cs ss pc L S vs g g' o hc hs hdg hlen h8 hf k hn H locs ls hL hG hS
  dsimp only at hf
  unfold xCopy at hf
  split at hf
  · rename_i a0 sp a dp nn
    split at hf
    · rename_i n0 f n1 h hM0 hM1
      split at hf
      · rename_i hq
        cases hf
        obtain ⟨q1, q2, q3, q4, q5⟩ := hq
        have neg : ∀ z : Int32, 0 ≤ z.toInt → ¬ z < 0 := fun z hz hl => by
          have := Int32.lt_iff_toInt_lt.mp hl
          simp at this; omega
        have nn0 : ∀ z : Int32, z.toNatClampNeg = z.toInt.toNat := fun z => rfl
        obtain ⟨h40, hat0⟩ := hG.1 _ _ hM0
        obtain ⟨h41, hat1⟩ := hG.1 _ _ hM1
        have hnw : nativeFrameWords "java/lang/System" "arraycopy" 5 + 11 ≤ 52 := by decide +kernel
        -- the cells, and the step
        intro T hT X
        have hc0 : H[zad w a0]? = some (vp_cell (w.2.2.2.1 0) (n0, .inl f)) := hat0
        have hc1 : H[zad w a]? = some (vp_cell (w.2.2.2.1 0) (n1, .inl h)) := hat1
        obtain ⟨-, k0, hk0, cm0, hkk0⟩ := (cx.kk.1.2 0 _ rfl).1 n0 (fun j => .int (f j))
        obtain ⟨-, k1, hk1, cm1, hkk1⟩ := (cx.kk.1.2 0 _ rfl).1 n1 (fun j => .int (h j))
        have h4 : sp.toNatClampNeg + nn.toNatClampNeg ≤ n0 := by rw [nn0, nn0]; omega
        obtain ⟨vm', X', step⟩ := X.arraycopy cx.hx cx.hown (cx.hts hlink rfl) (cx.hts hnat rfl) (cx.hts hst rfl) (cx.hts hini rfl) (src := zad w a0) (dst := zad w a) (cs := vp_cell (w.2.2.2.1 0) (n0, .inl f)) (cd := vp_cell (w.2.2.2.1 0) (n1, .inl h)) (srcPos := sp) (destPos := dp) (n := nn) (by rw [hT]; exact hc0) (by rw [hT]; exact hc1)
          (fun _ h => by cases h) (fun _ h => by cases h) (fun h => by cases h) (fun h => by cases h) hk0 hk1 hkk0 hkk1 (by simp [refKind]) (neg sp q1) (neg dp q2) (neg nn q3)
          (by show ¬ _ > ((arrV _ n0 (fun j => .int (f j))).slots.size : Int); rw [arrV_size]; omega)
          (by show ¬ _ > ((arrV _ n1 (fun j => .int (h j))).slots.size : Int); rw [arrV_size]; omega)
          (fun vm₁ _ i hi => by
            have e : (vp_cell (w.2.2.2.1 0) (n0, .inl f)).slots.getD (sp.toNatClampNeg + i) .null = .int (f (sp.toNatClampNeg + i)) := by
              show (arrV _ n0 (fun j => .int (f j))).slots.getD _ _ = _
              rw [Array.getD_eq_getD_getElem?, arrV_read _ _ (by omega)]
              rfl
            refine ⟨?_, ?_⟩
            · rw [e]; rfl
            · rw [e]; exact trivial)
          (g := F0 m pc ls (.int nn :: .int dp :: .ref (zad w a) :: .int sp :: .ref (zad w a0) :: S.map (ztv w))) rfl (by rw [cx.hml]; show ls.size = n; rw [hL.2.1]; exact hn) (rest := S.map (ztv w)) rfl (by rw [cx.hb]; exact hdg) hR.1 (by have h2 := wsum_tv (w := w) S; show 2 * 0 + _ + _ ≤ _; omega)
        have e1 : copied (vp_cell (w.2.2.2.1 0) (n0, .inl f)) (vp_cell (w.2.2.2.1 0) (n1, .inl h)) sp dp nn = vp_cell (w.2.2.2.1 0) (n1, .inl (va_cpy f h sp.toNatClampNeg dp.toNatClampNeg nn.toNatClampNeg)) := va_copied (fun z => .int z) _ _ f h h4
        rw [e1] at X' step
        have hl : zad w a < H.size := (Array.getElem?_eq_some_iff.mp hc1).1
        have hheap : ((T.setVm vm').setCell (zad w a) (vp_cell (w.2.2.2.1 0) (n1, .inl (va_cpy f h sp.toNatClampNeg dp.toNatClampNeg nn.toNatClampNeg)))).heap = H.setIfInBounds (zad w a) (vp_cell (w.2.2.2.1 0) (n1, .inl (va_cpy f h sp.toNatClampNeg dp.toNatClampNeg nn.toNatClampNeg))) := by rw [← hT]; rfl
        have oq : ∀ q : Nat, q ≠ zad w a → (H.setIfInBounds (zad w a) (vp_cell (w.2.2.2.1 0) (n1, .inl (va_cpy f h sp.toNatClampNeg dp.toNatClampNeg nn.toNatClampNeg))))[q]? = H[q]? := fun q hq => by simp [Array.getElem?_setIfInBounds, Ne.symm hq]
        obtain ⟨t, a1, b1⟩ := k hn _ _ ls hL (hG.put (c1 := cI n1 (va_cpy f h sp.toInt.toNat dp.toInt.toNat nn.toInt.toNat)) hM1 (by simp) oq (show (H.setIfInBounds (zad w a) _)[zad w a]? = some _ by simp [Array.getElem?_setIfInBounds, hl]; try rfl)) ⟨by simp; exact hS.1, fun q g1 g2 => by
            rw [oq q (fun e => g2 (by rw [e]; exact zad_ge h41))]
            exact hS.2.1 q g1 g2, fun q hq => by
            rcases List.mem_append.mp hq with h | h
            · exact hS.2.2 q h
            · obtain ⟨z, -, hz⟩ := List.mem_map.mp h
              rw [← hz]
              exact zad_ge h41⟩ _ hheap X'
        exact ⟨t, step t a1, b1⟩
      · cases hf
    · cases hf
  · cases hf
theorem call_raw (cx : CX w p s m args c cc n own) {idx : Nat} (hlink : Cond.methodLink own idx yRaw ∈ lw_tbl) (hnat : Cond.native yRaw ∈ lw_tbl) (hst : Cond.static yRaw ∈ lw_tbl) (hini : Cond.initialized "java/lang/Double" ∈ lw_tbl) (hR : 1 ≤ R.frames ∧ 60 ≤ R.locals) :
    CallOk w b p l e R s m args below meth c Q cc n 0 0 (.invokestatic idx, 1, xRaw) := by
  intro cs ss pc L S vs g g' o hc hs hdg hlen h8 hf k hn H locs ls hL hG hS
  dsimp only at hf
  unfold xRaw at hf
  split at hf
  · rename_i x
    cases hf
    intro T hT X
    have hnw : nativeFrameWords "java/lang/Double" "doubleToRawLongBits" 2 + 11 ≤ 52 := by decide +kernel
    obtain ⟨r, kS, methS, hnS, hmS, hkS, N⟩ := NativeOf.of_static (cx.hts hnat rfl) (cx.hts hst rfl) (ps := [.double]) (ret := some .long) (by decide +kernel)
    have hinitS : kS.init = .initialized := Cond.initialized_spec (findClass_of_methodNamed hnS) hkS (cx.hts hini rfl)
    obtain ⟨vm', X', step⟩ := X.invokestatic cx.hx cx.hown (cx.hts hlink rfl) hnS hmS N.static hkS hinitS (by decide) (g := F0 m pc ls (.double x :: S.map (ztv w))) rfl (argsL := [.double x]) (rest := S.map (ztv w)) (by rw [N.sig]; rfl) rfl (by rw [cx.hb]; exact hdg)
    obtain ⟨t, a1, b1⟩ := k hn H locs ls hL hG hS (T.setVm vm') hT X'
    refine ⟨t, step t fun acts => ?_, b1⟩
    obtain ⟨kS', N'⟩ := N.alike X'.warmed.alike
    exact Steps.doubleToRawLongBitsOf (g := F0 m pc ls (S.map (ztv w))) (ig := .invokestatic idx) (len := 3) p X'.here acts N' x (X'.notFull (g := F0 m pc ls (S.map (ztv w))) (by show ls.size = _; rw [cx.hml, hL.2.1]; exact hn) (vars := nativeFrameWords "java/lang/Double" "doubleToRawLongBits" 2) hR.1 (by have h2 := wsum_tv (w := w) S; show 2 * 0 + ((S.map (ztv w)).map fun v => v.category).sum + _ ≤ _; omega)) (by rw [cx.hb]; exact hdg) a1
  · cases hf
end
