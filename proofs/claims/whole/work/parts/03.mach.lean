/-! ===== pictures of the heap; locals; the goal at a place ===== -/
/-- base address; addresses of the static arrays (0, 1, 2) and of the script (3); class ids and slots; ids of the array classes; what the static arrays hold -/
abbrev Wd : Type := Nat × (Nat → Nat) × va_G × (Nat → ClassId) × (Nat → Option (Nat × (Nat → Int32)))
def zad (w : Wd) (k : Nat) : Nat := if k < 4 then w.2.1 k else w.1 + (k - 4)
def ztv (w : Wd) : Value → Value
  | .ref k => .ref (zad w k)
  | v => v
theorem zad_ge {w : Wd} {k : Nat} (h : 4 ≤ k) : w.1 ≤ zad w k := by
  unfold zad; rw [if_neg (by omega)]; omega
theorem zad_ne {w : Wd} {k j : Nat} (h : 4 ≤ k) (hj : 4 ≤ j) (hkj : k ≠ j) : zad w k ≠ zad w j := by
  unfold zad; rw [if_neg (by omega), if_neg (by omega)]; omega
theorem ztv_cat (w : Wd) (v : Value) : (ztv w v).category = v.category := by cases v <;> rfl
abbrev Cel : Type := ((Nat × (Nat → Int32)) ⊕ (Nat × (Nat → Int64)) ⊕ (Nat × (Nat → Option Nat))) ⊕ (Nat × List Value)
abbrev cI (n : Nat) (f : Nat → Int32) : Cel := .inl (.inl (n, f))
abbrev cJ (n : Nat) (f : Nat → Int64) : Cel := .inl (.inr (.inl (n, f)))
abbrev cR (n : Nat) (f : Nat → Option Nat) : Cel := .inl (.inr (.inr (n, f)))
abbrev cO (ci : Nat) (fs : List Value) : Cel := .inr (ci, fs)
abbrev Hp : Type := Nat → Option Cel
/-- the picture, and the place of the next cell (0: it isn't known) -/
abbrev G : Type := Hp × Nat
abbrev St : Type := List (Option Value) × List Value × G
abbrev Out : Type := Option Value ⊕ String
abbrev Ex : Type := List Value → G → Option (Out × G)
def zup (M : Hp) (k : Nat) (c : Cel) : Hp := fun q => if q = k then some c else M q
def zenc (w : Wd) (c : Cel) : va_E := match c with
  | .inl (.inl a) => .inl (w.2.2.2.1 0, a.1, .inl a.2)
  | .inl (.inr (.inl a)) => .inl (w.2.2.2.1 1, a.1, .inr (.inl a.2))
  | .inl (.inr (.inr a)) => .inl (w.2.2.2.1 2, a.1, .inr (.inr (.inr (.inr (fun j => (a.2 j).map (zad w))))))
  | .inr o => .inr (o.1, o.2.map (ztv w))
def zat (w : Wd) (k : Nat) (c : Cel) (H : Heap) : Prop := va_at w.2.2.1 zcl (zad w k, zenc w c) H
def RepG (w : Wd) (g : G) (H : Heap) : Prop := (∀ k c, g.1 k = some c → 4 ≤ k ∧ zat w k c H) ∧ w.1 ≤ H.size ∧ (g.2 ≠ 0 → 4 ≤ g.2 ∧ H.size = zad w g.2)
abbrev zA (w : Wd) : Nat → Prop := fun q => w.1 ≤ q
abbrev ztys (w : Wd) : List (ClassId × FieldType) := [(w.2.2.2.1 0, .int), (w.2.2.2.1 1, .long), (w.2.2.2.1 2, .object "CoilSlits$Yard")]
def zsn (k : Nat) : String := match k with
  | 0 => "FIRST_SETTINGS"
  | 1 => "LEAST_SETTINGS"
  | _ => "MOST_SETTINGS"
/-- links between nest mates: these words aren't kept by every step, but by warming -/
def zN : List Cond := [.fieldLinkNest "CoilSlits$Yard" 42 "CoilSlits" "FIRST_SETTINGS" "[I" "CoilSlits", .methodLinkNest "CoilSlits" 37 ⟨"CoilSlits$CoilReader", "<init>", "()V"⟩ "CoilSlits", .methodLinkNest "CoilSlits$Yard" 72 ⟨"CoilSlits", "stackOf", "(I)I"⟩ "CoilSlits", .methodLinkNest "CoilSlits$CoilReader" 37 ⟨"CoilSlits", "within", "(III)Z"⟩ "CoilSlits", .methodLinkNest "CoilSlits$CoilReader" 47 ⟨"CoilSlits", "isStack", "(I)Z"⟩ "CoilSlits"]
/-- what the tables and the statics say: of any state of the run -/
def KK (w : Wd) (U : State) : Prop := va_K w.2.2.1 zcl (ztys w) U ∧ (∀ k a, w.2.2.2.2 k = some a → k < 4 ∧ va_T .int (zad w k) a.1 (fun j => .int (a.2 j)) (zA w) U U.heap) ∧ (∀ k, k < 3 → va_Z "CoilSlits" (zsn k) "[I" (.ref (zad w k)) (zA w) U U.heap) ∧ (∀ x ∈ zN, va_Nw x U) ∧ va_AO "CoilSlits$Yard" U
theorem zN_warm {s U : State} (hW : s.WarmedH U.vm) (h : ∀ x ∈ zN, va_Nw x s) : ∀ x ∈ zN, va_Nw x U := by
  intro x hx
  have h1 := h x hx
  simp only [zN, List.mem_cons, List.not_mem_nil, or_false] at hx
  rcases hx with rfl | rfl | rfl | rfl | rfl
  · exact va_Nw.warmF hW h1
  · exact va_Nw.warmM hW h1
  · exact va_Nw.warmM hW h1
  · exact va_Nw.warmM hW h1
  · exact va_Nw.warmM hW h1
theorem KK.warm {w : Wd} {u U : State} (hW : u.WarmedH U.vm) (hq : ∀ a : Nat, a < u.heap.size → ¬ zA w a → U.heap[a]? = u.heap[a]?) (h : KK w u) : KK w U :=
  ⟨va_K.moved hW.alike h.1, fun k a hk => ⟨(h.2.1 k a hk).1, va_T.kept (va_T.moved hW.alike (h.2.1 k a hk).2) hq⟩, fun k hk => va_Z.kept (va_Z.moved hW.alike (h.2.2.1 k hk)) hq, zN_warm hW h.2.2.2.1, h.2.2.2.2.moved hW.alike⟩
/-- the locals: b says that none is of two words -/
def LvR (w : Wd) (b : Bool) (ls : Array Slot) (L : List (Option Value)) : Prop := lv_wf ls ∧ ls.size = L.length ∧ (∀ (i : Nat) (v : Value), L[i]? = some (some v) → ls[i]? = some (.val (ztv w v))) ∧ (b = true → ∀ (i : Nat) (v : Value), L[i]? = some (some v) → v.category = 1)
def lvl (w : Wd) (L : List (Option Value)) : List (Nat × Value) := (List.range L.length).filterMap (fun i => ((L[i]?).join).map (fun v => (i, ztv w v)))
theorem lvl_mem {w : Wd} {L : List (Option Value)} {i : Nat} {u : Value} : (i, u) ∈ lvl w L ↔ ∃ v, L[i]? = some (some v) ∧ u = ztv w v := by
  simp only [lvl, List.mem_filterMap, List.mem_range, Option.map_eq_some_iff, Option.join_eq_some_iff]
  constructor
  · rintro ⟨a, _, v, hv, he⟩
    cases he
    exact ⟨v, hv, rfl⟩
  · rintro ⟨v, hv, rfl⟩
    exact ⟨i, (List.getElem?_eq_some_iff.mp hv).1, v, hv, rfl⟩
theorem LvR.has {w : Wd} {b : Bool} {ls : Array Slot} {L : List (Option Value)} (h : LvR w b ls L) : lv_has ls L.length (lvl w L) :=
  ⟨h.2.1, h.1, fun q hq => by
    obtain ⟨i, u⟩ := q
    obtain ⟨v, hv, rfl⟩ := lvl_mem.mp hq
    exact h.2.2.1 i v hv⟩
def zcat2 (x : Option (Option Value)) : Bool := match x with
  | some (some (.long _)) => true
  | some (some (.double _)) => true
  | _ => false
/-- a store of one word, where no local is of two words; and where one may be -/
def stL (b : Bool) (L : List (Option Value)) (i : Nat) (v : Value) : List (Option Value) := match b with
  | true => L.set i (some v)
  | false => match i with
    | 0 => L.set 0 (some v)
    | j + 1 => match zcat2 L[j]? with
      | true => (L.set j none).set (j + 1) (some v)
      | false => L.set (j + 1) (some v)
def stL2 (L : List (Option Value)) (i : Nat) (v : Value) : List (Option Value) := match i with
  | 0 => (L.set 0 (some v)).set 1 none
  | j + 1 => match zcat2 L[j]? with
    | true => ((L.set j none).set (j + 1) (some v)).set (j + 2) none
    | false => (L.set (j + 1) (some v)).set (j + 2) none
theorem zcat2_iff {v : Value} : zcat2 (some (some v)) = true ↔ v.category = 2 := by cases v <;> simp [zcat2, Value.category]
theorem stL_len (b : Bool) (L : List (Option Value)) (i : Nat) (v : Value) : (stL b L i v).length = L.length := by
  unfold stL; repeat' split
  all_goals simp
theorem stL2_len (L : List (Option Value)) (i : Nat) (v : Value) : (stL2 L i v).length = L.length := by
  unfold stL2; repeat' split
  all_goals simp
theorem stL_get {b : Bool} {L : List (Option Value)} {i j : Nat} {v u : Value} (h : (stL b L i v)[j]? = some (some u)) : (j = i ∧ u = v) ∨ (j ≠ i ∧ L[j]? = some (some u) ∧ (b = false → j + 1 = i → u.category ≠ 2)) := by
  by_cases hji : j = i
  · subst hji
    left; refine ⟨rfl, ?_⟩
    unfold stL at h
    split at h
    · rw [List.getElem?_set] at h; simp at h; exact h.2.symm
    · split at h
      · rw [List.getElem?_set] at h; simp at h; exact h.2.symm
      · split at h
        · rw [List.getElem?_set] at h; simp at h; exact h.2.symm
        · rw [List.getElem?_set] at h; simp at h; exact h.2.symm
  · right; refine ⟨hji, ?_⟩
    unfold stL at h
    split at h
    · rw [List.getElem?_set_ne (Ne.symm hji)] at h
      exact ⟨h, fun hb => by cases hb⟩
    · split at h
      · rw [List.getElem?_set_ne (Ne.symm hji)] at h
        exact ⟨h, fun _ e => by omega⟩
      · rename_i k
        split at h
        · rename_i hz
          rw [List.getElem?_set_ne (Ne.symm hji)] at h
          by_cases hjk : j = k
          · subst hjk
            rw [List.getElem?_set] at h; simp at h
          · rw [List.getElem?_set_ne (Ne.symm hjk)] at h
            exact ⟨h, fun _ e => by omega⟩
        · rename_i hz
          rw [List.getElem?_set_ne (Ne.symm hji)] at h
          refine ⟨h, fun _ e => ?_⟩
          have hjk : j = k := by omega
          subst hjk
          rw [h] at hz
          intro h2
          rw [zcat2_iff.mpr h2] at hz
          cases hz
theorem stL2_get {L : List (Option Value)} {i j : Nat} {v u : Value} (h : (stL2 L i v)[j]? = some (some u)) : (j = i ∧ u = v) ∨ (j ≠ i ∧ j ≠ i + 1 ∧ L[j]? = some (some u) ∧ (j + 1 = i → u.category ≠ 2)) := by
  by_cases hj1 : j = i + 1
  · exfalso
    subst hj1
    unfold stL2 at h
    split at h
    · rw [List.getElem?_set] at h; simp at h
    · split at h
      · rw [List.getElem?_set] at h; simp at h
      · rw [List.getElem?_set] at h; simp at h
  by_cases hji : j = i
  · subst hji
    left; refine ⟨rfl, ?_⟩
    unfold stL2 at h
    split at h
    · rw [List.getElem?_set_ne (by omega), List.getElem?_set] at h; simp at h; exact h.2.symm
    · split at h
      · rw [List.getElem?_set_ne (by omega), List.getElem?_set] at h; simp at h; exact h.2.symm
      · rw [List.getElem?_set_ne (by omega), List.getElem?_set] at h; simp at h; exact h.2.symm
  · right; refine ⟨hji, hj1, ?_⟩
    unfold stL2 at h
    split at h
    · rw [List.getElem?_set_ne (by omega), List.getElem?_set_ne (Ne.symm hji)] at h
      exact ⟨h, fun e => by omega⟩
    · rename_i k
      split at h
      · rename_i hz
        rw [List.getElem?_set_ne (by omega), List.getElem?_set_ne (Ne.symm hji)] at h
        by_cases hjk : j = k
        · subst hjk
          rw [List.getElem?_set] at h; simp at h
        · rw [List.getElem?_set_ne (Ne.symm hjk)] at h
          exact ⟨h, fun e => by omega⟩
      · rename_i hz
        rw [List.getElem?_set_ne (by omega), List.getElem?_set_ne (Ne.symm hji)] at h
        refine ⟨h, fun e => ?_⟩
        have hjk : j = k := by omega
        subst hjk
        rw [h] at hz
        intro h2
        rw [zcat2_iff.mpr h2] at hz
        cases hz
theorem LvR.st1 {w : Wd} {b : Bool} {ls ls' : Array Slot} {L : List (Option Value)} {i : Nat} {v : Value} (h : LvR w b ls L) (hc : v.category = 1)
    (h' : lv_has ls' L.length ((i, ztv w v) :: (lvl w L).filter (fun q => !(q.1 == i) && !(q.1 + 1 == i && q.2.category == 2)))) : LvR w b ls' (stL b L i v) := by
  obtain ⟨e1, e2, e3⟩ := h'
  refine ⟨e2, by rw [e1, stL_len], fun j u hj => ?_, fun hb j u hj => ?_⟩
  · rcases stL_get hj with ⟨rfl, rfl⟩ | ⟨hne, hL, hk⟩
    · exact e3 (j, ztv w u) List.mem_cons_self
    · refine e3 (j, ztv w u) (List.mem_cons_of_mem _ (List.mem_filter.mpr ⟨lvl_mem.mpr ⟨u, hL, rfl⟩, ?_⟩))
      simp only [Bool.and_eq_true, Bool.not_eq_true', beq_eq_false_iff_ne, ne_eq, Bool.and_eq_false_iff, ztv_cat]
      refine ⟨hne, ?_⟩
      by_cases he : j + 1 = i
      · right
        cases b with
        | true => rw [h.2.2.2 rfl j u hL]; decide
        | false => exact hk rfl he
      · exact Or.inl he
  · rcases stL_get hj with ⟨rfl, rfl⟩ | ⟨hne, hL, hk⟩
    · exact hc
    · exact h.2.2.2 hb j u hL
theorem LvR.st2 {w : Wd} {ls ls' : Array Slot} {L : List (Option Value)} {i : Nat} {v : Value} (h : LvR w false ls L)
    (h' : lv_has ls' L.length ((i, ztv w v) :: (lvl w L).filter (fun q => !(q.1 == i) && (!(q.1 == i + 1) && !(q.1 + 1 == i && q.2.category == 2))))) : LvR w false ls' (stL2 L i v) := by
  obtain ⟨e1, e2, e3⟩ := h'
  refine ⟨e2, by rw [e1, stL2_len], fun j u hj => ?_, fun hb => by cases hb⟩
  rcases stL2_get hj with ⟨rfl, rfl⟩ | ⟨hne, hne2, hL, hk⟩
  · exact e3 (j, ztv w u) List.mem_cons_self
  · refine e3 (j, ztv w u) (List.mem_cons_of_mem _ (List.mem_filter.mpr ⟨lvl_mem.mpr ⟨u, hL, rfl⟩, ?_⟩))
    simp only [Bool.and_eq_true, Bool.not_eq_true', beq_eq_false_iff_ne, ne_eq, Bool.and_eq_false_iff, ztv_cat]
    refine ⟨hne, hne2, ?_⟩
    by_cases he : j + 1 = i
    · exact Or.inr (hk he)
    · exact Or.inl he
/-- forgetting locals -/
def zforget (L : List (Option Value)) : List Nat → List (Option Value)
  | [] => L
  | i :: is => zforget (L.set i none) is
theorem LvR.set_none {w : Wd} {b : Bool} {ls : Array Slot} {L : List (Option Value)} (i : Nat) (h : LvR w b ls L) : LvR w b ls (L.set i none) := by
  have key : ∀ (j : Nat) (u : Value), (L.set i none)[j]? = some (some u) → L[j]? = some (some u) := by
    intro j u hj
    by_cases hij : i = j
    · subst hij; rw [List.getElem?_set] at hj; simp at hj
    · rw [List.getElem?_set_ne hij] at hj; exact hj
  exact ⟨h.1, by rw [h.2.1]; simp, fun j u hj => h.2.2.1 j u (key j u hj), fun hb j u hj => h.2.2.2 hb j u (key j u hj)⟩
theorem LvR.forget {w : Wd} {b : Bool} {ls : Array Slot} : ∀ (is : List Nat) {L : List (Option Value)}, LvR w b ls L → LvR w b ls (zforget L is)
  | [], _, h => h
  | i :: is, _, h => LvR.forget is (h.set_none i)
