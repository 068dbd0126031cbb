/-! ===== the constructors ===== -/
section
variable {M : Hp} {a r n c nx A v i N : Nat} {E : Env} {rr : List Instr} {L : List (Option Value)} {S : List Value} {g : G} {f : Nat → Option Nat} {fs : List Value} {T : Nat → Option (Nat × (Nat → Int32))} {x : Int32}
theorem newO_s {ci : Nat} (h : 0 < nx) : newO ci (L, S, (M, nx)) = some (.inl (L, .ref nx :: S, (zup M nx (cO ci (zdf ci)), nx + 1))) := by
  unfold newO
  dsimp only
  rw [if_neg (by show ¬ nx = 0; omega)]
theorem newI_s (h : 0 < nx) (hn : n ≤ N) (hN : N < 2 ^ 31) : newI N (L, .int (nI n) :: S, (M, nx)) = some (.inl (L, .ref nx :: S, (zup M nx (cI n (fun _ => 0)), nx + 1))) := by
  unfold newI
  dsimp only
  rw [if_neg (by show ¬ nx = 0; omega)]
  rw [nI_toInt (by omega), if_pos ⟨by omega, by omega⟩]
  rfl
theorem newJ_s (h : 0 < nx) (hn : n ≤ N) (hN : N < 2 ^ 31) : newJ N (L, .int (nI n) :: S, (M, nx)) = some (.inl (L, .ref nx :: S, (zup M nx (cJ n (fun _ => 0)), nx + 1))) := by
  unfold newJ
  dsimp only
  rw [if_neg (by show ¬ nx = 0; omega)]
  rw [nI_toInt (by omega), if_pos ⟨by omega, by omega⟩]
  rfl
theorem newR_s (h : 0 < nx) (hn : n ≤ N) (hN : N < 2 ^ 31) : newR N (L, .int (nI n) :: S, (M, nx)) = some (.inl (L, .ref nx :: S, (zup M nx (cR n (fun _ => none)), nx + 1))) := by
  unfold newR
  dsimp only
  rw [if_neg (by show ¬ nx = 0; omega)]
  rw [nI_toInt (by omega), if_pos ⟨by omega, by omega⟩]
  rfl
theorem xObj_s : xObj [.ref r] g = some (.inl none, g) := rfl
def asO (o oc : Option Cel) (L : List (Option Value)) (S : List Value) (g : G) (A : Nat) (x : Int32) (v : Nat) : Option St := match o with
  | some (.inl (.inr (.inr (n, f)))) => match zix x n with
    | some j => match oc with
      | some (.inr (2, _)) => some (L, S, (zup g.1 A (cR n (va_up f j (some v))), g.2))
      | _ => none
    | none => none
  | _ => none
def asK (o oc : Option Cel) (E : Env) (rr : List Instr) (L : List (Option Value)) (S : List Value) (g : G) (A : Nat) (x : Int32) (v : Nat) : Option St := match asO o oc L S g A x v with
  | some st => runI E rr st
  | none => none
theorem rr_aastore : runI E (.aastore :: rr) (L, .ref v :: .int x :: .ref A :: S, (M, nx)) = asK (M A) (M v) E rr L S (M, nx) A x v := rfl
theorem asK_s (hi : i < n) (hn : n < 2 ^ 31) : asK (some (cR n f)) (some (cO 2 fs)) E rr L S g A (nI i) v = runI E rr (L, S, (zup g.1 A (cR n (va_up f i (some v))), g.2)) := by
  simp only [asK, asO, zix_n hi hn]
def alK (o : Option Cel) (E : Env) (rr : List Instr) (L : List (Option Value)) (S : List Value) (g : G) : Option St := match o with
  | some (.inl (.inr (.inr (n, _)))) => runI E rr (L, .int (nI n) :: S, g)
  | _ => none
theorem rr_alenR (h : M A = some (cR n f)) : runI E (.arraylength :: rr) (L, .ref A :: S, (M, nx)) = runI E rr (L, .int (nI n) :: S, (M, nx)) := by
  simp only [runI, xI, h]
def firstS (k : Nat) : Nat := if k = 0 then 20 else if k = 3 then 0 else 1
theorem rr_ialoadF {k : Nat} (h1 : M 0 = none) (hE : eT E = zST) (hk : k < 4) : runI E (.iaload :: rr) (L, .int (nI k) :: .ref 0 :: S, (M, nx)) = runI E rr (L, .int (nI (firstS k)) :: S, (M, nx)) := by
  have : k = 0 ∨ k = 1 ∨ k = 2 ∨ k = 3 := by omega
  rcases this with rfl | rfl | rfl | rfl <;> (simp only [runI, xI, h1, hE, zST]; rfl)
theorem rr_alenF (h1 : M 0 = none) (hE : eT E = zST) : runI E (.arraylength :: rr) (L, .ref 0 :: S, (M, nx)) = runI E rr (L, .int (nI 4) :: S, (M, nx)) := by
  simp only [runI, xI, h1, hE, zST]
def isO (o : Option Cel) (L : List (Option Value)) (S : List Value) (g : G) (A : Nat) (x y : Int32) : Option St := match o with
  | some (.inl (.inl (n, f))) => match zix x n with
    | some j => some (L, S, (zup g.1 A (cI n (upd f j y)), g.2))
    | none => none
  | _ => none
def isK (o : Option Cel) (E : Env) (rr : List Instr) (L : List (Option Value)) (S : List Value) (g : G) (A : Nat) (x y : Int32) : Option St := match isO o L S g A x y with
  | some st => runI E rr st
  | none => none
theorem rr_iastoreK {y : Int32} : runI E (.iastore :: rr) (L, .int y :: .int x :: .ref A :: S, (M, nx)) = isK (M A) E rr L S (M, nx) A x y := rfl
theorem isK_s {y : Int32} {f : Nat → Int32} (hi : i < n) (hn : n < 2 ^ 31) : isK (some (cI n f)) E rr L S g A (nI i) y = runI E rr (L, S, (zup g.1 A (cI n (upd f i y)), g.2)) := by
  simp only [isK, isO, zix_n hi hn]
def asT (o : Option (Bool × St)) : Res := match o with
  | some (true, st) => some (.inl st)
  | _ => none
theorem ast_K {c : Cn} {st : St} : ast c st = asT (c st) := rfl
theorem asT_d {P : Prop} [Decidable P] {st : St} (h : P) : asT (some (decide P, st)) = some (.inl st) := by
  rw [decide_eq_true h]
  rfl
def asF (o : Option (Bool × St)) : Res := match o with
  | some (false, st) => some (.inl st)
  | _ => none
theorem asf_K {c : Cn} {st : St} : asf c st = asF (c st) := rfl
theorem asF_f {st : St} : asF (some (decide False, st)) = some (.inl st) := rfl
theorem asT_t {st : St} : asT (some (decide True, st)) = some (.inl st) := rfl
theorem asF_0 {st : St} : asF (some (false, st)) = some (.inl st) := rfl
theorem asT_0 {st : St} : asT (some (true, st)) = some (.inl st) := rfl
theorem clS_1 {F : Ex} {a1 : Value} : calD 1 F (L, a1 :: S, g) = if wsum S ≤ 8 then caK (F [a1] g) L S else none := by
  unfold calD popN
  rfl
theorem clS_2 {F : Ex} {a1 a2 : Value} : calD 2 F (L, a2 :: a1 :: S, g) = if wsum S ≤ 8 then caK (F [a1, a2] g) L S else none := by
  unfold calD popN
  rfl
theorem clS_3 {F : Ex} {a1 a2 a3 : Value} : calD 3 F (L, a3 :: a2 :: a1 :: S, g) = if wsum S ≤ 8 then caK (F [a1, a2, a3] g) L S else none := by
  unfold calD popN
  rfl
theorem pI_0_0 (hE : eI E = true) : pfK (some (0, 0)) (some (cO 0 [.null])) E rr L S (M, nx) A (.ref v) = runI E rr (L, S, (zup M A (cO 0 [.ref v]), nx)) := pfK_at ⟨rfl, by show 0 < 1; omega, .inr hE⟩
theorem pI_1_1 {y0 : Value} (hE : eI E = true) : pfK (some (1, 1)) (some (cO 1 [y0, .null])) E rr L S (M, nx) A (.ref v) = runI E rr (L, S, (zup M A (cO 1 [y0, .ref v]), nx)) := pfK_at ⟨rfl, by show 1 < 2; omega, .inr hE⟩
theorem pI_1_0 {y1 : Value} {x y : Int32} (hE : eI E = true) : pfK (some (1, 0)) (some (cO 1 [.int x, y1])) E rr L S (M, nx) A (.int y) = runI E rr (L, S, (zup M A (cO 1 [.int y, y1]), nx)) := pfK_at ⟨rfl, by show 0 < 2; omega, .inr hE⟩
theorem gI_1_0 {y1 : Value} {x : Int32} : gfK (some (1, 0)) (some (cO 1 [.int x, y1])) E rr L S g = runI E rr (L, .int x :: S, g) := rfl
theorem pI_2_0 {y1 y2 y3 y4 y5 y6 y7 : Value} (hE : eI E = true) : pfK (some (2, 0)) (some (cO 2 [.null, y1, y2, y3, y4, y5, y6, y7])) E rr L S (M, nx) A (.ref v) = runI E rr (L, S, (zup M A (cO 2 [.ref v, y1, y2, y3, y4, y5, y6, y7]), nx)) := pfK_at ⟨rfl, by show 0 < 8; omega, .inr hE⟩
theorem pI_2_1 {y0 y2 y3 y4 y5 y6 y7 : Value} (hE : eI E = true) : pfK (some (2, 1)) (some (cO 2 [y0, .null, y2, y3, y4, y5, y6, y7])) E rr L S (M, nx) A (.ref v) = runI E rr (L, S, (zup M A (cO 2 [y0, .ref v, y2, y3, y4, y5, y6, y7]), nx)) := pfK_at ⟨rfl, by show 1 < 8; omega, .inr hE⟩
theorem pI_2_2 {y0 y1 y3 y4 y5 y6 y7 : Value} (hE : eI E = true) : pfK (some (2, 2)) (some (cO 2 [y0, y1, .null, y3, y4, y5, y6, y7])) E rr L S (M, nx) A (.ref v) = runI E rr (L, S, (zup M A (cO 2 [y0, y1, .ref v, y3, y4, y5, y6, y7]), nx)) := pfK_at ⟨rfl, by show 2 < 8; omega, .inr hE⟩
theorem pI_2_3 {y0 y1 y2 y4 y5 y6 y7 : Value} (hE : eI E = true) : pfK (some (2, 3)) (some (cO 2 [y0, y1, y2, .null, y4, y5, y6, y7])) E rr L S (M, nx) A (.ref v) = runI E rr (L, S, (zup M A (cO 2 [y0, y1, y2, .ref v, y4, y5, y6, y7]), nx)) := pfK_at ⟨rfl, by show 3 < 8; omega, .inr hE⟩
theorem pI_2_4 {y0 y1 y2 y3 y5 y6 y7 : Value} (hE : eI E = true) : pfK (some (2, 4)) (some (cO 2 [y0, y1, y2, y3, .null, y5, y6, y7])) E rr L S (M, nx) A (.ref v) = runI E rr (L, S, (zup M A (cO 2 [y0, y1, y2, y3, .ref v, y5, y6, y7]), nx)) := pfK_at ⟨rfl, by show 4 < 8; omega, .inr hE⟩
theorem pI_3_0 {y1 y2 : Value} (hE : eI E = true) : pfK (some (3, 0)) (some (cO 3 [.null, y1, y2])) E rr L S (M, nx) A (.ref v) = runI E rr (L, S, (zup M A (cO 3 [.ref v, y1, y2]), nx)) := pfK_at ⟨rfl, by show 0 < 3; omega, .inr hE⟩
theorem gI_3_0 {y0 y1 y2 : Value} : gfK (some (3, 0)) (some (cO 3 [y0, y1, y2])) E rr L S g = runI E rr (L, y0 :: S, g) := rfl
theorem pI_5_0 {y1 y2 y3 y4 y5 : Value} (hE : eI E = true) : pfK (some (5, 0)) (some (cO 5 [.null, y1, y2, y3, y4, y5])) E rr L S (M, nx) A (.ref v) = runI E rr (L, S, (zup M A (cO 5 [.ref v, y1, y2, y3, y4, y5]), nx)) := pfK_at ⟨rfl, by show 0 < 6; omega, .inr hE⟩
theorem pI_5_1 {y0 y2 y3 y4 y5 : Value} (hE : eI E = true) : pfK (some (5, 1)) (some (cO 5 [y0, .null, y2, y3, y4, y5])) E rr L S (M, nx) A (.ref v) = runI E rr (L, S, (zup M A (cO 5 [y0, .ref v, y2, y3, y4, y5]), nx)) := pfK_at ⟨rfl, by show 1 < 6; omega, .inr hE⟩
theorem pI_5_2 {y0 y1 y3 y4 y5 : Value} (hE : eI E = true) : pfK (some (5, 2)) (some (cO 5 [y0, y1, .null, y3, y4, y5])) E rr L S (M, nx) A (.ref v) = runI E rr (L, S, (zup M A (cO 5 [y0, y1, .ref v, y3, y4, y5]), nx)) := pfK_at ⟨rfl, by show 2 < 6; omega, .inr hE⟩
theorem pI_5_3 {y0 y1 y2 y4 y5 : Value} (hE : eI E = true) : pfK (some (5, 3)) (some (cO 5 [y0, y1, y2, .null, y4, y5])) E rr L S (M, nx) A (.ref v) = runI E rr (L, S, (zup M A (cO 5 [y0, y1, y2, .ref v, y4, y5]), nx)) := pfK_at ⟨rfl, by show 3 < 6; omega, .inr hE⟩
theorem pI_5_4 {y0 y1 y2 y3 y5 : Value} (hE : eI E = true) : pfK (some (5, 4)) (some (cO 5 [y0, y1, y2, y3, .null, y5])) E rr L S (M, nx) A (.ref v) = runI E rr (L, S, (zup M A (cO 5 [y0, y1, y2, y3, .ref v, y5]), nx)) := pfK_at ⟨rfl, by show 4 < 6; omega, .inr hE⟩
theorem pI_6_0 {y1 y2 y3 y4 y5 y6 y7 y8 y9 y10 : Value} (hE : eI E = true) : pfK (some (6, 0)) (some (cO 6 [.null, y1, y2, y3, y4, y5, y6, y7, y8, y9, y10])) E rr L S (M, nx) A (.ref v) = runI E rr (L, S, (zup M A (cO 6 [.ref v, y1, y2, y3, y4, y5, y6, y7, y8, y9, y10]), nx)) := pfK_at ⟨rfl, by show 0 < 11; omega, .inr hE⟩
theorem pI_6_1 {y0 y2 y3 y4 y5 y6 y7 y8 y9 y10 : Value} (hE : eI E = true) : pfK (some (6, 1)) (some (cO 6 [y0, .null, y2, y3, y4, y5, y6, y7, y8, y9, y10])) E rr L S (M, nx) A (.ref v) = runI E rr (L, S, (zup M A (cO 6 [y0, .ref v, y2, y3, y4, y5, y6, y7, y8, y9, y10]), nx)) := pfK_at ⟨rfl, by show 1 < 11; omega, .inr hE⟩
theorem pI_6_2 {y0 y1 y3 y4 y5 y6 y7 y8 y9 y10 : Value} (hE : eI E = true) : pfK (some (6, 2)) (some (cO 6 [y0, y1, .null, y3, y4, y5, y6, y7, y8, y9, y10])) E rr L S (M, nx) A (.ref v) = runI E rr (L, S, (zup M A (cO 6 [y0, y1, .ref v, y3, y4, y5, y6, y7, y8, y9, y10]), nx)) := pfK_at ⟨rfl, by show 2 < 11; omega, .inr hE⟩
theorem pI_6_4 {y0 y1 y2 y3 y5 y6 y7 y8 y9 y10 : Value} (hE : eI E = true) : pfK (some (6, 4)) (some (cO 6 [y0, y1, y2, y3, .null, y5, y6, y7, y8, y9, y10])) E rr L S (M, nx) A (.ref v) = runI E rr (L, S, (zup M A (cO 6 [y0, y1, y2, y3, .ref v, y5, y6, y7, y8, y9, y10]), nx)) := pfK_at ⟨rfl, by show 4 < 11; omega, .inr hE⟩
theorem pI_6_9 {y0 y1 y2 y3 y4 y5 y6 y7 y8 y10 : Value} (hE : eI E = true) : pfK (some (6, 9)) (some (cO 6 [y0, y1, y2, y3, y4, y5, y6, y7, y8, .null, y10])) E rr L S (M, nx) A (.ref v) = runI E rr (L, S, (zup M A (cO 6 [y0, y1, y2, y3, y4, y5, y6, y7, y8, .ref v, y10]), nx)) := pfK_at ⟨rfl, by show 9 < 11; omega, .inr hE⟩
theorem gI_6_0 {y0 y1 y2 y3 y4 y5 y6 y7 y8 y9 y10 : Value} : gfK (some (6, 0)) (some (cO 6 [y0, y1, y2, y3, y4, y5, y6, y7, y8, y9, y10])) E rr L S g = runI E rr (L, y0 :: S, g) := rfl
theorem zdf_0 : zdf 0 = [.null] := rfl
theorem zdf_1 : zdf 1 = [.int 0, .null] := rfl
theorem zdf_2 : zdf 2 = [.null, .null, .null, .null, .null, .int 0, .int 0, .int 0] := rfl
theorem zdf_3 : zdf 3 = [.null, .int 0, .int 0] := rfl
theorem zdf_4 : zdf 4 = [.int 0, .int 0, .int 0, .int 0, .int 0] := rfl
theorem zdf_5 : zdf 5 = [.null, .null, .null, .null, .null, .int 0] := rfl
theorem zdf_6 : zdf 6 = [.null, .null, .null, .int 0, .null, .int 0, .int 0, .int 0, .int 0, .null, .int 0] := rfl
/-! rows, grids -/
def rowM (M : Hp) (r b n : Nat) : Hp := zup (zup M b (cI n (fun _ => 0))) r (cO 0 [.ref b])
def grdM (M : Hp) (r b n c : Nat) : Hp := zup (zup M b (cI (n * c) (fun _ => 0))) r (cO 1 [.int (nI c), .ref b])
theorem k_Row_init (h0 : 0 < nx) (hr : r ≠ nx) (hn : n ≤ 60) : x_Row_init [.ref r, .int (nI n)] (zup M r (cO 0 (zdf 0)), nx) = some (.inl none, (rowM M r nx n, nx + 1)) := by
  have e : ∀ c : Cel, zup (zup (zup M r c) nx (cI n (fun _ => 0))) r (cO 0 [.ref nx]) = rowM M r nx n := fun c => by
    unfold rowM
    rw [zup_comm hr, zup_zup]
  rw [q_Row_init, zdf_0]
  simp (disch := omega) only [upd_nI, nI_add, pk_mul, zn_lt, zn_le, zn_eq, zn_e0, zn_l0, zn_g0, zn_le0, zn_ge0, zn_m1, zn_m1', zn_m1m, zn_sub, zn_addm, zn_div, eo_none, eo_some, mg_nI, mg_eo1, mg_eo2, mg_eo, mg_int, mg_lng, mg_sm, mg_smN, mg_cons, mg_pair, mg_nm, mg_fn, mg_out, mg_res, mg_sM, zb_e0, zb_e0', rr_nil, ite_self, rr_getfield, gfK_at, rr_putfield, pfK_at, rr_ivS, rr_ivV, rr_ivP, ws_nil, ws_int, ws_ref, ws_lng, cK_1, cK_0, iv_0, iv_1, iv_2, iv_3, iv_4, iv_5, iv_6, iv_7, fgK_l, fgK_r, fgK_if, zf_nil, zf_0, zf_1, zf_2, zf_3, zf_4, zf_5, zf_6, zf_7, zf_8, zf_9, zf_10, cat_K, ct_eq, ct_ne, ct_lt, ct_ge, ct_gt, ct_le, ct_eq0, ct_ne0, ct_lt0, ct_ge0, ct_gt0, ct_le0, ct_nulr, ct_nul, cno_K, nK_d, can_K, aK_d, cor_K, oK_d, cd_t, cd_f, nK_if, aK_if, oK_if, cfo_K, ite_K, iK_d, iK_if, sq_K, sK_nm, sK_x, sK_if, blk_K, bK_s, rti_K, riK_s, rtz_K, rzK_b, rzK_b', rzK_s, rtv_K, rvK_s, rta_K, raK_s, raK_n, rtl_K, rlK_s, rtd_K, rdK_s, brk_K, cnt_K, zr_fn, zr_if, swi_K, swK_s, swg_nil, swg_cons, stp_K, tK_d, tK_if, vK_nm, vK_bk, vK_ct, vK_fn, vK_if, wK_nm, Classical.not_not, Decidable.not_not, not_true, not_false_iff, if_true, if_false, Nat.zero_le, Nat.reduceLeDiff, Nat.reduceLT, Nat.zero_lt_one, Nat.one_ne_zero, Nat.reduceEqDiff, not_false_eq_true, eq_self, reduceCtorEq, Option.getD_some, Option.getD_none, Nat.reduceAdd, Nat.not_le, Nat.not_lt, Int32.not_le, Int32.not_lt, true_and, and_true, false_and, and_false, true_or, or_true, false_or, or_false, d_Row_init, lc_Row_init_1, lc_Row_init_7, lf_Row_init_13, lt_Row_init, li_Row_init, rr_aload0, rr_iconst0, rr_iload1, lt_T, lt_F, le_T, le_F, eq_T, eq_F, ne_eq, xObj_s, xMax_n, newI_s, zup_eq, zup_ne, rr_putfield, pI_0_0 (E := E_Row_init) rfl]
  rw [e]
theorem k_Grid_init (h0 : 0 < nx) (hr : r ≠ nx) (hn : n * c ≤ 150) (hn2 : n ≤ 60) (hc : c < 60) : x_Grid_init [.ref r, .int (nI n), .int (nI c)] (zup M r (cO 1 (zdf 1)), nx) = some (.inl none, (grdM M r nx n c, nx + 1)) := by
  have e : ∀ c1 c2 : Cel, zup (zup (zup (zup M r c1) r c2) nx (cI (n * c) (fun _ => 0))) r (cO 1 [.int (nI c), .ref nx]) = grdM M r nx n c := fun c1 c2 => by
    unfold grdM
    rw [zup_zup, zup_comm hr, zup_zup]
  rw [q_Grid_init, zdf_1]
  simp (disch := omega) only [upd_nI, nI_add, pk_mul, zn_lt, zn_le, zn_eq, zn_e0, zn_l0, zn_g0, zn_le0, zn_ge0, zn_m1, zn_m1', zn_m1m, zn_sub, zn_addm, zn_div, eo_none, eo_some, mg_nI, mg_eo1, mg_eo2, mg_eo, mg_int, mg_lng, mg_sm, mg_smN, mg_cons, mg_pair, mg_nm, mg_fn, mg_out, mg_res, mg_sM, zb_e0, zb_e0', rr_nil, ite_self, rr_getfield, gfK_at, rr_putfield, pfK_at, rr_ivS, rr_ivV, rr_ivP, ws_nil, ws_int, ws_ref, ws_lng, cK_1, cK_0, iv_0, iv_1, iv_2, iv_3, iv_4, iv_5, iv_6, iv_7, fgK_l, fgK_r, fgK_if, zf_nil, zf_0, zf_1, zf_2, zf_3, zf_4, zf_5, zf_6, zf_7, zf_8, zf_9, zf_10, cat_K, ct_eq, ct_ne, ct_lt, ct_ge, ct_gt, ct_le, ct_eq0, ct_ne0, ct_lt0, ct_ge0, ct_gt0, ct_le0, ct_nulr, ct_nul, cno_K, nK_d, can_K, aK_d, cor_K, oK_d, cd_t, cd_f, nK_if, aK_if, oK_if, cfo_K, ite_K, iK_d, iK_if, sq_K, sK_nm, sK_x, sK_if, blk_K, bK_s, rti_K, riK_s, rtz_K, rzK_b, rzK_b', rzK_s, rtv_K, rvK_s, rta_K, raK_s, raK_n, rtl_K, rlK_s, rtd_K, rdK_s, brk_K, cnt_K, zr_fn, zr_if, swi_K, swK_s, swg_nil, swg_cons, stp_K, tK_d, tK_if, vK_nm, vK_bk, vK_ct, vK_fn, vK_if, wK_nm, Classical.not_not, Decidable.not_not, not_true, not_false_iff, if_true, if_false, Nat.zero_le, Nat.reduceLeDiff, Nat.reduceLT, Nat.zero_lt_one, Nat.one_ne_zero, Nat.reduceEqDiff, not_false_eq_true, eq_self, reduceCtorEq, Option.getD_some, Option.getD_none, Nat.reduceAdd, Nat.not_le, Nat.not_lt, Int32.not_le, Int32.not_lt, true_and, and_true, false_and, and_false, true_or, or_true, false_or, or_false, d_Grid_init, lc_Grid_init_1, lc_Grid_init_7, lf_Grid_init_13, lf_Grid_init_19, lt_Grid_init, li_Grid_init, rr_aload0, rr_iconst0, rr_iload1, rr_iload2, rr_imul, lt_T, lt_F, le_T, le_F, eq_T, eq_F, ne_eq, xObj_s, xMax_n, newI_s, zup_eq, zup_ne, rr_putfield, rr_getfield, gI_1_0, pI_1_0 (E := E_Grid_init) rfl, pI_1_1 (E := E_Grid_init) rfl]
  rw [e]
theorem tr_0 {n : Nat} : tr n (fun _ => 0) = fun _ => 0 := by
  funext k
  unfold tr
  split <;> rfl
/-- the state of a new object -/
def t00 : Nat → Nat := updN (updN (updN (fun _ => 0) 0 20) 1 1) 2 1
def co0 (n : Nat) : Nat → Int32 := fun j => if j % 5 = 4 ∧ j / 5 < n then -1 else 0
def ts0 (n : Nat) : Nat → Nat := fun j => if j < n ∧ j < 4 then firstS j else 0
def co00 : Nat → Int32 := co0 30
def od00 : Nat → Int32 := fun _ => 0
theorem t00_at {k : Nat} : t00 k = if k = 0 then 20 else if k = 1 ∨ k = 2 then 1 else 0 := by
  unfold t00
  by_cases e0 : k = 0
  · rw [e0, updN_ne (by omega), updN_ne (by omega), updN_eq, if_pos rfl]
  · rw [if_neg e0]
    by_cases e1 : k = 1
    · rw [e1, updN_ne (by omega), updN_eq, if_pos (.inl rfl)]
    · by_cases e2 : k = 2
      · rw [e2, updN_eq, if_pos (.inr rfl)]
      · rw [updN_ne e2, updN_ne e1, updN_ne e0, if_neg (by omega)]
theorem rowM_r : rowM M r c n r = some (cO 0 [.ref c]) := zup_eq
theorem rowM_b (h : c ≠ r) : rowM M r c n c = some (cI n (fun _ => 0)) := by
  unfold rowM
  rw [zup_ne h, zup_eq]
theorem rowM_ne (h1 : i ≠ r) (h2 : i ≠ c) : rowM M r c n i = M i := by
  unfold rowM
  rw [zup_ne h1, zup_ne h2]
theorem grdM_r {b : Nat} : grdM M r b n c r = some (cO 1 [.int (nI c), .ref b]) := zup_eq
theorem grdM_b {b : Nat} (h : b ≠ r) : grdM M r b n c b = some (cI (n * c) (fun _ => 0)) := by
  unfold grdM
  rw [zup_ne h, zup_eq]
theorem grdM_ne {b : Nat} (h1 : i ≠ r) (h2 : i ≠ b) : grdM M r b n c i = M i := by
  unfold grdM
  rw [zup_ne h1, zup_ne h2]
def yN1 (M : Hp) (a : Nat) : Hp := zup (grdM (zup M a (cO 2 [.null, .null, .null, .null, .null, .int 0, .int 0, .int 0])) (a + 1) (a + 2) 30 5) a (cO 2 [.ref (a + 1), .null, .null, .null, .null, .int 0, .int 0, .int 0])
def yN2 (M : Hp) (a : Nat) : Hp := zup (rowM (yN1 M a) (a + 3) (a + 4) 6) a (cO 2 [.ref (a + 1), .ref (a + 3), .null, .null, .null, .int 0, .int 0, .int 0])
def yN3 (M : Hp) (a : Nat) : Hp := zup (grdM (yN2 M a) (a + 5) (a + 6) 8 6) a (cO 2 [.ref (a + 1), .ref (a + 3), .ref (a + 5), .null, .null, .int 0, .int 0, .int 0])
def yN4 (M : Hp) (a : Nat) : Hp := zup (rowM (yN3 M a) (a + 7) (a + 8) 4) a (cO 2 [.ref (a + 1), .ref (a + 3), .ref (a + 5), .ref (a + 7), .null, .int 0, .int 0, .int 0])
def yN5 (M : Hp) (a : Nat) : Hp := zup (rowM (yN4 M a) (a + 9) (a + 10) 14) a (cO 2 [.ref (a + 1), .ref (a + 3), .ref (a + 5), .ref (a + 7), .ref (a + 9), .int 0, .int 0, .int 0])
theorem taF_0 : taF (fun _ => 0) = fun _ => 0 := by
  funext k
  unfold taF
  split <;> rfl
theorem yard_new : yN5 M a = yM M a (fun _ => 0) (fun _ => 0) (fun _ => 0) := by
  refine yM_ext ?_ ?_ ?_ ?_ ?_ ?_ ?_ ?_ ?_ ?_ ?_ ?_
  · exact zup_eq
  · simp (disch := omega) only [yN5, yN4, yN3, yN2, yN1, zup_ne, rowM_ne, grdM_ne, grdM_r]
  · rw [tr_0]
    simp (disch := omega) only [yN5, yN4, yN3, yN2, yN1, zup_ne, rowM_ne, grdM_ne, grdM_b]
  · simp (disch := omega) only [yN5, yN4, yN3, yN2, yN1, zup_ne, rowM_ne, grdM_ne, rowM_r]
  · simp (disch := omega) only [yN5, yN4, yN3, yN2, yN1, zup_ne, rowM_ne, grdM_ne, rowM_b]
    exact congrArg (fun f => some (cI 6 f)) tr_0.symm
  · simp (disch := omega) only [yN5, yN4, yN3, yN2, yN1, zup_ne, rowM_ne, grdM_ne, grdM_r]
  · rw [tr_0]
    simp (disch := omega) only [yN5, yN4, yN3, yN2, yN1, zup_ne, rowM_ne, grdM_ne, grdM_b]
  · simp (disch := omega) only [yN5, yN4, yN3, yN2, yN1, zup_ne, rowM_ne, grdM_ne, rowM_r]
  · simp (disch := omega) only [yN5, yN4, yN3, yN2, yN1, zup_ne, rowM_ne, grdM_ne, rowM_b]
    exact congrArg (fun f => some (cI 4 f)) tr_0.symm
  · simp (disch := omega) only [yN5, yN4, yN3, yN2, yN1, zup_ne, rowM_ne, grdM_ne, rowM_r]
  · rw [taF_0, tr_0]
    simp (disch := omega) only [yN5, yN4, yN3, yN2, yN1, zup_ne, rowM_ne, grdM_ne, rowM_b]
  · intro i hi
    simp (disch := omega) only [yN5, yN4, yN3, yN2, yN1, zup_ne, rowM_ne, grdM_ne]
theorem co0_s {k : Nat} (hk : k < 30) : upd (co0 k) (5 * k + 4) (-1) = co0 (k + 1) := by
  funext j
  unfold co0
  by_cases e : j = 5 * k + 4
  · rw [e, upd_at, if_pos (by omega)]
  · rw [upd_ne e]
    by_cases e2 : j % 5 = 4 ∧ j / 5 < k
    · rw [if_pos e2, if_pos (by omega)]
    · rw [if_neg e2, if_neg (by omega)]
theorem co0_0 : co0 0 = fun _ => 0 := by
  funext j
  unfold co0
  rw [if_neg (by omega)]
theorem ts0_0 : ts0 0 = fun _ => 0 := by
  funext j
  unfold ts0
  rw [if_neg (by omega)]
theorem ts0_s {k : Nat} (hk : k < 4) : updN (ts0 k) k (firstS k) = ts0 (k + 1) := by
  funext j
  unfold ts0
  by_cases e : j = k
  · rw [e, updN_eq, if_pos (by omega)]
  · rw [updN_ne e]
    by_cases e2 : j < k ∧ j < 4
    · rw [if_pos e2, if_pos (by omega)]
    · rw [if_neg e2, if_neg (by omega)]
theorem ts0_4 {k : Nat} : ts0 4 k = t00 k := by
  rw [t00_at]
  unfold ts0 firstS
  by_cases h : k < 4
  · rw [if_pos ⟨h, h⟩]
    by_cases e0 : k = 0
    · rw [if_pos e0, if_pos e0]
    · rw [if_neg e0, if_neg e0]
      by_cases e3 : k = 3
      · rw [if_pos e3, if_neg (by omega)]
      · rw [if_neg e3, if_pos (by omega)]
  · rw [if_neg (by omega), if_neg (by omega), if_neg (by omega)]
theorem yst1 {K : Dn} : sq (newO 1) (sq (blk E_Yard_init [.dup, .bipush 30, .iconst 5]) (sq (calD 3 x_Grid_init) (sq (blk E_Yard_init [.putfield 14, .aload_n 0]) K))) ([some (.ref a), none], [.ref a], ((zup M a (cO 2 [.null, .null, .null, .null, .null, .int 0, .int 0, .int 0])), a + 1)) = K ([some (.ref a), none], [.ref a], (yN1 M a, a + 3)) := by
  have f1 : zup (grdM (zup M a (cO 2 [.null, .null, .null, .null, .null, .int 0, .int 0, .int 0])) (a + 1) (a + 2) 30 5) a (cO 2 [.ref (a + 1), .null, .null, .null, .null, .int 0, .int 0, .int 0]) = yN1 M a := rfl
  have r1 : (zup M a (cO 2 [.null, .null, .null, .null, .null, .int 0, .int 0, .int 0])) a = some (cO 2 [.null, .null, .null, .null, .null, .int 0, .int 0, .int 0]) := zup_eq
  simp (disch := omega) only [upd_nI, nI_add, pk_mul, zn_lt, zn_le, zn_eq, zn_e0, zn_l0, zn_g0, zn_le0, zn_ge0, zn_m1, zn_m1', zn_m1m, zn_sub, zn_addm, zn_div, eo_none, eo_some, mg_nI, mg_eo1, mg_eo2, mg_eo, mg_int, mg_lng, mg_sm, mg_smN, mg_cons, mg_pair, mg_nm, mg_fn, mg_out, mg_res, mg_sM, zb_e0, zb_e0', rr_nil, ite_self, rr_getfield, gfK_at, rr_putfield, pfK_at, rr_ivS, rr_ivV, rr_ivP, ws_nil, ws_int, ws_ref, ws_lng, cK_1, cK_0, iv_0, iv_1, iv_2, iv_3, iv_4, iv_5, iv_6, iv_7, fgK_l, fgK_r, fgK_if, zf_nil, zf_0, zf_1, zf_2, zf_3, zf_4, zf_5, zf_6, zf_7, zf_8, zf_9, zf_10, cat_K, ct_eq, ct_ne, ct_lt, ct_ge, ct_gt, ct_le, ct_eq0, ct_ne0, ct_lt0, ct_ge0, ct_gt0, ct_le0, ct_nulr, ct_nul, cno_K, nK_d, can_K, aK_d, cor_K, oK_d, cd_t, cd_f, nK_if, aK_if, oK_if, cfo_K, ite_K, iK_d, iK_if, sq_K, sK_nm, sK_x, sK_if, blk_K, bK_s, rti_K, riK_s, rtz_K, rzK_b, rzK_b', rzK_s, rtv_K, rvK_s, rta_K, raK_s, raK_n, rtl_K, rlK_s, rtd_K, rdK_s, brk_K, cnt_K, zr_fn, zr_if, swi_K, swK_s, swg_nil, swg_cons, stp_K, tK_d, tK_if, vK_nm, vK_bk, vK_ct, vK_fn, vK_if, wK_nm, Classical.not_not, Decidable.not_not, not_true, not_false_iff, if_true, if_false, Nat.zero_le, Nat.reduceLeDiff, Nat.reduceLT, Nat.zero_lt_one, Nat.one_ne_zero, Nat.reduceEqDiff, not_false_eq_true, eq_self, reduceCtorEq, Option.getD_some, Option.getD_none, Nat.reduceAdd, Nat.not_le, Nat.not_lt, Int32.not_le, Int32.not_lt, true_and, and_true, false_and, and_false, true_or, or_true, false_or, or_false, newO_s, rr_dupr, rr_bipush30, rr_bipush6, rr_bipush8, rr_bipush14, rr_iconst5, rr_iconst4, rr_iconst0, rr_aload0, rr_istore1 lb_Yard_init, Nat.add_assoc, clS_2, clS_3, caK_0, k_Grid_init, k_Row_init, grdM_ne, rowM_ne, zup_eq, zup_ne, rr_putfield, lf_Yard_init_14, pI_2_0 (E := E_Yard_init) rfl, f1, r1]
theorem yst2 {K : Dn} : sq (newO 0) (sq (blk E_Yard_init [.dup, .bipush 6]) (sq (calD 2 x_Row_init) (sq (blk E_Yard_init [.putfield 25, .aload_n 0]) K))) ([some (.ref a), none], [.ref a], ((yN1 M a), a + 3)) = K ([some (.ref a), none], [.ref a], (yN2 M a, a + 5)) := by
  have f1 : zup (rowM (yN1 M a) (a + 3) (a + 4) 6) a (cO 2 [.ref (a + 1), .ref (a + 3), .null, .null, .null, .int 0, .int 0, .int 0]) = yN2 M a := rfl
  have r1 : (yN1 M a) a = some (cO 2 [.ref (a + 1), .null, .null, .null, .null, .int 0, .int 0, .int 0]) := zup_eq
  simp (disch := omega) only [upd_nI, nI_add, pk_mul, zn_lt, zn_le, zn_eq, zn_e0, zn_l0, zn_g0, zn_le0, zn_ge0, zn_m1, zn_m1', zn_m1m, zn_sub, zn_addm, zn_div, eo_none, eo_some, mg_nI, mg_eo1, mg_eo2, mg_eo, mg_int, mg_lng, mg_sm, mg_smN, mg_cons, mg_pair, mg_nm, mg_fn, mg_out, mg_res, mg_sM, zb_e0, zb_e0', rr_nil, ite_self, rr_getfield, gfK_at, rr_putfield, pfK_at, rr_ivS, rr_ivV, rr_ivP, ws_nil, ws_int, ws_ref, ws_lng, cK_1, cK_0, iv_0, iv_1, iv_2, iv_3, iv_4, iv_5, iv_6, iv_7, fgK_l, fgK_r, fgK_if, zf_nil, zf_0, zf_1, zf_2, zf_3, zf_4, zf_5, zf_6, zf_7, zf_8, zf_9, zf_10, cat_K, ct_eq, ct_ne, ct_lt, ct_ge, ct_gt, ct_le, ct_eq0, ct_ne0, ct_lt0, ct_ge0, ct_gt0, ct_le0, ct_nulr, ct_nul, cno_K, nK_d, can_K, aK_d, cor_K, oK_d, cd_t, cd_f, nK_if, aK_if, oK_if, cfo_K, ite_K, iK_d, iK_if, sq_K, sK_nm, sK_x, sK_if, blk_K, bK_s, rti_K, riK_s, rtz_K, rzK_b, rzK_b', rzK_s, rtv_K, rvK_s, rta_K, raK_s, raK_n, rtl_K, rlK_s, rtd_K, rdK_s, brk_K, cnt_K, zr_fn, zr_if, swi_K, swK_s, swg_nil, swg_cons, stp_K, tK_d, tK_if, vK_nm, vK_bk, vK_ct, vK_fn, vK_if, wK_nm, Classical.not_not, Decidable.not_not, not_true, not_false_iff, if_true, if_false, Nat.zero_le, Nat.reduceLeDiff, Nat.reduceLT, Nat.zero_lt_one, Nat.one_ne_zero, Nat.reduceEqDiff, not_false_eq_true, eq_self, reduceCtorEq, Option.getD_some, Option.getD_none, Nat.reduceAdd, Nat.not_le, Nat.not_lt, Int32.not_le, Int32.not_lt, true_and, and_true, false_and, and_false, true_or, or_true, false_or, or_false, newO_s, rr_dupr, rr_bipush30, rr_bipush6, rr_bipush8, rr_bipush14, rr_iconst5, rr_iconst4, rr_iconst0, rr_aload0, rr_istore1 lb_Yard_init, Nat.add_assoc, clS_2, clS_3, caK_0, k_Grid_init, k_Row_init, grdM_ne, rowM_ne, zup_eq, zup_ne, rr_putfield, lf_Yard_init_25, pI_2_1 (E := E_Yard_init) rfl, f1, r1]
theorem yst3 {K : Dn} : sq (newO 1) (sq (blk E_Yard_init [.dup, .bipush 8, .bipush 6]) (sq (calD 3 x_Grid_init) (sq (blk E_Yard_init [.putfield 29, .aload_n 0]) K))) ([some (.ref a), none], [.ref a], ((yN2 M a), a + 5)) = K ([some (.ref a), none], [.ref a], (yN3 M a, a + 7)) := by
  have f1 : zup (grdM (yN2 M a) (a + 5) (a + 6) 8 6) a (cO 2 [.ref (a + 1), .ref (a + 3), .ref (a + 5), .null, .null, .int 0, .int 0, .int 0]) = yN3 M a := rfl
  have r1 : (yN2 M a) a = some (cO 2 [.ref (a + 1), .ref (a + 3), .null, .null, .null, .int 0, .int 0, .int 0]) := zup_eq
  simp (disch := omega) only [upd_nI, nI_add, pk_mul, zn_lt, zn_le, zn_eq, zn_e0, zn_l0, zn_g0, zn_le0, zn_ge0, zn_m1, zn_m1', zn_m1m, zn_sub, zn_addm, zn_div, eo_none, eo_some, mg_nI, mg_eo1, mg_eo2, mg_eo, mg_int, mg_lng, mg_sm, mg_smN, mg_cons, mg_pair, mg_nm, mg_fn, mg_out, mg_res, mg_sM, zb_e0, zb_e0', rr_nil, ite_self, rr_getfield, gfK_at, rr_putfield, pfK_at, rr_ivS, rr_ivV, rr_ivP, ws_nil, ws_int, ws_ref, ws_lng, cK_1, cK_0, iv_0, iv_1, iv_2, iv_3, iv_4, iv_5, iv_6, iv_7, fgK_l, fgK_r, fgK_if, zf_nil, zf_0, zf_1, zf_2, zf_3, zf_4, zf_5, zf_6, zf_7, zf_8, zf_9, zf_10, cat_K, ct_eq, ct_ne, ct_lt, ct_ge, ct_gt, ct_le, ct_eq0, ct_ne0, ct_lt0, ct_ge0, ct_gt0, ct_le0, ct_nulr, ct_nul, cno_K, nK_d, can_K, aK_d, cor_K, oK_d, cd_t, cd_f, nK_if, aK_if, oK_if, cfo_K, ite_K, iK_d, iK_if, sq_K, sK_nm, sK_x, sK_if, blk_K, bK_s, rti_K, riK_s, rtz_K, rzK_b, rzK_b', rzK_s, rtv_K, rvK_s, rta_K, raK_s, raK_n, rtl_K, rlK_s, rtd_K, rdK_s, brk_K, cnt_K, zr_fn, zr_if, swi_K, swK_s, swg_nil, swg_cons, stp_K, tK_d, tK_if, vK_nm, vK_bk, vK_ct, vK_fn, vK_if, wK_nm, Classical.not_not, Decidable.not_not, not_true, not_false_iff, if_true, if_false, Nat.zero_le, Nat.reduceLeDiff, Nat.reduceLT, Nat.zero_lt_one, Nat.one_ne_zero, Nat.reduceEqDiff, not_false_eq_true, eq_self, reduceCtorEq, Option.getD_some, Option.getD_none, Nat.reduceAdd, Nat.not_le, Nat.not_lt, Int32.not_le, Int32.not_lt, true_and, and_true, false_and, and_false, true_or, or_true, false_or, or_false, newO_s, rr_dupr, rr_bipush30, rr_bipush6, rr_bipush8, rr_bipush14, rr_iconst5, rr_iconst4, rr_iconst0, rr_aload0, rr_istore1 lb_Yard_init, Nat.add_assoc, clS_2, clS_3, caK_0, k_Grid_init, k_Row_init, grdM_ne, rowM_ne, zup_eq, zup_ne, rr_putfield, lf_Yard_init_29, pI_2_2 (E := E_Yard_init) rfl, f1, r1]
theorem yst4 {K : Dn} : sq (newO 0) (sq (blk E_Yard_init [.dup, .iconst 4]) (sq (calD 2 x_Row_init) (sq (blk E_Yard_init [.putfield 32, .aload_n 0]) K))) ([some (.ref a), none], [.ref a], ((yN3 M a), a + 7)) = K ([some (.ref a), none], [.ref a], (yN4 M a, a + 9)) := by
  have f1 : zup (rowM (yN3 M a) (a + 7) (a + 8) 4) a (cO 2 [.ref (a + 1), .ref (a + 3), .ref (a + 5), .ref (a + 7), .null, .int 0, .int 0, .int 0]) = yN4 M a := rfl
  have r1 : (yN3 M a) a = some (cO 2 [.ref (a + 1), .ref (a + 3), .ref (a + 5), .null, .null, .int 0, .int 0, .int 0]) := zup_eq
  simp (disch := omega) only [upd_nI, nI_add, pk_mul, zn_lt, zn_le, zn_eq, zn_e0, zn_l0, zn_g0, zn_le0, zn_ge0, zn_m1, zn_m1', zn_m1m, zn_sub, zn_addm, zn_div, eo_none, eo_some, mg_nI, mg_eo1, mg_eo2, mg_eo, mg_int, mg_lng, mg_sm, mg_smN, mg_cons, mg_pair, mg_nm, mg_fn, mg_out, mg_res, mg_sM, zb_e0, zb_e0', rr_nil, ite_self, rr_getfield, gfK_at, rr_putfield, pfK_at, rr_ivS, rr_ivV, rr_ivP, ws_nil, ws_int, ws_ref, ws_lng, cK_1, cK_0, iv_0, iv_1, iv_2, iv_3, iv_4, iv_5, iv_6, iv_7, fgK_l, fgK_r, fgK_if, zf_nil, zf_0, zf_1, zf_2, zf_3, zf_4, zf_5, zf_6, zf_7, zf_8, zf_9, zf_10, cat_K, ct_eq, ct_ne, ct_lt, ct_ge, ct_gt, ct_le, ct_eq0, ct_ne0, ct_lt0, ct_ge0, ct_gt0, ct_le0, ct_nulr, ct_nul, cno_K, nK_d, can_K, aK_d, cor_K, oK_d, cd_t, cd_f, nK_if, aK_if, oK_if, cfo_K, ite_K, iK_d, iK_if, sq_K, sK_nm, sK_x, sK_if, blk_K, bK_s, rti_K, riK_s, rtz_K, rzK_b, rzK_b', rzK_s, rtv_K, rvK_s, rta_K, raK_s, raK_n, rtl_K, rlK_s, rtd_K, rdK_s, brk_K, cnt_K, zr_fn, zr_if, swi_K, swK_s, swg_nil, swg_cons, stp_K, tK_d, tK_if, vK_nm, vK_bk, vK_ct, vK_fn, vK_if, wK_nm, Classical.not_not, Decidable.not_not, not_true, not_false_iff, if_true, if_false, Nat.zero_le, Nat.reduceLeDiff, Nat.reduceLT, Nat.zero_lt_one, Nat.one_ne_zero, Nat.reduceEqDiff, not_false_eq_true, eq_self, reduceCtorEq, Option.getD_some, Option.getD_none, Nat.reduceAdd, Nat.not_le, Nat.not_lt, Int32.not_le, Int32.not_lt, true_and, and_true, false_and, and_false, true_or, or_true, false_or, or_false, newO_s, rr_dupr, rr_bipush30, rr_bipush6, rr_bipush8, rr_bipush14, rr_iconst5, rr_iconst4, rr_iconst0, rr_aload0, rr_istore1 lb_Yard_init, Nat.add_assoc, clS_2, clS_3, caK_0, k_Grid_init, k_Row_init, grdM_ne, rowM_ne, zup_eq, zup_ne, rr_putfield, lf_Yard_init_32, pI_2_3 (E := E_Yard_init) rfl, f1, r1]
theorem yst5 {K : Dn} : sq (newO 0) (sq (blk E_Yard_init [.dup, .bipush 14]) (sq (calD 2 x_Row_init) (sq (blk E_Yard_init [.putfield 35, .iconst 0, .istore_n 1]) K))) ([some (.ref a), none], [.ref a], ((yN4 M a), a + 9)) = K ([some (.ref a), some (.int (nI 0))], [], (yN5 M a, a + 11)) := by
  have f1 : zup (rowM (yN4 M a) (a + 9) (a + 10) 14) a (cO 2 [.ref (a + 1), .ref (a + 3), .ref (a + 5), .ref (a + 7), .ref (a + 9), .int 0, .int 0, .int 0]) = yN5 M a := rfl
  have r1 : (yN4 M a) a = some (cO 2 [.ref (a + 1), .ref (a + 3), .ref (a + 5), .ref (a + 7), .null, .int 0, .int 0, .int 0]) := zup_eq
  simp (disch := omega) only [upd_nI, nI_add, pk_mul, zn_lt, zn_le, zn_eq, zn_e0, zn_l0, zn_g0, zn_le0, zn_ge0, zn_m1, zn_m1', zn_m1m, zn_sub, zn_addm, zn_div, eo_none, eo_some, mg_nI, mg_eo1, mg_eo2, mg_eo, mg_int, mg_lng, mg_sm, mg_smN, mg_cons, mg_pair, mg_nm, mg_fn, mg_out, mg_res, mg_sM, zb_e0, zb_e0', rr_nil, ite_self, rr_getfield, gfK_at, rr_putfield, pfK_at, rr_ivS, rr_ivV, rr_ivP, ws_nil, ws_int, ws_ref, ws_lng, cK_1, cK_0, iv_0, iv_1, iv_2, iv_3, iv_4, iv_5, iv_6, iv_7, fgK_l, fgK_r, fgK_if, zf_nil, zf_0, zf_1, zf_2, zf_3, zf_4, zf_5, zf_6, zf_7, zf_8, zf_9, zf_10, cat_K, ct_eq, ct_ne, ct_lt, ct_ge, ct_gt, ct_le, ct_eq0, ct_ne0, ct_lt0, ct_ge0, ct_gt0, ct_le0, ct_nulr, ct_nul, cno_K, nK_d, can_K, aK_d, cor_K, oK_d, cd_t, cd_f, nK_if, aK_if, oK_if, cfo_K, ite_K, iK_d, iK_if, sq_K, sK_nm, sK_x, sK_if, blk_K, bK_s, rti_K, riK_s, rtz_K, rzK_b, rzK_b', rzK_s, rtv_K, rvK_s, rta_K, raK_s, raK_n, rtl_K, rlK_s, rtd_K, rdK_s, brk_K, cnt_K, zr_fn, zr_if, swi_K, swK_s, swg_nil, swg_cons, stp_K, tK_d, tK_if, vK_nm, vK_bk, vK_ct, vK_fn, vK_if, wK_nm, Classical.not_not, Decidable.not_not, not_true, not_false_iff, if_true, if_false, Nat.zero_le, Nat.reduceLeDiff, Nat.reduceLT, Nat.zero_lt_one, Nat.one_ne_zero, Nat.reduceEqDiff, not_false_eq_true, eq_self, reduceCtorEq, Option.getD_some, Option.getD_none, Nat.reduceAdd, Nat.not_le, Nat.not_lt, Int32.not_le, Int32.not_lt, true_and, and_true, false_and, and_false, true_or, or_true, false_or, or_false, newO_s, rr_dupr, rr_bipush30, rr_bipush6, rr_bipush8, rr_bipush14, rr_iconst5, rr_iconst4, rr_iconst0, rr_aload0, rr_istore1 lb_Yard_init, Nat.add_assoc, clS_2, clS_3, caK_0, k_Grid_init, k_Row_init, grdM_ne, rowM_ne, zup_eq, zup_ne, rr_putfield, lf_Yard_init_35, pI_2_4 (E := E_Yard_init) rfl, f1, r1]
theorem k_Yard_init (h0 : 1 ≤ a) (hM : M 0 = none) : x_Yard_init [.ref a] (zup M a (cO 2 (zdf 2)), a + 1) = some (.inl none, (yM M a t00 co00 od00, a + 11)) := by
  have hy0 : ∀ (t : Nat → Nat) (co od : Nat → Int32), yM M a t co od 0 = none := fun t co od => by rw [yM_ne (by omega)]; exact hM
  have e0 : ∀ K : Dn, sq (blk E_Yard_init [.aload_n 0, .invokespecial 3, .aload_n 0]) K ([some (.ref a), none], [], (zup M a (cO 2 [.null, .null, .null, .null, .null, .int 0, .int 0, .int 0]), a + 1)) = K ([some (.ref a), none], [.ref a], (zup M a (cO 2 [.null, .null, .null, .null, .null, .int 0, .int 0, .int 0]), a + 1)) := fun K => by
    simp (disch := omega) only [upd_nI, nI_add, pk_mul, zn_lt, zn_le, zn_eq, zn_e0, zn_l0, zn_g0, zn_le0, zn_ge0, zn_m1, zn_m1', zn_m1m, zn_sub, zn_addm, zn_div, eo_none, eo_some, mg_nI, mg_eo1, mg_eo2, mg_eo, mg_int, mg_lng, mg_sm, mg_smN, mg_cons, mg_pair, mg_nm, mg_fn, mg_out, mg_res, mg_sM, zb_e0, zb_e0', rr_nil, ite_self, rr_getfield, gfK_at, rr_putfield, pfK_at, rr_ivS, rr_ivV, rr_ivP, ws_nil, ws_int, ws_ref, ws_lng, cK_1, cK_0, iv_0, iv_1, iv_2, iv_3, iv_4, iv_5, iv_6, iv_7, fgK_l, fgK_r, fgK_if, zf_nil, zf_0, zf_1, zf_2, zf_3, zf_4, zf_5, zf_6, zf_7, zf_8, zf_9, zf_10, cat_K, ct_eq, ct_ne, ct_lt, ct_ge, ct_gt, ct_le, ct_eq0, ct_ne0, ct_lt0, ct_ge0, ct_gt0, ct_le0, ct_nulr, ct_nul, cno_K, nK_d, can_K, aK_d, cor_K, oK_d, cd_t, cd_f, nK_if, aK_if, oK_if, cfo_K, ite_K, iK_d, iK_if, sq_K, sK_nm, sK_x, sK_if, blk_K, bK_s, rti_K, riK_s, rtz_K, rzK_b, rzK_b', rzK_s, rtv_K, rvK_s, rta_K, raK_s, raK_n, rtl_K, rlK_s, rtd_K, rdK_s, brk_K, cnt_K, zr_fn, zr_if, swi_K, swK_s, swg_nil, swg_cons, stp_K, tK_d, tK_if, vK_nm, vK_bk, vK_ct, vK_fn, vK_if, wK_nm, Classical.not_not, Decidable.not_not, not_true, not_false_iff, if_true, if_false, Nat.zero_le, Nat.reduceLeDiff, Nat.reduceLT, Nat.zero_lt_one, Nat.one_ne_zero, Nat.reduceEqDiff, not_false_eq_true, eq_self, reduceCtorEq, Option.getD_some, Option.getD_none, Nat.reduceAdd, Nat.not_le, Nat.not_lt, Int32.not_le, Int32.not_lt, true_and, and_true, false_and, and_false, true_or, or_true, false_or, or_false, rr_aload0, lc_Yard_init_3, xObj_s]
  rw [q_Yard_init, zdf_2]
  unfold d_Yard_init
  rw [e0, yst1, yst2, yst3, yst4, yst5, yard_new, sq_K]
  rw [lop_run (fun k => ([some (.ref a), some (.int (nI k))], [], (yM M a (fun _ => 0) (co0 k) od00, a + 11))) (r := nm ([some (.ref a), some (.int (nI 30))], [], (yM M a (fun _ => 0) co00 od00, a + 11))) 30 ?_ ?_ ?_ (zFU_lt (by omega))]
  rotate_left
  · rw [co0_0]
    rfl
  · simp (disch := omega) only [upd_nI, nI_add, pk_mul, zn_lt, zn_le, zn_eq, zn_e0, zn_l0, zn_g0, zn_le0, zn_ge0, zn_m1, zn_m1', zn_m1m, zn_sub, zn_addm, zn_div, eo_none, eo_some, mg_nI, mg_eo1, mg_eo2, mg_eo, mg_int, mg_lng, mg_sm, mg_smN, mg_cons, mg_pair, mg_nm, mg_fn, mg_out, mg_res, mg_sM, zb_e0, zb_e0', rr_nil, ite_self, rr_getfield, gfK_at, rr_putfield, pfK_at, rr_ivS, rr_ivV, rr_ivP, ws_nil, ws_int, ws_ref, ws_lng, cK_1, cK_0, iv_0, iv_1, iv_2, iv_3, iv_4, iv_5, iv_6, iv_7, fgK_l, fgK_r, fgK_if, zf_nil, zf_0, zf_1, zf_2, zf_3, zf_4, zf_5, zf_6, zf_7, zf_8, zf_9, zf_10, cat_K, ct_eq, ct_ne, ct_lt, ct_ge, ct_gt, ct_le, ct_eq0, ct_ne0, ct_lt0, ct_ge0, ct_gt0, ct_le0, ct_nulr, ct_nul, cno_K, nK_d, can_K, aK_d, cor_K, oK_d, cd_t, cd_f, nK_if, aK_if, oK_if, cfo_K, ite_K, iK_d, iK_if, sq_K, sK_nm, sK_x, sK_if, blk_K, bK_s, rti_K, riK_s, rtz_K, rzK_b, rzK_b', rzK_s, rtv_K, rvK_s, rta_K, raK_s, raK_n, rtl_K, rlK_s, rtd_K, rdK_s, brk_K, cnt_K, zr_fn, zr_if, swi_K, swK_s, swg_nil, swg_cons, stp_K, tK_d, tK_if, vK_nm, vK_bk, vK_ct, vK_fn, vK_if, wK_nm, Classical.not_not, Decidable.not_not, not_true, not_false_iff, if_true, if_false, Nat.zero_le, Nat.reduceLeDiff, Nat.reduceLT, Nat.zero_lt_one, Nat.one_ne_zero, Nat.reduceEqDiff, not_false_eq_true, eq_self, reduceCtorEq, Option.getD_some, Option.getD_none, Nat.reduceAdd, Nat.not_le, Nat.not_lt, Int32.not_le, Int32.not_lt, true_and, and_true, false_and, and_false, true_or, or_true, false_or, or_false, d_Yard_init, lc_Yard_init_3, lc_Yard_init_38, lc_Yard_init_46, lf_Yard_init_14, lf_Yard_init_25, lf_Yard_init_29, lf_Yard_init_32, lf_Yard_init_35, ls_Yard_init_42, lt_Yard_init, li_Yard_init, rr_aload0, rr_bipush14, rr_bipush30, rr_bipush6, rr_bipush8, rr_dup, rr_dupr, rr_ialoadS, rr_iconstm, rr_iconst0, rr_iconst4, rr_iconst5, rr_iinc1 lb_Yard_init, rr_iload1, rr_istore1 lb_Yard_init, lt_T, lt_F, le_T, le_F, eq_T, eq_F, ne_eq, co00]
  · intro k hk
    simp (disch := omega) only [upd_nI, nI_add, pk_mul, zn_lt, zn_le, zn_eq, zn_e0, zn_l0, zn_g0, zn_le0, zn_ge0, zn_m1, zn_m1', zn_m1m, zn_sub, zn_addm, zn_div, eo_none, eo_some, mg_nI, mg_eo1, mg_eo2, mg_eo, mg_int, mg_lng, mg_sm, mg_smN, mg_cons, mg_pair, mg_nm, mg_fn, mg_out, mg_res, mg_sM, zb_e0, zb_e0', rr_nil, ite_self, rr_getfield, gfK_at, rr_putfield, pfK_at, rr_ivS, rr_ivV, rr_ivP, ws_nil, ws_int, ws_ref, ws_lng, cK_1, cK_0, iv_0, iv_1, iv_2, iv_3, iv_4, iv_5, iv_6, iv_7, fgK_l, fgK_r, fgK_if, zf_nil, zf_0, zf_1, zf_2, zf_3, zf_4, zf_5, zf_6, zf_7, zf_8, zf_9, zf_10, cat_K, ct_eq, ct_ne, ct_lt, ct_ge, ct_gt, ct_le, ct_eq0, ct_ne0, ct_lt0, ct_ge0, ct_gt0, ct_le0, ct_nulr, ct_nul, cno_K, nK_d, can_K, aK_d, cor_K, oK_d, cd_t, cd_f, nK_if, aK_if, oK_if, cfo_K, ite_K, iK_d, iK_if, sq_K, sK_nm, sK_x, sK_if, blk_K, bK_s, rti_K, riK_s, rtz_K, rzK_b, rzK_b', rzK_s, rtv_K, rvK_s, rta_K, raK_s, raK_n, rtl_K, rlK_s, rtd_K, rdK_s, brk_K, cnt_K, zr_fn, zr_if, swi_K, swK_s, swg_nil, swg_cons, stp_K, tK_d, tK_if, vK_nm, vK_bk, vK_ct, vK_fn, vK_if, wK_nm, Classical.not_not, Decidable.not_not, not_true, not_false_iff, if_true, if_false, Nat.zero_le, Nat.reduceLeDiff, Nat.reduceLT, Nat.zero_lt_one, Nat.one_ne_zero, Nat.reduceEqDiff, not_false_eq_true, eq_self, reduceCtorEq, Option.getD_some, Option.getD_none, Nat.reduceAdd, Nat.not_le, Nat.not_lt, Int32.not_le, Int32.not_lt, true_and, and_true, false_and, and_false, true_or, or_true, false_or, or_false, d_Yard_init, lc_Yard_init_3, lc_Yard_init_38, lc_Yard_init_46, lf_Yard_init_14, lf_Yard_init_25, lf_Yard_init_29, lf_Yard_init_32, lf_Yard_init_35, ls_Yard_init_42, lt_Yard_init, li_Yard_init, rr_aload0, rr_bipush14, rr_bipush30, rr_bipush6, rr_bipush8, rr_dup, rr_dupr, rr_ialoadS, rr_iconstm, rr_iconst0, rr_iconst4, rr_iconst5, rr_iinc1 lb_Yard_init, rr_iload1, rr_istore1 lb_Yard_init, lt_T, lt_F, le_T, le_F, eq_T, eq_F, ne_eq, yM_a, yM_1, yM_2, yM_3, yM_4, yM_5, yM_6, yM_7, yM_8, yM_9, yM_10, gY_0, gY_1, gY_2, gY_3, gY_4, gY_5, gY_6, gY_7, pY_5, pY_6, pY_7, y_cget, y_cgetm, y_cput, y_crow, y_oget, y_ogetm, y_oput, y_orow, y_hget, y_hgetm, y_hadd, y_hdec, y_sget, y_sput, y_tget, y_tadd, xAbs_n, xMin_n, xMax_n, rr_getfield, co0_s hk]
  simp (disch := omega) only [upd_nI, nI_add, pk_mul, zn_lt, zn_le, zn_eq, zn_e0, zn_l0, zn_g0, zn_le0, zn_ge0, zn_m1, zn_m1', zn_m1m, zn_sub, zn_addm, zn_div, eo_none, eo_some, mg_nI, mg_eo1, mg_eo2, mg_eo, mg_int, mg_lng, mg_sm, mg_smN, mg_cons, mg_pair, mg_nm, mg_fn, mg_out, mg_res, mg_sM, zb_e0, zb_e0', rr_nil, ite_self, rr_getfield, gfK_at, rr_putfield, pfK_at, rr_ivS, rr_ivV, rr_ivP, ws_nil, ws_int, ws_ref, ws_lng, cK_1, cK_0, iv_0, iv_1, iv_2, iv_3, iv_4, iv_5, iv_6, iv_7, fgK_l, fgK_r, fgK_if, zf_nil, zf_0, zf_1, zf_2, zf_3, zf_4, zf_5, zf_6, zf_7, zf_8, zf_9, zf_10, cat_K, ct_eq, ct_ne, ct_lt, ct_ge, ct_gt, ct_le, ct_eq0, ct_ne0, ct_lt0, ct_ge0, ct_gt0, ct_le0, ct_nulr, ct_nul, cno_K, nK_d, can_K, aK_d, cor_K, oK_d, cd_t, cd_f, nK_if, aK_if, oK_if, cfo_K, ite_K, iK_d, iK_if, sq_K, sK_nm, sK_x, sK_if, blk_K, bK_s, rti_K, riK_s, rtz_K, rzK_b, rzK_b', rzK_s, rtv_K, rvK_s, rta_K, raK_s, raK_n, rtl_K, rlK_s, rtd_K, rdK_s, brk_K, cnt_K, zr_fn, zr_if, swi_K, swK_s, swg_nil, swg_cons, stp_K, tK_d, tK_if, vK_nm, vK_bk, vK_ct, vK_fn, vK_if, wK_nm, Classical.not_not, Decidable.not_not, not_true, not_false_iff, if_true, if_false, Nat.zero_le, Nat.reduceLeDiff, Nat.reduceLT, Nat.zero_lt_one, Nat.one_ne_zero, Nat.reduceEqDiff, not_false_eq_true, eq_self, reduceCtorEq, Option.getD_some, Option.getD_none, Nat.reduceAdd, Nat.not_le, Nat.not_lt, Int32.not_le, Int32.not_lt, true_and, and_true, false_and, and_false, true_or, or_true, false_or, or_false, d_Yard_init, lc_Yard_init_3, lc_Yard_init_38, lc_Yard_init_46, lf_Yard_init_14, lf_Yard_init_25, lf_Yard_init_29, lf_Yard_init_32, lf_Yard_init_35, ls_Yard_init_42, lt_Yard_init, li_Yard_init, rr_aload0, rr_bipush14, rr_bipush30, rr_bipush6, rr_bipush8, rr_dup, rr_dupr, rr_ialoadS, rr_iconstm, rr_iconst0, rr_iconst4, rr_iconst5, rr_iinc1 lb_Yard_init, rr_iload1, rr_istore1 lb_Yard_init, lt_T, lt_F, le_T, le_F, eq_T, eq_F, ne_eq]
  rw [lop_run (fun k => ([some (.ref a), some (.int (nI k))], [], (yM M a (ts0 k) co00 od00, a + 11))) (r := nm ([some (.ref a), some (.int (nI 4))], [], (yM M a t00 co00 od00, a + 11))) 4 ?_ ?_ ?_ (zFU_lt (by omega))]
  rotate_left
  · rw [ts0_0]
  · have e : yM M a (ts0 4) co00 od00 = yM M a t00 co00 od00 := yM_congr (fun k hk => ts0_4)
    rw [e]
    simp (disch := omega) only [upd_nI, nI_add, pk_mul, zn_lt, zn_le, zn_eq, zn_e0, zn_l0, zn_g0, zn_le0, zn_ge0, zn_m1, zn_m1', zn_m1m, zn_sub, zn_addm, zn_div, eo_none, eo_some, mg_nI, mg_eo1, mg_eo2, mg_eo, mg_int, mg_lng, mg_sm, mg_smN, mg_cons, mg_pair, mg_nm, mg_fn, mg_out, mg_res, mg_sM, zb_e0, zb_e0', rr_nil, ite_self, rr_getfield, gfK_at, rr_putfield, pfK_at, rr_ivS, rr_ivV, rr_ivP, ws_nil, ws_int, ws_ref, ws_lng, cK_1, cK_0, iv_0, iv_1, iv_2, iv_3, iv_4, iv_5, iv_6, iv_7, fgK_l, fgK_r, fgK_if, zf_nil, zf_0, zf_1, zf_2, zf_3, zf_4, zf_5, zf_6, zf_7, zf_8, zf_9, zf_10, cat_K, ct_eq, ct_ne, ct_lt, ct_ge, ct_gt, ct_le, ct_eq0, ct_ne0, ct_lt0, ct_ge0, ct_gt0, ct_le0, ct_nulr, ct_nul, cno_K, nK_d, can_K, aK_d, cor_K, oK_d, cd_t, cd_f, nK_if, aK_if, oK_if, cfo_K, ite_K, iK_d, iK_if, sq_K, sK_nm, sK_x, sK_if, blk_K, bK_s, rti_K, riK_s, rtz_K, rzK_b, rzK_b', rzK_s, rtv_K, rvK_s, rta_K, raK_s, raK_n, rtl_K, rlK_s, rtd_K, rdK_s, brk_K, cnt_K, zr_fn, zr_if, swi_K, swK_s, swg_nil, swg_cons, stp_K, tK_d, tK_if, vK_nm, vK_bk, vK_ct, vK_fn, vK_if, wK_nm, Classical.not_not, Decidable.not_not, not_true, not_false_iff, if_true, if_false, Nat.zero_le, Nat.reduceLeDiff, Nat.reduceLT, Nat.zero_lt_one, Nat.one_ne_zero, Nat.reduceEqDiff, not_false_eq_true, eq_self, reduceCtorEq, Option.getD_some, Option.getD_none, Nat.reduceAdd, Nat.not_le, Nat.not_lt, Int32.not_le, Int32.not_lt, true_and, and_true, false_and, and_false, true_or, or_true, false_or, or_false, d_Yard_init, lc_Yard_init_3, lc_Yard_init_38, lc_Yard_init_46, lf_Yard_init_14, lf_Yard_init_25, lf_Yard_init_29, lf_Yard_init_32, lf_Yard_init_35, ls_Yard_init_42, lt_Yard_init, li_Yard_init, rr_aload0, rr_bipush14, rr_bipush30, rr_bipush6, rr_bipush8, rr_dup, rr_dupr, rr_ialoadS, rr_iconstm, rr_iconst0, rr_iconst4, rr_iconst5, rr_iinc1 lb_Yard_init, rr_iload1, rr_istore1 lb_Yard_init, lt_T, lt_F, le_T, le_F, eq_T, eq_F, ne_eq, rr_getstatic ls_Yard_init_42, rr_alenF (hy0 _ _ _) lt_Yard_init]
  · intro k hk
    simp (disch := omega) only [upd_nI, nI_add, pk_mul, zn_lt, zn_le, zn_eq, zn_e0, zn_l0, zn_g0, zn_le0, zn_ge0, zn_m1, zn_m1', zn_m1m, zn_sub, zn_addm, zn_div, eo_none, eo_some, mg_nI, mg_eo1, mg_eo2, mg_eo, mg_int, mg_lng, mg_sm, mg_smN, mg_cons, mg_pair, mg_nm, mg_fn, mg_out, mg_res, mg_sM, zb_e0, zb_e0', rr_nil, ite_self, rr_getfield, gfK_at, rr_putfield, pfK_at, rr_ivS, rr_ivV, rr_ivP, ws_nil, ws_int, ws_ref, ws_lng, cK_1, cK_0, iv_0, iv_1, iv_2, iv_3, iv_4, iv_5, iv_6, iv_7, fgK_l, fgK_r, fgK_if, zf_nil, zf_0, zf_1, zf_2, zf_3, zf_4, zf_5, zf_6, zf_7, zf_8, zf_9, zf_10, cat_K, ct_eq, ct_ne, ct_lt, ct_ge, ct_gt, ct_le, ct_eq0, ct_ne0, ct_lt0, ct_ge0, ct_gt0, ct_le0, ct_nulr, ct_nul, cno_K, nK_d, can_K, aK_d, cor_K, oK_d, cd_t, cd_f, nK_if, aK_if, oK_if, cfo_K, ite_K, iK_d, iK_if, sq_K, sK_nm, sK_x, sK_if, blk_K, bK_s, rti_K, riK_s, rtz_K, rzK_b, rzK_b', rzK_s, rtv_K, rvK_s, rta_K, raK_s, raK_n, rtl_K, rlK_s, rtd_K, rdK_s, brk_K, cnt_K, zr_fn, zr_if, swi_K, swK_s, swg_nil, swg_cons, stp_K, tK_d, tK_if, vK_nm, vK_bk, vK_ct, vK_fn, vK_if, wK_nm, Classical.not_not, Decidable.not_not, not_true, not_false_iff, if_true, if_false, Nat.zero_le, Nat.reduceLeDiff, Nat.reduceLT, Nat.zero_lt_one, Nat.one_ne_zero, Nat.reduceEqDiff, not_false_eq_true, eq_self, reduceCtorEq, Option.getD_some, Option.getD_none, Nat.reduceAdd, Nat.not_le, Nat.not_lt, Int32.not_le, Int32.not_lt, true_and, and_true, false_and, and_false, true_or, or_true, false_or, or_false, d_Yard_init, lc_Yard_init_3, lc_Yard_init_38, lc_Yard_init_46, lf_Yard_init_14, lf_Yard_init_25, lf_Yard_init_29, lf_Yard_init_32, lf_Yard_init_35, ls_Yard_init_42, lt_Yard_init, li_Yard_init, rr_aload0, rr_bipush14, rr_bipush30, rr_bipush6, rr_bipush8, rr_dup, rr_dupr, rr_ialoadS, rr_iconstm, rr_iconst0, rr_iconst4, rr_iconst5, rr_iinc1 lb_Yard_init, rr_iload1, rr_istore1 lb_Yard_init, lt_T, lt_F, le_T, le_F, eq_T, eq_F, ne_eq, yM_a, yM_1, yM_2, yM_3, yM_4, yM_5, yM_6, yM_7, yM_8, yM_9, yM_10, gY_0, gY_1, gY_2, gY_3, gY_4, gY_5, gY_6, gY_7, pY_5, pY_6, pY_7, y_cget, y_cgetm, y_cput, y_crow, y_oget, y_ogetm, y_oput, y_orow, y_hget, y_hgetm, y_hadd, y_hdec, y_sget, y_sput, y_tget, y_tadd, xAbs_n, xMin_n, xMax_n, rr_getfield, rr_getstatic ls_Yard_init_42, rr_alenF (hy0 _ _ _) lt_Yard_init, rr_ialoadF (hy0 _ _ _) lt_Yard_init hk, ts0_s hk]
  simp (disch := omega) only [upd_nI, nI_add, pk_mul, zn_lt, zn_le, zn_eq, zn_e0, zn_l0, zn_g0, zn_le0, zn_ge0, zn_m1, zn_m1', zn_m1m, zn_sub, zn_addm, zn_div, eo_none, eo_some, mg_nI, mg_eo1, mg_eo2, mg_eo, mg_int, mg_lng, mg_sm, mg_smN, mg_cons, mg_pair, mg_nm, mg_fn, mg_out, mg_res, mg_sM, zb_e0, zb_e0', rr_nil, ite_self, rr_getfield, gfK_at, rr_putfield, pfK_at, rr_ivS, rr_ivV, rr_ivP, ws_nil, ws_int, ws_ref, ws_lng, cK_1, cK_0, iv_0, iv_1, iv_2, iv_3, iv_4, iv_5, iv_6, iv_7, fgK_l, fgK_r, fgK_if, zf_nil, zf_0, zf_1, zf_2, zf_3, zf_4, zf_5, zf_6, zf_7, zf_8, zf_9, zf_10, cat_K, ct_eq, ct_ne, ct_lt, ct_ge, ct_gt, ct_le, ct_eq0, ct_ne0, ct_lt0, ct_ge0, ct_gt0, ct_le0, ct_nulr, ct_nul, cno_K, nK_d, can_K, aK_d, cor_K, oK_d, cd_t, cd_f, nK_if, aK_if, oK_if, cfo_K, ite_K, iK_d, iK_if, sq_K, sK_nm, sK_x, sK_if, blk_K, bK_s, rti_K, riK_s, rtz_K, rzK_b, rzK_b', rzK_s, rtv_K, rvK_s, rta_K, raK_s, raK_n, rtl_K, rlK_s, rtd_K, rdK_s, brk_K, cnt_K, zr_fn, zr_if, swi_K, swK_s, swg_nil, swg_cons, stp_K, tK_d, tK_if, vK_nm, vK_bk, vK_ct, vK_fn, vK_if, wK_nm, Classical.not_not, Decidable.not_not, not_true, not_false_iff, if_true, if_false, Nat.zero_le, Nat.reduceLeDiff, Nat.reduceLT, Nat.zero_lt_one, Nat.one_ne_zero, Nat.reduceEqDiff, not_false_eq_true, eq_self, reduceCtorEq, Option.getD_some, Option.getD_none, Nat.reduceAdd, Nat.not_le, Nat.not_lt, Int32.not_le, Int32.not_lt, true_and, and_true, false_and, and_false, true_or, or_true, false_or, or_false, d_Yard_init, lc_Yard_init_3, lc_Yard_init_38, lc_Yard_init_46, lf_Yard_init_14, lf_Yard_init_25, lf_Yard_init_29, lf_Yard_init_32, lf_Yard_init_35, ls_Yard_init_42, lt_Yard_init, li_Yard_init, rr_aload0, rr_bipush14, rr_bipush30, rr_bipush6, rr_bipush8, rr_dup, rr_dupr, rr_ialoadS, rr_iconstm, rr_iconst0, rr_iconst4, rr_iconst5, rr_iinc1 lb_Yard_init, rr_iload1, rr_istore1 lb_Yard_init, lt_T, lt_F, le_T, le_F, eq_T, eq_F, ne_eq]
end
