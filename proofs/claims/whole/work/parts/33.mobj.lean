/-! ===== the reference's object ===== -/
section
variable {M : Hp} {nx : Nat} {t u ps tx : Nat → Nat} {td : Nat → Int32} {kp ty th at' tl : Nat} {ft : Int32} {E : Env} {r : List Instr} {L : List (Option Value)} {S : List Value}
abbrev fM (kp ty th at' : Nat) (ft : Int32) (tl : Nat) : List Value := [.ref 99, .ref 100, .ref 101, .int (nI kp), .ref 102, .int (nI ty), .int (nI th), .int (nI at'), .int ft, .ref 103, .int (nI tl)]
/-- the object: its arrays, and its own fields -/
def mB (M : Hp) (F : List Value) (u ps tx : Nat → Nat) (td : Nat → Int32) : Hp := fun i => if i = 98 then some (cO 6 F) else if i = 100 then some (cI 220 (fun k => nI (u k))) else if i = 101 then some (cI 1320 (fun k => nI (ps k))) else if i = 102 then some (cI 60 (fun k => nI (tx k))) else if i = 103 then some (cI 68 td) else M i
abbrev mM (M : Hp) (F : List Value) (t u ps tx : Nat → Nat) (td : Nat → Int32) : Hp := sM (mB M F u ps tx td) 99 t
variable {F : List Value}
theorem mM_98 : mM M F t u ps tx td 98 = some (cO 6 F) := rfl
theorem mM_99 : mM M F t u ps tx td 99 = some (cI 220 (fun k => nI (t k))) := rfl
theorem mM_100 : mM M F t u ps tx td 100 = some (cI 220 (fun k => nI (u k))) := rfl
theorem mM_101 : mM M F t u ps tx td 101 = some (cI 1320 (fun k => nI (ps k))) := rfl
theorem mM_102 : mM M F t u ps tx td 102 = some (cI 60 (fun k => nI (tx k))) := rfl
theorem mM_103 : mM M F t u ps tx td 103 = some (cI 68 td) := rfl
theorem mM_ne {i : Nat} (h : i < 98 ∨ 103 < i) : mM M F t u ps tx td i = M i := by
  unfold mM sM zup mB
  rw [if_neg (by omega), if_neg (by omega), if_neg (by omega), if_neg (by omega), if_neg (by omega), if_neg (by omega)]
theorem mM_s98 {F' : List Value} : zup (mM M F t u ps tx td) 98 (cO 6 F') = mM M F' t u ps tx td := by
  funext i; unfold mM sM zup mB
  by_cases h : i = 98
  · subst h; rfl
  · rw [if_neg h, if_neg h, if_neg h]
theorem mM_s100 {t' : Nat → Nat} : zup (mM M F t u ps tx td) 100 (cI 220 (fun k => nI (t' k))) = mM M F t t' ps tx td := by
  funext i; unfold mM sM zup mB
  by_cases h : i = 100
  · subst h; rfl
  · rw [if_neg h, if_neg h, if_neg h]
theorem mM_s101 {t' : Nat → Nat} : zup (mM M F t u ps tx td) 101 (cI 1320 (fun k => nI (t' k))) = mM M F t u t' tx td := by
  funext i; unfold mM sM zup mB
  by_cases h : i = 101
  · subst h; rfl
  · rw [if_neg h, if_neg h, if_neg h]
theorem mM_s102 {t' : Nat → Nat} : zup (mM M F t u ps tx td) 102 (cI 60 (fun k => nI (t' k))) = mM M F t u ps t' td := by
  funext i; unfold mM sM zup mB
  by_cases h : i = 102
  · subst h; rfl
  · rw [if_neg h, if_neg h, if_neg h]
theorem mM_s103 {t' : Nat → Int32} : zup (mM M F t u ps tx td) 103 (cI 68 t') = mM M F t u ps tx t' := by
  funext i; unfold mM sM zup mB
  by_cases h : i = 103
  · subst h; rfl
  · rw [if_neg h, if_neg h, if_neg h]
theorem mM_t : mM M F t u ps tx td = sM (mM M F t u ps tx td) 100 u := (zup_same rfl).symm
/-- a method that works on now, or on then -/
theorem n_t {o : Out} {t' : Nat → Nat} {f : G → Option (Out × G)} (h : ∀ M, f (sM M 100 u, nx) = some (o, (sM M 100 t', nx))) : f (mM M F t u ps tx td, nx) = some (o, (mM M F t t' ps tx td, nx)) := by
  rw [mM_t (u := u), h]
  show some (o, (zup _ 100 _, nx)) = _
  rw [mM_s100]
theorem mr_t {i : Nat} (h : i < 220) : runI E (.iaload :: r) (L, .int (nI i) :: .ref 100 :: S, (mM M F t u ps tx td, nx)) = runI E r (L, .int (nI (u i)) :: S, (mM M F t u ps tx td, nx)) := rr_iaload mM_100 h (by omega)
theorem mr_p {i : Nat} (h : i < 1320) : runI E (.iaload :: r) (L, .int (nI i) :: .ref 101 :: S, (mM M F t u ps tx td, nx)) = runI E r (L, .int (nI (ps i)) :: S, (mM M F t u ps tx td, nx)) := rr_iaload mM_101 h (by omega)
theorem mr_x {i : Nat} (h : i < 60) : runI E (.iaload :: r) (L, .int (nI i) :: .ref 102 :: S, (mM M F t u ps tx td, nx)) = runI E r (L, .int (nI (tx i)) :: S, (mM M F t u ps tx td, nx)) := rr_iaload mM_102 h (by omega)
theorem mr_d {i : Nat} (h : i < 68) : runI E (.iaload :: r) (L, .int (nI i) :: .ref 103 :: S, (mM M F t u ps tx td, nx)) = runI E r (L, .int (td i) :: S, (mM M F t u ps tx td, nx)) := rr_iaload mM_103 h (by omega)
theorem mw_t {i n : Nat} (h : i < 220) : runI E (.iastore :: r) (L, .int (nI n) :: .int (nI i) :: .ref 100 :: S, (mM M F t u ps tx td, nx)) = runI E r (L, S, (mM M F t (updN u i n) ps tx td, nx)) := by
  rw [rr_iastore mM_100 h (by omega), upd_nI, mM_s100]
theorem mw_p {i n : Nat} (h : i < 1320) : runI E (.iastore :: r) (L, .int (nI n) :: .int (nI i) :: .ref 101 :: S, (mM M F t u ps tx td, nx)) = runI E r (L, S, (mM M F t u (updN ps i n) tx td, nx)) := by
  rw [rr_iastore mM_101 h (by omega), upd_nI, mM_s101]
theorem mw_x {i n : Nat} (h : i < 60) : runI E (.iastore :: r) (L, .int (nI n) :: .int (nI i) :: .ref 102 :: S, (mM M F t u ps tx td, nx)) = runI E r (L, S, (mM M F t u ps (updN tx i n) td, nx)) := by
  rw [rr_iastore mM_102 h (by omega), upd_nI, mM_s102]
theorem mw_d {i : Nat} {x : Int32} (h : i < 68) : runI E (.iastore :: r) (L, .int x :: .int (nI i) :: .ref 103 :: S, (mM M F t u ps tx td, nx)) = runI E r (L, S, (mM M F t u ps tx (upd td i x), nx)) := by
  rw [rr_iastore mM_103 h (by omega), mM_s103]
theorem g_now {g : G} : gfK (some (6, 0)) (some (cO 6 (fM kp ty th at' ft tl))) E r L S g = runI E r (L, .ref 99 :: S, g) := rfl
theorem g_then {g : G} : gfK (some (6, 1)) (some (cO 6 (fM kp ty th at' ft tl))) E r L S g = runI E r (L, .ref 100 :: S, g) := rfl
theorem g_past {g : G} : gfK (some (6, 2)) (some (cO 6 (fM kp ty th at' ft tl))) E r L S g = runI E r (L, .ref 101 :: S, g) := rfl
theorem g_kept {g : G} : gfK (some (6, 3)) (some (cO 6 (fM kp ty th at' ft tl))) E r L S g = runI E r (L, .int (nI kp) :: S, g) := rfl
theorem g_text {g : G} : gfK (some (6, 4)) (some (cO 6 (fM kp ty th at' ft tl))) E r L S g = runI E r (L, .ref 102 :: S, g) := rfl
theorem g_typed {g : G} : gfK (some (6, 5)) (some (cO 6 (fM kp ty th at' ft tl))) E r L S g = runI E r (L, .int (nI ty) :: S, g) := rfl
theorem g_thrown {g : G} : gfK (some (6, 6)) (some (cO 6 (fM kp ty th at' ft tl))) E r L S g = runI E r (L, .int (nI th) :: S, g) := rfl
theorem g_at {g : G} : gfK (some (6, 7)) (some (cO 6 (fM kp ty th at' ft tl))) E r L S g = runI E r (L, .int (nI at') :: S, g) := rfl
theorem g_fault {g : G} : gfK (some (6, 8)) (some (cO 6 (fM kp ty th at' ft tl))) E r L S g = runI E r (L, .int ft :: S, g) := rfl
theorem g_told {g : G} : gfK (some (6, 9)) (some (cO 6 (fM kp ty th at' ft tl))) E r L S g = runI E r (L, .ref 103 :: S, g) := rfl
theorem g_tolds {g : G} : gfK (some (6, 10)) (some (cO 6 (fM kp ty th at' ft tl))) E r L S g = runI E r (L, .int (nI tl) :: S, g) := rfl
theorem p_kept {n : Nat} : pfK (some (6, 3)) (some (cO 6 (fM kp ty th at' ft tl))) E r L S (mM M F t u ps tx td, nx) 98 (.int (nI n)) = runI E r (L, S, (mM M (fM n ty th at' ft tl) t u ps tx td, nx)) := by
  have h : pfK (some (6, 3)) (some (cO 6 (fM kp ty th at' ft tl))) E r L S (mM M F t u ps tx td, nx) 98 (.int (nI n)) = runI E r (L, S, (zup (mM M F t u ps tx td) 98 (cO 6 ((fM kp ty th at' ft tl).set 3 (.int (nI n)))), nx)) := pfK_at ⟨rfl, by show 3 < 11; omega, .inl rfl⟩
  rw [h, mM_s98]
  rfl
theorem p_typed {n : Nat} : pfK (some (6, 5)) (some (cO 6 (fM kp ty th at' ft tl))) E r L S (mM M F t u ps tx td, nx) 98 (.int (nI n)) = runI E r (L, S, (mM M (fM kp n th at' ft tl) t u ps tx td, nx)) := by
  have h : pfK (some (6, 5)) (some (cO 6 (fM kp ty th at' ft tl))) E r L S (mM M F t u ps tx td, nx) 98 (.int (nI n)) = runI E r (L, S, (zup (mM M F t u ps tx td) 98 (cO 6 ((fM kp ty th at' ft tl).set 5 (.int (nI n)))), nx)) := pfK_at ⟨rfl, by show 5 < 11; omega, .inl rfl⟩
  rw [h, mM_s98]
  rfl
theorem p_thrown {n : Nat} : pfK (some (6, 6)) (some (cO 6 (fM kp ty th at' ft tl))) E r L S (mM M F t u ps tx td, nx) 98 (.int (nI n)) = runI E r (L, S, (mM M (fM kp ty n at' ft tl) t u ps tx td, nx)) := by
  have h : pfK (some (6, 6)) (some (cO 6 (fM kp ty th at' ft tl))) E r L S (mM M F t u ps tx td, nx) 98 (.int (nI n)) = runI E r (L, S, (zup (mM M F t u ps tx td) 98 (cO 6 ((fM kp ty th at' ft tl).set 6 (.int (nI n)))), nx)) := pfK_at ⟨rfl, by show 6 < 11; omega, .inl rfl⟩
  rw [h, mM_s98]
  rfl
theorem p_at {n : Nat} : pfK (some (6, 7)) (some (cO 6 (fM kp ty th at' ft tl))) E r L S (mM M F t u ps tx td, nx) 98 (.int (nI n)) = runI E r (L, S, (mM M (fM kp ty th n ft tl) t u ps tx td, nx)) := by
  have h : pfK (some (6, 7)) (some (cO 6 (fM kp ty th at' ft tl))) E r L S (mM M F t u ps tx td, nx) 98 (.int (nI n)) = runI E r (L, S, (zup (mM M F t u ps tx td) 98 (cO 6 ((fM kp ty th at' ft tl).set 7 (.int (nI n)))), nx)) := pfK_at ⟨rfl, by show 7 < 11; omega, .inl rfl⟩
  rw [h, mM_s98]
  rfl
theorem p_fault {P : Prop} [Decidable P] : pfK (some (6, 8)) (some (cO 6 (fM kp ty th at' ft tl))) E r L S (mM M F t u ps tx td, nx) 98 (.int (nI (if P then 1 else 0))) = runI E r (L, S, (mM M (fM kp ty th at' (nI (if P then 1 else 0)) tl) t u ps tx td, nx)) := by
  have h : pfK (some (6, 8)) (some (cO 6 (fM kp ty th at' ft tl))) E r L S (mM M F t u ps tx td, nx) 98 (.int (nI (if P then 1 else 0))) = runI E r (L, S, (zup (mM M F t u ps tx td) 98 (cO 6 ((fM kp ty th at' ft tl).set 8 (.int (nI (if P then 1 else 0))))), nx)) := pfK_at ⟨by split <;> rfl, by show 8 < 11; omega, .inl rfl⟩
  rw [h, mM_s98]
  rfl
theorem p_fault0 : pfK (some (6, 8)) (some (cO 6 (fM kp ty th at' ft tl))) E r L S (mM M F t u ps tx td, nx) 98 (.int (nI 0)) = runI E r (L, S, (mM M (fM kp ty th at' (nI 0) tl) t u ps tx td, nx)) := by
  have h : pfK (some (6, 8)) (some (cO 6 (fM kp ty th at' ft tl))) E r L S (mM M F t u ps tx td, nx) 98 (.int (nI 0)) = runI E r (L, S, (zup (mM M F t u ps tx td) 98 (cO 6 ((fM kp ty th at' ft tl).set 8 (.int (nI 0)))), nx)) := pfK_at ⟨rfl, by show 8 < 11; omega, .inl rfl⟩
  rw [h, mM_s98]
  rfl
theorem p_tolds {n : Nat} : pfK (some (6, 10)) (some (cO 6 (fM kp ty th at' ft tl))) E r L S (mM M F t u ps tx td, nx) 98 (.int (nI n)) = runI E r (L, S, (mM M (fM kp ty th at' ft n) t u ps tx td, nx)) := by
  have h : pfK (some (6, 10)) (some (cO 6 (fM kp ty th at' ft tl))) E r L S (mM M F t u ps tx td, nx) 98 (.int (nI n)) = runI E r (L, S, (zup (mM M F t u ps tx td) 98 (cO 6 ((fM kp ty th at' ft tl).set 10 (.int (nI n)))), nx)) := pfK_at ⟨rfl, by show 10 < 11; omega, .inl rfl⟩
  rw [h, mM_s98]
  rfl
end
