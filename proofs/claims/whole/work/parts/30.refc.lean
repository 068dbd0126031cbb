/-! ===== the reference: slits, serving ===== -/
section
variable {M : Hp} {A nx : Nat} {t : Nat → Nat} {m : Nat}
/-- the topmost coil, at p, is cut for an order -/
def cutA (s : Nat → Nat) (o p : Nat) : Nat → Nat := updN (updN (updN (updN (updN s (16 + p / 5) (s (16 + p / 5) - 1)) 8 (s 8 + cuts s o p)) 9 (s 9 + cuts s o p * oo s o 3)) 10 (s 10 + cuts s o p * s 1)) 12 (s 12 + cuts s o p * oo s o 5)
def cutB (s : Nat → Nat) (o p : Nat) : Nat → Nat := if restOf s o p < s 0 then updN (cutA s o p) 11 (s 11 + restOf s o p) else updN (lays (cutA s o p) (p / 5) (s 4) (restOf s o p) (cc s p 2) (cc s p 3 - s 2) 1) 4 (s 4 + 1)
def cut (s : Nat → Nat) (o p : Nat) : Nat → Nat := updN (cutB s o p) (172 + 6 * o + 4) (oo s o 4 - cuts s o p)
def slits (t : Nat → Nat) (o p : Nat) : Nat → Nat := if oo t o 4 - cuts t o p = 0 then orderGoes (cut (digs t p (t (16 + p / 5) - 1 - p % 5)) o p) o else cut (digs t p (t (16 + p / 5) - 1 - p % 5)) o p
theorem oo_eq {s : Nat → Nat} {o c : Nat} (h : ∀ x, x < 16 ∨ 172 ≤ x → x ≠ 6 → x ≠ 7 → s x = t x) : oo s o c = oo t o c := h _ (by omega) (by omega) (by omega)
theorem DK.cuts {s : Nat → Nat} {o p : Nat} (h : DK t p m s) : cuts s o p = cuts t o p := by
  unfold _root_.Jvm.Pilot.CCoilSlitsLaw_law_r2686_4f6a27.cuts fits
  rw [h.2.1 1 (by omega), oo_eq h.2.2, oo_eq h.2.2, h.2.2 1 (by omega) (by omega) (by omega)]
end
