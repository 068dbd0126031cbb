/-! ===== a small machine of pictures: states are (locals, stack, heap picture); its soundness over the kit's W ===== -/
-- the classes whose objects the pictures hold
def F_Row : u_T := fun k => match k with
  | _ => ("CoilSlits$Row", "cells", "[I", true)
def t_Row : Nat → FieldType := fun k => match k with
  | _ => .array .int
def F_Grid : u_T := fun k => match k with
  | 0 => ("CoilSlits$Grid", "columns", "I", true)
  | _ => ("CoilSlits$Grid", "cells", "[I", true)
def t_Grid : Nat → FieldType := fun k => match k with
  | 0 => .int
  | _ => .array .int
def F_Yard : u_T := fun k => match k with
  | 0 => ("CoilSlits$Yard", "coils", "LCoilSlits$Grid;", true)
  | 1 => ("CoilSlits$Yard", "heights", "LCoilSlits$Row;", true)
  | 2 => ("CoilSlits$Yard", "orders", "LCoilSlits$Grid;", true)
  | 3 => ("CoilSlits$Yard", "settings", "LCoilSlits$Row;", true)
  | 4 => ("CoilSlits$Yard", "tallies", "LCoilSlits$Row;", true)
  | 5 => ("CoilSlits$Yard", "orderCount", "I", false)
  | 6 => ("CoilSlits$Yard", "nextCoil", "I", false)
  | _ => ("CoilSlits$Yard", "nextOrder", "I", false)
def t_Yard : Nat → FieldType := fun k => match k with
  | 0 => .object "CoilSlits$Grid"
  | 1 => .object "CoilSlits$Row"
  | 2 => .object "CoilSlits$Grid"
  | 3 => .object "CoilSlits$Row"
  | 4 => .object "CoilSlits$Row"
  | _ => .int
def F_History : u_T := fun k => match k with
  | 0 => ("CoilSlits$History", "states", "[LCoilSlits$Yard;", true)
  | 1 => ("CoilSlits$History", "next", "I", false)
  | _ => ("CoilSlits$History", "kept", "I", false)
def t_History : Nat → FieldType := fun k => match k with
  | 0 => .array (.object "CoilSlits$Yard")
  | _ => .int
def F_Reader : u_T := fun k => match k with
  | 0 => ("CoilSlits$CoilReader", "expected", "I", false)
  | 1 => ("CoilSlits$CoilReader", "width", "I", false)
  | 2 => ("CoilSlits$CoilReader", "grade", "I", false)
  | 3 => ("CoilSlits$CoilReader", "quality", "I", false)
  | _ => ("CoilSlits$CoilReader", "stack", "I", false)
def t_Reader : Nat → FieldType := fun _ => .int
def F_Slits : u_T := fun k => match k with
  | 0 => ("CoilSlits", "yard", "LCoilSlits$Yard;", true)
  | 1 => ("CoilSlits", "trial", "LCoilSlits$Yard;", true)
  | 2 => ("CoilSlits", "history", "LCoilSlits$History;", true)
  | 3 => ("CoilSlits", "buffer", "LCoilSlits$Row;", true)
  | 4 => ("CoilSlits", "reader", "LCoilSlits$CoilReader;", true)
  | _ => ("CoilSlits", "length", "I", false)
def t_Slits : Nat → FieldType := fun k => match k with
  | 0 => .object "CoilSlits$Yard"
  | 1 => .object "CoilSlits$Yard"
  | 2 => .object "CoilSlits$History"
  | 3 => .object "CoilSlits$Row"
  | 4 => .object "CoilSlits$CoilReader"
  | _ => .int
def F_Model : u_T := fun k => match k with
  | 0 => ("CoilSlitsModel", "now", "[I", true)
  | 1 => ("CoilSlitsModel", "then", "[I", true)
  | 2 => ("CoilSlitsModel", "past", "[I", true)
  | 3 => ("CoilSlitsModel", "kept", "I", false)
  | 4 => ("CoilSlitsModel", "text", "[I", true)
  | 5 => ("CoilSlitsModel", "typed", "I", false)
  | 6 => ("CoilSlitsModel", "thrown", "I", false)
  | 7 => ("CoilSlitsModel", "at", "I", false)
  | 8 => ("CoilSlitsModel", "isFault", "Z", false)
  | 9 => ("CoilSlitsModel", "told", "[I", true)
  | _ => ("CoilSlitsModel", "tolds", "I", false)
def t_Model : Nat → FieldType := fun k => match k with
  | 0 => .array .int
  | 1 => .array .int
  | 2 => .array .int
  | 3 => .int
  | 4 => .array .int
  | 5 => .int
  | 6 => .int
  | 7 => .int
  | 8 => .boolean
  | 9 => .array .int
  | _ => .int
abbrev zcl : List vw_C := [("CoilSlits$Row", F_Row, 1), ("CoilSlits$Grid", F_Grid, 2), ("CoilSlits$Yard", F_Yard, 8), ("CoilSlits$History", F_History, 3), ("CoilSlits$CoilReader", F_Reader, 5), ("CoilSlits", F_Slits, 6), ("CoilSlitsModel", F_Model, 11)]
def zty (ci : Nat) : Nat → FieldType := match ci with
  | 0 => t_Row
  | 1 => t_Grid
  | 2 => t_Yard
  | 3 => t_History
  | 4 => t_Reader
  | 5 => t_Slits
  | _ => t_Model
theorem zty_ok : ∀ ci, ci < 7 → ∀ k, k < ((zcl[ci]?).getD ("", F_Row, 0)).2.2 → parseFieldDescriptor (((zcl[ci]?).getD ("", F_Row, 0)).2.1 k).2.2.1 = some (zty ci k) := by decide +kernel
theorem znm_ok : ∀ ci, ci < 7 → ∀ a, a < ((zcl[ci]?).getD ("", F_Row, 0)).2.2 → ∀ b, b < ((zcl[ci]?).getD ("", F_Row, 0)).2.2 → a ≠ b → (((zcl[ci]?).getD ("", F_Row, 0)).2.1 a).2.1 ≠ (((zcl[ci]?).getD ("", F_Row, 0)).2.1 b).2.1 := by decide +kernel
theorem zdc_ok : ∀ ci, ci < 7 → ∀ k, k < ((zcl[ci]?).getD ("", F_Row, 0)).2.2 → (((zcl[ci]?).getD ("", F_Row, 0)).2.1 k).1 = ((zcl[ci]?).getD ("", F_Row, 0)).1 := by decide +kernel
theorem zlay_ok : ∀ ci, ci < 7 → ∀ w ∈ u_ws ((zcl[ci]?).getD ("", F_Row, 0)).1 ((zcl[ci]?).getD ("", F_Row, 0)).2.1 ((zcl[ci]?).getD ("", F_Row, 0)).2.2, w ∈ lw_tbl := by decide +kernel
