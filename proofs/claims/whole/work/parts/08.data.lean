/-! the two worlds, by program out of the listing and the words: classes, shapes, links -/
def uT_F : u_T := fun k => match k with
  | 0 => ("TriggerBase$Frame", "stack", "[I", true)
  | 1 => ("TriggerBase$Frame", "height", "I", false)
  | 2 => ("TriggerBase$Frame", "locals", "[I", true)
  | 3 => ("TriggerBase$Frame", "oldRow", "[I", true)
  | 4 => ("TriggerBase$Frame", "newRow", "[I", true)
  | 5 => ("TriggerBase$Frame", "procedure", "I", false)
  | 6 => ("TriggerBase$Frame", "place", "I", false)
  | 7 => ("TriggerBase$Frame", "isTrigger", "Z", false)
  | _ => ("TriggerBase$Frame", "owed", "I", false)
def uY_F : Nat → FieldType := fun k => match k with
  | 0 => (.array .int)
  | 1 => .int
  | 2 => (.array .int)
  | 3 => (.array .int)
  | 4 => (.array .int)
  | 5 => .int
  | 6 => .int
  | 7 => .boolean
  | _ => .int
def uT_L : u_T := fun k => match k with
  | 0 => ("TriggerBase$Library", "words", "[I", true)
  | 1 => ("TriggerBase$Library", "lengths", "[I", true)
  | 2 => ("TriggerBase$Library", "verifier", "LTriggerBase$Verifier;", true)
  | 3 => ("TriggerBase$Library", "verified", "I", false)
  | _ => ("TriggerBase$Library", "isOpen", "Z", false)
def uY_L : Nat → FieldType := fun k => match k with
  | 0 => (.array .int)
  | 1 => (.array .int)
  | 2 => (.object "TriggerBase$Verifier")
  | 3 => .int
  | _ => .boolean
def uT_M : u_T := fun k => match k with
  | 0 => ("TriggerBase$Machine", "library", "LTriggerBase$Library;", true)
  | 1 => ("TriggerBase$Machine", "tables", "LTriggerBase$Tables;", true)
  | 2 => ("TriggerBase$Machine", "triggers", "LTriggerBase$Triggers;", true)
  | 3 => ("TriggerBase$Machine", "counts", "[I", true)
  | 4 => ("TriggerBase$Machine", "result", "I", false)
  | 5 => ("TriggerBase$Machine", "frames", "[LTriggerBase$Frame;", true)
  | 6 => ("TriggerBase$Machine", "rowBefore", "[I", true)
  | 7 => ("TriggerBase$Machine", "rowAfter", "[I", true)
  | 8 => ("TriggerBase$Machine", "depth", "I", false)
  | _ => ("TriggerBase$Machine", "top", "LTriggerBase$Frame;", false)
def uY_M : Nat → FieldType := fun k => match k with
  | 0 => (.object "TriggerBase$Library")
  | 1 => (.object "TriggerBase$Tables")
  | 2 => (.object "TriggerBase$Triggers")
  | 3 => (.array .int)
  | 4 => .int
  | 5 => (.array (.object "TriggerBase$Frame"))
  | 6 => (.array .int)
  | 7 => (.array .int)
  | 8 => .int
  | _ => (.object "TriggerBase$Frame")
def uT_T : u_T := fun k => match k with
  | 0 => ("TriggerBase$Tables", "cells", "[I", true)
  | 1 => ("TriggerBase$Tables", "sizes", "[I", true)
  | 2 => ("TriggerBase$Tables", "keptCells", "[I", true)
  | _ => ("TriggerBase$Tables", "keptSizes", "[I", true)
def uY_T : Nat → FieldType := fun k => match k with
  | 0 => (.array .int)
  | 1 => (.array .int)
  | 2 => (.array .int)
  | _ => (.array .int)
def uT_G : u_T := fun k => match k with
  | _ => ("TriggerBase$Triggers", "bound", "[I", true)
def uY_G : Nat → FieldType := fun k => match k with
  | _ => (.array .int)
def uT_V : u_T := fun k => match k with
  | 0 => ("TriggerBase$Verifier", "heights", "[I", true)
  | _ => ("TriggerBase$Verifier", "lookedAt", "[Z", true)
def uY_V : Nat → FieldType := fun k => match k with
  | 0 => (.array .int)
  | _ => (.array .boolean)
def uT_B : u_T := fun k => match k with
  | 0 => ("TriggerBase", "machine", "LTriggerBase$Machine;", true)
  | 1 => ("TriggerBase", "library", "LTriggerBase$Library;", true)
  | 2 => ("TriggerBase", "tables", "LTriggerBase$Tables;", true)
  | _ => ("TriggerBase", "triggers", "LTriggerBase$Triggers;", true)
def uY_B : Nat → FieldType := fun k => match k with
  | 0 => (.object "TriggerBase$Machine")
  | 1 => (.object "TriggerBase$Library")
  | 2 => (.object "TriggerBase$Tables")
  | _ => (.object "TriggerBase$Triggers")
def uT_R : u_T := fun k => match k with
  | 0 => ("TriggerBaseModel", "rows", "[I", true)
  | 1 => ("TriggerBaseModel", "cells", "[I", true)
  | 2 => ("TriggerBaseModel", "oldRows", "[I", true)
  | 3 => ("TriggerBaseModel", "oldCells", "[I", true)
  | 4 => ("TriggerBaseModel", "triggers", "[I", true)
  | 5 => ("TriggerBaseModel", "code", "[I", true)
  | 6 => ("TriggerBaseModel", "words", "[I", true)
  | 7 => ("TriggerBaseModel", "procedures", "I", false)
  | 8 => ("TriggerBaseModel", "open", "Z", false)
  | 9 => ("TriggerBaseModel", "heights", "[I", true)
  | 10 => ("TriggerBaseModel", "begins", "[Z", true)
  | 11 => ("TriggerBaseModel", "seen", "[Z", true)
  | 12 => ("TriggerBaseModel", "frames", "I", false)
  | 13 => ("TriggerBaseModel", "procedure", "[I", true)
  | 14 => ("TriggerBaseModel", "place", "[I", true)
  | 15 => ("TriggerBaseModel", "height", "[I", true)
  | 16 => ("TriggerBaseModel", "stack", "[I", true)
  | 17 => ("TriggerBaseModel", "locals", "[I", true)
  | 18 => ("TriggerBaseModel", "olds", "[I", true)
  | 19 => ("TriggerBaseModel", "news", "[I", true)
  | 20 => ("TriggerBaseModel", "fired", "[Z", true)
  | 21 => ("TriggerBaseModel", "state", "I", false)
  | 22 => ("TriggerBaseModel", "value", "I", false)
  | 23 => ("TriggerBaseModel", "fuel", "I", false)
  | 24 => ("TriggerBaseModel", "used", "I", false)
  | 25 => ("TriggerBaseModel", "deepest", "I", false)
  | 26 => ("TriggerBaseModel", "triggered", "I", false)
  | _ => ("TriggerBaseModel", "changed", "I", false)
def uY_R : Nat → FieldType := fun k => match k with
  | 0 => (.array .int)
  | 1 => (.array .int)
  | 2 => (.array .int)
  | 3 => (.array .int)
  | 4 => (.array .int)
  | 5 => (.array .int)
  | 6 => (.array .int)
  | 7 => .int
  | 8 => .boolean
  | 9 => (.array .int)
  | 10 => (.array .boolean)
  | 11 => (.array .boolean)
  | 12 => .int
  | 13 => (.array .int)
  | 14 => (.array .int)
  | 15 => (.array .int)
  | 16 => (.array .int)
  | 17 => (.array .int)
  | 18 => (.array .int)
  | 19 => (.array .int)
  | 20 => (.array .boolean)
  | 21 => .int
  | 22 => .int
  | 23 => .int
  | 24 => .int
  | 25 => .int
  | 26 => .int
  | _ => .int
abbrev clA : List vw_C := [("TriggerBase$Frame", uT_F, 9), ("TriggerBase$Library", uT_L, 5), ("TriggerBase$Machine", uT_M, 10), ("TriggerBase$Tables", uT_T, 4), ("TriggerBase$Triggers", uT_G, 1), ("TriggerBase$Verifier", uT_V, 2), ("TriggerBase", uT_B, 4), ("TriggerBaseModel", uT_R, 28)]
abbrev tyA : List (Nat → FieldType) := [uY_F, uY_L, uY_M, uY_T, uY_G, uY_V, uY_B, uY_R]
def shLC : mShL := [(0, .inl (6, [4, 5, 6, 7])), (1, .inl (2, [5, 6, 7, 23, 0, 24, 25, 26, 0, 2])), (2, .inl (1, [27, 28, 8, 0, 1])), (3, .inl (3, [29, 30, 31, 32])), (4, .inl (4, [33])), (5, .inl (5, [34, 35])), (10, .inl (0, [14, 0, 15, 16, 17, 0, 0, 1, 0])), (11, .inr (12, 0)), (12, .inr (8, 0)), (13, .inr (3, 0)), (14, .inr (3, 0)), (20, .inr (4, 0)), (21, .inr (8, 2)), (22, .inr (3, 0)), (23, .inr (3, 0)), (24, .inr (720, 0)), (25, .inr (12, 0)), (26, .inr (192, 0)), (27, .inr (4, 0)), (28, .inr (192, 0)), (29, .inr (4, 0)), (30, .inr (12, 0)), (31, .inr (60, 0)), (32, .inr (60, 1))]
abbrev shC : mSh := mlk shLC
def nmLC : List (Nat × Nat) := [(0, 1), (1, 1), (2, 1), (3, 1), (4, 1), (5, 1), (10, 8), (11, 8), (12, 8), (13, 8), (14, 8), (20, 1), (21, 1), (22, 1), (23, 1), (24, 1), (25, 1), (26, 1), (27, 1), (28, 1), (29, 1), (30, 1), (31, 1), (32, 1), (100, 28), (101, 1), (102, 1)]
def nmC (a : Nat) : Nat := match mlk nmLC a with
  | some n => n
  | none => 0
def csC : List (Nat × Nat) := [(0, 0), (1, 0), (2, 0), (3, 0), (4, 0), (5, 0), (10, 0), (10, 1), (10, 2), (10, 3), (10, 4), (10, 5), (10, 6), (10, 7), (11, 0), (11, 1), (11, 2), (11, 3), (11, 4), (11, 5), (11, 6), (11, 7), (12, 0), (12, 1), (12, 2), (12, 3), (12, 4), (12, 5), (12, 6), (12, 7), (13, 0), (13, 1), (13, 2), (13, 3), (13, 4), (13, 5), (13, 6), (13, 7), (14, 0), (14, 1), (14, 2), (14, 3), (14, 4), (14, 5), (14, 6), (14, 7), (20, 0), (21, 0), (22, 0), (23, 0), (24, 0), (25, 0), (26, 0), (27, 0), (28, 0), (29, 0), (30, 0), (31, 0), (32, 0)]
def shLR : mShL := [(0, .inl (7, [4, 5, 6, 7, 8, 9, 10, 0, 1, 11, 12, 14, 0, 15, 16, 17, 18, 19, 20, 21, 22, 0, 0, 0, 0, 0, 0, 0])), (1, .inr (4, 0)), (2, .inr (192, 0)), (3, .inr (4, 0)), (4, .inr (192, 0)), (5, .inr (12, 0)), (6, .inr (720, 0)), (7, .inr (12, 0)), (8, .inr (61, 0)), (9, .inr (61, 1)), (11, .inr (61, 1)), (12, .inr (8, 0)), (13, .inr (8, 0)), (14, .inr (8, 0)), (15, .inr (104, 0)), (16, .inr (64, 0)), (17, .inr (24, 0)), (18, .inr (24, 0)), (19, .inr (8, 1))]
abbrev shR : mSh := mlk shLR
def nmLR : List (Nat × Nat) := [(0, 1), (1, 1), (2, 1), (3, 1), (4, 1), (5, 1), (6, 1), (7, 1), (8, 1), (9, 1), (11, 1), (12, 1), (13, 1), (14, 1), (15, 1), (16, 1), (17, 1), (18, 1), (19, 1)]
def nmR (a : Nat) : Nat := match mlk nmLR a with
  | some n => n
  | none => 0
def csR : List (Nat × Nat) := [(0, 0), (1, 0), (2, 0), (3, 0), (4, 0), (5, 0), (6, 0), (7, 0), (8, 0), (9, 0), (11, 0), (12, 0), (13, 0), (14, 0), (15, 0), (16, 0), (17, 0), (18, 0), (19, 0)]
theorem shC_ok : mShOk clA shC nmC csC := mShOk.of (tyL := tyA) (by decide +kernel) (by decide +kernel)
theorem shR_ok : mShOk clA shR nmR csR := mShOk.of (tyL := tyA) (by decide +kernel) (by decide +kernel)
theorem uw_ok : mUwB clA = true := by decide +kernel
def smC : List Int32 := [11, 12, 13, 21, 22, 23, 24, 1, 2, 25, 26, 14, 15, 16, 3, 4, 17, 18, 5, 6, 7, 27, 19, 20, 8, 9, 10, 0]
def enC : List String := ["PUSH", "DROP", "COPY", "SWAP", "ADD", "SUBTRACT", "MULTIPLY", "DIVIDE", "REMAINDER", "LESS", "SAME", "NOT", "LOAD", "STORE", "JUMP", "JUMP_IF_ZERO", "SIZE", "READ", "INSERT", "DELETE", "UPDATE", "FIND", "OLD", "NEW", "CALL", "RAISE", "RETURN", "UNKNOWN"]
def efC : List (String × String × String × List Int32) := [("java/lang/Enum", "ordinal", "I", [0, 1, 2, 3, 4, 5, 6, 7, 8, 9, 10, 11, 12, 13, 14, 15, 16, 17, 18, 19, 20, 21, 22, 23, 24, 25, 26, 27]), ("TriggerBase$Instruction", "takes", "I", [0, 1, 1, 2, 2, 2, 2, 2, 2, 2, 2, 1, 0, 1, 0, 1, 0, 1, 3, 1, 2, 2, 0, 0, 1, 1, 1, 0]), ("TriggerBase$Instruction", "gives", "I", [1, 0, 2, 2, 1, 1, 1, 1, 1, 1, 1, 1, 1, 0, 0, 0, 1, 1, 1, 1, 1, 1, 1, 1, 1, 0, 0, 0]), ("TriggerBase$Instruction", "firstKind", "I", [1, 0, 0, 0, 0, 0, 0, 0, 0, 0, 0, 0, 2, 2, 3, 3, 4, 4, 4, 4, 4, 4, 5, 5, 6, 0, 0, 0]), ("TriggerBase$Instruction", "secondKind", "I", [0, 0, 0, 0, 0, 0, 0, 0, 0, 0, 0, 0, 0, 0, 0, 0, 0, 5, 0, 0, 5, 5, 0, 0, 0, 0, 0, 0]), ("TriggerBase$Instruction", "words", "I", [2, 1, 1, 1, 1, 1, 1, 1, 1, 1, 1, 1, 2, 2, 2, 2, 2, 3, 2, 2, 3, 3, 2, 2, 2, 1, 1, 1])]
def gl_A : List (Nat × Nat × Nat) := []
def pl_A : List (Nat × Nat × Nat) := []
def gs_A : List (Nat × mV) := []
def fe_A : List (Nat × List Int32) := []
theorem gl_A_ok : mGlB clA "java/util/Arrays" gl_A = true := by decide +kernel
theorem pl_A_ok : mGlB clA "java/util/Arrays" pl_A = true ∧ mPlB clA pl_A = true := by decide +kernel
def gl_B : List (Nat × Nat × Nat) := [(10, 6, 0), (16, 2, 0), (20, 6, 1), (21, 2, 1), (25, 6, 2), (26, 2, 2), (30, 6, 3), (44, 1, 3), (77, 2, 4), (80, 2, 3)]
def pl_B : List (Nat × Nat × Nat) := []
def gs_B : List (Nat × mV) := []
def fe_B : List (Nat × List Int32) := []
theorem gl_B_ok : mGlB clA "TriggerBase" gl_B = true := by decide +kernel
theorem pl_B_ok : mGlB clA "TriggerBase" pl_B = true ∧ mPlB clA pl_B = true := by decide +kernel
def gl_E : List (Nat × Nat × Nat) := []
def pl_E : List (Nat × Nat × Nat) := []
def gs_E : List (Nat × mV) := []
def fe_E : List (Nat × List Int32) := [(7, [0, 1, 2, 3, 4, 5, 6, 7, 8, 9, 10, 11, 12, 13, 14, 15, 16, 17, 18, 19, 20, 21, 22, 23, 24, 25, 26, 27])]
theorem gl_E_ok : mGlB clA "java/lang/Enum" gl_E = true := by decide +kernel
theorem pl_E_ok : mGlB clA "java/lang/Enum" pl_E = true ∧ mPlB clA pl_E = true := by decide +kernel
def gl_F : List (Nat × Nat × Nat) := [(9, 0, 0), (15, 0, 1), (19, 0, 2), (22, 0, 3), (25, 0, 4), (28, 0, 5), (31, 0, 6), (34, 0, 7), (38, 0, 8)]
def pl_F : List (Nat × Nat × Nat) := [(15, 0, 1), (28, 0, 5), (31, 0, 6), (34, 0, 7), (38, 0, 8)]
def gs_F : List (Nat × mV) := []
def fe_F : List (Nat × List Int32) := []
theorem gl_F_ok : mGlB clA "TriggerBase$Frame" gl_F = true := by decide +kernel
theorem pl_F_ok : mGlB clA "TriggerBase$Frame" pl_F = true ∧ mPlB clA pl_F = true := by decide +kernel
def gl_G : List (Nat × Nat × Nat) := [(9, 4, 0)]
def pl_G : List (Nat × Nat × Nat) := []
def gs_G : List (Nat × mV) := []
def fe_G : List (Nat × List Int32) := []
theorem gl_G_ok : mGlB clA "TriggerBase$Triggers" gl_G = true := by decide +kernel
theorem pl_G_ok : mGlB clA "TriggerBase$Triggers" pl_G = true ∧ mPlB clA pl_G = true := by decide +kernel
def gl_I : List (Nat × Nat × Nat) := []
def pl_I : List (Nat × Nat × Nat) := []
def gs_I : List (Nat × mV) := [(48, .inr (100, 14)), (81, .inr (100, 25)), (84, .inr (100, 26)), (87, .inr (100, 27)), (125, .inr (101, 0))]
def fe_I : List (Nat × List Int32) := [(116, [1, 0, 0, 0, 0, 0, 0, 0, 0, 0, 0, 0, 2, 2, 3, 3, 4, 4, 4, 4, 4, 4, 5, 5, 6, 0, 0, 0])]
theorem gl_I_ok : mGlB clA "TriggerBase$Instruction" gl_I = true := by decide +kernel
theorem pl_I_ok : mGlB clA "TriggerBase$Instruction" pl_I = true ∧ mPlB clA pl_I = true := by decide +kernel
def gl_L : List (Nat × Nat × Nat) := [(9, 1, 0), (15, 1, 1), (21, 1, 2), (25, 1, 3), (29, 1, 4)]
def pl_L : List (Nat × Nat × Nat) := [(25, 1, 3), (29, 1, 4)]
def gs_L : List (Nat × mV) := []
def fe_L : List (Nat × List Int32) := []
theorem gl_L_ok : mGlB clA "TriggerBase$Library" gl_L = true := by decide +kernel
theorem pl_L_ok : mGlB clA "TriggerBase$Library" pl_L = true ∧ mPlB clA pl_L = true := by decide +kernel
def gl_M : List (Nat × Nat × Nat) := [(12, 2, 0), (21, 2, 1), (28, 2, 2), (32, 2, 3), (36, 2, 4), (42, 2, 5), (46, 2, 6), (49, 2, 7), (52, 2, 8), (56, 2, 9), (93, 0, 5), (96, 0, 6), (149, 0, 2), (167, 0, 3), (170, 0, 4), (210, 0, 7), (214, 0, 8)]
def pl_M : List (Nat × Nat × Nat) := [(36, 2, 4), (52, 2, 8), (56, 2, 9), (96, 0, 6)]
def gs_M : List (Nat × mV) := [(111, .inr (102, 0)), (180, .inr (100, 7))]
def fe_M : List (Nat × List Int32) := [(106, [2, 1, 1, 1, 1, 1, 1, 1, 1, 1, 1, 1, 2, 2, 2, 2, 2, 3, 2, 2, 3, 3, 2, 2, 2, 1, 1, 1])]
theorem gl_M_ok : mGlB clA "TriggerBase$Machine" gl_M = true := by decide +kernel
theorem pl_M_ok : mGlB clA "TriggerBase$Machine" pl_M = true ∧ mPlB clA pl_M = true := by decide +kernel
def gl_R : List (Nat × Nat × Nat) := [(7, 7, 0), (13, 7, 1), (16, 7, 2), (19, 7, 3), (22, 7, 4), (25, 7, 5), (28, 7, 6), (31, 7, 9), (34, 7, 10), (38, 7, 11), (41, 7, 13), (44, 7, 14), (47, 7, 15), (50, 7, 16), (53, 7, 17), (56, 7, 18), (59, 7, 19), (62, 7, 20), (65, 7, 8), (69, 7, 7), (108, 7, 12), (111, 7, 21), (114, 7, 25), (117, 7, 27), (124, 7, 26), (141, 7, 22), (147, 7, 24), (170, 7, 23)]
def pl_R : List (Nat × Nat × Nat) := [(65, 7, 8), (69, 7, 7), (108, 7, 12), (111, 7, 21), (114, 7, 25), (117, 7, 27), (124, 7, 26), (141, 7, 22), (147, 7, 24), (170, 7, 23)]
def gs_R : List (Nat × mV) := []
def fe_R : List (Nat × List Int32) := []
theorem gl_R_ok : mGlB clA "TriggerBaseModel" gl_R = true := by decide +kernel
theorem pl_R_ok : mGlB clA "TriggerBaseModel" pl_R = true ∧ mPlB clA pl_R = true := by decide +kernel
def gl_T : List (Nat × Nat × Nat) := [(9, 3, 0), (15, 3, 1), (18, 3, 2), (21, 3, 3)]
def pl_T : List (Nat × Nat × Nat) := []
def gs_T : List (Nat × mV) := []
def fe_T : List (Nat × List Int32) := []
theorem gl_T_ok : mGlB clA "TriggerBase$Tables" gl_T = true := by decide +kernel
theorem pl_T_ok : mGlB clA "TriggerBase$Tables" pl_T = true ∧ mPlB clA pl_T = true := by decide +kernel
def gl_V : List (Nat × Nat × Nat) := [(9, 5, 0), (15, 5, 1), (85, 1, 3)]
def pl_V : List (Nat × Nat × Nat) := []
def gs_V : List (Nat × mV) := [(64, .inr (100, 27))]
def fe_V : List (Nat × List Int32) := [(58, [2, 1, 1, 1, 1, 1, 1, 1, 1, 1, 1, 1, 2, 2, 2, 2, 2, 3, 2, 2, 3, 3, 2, 2, 2, 1, 1, 1]), (68, [1, 0, 0, 0, 0, 0, 0, 0, 0, 0, 0, 0, 2, 2, 3, 3, 4, 4, 4, 4, 4, 4, 5, 5, 6, 0, 0, 0]), (78, [0, 0, 0, 0, 0, 0, 0, 0, 0, 0, 0, 0, 0, 0, 0, 0, 0, 5, 0, 0, 5, 5, 0, 0, 0, 0, 0, 0]), (107, [0, 1, 1, 2, 2, 2, 2, 2, 2, 2, 2, 1, 0, 1, 0, 1, 0, 1, 3, 1, 2, 2, 0, 0, 1, 1, 1, 0]), (110, [1, 0, 2, 2, 1, 1, 1, 1, 1, 1, 1, 1, 1, 0, 0, 0, 1, 1, 1, 1, 1, 1, 1, 1, 1, 0, 0, 0])]
theorem gl_V_ok : mGlB clA "TriggerBase$Verifier" gl_V = true := by decide +kernel
theorem pl_V_ok : mGlB clA "TriggerBase$Verifier" pl_V = true ∧ mPlB clA pl_V = true := by decide +kernel
