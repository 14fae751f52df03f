/-! the reference's small methods, in the same closed forms -/
theorem s_R_rows (a : Int32) (g : mG) : f_R_rows [.inr (0, 0), .inl a] g = some (pSize (g 1 0) a, g) := by
  refine e_R_rows (n := 10) rfl ?_
  rw [x_R_rows]
  simp only [i_lt, tiz, ti3]
  by_cases h : inB a 4
  · have h1 : 0 ≤ a.toInt ∧ a.toInt < 4 := h
    rw [show pSize (g 1 0) a = g 1 0 a.toNatClampNeg from if_pos h, if_neg (by omega), if_neg (by omega), if_pos h]
  · have h1 : ¬ (0 ≤ a.toInt ∧ a.toInt < 4) := h
    rw [show pSize (g 1 0) a = Int32.ofInt (-1) from if_neg h]
    by_cases h2 : a.toInt < 0
    · rw [if_pos h2]
    · rw [if_neg h2, if_pos (by omega)]
theorem s_R_isRow (a b : Int32) (g : mG) (ha : inB a 4) : f_R_isRow [.inr (0, 0), .inl a, .inl b] g = some (bI (pHas (g 1 0) a b), g) := by
  refine e_R_isRow (n := 11) rfl ?_
  rw [x_R_isRow]
  simp only [isB_0, isB_1, if_true]
  simp only [of0, of1, i_lt, tiz]
  by_cases h1 : b.toInt < 0
  · rw [if_pos h1, bI_f (fun z => by have := z.2.1; omega)]
  · rw [if_neg h1, if_pos ha]
    by_cases h2 : b.toInt < (g 1 0 a.toNatClampNeg).toInt
    · rw [if_pos h2, bI_t ⟨ha, by omega, h2⟩]
    · rw [if_neg h2, bI_f (fun z => h2 z.2.2)]
theorem s_R_cell (a b c : Int32) (g : mG) (hs : szOk (g 1 0)) : f_R_cell [.inr (0, 0), .inl a, .inl b, .inl c] g = some (pRead (g 2 0) (g 1 0) a b c, g) := by
  refine e_R_cell (n := 34) rfl ?_
  rw [x_R_cell]
  simp only [of0n, of1n, if_true, if_false]
  simp only [i_lt, tiz, ti3, ti2, of0]
  by_cases h : inB a 4
  · have h1 : 0 ≤ a.toInt ∧ a.toInt < 4 := h
    rw [if_neg (by omega), if_neg (by omega)]
    by_cases hc : inB c 3
    · have h2 : 0 ≤ c.toInt ∧ c.toInt < 3 := hc
      rw [if_neg (by omega), if_neg (by omega)]
      simp only [s_R_isRow a b g h, Option.bind_some, bI_0]
      by_cases h3 : pHas (g 1 0) a b
      · obtain ⟨i1, i2⟩ := ix48' h (pHas_16 hs h3) hc
        rw [show pRead (g 2 0) (g 1 0) a b c = _ from if_pos ⟨h3, hc⟩, if_neg (fun z => z h3), if_pos i1, i2]
      · rw [show pRead (g 2 0) (g 1 0) a b c = 0 from if_neg (fun z => h3 z.1), if_pos h3]
    · have h2 : ¬ (0 ≤ c.toInt ∧ c.toInt < 3) := hc
      rw [show pRead (g 2 0) (g 1 0) a b c = 0 from if_neg (fun z => hc z.2)]
      by_cases h3 : c.toInt < 0
      · rw [if_pos h3]
      · rw [if_neg h3, if_pos (by omega)]
  · have h1 : ¬ (0 ≤ a.toInt ∧ a.toInt < 4) := h
    rw [show pRead (g 2 0) (g 1 0) a b c = 0 from if_neg (fun z => h z.1.1)]
    by_cases h2 : a.toInt < 0
    · rw [if_pos h2]
    · rw [if_neg h2, if_pos (by omega)]
/-- a verified procedure keeps to a table of heights -/
def opL : List Nat := [1, 0, 0, 0, 0, 0, 0, 0, 0, 0, 0, 0, 1, 1, 1, 1, 1, 2, 1, 1, 2, 2, 1, 1, 1, 0, 0]
def tkL : List Nat := [0, 1, 1, 2, 2, 2, 2, 2, 2, 2, 2, 1, 0, 1, 0, 1, 0, 1, 3, 1, 2, 2, 0, 0, 1, 1, 1]
def gvL : List Nat := [1, 0, 2, 2, 1, 1, 1, 1, 1, 1, 1, 1, 1, 0, 0, 0, 1, 1, 1, 1, 1, 1, 1, 1, 1, 0, 0]
def k1L : List Nat := [1, 0, 0, 0, 0, 0, 0, 0, 0, 0, 0, 0, 2, 2, 3, 3, 4, 4, 4, 4, 4, 4, 5, 5, 6, 0, 0]
def k2L : List Nat := [0, 0, 0, 0, 0, 0, 0, 0, 0, 0, 0, 0, 0, 0, 0, 0, 0, 5, 0, 0, 5, 5, 0, 0, 0, 0, 0]
def kOk (kd : Nat) (x : Int32) (P : Nat) : Prop := match kd with
  | 2 => inB x 8
  | 4 => inB x 4
  | 5 => inB x 3
  | 6 => inB x P
  | _ => True
def Snd (w : Nat → Int32) (n P : Nat) : Prop := ∃ ht : Nat → Option Nat, ht 0 = some 0 ∧ ∀ k h, ht k = some h → ∃ op, op < 27 ∧ w k = nI op ∧ k + opL.getD op 0 < n ∧ tkL.getD op 0 ≤ h ∧ h - tkL.getD op 0 + gvL.getD op 0 ≤ 12 ∧
  (1 ≤ opL.getD op 0 → kOk (k1L.getD op 0) (w (k + 1)) P) ∧ (2 ≤ opL.getD op 0 → kOk (k2L.getD op 0) (w (k + 2)) P) ∧
  (op ≠ 14 → op ≠ 25 → op ≠ 26 → ht (k + 1 + opL.getD op 0) = some (h - tkL.getD op 0 + gvL.getD op 0)) ∧
  (op = 14 ∨ op = 15 → ∃ t, w (k + 1) = nI t ∧ t < n ∧ ht t = some (h - tkL.getD op 0 + gvL.getD op 0))
theorem opL_le : ∀ op, op < 27 → (op = 14 ∨ op = 15 → opL.getD op 0 = 1) ∧ opL.getD op 0 ≤ 2 := by decide
theorem Snd.congr {w w' : Nat → Int32} {n P : Nat} (hw : ∀ k, k < n → w' k = w k) (h : Snd w n P) : Snd w' n P := by
  obtain ⟨ht, h0, h1⟩ := h
  refine ⟨ht, h0, fun k hh hk => ?_⟩
  obtain ⟨op, a1, a2, a3, a4, a5, a6, a7, a8, a9⟩ := h1 k hh hk
  refine ⟨op, a1, ?_, a3, a4, a5, fun z => ?_, fun z => ?_, a8, fun z => ?_⟩
  · rw [hw k (by omega)]; exact a2
  · rw [hw (k + 1) (by omega)]; exact a6 z
  · rw [hw (k + 2) (by omega)]; exact a7 z
  · have h5 := (opL_le op a1).1 z
    rw [hw (k + 1) (by omega)]; exact a9 z
/-- what holds between the calls -/
def InvL (g r : mG) : Prop := g 24 0 = r 6 0 ∧ g 25 0 = r 7 0 ∧ g 2 0 3 = r 0 0 7 ∧ g 2 0 4 = r 0 0 8 ∧ (0 ≤ (g 2 0 3).toInt ∧ (g 2 0 3).toInt ≤ 12) ∧ isB (g 2 0 4) ∧ (g 2 0 4 ≠ 0 → (g 2 0 3).toInt < 12) ∧ (∀ p, p < 12 → 0 ≤ (g 25 0 p).toInt ∧ (g 25 0 p).toInt ≤ 60) ∧
  ∀ p, p < (g 2 0 3).toNatClampNeg → Snd (fun k => g 24 0 (60 * p + k)) (g 25 0 p).toNatClampNeg p
def InvT (g r : mG) : Prop := g 26 0 = r 2 0 ∧ g 27 0 = r 1 0 ∧ szOk (g 27 0)
def InvG (g r : mG) : Prop := g 30 0 = r 5 0 ∧ ∀ k, k < 12 → -1 ≤ (g 30 0 k).toInt ∧ (g 30 0 k).toInt < (g 2 0 3).toInt
def InvN (g r : mG) : Prop := g 20 0 0 = r 0 0 24 ∧ g 20 0 1 = r 0 0 25 ∧ g 20 0 2 = r 0 0 26 ∧ g 20 0 3 = r 0 0 27 ∧ g 1 0 4 = r 0 0 22
def InvM (g : mG) : Prop := (∀ k, k < 8 → g 21 0 k = nI k) ∧ (g 1 0 9).toNatClampNeg < 8
def Inv (g r : mG) : Prop := InvL g r ∧ InvT g r ∧ InvG g r ∧ InvN g r ∧ InvM g
abbrev Agree (x : Option (Int32 × mG)) (y : Option (Int32 × mG)) : Prop := ∃ v g' r', x = some (v, g') ∧ y = some (v, r') ∧ Inv g' r'
theorem face_procedures {g r : mG} (h : Inv g r) : Agree (f_B_procedures [.inr (0, 0)] g) (f_R_procedures [.inr (0, 0)] r) := by
  refine ⟨g 2 0 3, g, r, e_B_procedures (n := 4) rfl (x_B_procedures g), ?_, h⟩
  rw [h.1.2.2.1]
  exact e_R_procedures (n := 3) rfl (x_R_procedures r)
theorem face_value {g r : mG} (h : Inv g r) : Agree (f_B_value [.inr (0, 0)] g) (f_R_value [.inr (0, 0)] r) := by
  refine ⟨g 1 0 4, g, r, e_B_value (n := 4) rfl (x_B_value g), ?_, h⟩
  rw [h.2.2.2.1.2.2.2.2]
  exact e_R_value (n := 3) rfl (x_R_value r)
theorem face_rows {g r : mG} (a : Int32) (h : Inv g r) : Agree (f_B_rows [.inr (0, 0), .inl a] g) (f_R_rows [.inr (0, 0), .inl a] r) := by
  refine ⟨pSize (g 27 0) a, g, r, e_B_rows (n := 5) rfl (by rw [x_B_rows, s_T_size]; rfl), ?_, h⟩
  rw [s_R_rows, h.2.1.2.1]
theorem face_cell {g r : mG} (a b c : Int32) (h : Inv g r) : Agree (f_B_cell [.inr (0, 0), .inl a, .inl b, .inl c] g) (f_R_cell [.inr (0, 0), .inl a, .inl b, .inl c] r) := by
  refine ⟨pRead (g 26 0) (g 27 0) a b c, g, r, e_B_cell (n := 7) rfl (by rw [x_B_cell, s_T_read a b c g h.2.1.2.2]; rfl), ?_, h⟩
  rw [s_R_cell a b c r (by rw [← h.2.1.2.1]; exact h.2.1.2.2), h.2.1.1, h.2.1.2.1]
theorem face_count {g r : mG} (a : Int32) (h : Inv g r) : Agree (f_B_count [.inr (0, 0), .inl a] g) (f_R_count [.inr (0, 0), .inl a] r) := by
  refine ⟨if inB a 4 then g 20 0 a.toNatClampNeg else Int32.ofInt (-1), g, r, e_B_count (n := 11) rfl ?_, e_R_count (n := 15) rfl ?_, h⟩
  · rw [x_B_count]
    simp only [s_B_isBelow, Option.bind_some, bI_0, ti4]
    by_cases h1 : inB a 4
    · have h2 : 0 ≤ a.toInt ∧ a.toInt < 4 := h1
      rw [if_neg (fun z => z h2), if_pos h1, if_pos h1]
    · have h2 : ¬ (0 ≤ a.toInt ∧ a.toInt < 4) := h1
      rw [if_pos h2, if_neg h1]
  · rw [x_R_count]
    obtain ⟨n0, n1, n2, n3, -⟩ := h.2.2.2.1
    rw [← n0, ← n1, ← n2, ← n3]
    simp only [i_eq, tiz, ti1, ti2, ti3]
    by_cases h1 : inB a 4
    · have h2 : 0 ≤ a.toInt ∧ a.toInt < 4 := h1
      rw [if_pos h1, cl_toInt]
      have h3 : a.toInt = 0 ∨ a.toInt = 1 ∨ a.toInt = 2 ∨ a.toInt = 3 := by omega
      rcases h3 with h3 | h3 | h3 | h3 <;> rw [h3] <;> rfl
    · have h2 : ¬ (0 ≤ a.toInt ∧ a.toInt < 4) := h1
      rw [if_neg h1, if_neg (by omega), if_neg (by omega), if_neg (by omega), if_neg (by omega)]
