/-! the first look at the words: operands in bounds -/
def kB (kd : Nat) (x : Int32) (P : Nat) : Bool := match kd with
  | 2 => decide (inB x 8)
  | 4 => decide (inB x 4)
  | 5 => decide (inB x 3)
  | 6 => decide (inB x P)
  | _ => true
theorem kB_ok {kd : Nat} {x : Int32} {P : Nat} (h : kB kd x P = true) : kOk kd x P := by
  unfold kB at h
  unfold kOk
  split
  · exact of_decide_eq_true h
  · exact of_decide_eq_true h
  · exact of_decide_eq_true h
  · exact of_decide_eq_true h
  · trivial
theorem bI_c {c d : Prop} [Decidable c] [Decidable d] (h : c ↔ d) : bI c = bI d := by
  by_cases hc : c
  · rw [bI_t hc, bI_t (h.mp hc)]
  · rw [bI_f hc, bI_f (fun z => hc (h.mpr z))]
theorem s_V_isInBounds (k P : Nat) (b : Int32) (g : mG) (hk : k < 7) (hP : g 2 0 3 = nI P) (hP2 : P ≤ 12) : f_V_isInBounds [.inr (2, 0), .inl (nI k), .inl b] g = some (bI (kB k b P = true), g) := by
  refine e_V_isInBounds (n := 7) rfl ?_
  rw [x_V_isInBounds]
  simp only [isB_1, if_true]
  simp only [s_B_isBelow, Option.bind_some, isB_bI, if_true, ti8, ti4, ti3, hP, nI_toInt (show P < 2 ^ 31 by omega)]
  have k7 : k = 0 ∨ k = 1 ∨ k = 2 ∨ k = 3 ∨ k = 4 ∨ k = 5 ∨ k = 6 := by omega
  rcases k7 with rfl | rfl | rfl | rfl | rfl | rfl | rfl
  · rw [if_neg (by decide), if_neg (by decide), if_neg (by decide), if_neg (by decide), if_neg (by decide), bI_t (c := kB 0 b P = true) rfl, of1]
  · rw [if_neg (by decide), if_neg (by decide), if_neg (by decide), if_neg (by decide), if_neg (by decide), bI_t (c := kB 1 b P = true) rfl, of1]
  · rw [if_pos (by decide)]
    congr 3
    exact congrArg _ (bI_c (decide_eq_true_iff (p := inB b 8)).symm)
  · rw [if_neg (by decide), if_pos (by decide), bI_t (c := kB 3 b P = true) rfl, of1]
  · rw [if_neg (by decide), if_neg (by decide), if_pos (by decide)]
    congr 3
    exact congrArg _ (bI_c (decide_eq_true_iff (p := inB b 4)).symm)
  · rw [if_neg (by decide), if_neg (by decide), if_neg (by decide), if_pos (by decide)]
    congr 3
    exact congrArg _ (bI_c (decide_eq_true_iff (p := inB b 3)).symm)
  · rw [if_neg (by decide), if_neg (by decide), if_neg (by decide), if_neg (by decide), if_pos (by decide)]
    congr 3
    exact congrArg _ (bI_c (decide_eq_true_iff (p := inB b P)).symm)
/-- a word of the procedure P, for places by Nat -/
theorem s_L_wordN (P k n : Nat) (g : mG) (hP : P < 12) (hk : k < 2 ^ 31) (hn : g 25 0 P = nI n) (hn2 : n ≤ 60) : f_L_word [.inr (2, 0), .inl (nI P), .inl (nI k)] g = some (if k < n then g 24 0 (60 * P + k) else Int32.ofInt (-1), g) := by
  have hB : inB (nI P) 12 := by rw [nI_inB (by omega)]; exact hP
  have hc : (nI P).toNatClampNeg = P := nI_clamp (by omega)
  have hl : inB (nI P) 12 → (g 25 0 (nI P).toNatClampNeg).toInt ≤ 60 := fun _ => by rw [hc, hn, nI_toInt (by omega)]; omega
  rw [s_L_word _ _ g hl, hc, hn, nI_clamp hk, nI_toInt hk, nI_toInt (by omega : n < 2 ^ 31)]
  by_cases h : k < n
  · rw [if_pos h, if_pos ⟨hB, by omega, by omega⟩]
  · rw [if_neg h, if_neg (fun z => by have := z.2.2; omega)]
theorem s_L_insN (P k n : Nat) (g : mG) (hP : P < 12) (hk : k < n) (hn : g 25 0 P = nI n) (hn2 : n ≤ 60) : f_L_instructionAt [.inr (2, 0), .inl (nI P), .inl (nI k)] g = some (iOf (g 24 0 (60 * P + k)), g) := by
  refine e_L_instructionAt (n := 6) rfl ?_
  rw [x_L_instructionAt, s_L_wordN P k n g hP (by omega) hn hn2, if_pos hk]
  simp only [Option.bind_some, s_I_of]
  rfl
theorem s_L_lengthN (P n : Nat) (g : mG) (hP : P < 12) (hn : g 25 0 P = nI n) : f_L_length [.inr (2, 0), .inl (nI P)] g = some (nI n, g) := by
  rw [s_L_length, if_pos (show inB (nI P) 12 by rw [nI_inB (by omega)]; exact hP), nI_clamp (by omega), hn]
theorem wdL : ∀ op, op < 27 → ([2, 1, 1, 1, 1, 1, 1, 1, 1, 1, 1, 1, 2, 2, 2, 2, 2, 3, 2, 2, 3, 3, 2, 2, 2, 1, 1, 1] : List Int32).getD op 0 = nI (1 + opL.getD op 0) ∧ ([1, 0, 0, 0, 0, 0, 0, 0, 0, 0, 0, 0, 2, 2, 3, 3, 4, 4, 4, 4, 4, 4, 5, 5, 6, 0, 0, 0] : List Int32).getD op 0 = nI (k1L.getD op 0) ∧ ([0, 0, 0, 0, 0, 0, 0, 0, 0, 0, 0, 0, 0, 0, 0, 0, 0, 5, 0, 0, 5, 5, 0, 0, 0, 0, 0, 0] : List Int32).getD op 0 = nI (k2L.getD op 0) ∧ k1L.getD op 0 < 7 ∧ k2L.getD op 0 < 7 ∧ opL.getD op 0 ≤ 2 ∧ (opL.getD op 0 = 0 → k1L.getD op 0 = 0) ∧ (opL.getD op 0 ≤ 1 → k2L.getD op 0 = 0) := by decide +kernel
theorem kB_0 (x : Int32) (P : Nat) : kB 0 x P = true := rfl
/-- which rule the words at a place break (0: none), both sides' answer -/
def rlW (w : Nat → Int32) (n P at_ op : Nat) : Nat := if n < at_ + (1 + opL.getD op 0) then 2 else if kB (k1L.getD op 0) (w (at_ + 1)) P = true ∧ kB (k2L.getD op 0) (w (at_ + 2)) P = true then 0 else 3

theorem s_V_ruleOfWords (P k n op : Nat) (g : mG) (hP : P < 12) (hk : k < n) (hn : g 25 0 P = nI n) (hn2 : n ≤ 60) (hv : g 2 0 3 = nI P) (hop : op < 27) : f_V_ruleOfWords [.inr (2, 0), .inl (nI P), .inl (nI k), .inr (100, op)] g = some (nI (rlW (fun j => g 24 0 (60 * P + j)) n P k op), g) := by
  obtain ⟨w1, w2, w3, w4, w5, w6, w7, w8⟩ := wdL op hop
  refine e_V_ruleOfWords (n := 41) rfl ?_
  rw [x_V_ruleOfWords]
  simp only [of0n, of1n, if_true, if_false]
  simp only [w1, w2, w3, nI_add, on1, on2, s_L_lengthN P n g hP hn, Option.bind_some]
  rw [if_neg (show ¬ op = 27 by omega)]
  simp only [s_L_wordN P (k + 1) n g hP (by omega) hn hn2, s_L_wordN P (k + 2) n g hP (by omega) hn hn2, Option.bind_some, s_V_isInBounds _ P _ g w4 hv (by omega), s_V_isInBounds _ P _ g w5 hv (by omega), bI_0]
  have eL : (nI n < nI (k + (1 + opL.getD op 0))) ↔ n < k + (1 + opL.getD op 0) := nI_ltI (by omega) (by omega)
  unfold rlW
  by_cases h1 : n < k + (1 + opL.getD op 0)
  · rw [if_pos (eL.mpr h1), if_pos h1]
  · rw [if_neg (fun z => h1 (eL.mp z)), if_neg h1]
    have e1 : kB (k1L.getD op 0) (if k + 1 < n then g 24 0 (60 * P + (k + 1)) else Int32.ofInt (-1)) P = kB (k1L.getD op 0) (g 24 0 (60 * P + (k + 1))) P := by
      by_cases h2 : k + 1 < n
      · rw [if_pos h2]
      · rw [w7 (by omega), kB_0, kB_0]
    have e2 : kB (k2L.getD op 0) (if k + 2 < n then g 24 0 (60 * P + (k + 2)) else Int32.ofInt (-1)) P = kB (k2L.getD op 0) (g 24 0 (60 * P + (k + 2))) P := by
      by_cases h2 : k + 2 < n
      · rw [if_pos h2]
      · rw [w8 (by omega), kB_0, kB_0]
    rw [e1, e2]
    by_cases h2 : kB (k1L.getD op 0) (g 24 0 (60 * P + (k + 1))) P = true
    · rw [if_neg (fun z => z h2)]
      by_cases h3 : kB (k2L.getD op 0) (g 24 0 (60 * P + (k + 2))) P = true
      · rw [if_neg (fun z => z h3), if_pos ⟨h2, h3⟩, on0]
      · rw [if_pos h3, if_neg (fun z => h3 z.2), on3]
    · rw [if_pos h2, if_neg (fun z => h2 z.1), on3]
