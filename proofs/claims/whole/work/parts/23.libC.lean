/-! the class's small methods, in closed form -/
theorem s_B_isBelow (a b : Int32) (g : mG) : f_B_isBelow [.inl a, .inl b] g = some (bI (0 ≤ a.toInt ∧ a.toInt < b.toInt), g) := by
  refine e_B_isBelow (n := 8) rfl ?_
  rw [x_B_isBelow]
  simp only [isB_0, isB_1, if_true]
  simp only [of0, of1, i_lt, tiz]
  by_cases h1 : a.toInt < 0
  · rw [if_pos h1, bI_f (by omega)]
  · rw [if_neg h1]
    by_cases h2 : a.toInt < b.toInt
    · rw [if_pos h2, bI_t (by omega)]
    · rw [if_neg h2, bI_f (by omega)]
theorem s_L_length (a : Int32) (g : mG) : f_L_length [.inr (2, 0), .inl a] g = some (if inB a 12 then g 25 0 a.toNatClampNeg else 0, g) := by
  refine e_L_length (n := 10) rfl ?_
  rw [x_L_length]
  simp only [s_B_isBelow, Option.bind_some, bI_0, ti12, of0]
  by_cases h : inB a 12
  · have h1 : 0 ≤ a.toInt ∧ a.toInt < 12 := h
    rw [if_neg (fun z => z h1), if_pos h, if_pos h]
  · have h1 : ¬ (0 ≤ a.toInt ∧ a.toInt < 12) := h
    rw [if_pos h1, if_neg h]
theorem s_L_has (a : Int32) (g : mG) : f_L_has [.inr (2, 0), .inl a] g = some (bI (0 ≤ a.toInt ∧ a.toInt < (g 2 0 3).toInt), g) := by
  refine e_L_has (n := 5) rfl ?_
  rw [x_L_has]
  simp only [s_B_isBelow, Option.bind_some, isB_bI, if_true]
theorem s_I_of (a : Int32) (g : mG) : f_I_of [.inl a] g = some (if inB a 28 then a.toNatClampNeg else 27, g) := by
  refine e_I_of (n := 10) rfl ?_
  rw [x_I_of]
  simp only [s_B_isBelow, Option.bind_some, bI_0]
  have h28 : (nI (nmC 100)).toInt = 28 := by decide
  rw [h28]
  by_cases h : inB a 28
  · have h1 : 0 ≤ a.toInt ∧ a.toInt < 28 := h
    rw [if_neg (fun z => z h1), if_pos (show inB a (nmC 100) from h), if_pos h]
  · have h1 : ¬ (0 ≤ a.toInt ∧ a.toInt < 28) := h
    rw [if_pos h1, if_neg h]
/-- a word of a procedure, -1 behind its length -/
theorem s_L_word (a b : Int32) (g : mG) (hl : inB a 12 → (g 25 0 a.toNatClampNeg).toInt ≤ 60) : f_L_word [.inr (2, 0), .inl a, .inl b] g = some (if inB a 12 ∧ 0 ≤ b.toInt ∧ b.toInt < (g 25 0 a.toNatClampNeg).toInt then g 24 0 (60 * a.toNatClampNeg + b.toNatClampNeg) else Int32.ofInt (-1), g) := by
  refine e_L_word (n := 26) rfl ?_
  rw [x_L_word]
  simp only [s_B_isBelow, Option.bind_some, bI_0, ti12, of0n, of1n, if_true, if_false]
  by_cases h : inB a 12
  · have h1 : 0 ≤ a.toInt ∧ a.toInt < 12 := h
    rw [if_neg (fun z => z h1), if_pos h]
    have h60 := hl h
    by_cases h2 : 0 ≤ b.toInt ∧ b.toInt < (g 25 0 a.toNatClampNeg).toInt
    · have e1 : (a * Int32.ofInt 60).toInt = a.toInt * 60 := by rw [ti_mul (by rw [ti60]; omega) (by rw [ti60]; omega), ti60]
      have e2 : (a * Int32.ofInt 60 + b).toInt = a.toInt * 60 + b.toInt := by rw [ti_add (by rw [e1]; omega) (by rw [e1]; omega), e1]
      have h3 : inB (a * Int32.ofInt 60 + b) 720 := by
        show 0 ≤ (a * Int32.ofInt 60 + b).toInt ∧ (a * Int32.ofInt 60 + b).toInt < 720
        rw [e2]; omega
      rw [if_neg (fun z => z h2), if_pos h3, if_pos ⟨h, h2⟩, cl_toInt, e2, cl_toInt, cl_toInt, show (a.toInt * 60 + b.toInt).toNat = 60 * a.toInt.toNat + b.toInt.toNat by omega]
    · rw [if_pos h2, if_neg (fun z => h2 z.2)]
  · have h1 : ¬ (0 ≤ a.toInt ∧ a.toInt < 12) := h
    rw [if_pos h1, if_neg (fun z => h z.1)]
/-- tables, triggers, the open procedure: closed forms that both sides share -/
def pSize (sz : Nat → Int32) (t : Int32) : Int32 := if inB t 4 then sz t.toNatClampNeg else Int32.ofInt (-1)
abbrev pHas (sz : Nat → Int32) (t r : Int32) : Prop := inB t 4 ∧ 0 ≤ r.toInt ∧ r.toInt < (sz t.toNatClampNeg).toInt
def pRead (ce sz : Nat → Int32) (t r c : Int32) : Int32 := if pHas sz t r ∧ inB c 3 then ce (48 * t.toNatClampNeg + 3 * r.toNatClampNeg + c.toNatClampNeg) else 0
abbrev szOk (sz : Nat → Int32) : Prop := ∀ t, t < 4 → 0 ≤ (sz t).toInt ∧ (sz t).toInt ≤ 16
theorem pHas_16 {sz : Nat → Int32} {t r : Int32} (h : szOk sz) (hh : pHas sz t r) : inB r 16 := by
  have h1 := h t.toNatClampNeg (inB_lt hh.1)
  refine ⟨hh.2.1, ?_⟩
  have h2 := hh.2.2
  show r.toInt < 16
  omega
theorem s_T_size (a : Int32) (g : mG) : f_T_size [.inr (3, 0), .inl a] g = some (pSize (g 27 0) a, g) := by
  refine e_T_size (n := 10) rfl ?_
  rw [x_T_size]
  simp only [s_B_isBelow, Option.bind_some, bI_0, ti4]
  unfold pSize
  by_cases h : inB a 4
  · have h1 : 0 ≤ a.toInt ∧ a.toInt < 4 := h
    rw [if_neg (fun z => z h1), if_pos h, if_pos h]
  · have h1 : ¬ (0 ≤ a.toInt ∧ a.toInt < 4) := h
    rw [if_pos h1, if_neg h]
theorem s_T_has (a b : Int32) (g : mG) : f_T_has [.inr (3, 0), .inl a, .inl b] g = some (bI (pHas (g 27 0) a b), g) := by
  refine e_T_has (n := 14) rfl ?_
  rw [x_T_has]
  simp only [isB_0, isB_1, if_true]
  simp only [s_B_isBelow, Option.bind_some, bI_0, ti4, of0, of1]
  by_cases h : inB a 4
  · have h1 : 0 ≤ a.toInt ∧ a.toInt < 4 := h
    rw [if_neg (fun z => z h1), if_pos h]
    by_cases h2 : 0 ≤ b.toInt ∧ b.toInt < (g 27 0 a.toNatClampNeg).toInt
    · rw [if_neg (fun z => z h2), bI_t ⟨h, h2⟩]
    · rw [if_pos h2, bI_f (fun z => h2 z.2)]
  · have h1 : ¬ (0 ≤ a.toInt ∧ a.toInt < 4) := h
    rw [if_pos h1, bI_f (fun z => h z.1)]
theorem s_T_index (a b c : Int32) (g : mG) : f_T_index [.inl a, .inl b, .inl c] g = some ((a * Int32.ofInt 16 + b) * Int32.ofInt 3 + c, g) := by
  refine e_T_index (n := 10) rfl ?_
  rw [x_T_index]
theorem s_T_read (a b c : Int32) (g : mG) (hs : szOk (g 27 0)) : f_T_read [.inr (3, 0), .inl a, .inl b, .inl c] g = some (pRead (g 26 0) (g 27 0) a b c, g) := by
  refine e_T_read (n := 18) rfl ?_
  rw [x_T_read]
  simp only [s_B_isBelow, s_T_has, s_T_index, Option.bind_some, bI_0, ti3, of0]
  unfold pRead
  by_cases h : pHas (g 27 0) a b
  · rw [if_neg (fun z => z h)]
    by_cases h2 : inB c 3
    · have h3 : 0 ≤ c.toInt ∧ c.toInt < 3 := h2
      obtain ⟨i1, i2⟩ := ix48 h.1 (pHas_16 hs h) h2
      rw [if_neg (fun z => z h3), if_pos i1, if_pos ⟨h, h2⟩, i2]
    · have h3 : ¬ (0 ≤ c.toInt ∧ c.toInt < 3) := h2
      rw [if_pos h3, if_neg (fun z => h2 z.2)]
  · rw [if_pos h, if_neg (fun z => h z.1)]
theorem s_G_put (a b c : Int32) (g : mG) : f_G_put [.inr (4, 0), .inl a, .inl b, .inl c] g = some (if inB a 4 ∧ inB b 3 then st3 g 30 0 (3 * a.toNatClampNeg + b.toNatClampNeg) c else g) := by
  refine e_G_put (n := 18) rfl ?_
  rw [x_G_put]
  simp only [s_B_isBelow, Option.bind_some, bI_0, ti3, ti4]
  by_cases h : inB a 4
  · have h1 : 0 ≤ a.toInt ∧ a.toInt < 4 := h
    rw [if_neg (fun z => z h1)]
    by_cases h2 : inB b 3
    · have h3 : 0 ≤ b.toInt ∧ b.toInt < 3 := h2
      obtain ⟨i1, i2⟩ := ix3 h h2
      rw [if_neg (fun z => z h3), if_pos i1, if_pos ⟨h, h2⟩, i2]
    · have h3 : ¬ (0 ≤ b.toInt ∧ b.toInt < 3) := h2
      rw [if_pos h3, if_neg (fun z => h2 z.2)]
  · have h1 : ¬ (0 ≤ a.toInt ∧ a.toInt < 4) := h
    rw [if_pos h1, if_neg (fun z => h z.1)]
def pTrig (tr : Nat → Int32) (a b : Int32) : Int32 := if inB a 4 ∧ inB b 3 then tr (3 * a.toNatClampNeg + b.toNatClampNeg) else Int32.ofInt (-1)
theorem s_G_find (a b : Int32) (g : mG) : f_G_find [.inr (4, 0), .inl a, .inl b] g = some (pTrig (g 30 0) a b, g) := by
  refine e_G_find (n := 23) rfl ?_
  rw [x_G_find]
  simp only [s_B_isBelow, Option.bind_some, bI_0, ti3, ti4, of0n, of1n, if_true, if_false]
  unfold pTrig
  by_cases h : inB a 4
  · have h1 : 0 ≤ a.toInt ∧ a.toInt < 4 := h
    rw [if_neg (fun z => z h1)]
    by_cases h2 : inB b 3
    · have h3 : 0 ≤ b.toInt ∧ b.toInt < 3 := h2
      obtain ⟨i1, i2⟩ := ix3 h h2
      rw [if_neg (fun z => z h3), if_pos i1, if_pos ⟨h, h2⟩, i2]
    · have h3 : ¬ (0 ≤ b.toInt ∧ b.toInt < 3) := h2
      rw [if_pos h3, if_neg (fun z => h2 z.2)]
  · have h1 : ¬ (0 ≤ a.toInt ∧ a.toInt < 4) := h
    rw [if_pos h1, if_neg (fun z => h z.1)]
