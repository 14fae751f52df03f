/-! the reference's tables of instructions -/
def vr (g : mG) (x : Int32) : Option mRes := some (some (.inl x), g)
theorem vr_ite {g : mG} {c : Prop} [Decidable c] {x y : Int32} : vr g (if c then x else y) = if c then vr g x else vr g y := by
  split <;> rfl
def v_R_operands (a : Int32) : Int32 :=
  (if a = (Int32.ofInt 17) then
   (Int32.ofInt 2)
  else
   (if a = (Int32.ofInt 20) then
    (Int32.ofInt 2)
   else
    (if a = (Int32.ofInt 21) then
     (Int32.ofInt 2)
    else
     (if a = 0 then
      (Int32.ofInt 1)
     else
      (if (Int32.ofInt 11) < a then
       (if a < (Int32.ofInt 25) then
        (Int32.ofInt 1)
       else
        (Int32.ofInt 0))
      else
       (Int32.ofInt 0))))))
set_option maxHeartbeats 4000000 in
theorem s_R_operands (a : Int32) (g : mG) : f_R_operands [.inl a] g = some (v_R_operands a, g) := by
  refine e_R_operands (n := 20) rfl ?_
  rw [x_R_operands]
  show _ = vr g (v_R_operands a)
  unfold v_R_operands
  simp only [vr_ite, isB_0, isB_1, if_true]
  rfl
def v_R_takes (a : Int32) : Int32 :=
  (if a = (Int32.ofInt 18) then
   (Int32.ofInt 3)
  else
   (if a = (Int32.ofInt 3) then
    (Int32.ofInt 2)
   else
    (if (Int32.ofInt 3) < a then
     (if a < (Int32.ofInt 11) then
      (Int32.ofInt 2)
     else
      (if a = (Int32.ofInt 20) then
       (Int32.ofInt 2)
      else
       (if a = (Int32.ofInt 21) then
        (Int32.ofInt 2)
       else
        (if a = 0 then
         (Int32.ofInt 0)
        else
         (if a = (Int32.ofInt 12) then
          (Int32.ofInt 0)
         else
          (if a = (Int32.ofInt 14) then
           (Int32.ofInt 0)
          else
           (if a = (Int32.ofInt 16) then
            (Int32.ofInt 0)
           else
            (if a = (Int32.ofInt 22) then
             (Int32.ofInt 0)
            else
             (if a = (Int32.ofInt 23) then
              (Int32.ofInt 0)
             else
              (Int32.ofInt 1))))))))))
    else
     (if a = (Int32.ofInt 20) then
      (Int32.ofInt 2)
     else
      (if a = (Int32.ofInt 21) then
       (Int32.ofInt 2)
      else
       (if a = 0 then
        (Int32.ofInt 0)
       else
        (if a = (Int32.ofInt 12) then
         (Int32.ofInt 0)
        else
         (if a = (Int32.ofInt 14) then
          (Int32.ofInt 0)
         else
          (if a = (Int32.ofInt 16) then
           (Int32.ofInt 0)
          else
           (if a = (Int32.ofInt 22) then
            (Int32.ofInt 0)
           else
            (if a = (Int32.ofInt 23) then
             (Int32.ofInt 0)
            else
             (Int32.ofInt 1))))))))))))
set_option maxHeartbeats 4000000 in
theorem s_R_takes (a : Int32) (g : mG) : f_R_takes [.inl a] g = some (v_R_takes a, g) := by
  refine e_R_takes (n := 38) rfl ?_
  rw [x_R_takes]
  show _ = vr g (v_R_takes a)
  unfold v_R_takes
  simp only [vr_ite, isB_0, isB_1, if_true]
  rfl
def v_R_gives (a : Int32) : Int32 :=
  (if a = (Int32.ofInt 2) then
   (Int32.ofInt 2)
  else
   (if a = (Int32.ofInt 3) then
    (Int32.ofInt 2)
   else
    (if a = (Int32.ofInt 1) then
     (Int32.ofInt 0)
    else
     (if (Int32.ofInt 12) < a then
      (if a < (Int32.ofInt 16) then
       (Int32.ofInt 0)
      else
       (if (Int32.ofInt 24) < a then
        (Int32.ofInt 0)
       else
        (Int32.ofInt 1)))
     else
      (if (Int32.ofInt 24) < a then
       (Int32.ofInt 0)
      else
       (Int32.ofInt 1))))))
set_option maxHeartbeats 4000000 in
theorem s_R_gives (a : Int32) (g : mG) : f_R_gives [.inl a] g = some (v_R_gives a, g) := by
  refine e_R_gives (n := 21) rfl ?_
  rw [x_R_gives]
  show _ = vr g (v_R_gives a)
  unfold v_R_gives
  simp only [vr_ite, isB_0, isB_1, if_true]
  rfl
theorem v_op : ∀ op, op < 27 → v_R_operands (nI op) = nI (opL.getD op 0) ∧ v_R_takes (nI op) = nI (tkL.getD op 0) ∧ v_R_gives (nI op) = nI (gvL.getD op 0) := by decide +kernel
/-- the class's instruction at a place -/
def iOf (x : Int32) : Nat := if inB x 28 then x.toNatClampNeg else 27
theorem s_L_instructionAt (a b : Int32) (g : mG) (hl : inB a 12 → (g 25 0 a.toNatClampNeg).toInt ≤ 60) : f_L_instructionAt [.inr (2, 0), .inl a, .inl b] g = some (iOf (if inB a 12 ∧ 0 ≤ b.toInt ∧ b.toInt < (g 25 0 a.toNatClampNeg).toInt then g 24 0 (60 * a.toNatClampNeg + b.toNatClampNeg) else Int32.ofInt (-1)), g) := by
  refine e_L_instructionAt (n := 6) rfl ?_
  rw [x_L_instructionAt, s_L_word a b g hl]
  simp only [Option.bind_some, s_I_of]
  rfl
theorem iOf_op {op : Nat} (h : op < 28) : iOf (nI op) = op := by
  unfold iOf
  rw [if_pos (show inB (nI op) 28 by rw [nI_inB (by omega)]; exact h), nI_clamp (by omega)]
theorem iOf_no {x : Int32} (h : ¬ inB x 27) : iOf x = 27 := by
  unfold iOf
  split
  · next h2 =>
    obtain ⟨a1, a2⟩ := h2
    have h3 : ¬ (0 ≤ x.toInt ∧ x.toInt < 27) := h
    rw [cl_toInt]
    have a2' : x.toInt < 28 := a2
    omega
  · rfl
theorem s_V_fault (a b : Int32) (g : mG) : f_V_fault [.inl a, .inl b] g = some (Int32.ofInt 16 * a + b, g) := by
  refine e_V_fault (n := 6) rfl ?_
  rw [x_V_fault]
theorem s_I_mayJump (q : Nat) (g : mG) : f_I_mayJump [.inr (100, q)] g = some (bI (([1, 0, 0, 0, 0, 0, 0, 0, 0, 0, 0, 0, 2, 2, 3, 3, 4, 4, 4, 4, 4, 4, 5, 5, 6, 0, 0, 0] : List Int32).getD q 0 = Int32.ofInt 3), g) := by
  refine e_I_mayJump (n := 7) rfl ?_
  rw [x_I_mayJump]
  simp only [isB_0, isB_1, if_true]
  by_cases h : ([1, 0, 0, 0, 0, 0, 0, 0, 0, 0, 0, 0, 2, 2, 3, 3, 4, 4, 4, 4, 4, 4, 5, 5, 6, 0, 0, 0] : List Int32).getD q 0 = Int32.ofInt 3
  · rw [if_pos h, bI_t h, of1]
  · rw [if_neg h, bI_f h, of0]
theorem s_I_mayGoOnBehind (q : Nat) (g : mG) : f_I_mayGoOnBehind [.inr (100, q)] g = some (bI (q ≠ 14 ∧ q ≠ 25 ∧ q ≠ 26), g) := by
  refine e_I_mayGoOnBehind (n := 12) rfl ?_
  rw [x_I_mayGoOnBehind]
  simp only [isB_0, isB_1, if_true]
  by_cases h1 : q = 14
  · rw [if_pos h1, bI_f (fun z => z.1 h1), of0]
  · rw [if_neg h1]
    by_cases h2 : q = 25
    · rw [if_pos h2, bI_f (fun z => z.2.1 h2), of0]
    · rw [if_neg h2]
      by_cases h3 : q = 26
      · rw [if_pos h3, bI_f (fun z => z.2.2 h3), of0]
      · rw [if_neg h3, bI_t ⟨h1, h2, h3⟩, of1]
abbrev iIns (g : mG) (a : Int32) : Prop := inB a 60 ∧ g 31 0 a.toNatClampNeg ≠ Int32.ofInt (-2)
theorem s_V_isInstruction (a : Int32) (g : mG) : f_V_isInstruction [.inr (5, 0), .inl a] g = some (bI (iIns g a), g) := by
  refine e_V_isInstruction (n := 13) rfl ?_
  rw [x_V_isInstruction]
  simp only [isB_0, isB_1, if_true]
  simp only [s_B_isBelow, Option.bind_some, bI_0, ti60]
  by_cases h : inB a 60
  · have h1 : 0 ≤ a.toInt ∧ a.toInt < 60 := h
    rw [if_neg (fun z => z h1), if_pos h]
    by_cases h2 : g 31 0 a.toNatClampNeg = Int32.ofInt (-2)
    · rw [if_pos h2, bI_f (fun z => z.2 h2), of0]
    · rw [if_neg h2, bI_t ⟨h, h2⟩, of1]
  · have h1 : ¬ (0 ≤ a.toInt ∧ a.toInt < 60) := h
    rw [if_pos h1, bI_f (fun z => h z.1), of0]
/-- reaching a place with a height -/
theorem s_V_reach (a b : Int32) (g : mG) : f_V_reach [.inr (5, 0), .inl a, .inl b] g = some (if iIns g a then (if g 31 0 a.toNatClampNeg = Int32.ofInt (-1) then (Int32.ofInt 0, st3 g 31 0 a.toNatClampNeg b) else (if g 31 0 a.toNatClampNeg = b then (Int32.ofInt 0, g) else (Int32.ofInt 7, g))) else (Int32.ofInt 8, g)) := by
  by_cases h : iIns g a
  · rw [if_pos h]
    by_cases h2 : g 31 0 a.toNatClampNeg = Int32.ofInt (-1)
    · rw [if_pos h2]
      refine e_V_reach (n := 24) rfl ?_
      rw [x_V_reach]
      simp only [s_V_isInstruction, Option.bind_some, bI_0]
      rw [if_neg (fun z => z h), if_pos h.1, if_pos h2, if_pos h.1, if_pos h.1, if_pos st3_same]
    · rw [if_neg h2]
      by_cases h3 : g 31 0 a.toNatClampNeg = b
      · rw [if_pos h3]
        refine e_V_reach (n := 24) rfl ?_
        rw [x_V_reach]
        simp only [s_V_isInstruction, Option.bind_some, bI_0]
        rw [if_neg (fun z => z h), if_pos h.1, if_neg h2, if_pos h.1, if_pos h3]
      · rw [if_neg h3]
        refine e_V_reach (n := 24) rfl ?_
        rw [x_V_reach]
        simp only [s_V_isInstruction, Option.bind_some, bI_0]
        rw [if_neg (fun z => z h), if_pos h.1, if_neg h2, if_pos h.1, if_neg h3]
  · rw [if_neg h]
    refine e_V_reach (n := 24) rfl ?_
    rw [x_V_reach]
    simp only [s_V_isInstruction, Option.bind_some, bI_0]
    rw [if_pos h]
