/-! numbers for the pure rows -/
theorem ti0 : (Int32.ofInt 0).toInt = 0 := by decide
theorem on0 : Int32.ofInt 0 = nI 0 := by decide
theorem ti1 : (Int32.ofInt 1).toInt = 1 := by decide
theorem on1 : Int32.ofInt 1 = nI 1 := by decide
theorem ti2 : (Int32.ofInt 2).toInt = 2 := by decide
theorem on2 : Int32.ofInt 2 = nI 2 := by decide
theorem ti3 : (Int32.ofInt 3).toInt = 3 := by decide
theorem on3 : Int32.ofInt 3 = nI 3 := by decide
theorem ti4 : (Int32.ofInt 4).toInt = 4 := by decide
theorem on4 : Int32.ofInt 4 = nI 4 := by decide
theorem ti5 : (Int32.ofInt 5).toInt = 5 := by decide
theorem on5 : Int32.ofInt 5 = nI 5 := by decide
theorem ti6 : (Int32.ofInt 6).toInt = 6 := by decide
theorem on6 : Int32.ofInt 6 = nI 6 := by decide
theorem ti7 : (Int32.ofInt 7).toInt = 7 := by decide
theorem on7 : Int32.ofInt 7 = nI 7 := by decide
theorem ti8 : (Int32.ofInt 8).toInt = 8 := by decide
theorem on8 : Int32.ofInt 8 = nI 8 := by decide
theorem ti9 : (Int32.ofInt 9).toInt = 9 := by decide
theorem on9 : Int32.ofInt 9 = nI 9 := by decide
theorem ti10 : (Int32.ofInt 10).toInt = 10 := by decide
theorem on10 : Int32.ofInt 10 = nI 10 := by decide
theorem ti11 : (Int32.ofInt 11).toInt = 11 := by decide
theorem on11 : Int32.ofInt 11 = nI 11 := by decide
theorem ti12 : (Int32.ofInt 12).toInt = 12 := by decide
theorem on12 : Int32.ofInt 12 = nI 12 := by decide
theorem ti13 : (Int32.ofInt 13).toInt = 13 := by decide
theorem on13 : Int32.ofInt 13 = nI 13 := by decide
theorem ti14 : (Int32.ofInt 14).toInt = 14 := by decide
theorem on14 : Int32.ofInt 14 = nI 14 := by decide
theorem ti15 : (Int32.ofInt 15).toInt = 15 := by decide
theorem on15 : Int32.ofInt 15 = nI 15 := by decide
theorem ti16 : (Int32.ofInt 16).toInt = 16 := by decide
theorem on16 : Int32.ofInt 16 = nI 16 := by decide
theorem ti17 : (Int32.ofInt 17).toInt = 17 := by decide
theorem on17 : Int32.ofInt 17 = nI 17 := by decide
theorem ti18 : (Int32.ofInt 18).toInt = 18 := by decide
theorem on18 : Int32.ofInt 18 = nI 18 := by decide
theorem ti19 : (Int32.ofInt 19).toInt = 19 := by decide
theorem on19 : Int32.ofInt 19 = nI 19 := by decide
theorem ti20 : (Int32.ofInt 20).toInt = 20 := by decide
theorem on20 : Int32.ofInt 20 = nI 20 := by decide
theorem ti21 : (Int32.ofInt 21).toInt = 21 := by decide
theorem on21 : Int32.ofInt 21 = nI 21 := by decide
theorem ti22 : (Int32.ofInt 22).toInt = 22 := by decide
theorem on22 : Int32.ofInt 22 = nI 22 := by decide
theorem ti23 : (Int32.ofInt 23).toInt = 23 := by decide
theorem on23 : Int32.ofInt 23 = nI 23 := by decide
theorem ti24 : (Int32.ofInt 24).toInt = 24 := by decide
theorem on24 : Int32.ofInt 24 = nI 24 := by decide
theorem ti25 : (Int32.ofInt 25).toInt = 25 := by decide
theorem on25 : Int32.ofInt 25 = nI 25 := by decide
theorem ti26 : (Int32.ofInt 26).toInt = 26 := by decide
theorem on26 : Int32.ofInt 26 = nI 26 := by decide
theorem ti27 : (Int32.ofInt 27).toInt = 27 := by decide
theorem on27 : Int32.ofInt 27 = nI 27 := by decide
theorem ti28 : (Int32.ofInt 28).toInt = 28 := by decide
theorem on28 : Int32.ofInt 28 = nI 28 := by decide
theorem ti48 : (Int32.ofInt 48).toInt = 48 := by decide
theorem on48 : Int32.ofInt 48 = nI 48 := by decide
theorem ti60 : (Int32.ofInt 60).toInt = 60 := by decide
theorem on60 : Int32.ofInt 60 = nI 60 := by decide
theorem ti61 : (Int32.ofInt 61).toInt = 61 := by decide
theorem on61 : Int32.ofInt 61 = nI 61 := by decide
theorem ti192 : (Int32.ofInt 192).toInt = 192 := by decide
theorem on192 : Int32.ofInt 192 = nI 192 := by decide
theorem ti720 : (Int32.ofInt 720).toInt = 720 := by decide
theorem on720 : Int32.ofInt 720 = nI 720 := by decide
theorem ti2000 : (Int32.ofInt 2000).toInt = 2000 := by decide
theorem on2000 : Int32.ofInt 2000 = nI 2000 := by decide
theorem tim1 : (Int32.ofInt (-1)).toInt = -1 := by decide
theorem tim2 : (Int32.ofInt (-2)).toInt = -2 := by decide
theorem tiz : (0 : Int32).toInt = 0 := by decide
theorem tio : (1 : Int32).toInt = 1 := by decide
def bI (c : Prop) [Decidable c] : Int32 := if c then 1 else 0
theorem bI_0 {c : Prop} [Decidable c] : (bI c = 0) = ¬ c := by
  unfold bI
  by_cases h : c
  · simp [h]
  · simp [h]
theorem bI_t {c : Prop} [Decidable c] (h : c) : bI c = 1 := if_pos h
theorem bI_f {c : Prop} [Decidable c] (h : ¬ c) : bI c = 0 := if_neg h
theorem isB_bI {c : Prop} [Decidable c] : isB (bI c) = True := by
  unfold bI
  by_cases h : c
  · simp [h, isB]
  · simp [h, isB]
theorem isB_0 : isB (Int32.ofInt 0) = True := by simp [isB, show Int32.ofInt 0 = 0 from by decide]
theorem isB_1 : isB (Int32.ofInt 1) = True := by simp [isB, show Int32.ofInt 1 = 1 from by decide]
theorem of0 : Int32.ofInt 0 = 0 := by decide
theorem of1 : Int32.ofInt 1 = 1 := by decide
theorem of1n : (Int32.ofInt 1 = 0) = False := by simp [show ¬ (Int32.ofInt 1 = 0) from by decide]
theorem of0n : (Int32.ofInt 0 = 0) = True := by simp [show Int32.ofInt 0 = 0 from by decide]
theorem i_lt {a b : Int32} : (a < b) = (a.toInt < b.toInt) := propext Int32.lt_iff_toInt_lt
theorem i_eq {a b : Int32} : (a = b) = (a.toInt = b.toInt) := propext Int32.toInt_inj.symm
theorem cl_toInt (x : Int32) : x.toNatClampNeg = x.toInt.toNat := rfl
theorem nI_inB {k n : Nat} (hk : k < 2 ^ 31) : inB (nI k) n = (k < n) := by
  unfold inB
  rw [nI_toInt hk]
  apply propext
  omega
theorem inB_nI {x : Int32} {n : Nat} (h : inB x n) : ∃ k, k < n ∧ x = nI k := by
  refine ⟨x.toNatClampNeg, inB_lt h, ?_⟩
  have h1 := h.1
  rw [← Int32.toInt_inj, nI_toInt (by rw [cl_toInt]; have := x.toInt_lt; omega), cl_toInt]
  omega
theorem ti_lo (x : Int32) : -2147483648 ≤ x.toInt := by have := Int32.le_toInt x; simpa using this
theorem ti_hi (x : Int32) : x.toInt < 2147483648 := by have := Int32.toInt_lt x; simpa using this
theorem ti_add {a b : Int32} (h1 : -2147483648 ≤ a.toInt + b.toInt) (h2 : a.toInt + b.toInt < 2147483648) : (a + b).toInt = a.toInt + b.toInt := by
  rw [Int32.toInt_add]
  exact Int.bmod_eq_of_le (by omega) (by omega)
theorem ti_sub {a b : Int32} (h1 : -2147483648 ≤ a.toInt - b.toInt) (h2 : a.toInt - b.toInt < 2147483648) : (a - b).toInt = a.toInt - b.toInt := by
  rw [Int32.toInt_sub]
  exact Int.bmod_eq_of_le (by omega) (by omega)
theorem ti_mul {a b : Int32} (h1 : -2147483648 ≤ a.toInt * b.toInt) (h2 : a.toInt * b.toInt < 2147483648) : (a * b).toInt = a.toInt * b.toInt := by
  rw [Int32.toInt_mul]
  exact Int.bmod_eq_of_le (by omega) (by omega)
theorem st3_same {g : mG} {a j k : Nat} {x : Int32} : st3 g a j k x a j k = x := if_pos ⟨rfl, rfl, rfl⟩
theorem st3_k {g : mG} {a j k j' k' : Nat} {x : Int32} (h : k' ≠ k) : st3 g a j k x a j' k' = g a j' k' := if_neg fun (q : a = a ∧ k' = k ∧ j' = j) => h q.2.1
theorem st3_j {g : mG} {a j k j' k' : Nat} {x : Int32} (h : j' ≠ j) : st3 g a j k x a j' k' = g a j' k' := if_neg fun (q : a = a ∧ k' = k ∧ j' = j) => h q.2.2
theorem st3_a {g : mG} {a j k a' : Nat} {x : Int32} (h : a' ≠ a) : st3 g a j k x a' = g a' := by
  funext j' k'
  exact if_neg fun (q : a' = a ∧ k' = k ∧ j' = j) => h q.1
theorem stR_a {g : mG} {a j a' : Nat} {f : Nat → Int32} (h : a' ≠ a) : stR g a j f a' = g a' := by
  funext j'
  exact if_neg fun (q : a' = a ∧ j' = j) => h q.1
theorem ix3 {a b : Int32} (ha : inB a 4) (hb : inB b 3) : inB (a * Int32.ofInt 3 + b) 12 ∧ (a * Int32.ofInt 3 + b).toNatClampNeg = 3 * a.toNatClampNeg + b.toNatClampNeg := by
  obtain ⟨a1, a2⟩ := ha
  obtain ⟨b1, b2⟩ := hb
  have e1 : (a * Int32.ofInt 3).toInt = a.toInt * 3 := by rw [ti_mul (by rw [ti3]; omega) (by rw [ti3]; omega), ti3]
  have e2 : (a * Int32.ofInt 3 + b).toInt = a.toInt * 3 + b.toInt := by rw [ti_add (by rw [e1]; omega) (by rw [e1]; omega), e1]
  refine ⟨?_, ?_⟩
  · show 0 ≤ (a * Int32.ofInt 3 + b).toInt ∧ (a * Int32.ofInt 3 + b).toInt < 12
    rw [e2]; omega
  · rw [cl_toInt, e2, cl_toInt, cl_toInt]; omega
theorem i32_mulc (a b : Int32) : a * b = b * a := by
  rw [← Int32.toInt_inj, Int32.toInt_mul, Int32.toInt_mul, Int.mul_comm]
theorem ix3' {a b : Int32} (ha : inB a 4) (hb : inB b 3) : inB (Int32.ofInt 3 * a + b) 12 ∧ (Int32.ofInt 3 * a + b).toNatClampNeg = 3 * a.toNatClampNeg + b.toNatClampNeg := by
  rw [i32_mulc]; exact ix3 ha hb
theorem ix48 {a b c : Int32} (ha : inB a 4) (hb : inB b 16) (hc : inB c 3) : inB ((a * Int32.ofInt 16 + b) * Int32.ofInt 3 + c) 192 ∧ ((a * Int32.ofInt 16 + b) * Int32.ofInt 3 + c).toNatClampNeg = 48 * a.toNatClampNeg + 3 * b.toNatClampNeg + c.toNatClampNeg := by
  obtain ⟨a1, a2⟩ := ha
  obtain ⟨b1, b2⟩ := hb
  obtain ⟨c1, c2⟩ := hc
  have e1 : (a * Int32.ofInt 16).toInt = a.toInt * 16 := by rw [ti_mul (by rw [ti16]; omega) (by rw [ti16]; omega), ti16]
  have e2 : (a * Int32.ofInt 16 + b).toInt = a.toInt * 16 + b.toInt := by rw [ti_add (by rw [e1]; omega) (by rw [e1]; omega), e1]
  have e3 : ((a * Int32.ofInt 16 + b) * Int32.ofInt 3).toInt = (a.toInt * 16 + b.toInt) * 3 := by rw [ti_mul (by rw [ti3, e2]; omega) (by rw [ti3, e2]; omega), ti3, e2]
  have e4 : ((a * Int32.ofInt 16 + b) * Int32.ofInt 3 + c).toInt = (a.toInt * 16 + b.toInt) * 3 + c.toInt := by rw [ti_add (by rw [e3]; omega) (by rw [e3]; omega), e3]
  refine ⟨?_, ?_⟩
  · show 0 ≤ ((a * Int32.ofInt 16 + b) * Int32.ofInt 3 + c).toInt ∧ ((a * Int32.ofInt 16 + b) * Int32.ofInt 3 + c).toInt < 192
    rw [e4]; omega
  · rw [cl_toInt, e4, cl_toInt, cl_toInt, cl_toInt]; omega
theorem ix48' {a b c : Int32} (ha : inB a 4) (hb : inB b 16) (hc : inB c 3) : inB (Int32.ofInt 48 * a + Int32.ofInt 3 * b + c) 192 ∧ (Int32.ofInt 48 * a + Int32.ofInt 3 * b + c).toNatClampNeg = 48 * a.toNatClampNeg + 3 * b.toNatClampNeg + c.toNatClampNeg := by
  obtain ⟨a1, a2⟩ := ha
  obtain ⟨b1, b2⟩ := hb
  obtain ⟨c1, c2⟩ := hc
  have e1 : (Int32.ofInt 48 * a).toInt = 48 * a.toInt := by rw [ti_mul (by rw [ti48]; omega) (by rw [ti48]; omega), ti48]
  have e2 : (Int32.ofInt 3 * b).toInt = 3 * b.toInt := by rw [ti_mul (by rw [ti3]; omega) (by rw [ti3]; omega), ti3]
  have e3 : (Int32.ofInt 48 * a + Int32.ofInt 3 * b).toInt = 48 * a.toInt + 3 * b.toInt := by rw [ti_add (by rw [e1, e2]; omega) (by rw [e1, e2]; omega), e1, e2]
  have e4 : (Int32.ofInt 48 * a + Int32.ofInt 3 * b + c).toInt = 48 * a.toInt + 3 * b.toInt + c.toInt := by rw [ti_add (by rw [e3]; omega) (by rw [e3]; omega), e3]
  refine ⟨?_, ?_⟩
  · show 0 ≤ (Int32.ofInt 48 * a + Int32.ofInt 3 * b + c).toInt ∧ (Int32.ofInt 48 * a + Int32.ofInt 3 * b + c).toInt < 192
    rw [e4]; omega
  · rw [cl_toInt, e4, cl_toInt, cl_toInt, cl_toInt]; omega
theorem ix60 {a b : Int32} (ha : inB a 12) (hb : inB b 60) : inB (a * Int32.ofInt 60 + b) 720 ∧ (a * Int32.ofInt 60 + b).toNatClampNeg = 60 * a.toNatClampNeg + b.toNatClampNeg := by
  obtain ⟨a1, a2⟩ := ha
  obtain ⟨b1, b2⟩ := hb
  have e1 : (a * Int32.ofInt 60).toInt = a.toInt * 60 := by rw [ti_mul (by rw [ti60]; omega) (by rw [ti60]; omega), ti60]
  have e2 : (a * Int32.ofInt 60 + b).toInt = a.toInt * 60 + b.toInt := by rw [ti_add (by rw [e1]; omega) (by rw [e1]; omega), e1]
  refine ⟨?_, ?_⟩
  · show 0 ≤ (a * Int32.ofInt 60 + b).toInt ∧ (a * Int32.ofInt 60 + b).toInt < 720
    rw [e2]; omega
  · rw [cl_toInt, e2, cl_toInt, cl_toInt]; omega
theorem ix60' {a b : Int32} (ha : inB a 12) (hb : inB b 60) : inB (Int32.ofInt 60 * a + b) 720 ∧ (Int32.ofInt 60 * a + b).toNatClampNeg = 60 * a.toNatClampNeg + b.toNatClampNeg := by
  rw [i32_mulc]; exact ix60 ha hb
