/-! the reference: a word, and whether an operand is outside -/
theorem s_R_wordN (P k : Nat) (r : mG) (hP : r 0 0 7 = nI P) (hk : 60 * P + k < 720) : f_R_word [.inr (0, 0), .inl (nI k)] r = some (r 6 0 (60 * P + k), r) := by
  refine e_R_word (n := 10) rfl ?_
  rw [x_R_word, hP, on60, pk_mul, nI_add, if_pos (show inB (nI (60 * P + k)) 720 by rw [nI_inB (by omega)]; exact hk), nI_clamp (by omega)]
abbrev ioL (op k : Nat) (x d : Int32) : mL := [some (.inr (0, 0)), some (.inl (nI op)), some (.inl (nI k)), some (.inl x), some (.inl d)]
abbrev ioF (op : Nat) (y d : Int32) : Int32 := if opL.getD op 0 = 2 then (if d = 0 then bI (¬ inB y 3) else 1) else d
theorem isB_ite {c : Prop} [Decidable c] {x y : Int32} (hx : isB x) (hy : isB y) : isB (if c then x else y) := by
  split
  · exact hx
  · exact hy
theorem isB_b {c : Prop} [Decidable c] : isB (bI c) := by rw [isB_bI]; trivial
theorem nI_eqN {a b : Nat} (ha : a < 2 ^ 31) (hb : b < 2 ^ 31) : (nI a = nI b) = (a = b) := propext (nI_eq ha hb)
theorem nI_ltN {a b : Nat} (ha : a < 2 ^ 31) (hb : b < 2 ^ 31) : (nI a < nI b) = (a < b) := propext (nI_ltI ha hb)
section IO
variable {op k n P : Nat} {r : mG} (hop : op < 27) (hP : r 0 0 7 = nI P) (hP2 : P < 12) (hk : k + opL.getD op 0 < n) (hn : n ≤ 60)
theorem io121 {x d : Int32} (hop : op < 27) (hP : r 0 0 7 = nI P) (hP2 : P < 12) (hk : k + opL.getD op 0 < n) (hn : n ≤ 60) (hd : isB d) : ∃ m, rn_R_isOutside m 121 (ioL op k x d) [] r = some (some (.inl (ioF op (r 6 0 (60 * P + (k + 2))) d)), r) := by
  refine ⟨0 + 25, pxs_px (st := [40, 68, 96, 121]) 25 121 _ _ _ ?_⟩
  refine (y_R_isOutside_121 (rn_R_isOutside 0) (nI op) (nI k) x d r).trans ?_
  have hv := (v_op op hop).1
  simp only [s_R_operands, hv, Option.bind_some, isB_0, isB_1, if_true]
  have hle := (opL_le op hop).2
  simp only [on2, nI_eqN (show opL.getD op 0 < 2 ^ 31 by omega) (show 2 < 2 ^ 31 by omega)]
  by_cases h2 : opL.getD op 0 = 2
  · have e2 : nI k + nI 2 = nI (k + 2) := nI_add k 2
    rw [if_pos h2]
    simp only [e2, s_R_wordN P (k + 2) r hP (by omega), Option.bind_some]
    unfold ioF
    rw [if_pos h2]
    by_cases h3 : d = 0
    · rw [if_pos h3, if_pos h3]
      simp only [← on2, i_lt, tiz, ti2, on0]
      by_cases h4 : inB (r 6 0 (60 * P + (k + 2))) 3
      · have h5 : 0 ≤ (r 6 0 (60 * P + (k + 2))).toInt ∧ (r 6 0 (60 * P + (k + 2))).toInt < 3 := h4
        rw [if_neg (by omega), if_neg (by omega), bI_f (fun z => z h4)]
        rfl
      · have h5 : ¬ (0 ≤ (r 6 0 (60 * P + (k + 2))).toInt ∧ (r 6 0 (60 * P + (k + 2))).toInt < 3) := h4
        rw [bI_t h4, of1]
        by_cases h6 : (r 6 0 (60 * P + (k + 2))).toInt < 0
        · rw [if_pos h6]
        · rw [if_neg h6, if_pos (by omega)]
    · rw [if_neg h3, if_neg h3, of1]
  · rw [if_neg h2, if_pos hd]
    unfold ioF
    rw [if_neg h2]
theorem io96 {x d : Int32} (hop : op < 27) (hP : r 0 0 7 = nI P) (hP2 : P < 12) (hk : k + opL.getD op 0 < n) (hn : n ≤ 60) (hd : isB d) : ∃ m, rn_R_isOutside m 96 (ioL op k x d) [] r = some (some (.inl (ioF op (r 6 0 (60 * P + (k + 2))) (if op = 24 then bI (¬ inB x P) else d))), r) := by
  obtain ⟨m, hm⟩ := io121 (x := x) (d := if op = 24 then bI (¬ inB x P) else d) hop hP hP2 hk hn (isB_ite isB_b hd)
  refine ⟨m + 13, pxs_px (st := [40, 68, 96, 121]) 13 96 _ _ _ ?_⟩
  refine (y_R_isOutside_96 (rn_R_isOutside m) (nI op) (nI k) x d r).trans ?_
  rw [← hm, hP]
  simp only [on24, nI_eqN (show op < 2 ^ 31 by omega) (show 24 < 2 ^ 31 by omega), i_lt, tiz, nI_toInt (show P < 2 ^ 31 by omega)]
  by_cases h : op = 24
  · rw [if_pos h, if_pos h]
    by_cases h4 : inB x P
    · have h5 : 0 ≤ x.toInt ∧ x.toInt < P := h4
      rw [if_neg (by omega), if_pos h5.2, bI_f (fun z => z h4), of0]
    · have h5 : ¬ (0 ≤ x.toInt ∧ x.toInt < P) := h4
      rw [bI_t h4, of1]
      by_cases h6 : x.toInt < 0
      · rw [if_pos h6]
      · rw [if_neg h6, if_neg (by omega)]
  · rw [if_neg h, if_neg h]
theorem io68 {x d : Int32} (hop : op < 27) (hP : r 0 0 7 = nI P) (hP2 : P < 12) (hk : k + opL.getD op 0 < n) (hn : n ≤ 60) (hd : isB d) : ∃ m, rn_R_isOutside m 68 (ioL op k x d) [] r = some (some (.inl (ioF op (r 6 0 (60 * P + (k + 2))) (if op = 24 then bI (¬ inB x P) else if op = 22 ∨ op = 23 then bI (¬ inB x 3) else d))), r) := by
  obtain ⟨m, hm⟩ := io96 (x := x) (d := if op = 22 ∨ op = 23 then bI (¬ inB x 3) else d) hop hP hP2 hk hn (isB_ite isB_b hd)
  refine ⟨m + 15, pxs_px (st := [40, 68, 96, 121]) 15 68 _ _ _ ?_⟩
  refine (y_R_isOutside_68 (rn_R_isOutside m) (nI op) (nI k) x d r).trans ?_
  rw [← hm]
  simp only [on22, on23, nI_eqN (show op < 2 ^ 31 by omega) (show 22 < 2 ^ 31 by omega), nI_eqN (show op < 2 ^ 31 by omega) (show 23 < 2 ^ 31 by omega), i_lt, tiz, ti2]
  have key : (if x.toInt < 0 then rn_R_isOutside m 96 (ioL op k x (Int32.ofInt 1)) [] r else if 2 < x.toInt then rn_R_isOutside m 96 (ioL op k x (Int32.ofInt 1)) [] r else rn_R_isOutside m 96 (ioL op k x (Int32.ofInt 0)) [] r) = rn_R_isOutside m 96 (ioL op k x (bI (¬ inB x 3))) [] r := by
    by_cases h4 : inB x 3
    · have h5 : 0 ≤ x.toInt ∧ x.toInt < 3 := h4
      rw [if_neg (by omega), if_neg (by omega), bI_f (fun z => z h4), of0]
    · have h5 : ¬ (0 ≤ x.toInt ∧ x.toInt < 3) := h4
      rw [bI_t h4, of1]
      by_cases h6 : x.toInt < 0
      · rw [if_pos h6]
      · rw [if_neg h6, if_pos (by omega)]
  by_cases h : op = 22
  · rw [if_pos h, if_pos (show op = 22 ∨ op = 23 from Or.inl h)]; exact key
  · rw [if_neg h]
    by_cases h2 : op = 23
    · rw [if_pos h2, if_pos (show op = 22 ∨ op = 23 from Or.inr h2)]; exact key
    · rw [if_neg h2, if_neg (show ¬ (op = 22 ∨ op = 23) from fun z => z.elim h h2)]
theorem io40 {x d : Int32} (hop : op < 27) (hP : r 0 0 7 = nI P) (hP2 : P < 12) (hk : k + opL.getD op 0 < n) (hn : n ≤ 60) (hd : isB d) : ∃ m, rn_R_isOutside m 40 (ioL op k x d) [] r = some (some (.inl (ioF op (r 6 0 (60 * P + (k + 2))) (if op = 24 then bI (¬ inB x P) else if op = 22 ∨ op = 23 then bI (¬ inB x 3) else if 15 < op ∧ op < 22 then bI (¬ inB x 4) else d))), r) := by
  obtain ⟨m, hm⟩ := io68 (x := x) (d := if 15 < op ∧ op < 22 then bI (¬ inB x 4) else d) hop hP hP2 hk hn (isB_ite isB_b hd)
  refine ⟨m + 15, pxs_px (st := [40, 68, 96, 121]) 15 40 _ _ _ ?_⟩
  refine (y_R_isOutside_40 (rn_R_isOutside m) (nI op) (nI k) x d r).trans ?_
  rw [← hm]
  simp only [on22, on15, nI_ltN (show op < 2 ^ 31 by omega) (show 22 < 2 ^ 31 by omega), nI_ltN (show 15 < 2 ^ 31 by omega) (show op < 2 ^ 31 by omega)]
  simp only [i_lt, tiz, ti3]
  by_cases h : 15 < op
  · rw [if_pos h]
    by_cases h2 : op < 22
    · rw [if_pos h2, if_pos (show 15 < op ∧ op < 22 from ⟨h, h2⟩)]
      by_cases h4 : inB x 4
      · have h5 : 0 ≤ x.toInt ∧ x.toInt < 4 := h4
        rw [if_neg (by omega), if_neg (by omega), bI_f (fun z => z h4), of0]
      · have h5 : ¬ (0 ≤ x.toInt ∧ x.toInt < 4) := h4
        rw [bI_t h4, of1]
        by_cases h6 : x.toInt < 0
        · rw [if_pos h6]
        · rw [if_neg h6, if_pos (by omega)]
    · rw [if_neg h2, if_neg (show ¬ (15 < op ∧ op < 22) from fun z => h2 z.2)]
  · rw [if_neg h, if_neg (show ¬ (15 < op ∧ op < 22) from fun z => h z.1)]
end IO
theorem ioK : ∀ op, op < 27 → 1 ≤ opL.getD op 0 → ∀ (x y : Int32) (P : Nat), ioF op y (if op = 24 then bI (¬ inB x P) else if op = 22 ∨ op = 23 then bI (¬ inB x 3) else if 15 < op ∧ op < 22 then bI (¬ inB x 4) else if op = 12 ∨ op = 13 then bI (¬ inB x 8) else 0) = bI (¬ (kB (k1L.getD op 0) x P = true ∧ kB (k2L.getD op 0) y P = true)) := by
  intro op hop h1 x y P
  have h27 : op = 0 ∨ op = 1 ∨ op = 2 ∨ op = 3 ∨ op = 4 ∨ op = 5 ∨ op = 6 ∨ op = 7 ∨ op = 8 ∨ op = 9 ∨ op = 10 ∨ op = 11 ∨ op = 12 ∨ op = 13 ∨ op = 14 ∨ op = 15 ∨ op = 16 ∨ op = 17 ∨ op = 18 ∨ op = 19 ∨ op = 20 ∨ op = 21 ∨ op = 22 ∨ op = 23 ∨ op = 24 ∨ op = 25 ∨ op = 26 := by omega
  rcases h27 with rfl | rfl | rfl | rfl | rfl | rfl | rfl | rfl | rfl | rfl | rfl | rfl | rfl | rfl | rfl | rfl | rfl | rfl | rfl | rfl | rfl | rfl | rfl | rfl | rfl | rfl | rfl
  all_goals first
    | (exfalso; revert h1; decide)
    | (simp [ioF, opL, k1L, k2L, kB, bI]; done)
    | (simp [ioF, opL, k1L, k2L, kB, bI]; split <;> first | (simp_all; done) | (rename_i hh; simp_all; intro a b; have := hh a; omega))
theorem s_R_isOutside (op k n P : Nat) (r : mG) (hop : op < 27) (hP : r 0 0 7 = nI P) (hP2 : P < 12) (h1 : 1 ≤ opL.getD op 0) (hk : k + opL.getD op 0 < n) (hn : n ≤ 60) : f_R_isOutside [.inr (0, 0), .inl (nI op), .inl (nI k)] r = some (bI (¬ (kB (k1L.getD op 0) (r 6 0 (60 * P + (k + 1))) P = true ∧ kB (k2L.getD op 0) (r 6 0 (60 * P + (k + 2))) P = true)), r) := by
  rw [← ioK op hop h1 (r 6 0 (60 * P + (k + 1))) (r 6 0 (60 * P + (k + 2))) P]
  obtain ⟨m, hm⟩ := io40 (x := r 6 0 (60 * P + (k + 1))) (d := if op = 12 ∨ op = 13 then bI (¬ inB (r 6 0 (60 * P + (k + 1))) 8) else 0) hop hP hP2 hk hn (isB_ite isB_b (Or.inl rfl))
  refine e_R_isOutside (n := m + 23) rfl (pxs_px (st := [40, 68, 96, 121]) 23 0 _ _ _ ?_)
  refine (y_R_isOutside_0 (rn_R_isOutside m) (nI op) (nI k) r).trans ?_
  rw [← hm]
  have e1 : nI k + Int32.ofInt 1 = nI (k + 1) := by rw [on1]; exact nI_add k 1
  simp only [e1, s_R_wordN P (k + 1) r hP (by omega), Option.bind_some, on12, on13, nI_eqN (show op < 2 ^ 31 by omega) (show 12 < 2 ^ 31 by omega), nI_eqN (show op < 2 ^ 31 by omega) (show 13 < 2 ^ 31 by omega), i_lt, tiz, ti7]
  have key : (if (r 6 0 (60 * P + (k + 1))).toInt < 0 then rn_R_isOutside m 40 (ioL op k (r 6 0 (60 * P + (k + 1))) (Int32.ofInt 1)) [] r else if 7 < (r 6 0 (60 * P + (k + 1))).toInt then rn_R_isOutside m 40 (ioL op k (r 6 0 (60 * P + (k + 1))) (Int32.ofInt 1)) [] r else rn_R_isOutside m 40 (ioL op k (r 6 0 (60 * P + (k + 1))) (Int32.ofInt 0)) [] r) = rn_R_isOutside m 40 (ioL op k (r 6 0 (60 * P + (k + 1))) (bI (¬ inB (r 6 0 (60 * P + (k + 1))) 8))) [] r := by
    by_cases h4 : inB (r 6 0 (60 * P + (k + 1))) 8
    · have h5 : 0 ≤ (r 6 0 (60 * P + (k + 1))).toInt ∧ (r 6 0 (60 * P + (k + 1))).toInt < 8 := h4
      rw [if_neg (by omega), if_neg (by omega), bI_f (fun z => z h4), of0]
    · have h5 : ¬ (0 ≤ (r 6 0 (60 * P + (k + 1))).toInt ∧ (r 6 0 (60 * P + (k + 1))).toInt < 8) := h4
      rw [bI_t h4, of1]
      by_cases h6 : (r 6 0 (60 * P + (k + 1))).toInt < 0
      · rw [if_pos h6]
      · rw [if_neg h6, if_pos (by omega)]
  by_cases h : op = 12
  · rw [if_pos h, if_pos (show op = 12 ∨ op = 13 from Or.inl h)]; exact key
  · rw [if_neg h]
    by_cases h2 : op = 13
    · rw [if_pos h2, if_pos (show op = 12 ∨ op = 13 from Or.inr h2)]; exact key
    · rw [if_neg h2, if_neg (show ¬ (op = 12 ∨ op = 13) from fun z => z.elim h h2), of0]
