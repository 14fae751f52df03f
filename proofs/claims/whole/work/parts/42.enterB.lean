theorem FrC.keep {j P k h : Nat} {g r g' r' : mG} (hf : FrC j P k h g r) (e2 : g' 2 0 3 = g 2 0 3) (ea : ∀ a, 10 ≤ a → a ≤ 14 → g' a j = g a j)
    (r12 : r' 12 0 j = r 12 0 j) (r13 : r' 13 0 j = r 13 0 j) (r19 : r' 19 0 j = r 19 0 j) (r15 : ∀ i, i < 13 → r' 15 0 (13 * j + i) = r 15 0 (13 * j + i)) (r16 : ∀ i, i < 8 → r' 16 0 (8 * j + i) = r 16 0 (8 * j + i)) (r17 : ∀ i, i < 3 → r' 17 0 (3 * j + i) = r 17 0 (3 * j + i)) (r18 : ∀ i, i < 3 → r' 18 0 (3 * j + i) = r 18 0 (3 * j + i)) : FrC j P k h g' r' := by
  obtain ⟨c0, c1, c2, c3, c4, c5, c6, c7, c8⟩ := hf
  have t10 := ea 10 (by omega) (by omega)
  have t11 := ea 11 (by omega) (by omega)
  have t12 := ea 12 (by omega) (by omega)
  have t13 := ea 13 (by omega) (by omega)
  have t14 := ea 14 (by omega) (by omega)
  refine ⟨?_, ?_, ?_, ?_, ?_, ?_, ?_, ?_, ?_⟩
  · rw [e2]; exact c0
  · rw [t10, r12]; exact c1
  · rw [t10, r13]; exact c2
  · rw [t10]; exact c3
  · intro i hi; rw [t11, r15 i (by omega)]; exact c4 i hi
  · intro i hi; rw [t12, r16 i hi]; exact c5 i hi
  · intro i hi; rw [t13, r17 i hi]; exact c6 i hi
  · intro i hi; rw [t14, r18 i hi]; exact c7 i hi
  · rw [t10, r19]; exact c8
section
variable {n : Nat} {a b c : Int32} {r : mG}
theorem enR_12 {j : Nat} : enR n a b c r 12 0 j = if j = n then a else r 12 0 j := by
  show st3 r 12 0 n a 12 0 j = _
  by_cases e : j = n
  · subst e; rw [st3_same, if_pos rfl]
  · rw [st3_k e, if_neg e]
theorem enR_13 {j : Nat} : enR n a b c r 13 0 j = if j = n then Int32.ofInt 0 else r 13 0 j := by
  show st3 r 13 0 n (Int32.ofInt 0) 13 0 j = _
  by_cases e : j = n
  · subst e; rw [st3_same, if_pos rfl]
  · rw [st3_k e, if_neg e]
theorem enR_14 {j : Nat} : enR n a b c r 14 0 j = if j = n then Int32.ofInt 0 else r 14 0 j := by
  show st3 r 14 0 n (Int32.ofInt 0) 14 0 j = _
  by_cases e : j = n
  · subst e; rw [st3_same, if_pos rfl]
  · rw [st3_k e, if_neg e]
theorem enR_19 {j : Nat} : enR n a b c r 19 0 j = if j = n then c else r 19 0 j := by
  show st3 r 19 0 n c 19 0 j = _
  by_cases e : j = n
  · subst e; rw [st3_same, if_pos rfl]
  · rw [st3_k e, if_neg e]
theorem enR_15 : enR n a b c r 15 = r 15 := rfl
theorem enR_16 {q : Nat} : enR n a b c r 16 0 q = if q = 8 * n then b else zr (r 16 0) (8 * n) 8 q := by
  show st3 (stR (enM n a c r) 16 0 (zr (r 16 0) (8 * n) 8)) 16 0 (8 * n) b 16 0 q = _
  by_cases e : q = 8 * n
  · subst e; rw [st3_same, if_pos rfl]
  · rw [st3_k e, if_neg e, stR_same]
theorem enR_17 {q : Nat} : enR n a b c r 17 0 q = zr (r 17 0) (3 * n) 3 q := rfl
theorem enR_18 {q : Nat} : enR n a b c r 18 0 q = zr (r 18 0) (3 * n) 3 q := rfl
end
theorem enterB {n P' : Nat} {b c : Int32} {g r : mG} (h8 : g 1 0 8 = nI n) (h12 : r 0 0 12 = nI n) (hn : n < 8) (h21 : ∀ i, i < 8 → g 21 0 i = nI i) (hc : Cm g r) (hP : (P' : Int) < (g 2 0 3).toInt) (hcb : isB c) :
    ∃ g', f_M_open [.inr (1, 0), .inl (nI P'), .inl b] g = some (Int32.ofInt (-1), g') ∧ f_R_enter [.inr (0, 0), .inl (nI P'), .inl b, .inl c] r = some (Int32.ofInt 1, enR n (nI P') b c r) ∧ Dp n g' (enR n (nI P') b c r) ∧ Cm g' (enR n (nI P') b c r) ∧ g' 10 n 7 = 0 ∧ FrC n P' 0 0 (st3 g' 10 n 7 c) (enR n (nI P') b c r) ∧
      (∀ x, x ≠ 1 → x ≠ 10 → x ≠ 12 → x ≠ 13 → x ≠ 14 → x ≠ 20 → g' x = g x) ∧ (∀ x j, 10 ≤ x → x ≤ 14 → j ≠ n → g' x j = g x j) := by
  obtain ⟨g', o1, o2, o3, ⟨o4, o5, o6, o7⟩, o8, o9, o10, o11, ⟨o12, o13, o14⟩, o15⟩ := s_M_open (a := nI P') (b := b) h8 hn (h21 n hn)
  have e2 : g' 2 = g 2 := o2 2 (by decide) (by decide) (by decide) (by decide) (by decide) (by decide)
  refine ⟨g', o1, s_R_enter h12 hn hcb, ⟨hn, o12, rfl, o13, fun i hi => ?_⟩, ?_, o7, ⟨⟨?_, by omega, by omega⟩, ⟨?_, ?_⟩, ⟨?_, ?_⟩, ?_, fun i hi => absurd hi (by omega), fun i hi => ?_, fun i hi => ?_, fun i hi => ?_, ?_⟩, o2, o3⟩
  · rw [o2 21 (by decide) (by decide) (by decide) (by decide) (by decide) (by decide)]; exact h21 i hi
  · obtain ⟨cL, cT, cG, ⟨n0, n1, n2, n3, n4⟩, cK⟩ := hc
    have p : ∀ x, x ≠ 1 → x ≠ 10 → x ≠ 12 → x ≠ 13 → x ≠ 14 → x ≠ 20 → g' x = g x := o2
    refine ⟨?_, ?_, ?_, ⟨?_, ?_, ?_, ?_, ?_⟩, ?_⟩
    · unfold InvL at cL ⊢
      rw [p 24 (by decide) (by decide) (by decide) (by decide) (by decide) (by decide), p 25 (by decide) (by decide) (by decide) (by decide) (by decide) (by decide), e2]
      exact cL
    · unfold InvT at cT ⊢
      rw [p 26 (by decide) (by decide) (by decide) (by decide) (by decide) (by decide), p 27 (by decide) (by decide) (by decide) (by decide) (by decide) (by decide)]
      exact cT
    · unfold InvG at cG ⊢
      rw [p 30 (by decide) (by decide) (by decide) (by decide) (by decide) (by decide), e2]
      exact cG
    · rw [o15]; exact n0
    · rw [o15, st3_same, n1]; rfl
    · rw [o15]; exact n2
    · rw [o15]; exact n3
    · rw [o14]; exact n4
    · unfold Kpt at cK ⊢
      rw [p 28 (by decide) (by decide) (by decide) (by decide) (by decide) (by decide), p 29 (by decide) (by decide) (by decide) (by decide) (by decide) (by decide)]
      exact cK
  · show (P' : Int) < (g' 2 0 3).toInt
    rw [e2]; exact hP
  · rw [st3_k (by decide)]; exact o5
  · rw [enR_12, if_pos rfl]
  · rw [st3_k (by decide)]; exact o6
  · rw [enR_13, if_pos rfl, on0]
  · rw [st3_k (by decide)]; exact o4
  · rw [st3_a (by decide), enR_16]
    by_cases e : i = 0
    · subst e; rw [if_pos (by omega)]; exact o8
    · rw [if_neg (by omega), zr_in (by omega) (by omega)]; exact o9 i hi e
  · rw [st3_a (by decide), enR_17, zr_in (by omega) (by omega)]; exact o10 i hi
  · rw [st3_a (by decide), enR_18, zr_in (by omega) (by omega)]; exact o11 i hi
  · rw [st3_same, enR_19, if_pos rfl]
