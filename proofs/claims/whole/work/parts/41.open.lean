theorem s_F_start (d : Nat) (a b : Int32) (g : mG) : ∃ g', f_F_start [.inr (10, d), .inl a, .inl b] g = some g' ∧ (∀ x, x ≠ 10 → x ≠ 12 → x ≠ 13 → x ≠ 14 → g' x = g x) ∧ (∀ x j, 10 ≤ x → x ≤ 14 → j ≠ d → g' x j = g x j) ∧ (g' 10 d 1 = nI 0 ∧ g' 10 d 5 = a ∧ g' 10 d 6 = nI 0 ∧ g' 10 d 7 = 0) ∧ g' 12 d 0 = b ∧ (∀ i, i < 8 → i ≠ 0 → g' 12 d i = 0) ∧ (∀ i, i < 3 → g' 13 d i = 0) ∧ (∀ i, i < 3 → g' 14 d i = 0) := by
  obtain ⟨g1, a1, a2, a3, a4, -⟩ := s_A_fill_12 d (Int32.ofInt 0) (st3 (st3 (st3 (st3 g 10 d 1 (Int32.ofInt 0)) 10 d 5 a) 10 d 6 (Int32.ofInt 0)) 10 d 7 (Int32.ofInt 0))
  obtain ⟨g2, b1, b2, b3, b4, -⟩ := s_A_fill_13 d (Int32.ofInt 0) g1
  obtain ⟨g3, c1, c2, c3, c4, -⟩ := s_A_fill_14 d (Int32.ofInt 0) g2
  have e10 : g3 10 = (st3 (st3 (st3 (st3 g 10 d 1 (Int32.ofInt 0)) 10 d 5 a) 10 d 6 (Int32.ofInt 0)) 10 d 7 (Int32.ofInt 0)) 10 := by rw [c2 10 (by decide), b2 10 (by decide), a2 10 (by decide)]
  refine ⟨st3 g3 12 d 0 b, e_F_start (n := 30) rfl ?_, fun x x1 x2 x3 x4 => ?_, fun x j x1 x2 hj => ?_, ?_, st3_same, fun i hi i0 => ?_, fun i hi => ?_, fun i hi => ?_⟩
  · rw [x_F_start]
    simp only [isB_0, if_true, a1, b1, c1, Option.bind_some]
    rw [if_pos (show inB (Int32.ofInt 0) 8 by decide), show (Int32.ofInt 0).toNatClampNeg = 0 by decide]
  · rw [st3_a x2, c2 x x4, b2 x x3, a2 x x2, st3_a x1, st3_a x1, st3_a x1, st3_a x1]
  · have q : ∀ (m : mG) (y k : Nat) (v : Int32), (st3 m y d k v) x j = m x j := fun m y k v => by
      funext i; unfold st3; rw [if_neg (fun z => hj z.2.2)]
    rw [q]
    have s3 : g3 x j = g2 x j := by by_cases e : x = 14; · subst e; exact c3 j hj
                                    · rw [c2 x e]
    have s2 : g2 x j = g1 x j := by by_cases e : x = 13; · subst e; exact b3 j hj
                                    · rw [b2 x e]
    rw [s3, s2]
    by_cases e : x = 12
    · subst e; rw [a3 j hj, q, q, q, q]
    · rw [a2 x e, q, q, q, q]
  · rw [st3_a (by decide), e10]
    refine ⟨?_, ?_, ?_, ?_⟩
    · rw [st3_k (by decide), st3_k (by decide), st3_k (by decide), st3_same, on0]
    · rw [st3_k (by decide), st3_k (by decide), st3_same]
    · rw [st3_k (by decide), st3_same, on0]
    · rw [st3_same]; exact of0
  · rw [st3_k i0, c2 12 (by decide), b2 12 (by decide), a4 i hi]; exact of0
  · rw [st3_a (by decide), c2 13 (by decide), b4 i hi]; exact of0
  · rw [st3_a (by decide), c4 i hi]; exact of0
theorem s_M_open {d : Nat} {a b : Int32} {g : mG} (h8 : g 1 0 8 = nI d) (hd : d < 8) (h21 : g 21 0 d = nI d) : ∃ g', f_M_open [.inr (1, 0), .inl a, .inl b] g = some (Int32.ofInt (-1), g') ∧ (∀ x, x ≠ 1 → x ≠ 10 → x ≠ 12 → x ≠ 13 → x ≠ 14 → x ≠ 20 → g' x = g x) ∧ (∀ x j, 10 ≤ x → x ≤ 14 → j ≠ d → g' x j = g x j) ∧ (g' 10 d 1 = nI 0 ∧ g' 10 d 5 = a ∧ g' 10 d 6 = nI 0 ∧ g' 10 d 7 = 0) ∧ g' 12 d 0 = b ∧ (∀ i, i < 8 → i ≠ 0 → g' 12 d i = 0) ∧ (∀ i, i < 3 → g' 13 d i = 0) ∧ (∀ i, i < 3 → g' 14 d i = 0) ∧
    (g' 1 0 8 = nI (d + 1) ∧ g' 1 0 9 = nI d ∧ g' 1 0 4 = g 1 0 4) ∧ g' 20 = (st3 g 20 0 1 (if g 20 0 1 < nI (d + 1) then nI (d + 1) else g 20 0 1)) 20 := by
  obtain ⟨g1, a1, a2, a3, a4, a5, a6, a7, a8⟩ := s_F_start d a b (st3 (st3 g 1 0 9 (nI d)) 1 0 8 (nI (d + 1)))
  have b8 : inB (nI d) 8 := by rw [nI_inB (by omega)]; exact hd
  have nm : d < nmC 10 := hd
  have e1 : g1 1 = (st3 (st3 g 1 0 9 (nI d)) 1 0 8 (nI (d + 1))) 1 := a2 1 (by decide) (by decide) (by decide) (by decide)
  have e20 : g1 20 = g 20 := by rw [a2 20 (by decide) (by decide) (by decide) (by decide), st3_a (by decide), st3_a (by decide)]
  have e18 : g1 1 0 8 = nI (d + 1) := by rw [e1, st3_same]
  have i4 : inB (Int32.ofInt 1) 4 := by decide
  refine ⟨st3 g1 20 0 1 (if g 20 0 1 < nI (d + 1) then nI (d + 1) else g 20 0 1), e_M_open (n := 35) rfl ?_, fun x x1 x2 x3 x4 x5 x6 => ?_, fun x j x1 x2 hj => ?_, a4, a5, a6, a7, a8, ⟨e18, ?_, ?_⟩, ?_⟩
  · rw [x_M_open, h8, nI_clamp (by omega), h21, nI_clamp (by omega), nI_clamp (by omega), if_pos (show nI d < Int32.ofInt 8 by rw [on8, nI_ltI (by omega) (by omega)]; exact hd), if_pos b8, if_pos nm, if_pos nm, show nI d + Int32.ofInt 1 = nI (d + 1) by rw [on1, nA (by omega)], a1, Option.bind_some, if_pos i4, if_pos i4, show (Int32.ofInt 1).toNatClampNeg = 1 by decide, e18, e20]
  · rw [st3_a x6, a2 x x2 x3 x4 x5, st3_a x1, st3_a x1]
  · rw [st3_a (by omega), a3 x j x1 x2 hj, st3_a (by omega), st3_a (by omega)]
  · show g1 1 0 9 = _
    rw [e1, st3_k (by decide), st3_same]
  · show g1 1 0 4 = _
    rw [e1, st3_k (by decide), st3_k (by decide)]
  · funext j k
    unfold st3
    rw [e20]
theorem s_M_open8 {a b : Int32} {g : mG} (h8 : g 1 0 8 = nI 8) : f_M_open [.inr (1, 0), .inl a, .inl b] g = some (Int32.ofInt 4, g) := by
  refine e_M_open (n := 35) rfl ?_
  rw [x_M_open, h8, if_neg (by decide)]
