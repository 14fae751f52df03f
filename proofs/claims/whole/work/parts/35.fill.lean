/-! Arrays.fill, by the kinds that it fills -/
theorem fl_31 (x : Int32) : ∀ (m t : Nat) (g : mG), 60 - t ≤ m → t ≤ 60 → ∃ (g' : mG) (b : Nat), rn_A_fill b 5 [some (.inr (31, 0)), some (.inl x), some (.inl (nI t)), some (.inl (nI 60))] [] g = some (none, g') ∧ (∀ a', a' ≠ 31 → g' a' = g a') ∧ (∀ j', j' ≠ 0 → g' 31 j' = g 31 j') ∧ (∀ k, t ≤ k → k < 60 → g' 31 0 k = x) ∧ (∀ k, k < t ∨ 60 ≤ k → g' 31 0 k = g 31 0 k) := by
  have done : ∀ (t : Nat) (g : mG), t = 60 → ∃ (g' : mG) (b : Nat), rn_A_fill b 5 [some (.inr (31, 0)), some (.inl x), some (.inl (nI t)), some (.inl (nI 60))] [] g = some (none, g') ∧ (∀ a', a' ≠ 31 → g' a' = g a') ∧ (∀ j', j' ≠ 0 → g' 31 j' = g 31 j') ∧ (∀ k, t ≤ k → k < 60 → g' 31 0 k = x) ∧ (∀ k, k < t ∨ 60 ≤ k → g' 31 0 k = g 31 0 k) := by
    rintro t g rfl
    refine ⟨g, 0 + 10, pxs_px (st := [5]) 10 5 _ _ _ ?_, fun _ _ => rfl, fun _ _ => rfl, fun k h1 h2 => absurd h2 (by omega), fun _ _ => rfl⟩
    refine (y_A_fill_31_5 (rn_A_fill 0) x (nI 60) (nI 60) g).trans ?_
    rw [if_neg (show ¬ nI 60 < nI 60 by decide)]
  intro m
  induction m with
  | zero => intro t g h1 h2; exact done t g (by omega)
  | succ m ih =>
    intro t g h1 h2
    by_cases e : t = 60
    · exact done t g e
    · obtain ⟨g', b, hb, p1, p2, p3, p4⟩ := ih (t + 1) (st3 g 31 0 t x) (by omega) (by omega)
      have e1 : nI t + Int32.ofInt 1 = nI (t + 1) := by rw [on1]; exact nI_add t 1
      refine ⟨g', b + 10, pxs_px (st := [5]) 10 5 _ _ _ ?_, fun a' ha => ?_, fun j' hj => ?_, fun k hk1 hk2 => ?_, fun k hk => ?_⟩
      · refine (y_A_fill_31_5 (rn_A_fill b) x (nI t) (nI 60) g).trans ?_
        rw [if_pos (show nI t < nI 60 by rw [nI_ltI (by omega) (by omega)]; omega), if_pos (show inB (nI t) 60 by rw [nI_inB (by omega)]; omega), nI_clamp (by omega), e1]
        exact hb
      · rw [p1 a' ha, st3_a ha]
      · rw [p2 j' hj]
        funext k
        exact st3_j hj
      · by_cases ek : k = t
        · subst ek
          rw [p4 k (Or.inl (by omega)), st3_same]
        · exact p3 k (by omega) hk2
      · rw [p4 k (by omega)]
        exact st3_k (by omega)
theorem s_A_fill_31 (x : Int32) (g : mG) : ∃ g', f_A_fill [.inr (31, 0), .inl x] g = some g' ∧ (∀ a', a' ≠ 31 → g' a' = g a') ∧ (∀ j', j' ≠ 0 → g' 31 j' = g 31 j') ∧ (∀ k, k < 60 → g' 31 0 k = x) ∧ (∀ k, 60 ≤ k → g' 31 0 k = g 31 0 k) := by
  obtain ⟨g', b, hb, p1, p2, p3, p4⟩ := fl_31 x 60 0 g (by omega) (by omega)
  refine ⟨g', e_A_fill (n := b + 6) rfl (pxs_px (st := [5]) 6 0 _ _ _ ?_), p1, p2, fun k hk => p3 k (Nat.zero_le _) hk, fun k hk => p4 k (Or.inr hk)⟩
  refine (y_A_fill_31_0 (rn_A_fill b) x g).trans ?_
  rw [on0]; exact hb
theorem fl_12 (j : Nat) (x : Int32) : ∀ (m t : Nat) (g : mG), 8 - t ≤ m → t ≤ 8 → ∃ (g' : mG) (b : Nat), rn_A_fill b 5 [some (.inr (12, j)), some (.inl x), some (.inl (nI t)), some (.inl (nI 8))] [] g = some (none, g') ∧ (∀ a', a' ≠ 12 → g' a' = g a') ∧ (∀ j', j' ≠ j → g' 12 j' = g 12 j') ∧ (∀ k, t ≤ k → k < 8 → g' 12 j k = x) ∧ (∀ k, k < t ∨ 8 ≤ k → g' 12 j k = g 12 j k) := by
  have done : ∀ (t : Nat) (g : mG), t = 8 → ∃ (g' : mG) (b : Nat), rn_A_fill b 5 [some (.inr (12, j)), some (.inl x), some (.inl (nI t)), some (.inl (nI 8))] [] g = some (none, g') ∧ (∀ a', a' ≠ 12 → g' a' = g a') ∧ (∀ j', j' ≠ j → g' 12 j' = g 12 j') ∧ (∀ k, t ≤ k → k < 8 → g' 12 j k = x) ∧ (∀ k, k < t ∨ 8 ≤ k → g' 12 j k = g 12 j k) := by
    rintro t g rfl
    refine ⟨g, 0 + 10, pxs_px (st := [5]) 10 5 _ _ _ ?_, fun _ _ => rfl, fun _ _ => rfl, fun k h1 h2 => absurd h2 (by omega), fun _ _ => rfl⟩
    refine (y_A_fill_12_5 (rn_A_fill 0) j x (nI 8) (nI 8) g).trans ?_
    rw [if_neg (show ¬ nI 8 < nI 8 by decide)]
  intro m
  induction m with
  | zero => intro t g h1 h2; exact done t g (by omega)
  | succ m ih =>
    intro t g h1 h2
    by_cases e : t = 8
    · exact done t g e
    · obtain ⟨g', b, hb, p1, p2, p3, p4⟩ := ih (t + 1) (st3 g 12 j t x) (by omega) (by omega)
      have e1 : nI t + Int32.ofInt 1 = nI (t + 1) := by rw [on1]; exact nI_add t 1
      refine ⟨g', b + 10, pxs_px (st := [5]) 10 5 _ _ _ ?_, fun a' ha => ?_, fun j' hj => ?_, fun k hk1 hk2 => ?_, fun k hk => ?_⟩
      · refine (y_A_fill_12_5 (rn_A_fill b) j x (nI t) (nI 8) g).trans ?_
        rw [if_pos (show nI t < nI 8 by rw [nI_ltI (by omega) (by omega)]; omega), if_pos (show inB (nI t) 8 by rw [nI_inB (by omega)]; omega), nI_clamp (by omega), e1]
        exact hb
      · rw [p1 a' ha, st3_a ha]
      · rw [p2 j' hj]
        funext k
        exact st3_j hj
      · by_cases ek : k = t
        · subst ek
          rw [p4 k (Or.inl (by omega)), st3_same]
        · exact p3 k (by omega) hk2
      · rw [p4 k (by omega)]
        exact st3_k (by omega)
theorem s_A_fill_12 (j : Nat) (x : Int32) (g : mG) : ∃ g', f_A_fill [.inr (12, j), .inl x] g = some g' ∧ (∀ a', a' ≠ 12 → g' a' = g a') ∧ (∀ j', j' ≠ j → g' 12 j' = g 12 j') ∧ (∀ k, k < 8 → g' 12 j k = x) ∧ (∀ k, 8 ≤ k → g' 12 j k = g 12 j k) := by
  obtain ⟨g', b, hb, p1, p2, p3, p4⟩ := fl_12 j x 8 0 g (by omega) (by omega)
  refine ⟨g', e_A_fill (n := b + 6) rfl (pxs_px (st := [5]) 6 0 _ _ _ ?_), p1, p2, fun k hk => p3 k (Nat.zero_le _) hk, fun k hk => p4 k (Or.inr hk)⟩
  refine (y_A_fill_12_0 (rn_A_fill b) j x g).trans ?_
  rw [on0]; exact hb
theorem fl_13 (j : Nat) (x : Int32) : ∀ (m t : Nat) (g : mG), 3 - t ≤ m → t ≤ 3 → ∃ (g' : mG) (b : Nat), rn_A_fill b 5 [some (.inr (13, j)), some (.inl x), some (.inl (nI t)), some (.inl (nI 3))] [] g = some (none, g') ∧ (∀ a', a' ≠ 13 → g' a' = g a') ∧ (∀ j', j' ≠ j → g' 13 j' = g 13 j') ∧ (∀ k, t ≤ k → k < 3 → g' 13 j k = x) ∧ (∀ k, k < t ∨ 3 ≤ k → g' 13 j k = g 13 j k) := by
  have done : ∀ (t : Nat) (g : mG), t = 3 → ∃ (g' : mG) (b : Nat), rn_A_fill b 5 [some (.inr (13, j)), some (.inl x), some (.inl (nI t)), some (.inl (nI 3))] [] g = some (none, g') ∧ (∀ a', a' ≠ 13 → g' a' = g a') ∧ (∀ j', j' ≠ j → g' 13 j' = g 13 j') ∧ (∀ k, t ≤ k → k < 3 → g' 13 j k = x) ∧ (∀ k, k < t ∨ 3 ≤ k → g' 13 j k = g 13 j k) := by
    rintro t g rfl
    refine ⟨g, 0 + 10, pxs_px (st := [5]) 10 5 _ _ _ ?_, fun _ _ => rfl, fun _ _ => rfl, fun k h1 h2 => absurd h2 (by omega), fun _ _ => rfl⟩
    refine (y_A_fill_13_5 (rn_A_fill 0) j x (nI 3) (nI 3) g).trans ?_
    rw [if_neg (show ¬ nI 3 < nI 3 by decide)]
  intro m
  induction m with
  | zero => intro t g h1 h2; exact done t g (by omega)
  | succ m ih =>
    intro t g h1 h2
    by_cases e : t = 3
    · exact done t g e
    · obtain ⟨g', b, hb, p1, p2, p3, p4⟩ := ih (t + 1) (st3 g 13 j t x) (by omega) (by omega)
      have e1 : nI t + Int32.ofInt 1 = nI (t + 1) := by rw [on1]; exact nI_add t 1
      refine ⟨g', b + 10, pxs_px (st := [5]) 10 5 _ _ _ ?_, fun a' ha => ?_, fun j' hj => ?_, fun k hk1 hk2 => ?_, fun k hk => ?_⟩
      · refine (y_A_fill_13_5 (rn_A_fill b) j x (nI t) (nI 3) g).trans ?_
        rw [if_pos (show nI t < nI 3 by rw [nI_ltI (by omega) (by omega)]; omega), if_pos (show inB (nI t) 3 by rw [nI_inB (by omega)]; omega), nI_clamp (by omega), e1]
        exact hb
      · rw [p1 a' ha, st3_a ha]
      · rw [p2 j' hj]
        funext k
        exact st3_j hj
      · by_cases ek : k = t
        · subst ek
          rw [p4 k (Or.inl (by omega)), st3_same]
        · exact p3 k (by omega) hk2
      · rw [p4 k (by omega)]
        exact st3_k (by omega)
theorem s_A_fill_13 (j : Nat) (x : Int32) (g : mG) : ∃ g', f_A_fill [.inr (13, j), .inl x] g = some g' ∧ (∀ a', a' ≠ 13 → g' a' = g a') ∧ (∀ j', j' ≠ j → g' 13 j' = g 13 j') ∧ (∀ k, k < 3 → g' 13 j k = x) ∧ (∀ k, 3 ≤ k → g' 13 j k = g 13 j k) := by
  obtain ⟨g', b, hb, p1, p2, p3, p4⟩ := fl_13 j x 3 0 g (by omega) (by omega)
  refine ⟨g', e_A_fill (n := b + 6) rfl (pxs_px (st := [5]) 6 0 _ _ _ ?_), p1, p2, fun k hk => p3 k (Nat.zero_le _) hk, fun k hk => p4 k (Or.inr hk)⟩
  refine (y_A_fill_13_0 (rn_A_fill b) j x g).trans ?_
  rw [on0]; exact hb
theorem fl_14 (j : Nat) (x : Int32) : ∀ (m t : Nat) (g : mG), 3 - t ≤ m → t ≤ 3 → ∃ (g' : mG) (b : Nat), rn_A_fill b 5 [some (.inr (14, j)), some (.inl x), some (.inl (nI t)), some (.inl (nI 3))] [] g = some (none, g') ∧ (∀ a', a' ≠ 14 → g' a' = g a') ∧ (∀ j', j' ≠ j → g' 14 j' = g 14 j') ∧ (∀ k, t ≤ k → k < 3 → g' 14 j k = x) ∧ (∀ k, k < t ∨ 3 ≤ k → g' 14 j k = g 14 j k) := by
  have done : ∀ (t : Nat) (g : mG), t = 3 → ∃ (g' : mG) (b : Nat), rn_A_fill b 5 [some (.inr (14, j)), some (.inl x), some (.inl (nI t)), some (.inl (nI 3))] [] g = some (none, g') ∧ (∀ a', a' ≠ 14 → g' a' = g a') ∧ (∀ j', j' ≠ j → g' 14 j' = g 14 j') ∧ (∀ k, t ≤ k → k < 3 → g' 14 j k = x) ∧ (∀ k, k < t ∨ 3 ≤ k → g' 14 j k = g 14 j k) := by
    rintro t g rfl
    refine ⟨g, 0 + 10, pxs_px (st := [5]) 10 5 _ _ _ ?_, fun _ _ => rfl, fun _ _ => rfl, fun k h1 h2 => absurd h2 (by omega), fun _ _ => rfl⟩
    refine (y_A_fill_14_5 (rn_A_fill 0) j x (nI 3) (nI 3) g).trans ?_
    rw [if_neg (show ¬ nI 3 < nI 3 by decide)]
  intro m
  induction m with
  | zero => intro t g h1 h2; exact done t g (by omega)
  | succ m ih =>
    intro t g h1 h2
    by_cases e : t = 3
    · exact done t g e
    · obtain ⟨g', b, hb, p1, p2, p3, p4⟩ := ih (t + 1) (st3 g 14 j t x) (by omega) (by omega)
      have e1 : nI t + Int32.ofInt 1 = nI (t + 1) := by rw [on1]; exact nI_add t 1
      refine ⟨g', b + 10, pxs_px (st := [5]) 10 5 _ _ _ ?_, fun a' ha => ?_, fun j' hj => ?_, fun k hk1 hk2 => ?_, fun k hk => ?_⟩
      · refine (y_A_fill_14_5 (rn_A_fill b) j x (nI t) (nI 3) g).trans ?_
        rw [if_pos (show nI t < nI 3 by rw [nI_ltI (by omega) (by omega)]; omega), if_pos (show inB (nI t) 3 by rw [nI_inB (by omega)]; omega), nI_clamp (by omega), e1]
        exact hb
      · rw [p1 a' ha, st3_a ha]
      · rw [p2 j' hj]
        funext k
        exact st3_j hj
      · by_cases ek : k = t
        · subst ek
          rw [p4 k (Or.inl (by omega)), st3_same]
        · exact p3 k (by omega) hk2
      · rw [p4 k (by omega)]
        exact st3_k (by omega)
theorem s_A_fill_14 (j : Nat) (x : Int32) (g : mG) : ∃ g', f_A_fill [.inr (14, j), .inl x] g = some g' ∧ (∀ a', a' ≠ 14 → g' a' = g a') ∧ (∀ j', j' ≠ j → g' 14 j' = g 14 j') ∧ (∀ k, k < 3 → g' 14 j k = x) ∧ (∀ k, 3 ≤ k → g' 14 j k = g 14 j k) := by
  obtain ⟨g', b, hb, p1, p2, p3, p4⟩ := fl_14 j x 3 0 g (by omega) (by omega)
  refine ⟨g', e_A_fill (n := b + 6) rfl (pxs_px (st := [5]) 6 0 _ _ _ ?_), p1, p2, fun k hk => p3 k (Nat.zero_le _) hk, fun k hk => p4 k (Or.inr hk)⟩
  refine (y_A_fill_14_0 (rn_A_fill b) j x g).trans ?_
  rw [on0]; exact hb
theorem fl_20 (x : Int32) : ∀ (m t : Nat) (g : mG), 4 - t ≤ m → t ≤ 4 → ∃ (g' : mG) (b : Nat), rn_A_fill b 5 [some (.inr (20, 0)), some (.inl x), some (.inl (nI t)), some (.inl (nI 4))] [] g = some (none, g') ∧ (∀ a', a' ≠ 20 → g' a' = g a') ∧ (∀ j', j' ≠ 0 → g' 20 j' = g 20 j') ∧ (∀ k, t ≤ k → k < 4 → g' 20 0 k = x) ∧ (∀ k, k < t ∨ 4 ≤ k → g' 20 0 k = g 20 0 k) := by
  have done : ∀ (t : Nat) (g : mG), t = 4 → ∃ (g' : mG) (b : Nat), rn_A_fill b 5 [some (.inr (20, 0)), some (.inl x), some (.inl (nI t)), some (.inl (nI 4))] [] g = some (none, g') ∧ (∀ a', a' ≠ 20 → g' a' = g a') ∧ (∀ j', j' ≠ 0 → g' 20 j' = g 20 j') ∧ (∀ k, t ≤ k → k < 4 → g' 20 0 k = x) ∧ (∀ k, k < t ∨ 4 ≤ k → g' 20 0 k = g 20 0 k) := by
    rintro t g rfl
    refine ⟨g, 0 + 10, pxs_px (st := [5]) 10 5 _ _ _ ?_, fun _ _ => rfl, fun _ _ => rfl, fun k h1 h2 => absurd h2 (by omega), fun _ _ => rfl⟩
    refine (y_A_fill_20_5 (rn_A_fill 0) x (nI 4) (nI 4) g).trans ?_
    rw [if_neg (show ¬ nI 4 < nI 4 by decide)]
  intro m
  induction m with
  | zero => intro t g h1 h2; exact done t g (by omega)
  | succ m ih =>
    intro t g h1 h2
    by_cases e : t = 4
    · exact done t g e
    · obtain ⟨g', b, hb, p1, p2, p3, p4⟩ := ih (t + 1) (st3 g 20 0 t x) (by omega) (by omega)
      have e1 : nI t + Int32.ofInt 1 = nI (t + 1) := by rw [on1]; exact nI_add t 1
      refine ⟨g', b + 10, pxs_px (st := [5]) 10 5 _ _ _ ?_, fun a' ha => ?_, fun j' hj => ?_, fun k hk1 hk2 => ?_, fun k hk => ?_⟩
      · refine (y_A_fill_20_5 (rn_A_fill b) x (nI t) (nI 4) g).trans ?_
        rw [if_pos (show nI t < nI 4 by rw [nI_ltI (by omega) (by omega)]; omega), if_pos (show inB (nI t) 4 by rw [nI_inB (by omega)]; omega), nI_clamp (by omega), e1]
        exact hb
      · rw [p1 a' ha, st3_a ha]
      · rw [p2 j' hj]
        funext k
        exact st3_j hj
      · by_cases ek : k = t
        · subst ek
          rw [p4 k (Or.inl (by omega)), st3_same]
        · exact p3 k (by omega) hk2
      · rw [p4 k (by omega)]
        exact st3_k (by omega)
theorem s_A_fill_20 (x : Int32) (g : mG) : ∃ g', f_A_fill [.inr (20, 0), .inl x] g = some g' ∧ (∀ a', a' ≠ 20 → g' a' = g a') ∧ (∀ j', j' ≠ 0 → g' 20 j' = g 20 j') ∧ (∀ k, k < 4 → g' 20 0 k = x) ∧ (∀ k, 4 ≤ k → g' 20 0 k = g 20 0 k) := by
  obtain ⟨g', b, hb, p1, p2, p3, p4⟩ := fl_20 x 4 0 g (by omega) (by omega)
  refine ⟨g', e_A_fill (n := b + 6) rfl (pxs_px (st := [5]) 6 0 _ _ _ ?_), p1, p2, fun k hk => p3 k (Nat.zero_le _) hk, fun k hk => p4 k (Or.inr hk)⟩
  refine (y_A_fill_20_0 (rn_A_fill b) x g).trans ?_
  rw [on0]; exact hb
theorem fl_22 (x : Int32) : ∀ (m t : Nat) (g : mG), 3 - t ≤ m → t ≤ 3 → ∃ (g' : mG) (b : Nat), rn_A_fill b 5 [some (.inr (22, 0)), some (.inl x), some (.inl (nI t)), some (.inl (nI 3))] [] g = some (none, g') ∧ (∀ a', a' ≠ 22 → g' a' = g a') ∧ (∀ j', j' ≠ 0 → g' 22 j' = g 22 j') ∧ (∀ k, t ≤ k → k < 3 → g' 22 0 k = x) ∧ (∀ k, k < t ∨ 3 ≤ k → g' 22 0 k = g 22 0 k) := by
  have done : ∀ (t : Nat) (g : mG), t = 3 → ∃ (g' : mG) (b : Nat), rn_A_fill b 5 [some (.inr (22, 0)), some (.inl x), some (.inl (nI t)), some (.inl (nI 3))] [] g = some (none, g') ∧ (∀ a', a' ≠ 22 → g' a' = g a') ∧ (∀ j', j' ≠ 0 → g' 22 j' = g 22 j') ∧ (∀ k, t ≤ k → k < 3 → g' 22 0 k = x) ∧ (∀ k, k < t ∨ 3 ≤ k → g' 22 0 k = g 22 0 k) := by
    rintro t g rfl
    refine ⟨g, 0 + 10, pxs_px (st := [5]) 10 5 _ _ _ ?_, fun _ _ => rfl, fun _ _ => rfl, fun k h1 h2 => absurd h2 (by omega), fun _ _ => rfl⟩
    refine (y_A_fill_22_5 (rn_A_fill 0) x (nI 3) (nI 3) g).trans ?_
    rw [if_neg (show ¬ nI 3 < nI 3 by decide)]
  intro m
  induction m with
  | zero => intro t g h1 h2; exact done t g (by omega)
  | succ m ih =>
    intro t g h1 h2
    by_cases e : t = 3
    · exact done t g e
    · obtain ⟨g', b, hb, p1, p2, p3, p4⟩ := ih (t + 1) (st3 g 22 0 t x) (by omega) (by omega)
      have e1 : nI t + Int32.ofInt 1 = nI (t + 1) := by rw [on1]; exact nI_add t 1
      refine ⟨g', b + 10, pxs_px (st := [5]) 10 5 _ _ _ ?_, fun a' ha => ?_, fun j' hj => ?_, fun k hk1 hk2 => ?_, fun k hk => ?_⟩
      · refine (y_A_fill_22_5 (rn_A_fill b) x (nI t) (nI 3) g).trans ?_
        rw [if_pos (show nI t < nI 3 by rw [nI_ltI (by omega) (by omega)]; omega), if_pos (show inB (nI t) 3 by rw [nI_inB (by omega)]; omega), nI_clamp (by omega), e1]
        exact hb
      · rw [p1 a' ha, st3_a ha]
      · rw [p2 j' hj]
        funext k
        exact st3_j hj
      · by_cases ek : k = t
        · subst ek
          rw [p4 k (Or.inl (by omega)), st3_same]
        · exact p3 k (by omega) hk2
      · rw [p4 k (by omega)]
        exact st3_k (by omega)
theorem s_A_fill_22 (x : Int32) (g : mG) : ∃ g', f_A_fill [.inr (22, 0), .inl x] g = some g' ∧ (∀ a', a' ≠ 22 → g' a' = g a') ∧ (∀ j', j' ≠ 0 → g' 22 j' = g 22 j') ∧ (∀ k, k < 3 → g' 22 0 k = x) ∧ (∀ k, 3 ≤ k → g' 22 0 k = g 22 0 k) := by
  obtain ⟨g', b, hb, p1, p2, p3, p4⟩ := fl_22 x 3 0 g (by omega) (by omega)
  refine ⟨g', e_A_fill (n := b + 6) rfl (pxs_px (st := [5]) 6 0 _ _ _ ?_), p1, p2, fun k hk => p3 k (Nat.zero_le _) hk, fun k hk => p4 k (Or.inr hk)⟩
  refine (y_A_fill_22_0 (rn_A_fill b) x g).trans ?_
  rw [on0]; exact hb
theorem fl_23 (x : Int32) : ∀ (m t : Nat) (g : mG), 3 - t ≤ m → t ≤ 3 → ∃ (g' : mG) (b : Nat), rn_A_fill b 5 [some (.inr (23, 0)), some (.inl x), some (.inl (nI t)), some (.inl (nI 3))] [] g = some (none, g') ∧ (∀ a', a' ≠ 23 → g' a' = g a') ∧ (∀ j', j' ≠ 0 → g' 23 j' = g 23 j') ∧ (∀ k, t ≤ k → k < 3 → g' 23 0 k = x) ∧ (∀ k, k < t ∨ 3 ≤ k → g' 23 0 k = g 23 0 k) := by
  have done : ∀ (t : Nat) (g : mG), t = 3 → ∃ (g' : mG) (b : Nat), rn_A_fill b 5 [some (.inr (23, 0)), some (.inl x), some (.inl (nI t)), some (.inl (nI 3))] [] g = some (none, g') ∧ (∀ a', a' ≠ 23 → g' a' = g a') ∧ (∀ j', j' ≠ 0 → g' 23 j' = g 23 j') ∧ (∀ k, t ≤ k → k < 3 → g' 23 0 k = x) ∧ (∀ k, k < t ∨ 3 ≤ k → g' 23 0 k = g 23 0 k) := by
    rintro t g rfl
    refine ⟨g, 0 + 10, pxs_px (st := [5]) 10 5 _ _ _ ?_, fun _ _ => rfl, fun _ _ => rfl, fun k h1 h2 => absurd h2 (by omega), fun _ _ => rfl⟩
    refine (y_A_fill_23_5 (rn_A_fill 0) x (nI 3) (nI 3) g).trans ?_
    rw [if_neg (show ¬ nI 3 < nI 3 by decide)]
  intro m
  induction m with
  | zero => intro t g h1 h2; exact done t g (by omega)
  | succ m ih =>
    intro t g h1 h2
    by_cases e : t = 3
    · exact done t g e
    · obtain ⟨g', b, hb, p1, p2, p3, p4⟩ := ih (t + 1) (st3 g 23 0 t x) (by omega) (by omega)
      have e1 : nI t + Int32.ofInt 1 = nI (t + 1) := by rw [on1]; exact nI_add t 1
      refine ⟨g', b + 10, pxs_px (st := [5]) 10 5 _ _ _ ?_, fun a' ha => ?_, fun j' hj => ?_, fun k hk1 hk2 => ?_, fun k hk => ?_⟩
      · refine (y_A_fill_23_5 (rn_A_fill b) x (nI t) (nI 3) g).trans ?_
        rw [if_pos (show nI t < nI 3 by rw [nI_ltI (by omega) (by omega)]; omega), if_pos (show inB (nI t) 3 by rw [nI_inB (by omega)]; omega), nI_clamp (by omega), e1]
        exact hb
      · rw [p1 a' ha, st3_a ha]
      · rw [p2 j' hj]
        funext k
        exact st3_j hj
      · by_cases ek : k = t
        · subst ek
          rw [p4 k (Or.inl (by omega)), st3_same]
        · exact p3 k (by omega) hk2
      · rw [p4 k (by omega)]
        exact st3_k (by omega)
theorem s_A_fill_23 (x : Int32) (g : mG) : ∃ g', f_A_fill [.inr (23, 0), .inl x] g = some g' ∧ (∀ a', a' ≠ 23 → g' a' = g a') ∧ (∀ j', j' ≠ 0 → g' 23 j' = g 23 j') ∧ (∀ k, k < 3 → g' 23 0 k = x) ∧ (∀ k, 3 ≤ k → g' 23 0 k = g 23 0 k) := by
  obtain ⟨g', b, hb, p1, p2, p3, p4⟩ := fl_23 x 3 0 g (by omega) (by omega)
  refine ⟨g', e_A_fill (n := b + 6) rfl (pxs_px (st := [5]) 6 0 _ _ _ ?_), p1, p2, fun k hk => p3 k (Nat.zero_le _) hk, fun k hk => p4 k (Or.inr hk)⟩
  refine (y_A_fill_23_0 (rn_A_fill b) x g).trans ?_
  rw [on0]; exact hb
/-- the reference clears its three rows -/
theorem clR {n : Nat} : ∀ (m t : Nat) (r : mG), 61 - t ≤ m → t ≤ 61 → ∃ r' : mG, SameR r r' ∧ (∀ k, t ≤ k → k < 61 → r' 8 0 k = Int32.ofInt (-1) ∧ r' 9 0 k = 0 ∧ r' 11 0 k = 0) ∧ (∀ k, k < t → r' 8 0 k = r 8 0 k ∧ r' 9 0 k = r 9 0 k ∧ r' 11 0 k = r 11 0 k) ∧
    (∀ (b : Nat) (res : mRes), rn_R_verify b 12 [some (.inr (0, 0)), some (.inl (nI n)), some (.inl (nI 61)), none, none] [] r' = some res → ∃ b', rn_R_verify b' 12 [some (.inr (0, 0)), some (.inl (nI n)), some (.inl (nI t)), none, none] [] r = some res) := by
  intro m
  induction m with
  | zero => intro t r h1 h2; have e : t = 61 := by omega
            subst e; exact ⟨r, SameR.rf, fun k a b => absurd b (by omega), fun _ _ => ⟨rfl, rfl, rfl⟩, fun b _ h => ⟨b, h⟩⟩
  | succ m ih =>
    intro t r h1 h2
    by_cases e : t = 61
    · subst e; exact ⟨r, SameR.rf, fun k a b => absurd b (by omega), fun _ _ => ⟨rfl, rfl, rfl⟩, fun b _ h => ⟨b, h⟩⟩
    · obtain ⟨r', p1, p2, p3, p4⟩ := ih (t + 1) (st3 (st3 (st3 r 8 0 t (Int32.ofInt (-1))) 9 0 t (Int32.ofInt 0)) 11 0 t (Int32.ofInt 0)) (by omega) (by omega)
      have e8 : (st3 (st3 (st3 r 8 0 t (Int32.ofInt (-1))) 9 0 t (Int32.ofInt 0)) 11 0 t (Int32.ofInt 0)) 8 0 = upd (r 8 0) t (Int32.ofInt (-1)) := by rw [st3_a (by decide), st3_a (by decide), st3_row]
      have e9 : (st3 (st3 (st3 r 8 0 t (Int32.ofInt (-1))) 9 0 t (Int32.ofInt 0)) 11 0 t (Int32.ofInt 0)) 9 0 = upd (r 9 0) t (Int32.ofInt 0) := by rw [st3_a (by decide), st3_row, st3_a (by decide)]
      have e11 : (st3 (st3 (st3 r 8 0 t (Int32.ofInt (-1))) 9 0 t (Int32.ofInt 0)) 11 0 t (Int32.ofInt 0)) 11 0 = upd (r 11 0) t (Int32.ofInt 0) := by rw [st3_row, st3_a (by decide), st3_a (by decide)]
      have ew : nI t + Int32.ofInt 1 = nI (t + 1) := by rw [on1]; exact nI_add t 1
      refine ⟨r', SameR.tr (fun a x y z => by rw [st3_a z, st3_a y, st3_a x]) p1, fun k hk1 hk2 => ?_, fun k hk => ?_, fun b res h => ?_⟩
      · by_cases ek : k = t
        · subst ek
          obtain ⟨q1, q2, q3⟩ := p3 k (by omega)
          rw [q1, q2, q3, e8, e9, e11, pk_us, pk_us, pk_us]
          exact ⟨rfl, of0, of0⟩
        · exact p2 k (by omega) hk2
      · obtain ⟨q1, q2, q3⟩ := p3 k (by omega)
        rw [q1, q2, q3, e8, e9, e11, pk_un (by omega), pk_un (by omega), pk_un (by omega)]
        exact ⟨rfl, rfl, rfl⟩
      · obtain ⟨b', hb'⟩ := p4 b res h
        refine ⟨b' + 25, pxs_px (st := [12, 87]) 25 12 _ _ _ ?_⟩
        refine (y_R_verify_12 (rn_R_verify b') (nI n) (nI t) r).trans ?_
        have hB : inB (nI t) 61 := by rw [nI_inB (by omega)]; omega
        simp only [isB_0, if_true, nI_clamp (show t < 2 ^ 31 by omega), ew]
        rw [if_pos (show nI t < Int32.ofInt 61 by rw [on61, nI_ltI (by omega) (by omega)]; omega), if_pos hB, if_pos hB, if_pos hB]
        exact hb'
