theorem cpy22 {t q s : Nat} (ht : t < 4) (hs2 : s ≤ 16) (hq : q < s) : ∀ m c (g : mG), c + m = 3 → g 27 0 t = nI s → szOk (g 27 0) → ∃ n g', rn_T_copyRow n 3 [some (.inr (3, 0)), some (.inl (nI t)), some (.inl (nI q)), some (.inr (22, 0)), some (.inl (nI c))] [] g = some (none, g') ∧ (∀ x, x ≠ 22 → g' x = g x) ∧ (∀ i, c ≤ i → i < 3 → g' 22 0 i = g 26 0 (48 * t + 3 * q + i)) ∧ (∀ i, i < c → g' 22 0 i = g 22 0 i) := by
  intro m
  induction m with
  | zero =>
    intro c g hc hs ho
    have e : c = 3 := by omega
    subst e
    refine ⟨0 + 15, g, pxs_px (st := [3]) 15 3 _ _ _ ((y_T_copyRow_22_3 (rn_T_copyRow 0) (nI t) (nI q) (nI 3) g).trans ?_), fun _ _ => rfl, fun i h1 h2 => absurd h1 (by omega), fun _ _ => rfl⟩
    rw [if_neg (by decide)]
  | succ m ih =>
    intro c g hc hs ho
    obtain ⟨n, g', h1, h2, h3, h4⟩ := ih (c + 1) (st3 g 22 0 c (g 26 0 (48 * t + 3 * q + c))) (by omega) hs ho
    refine ⟨n + 15, g', pxs_px (st := [3]) 15 3 _ _ _ ((y_T_copyRow_22_3 (rn_T_copyRow n) (nI t) (nI q) (nI c) g).trans ?_), fun x hx => ?_, fun i i1 i2 => ?_, fun i hi => ?_⟩
    · rw [if_pos (show nI c < nI 3 by rw [nI_ltI (by omega) (by omega)]; omega), s_T_readN ht hs hs2 hq (show c < 3 by omega) ho, Option.bind_some, if_pos (show inB (nI c) 3 by rw [nI_inB (by omega)]; omega), nI_clamp (by omega), on1, nA (by omega)]
      exact h1
    · rw [h2 x hx, st3_a hx]
    · by_cases e : i = c
      · subst e; rw [h4 i (by omega), st3_same]
      · exact h3 i (by omega) i2
    · rw [h4 i (by omega), st3_k (by omega)]
theorem cpy23 {t q s : Nat} (ht : t < 4) (hs2 : s ≤ 16) (hq : q < s) : ∀ m c (g : mG), c + m = 3 → g 27 0 t = nI s → szOk (g 27 0) → ∃ n g', rn_T_copyRow n 3 [some (.inr (3, 0)), some (.inl (nI t)), some (.inl (nI q)), some (.inr (23, 0)), some (.inl (nI c))] [] g = some (none, g') ∧ (∀ x, x ≠ 23 → g' x = g x) ∧ (∀ i, c ≤ i → i < 3 → g' 23 0 i = g 26 0 (48 * t + 3 * q + i)) ∧ (∀ i, i < c → g' 23 0 i = g 23 0 i) := by
  intro m
  induction m with
  | zero =>
    intro c g hc hs ho
    have e : c = 3 := by omega
    subst e
    refine ⟨0 + 15, g, pxs_px (st := [3]) 15 3 _ _ _ ((y_T_copyRow_23_3 (rn_T_copyRow 0) (nI t) (nI q) (nI 3) g).trans ?_), fun _ _ => rfl, fun i h1 h2 => absurd h1 (by omega), fun _ _ => rfl⟩
    rw [if_neg (by decide)]
  | succ m ih =>
    intro c g hc hs ho
    obtain ⟨n, g', h1, h2, h3, h4⟩ := ih (c + 1) (st3 g 23 0 c (g 26 0 (48 * t + 3 * q + c))) (by omega) hs ho
    refine ⟨n + 15, g', pxs_px (st := [3]) 15 3 _ _ _ ((y_T_copyRow_23_3 (rn_T_copyRow n) (nI t) (nI q) (nI c) g).trans ?_), fun x hx => ?_, fun i i1 i2 => ?_, fun i hi => ?_⟩
    · rw [if_pos (show nI c < nI 3 by rw [nI_ltI (by omega) (by omega)]; omega), s_T_readN ht hs hs2 hq (show c < 3 by omega) ho, Option.bind_some, if_pos (show inB (nI c) 3 by rw [nI_inB (by omega)]; omega), nI_clamp (by omega), on1, nA (by omega)]
      exact h1
    · rw [h2 x hx, st3_a hx]
    · by_cases e : i = c
      · subst e; rw [h4 i (by omega), st3_same]
      · exact h3 i (by omega) i2
    · rw [h4 i (by omega), st3_k (by omega)]
theorem s_T_copy22 {t q s : Nat} {g : mG} (ht : t < 4) (hs : g 27 0 t = nI s) (hs2 : s ≤ 16) (ho : szOk (g 27 0)) (hq : q < s) : ∃ g', f_T_copyRow [.inr (3, 0), .inl (nI t), .inl (nI q), .inr (22, 0)] g = some g' ∧ (∀ x, x ≠ 22 → g' x = g x) ∧ (∀ i, i < 3 → g' 22 0 i = g 26 0 (48 * t + 3 * q + i)) := by
  obtain ⟨n, g', h1, h2, h3, -⟩ := cpy22 ht hs2 hq 3 0 g rfl hs ho
  refine ⟨g', e_T_copyRow (n := n + 3) rfl (pxs_px (st := [3]) 3 0 _ _ _ ((y_T_copyRow_22_0 (rn_T_copyRow n) (nI t) (nI q) g).trans ?_)), h2, fun i hi => h3 i (by omega) hi⟩
  rw [on0]; exact h1
theorem s_T_copy23 {t q s : Nat} {g : mG} (ht : t < 4) (hs : g 27 0 t = nI s) (hs2 : s ≤ 16) (ho : szOk (g 27 0)) (hq : q < s) : ∃ g', f_T_copyRow [.inr (3, 0), .inl (nI t), .inl (nI q), .inr (23, 0)] g = some g' ∧ (∀ x, x ≠ 23 → g' x = g x) ∧ (∀ i, i < 3 → g' 23 0 i = g 26 0 (48 * t + 3 * q + i)) := by
  obtain ⟨n, g', h1, h2, h3, -⟩ := cpy23 ht hs2 hq 3 0 g rfl hs ho
  refine ⟨g', e_T_copyRow (n := n + 3) rfl (pxs_px (st := [3]) 3 0 _ _ _ ((y_T_copyRow_23_0 (rn_T_copyRow n) (nI t) (nI q) g).trans ?_)), h2, fun i hi => h3 i (by omega) hi⟩
  rw [on0]; exact h1
