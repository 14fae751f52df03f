theorem Wt.keep {j P k h : Nat} {g r g' r' : mG} (hw : Wt j P k h g r) (e24 : g' 24 = g 24) (e25 : g' 25 = g 25) (e2 : g' 2 0 3 = g 2 0 3) (ea : ∀ a, 10 ≤ a → a ≤ 14 → g' a j = g a j) (e8 : g' 10 (j + 1) 8 = g 10 (j + 1) 8)
    (r12 : r' 12 0 j = r 12 0 j) (r13 : r' 13 0 j = r 13 0 j) (r14 : r' 14 0 j = r 14 0 j) (r19 : r' 19 0 j = r 19 0 j) (r19' : r' 19 0 (j + 1) = r 19 0 (j + 1)) (r15 : ∀ i, i < 13 → r' 15 0 (13 * j + i) = r 15 0 (13 * j + i)) (r16 : ∀ i, i < 8 → r' 16 0 (8 * j + i) = r 16 0 (8 * j + i)) (r17 : ∀ i, i < 3 → r' 17 0 (3 * j + i) = r 17 0 (3 * j + i)) (r18 : ∀ i, i < 3 → r' 18 0 (3 * j + i) = r 18 0 (3 * j + i)) : Wt j P k h g' r' := by
  obtain ⟨⟨c0, c1, c2, c3, c4, c5, c6, c7, c8⟩, w1, w2, w3, w4⟩ := hw
  have t10 := ea 10 (by omega) (by omega)
  have t11 := ea 11 (by omega) (by omega)
  have t12 := ea 12 (by omega) (by omega)
  have t13 := ea 13 (by omega) (by omega)
  have t14 := ea 14 (by omega) (by omega)
  refine ⟨⟨?_, ?_, ?_, ?_, ?_, ?_, ?_, ?_, ?_⟩, ?_, w2, ?_, ?_⟩
  · rw [e2]; exact c0
  · rw [t10, r12]; exact c1
  · rw [t10, r13]; exact c2
  · rw [t10]; exact c3
  · intro i hi; rw [t11, r15 i (by omega)]; exact c4 i hi
  · intro i hi; rw [t12, r16 i hi]; exact c5 i hi
  · intro i hi; rw [t13, r17 i hi]; exact c6 i hi
  · intro i hi; rw [t14, r18 i hi]; exact c7 i hi
  · rw [t10, r19]; exact c8
  · unfold wds lns; rw [e24, e25]; exact w1
  · rw [r19', r14]; exact w3
  · rw [r19', r14, r15 h (by omega), e8]; exact w4
theorem pushB {d P k h : Nat} {g r : mG} (x : Int32) (hr : Run d P k h g r) (h12 : h < 12) : ∃ (g' r' : mG), f_F_push [.inr (10, d), .inl x] g = some g' ∧ f_R_push [.inr (0, 0), .inl x] r = some r' ∧ Run d P k (h + 1) g' r' := by
  obtain ⟨⟨d1, d2, d3, d4, d5⟩, ⟨⟨f0, f0', f0''⟩, f1, f2, f3, f4, f5, f6, f7, f8⟩, hh, hb, hc⟩ := hr
  refine ⟨st3 (st3 g 11 d h x) 10 d 1 (nI (h + 1)), st3 (st3 r 15 0 (13 * d + h) x) 14 0 d (nI (h + 1)), s_F_push f3 h12, s_R_push d3 d1 hh (by omega), ⟨d1, d2, d3, d4, d5⟩, ⟨⟨f0, f0', by omega⟩, ?_, ?_, st3_same, fun i hi => ?_, f5, f6, f7, ?_⟩, st3_same, fun j hj => ?_, hc⟩
  · rw [st3_k (by decide), st3_a (by decide), st3_a (by decide), st3_a (by decide)]; exact f1
  · rw [st3_k (by decide), st3_a (by decide), st3_a (by decide), st3_a (by decide)]; exact f2
  · show st3 g 11 d h x 11 d i = st3 r 15 0 (13 * d + h) x 15 0 (13 * d + i)
    by_cases e : i = h
    · subst e; rw [st3_same, st3_same]
    · rw [st3_k e, st3_k (by omega)]; exact f4 i (by omega)
  · rw [st3_k (by decide), st3_a (by decide), st3_a (by decide), st3_a (by decide)]; exact f8
  · obtain ⟨P', k', h', hw⟩ := hb j hj
    refine ⟨P', k', h', hw.keep (by rw [st3_a (by decide), st3_a (by decide)]) (by rw [st3_a (by decide), st3_a (by decide)]) (by rw [st3_a (by decide), st3_a (by decide)]) (fun a _ _ => ?_) (by rw [st3_k (by decide), st3_a (by decide)]) (by rw [st3_a (by decide), st3_a (by decide)]) (by rw [st3_a (by decide), st3_a (by decide)]) (by rw [st3_k (by omega), st3_a (by decide)]) (by rw [st3_a (by decide), st3_a (by decide)]) (by rw [st3_a (by decide), st3_a (by decide)]) (fun i hi => ?_) (fun i hi => by rw [st3_a (by decide), st3_a (by decide)]) (fun i hi => by rw [st3_a (by decide), st3_a (by decide)]) (fun i hi => by rw [st3_a (by decide), st3_a (by decide)])⟩
    · funext i
      unfold st3
      rw [if_neg (fun q => by omega), if_neg (fun q => by omega)]
    · rw [st3_a (by decide), st3_k (by omega)]
