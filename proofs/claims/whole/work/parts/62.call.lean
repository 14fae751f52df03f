/-! the call on both sides -/
abbrev fuC (c : Int32) : Int32 := if (Int32.ofInt 0) < (if (Int32.ofInt 2000) < c then (Int32.ofInt 2000) else c) then (if (Int32.ofInt 2000) < c then (Int32.ofInt 2000) else c) else (Int32.ofInt 0)
theorem fuelN (c : Int32) : ∃ m, m ≤ 2000 ∧ fuC c = nI m ∧ ((c < 0 ∧ nI m = Int32.ofInt 0) ∨ (¬ c < 0 ∧ Int32.ofInt 2000 < c ∧ nI m = Int32.ofInt 2000) ∨ (¬ c < 0 ∧ ¬ Int32.ofInt 2000 < c ∧ c = nI m)) := by
  unfold fuC
  by_cases h1 : Int32.ofInt 2000 < c
  · refine ⟨2000, by omega, ?_, Or.inr (Or.inl ⟨?_, h1, on2000.symm⟩)⟩
    · simp only [if_pos h1]
      rw [if_pos (by decide), on2000]
    · rw [i_lt, ti2000] at h1
      rw [i_lt, tiz]; omega
  · simp only [if_neg h1]
    by_cases h2 : c < 0
    · refine ⟨0, by omega, ?_, Or.inl ⟨h2, on0.symm⟩⟩
      rw [if_neg (by rw [i_lt, tiz] at h2; rw [i_lt, ti0]; omega), on0]
    · rw [i_lt, ti2000] at h1
      rw [i_lt, tiz] at h2
      have e : c = nI c.toNatClampNeg := by rw [i_eq, nI_toInt (by rw [cl_toInt]; omega), cl_toInt]; omega
      refine ⟨c.toNatClampNeg, by rw [cl_toInt]; omega, ?_, Or.inr (Or.inr ⟨by rw [i_lt, tiz]; omega, by rw [i_lt, ti2000]; omega, e⟩)⟩
      by_cases h3 : Int32.ofInt 0 < c
      · rw [if_pos h3]; exact e
      · rw [if_neg h3]
        rw [i_lt, ti0] at h3
        rw [i_eq, ti0, nI_toInt (by rw [cl_toInt]; omega), cl_toInt]; omega
abbrev r0S (r : mG) : mG := st3 (st3 (st3 (st3 (st3 r 0 0 22 (Int32.ofInt 0)) 0 0 24 (Int32.ofInt 0)) 0 0 25 (Int32.ofInt 0)) 0 0 26 (Int32.ofInt 0)) 0 0 27 (Int32.ofInt 0)
theorem callN {g1 r : mG} {a b c y : Int32} {m n : Nat} {R' : mG} (hc : (c < 0 ∧ nI m = Int32.ofInt 0) ∨ (¬ c < 0 ∧ Int32.ofInt 2000 < c ∧ nI m = Int32.ofInt 2000) ∨ (¬ c < 0 ∧ ¬ Int32.ofInt 2000 < c ∧ c = nI m)) (ha : ¬ a < 0) (ha2 : a < r 0 0 7)
    (hn : rn_R_call n 69 [some (.inr (0, 0)), some (.inl a), some (.inl b), some (.inl c), some (.inl (nI 0))] [] (st3 (r0S r) 0 0 23 (nI m)) = some (some (.inl y), R')) : f_R_call [.inr (0, 0), .inl a, .inl b, .inl c] r = some (y, R') := by
  refine e_R_call (n := n + 33) rfl (pxs_px (st := [69, 98, 145, 192, 221]) 33 0 _ _ _ ((y_R_call_0 (rn_R_call n) a b c r).trans ?_))
  rw [if_neg ha, if_pos ha2]
  rw [← on0] at hn
  rcases hc with ⟨h1, h2⟩ | ⟨h1, h2, h3⟩ | ⟨h1, h2, h3⟩
  · rw [if_pos h1]
    rw [h2] at hn
    exact hn
  · rw [if_neg h1, if_pos h2, ← h3]
    exact hn
  · rw [if_neg h1, if_neg h2]
    subst h3
    exact hn
theorem face_call {g r : mG} (a b c : Int32) (h : Inv g r) : Agree (f_B_call [.inr (0, 0), .inl a, .inl b, .inl c] g) (f_R_call [.inr (0, 0), .inl a, .inl b, .inl c] r) := by
  obtain ⟨hL, hT, hG, hN, hM⟩ := h
  obtain ⟨m, hm, hfu, hcm⟩ := fuelN c
  obtain ⟨g0, hg0⟩ : ∃ G, G = st3 (st3 g 1 0 4 (Int32.ofInt 0)) 1 0 8 (Int32.ofInt 0) := ⟨_, rfl⟩
  obtain ⟨g1, f1, f2, f3, f4, f5⟩ := s_A_fill_20 (Int32.ofInt 0) g0
  have q1 : ∀ x, x ≠ 1 → x ≠ 20 → g1 x = g x := fun x n1 n2 => by rw [f2 x n2, hg0, st3_a n1, st3_a n1]
  have iL : InvL g1 (r0S r) := by
    unfold InvL at hL ⊢
    rw [q1 24 (by decide) (by decide), q1 25 (by decide) (by decide), q1 2 (by decide) (by decide)]; exact hL
  have iT : InvT g1 (r0S r) := by
    unfold InvT at hT ⊢
    rw [q1 26 (by decide) (by decide), q1 27 (by decide) (by decide)]; exact hT
  have iG : InvG g1 (r0S r) := by
    unfold InvG at hG ⊢
    rw [q1 30 (by decide) (by decide), q1 2 (by decide) (by decide)]; exact hG
  have iN : InvN g1 (r0S r) := by
    refine ⟨f4 0 (by omega), f4 1 (by omega), f4 2 (by omega), f4 3 (by omega), ?_⟩
    rw [f2 1 (by decide), hg0]; rfl
  have e9 : g1 1 0 9 = g 1 0 9 := by rw [f2 1 (by decide), hg0]; rfl
  have e8 : g1 1 0 8 = nI 0 := by rw [f2 1 (by decide), hg0, st3_same, on0]
  have iM : InvM g1 := by
    unfold InvM at hM ⊢
    rw [q1 21 (by decide) (by decide), e9]; exact hM
  have h2e : g1 2 = g 2 := q1 2 (by decide) (by decide)
  by_cases ha : 0 ≤ a.toInt ∧ a.toInt < (g 2 0 3).toInt
  · obtain ⟨P, hPa, rfl⟩ : ∃ P : Nat, (P : Int) < (g 2 0 3).toInt ∧ a = nI P := ⟨a.toNatClampNeg, by rw [cl_toInt]; omega, by have := ti_hi a; rw [i_eq, nI_toInt (by rw [cl_toInt]; omega), cl_toInt]; omega⟩
    have h12 : (g 2 0 3).toInt ≤ 12 := hL.2.2.2.2.1.2
    obtain ⟨g2, hg2⟩ : ∃ G, G = stR (stR g1 28 0 (cl (g1 28 0) (g1 26 0) 192)) 29 0 (cl (g1 29 0) (g1 27 0) 4) := ⟨_, rfl⟩
    have hk := s_T_keep g1
    rw [← hg2] at hk
    obtain ⟨r1, hr1⟩ : ∃ G, G = st3 (r0S r) 0 0 23 (nI m) := ⟨_, rfl⟩
    obtain ⟨r2, hr2⟩ : ∃ G, G = stR r1 3 0 (cl (r1 3 0) (r1 1 0) 4) := ⟨_, rfl⟩
    obtain ⟨r3, hr3⟩ : ∃ G, G = stR r2 4 0 (cl (r2 4 0) (r2 2 0) 192) := ⟨_, rfl⟩
    obtain ⟨r4, hr4⟩ : ∃ G, G = st3 (st3 r3 0 0 12 (Int32.ofInt 0)) 0 0 21 (Int32.ofInt 7) := ⟨_, rfl⟩
    have k2 : ∀ x, x ≠ 28 → x ≠ 29 → g2 x = g1 x := fun x n1 n2 => by rw [hg2, stR_a n2, stR_a n1]
    have k4 : ∀ x, x ≠ 0 → x ≠ 3 → x ≠ 4 → r4 x = r x := fun x n1 n2 n3 => by
      rw [hr4, st3_a n1, st3_a n1, hr3, stR_a n3, hr2, stR_a n2, hr1, st3_a n1]
      unfold r0S
      rw [st3_a n1, st3_a n1, st3_a n1, st3_a n1, st3_a n1]
    have z0 : ∀ i, i ≠ 12 → i ≠ 21 → i ≠ 23 → r4 0 0 i = r0S r 0 0 i := fun i n1 n2 n3 => by
      rw [hr4, st3_k n2, st3_k n1, hr3, stR_a (by decide), hr2, stR_a (by decide), hr1, st3_k n3]
    have hC : Cm g2 r4 := by
      refine ⟨?_, ?_, ?_, ?_, ?_, ?_, ?_⟩
      · unfold InvL at hL ⊢
        rw [k2 24 (by decide) (by decide), k2 25 (by decide) (by decide), k2 2 (by decide) (by decide), q1 24 (by decide) (by decide), q1 25 (by decide) (by decide), h2e, k4 6 (by decide) (by decide) (by decide), k4 7 (by decide) (by decide) (by decide), z0 7 (by decide) (by decide) (by decide), z0 8 (by decide) (by decide) (by decide)]
        exact hL
      · unfold InvT at hT ⊢
        rw [k2 26 (by decide) (by decide), k2 27 (by decide) (by decide), q1 26 (by decide) (by decide), q1 27 (by decide) (by decide), k4 1 (by decide) (by decide) (by decide), k4 2 (by decide) (by decide) (by decide)]
        exact hT
      · unfold InvG at hG ⊢
        rw [k2 30 (by decide) (by decide), k2 2 (by decide) (by decide), q1 30 (by decide) (by decide), h2e, k4 5 (by decide) (by decide) (by decide)]
        exact hG
      · unfold InvN at iN ⊢
        rw [k2 20 (by decide) (by decide), k2 1 (by decide) (by decide), z0 24 (by decide) (by decide) (by decide), z0 25 (by decide) (by decide) (by decide), z0 26 (by decide) (by decide) (by decide), z0 27 (by decide) (by decide) (by decide), z0 22 (by decide) (by decide) (by decide)]
        exact iN
      · intro k hk
        rw [hg2, stR_a (show 28 ≠ 29 by decide), stR_same, show cl (g1 28 0) (g1 26 0) 192 k = g1 26 0 k from if_pos hk, hr4, hr3]
        show _ = cl (r2 4 0) (r2 2 0) 192 k
        rw [show cl (r2 4 0) (r2 2 0) 192 k = r2 2 0 k from if_pos hk, hr2, hr1, iT.1]
        rfl
      · intro k hk
        rw [hg2, stR_same, show cl (g1 29 0) (g1 27 0) 4 k = g1 27 0 k from if_pos hk, hr4, hr3, hr2]
        show _ = cl (r1 3 0) (r1 1 0) 4 k
        rw [show cl (r1 3 0) (r1 1 0) 4 k = r1 1 0 k from if_pos hk, hr1, iT.2.1]
        rfl
      · intro t ht
        rw [hg2, stR_same, show cl (g1 29 0) (g1 27 0) 4 t = g1 27 0 t from if_pos ht]
        exact iT.2.2 t ht
    obtain ⟨g', e1, e2, e3, e4, e5, e6, e7, _⟩ := enterB (n := 0) (P' := P) (b := b) (c := Int32.ofInt 0) (g := g2) (r := r4) (by rw [k2 1 (by decide) (by decide)]; exact e8) (by rw [hr4, st3_k (by decide), st3_same, on0]) (by omega) (fun i hi => by rw [k2 21 (by decide) (by decide)]; exact iM.1 i hi) hC (by rw [k2 2 (by decide) (by decide), h2e]; exact hPa) (Or.inl of0)
    rw [st3_id (by rw [e5]; exact of0.symm)] at e6
    have hrun : Run 0 P 0 0 g' (enR 0 (nI P) b (Int32.ofInt 0) r4) := ⟨e3, e6, by rw [enR_14, if_pos rfl, on0], fun j hj => absurd hj (by omega), e4⟩
    have x7 : enR 0 (nI P) b (Int32.ofInt 0) r4 0 0 21 = Int32.ofInt 7 := by
      show r4 0 0 21 = _
      rw [hr4, st3_same]
    have x24 : enR 0 (nI P) b (Int32.ofInt 0) r4 0 0 24 = nI 0 := by
      show r4 0 0 24 = _
      rw [z0 24 (by decide) (by decide) (by decide)]
      exact on0
    have x23 : enR 0 (nI P) b (Int32.ofInt 0) r4 0 0 23 = nI m := by
      show r4 0 0 23 = _
      rw [hr4, st3_k (by decide), st3_k (by decide), hr3, stR_a (by decide), hr2, stR_a (by decide), hr1, st3_same]
    obtain ⟨y, n, n', G', R', w1, w2, w3⟩ := loopB (a := nI P) (b := b) (c := nI m) (a' := nI P) (b' := b) (c' := c) (u := some (.inl (nI 192))) m 0 m (Int32.ofInt (-1)) g' _ (hrun.post hrun.snd x7) x24 x23 (by omega) hm
    refine ⟨y, G', R', e_B_call (n := 11) rfl ?_, ?_, w3⟩
    · have hp : f_M_perform [.inr (1, 0), .inl (nI P), .inl b, .inl (nI m)] g = some (y, G') := by
        refine e_M_perform (n := n + 26) rfl (pxs_px (st := [50]) 26 0 _ _ _ ((y_M_perform_0 (rn_M_perform n) (nI P) b (nI m) g).trans ?_))
        rw [← hg0, f1]
        simp only [Option.bind_some, s_L_has, bI_0, h2e]
        rw [if_neg (fun z => z ha), hk]
        simp only [Option.bind_some]
        rw [e1]
        simp only [Option.bind_some]
        exact w1
      rw [x_B_call]
      show (f_M_perform [.inr (1, 0), .inl (nI P), .inl b, .inl (fuC c)] g).bind _ = _
      rw [hfu, hp]
      simp only [Option.bind_some]
    · have h98 : rn_R_call (n' + 16) 98 [some (.inr (0, 0)), some (.inl (nI P)), some (.inl b), some (.inl c), some (.inl (nI 192))] [] (stR r2 4 0 (cl (r2 4 0) (r2 2 0) 192)) = some (some (.inl y), R') := by
        refine pxs_px (st := [69, 98, 145, 192, 221]) 16 98 _ _ _ ((y_R_call_98 (rn_R_call n') (nI P) b c (nI 192) _).trans ?_)
        rw [if_neg (show ¬ nI 192 < Int32.ofInt 192 by rw [on192, nI_ltI (by omega) (by omega)]; omega), ← hr3, ← hr4, e2]
        simp only [Option.bind_some]
        exact w2
      obtain ⟨n1, h1⟩ := kL98 h98 192 0 rfl
      rw [cl_0] at h1
      have h69 : rn_R_call (n1 + 14) 69 [some (.inr (0, 0)), some (.inl (nI P)), some (.inl b), some (.inl c), some (.inl (nI 4))] [] (stR r1 3 0 (cl (r1 3 0) (r1 1 0) 4)) = some (some (.inl y), R') := by
        refine pxs_px (st := [69, 98, 145, 192, 221]) 14 69 _ _ _ ((y_R_call_69 (rn_R_call n1) (nI P) b c (nI 4) _).trans ?_)
        rw [if_neg (show ¬ nI 4 < Int32.ofInt 4 by rw [on4, nI_ltI (by omega) (by omega)]; omega), ← hr2, on0]
        exact h1
      obtain ⟨n2, h2⟩ := kL69 h69 4 0 rfl
      rw [cl_0, hr1] at h2
      exact callN (g1 := g1) hcm (by rw [i_lt, tiz]; omega) (by rw [i_lt, ← hL.2.2.1]; exact ha.2) h2
  · refine ⟨Int32.ofInt 6, g1, r0S r, e_B_call (n := 11) rfl ?_, e_R_call (n := 0 + 33) rfl (pxs_px (st := [69, 98, 145, 192, 221]) 33 0 _ _ _ ((y_R_call_0 (rn_R_call 0) a b c r).trans ?_)), iL, iT, iG, iN, iM⟩
    · have hp : f_M_perform [.inr (1, 0), .inl a, .inl b, .inl (fuC c)] g = some (Int32.ofInt 6, g1) := by
        refine e_M_perform (n := 0 + 26) rfl (pxs_px (st := [50]) 26 0 _ _ _ ((y_M_perform_0 (rn_M_perform 0) a b (fuC c) g).trans ?_))
        rw [← hg0, f1]
        simp only [Option.bind_some, s_L_has, bI_0, h2e]
        rw [if_pos ha]
      rw [x_B_call]
      show (f_M_perform [.inr (1, 0), .inl a, .inl b, .inl (fuC c)] g).bind _ = _
      rw [hp]
      simp only [Option.bind_some]
    · by_cases hz : a < 0
      · rw [if_pos hz]
      · rw [if_neg hz, if_neg (fun z => ha ⟨by rw [i_lt, tiz] at hz; omega, by rw [i_lt, ← hL.2.2.1] at z; exact z⟩)]
