theorem rowN {g : mG} {t s : Nat} {x : Int32} (ht : t < 4) (hs : g 27 0 t = nI s) (hs2 : s ≤ 16) (hz : pHas (g 27 0) (nI t) x) : ∃ q, q < s ∧ x = nI q := by
  obtain ⟨_, z1, z2⟩ := hz
  rw [nI_clamp (by omega), hs, nI_toInt (by omega)] at z2
  exact ⟨x.toNatClampNeg, by rw [cl_toInt]; omega, by rw [i_eq, nI_toInt (by rw [cl_toInt]; omega), cl_toInt]; omega⟩
section
variable {d P k h : Nat} {A B A' B' : Int32} {g r R : mG}
theorem so_19 {t : Nat} (ht : t < 4) (hr : Run d P k (h + 1) g R) (hs : Sok (wds g P) (lns g P) P k (h + 1)) (h7 : R 0 0 21 = Int32.ofInt 7) : Res (tS (nI 6) 19 d (nI t) B g) (tR 19 d (nI t) B' r R) R := by
  have hd := hr.1.1
  have h12 : h + 1 ≤ 12 := hr.2.1.1.2.2
  have b4 : inB (nI t) 4 := by rw [nI_inB (by omega)]; exact ht
  obtain ⟨x1, g1, r1, a1, b1, h1, o1⟩ := popF hr
  have eT := h1.cm.2.1
  by_cases hz : pHas (g1 27 0) (nI t) x1
  · obtain ⟨s, hs1, hs2⟩ := szN eT.2.2 ht
    obtain ⟨q, hq, rfl⟩ := rowN ht hs1 hs2 hz
    have hsR : r1 1 0 t = nI s := by rw [← eT.2.1]; exact hs1
    obtain ⟨G2, c1, c2, c3⟩ := s_T_copy22 (t := t) (q := q) (s := s) (g := g1) ht hs1 hs2 eT.2.2 hq
    have c4 := s_T_removeRowN (t := t) (q := q) (s := s) (g := G2) ht (by rw [c2 27 (by decide)]; exact hs1) hs2 hq
    obtain ⟨G3, hG3⟩ : ∃ G, G = st3 (stR G2 26 0 (sh (G2 26 0) (48 * t + 3 * q) (3 * (s - q - 1)))) 27 0 t (nI (s - 1)) := ⟨_, rfl⟩
    rw [← hG3] at c4
    obtain ⟨G4, f1, f2, f3, f4, f5⟩ := s_A_fill_23 (Int32.ofInt 0) G3
    obtain ⟨R2, hR2⟩ : ∃ G, G = stR (st3 r1 1 0 t (nI (s - 1))) 2 0 (sh (r1 2 0) (48 * t + 3 * q) (3 * (s - q - 1))) := ⟨_, rfl⟩
    have e3 : ∀ x, x ≠ 22 → x ≠ 26 → x ≠ 27 → G3 x = g1 x := fun x n1 n2 n3 => by rw [hG3, st3_a n3, stR_a n2, c2 x n1]
    have h4 : Run d P k h G4 R2 := by
      refine h1.tab (fun x n1 n2 n3 n4 => by rw [f2 x n2, e3 x n1 n3 n4]) (fun x n1 n2 => by rw [hR2, stR_a n2, st3_a n1]) ⟨?_, ?_, ?_⟩
      · rw [f2 26 (by decide), hG3, hR2, st3_a (by decide), stR_same, stR_same, c2 26 (by decide), eT.1]
      · rw [f2 27 (by decide), hG3, hR2, stR_a (show 1 ≠ 2 by decide)]
        funext i
        by_cases i0 : i = t
        · rw [i0, st3_same, st3_same]
        · rw [st3_k i0, st3_k i0, stR_a (by decide), c2 27 (by decide), eT.2.1]
      · rw [f2 27 (by decide), hG3]
        refine szOk_st (f := fun _ => 0) ?_ (by omega)
        rw [stR_a (by decide), c2 27 (by decide)]; exact eT.2.2
    have k0 : R2 0 = R 0 := by rw [hR2, stR_a (by decide), st3_a (by decide), o1.2 0 (by decide)]
    have hs4 : Sok (wds G4 P) (lns G4 P) P k (h + 1) := by
      unfold wds lns
      rw [f2 24 (by decide), f2 25 (by decide), e3 24 (by decide) (by decide) (by decide), e3 25 (by decide) (by decide) (by decide)]
      exact o1.sok hs
    have e22 : ∀ i, i < 3 → G4 22 0 i = r1 2 0 (48 * t + 3 * q + i) := fun i hi => by
      rw [f2 22 (by decide), hG3, st3_a (by decide), stR_a (by decide), c3 i hi, eT.1]
    obtain ⟨x, g', r', w1, w2, w3, w4, w5⟩ := fireB (t := t) (ev := 1) (q := q) (y := Int32.ofInt 1) (x1 := r1 2 0 (48 * t + 3 * q + 0)) (x2 := r1 2 0 (48 * t + 3 * q + 1)) (x3 := r1 2 0 (48 * t + 3 * q + 2)) h4 hs4 (by omega) ht (by omega) (by omega) (by rw [k0]; exact h7) (fun _ => ⟨e22 0 (by omega), e22 1 (by omega), e22 2 (by omega)⟩) (fun z => absurd z (by decide)) (fun z => absurd rfl z) (fun _ i hi => by rw [f4 i hi, of0])
    rw [← on1] at w1 w2
    have u : f_M_delete [.inr (1, 0), .inr (10, d), .inl (nI t)] g = some (x, g') := by
      refine e_M_delete (n := 32) rfl ?_
      rw [x_M_delete]
      simp only [a1, Option.bind_some, s_T_has, bI_0]
      rw [if_neg (fun z => z hz)]
      simp only [c1, c4, f1, w1, Option.bind_some]
    have hzR : pHas (r1 1 0) (nI t) (nI q) := by rw [← eT.2.1]; exact hz
    have qd : f_R_delete [.inr (0, 0), .inl (nI t)] R = some r' := by
      have z0 : Int32.ofInt 48 * nI t + Int32.ofInt 3 * nI q = nI (48 * t + 3 * q) := by rw [on48, on3, pk_mul, pk_mul, nI_add]
      have z1 : nI (48 * t + 3 * q) + Int32.ofInt 1 = nI (48 * t + 3 * q + 1) := by rw [on1, nI_add]
      have z2 : nI (48 * t + 3 * q) + Int32.ofInt 2 = nI (48 * t + 3 * q + 2) := by rw [on2, nI_add]
      have z3 : nI s - Int32.ofInt 1 = nI (s - 1) := by
        obtain ⟨w, rfl⟩ : ∃ w, s = w + 1 := ⟨s - 1, by omega⟩
        rw [on1, nS (by omega)]; rfl
      have b2 := s_R_push (d := d) (h := h) (a := Int32.ofInt 1) (r := r1) h1.1.2.2.1 hd h1.2.2.1 (by omega)
      obtain ⟨R1, hR1⟩ : ∃ G, G = st3 (st3 r1 15 0 (13 * d + h) (Int32.ofInt 1)) 14 0 d (nI (h + 1)) := ⟨_, rfl⟩
      rw [← hR1] at b2
      have k1 : ∀ x, x < 12 → R1 x = r1 x := fun x hx => by rw [hR1, st3_a (by omega), st3_a (by omega)]
      have hz1 : pHas (R1 1 0) (nI t) (nI q) := by rw [k1 1 (by decide)]; exact hzR
      have hsw : stR (st3 R1 1 0 t (nI (s - 1))) 2 0 (sh (st3 R1 1 0 t (nI (s - 1)) 2 0) (48 * t + 3 * q) (3 * (s - q - 1))) = st3 (st3 R2 15 0 (13 * d + h) (Int32.ofInt 1)) 14 0 d (nI (h + 1)) := by
        rw [st3_a (show 2 ≠ 1 by decide), k1 2 (by decide), hR1, hR2, st3_comm (show 14 ≠ 1 by decide), st3_comm (show 15 ≠ 1 by decide), stR_st3 (show 14 ≠ 2 by decide), stR_st3 (show 15 ≠ 2 by decide)]
      obtain ⟨n, hn⟩ := delL (t := t) (q := q) (s := s) (x := nI q) (y := nI (48 * t + 3 * q)) (d := r1 2 0 (48 * t + 3 * q + 0)) (e := r1 2 0 (48 * t + 3 * q + 1)) (f := r1 2 0 (48 * t + 3 * q + 2)) (r := st3 R1 1 0 t (nI (s - 1))) (r' := r') ht hq hs2 st3_same (by rw [hsw]; exact w2) (3 * (s - q - 1)) 0 (by omega)
      rw [sh_0] at hn
      refine e_R_delete (n := n + 55) rfl (pxs_px (st := [83]) 55 0 _ _ _ ((y_R_delete_0 (rn_R_delete n) (nI t) R).trans ?_))
      simp only [b1, b2, Option.bind_some, s_R_isRow (nI t) (nI q) r1 b4, s_R_isRow (nI t) (nI q) R1 b4, bI_0, z0, z1, z2, nI_clamp (show t < 2 ^ 31 by omega), nI_clamp (show 48 * t + 3 * q < 2 ^ 31 by omega), nI_clamp (show 48 * t + 3 * q + 1 < 2 ^ 31 by omega), nI_clamp (show 48 * t + 3 * q + 2 < 2 ^ 31 by omega), k1 2 (show 2 < 12 by decide), k1 1 (show 1 < 12 by decide), hsR, z3]
      rw [if_neg (fun z => z hzR), if_neg (fun z => z hzR), if_pos (show inB (nI (48 * t + 3 * q)) 192 by rw [nI_inB (by omega)]; omega), if_pos (show inB (nI (48 * t + 3 * q + 1)) 192 by rw [nI_inB (by omega)]; omega), if_pos (show inB (nI (48 * t + 3 * q + 2)) 192 by rw [nI_inB (by omega)]; omega), if_pos b4, if_pos b4]
      exact hn
    refine ⟨x, g', r', ?_, ?_, w3, by rw [w4, k0], by rw [w5, k0]⟩
    · unfold tS
      rw [if_neg (by decide), if_neg (by decide), if_neg (by decide), if_neg (by decide), if_neg (by decide), if_pos (by decide)]
      simp only [u, Option.bind_some]
    · unfold tR
      rw [if_neg (by decide), if_neg (by decide), if_neg (by decide), if_neg (by decide), if_neg (by decide), if_neg (by decide), if_neg (by decide), if_neg (by decide), if_neg (by decide), if_pos (by decide)]
      simp only [qd, Option.bind_some]
  · obtain ⟨g2, r2, a2, b2, h2, o2⟩ := pushF (Int32.ofInt 0) h1 (by omega)
    have hzR : ¬ pHas (r1 1 0) (nI t) x1 := by rw [← eT.2.1]; exact hz
    have hzR2 : ¬ pHas (r2 1 0) (nI t) x1 := by rw [o2.2 1 (by decide)]; exact hzR
    have u : f_M_delete [.inr (1, 0), .inr (10, d), .inl (nI t)] g = some (Int32.ofInt (-1), g2) := by
      refine e_M_delete (n := 32) rfl ?_
      rw [x_M_delete]
      simp only [a1, Option.bind_some, s_T_has, bI_0]
      rw [if_pos hz]
      simp only [a2, Option.bind_some]
    have qd : f_R_delete [.inr (0, 0), .inl (nI t)] R = some r2 := by
      refine e_R_delete (n := 0 + 55) rfl (pxs_px (st := [83]) 55 0 _ _ _ ((y_R_delete_0 (rn_R_delete 0) (nI t) R).trans ?_))
      simp only [b1, Option.bind_some, s_R_isRow (nI t) x1 r1 b4, bI_0]
      rw [if_pos hzR, b2]
      simp only [Option.bind_some, s_R_isRow (nI t) x1 r2 b4, bI_0]
      rw [if_pos hzR2]
    refine resB ?_ ?_ h2 (o1.trans o2) hs h7
    · unfold tS
      rw [if_neg (by decide), if_neg (by decide), if_neg (by decide), if_neg (by decide), if_neg (by decide), if_pos (by decide)]
      simp only [u, Option.bind_some]
    · unfold tR
      rw [if_neg (by decide), if_neg (by decide), if_neg (by decide), if_neg (by decide), if_neg (by decide), if_neg (by decide), if_neg (by decide), if_neg (by decide), if_neg (by decide), if_pos (by decide)]
      simp only [qd, Option.bind_some]
theorem so_20 {t c : Nat} (ht : t < 4) (hc : c < 3) (hr : Run d P k (h + 2) g R) (hs : Sok (wds g P) (lns g P) P k (h + 1)) (h7 : R 0 0 21 = Int32.ofInt 7) : Res (tS (nI 7) 20 d (nI t) (nI c) g) (tR 20 d (nI t) (nI c) r R) R := by
  have hd := hr.1.1
  have h12 : h + 2 ≤ 12 := hr.2.1.1.2.2
  have b4 : inB (nI t) 4 := by rw [nI_inB (by omega)]; exact ht
  obtain ⟨x1, g1, r1, a1, b1, h1, o1⟩ := popF hr
  obtain ⟨x2, g2, r2, a2, b2, h2, o2⟩ := popF h1
  have oo := o1.trans o2
  have eT := h2.cm.2.1
  by_cases hz : pHas (g2 27 0) (nI t) x2
  · obtain ⟨s, hs1, hs2⟩ := szN eT.2.2 ht
    obtain ⟨q, hq, rfl⟩ := rowN ht hs1 hs2 hz
    have hsR : r2 1 0 t = nI s := by rw [← eT.2.1]; exact hs1
    obtain ⟨G2, c1, c2, c3⟩ := s_T_copy22 (t := t) (q := q) (s := s) (g := g2) ht hs1 hs2 eT.2.2 hq
    have c4 := s_T_writeN (t := t) (q := q) (c := c) (s := s) (g := G2) ht (by rw [c2 27 (by decide)]; exact hs1) hs2 x1 hq hc
    obtain ⟨G3, hG3⟩ : ∃ G, G = st3 G2 26 0 (48 * t + 3 * q + c) x1 := ⟨_, rfl⟩
    rw [← hG3] at c4
    have e3 : ∀ x, x ≠ 22 → x ≠ 26 → G3 x = g2 x := fun x n1 n2 => by rw [hG3, st3_a n2, c2 x n1]
    obtain ⟨G4, y1, y2, y3⟩ := s_T_copy23 (t := t) (q := q) (s := s) (g := G3) ht (by rw [e3 27 (by decide) (by decide)]; exact hs1) hs2 (by rw [e3 27 (by decide) (by decide)]; exact eT.2.2) hq
    obtain ⟨R2, hR2⟩ : ∃ G, G = st3 r2 2 0 (48 * t + 3 * q + c) x1 := ⟨_, rfl⟩
    have t26 : G3 26 0 = R2 2 0 := by
      funext i
      rw [hG3, hR2]
      by_cases i0 : i = 48 * t + 3 * q + c
      · rw [i0, st3_same, st3_same]
      · rw [st3_k i0, st3_k i0, c2 26 (by decide), eT.1]
    have h4 : Run d P k h G4 R2 := by
      refine h2.tab (fun x n1 n2 n3 n4 => by rw [y2 x n2, e3 x n1 n3]) (fun x n1 n2 => by rw [hR2, st3_a n2]) ⟨?_, ?_, ?_⟩
      · rw [y2 26 (by decide)]; exact t26
      · rw [y2 27 (by decide), e3 27 (by decide) (by decide), hR2, st3_a (by decide)]; exact eT.2.1
      · rw [y2 27 (by decide), e3 27 (by decide) (by decide)]; exact eT.2.2
    have k0 : R2 0 = R 0 := by rw [hR2, st3_a (by decide), oo.2 0 (by decide)]
    have hs4 : Sok (wds G4 P) (lns G4 P) P k (h + 1) := by
      unfold wds lns
      rw [y2 24 (by decide), y2 25 (by decide), e3 24 (by decide) (by decide), e3 25 (by decide) (by decide)]
      exact oo.sok hs
    have e22 : ∀ i, i < 3 → G4 22 0 i = r2 2 0 (48 * t + 3 * q + i) := fun i hi => by
      rw [y2 22 (by decide), hG3, st3_a (by decide), c3 i hi, eT.1]
    obtain ⟨x, g', r', w1, w2, w3, w4, w5⟩ := fireB (t := t) (ev := 2) (q := q) (y := Int32.ofInt 1) (x1 := r2 2 0 (48 * t + 3 * q + 0)) (x2 := r2 2 0 (48 * t + 3 * q + 1)) (x3 := r2 2 0 (48 * t + 3 * q + 2)) h4 hs4 (by omega) ht (by omega) (by omega) (by rw [k0]; exact h7) (fun _ => ⟨e22 0 (by omega), e22 1 (by omega), e22 2 (by omega)⟩) (fun z => absurd z (by decide)) (fun _ i hi => by rw [y3 i hi, t26]) (fun z => absurd z (by decide))
    rw [← on2] at w1 w2
    have u : f_M_update [.inr (1, 0), .inr (10, d), .inl (nI t), .inl (nI c)] g = some (x, g') := by
      refine e_M_update (n := 40) rfl ?_
      rw [x_M_update]
      simp only [a1, a2, Option.bind_some, s_T_has, bI_0]
      rw [if_neg (fun z => z hz)]
      simp only [c1, c4, y1, w1, Option.bind_some]
    have hzR : pHas (r2 1 0) (nI t) (nI q) := by rw [← eT.2.1]; exact hz
    have qd : f_R_update [.inr (0, 0), .inl (nI t), .inl (nI c)] R = some r' := by
      have z0 : Int32.ofInt 48 * nI t + Int32.ofInt 3 * nI q = nI (48 * t + 3 * q) := by rw [on48, on3, pk_mul, pk_mul, nI_add]
      have z1 : nI (48 * t + 3 * q) + Int32.ofInt 1 = nI (48 * t + 3 * q + 1) := by rw [on1, nI_add]
      have z2 : nI (48 * t + 3 * q) + Int32.ofInt 2 = nI (48 * t + 3 * q + 2) := by rw [on2, nI_add]
      have z3 : nI (48 * t + 3 * q) + nI c = nI (48 * t + 3 * q + c) := by rw [nI_add]
      have b3 := s_R_push (d := d) (h := h) (a := Int32.ofInt 1) (r := r2) h2.1.2.2.1 hd h2.2.2.1 (by omega)
      obtain ⟨R1, hR1⟩ : ∃ G, G = st3 (st3 r2 15 0 (13 * d + h) (Int32.ofInt 1)) 14 0 d (nI (h + 1)) := ⟨_, rfl⟩
      rw [← hR1] at b3
      have k1 : ∀ x, x < 12 → R1 x = r2 x := fun x hx => by rw [hR1, st3_a (by omega), st3_a (by omega)]
      have hsw : st3 R1 2 0 (48 * t + 3 * q + c) x1 = st3 (st3 R2 15 0 (13 * d + h) (Int32.ofInt 1)) 14 0 d (nI (h + 1)) := by
        rw [hR1, hR2, st3_comm (show 14 ≠ 2 by decide), st3_comm (show 15 ≠ 2 by decide)]
      refine e_R_update (n := 63) rfl ?_
      rw [x_R_update]
      simp only [b1, b2, Option.bind_some, s_R_isRow (nI t) (nI q) r2 b4, bI_0]
      rw [if_neg (fun z => z hzR), b3]
      simp only [Option.bind_some, s_R_isRow (nI t) (nI q) R1 b4, bI_0, z0, z1, z2, z3, nI_clamp (show 48 * t + 3 * q < 2 ^ 31 by omega), nI_clamp (show 48 * t + 3 * q + 1 < 2 ^ 31 by omega), nI_clamp (show 48 * t + 3 * q + 2 < 2 ^ 31 by omega), nI_clamp (show 48 * t + 3 * q + c < 2 ^ 31 by omega), k1 2 (show 2 < 12 by decide), k1 1 (show 1 < 12 by decide)]
      rw [if_neg (fun z => z hzR), if_pos (show inB (nI (48 * t + 3 * q)) 192 by rw [nI_inB (by omega)]; omega), if_pos (show inB (nI (48 * t + 3 * q + 1)) 192 by rw [nI_inB (by omega)]; omega), if_pos (show inB (nI (48 * t + 3 * q + 2)) 192 by rw [nI_inB (by omega)]; omega), if_pos (show inB (nI (48 * t + 3 * q + c)) 192 by rw [nI_inB (by omega)]; omega), hsw]
      simp only [show 48 * t + 3 * q + 0 = 48 * t + 3 * q from rfl] at w2
      rw [w2]
      simp only [Option.bind_some]
    refine ⟨x, g', r', ?_, ?_, w3, by rw [w4, k0], by rw [w5, k0]⟩
    · unfold tS
      rw [if_neg (by decide), if_neg (by decide), if_neg (by decide), if_neg (by decide), if_neg (by decide), if_neg (by decide), if_pos (by decide)]
      simp only [u, Option.bind_some]
    · unfold tR
      rw [if_neg (by decide), if_neg (by decide), if_neg (by decide), if_neg (by decide), if_neg (by decide), if_neg (by decide), if_neg (by decide), if_neg (by decide), if_neg (by decide), if_neg (by decide), if_pos (by decide)]
      simp only [qd, Option.bind_some]
  · obtain ⟨g3, r3, a3, b3, h3, o3⟩ := pushF (Int32.ofInt 0) h2 (by omega)
    have hzR : ¬ pHas (r2 1 0) (nI t) x2 := by rw [← eT.2.1]; exact hz
    have hzR2 : ¬ pHas (r3 1 0) (nI t) x2 := by rw [o3.2 1 (by decide)]; exact hzR
    have u : f_M_update [.inr (1, 0), .inr (10, d), .inl (nI t), .inl (nI c)] g = some (Int32.ofInt (-1), g3) := by
      refine e_M_update (n := 40) rfl ?_
      rw [x_M_update]
      simp only [a1, a2, Option.bind_some, s_T_has, bI_0]
      rw [if_pos hz]
      simp only [a3, Option.bind_some]
    have qd : f_R_update [.inr (0, 0), .inl (nI t), .inl (nI c)] R = some r3 := by
      refine e_R_update (n := 63) rfl ?_
      rw [x_R_update]
      simp only [b1, b2, Option.bind_some, s_R_isRow (nI t) x2 r2 b4, bI_0]
      rw [if_pos hzR, b3]
      simp only [Option.bind_some, s_R_isRow (nI t) x2 r3 b4, bI_0]
      rw [if_pos hzR2]
    refine resB ?_ ?_ h3 (oo.trans o3) hs h7
    · unfold tS
      rw [if_neg (by decide), if_neg (by decide), if_neg (by decide), if_neg (by decide), if_neg (by decide), if_neg (by decide), if_pos (by decide)]
      simp only [u, Option.bind_some]
    · unfold tR
      rw [if_neg (by decide), if_neg (by decide), if_neg (by decide), if_neg (by decide), if_neg (by decide), if_neg (by decide), if_neg (by decide), if_neg (by decide), if_neg (by decide), if_neg (by decide), if_pos (by decide)]
      simp only [qd, Option.bind_some]
end
