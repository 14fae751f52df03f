/-! rows: insert, delete, update -/
theorem st3_cg {g g' : mG} {a j k x : Nat} {v : Int32} (h : g x = g' x) : st3 g a j k v x = st3 g' a j k v x := by
  funext j' k'
  unfold st3
  rw [h]
theorem stR_st3 {g : mG} {a b j k j' : Nat} {v : Int32} {f : Nat → Int32} (h : a ≠ b) : stR (st3 g a j k v) b j' f = st3 (stR g b j' f) a j k v := by
  funext x y z
  by_cases e : x = b
  · subst e
    rw [st3_a (fun q => h q.symm)]
    by_cases e2 : y = j'
    · subst e2; rw [stR_same, stR_same]
    · have u : ∀ G : mG, stR G x j' f x y = G x y := fun G => if_neg (fun (q : x = x ∧ y = j') => e2 q.2)
      rw [u, u, st3_a (fun q => h q.symm)]
  · rw [stR_a e]
    by_cases e2 : x = a
    · subst e2
      unfold st3
      rw [stR_a e]
    · rw [st3_a e2, st3_a e2, stR_a e]
theorem Run.tab {d P k h : Nat} {g r g' r' : mG} (hr : Run d P k h g r) (eg : ∀ x, x ≠ 22 → x ≠ 23 → x ≠ 26 → x ≠ 27 → g' x = g x) (er : ∀ x, x ≠ 1 → x ≠ 2 → r' x = r x) (hT : InvT g' r') : Run d P k h g' r' := by
  obtain ⟨hd, hf, hh, hb, ⟨cL, cT, cG, cN, cK⟩⟩ := hr
  refine ⟨?_, ?_, ?_, fun j hj => ?_, ?_, hT, ?_, ?_, ?_⟩
  · unfold Dp at hd ⊢
    rw [eg 1 (by decide) (by decide) (by decide) (by decide), eg 21 (by decide) (by decide) (by decide) (by decide), er 0 (by decide) (by decide)]; exact hd
  · exact hf.keep (by rw [eg 2 (by decide) (by decide) (by decide) (by decide)]) (fun a _ _ => by rw [eg a (by omega) (by omega) (by omega) (by omega)]) (by rw [er 12 (by decide) (by decide)]) (by rw [er 13 (by decide) (by decide)]) (by rw [er 19 (by decide) (by decide)]) (fun _ _ => by rw [er 15 (by decide) (by decide)]) (fun _ _ => by rw [er 16 (by decide) (by decide)]) (fun _ _ => by rw [er 17 (by decide) (by decide)]) (fun _ _ => by rw [er 18 (by decide) (by decide)])
  · rw [er 14 (by decide) (by decide)]; exact hh
  · obtain ⟨P', k', h', hw⟩ := hb j hj
    exact ⟨P', k', h', hw.keep (eg 24 (by decide) (by decide) (by decide) (by decide)) (eg 25 (by decide) (by decide) (by decide) (by decide)) (by rw [eg 2 (by decide) (by decide) (by decide) (by decide)]) (fun a _ _ => by rw [eg a (by omega) (by omega) (by omega) (by omega)]) (by rw [eg 10 (by decide) (by decide) (by decide) (by decide)]) (by rw [er 12 (by decide) (by decide)]) (by rw [er 13 (by decide) (by decide)]) (by rw [er 14 (by decide) (by decide)]) (by rw [er 19 (by decide) (by decide)]) (by rw [er 19 (by decide) (by decide)]) (fun _ _ => by rw [er 15 (by decide) (by decide)]) (fun _ _ => by rw [er 16 (by decide) (by decide)]) (fun _ _ => by rw [er 17 (by decide) (by decide)]) (fun _ _ => by rw [er 18 (by decide) (by decide)])⟩
  · unfold InvL at cL ⊢
    rw [eg 24 (by decide) (by decide) (by decide) (by decide), eg 25 (by decide) (by decide) (by decide) (by decide), eg 2 (by decide) (by decide) (by decide) (by decide), er 6 (by decide) (by decide), er 7 (by decide) (by decide), er 0 (by decide) (by decide)]; exact cL
  · unfold InvG at cG ⊢
    rw [eg 30 (by decide) (by decide) (by decide) (by decide), eg 2 (by decide) (by decide) (by decide) (by decide), er 5 (by decide) (by decide)]; exact cG
  · unfold InvN at cN ⊢
    rw [eg 20 (by decide) (by decide) (by decide) (by decide), eg 1 (by decide) (by decide) (by decide) (by decide), er 0 (by decide) (by decide)]; exact cN
  · unfold Kpt at cK ⊢
    rw [eg 28 (by decide) (by decide) (by decide) (by decide), eg 29 (by decide) (by decide) (by decide) (by decide), er 4 (by decide) (by decide), er 3 (by decide) (by decide)]; exact cK
theorem szN {g : mG} {t : Nat} (ho : szOk (g 27 0)) (ht : t < 4) : ∃ s, g 27 0 t = nI s ∧ s ≤ 16 := ⟨(g 27 0 t).toNatClampNeg, by have := ho t ht; rw [i_eq, nI_toInt (by rw [cl_toInt]; omega), cl_toInt]; omega, by have := ho t ht; rw [cl_toInt]; omega⟩
theorem szOk_st {f : Nat → Int32} {g : mG} {t s : Nat} (ho : szOk (g 27 0)) (hs : s ≤ 16) : szOk (st3 g 27 0 t (nI s) 27 0) := by
  intro i hi
  by_cases e : i = t
  · subst e; rw [st3_same, nI_toInt (by omega)]; omega
  · rw [st3_k e]; exact ho i hi
theorem insL {d t q s1 H n c : Nat} {G : mG} {res : mRes} (ht : t < 4) (hc : c < 3) (h1 : G 10 d 1 = nI (H + 1)) (hH : H < 12) (hs : G 27 0 t = nI s1) (hs2 : s1 ≤ 16) (hq : q < s1)
    (hn : rn_M_insert n 19 [some (.inr (1, 0)), some (.inr (10, d)), some (.inl (nI t)), some (.inl (nI q)), some (.inl (nI c + Int32.ofInt (-1)))] [] (st3 (st3 G 10 d 1 (nI H)) 26 0 (48 * t + 3 * q + c) (G 11 d H)) = some res) :
    rn_M_insert (n + 21) 19 [some (.inr (1, 0)), some (.inr (10, d)), some (.inl (nI t)), some (.inl (nI q)), some (.inl (nI c))] [] G = some res := by
  refine pxs_px (st := [19]) 21 19 _ _ _ ((y_M_insert_19 (rn_M_insert n) d (nI t) (nI q) (nI c) G).trans ?_)
  rw [if_neg (show ¬ nI c < 0 by rw [show (0 : Int32) = nI 0 from rfl, nI_ltI (by omega) (by omega)]; omega), s_F_pop h1 hH]
  simp only [Option.bind_some]
  rw [s_T_writeN (s := s1) (g := st3 G 10 d 1 (nI H)) ht hs hs2 (G 11 d H) hq hc]
  simp only [Option.bind_some]
  exact hn
section
variable {d P k h : Nat} {A B A' B' : Int32} {g r R : mG}
theorem so_18 {t : Nat} (ht : t < 4) (hr : Run d P k (h + 3) g R) (hs : Sok (wds g P) (lns g P) P k (h + 1)) (h7 : R 0 0 21 = Int32.ofInt 7) : Res (tS (nI 5) 18 d (nI t) B g) (tR 18 d (nI t) B' r R) R := by
  have hd := hr.1.1
  have h12 : h + 3 ≤ 12 := hr.2.1.1.2.2
  have eT := hr.cm.2.1
  have b4 : inB (nI t) 4 := by rw [nI_inB (by omega)]; exact ht
  obtain ⟨s, hs1, hs2⟩ := szN eT.2.2 ht
  have hsR : R 1 0 t = nI s := by rw [← eT.2.1]; exact hs1
  obtain ⟨x3, g1, r1, a1, b1, h1, o1⟩ := popF hr
  obtain ⟨x2, g2, r2, a2, b2, h2, o2⟩ := popF h1
  obtain ⟨x1, g3, r3, a3, b3, h3, o3⟩ := popF h2
  have oo := (o1.trans o2).trans o3
  by_cases h16 : s = 16
  · have u : f_M_insert [.inr (1, 0), .inr (10, d), .inl (nI t)] g = some (Int32.ofInt 5, g) := by
      refine e_M_insert (n := 0 + 11) rfl (pxs_px (st := [19]) 11 0 _ _ _ ((y_M_insert_0 (rn_M_insert 0) d (nI t) g).trans ?_))
      rw [s_T_addRow16 ht hs1 h16]
      simp only [Option.bind_some, if_true]
    have q : f_R_insert [.inr (0, 0), .inl (nI t)] R = some (st3 r3 0 0 21 (Int32.ofInt 5)) := by
      refine e_R_insert (n := 64) rfl ?_
      rw [x_R_insert]
      simp only [b1, b2, b3, Option.bind_some, nI_clamp (show t < 2 ^ 31 by omega)]
      rw [if_pos b4, if_pos (show r3 1 0 t = Int32.ofInt 16 by rw [oo.2 1 (by decide), hsR, h16, on16])]
    refine resE (g' := g) (r' := st3 r3 0 0 21 (Int32.ofInt 5)) 5 (by omega) ?_ ?_ rfl ?_ hr.im ?_ ?_
    · unfold tS
      rw [if_neg (by decide), if_neg (by decide), if_neg (by decide), if_neg (by decide), if_pos (by decide)]
      simp only [u, Option.bind_some]
      rfl
    · unfold tR
      rw [if_neg (by decide), if_neg (by decide), if_neg (by decide), if_neg (by decide), if_neg (by decide), if_neg (by decide), if_neg (by decide), if_neg (by decide), if_pos (by decide)]
      simp only [q, Option.bind_some]
    · refine Cm.s21 (hr.cm.keep (fun _ _ => rfl) rfl (fun x hx => oo.2 x (by omega)))
    · show r3 0 0 23 = _
      rw [oo.2 0 (by decide)]
    · show r3 0 0 24 = _
      rw [oo.2 0 (by decide)]
  · skip
    have p1 := s_F_pop (j := d) (h := h + 2) (g := g) hr.2.1.2.2.2.1 (by omega)
    rw [a1] at p1
    obtain ⟨v3, m1⟩ := Prod.mk.inj (Option.some.inj p1)
    have p2 := s_F_pop (j := d) (h := h + 1) (g := g1) h1.2.1.2.2.2.1 (by omega)
    rw [a2] at p2
    obtain ⟨v2, m2⟩ := Prod.mk.inj (Option.some.inj p2)
    have p3 := s_F_pop (j := d) (h := h) (g := g2) h2.2.1.2.2.2.1 (by omega)
    rw [a3] at p3
    obtain ⟨v1, m3⟩ := Prod.mk.inj (Option.some.inj p3)
    have v2' : x2 = g 11 d (h + 1) := by rw [v2, m1]; rfl
    have v1' : x1 = g 11 d h := by rw [v1, m2, m1]; rfl
    obtain ⟨G1, hG1⟩ : ∃ G, G = st3 g 27 0 t (nI (s + 1)) := ⟨_, rfl⟩
    obtain ⟨G2, hG2⟩ : ∃ G, G = st3 (st3 G1 10 d 1 (nI (h + 2))) 26 0 (48 * t + 3 * s + 2) x3 := ⟨_, rfl⟩
    obtain ⟨G3, hG3⟩ : ∃ G, G = st3 (st3 G2 10 d 1 (nI (h + 1))) 26 0 (48 * t + 3 * s + 1) x2 := ⟨_, rfl⟩
    obtain ⟨G4, hG4⟩ : ∃ G, G = st3 (st3 G3 10 d 1 (nI h)) 26 0 (48 * t + 3 * s + 0) x1 := ⟨_, rfl⟩
    have e4 : ∀ x, x ≠ 26 → x ≠ 27 → G4 x = g3 x := fun x n1 n2 => by
      rw [hG4, m3, st3_a n1]
      refine st3_cg ?_
      rw [hG3, m2, st3_a n1]
      refine st3_cg ?_
      rw [hG2, m1, st3_a n1]
      refine st3_cg ?_
      rw [hG1, st3_a n2]
    have c27 : G4 27 = G1 27 := by rw [hG4, hG3, hG2]; rfl
    have s27 : G4 27 0 t = nI (s + 1) := by rw [c27, hG1, st3_same]
    have o27 : szOk (G4 27 0) := by rw [c27, hG1]; exact szOk_st (f := fun _ => 0) eT.2.2 (by omega)
    obtain ⟨G5, f1, f2, f3, f4, f5⟩ := s_A_fill_22 (Int32.ofInt 0) G4
    obtain ⟨G6, y1, y2, y3⟩ := s_T_copy23 (t := t) (q := s) (s := s + 1) (g := G5) ht (by rw [f2 27 (by decide)]; exact s27) (by omega) (by rw [f2 27 (by decide)]; exact o27) (by omega)
    obtain ⟨R4, hR4⟩ : ∃ G, G = st3 (st3 (st3 (st3 r3 2 0 (48 * t + 3 * s + 0) x1) 2 0 (48 * t + 3 * s + 1) x2) 2 0 (48 * t + 3 * s + 2) x3) 1 0 t (nI (s + 1)) := ⟨_, rfl⟩
    have r26 : g 26 0 = r3 2 0 := by rw [oo.2 2 (by decide)]; exact eT.1
    have r27 : g 27 0 = r3 1 0 := by rw [oo.2 1 (by decide)]; exact eT.2.1
    have t26 : G4 26 0 = R4 2 0 := by
      funext i
      rw [hG4, hR4, st3_a (show 2 ≠ 1 by decide)]
      by_cases i0 : i = 48 * t + 3 * s + 0
      · rw [i0, st3_same, st3_k (by omega), st3_k (by omega), st3_same]
      · rw [st3_k i0, st3_a (by decide), hG3]
        by_cases i1 : i = 48 * t + 3 * s + 1
        · rw [i1, st3_same, st3_k (by omega), st3_same]
        · rw [st3_k i1, st3_a (by decide), hG2]
          by_cases i2 : i = 48 * t + 3 * s + 2
          · rw [i2, st3_same, st3_same]
          · rw [st3_k i2, st3_a (by decide), hG1, st3_a (by decide), st3_k i2, st3_k i1, st3_k i0, r26]
    have t27 : G4 27 0 = R4 1 0 := by
      funext i
      rw [c27, hG1, hR4]
      by_cases i0 : i = t
      · rw [i0, st3_same, st3_same]
      · rw [st3_k i0, st3_k i0, st3_a (by decide), st3_a (by decide), st3_a (by decide), r27]
    have g6 : ∀ x, x ≠ 22 → x ≠ 23 → G6 x = G4 x := fun x n1 n2 => by rw [y2 x n2, f2 x n1]
    have h6 : Run d P k h G6 R4 := by
      refine h3.tab (fun x n1 n2 n3 n4 => by rw [g6 x n1 n2, e4 x n3 n4]) (fun x n1 n2 => by rw [hR4, st3_a n1, st3_a n2, st3_a n2, st3_a n2]) ⟨?_, ?_, ?_⟩
      · rw [g6 26 (by decide) (by decide)]; exact t26
      · rw [g6 27 (by decide) (by decide)]; exact t27
      · rw [g6 27 (by decide) (by decide)]; exact o27
    have k0 : R4 0 = R 0 := by rw [hR4, st3_a (by decide), st3_a (by decide), st3_a (by decide), st3_a (by decide), oo.2 0 (by decide)]
    have hs6 : Sok (wds G6 P) (lns G6 P) P k (h + 1) := by
      unfold wds lns
      rw [g6 24 (by decide) (by decide), g6 25 (by decide) (by decide), e4 24 (by decide) (by decide), e4 25 (by decide) (by decide)]
      exact oo.sok hs
    obtain ⟨x, g', r', w1, w2, w3, w4, w5⟩ := fireB (t := t) (ev := 0) (q := s) (y := nI s) (x1 := Int32.ofInt 0) (x2 := Int32.ofInt 0) (x3 := Int32.ofInt 0) h6 hs6 (by omega) ht (by omega) (by omega) (by rw [k0]; exact h7) (fun z => absurd z (by omega)) (fun _ i hi => by rw [y2 22 (by decide), f4 i hi, of0]) (fun _ i hi => by rw [y3 i hi, f2 26 (by decide), t26]) (fun z => absurd z (by decide))
    rw [← on0] at w1 w2
    have u : f_M_insert [.inr (1, 0), .inr (10, d), .inl (nI t)] g = some (x, g') := by
      have l4 : rn_M_insert (0 + 21) 19 [some (.inr (1, 0)), some (.inr (10, d)), some (.inl (nI t)), some (.inl (nI s)), some (.inl (nI 0 + Int32.ofInt (-1)))] [] G4 = some (some (.inl x), g') := by
        refine pxs_px (st := [19]) 21 19 _ _ _ ((y_M_insert_19 (rn_M_insert 0) d (nI t) (nI s) (nI 0 + Int32.ofInt (-1)) G4).trans ?_)
        rw [if_pos (by decide), f1]
        simp only [Option.bind_some]
        rw [y1]
        simp only [Option.bind_some]
        rw [w1]
        simp only [Option.bind_some]
      have l3 := insL (d := d) (t := t) (q := s) (s1 := s + 1) (H := h) (c := 0) (G := G3) ht (by omega) (by rw [hG3, st3_a (by decide), st3_same]) (by omega) (by rw [hG3, hG2, hG1]; exact st3_same) (by omega) (by omega) (by rw [show G3 11 d h = x1 by rw [hG3, hG2, hG1, v1']; rfl, ← hG4]; exact l4)
      have l2 := insL (d := d) (t := t) (q := s) (s1 := s + 1) (H := h + 1) (c := 1) (G := G2) ht (by omega) (by rw [hG2, st3_a (by decide), st3_same]) (by omega) (by rw [hG2, hG1]; exact st3_same) (by omega) (by omega) (by rw [show G2 11 d (h + 1) = x2 by rw [hG2, hG1, v2']; rfl, ← hG3, show nI 1 + Int32.ofInt (-1) = nI 0 by decide]; exact l3)
      have l1 := insL (d := d) (t := t) (q := s) (s1 := s + 1) (H := h + 2) (c := 2) (G := G1) ht (by omega) (by rw [hG1, st3_a (by decide)]; exact hr.2.1.2.2.2.1) (by omega) (by rw [hG1]; exact st3_same) (by omega) (by omega) (by rw [show G1 11 d (h + 2) = x3 by rw [hG1, v3]; rfl, ← hG2, show nI 2 + Int32.ofInt (-1) = nI 1 by decide]; exact l2)
      refine e_M_insert (n := 0 + 21 + 21 + 21 + 21 + 11) rfl (pxs_px (st := [19]) 11 0 _ _ _ ((y_M_insert_0 (rn_M_insert (0 + 21 + 21 + 21 + 21)) d (nI t) g).trans ?_))
      rw [s_T_addRowN ht hs1 hs2 (by omega)]
      simp only [Option.bind_some]
      rw [if_neg (show ¬ nI s = Int32.ofInt (-1) by rw [i_eq, tim1, nI_toInt (by omega)]; omega), ← hG1, on2]
      exact l1
    have q : f_R_insert [.inr (0, 0), .inl (nI t)] R = some r' := by
      obtain ⟨j0, k0'⟩ := ix48R (t := t) (q := s) (c := 0) ht (by omega) (by omega)
      obtain ⟨j1, k1'⟩ := ix48R (t := t) (q := s) (c := 1) ht (by omega) (by omega)
      obtain ⟨j2, k2'⟩ := ix48R (t := t) (q := s) (c := 2) ht (by omega) (by omega)
      have z0 : Int32.ofInt 48 * nI t + Int32.ofInt 3 * nI s = Int32.ofInt 48 * nI t + Int32.ofInt 3 * nI s + nI 0 := by rw [on48, on3, pk_mul, pk_mul, nI_add, nI_add]; rfl
      have e1 : r3 1 0 t = nI s := by rw [oo.2 1 (by decide)]; exact hsR
      refine e_R_insert (n := 64) rfl ?_
      rw [x_R_insert]
      simp only [b1, b2, b3, Option.bind_some, nI_clamp (show t < 2 ^ 31 by omega), e1]
      rw [if_pos b4, if_neg (show ¬ nI s = Int32.ofInt 16 by rw [on16, nI_eqN (by omega) (by omega)]; exact h16), if_pos (by rw [z0]; exact j0), if_pos (by rw [on1]; exact j1), if_pos (by rw [on2]; exact j2), if_pos b4, if_pos b4]
      have z1 : st3 (st3 (st3 (st3 r3 2 0 (Int32.ofInt 48 * nI t + Int32.ofInt 3 * nI s).toNatClampNeg x1) 2 0 (Int32.ofInt 48 * nI t + Int32.ofInt 3 * nI s + Int32.ofInt 1).toNatClampNeg x2) 2 0 (Int32.ofInt 48 * nI t + Int32.ofInt 3 * nI s + Int32.ofInt 2).toNatClampNeg x3) 1 0 t (nI s + Int32.ofInt 1) = R4 := by
        rw [hR4, on1, on2, k1', k2', z0, k0', nI_add]
      rw [z1, s_R_push (d := d) (h := h) (a := nI s) (r := R4) h6.1.2.2.1 hd h6.2.2.1 (by omega)]
      simp only [Option.bind_some]
      rw [w2]
      simp only [Option.bind_some]
    refine ⟨x, g', r', ?_, ?_, w3, by rw [w4, k0], by rw [w5, k0]⟩
    · unfold tS
      rw [if_neg (by decide), if_neg (by decide), if_neg (by decide), if_neg (by decide), if_pos (by decide)]
      simp only [u, Option.bind_some]
    · unfold tR
      rw [if_neg (by decide), if_neg (by decide), if_neg (by decide), if_neg (by decide), if_neg (by decide), if_neg (by decide), if_neg (by decide), if_neg (by decide), if_pos (by decide)]
      simp only [q, Option.bind_some]
end
