theorem Cm.keep {g r g' r' : mG} (hc : Cm g r) (e : ∀ x, x = 2 ∨ x = 20 ∨ 24 ≤ x → g' x = g x) (e4 : g' 1 0 4 = g 1 0 4) (er : ∀ x, x ≤ 7 → r' x = r x) : Cm g' r' := by
  unfold Cm InvL InvT InvG InvN Kpt at hc ⊢
  rw [e 2 (by omega), e 20 (by omega), e 24 (by omega), e 25 (by omega), e 26 (by omega), e 27 (by omega), e 28 (by omega), e 29 (by omega), e 30 (by omega), e4, er 0 (by omega), er 1 (by omega), er 2 (by omega), er 3 (by omega), er 4 (by omega), er 5 (by omega), er 6 (by omega), er 7 (by omega)]
  exact hc
theorem Cm.trg {g r : mG} (hc : Cm g r) : Cm (st3 g 20 0 2 (g 20 0 2 + Int32.ofInt 1)) (st3 r 0 0 26 (r 0 0 26 + Int32.ofInt 1)) := by
  obtain ⟨cL, cT, cG, ⟨n0, n1, n2, n3, n4⟩, cK⟩ := hc
  refine ⟨cL, cT, cG, ⟨n0, n1, ?_, n3, n4⟩, cK⟩
  rw [st3_same, st3_same, n2]
theorem va3 {f g : Nat → Int32} {i : Nat} (h : i < 3) : va_cpy f g 0 0 3 i = f i := by
  unfold va_cpy
  rw [if_pos ⟨by omega, by omega⟩, show 0 + (i - 0) = i by omega]
theorem bt_k {g2 : mG} {n i x : Nat} {a b y : Int32} {f1 f2 : Nat → Int32} (h : i ≠ n) : stR (stR (st3 (st3 (st3 g2 20 0 2 a) 10 n 7 b) 10 n 8 y) 13 n f1) 14 n f2 x i = st3 g2 20 0 2 a x i := by
  rw [stR_ne (fun z => h z.2), stR_ne (fun z => h z.2), st3_ne (fun z => h z.2), st3_ne (fun z => h z.2)]
theorem fireT {d P k h t ev q : Nat} {y x1 x2 x3 : Int32} {g r : mG} (hr : Run d P k h g r) (hs : Sok (wds g P) (lns g P) P k (h + 1)) (h12 : h < 12) (hd8 : d + 1 < 8) (ht : t < 4) (hq : q < 16) (hev : ev < 3) (hb : ¬ g 30 0 (3 * t + ev) = Int32.ofInt (-1))
    (h22 : 0 < ev → g 22 0 0 = x1 ∧ g 22 0 1 = x2 ∧ g 22 0 2 = x3) (h22' : ev = 0 → ∀ i, i < 3 → g 22 0 i = 0) (h23 : ev ≠ 1 → ∀ i, i < 3 → g 23 0 i = r 2 0 (48 * t + 3 * q + i)) (h23' : ev = 1 → ∀ i, i < 3 → g 23 0 i = 0) :
    ∃ P' g' r', f_M_fire [.inr (1, 0), .inl (nI t), .inl (nI ev), .inl (nI q), .inl y] g = some (Int32.ofInt (-1), g') ∧ f_R_fire [.inr (0, 0), .inl (nI t), .inl (nI ev), .inl (nI q), .inl x1, .inl x2, .inl x3] (st3 (st3 r 15 0 (13 * d + h) y) 14 0 d (nI (h + 1))) = some r' ∧ Run (d + 1) P' 0 0 g' r' ∧ g' 24 = g 24 ∧ g' 25 = g 25 ∧ r' 0 0 21 = r 0 0 21 ∧ r' 0 0 23 = r 0 0 23 ∧ r' 0 0 24 = r 0 0 24 := by
  obtain ⟨⟨d1, d2, d3, d4, d5⟩, hf, hh, hbel, hc⟩ := hr
  have hr : Run d P k h g r := ⟨⟨d1, d2, d3, d4, d5⟩, hf, hh, hbel, hc⟩
  have h30 : g 30 0 = r 5 0 := hc.2.2.1.1
  have hbd := hc.2.2.1.2 (3 * t + ev) (by omega)
  have hv12 := hc.1.2.2.2.2.1
  have hge : 0 ≤ (g 30 0 (3 * t + ev)).toInt := by rw [i_eq, tim1] at hb; omega
  have hnn : ¬ r 5 0 (3 * t + ev) < 0 := by rw [← h30, i_lt, tiz]; omega
  obtain ⟨P', hPl, eP⟩ : ∃ P', P' < 12 ∧ g 30 0 (3 * t + ev) = nI P' := ⟨(g 30 0 (3 * t + ev)).toNatClampNeg, by rw [cl_toInt]; omega, by rw [i_eq, nI_toInt (by rw [cl_toInt]; omega), cl_toInt]; omega⟩
  have hP : (P' : Int) < (g 2 0 3).toInt := by
    have := hbd.2
    rw [eP, nI_toInt (by omega)] at this
    exact this
  have eP5 : (st3 (st3 r 15 0 (13 * d + h) y) 14 0 d (nI (h + 1))) 5 0 (3 * t + ev) = nI P' := by
    show r 5 0 (3 * t + ev) = _
    rw [← h30]; exact eP
  have hf1 : FrC d P k h g (st3 (st3 r 15 0 (13 * d + h) y) 14 0 d (nI (h + 1))) := by
    obtain ⟨c0, c1, c2, c3, c4, c5, c6, c7, c8⟩ := hf
    refine ⟨c0, c1, c2, c3, fun i hi => ?_, c5, c6, c7, c8⟩
    rw [st3_a (show 15 ≠ 14 by decide), st3_k (by omega)]; exact c4 i hi
  generalize hr1 : st3 (st3 r 15 0 (13 * d + h) y) 14 0 d (nI (h + 1)) = r1 at *
  have k1 : ∀ x, x ≠ 15 → x ≠ 14 → r1 x = r x := fun x x1 x2 => by rw [← hr1, st3_a x2, st3_a x1]
  have k14 : r1 14 0 d = nI (h + 1) := by rw [← hr1, st3_same]
  have k14' : ∀ j, j ≠ d → r1 14 0 j = r 14 0 j := fun j hj => by rw [← hr1, st3_k hj, st3_a (by decide)]
  have k15 : r1 15 0 (13 * d + h) = y := by rw [← hr1, st3_a (by decide), st3_same]
  have k15' : ∀ j, j ≠ 13 * d + h → r1 15 0 j = r 15 0 j := fun j hj => by rw [← hr1, st3_a (by decide), st3_k hj]
  have hc1 : Cm (st3 g 20 0 3 (g 20 0 3 + Int32.ofInt 1)) (st3 r1 0 0 27 (r1 0 0 27 + Int32.ofInt 1)) := by
    refine hr.ch.cm.keep (fun _ _ => rfl) rfl (fun x hx => ?_)
    funext j i
    unfold st3
    rw [k1 x (by omega) (by omega), k1 0 (by decide) (by decide)]
  have k0 : r1 0 = r 0 := k1 0 (by decide) (by decide)
  obtain ⟨g2, e1, e2, e3, e4, e5, e6, e7, e8⟩ := enterB (n := d + 1) (b := nI q) (c := Int32.ofInt 1) (g := st3 g 20 0 3 (g 20 0 3 + Int32.ofInt 1)) (r := st3 r1 0 0 27 (r1 0 0 27 + Int32.ofInt 1)) d2 (by rw [st3_k (by decide), k0]; exact d3) hd8 d5 hc1 hP (Or.inr of1)
  have hnn1 : ¬ r1 5 0 (3 * t + ev) < 0 := by rw [k1 5 (by decide) (by decide)]; exact hnn
  have hR := s_R_fire (r := r1) (q := q) (d := x1) (e := x2) (f := x3) ht hq hev hnn1 hd8 (show r1 0 0 12 = nI (d + 1) by rw [k0]; exact d3)
  rw [eP5] at hR
  have g22 : g2 22 = g 22 := by rw [e7 22 (by decide) (by decide) (by decide) (by decide) (by decide) (by decide), st3_a (by decide)]
  have g23 : g2 23 = g 23 := by rw [e7 23 (by decide) (by decide) (by decide) (by decide) (by decide) (by decide), st3_a (by decide)]
  have g24 : g2 24 = g 24 := by rw [e7 24 (by decide) (by decide) (by decide) (by decide) (by decide) (by decide), st3_a (by decide)]
  have g25 : g2 25 = g 25 := by rw [e7 25 (by decide) (by decide) (by decide) (by decide) (by decide) (by decide), st3_a (by decide)]
  have hC := s_F_becomeTrigger (d + 1) y (st3 g2 20 0 2 (g2 20 0 2 + Int32.ofInt 1))
  refine ⟨P', stR (stR (st3 (st3 (st3 g2 20 0 2 (g2 20 0 2 + Int32.ofInt 1)) 10 (d + 1) 7 (Int32.ofInt 1)) 10 (d + 1) 8 y) 13 (d + 1) (va_cpy (g2 22 0) (g2 13 (d + 1)) 0 0 3)) 14 (d + 1) (va_cpy (g2 23 0) (g2 14 (d + 1)) 0 0 3), frR ev (d + 1) (48 * t + 3 * q) (nI P') (nI q) x1 x2 x3 r1, e_M_fire (n := 43) rfl ?_, hR, ⟨⟨hd8, e3.2.1, ?_, e3.2.2.2.1, e3.2.2.2.2⟩, ?_, ?_, fun j hj => ?_, ?_⟩, g24, g25, ?_, ?_, ?_⟩
  · rw [x_M_fire, if_pos (by decide), if_pos (by decide), show (Int32.ofInt 3).toNatClampNeg = 3 by decide, s_G_find]
    simp only [Option.bind_some, pTrigN ht hev]
    rw [if_neg (show ¬ (st3 g 20 0 3 (g 20 0 3 + Int32.ofInt 1)) 30 0 (3 * t + ev) = Int32.ofInt (-1) from hb), show (st3 g 20 0 3 (g 20 0 3 + Int32.ofInt 1)) 30 0 (3 * t + ev) = nI P' from eP, e1, Option.bind_some, if_pos rfl, if_pos (by decide), if_pos (by decide), show (Int32.ofInt 2).toNatClampNeg = 2 by decide]
    simp only [e3.2.2.2.1, nI_clamp (show d + 1 < 2 ^ 31 by omega)]
    rw [if_pos (show d + 1 < nmC 10 from hd8), hC, Option.bind_some]
    rfl
  · rw [frR_a (by decide) (by decide)]; rfl
  · obtain ⟨c0, c1, c2, c3, c4, c5, c6, c7, c8⟩ := e6
    refine ⟨c0, ?_, ?_, ?_, fun i hi => absurd hi (by omega), fun i hi => ?_, fun i hi => ?_, fun i hi => ?_, ?_⟩
    · rw [frR_a (by decide) (by decide)]; exact c1
    · rw [frR_a (by decide) (by decide)]; exact c2
    · exact c3
    · rw [frR_a (by decide) (by decide)]; exact c5 i hi
    · rw [stR_a (show 13 ≠ 14 by decide), stR_same, va3 hi, frR_17, g22]
      by_cases e0 : 0 < ev
      · obtain ⟨a1, a2, a3⟩ := h22 e0
        rw [show frC ev (d + 1) x1 x2 x3 (frB (d + 1) (nI P') (nI q) r1) = _ from if_pos e0]
        have hi3 : i = 0 ∨ i = 1 ∨ i = 2 := by omega
        rcases hi3 with rfl | rfl | rfl
        · rw [st3_k (by omega), st3_k (by omega)]; exact a1.trans st3_same.symm
        · rw [st3_k (by omega), st3_same]; exact a2
        · rw [st3_same]; exact a3
      · rw [show frC ev (d + 1) x1 x2 x3 (frB (d + 1) (nI P') (nI q) r1) = _ from if_neg e0, h22' (by omega) i hi]
        show 0 = zr (r1 17 0) (3 * (d + 1)) 3 (3 * (d + 1) + i)
        rw [zr_in (by omega) (by omega)]
    · rw [stR_same, va3 hi, frR_18 hi, g23]
      by_cases e0 : ev = 1
      · rw [if_pos e0, h23' e0 i hi]
        show 0 = zr (r1 18 0) (3 * (d + 1)) 3 (3 * (d + 1) + i)
        rw [zr_in (by omega) (by omega)]
      · rw [if_neg e0, h23 e0 i hi]
        show _ = r1 2 0 (48 * t + 3 * q + i)
        rw [k1 2 (by decide) (by decide)]
    · rw [frR_a (by decide) (by decide), stR_a (show 10 ≠ 14 by decide), stR_a (show 10 ≠ 13 by decide), st3_k (by decide), st3_same]
      show Int32.ofInt 1 = enR (d + 1) (nI P') (nI q) (Int32.ofInt 1) (st3 r1 0 0 27 (r1 0 0 27 + Int32.ofInt 1)) 19 0 (d + 1)
      rw [enR_19, if_pos rfl]
  · rw [frR_a (by decide) (by decide)]
    show enR (d + 1) (nI P') (nI q) (Int32.ofInt 1) (st3 r1 0 0 27 (r1 0 0 27 + Int32.ofInt 1)) 14 0 (d + 1) = _
    rw [enR_14, if_pos rfl, on0]
  · by_cases ej : j = d
    · subst ej
      refine ⟨P, k, h, ?_, ?_, h12, fun z => absurd z ?_, fun _ => ⟨?_, ?_⟩⟩
      · have q1 : FrC j P k h (st3 g 20 0 3 (g 20 0 3 + Int32.ofInt 1)) (st3 r1 0 0 27 (r1 0 0 27 + Int32.ofInt 1)) := hf1
        have q2 : FrC j P k h g2 (enR (j + 1) (nI P') (nI q) (Int32.ofInt 1) (st3 r1 0 0 27 (r1 0 0 27 + Int32.ofInt 1))) := q1.enter (by omega) e7 e8
        exact q2.keep rfl (fun a _ _ => by rw [bt_k (by omega), st3_a (by omega)]) (by rw [frR_a (by decide) (by decide)]; rfl) (by rw [frR_a (by decide) (by decide)]; rfl) (by rw [frR_a (by decide) (by decide)]; rfl) (fun i _ => by rw [frR_a (by decide) (by decide)]; rfl) (fun i _ => by rw [frR_a (by decide) (by decide)]; rfl) (fun i _ => by rw [frR_17o (Or.inl (by omega))]; rfl) (fun i _ => by rw [frR_18o (Or.inl (by omega))]; rfl)
      · show Sok (fun i => g2 24 0 (60 * P + i)) (g2 25 0 P).toNatClampNeg P k (h + 1)
        rw [g24, g25]; exact hs
      · rw [frR_a (by decide) (by decide)]
        show ¬ enR (j + 1) (nI P') (nI q) (Int32.ofInt 1) (st3 r1 0 0 27 (r1 0 0 27 + Int32.ofInt 1)) 19 0 (j + 1) = 0
        rw [enR_19, if_pos rfl]; decide
      · rw [frR_a (by decide) (by decide)]
        show enR (j + 1) (nI P') (nI q) (Int32.ofInt 1) (st3 r1 0 0 27 (r1 0 0 27 + Int32.ofInt 1)) 14 0 j = _
        rw [enR_14, if_neg (by omega)]; exact k14
      · rw [frR_a (by decide) (by decide)]
        show r1 15 0 (13 * j + h) = _
        rw [k15, stR_a (show 10 ≠ 14 by decide), stR_a (show 10 ≠ 13 by decide), st3_same]
    · obtain ⟨P2, k2, h2, hw⟩ := hbel j (by omega)
      have q0 : Wt j P2 k2 h2 (st3 g 20 0 3 (g 20 0 3 + Int32.ofInt 1)) (st3 r1 0 0 27 (r1 0 0 27 + Int32.ofInt 1)) := hw.keep rfl rfl rfl (fun a _ _ => by rw [st3_a (by omega)]) rfl (by show r1 12 0 j = _; rw [k1 12 (by decide) (by decide)]) (by show r1 13 0 j = _; rw [k1 13 (by decide) (by decide)]) (by show r1 14 0 j = _; exact k14' j ej) (by show r1 19 0 j = _; rw [k1 19 (by decide) (by decide)]) (by show r1 19 0 (j + 1) = _; rw [k1 19 (by decide) (by decide)]) (fun i hi => by show r1 15 0 (13 * j + i) = _; exact k15' _ (by omega)) (fun i _ => by show r1 16 0 (8 * j + i) = _; rw [k1 16 (by decide) (by decide)]) (fun i _ => by show r1 17 0 (3 * j + i) = _; rw [k1 17 (by decide) (by decide)]) (fun i _ => by show r1 18 0 (3 * j + i) = _; rw [k1 18 (by decide) (by decide)])
      have q1 : Wt j P2 k2 h2 g2 (enR (d + 1) (nI P') (nI q) (Int32.ofInt 1) (st3 r1 0 0 27 (r1 0 0 27 + Int32.ofInt 1))) := q0.enter (by omega) e7 e8
      exact ⟨P2, k2, h2, q1.keep rfl rfl rfl (fun a _ _ => by rw [bt_k (by omega), st3_a (by omega)]) (by rw [bt_k (by omega), st3_a (by decide)]) (by rw [frR_a (by decide) (by decide)]; rfl) (by rw [frR_a (by decide) (by decide)]; rfl) (by rw [frR_a (by decide) (by decide)]; rfl) (by rw [frR_a (by decide) (by decide)]; rfl) (by rw [frR_a (by decide) (by decide)]; rfl) (fun i _ => by rw [frR_a (by decide) (by decide)]; rfl) (fun i _ => by rw [frR_a (by decide) (by decide)]; rfl) (fun i _ => by rw [frR_17o (Or.inl (by omega))]; rfl) (fun i _ => by rw [frR_18o (Or.inl (by omega))]; rfl)⟩
  · refine e4.trg.keep (fun x hx => ?_) rfl (fun x hx => ?_)
    · rw [stR_a (by omega), stR_a (by omega), st3_a (by omega), st3_a (by omega)]
    · rw [frR_a (by omega) (by omega)]; rfl
  · rw [frR_a (by decide) (by decide)]
    show r1 0 0 21 = _
    rw [k0]
  · rw [frR_a (by decide) (by decide)]
    show r1 0 0 23 = _
    rw [k0]
  · rw [frR_a (by decide) (by decide)]
    show r1 0 0 24 = _
    rw [k0]
