/-! dividing, jumps, calls, raise -/
section
variable {d P k h : Nat} {A B A' B' : Int32} {g r R : mG}
theorem Cm.s21 {x : Int32} (hc : Cm g r) : Cm g (st3 r 0 0 21 x) := by
  obtain ⟨cL, cT, cG, ⟨n0, n1, n2, n3, n4⟩, cK⟩ := hc
  exact ⟨cL, cT, cG, ⟨n0, n1, n2, n3, n4⟩, cK⟩
theorem resE {c m : Option mRes} {g' r' : mG} (x : Nat) (hx : x < 7) (hc : c = some (some (.inl (Int32.ofInt x)), g')) (hm : m = some (none, r')) (h21 : r' 0 0 21 = Int32.ofInt x) (hC : Cm g' r') (hM : InvM g') (h23 : r' 0 0 23 = R 0 0 23) (h24 : r' 0 0 24 = R 0 0 24) : Res c m R := by
  have e : (Int32.ofInt (x : Int)).toInt = x := by
    rcases (show x = 0 ∨ x = 1 ∨ x = 2 ∨ x = 3 ∨ x = 4 ∨ x = 5 ∨ x = 6 by omega) with rfl | rfl | rfl | rfl | rfl | rfl | rfl <;> decide
  exact ⟨_, g', r', hc, hm, Or.inr ⟨by rw [e]; omega, by rw [e]; omega, h21, hC, hM⟩, h23, h24⟩
theorem s_R_reckon7 {b c : Int32} {g : mG} (hc : ¬ c = 0) : f_R_reckon [.inr (0, 0), .inl (nI 7), .inl b, .inl c] g = some (b / c, g) := by
  refine e_R_reckon (n := 16) rfl ?_
  rw [x_R_reckon, if_pos (by decide), if_neg hc, if_neg (by decide), if_neg (by decide), if_neg (by decide), if_pos (by decide), if_neg hc]
theorem s_R_reckon8 {b c : Int32} {g : mG} (hc : ¬ c = 0) : f_R_reckon [.inr (0, 0), .inl (nI 8), .inl b, .inl c] g = some (b - b / c * c, g) := by
  refine e_R_reckon (n := 16) rfl ?_
  rw [x_R_reckon, if_neg (by decide), if_pos (by decide), if_neg hc, if_neg (by decide), if_neg (by decide), if_neg (by decide), if_neg (by decide), if_pos (by decide), if_neg hc]
theorem s_R_reckon7z {b c : Int32} {g : mG} (hc : c = 0) : f_R_reckon [.inr (0, 0), .inl (nI 7), .inl b, .inl c] g = some (Int32.ofInt 0, st3 g 0 0 21 (Int32.ofInt 2)) := by
  refine e_R_reckon (n := 16) rfl ?_
  rw [x_R_reckon, if_pos (by decide), if_pos hc]
theorem s_R_reckon8z {b c : Int32} {g : mG} (hc : c = 0) : f_R_reckon [.inr (0, 0), .inl (nI 8), .inl b, .inl c] g = some (Int32.ofInt 0, st3 g 0 0 21 (Int32.ofInt 2)) := by
  refine e_R_reckon (n := 16) rfl ?_
  rw [x_R_reckon, if_neg (by decide), if_pos (by decide), if_pos hc]
theorem so_7 (hr : Run d P k (h + 2) g R) (hs : Sok (wds g P) (lns g P) P k (h + 1)) (h12 : h + 1 ≤ 12) (h7 : R 0 0 21 = Int32.ofInt 7) : Res (tS (nI 1) 7 d A B g) (tR 7 d A' B' r R) R := by
  obtain ⟨x1, g1, r1, a1, b1, h1, o1⟩ := popF hr
  obtain ⟨x2, g2, r2, a2, b2, h2, o2⟩ := popF h1
  by_cases hz : x1 = 0
  · have b3 := s_R_push (d := d) (h := h) (a := Int32.ofInt 0) (r := st3 r2 0 0 21 (Int32.ofInt 2)) h2.1.2.2.1 h2.1.1 h2.2.2.1 (by omega)
    have u : f_M_divide [.inr (10, d), .inr (100, 7)] g = some (Int32.ofInt 2, g2) := by
      refine e_M_divide (n := 19) rfl ?_
      rw [x_M_divide]
      simp only [a1, a2, Option.bind_some]
      rw [if_pos hz]
    have q : f_R_onStack [.inr (0, 0), .inl (nI 7)] R = some (st3 (st3 (st3 r2 0 0 21 (Int32.ofInt 2)) 15 0 (13 * d + h) (Int32.ofInt 0)) 14 0 d (nI (h + 1))) := by
      refine e_R_onStack (n := 26) rfl ?_
      rw [x_R_onStack, if_neg (by decide), if_neg (by decide), if_neg (by decide), if_neg (by decide)]
      simp only [b1, b2, s_R_reckon7z hz, b3, Option.bind_some]
    refine resE (g' := g2) (r' := st3 (st3 (st3 r2 0 0 21 (Int32.ofInt 2)) 15 0 (13 * d + h) (Int32.ofInt 0)) 14 0 d (nI (h + 1))) 2 (by omega) ?_ ?_ rfl ?_ h2.im ?_ ?_
    · unfold tS
      rw [if_pos (by decide)]
      simp only [u, Option.bind_some]
      rfl
    · unfold tR
      rw [if_neg (by decide), if_pos (by decide)]
      simp only [q, Option.bind_some]
    · exact h2.cm.s21.keep (fun _ _ => rfl) rfl (fun x hx => by rw [st3_a (by omega), st3_a (by omega)])
    · show r2 0 0 23 = _
      rw [o2.2 0 (by decide), o1.2 0 (by decide)]
    · show r2 0 0 24 = _
      rw [o2.2 0 (by decide), o1.2 0 (by decide)]
  · obtain ⟨g3, r3, a3, b3, h3, o3⟩ := pushF (x2 / x1) h2 (by omega)
    have u : f_M_divide [.inr (10, d), .inr (100, 7)] g = some (Int32.ofInt (-1), g3) := by
      refine e_M_divide (n := 19) rfl ?_
      rw [x_M_divide]
      simp only [a1, a2, Option.bind_some]
      rw [if_neg hz, if_pos trivial, if_neg hz]
      simp only [a3, Option.bind_some]
    have q : f_R_onStack [.inr (0, 0), .inl (nI 7)] R = some r3 := by
      refine e_R_onStack (n := 26) rfl ?_
      rw [x_R_onStack, if_neg (by decide), if_neg (by decide), if_neg (by decide), if_neg (by decide)]
      simp only [b1, b2, s_R_reckon7 hz, b3, Option.bind_some]
    refine resB ?_ ?_ h3 ((o1.trans o2).trans o3) hs h7
    · unfold tS
      rw [if_pos (by decide)]
      simp only [u, Option.bind_some]
    · unfold tR
      rw [if_neg (by decide), if_pos (by decide)]
      simp only [q, Option.bind_some]
theorem so_8 (hr : Run d P k (h + 2) g R) (hs : Sok (wds g P) (lns g P) P k (h + 1)) (h12 : h + 1 ≤ 12) (h7 : R 0 0 21 = Int32.ofInt 7) : Res (tS (nI 2) 8 d A B g) (tR 8 d A' B' r R) R := by
  obtain ⟨x1, g1, r1, a1, b1, h1, o1⟩ := popF hr
  obtain ⟨x2, g2, r2, a2, b2, h2, o2⟩ := popF h1
  by_cases hz : x1 = 0
  · have b3 := s_R_push (d := d) (h := h) (a := Int32.ofInt 0) (r := st3 r2 0 0 21 (Int32.ofInt 2)) h2.1.2.2.1 h2.1.1 h2.2.2.1 (by omega)
    have u : f_M_divide [.inr (10, d), .inr (100, 8)] g = some (Int32.ofInt 2, g2) := by
      refine e_M_divide (n := 19) rfl ?_
      rw [x_M_divide]
      simp only [a1, a2, Option.bind_some]
      rw [if_pos hz]
    have q : f_R_onStack [.inr (0, 0), .inl (nI 8)] R = some (st3 (st3 (st3 r2 0 0 21 (Int32.ofInt 2)) 15 0 (13 * d + h) (Int32.ofInt 0)) 14 0 d (nI (h + 1))) := by
      refine e_R_onStack (n := 26) rfl ?_
      rw [x_R_onStack, if_neg (by decide), if_neg (by decide), if_neg (by decide), if_neg (by decide)]
      simp only [b1, b2, s_R_reckon8z hz, b3, Option.bind_some]
    refine resE (g' := g2) (r' := st3 (st3 (st3 r2 0 0 21 (Int32.ofInt 2)) 15 0 (13 * d + h) (Int32.ofInt 0)) 14 0 d (nI (h + 1))) 2 (by omega) ?_ ?_ rfl ?_ h2.im ?_ ?_
    · unfold tS
      rw [if_neg (by decide), if_pos (by decide)]
      simp only [u, Option.bind_some]
      rfl
    · unfold tR
      rw [if_neg (by decide), if_pos (by decide)]
      simp only [q, Option.bind_some]
    · exact h2.cm.s21.keep (fun _ _ => rfl) rfl (fun x hx => by rw [st3_a (by omega), st3_a (by omega)])
    · show r2 0 0 23 = _
      rw [o2.2 0 (by decide), o1.2 0 (by decide)]
    · show r2 0 0 24 = _
      rw [o2.2 0 (by decide), o1.2 0 (by decide)]
  · obtain ⟨g3, r3, a3, b3, h3, o3⟩ := pushF (x2 - x2 / x1 * x1) h2 (by omega)
    have u : f_M_divide [.inr (10, d), .inr (100, 8)] g = some (Int32.ofInt (-1), g3) := by
      refine e_M_divide (n := 19) rfl ?_
      rw [x_M_divide]
      simp only [a1, a2, Option.bind_some]
      rw [if_neg hz, if_neg (by decide), if_neg hz]
      simp only [a3, Option.bind_some]
    have q : f_R_onStack [.inr (0, 0), .inl (nI 8)] R = some r3 := by
      refine e_R_onStack (n := 26) rfl ?_
      rw [x_R_onStack, if_neg (by decide), if_neg (by decide), if_neg (by decide), if_neg (by decide)]
      simp only [b1, b2, s_R_reckon8 hz, b3, Option.bind_some]
    refine resB ?_ ?_ h3 ((o1.trans o2).trans o3) hs h7
    · unfold tS
      rw [if_neg (by decide), if_pos (by decide)]
      simp only [u, Option.bind_some]
    · unfold tR
      rw [if_neg (by decide), if_pos (by decide)]
      simp only [q, Option.bind_some]
theorem so_14 {t : Nat} (ht : t ≤ 60) (hr : Run d P k h g R) (hs : Sok (wds g P) (lns g P) P t h) (h7 : R 0 0 21 = Int32.ofInt 7) : Res (tS (nI 3) 14 d (nI t) B g) (tR 14 d (nI t) B' r R) R := by
  have b8 : inB (nI d) 8 := by rw [nI_inB (by have := hr.1.1; omega)]; exact hr.1.1
  have hp := hr.place t ht
  refine ⟨Int32.ofInt (-1), _, _, ?_, ?_, hp.post ?_ ?_, rfl, rfl⟩
  · unfold tS
    rw [if_neg (by decide), if_neg (by decide), if_pos (by decide)]
  · unfold tR
    rw [if_neg (by decide), if_neg (by decide), if_neg (by decide), if_neg (by decide), if_pos (by decide), if_pos b8]
  · exact hs
  · exact h7
theorem so_15 {t : Nat} (ht : t ≤ 60) (hr : Run d P k (h + 1) g R) (hs : Sok (wds g P) (lns g P) P k h) (hs2 : Sok (wds g P) (lns g P) P t h) (h7 : R 0 0 21 = Int32.ofInt 7) : Res (tS (nI 4) 15 d (nI t) B g) (tR 15 d (nI t) B' r R) R := by
  have b8 : inB (nI d) 8 := by rw [nI_inB (by have := hr.1.1; omega)]; exact hr.1.1
  obtain ⟨x1, g1, r1, a1, b1, h1, o1⟩ := popF hr
  by_cases hz : x1 = 0
  · have hp := h1.place t ht
    refine ⟨Int32.ofInt (-1), st3 g1 10 d 6 (nI t), st3 r1 13 0 d (nI t), ?_, ?_, hp.post ?_ ?_, ?_, ?_⟩
    · unfold tS
      rw [if_neg (by decide), if_neg (by decide), if_neg (by decide), if_pos (by decide)]
      simp only [a1, Option.bind_some]
      rw [if_pos hz]
    · unfold tR
      rw [if_neg (by decide), if_neg (by decide), if_neg (by decide), if_neg (by decide), if_neg (by decide), if_pos (by decide)]
      simp only [b1, Option.bind_some]
      rw [if_pos hz, if_pos b8]
    · exact o1.sok hs2
    · exact o1.s0 h7
    · show r1 0 0 23 = _
      rw [o1.2 0 (by decide)]
    · show r1 0 0 24 = _
      rw [o1.2 0 (by decide)]
  · refine resB ?_ ?_ h1 o1 hs h7
    · unfold tS
      rw [if_neg (by decide), if_neg (by decide), if_neg (by decide), if_pos (by decide)]
      simp only [a1, Option.bind_some]
      rw [if_neg hz, st3_id rfl]
    · unfold tR
      rw [if_neg (by decide), if_neg (by decide), if_neg (by decide), if_neg (by decide), if_neg (by decide), if_pos (by decide)]
      simp only [b1, Option.bind_some]
      rw [if_neg hz, if_pos b8, if_pos b8, st3_id rfl]
theorem so_24 {P' : Nat} (hP' : (P' : Int) < (g 2 0 3).toInt) (hr : Run d P k (h + 1) g R) (hs : Sok (wds g P) (lns g P) P k (h + 1)) (h12 : h + 1 ≤ 12) (h7 : R 0 0 21 = Int32.ofInt 7) : Res (tS (nI 8) 24 d (nI P') B g) (tR 24 d (nI P') B' r R) R := by
  obtain ⟨x1, g1, r1, a1, b1, h1, o1⟩ := popF hr
  by_cases hd : d + 1 < 8
  · obtain ⟨g2, r2, c1, c2, c3, c4, c5, c6, c7, c8⟩ := callB (b := x1) h1 (o1.sok hs) (by omega) hd (show (P' : Int) < (g1 2 0 3).toInt by rw [o1.1 2 (by decide) (by decide) (by decide)]; exact hP')
    refine ⟨Int32.ofInt (-1), g2, r2, ?_, ?_, c3.post c3.snd (c4.trans (o1.s0 h7)), ?_, ?_⟩
    · unfold tS
      rw [if_neg (by decide), if_neg (by decide), if_neg (by decide), if_neg (by decide), if_neg (by decide), if_neg (by decide), if_neg (by decide), if_pos (by decide)]
      simp only [a1, c1, Option.bind_some]
    · unfold tR
      rw [if_neg (by decide), if_neg (by decide), if_neg (by decide), if_neg (by decide), if_neg (by decide), if_neg (by decide), if_neg (by decide), if_neg (by decide), if_neg (by decide), if_neg (by decide), if_neg (by decide), if_neg (by decide), if_neg (by decide), if_neg (by decide), if_pos (by decide)]
      simp only [b1, c2, Option.bind_some]
    · rw [c7, o1.2 0 (by decide)]
    · rw [c8, o1.2 0 (by decide)]
  · have e7 : d = 7 := by have := hr.1.1; omega
    subst e7
    refine resE (g' := g1) (r' := st3 r1 0 0 21 (Int32.ofInt 4)) 4 (by omega) ?_ ?_ rfl h1.cm.s21 h1.im ?_ ?_
    · unfold tS
      rw [if_neg (by decide), if_neg (by decide), if_neg (by decide), if_neg (by decide), if_neg (by decide), if_neg (by decide), if_neg (by decide), if_pos (by decide)]
      simp only [a1, s_M_open8 (g := g1) h1.1.2.1, Option.bind_some]
      rfl
    · unfold tR
      rw [if_neg (by decide), if_neg (by decide), if_neg (by decide), if_neg (by decide), if_neg (by decide), if_neg (by decide), if_neg (by decide), if_neg (by decide), if_neg (by decide), if_neg (by decide), if_neg (by decide), if_neg (by decide), if_neg (by decide), if_neg (by decide), if_pos (by decide)]
      simp only [b1, s_R_enter8 (r := r1) h1.1.2.2.1, Option.bind_some]
    · show r1 0 0 23 = _
      rw [o1.2 0 (by decide)]
    · show r1 0 0 24 = _
      rw [o1.2 0 (by decide)]
theorem Cm.val {x : Int32} (hc : Cm g r) : Cm (st3 g 1 0 4 x) (st3 r 0 0 22 x) := by
  obtain ⟨cL, cT, cG, ⟨n0, n1, n2, n3, n4⟩, cK⟩ := hc
  exact ⟨cL, cT, cG, ⟨n0, n1, n2, n3, rfl⟩, cK⟩
theorem so_25 (hr : Run d P k (h + 1) g R) : Res (tS (nI 9) 25 d A B g) (tR 25 d A' B' r R) R := by
  obtain ⟨x1, g1, r1, a1, b1, h1, o1⟩ := popF hr
  refine resE (g' := st3 g1 1 0 4 x1) (r' := st3 (st3 r1 0 0 22 x1) 0 0 21 (Int32.ofInt 1)) 1 (by omega) ?_ ?_ rfl h1.cm.val.s21 h1.im ?_ ?_
  · unfold tS
    rw [if_neg (by decide), if_neg (by decide), if_neg (by decide), if_neg (by decide), if_neg (by decide), if_neg (by decide), if_neg (by decide), if_neg (by decide), if_pos (by decide)]
    simp only [a1, Option.bind_some]
    rfl
  · unfold tR
    rw [if_neg (by decide), if_neg (by decide), if_neg (by decide), if_neg (by decide), if_neg (by decide), if_neg (by decide), if_neg (by decide), if_neg (by decide), if_neg (by decide), if_neg (by decide), if_neg (by decide), if_neg (by decide), if_neg (by decide), if_neg (by decide), if_neg (by decide), if_pos (by decide)]
    simp only [b1, Option.bind_some]
  · show r1 0 0 23 = _
    rw [o1.2 0 (by decide)]
  · show r1 0 0 24 = _
    rw [o1.2 0 (by decide)]
theorem s_M_back0 {x : Int32} {g1 : mG} (a1 : f_F_pop [.inr (10, 0)] g = some (x, g1)) (h8 : g1 1 0 8 = nI 1) : f_M_giveBack [.inr (1, 0), .inr (10, 0)] g = some (Int32.ofInt 0, st3 (st3 g1 1 0 8 (nI 0)) 1 0 4 x) := by
  have e : g1 1 0 8 - Int32.ofInt 1 = nI 0 := by rw [h8, on1, show (1 : Nat) = 0 + 1 from rfl, nS (by omega)]
  refine e_M_giveBack (n := 32) rfl ?_
  rw [x_M_giveBack]
  simp only [a1, Option.bind_some, e]
  rw [if_neg (by decide)]
theorem s_M_back {j : Nat} {x : Int32} {g1 : mG} (hj : j + 1 < 8) (a1 : f_F_pop [.inr (10, j + 1)] g = some (x, g1)) (h8 : g1 1 0 8 = nI (j + 2)) (h21 : g1 21 0 j = nI j) {g2 : mG} (h2 : f_F_push [.inr (10, j), .inl (if g1 10 (j + 1) 7 = 0 then x else g1 10 (j + 1) 8)] (st3 (st3 g1 1 0 8 (nI (j + 1))) 1 0 9 (nI j)) = some g2) : f_M_giveBack [.inr (1, 0), .inr (10, j + 1)] g = some (Int32.ofInt (-1), g2) := by
  have e : g1 1 0 8 - Int32.ofInt 1 = nI (j + 1) := by rw [h8, on1, show j + 2 = (j + 1) + 1 from rfl, nS (by omega)]
  have e2 : nI (j + 1) - Int32.ofInt 1 = nI j := by rw [on1, nS (by omega)]
  have hjn : j < nmC 10 := by show j < 8; omega
  refine e_M_giveBack (n := 32) rfl ?_
  rw [x_M_giveBack]
  simp only [a1, Option.bind_some, e, e2, nI_clamp (show j < 2 ^ 31 by omega), h21]
  rw [if_pos (show (0 : Int32) < nI (j + 1) by rw [show (0 : Int32) = nI 0 from rfl, nI_ltI (by omega) (by omega)]; omega), if_pos (show inB (nI j) 8 by rw [nI_inB (by omega)]; omega), if_pos hjn, if_pos hjn]
  by_cases hz : g1 10 (j + 1) 7 = 0
  · rw [if_pos hz] at h2 ⊢
    simp only [h2, Option.bind_some]
  · rw [if_neg hz] at h2 ⊢
    simp only [h2, Option.bind_some]
theorem Run.low {j : Nat} (hr : Run (j + 1) P k h g r) : ∃ P2 k2 h2, Wt j P2 k2 h2 g r ∧ Dp j (st3 (st3 g 1 0 8 (nI (j + 1))) 1 0 9 (nI j)) (st3 r 0 0 12 (nI (j + 1))) ∧ FrC j P2 k2 h2 (st3 (st3 g 1 0 8 (nI (j + 1))) 1 0 9 (nI j)) (st3 r 0 0 12 (nI (j + 1))) ∧ Bel j (st3 (st3 g 1 0 8 (nI (j + 1))) 1 0 9 (nI j)) (st3 r 0 0 12 (nI (j + 1))) ∧ Cm (st3 (st3 g 1 0 8 (nI (j + 1))) 1 0 9 (nI j)) (st3 r 0 0 12 (nI (j + 1))) := by
  obtain ⟨⟨d1, d2, d3, d4, d5⟩, hf, hh, hb, ⟨cL, cT, cG, ⟨n0, n1, n2, n3, n4⟩, cK⟩⟩ := hr
  obtain ⟨P2, k2, h2, hw⟩ := hb j (by omega)
  refine ⟨P2, k2, h2, hw, ⟨by omega, ?_, st3_same, st3_same, d5⟩, hw.1, fun i hi => ?_, cL, cT, cG, ⟨n0, n1, n2, n3, n4⟩, cK⟩
  · rw [st3_k (by decide), st3_same]
  · obtain ⟨P3, k3, h3, hw3⟩ := hb i (by omega)
    exact ⟨P3, k3, h3, hw3⟩
theorem so_26 (hr : Run d P k (h + 1) g R) (h7 : R 0 0 21 = Int32.ofInt 7) : Res (tS (nI 10) 26 d A B g) (tR 26 d A' B' r R) R := by
  obtain ⟨x1, g1, r1, a1, b1, h1, o1⟩ := popF hr
  have hd := hr.1.1
  by_cases hd0 : d = 0
  · subst hd0
    have q : f_R_comeBack [.inr (0, 0), .inl x1] r1 = some (st3 (st3 (st3 r1 0 0 12 (nI 0)) 0 0 22 x1) 0 0 21 (Int32.ofInt 0)) := by
      have e : r1 0 0 12 - Int32.ofInt 1 = nI 0 := by rw [h1.1.2.2.1, on1, nS (by omega)]
      refine e_R_comeBack (n := 25) rfl ?_
      rw [x_R_comeBack]
      simp only [e]
      rw [if_pos (by decide), if_pos (by decide)]
    refine resE (g' := st3 (st3 g1 1 0 8 (nI 0)) 1 0 4 x1) (r' := st3 (st3 (st3 r1 0 0 12 (nI 0)) 0 0 22 x1) 0 0 21 (Int32.ofInt 0)) 0 (by omega) ?_ ?_ rfl ?_ h1.im ?_ ?_
    · unfold tS
      rw [if_neg (by decide), if_neg (by decide), if_neg (by decide), if_neg (by decide), if_neg (by decide), if_neg (by decide), if_neg (by decide), if_neg (by decide), if_neg (by decide), if_pos (by decide)]
      simp only [s_M_back0 a1 h1.1.2.1, Option.bind_some]
      rfl
    · unfold tR
      rw [if_neg (by decide), if_neg (by decide), if_neg (by decide), if_neg (by decide), if_neg (by decide), if_neg (by decide), if_neg (by decide), if_neg (by decide), if_neg (by decide), if_neg (by decide), if_neg (by decide), if_neg (by decide), if_neg (by decide), if_neg (by decide), if_neg (by decide), if_neg (by decide)]
      simp only [b1, q, Option.bind_some]
    · refine Cm.s21 (Cm.val ?_)
      obtain ⟨cL, cT, cG, ⟨n0, n1, n2, n3, n4⟩, cK⟩ := h1.cm
      exact ⟨cL, cT, cG, ⟨n0, n1, n2, n3, n4⟩, cK⟩
    · show r1 0 0 23 = _
      rw [o1.2 0 (by decide)]
    · show r1 0 0 24 = _
      rw [o1.2 0 (by decide)]
  · obtain ⟨j, rfl⟩ : ∃ j, d = j + 1 := ⟨d - 1, by omega⟩
    obtain ⟨P2, k2, h2, ⟨w0, w1, w2, w3, w4⟩, u1, u2, u3, u4⟩ := h1.low
    have e : r1 0 0 12 - Int32.ofInt 1 = nI (j + 1) := by rw [h1.1.2.2.1, on1, nS (by omega)]
    have b8 : inB (nI (j + 1)) 8 := by rw [nI_inB (by omega)]; exact hd
    have n0 : ¬ nI (j + 1) = 0 := by rw [show (0 : Int32) = nI 0 from rfl, nI_eqN (by omega) (by omega)]; omega
    have h19 : g1 10 (j + 1) 7 = r1 19 0 (j + 1) := h1.2.1.2.2.2.2.2.2.2.2
    by_cases hz : r1 19 0 (j + 1) = 0
    · have hl : Run j P2 k2 h2 (st3 (st3 g1 1 0 8 (nI (j + 1))) 1 0 9 (nI j)) (st3 r1 0 0 12 (nI (j + 1))) := ⟨u1, u2, w3 hz, u3, u4⟩
      obtain ⟨g2, r2, a2, b2, h3, o2⟩ := pushF x1 hl (by omega)
      have q : f_R_comeBack [.inr (0, 0), .inl x1] r1 = some r2 := by
        refine e_R_comeBack (n := 25) rfl ?_
        rw [x_R_comeBack]
        simp only [e, nI_clamp (show j + 1 < 2 ^ 31 by omega)]
        rw [if_pos b8, if_neg n0, if_pos hz]
        simp only [b2, Option.bind_some]
      refine ⟨Int32.ofInt (-1), g2, r2, ?_, ?_, h3.post (o2.sok w1) (o2.s0 (o1.s0 h7)), ?_, ?_⟩
      · unfold tS
        rw [if_neg (by decide), if_neg (by decide), if_neg (by decide), if_neg (by decide), if_neg (by decide), if_neg (by decide), if_neg (by decide), if_neg (by decide), if_neg (by decide), if_pos (by decide)]
        simp only [s_M_back hd a1 h1.1.2.1 (h1.1.2.2.2.2 j (by omega)) (by rw [h19, if_pos hz]; exact a2), Option.bind_some]
      · unfold tR
        rw [if_neg (by decide), if_neg (by decide), if_neg (by decide), if_neg (by decide), if_neg (by decide), if_neg (by decide), if_neg (by decide), if_neg (by decide), if_neg (by decide), if_neg (by decide), if_neg (by decide), if_neg (by decide), if_neg (by decide), if_neg (by decide), if_neg (by decide), if_neg (by decide)]
        simp only [b1, q, Option.bind_some]
      · rw [o2.2 0 (by decide)]
        show r1 0 0 23 = _
        rw [o1.2 0 (by decide)]
      · rw [o2.2 0 (by decide)]
        show r1 0 0 24 = _
        rw [o1.2 0 (by decide)]
    · obtain ⟨v1, v2⟩ := w4 hz
      have a2 := s_F_push (j := j) (h := h2) (a := g1 10 (j + 1) 8) (g := st3 (st3 g1 1 0 8 (nI (j + 1))) 1 0 9 (nI j)) u2.2.2.2.1 w2
      have q : f_R_comeBack [.inr (0, 0), .inl x1] r1 = some (st3 r1 0 0 12 (nI (j + 1))) := by
        refine e_R_comeBack (n := 25) rfl ?_
        rw [x_R_comeBack]
        simp only [e, nI_clamp (show j + 1 < 2 ^ 31 by omega)]
        rw [if_pos b8, if_neg n0, if_neg hz]
      have hl : Run j P2 k2 (h2 + 1) (st3 (st3 (st3 (st3 g1 1 0 8 (nI (j + 1))) 1 0 9 (nI j)) 11 j h2 (g1 10 (j + 1) 8)) 10 j 1 (nI (h2 + 1))) (st3 r1 0 0 12 (nI (j + 1))) := by
        obtain ⟨⟨f0, f0', f0''⟩, f1, f2, f3, f4, f5, f6, f7, f8⟩ := u2
        refine ⟨⟨u1.1, u1.2.1, u1.2.2.1, u1.2.2.2.1, u1.2.2.2.2⟩, ⟨⟨f0, f0', by omega⟩, ?_, ?_, st3_same, fun i hi => ?_, f5, f6, f7, ?_⟩, v1, fun i hi => ?_, u4⟩
        · rw [st3_k (by decide), st3_a (by decide)]; exact f1
        · rw [st3_k (by decide), st3_a (by decide)]; exact f2
        · rw [st3_a (show 11 ≠ 10 by decide)]
          by_cases ei : i = h2
          · subst ei; rw [st3_same]; exact v2.symm
          · rw [st3_k ei]; exact f4 i (by omega)
        · rw [st3_k (by decide), st3_a (by decide)]; exact f8
        · obtain ⟨P3, k3, h3, hw3⟩ := u3 i hi
          exact ⟨P3, k3, h3, hw3.keep rfl rfl rfl (fun a _ _ => by
            funext z
            simp only [st3]
            rw [if_neg (fun q => by omega), if_neg (fun q => by omega)]) (by rw [st3_k (by decide), st3_a (by decide)]) rfl rfl rfl rfl rfl (fun _ _ => rfl) (fun _ _ => rfl) (fun _ _ => rfl) (fun _ _ => rfl)⟩
      refine ⟨Int32.ofInt (-1), _, _, ?_, ?_, hl.post w1 (o1.s0 h7), ?_, ?_⟩
      · unfold tS
        rw [if_neg (by decide), if_neg (by decide), if_neg (by decide), if_neg (by decide), if_neg (by decide), if_neg (by decide), if_neg (by decide), if_neg (by decide), if_neg (by decide), if_pos (by decide)]
        simp only [s_M_back hd a1 h1.1.2.1 (h1.1.2.2.2.2 j (by omega)) (by rw [h19, if_neg hz]; exact a2), Option.bind_some]
      · unfold tR
        rw [if_neg (by decide), if_neg (by decide), if_neg (by decide), if_neg (by decide), if_neg (by decide), if_neg (by decide), if_neg (by decide), if_neg (by decide), if_neg (by decide), if_neg (by decide), if_neg (by decide), if_neg (by decide), if_neg (by decide), if_neg (by decide), if_neg (by decide), if_neg (by decide)]
        simp only [b1, q, Option.bind_some]
      · show r1 0 0 23 = _
        rw [o1.2 0 (by decide)]
      · show r1 0 0 24 = _
        rw [o1.2 0 (by decide)]
end
