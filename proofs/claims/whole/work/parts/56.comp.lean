/-! the instructions that only take and give -/
def Res (c m : Option mRes) (R : mG) : Prop := ∃ x g' r', c = some (some (.inl x), g') ∧ m = some (none, r') ∧ Post x g' r' ∧ r' 0 0 23 = R 0 0 23 ∧ r' 0 0 24 = R 0 0 24
theorem resB {c m : Option mRes} {d P k h : Nat} {g g' R r' : mG} (hc : c = some (some (.inl (Int32.ofInt (-1))), g')) (hm : m = some (none, r')) (hr : Run d P k h g' r') (hf : Fo g g' R r') (hs : Sok (wds g P) (lns g P) P k h) (h7 : R 0 0 21 = Int32.ofInt 7) : Res c m R :=
  ⟨_, g', r', hc, hm, hr.post (hf.sok hs) (hf.s0 h7), by rw [hf.2 0 (by decide)], by rw [hf.2 0 (by decide)]⟩
theorem tS_cp {c op d : Nat} {A B : Int32} {G g' : mG} (hc : 10 < c) (hc2 : c < 28) (h : f_M_compute [.inr (1, 0), .inr (10, d), .inr (100, op), .inl A, .inl B] G = some g') : tS (nI c) op d A B G = some (some (.inl (Int32.ofInt (-1))), g') := by
  have q : ∀ i : Nat, i < 11 → ∀ x : Int32, x = nI i → ¬ nI c = x := fun i hi x hx z => by rw [hx, nI_eqN (by omega) (by omega)] at z; omega
  unfold tS
  rw [if_neg (q 1 (by omega) 1 (by decide)), if_neg (q 2 (by omega) 2 (by decide)), if_neg (q 3 (by omega) 3 (by decide)), if_neg (q 4 (by omega) 4 (by decide)), if_neg (q 5 (by omega) 5 (by decide)), if_neg (q 6 (by omega) 6 (by decide)), if_neg (q 7 (by omega) 7 (by decide)), if_neg (q 8 (by omega) 8 (by decide)), if_neg (q 9 (by omega) 9 (by decide)), if_neg (q 10 (by omega) 10 (by decide)), h, Option.bind_some]
theorem s_F_at_12 {j a : Nat} {g : mG} (ha : a < 8) : f_F_at [.inr (12, j), .inl (nI a)] g = some (g 12 j a, g) := by
  refine e_F_at (n := 10) rfl ?_
  rw [x_F_at_12, s_B_isBelow]
  simp only [Option.bind_some, bI_0, nI_toInt (show a < 2 ^ 31 by omega), nI_toInt (show 8 < 2 ^ 31 by omega), nI_clamp (show a < 2 ^ 31 by omega)]
  rw [if_neg (fun z => z ⟨by omega, by omega⟩), if_pos (by rw [nI_inB (by omega)]; exact ha)]
theorem s_F_at_13 {j a : Nat} {g : mG} (ha : a < 3) : f_F_at [.inr (13, j), .inl (nI a)] g = some (g 13 j a, g) := by
  refine e_F_at (n := 10) rfl ?_
  rw [x_F_at_13, s_B_isBelow]
  simp only [Option.bind_some, bI_0, nI_toInt (show a < 2 ^ 31 by omega), nI_toInt (show 3 < 2 ^ 31 by omega), nI_clamp (show a < 2 ^ 31 by omega)]
  rw [if_neg (fun z => z ⟨by omega, by omega⟩), if_pos (by rw [nI_inB (by omega)]; exact ha)]
theorem s_F_at_14 {j a : Nat} {g : mG} (ha : a < 3) : f_F_at [.inr (14, j), .inl (nI a)] g = some (g 14 j a, g) := by
  refine e_F_at (n := 10) rfl ?_
  rw [x_F_at_14, s_B_isBelow]
  simp only [Option.bind_some, bI_0, nI_toInt (show a < 2 ^ 31 by omega), nI_toInt (show 3 < 2 ^ 31 by omega), nI_clamp (show a < 2 ^ 31 by omega)]
  rw [if_neg (fun z => z ⟨by omega, by omega⟩), if_pos (by rw [nI_inB (by omega)]; exact ha)]
theorem s_F_store {j a : Nat} {x : Int32} {g : mG} (ha : a < 8) : f_F_store [.inr (10, j), .inl (nI a), .inl x] g = some (st3 g 12 j a x) := by
  refine e_F_store (n := 10) rfl ?_
  rw [x_F_store, s_B_isBelow]
  simp only [Option.bind_some, bI_0, nI_toInt (show a < 2 ^ 31 by omega), ti8, nI_clamp (show a < 2 ^ 31 by omega)]
  rw [if_neg (fun z => z ⟨by omega, by omega⟩), if_pos (by rw [nI_inB (by omega)]; exact ha)]
theorem Run.loc {d P k h a : Nat} {x : Int32} {g r : mG} (hr : Run d P k h g r) (ha : a < 8) : Run d P k h (st3 g 12 d a x) (st3 r 16 0 (8 * d + a) x) := by
  obtain ⟨⟨d1, d2, d3, d4, d5⟩, ⟨f0, f1, f2, f3, f4, f5, f6, f7, f8⟩, hh, hb, hc⟩ := hr
  refine ⟨⟨d1, d2, d3, d4, d5⟩, ⟨f0, f1, f2, f3, f4, fun i hi => ?_, f6, f7, f8⟩, hh, fun j hj => ?_, hc⟩
  · by_cases e : i = a
    · subst e; rw [st3_same, st3_same]
    · rw [st3_k e, st3_k (by omega)]; exact f5 i hi
  · obtain ⟨P', k', h', hw⟩ := hb j hj
    exact ⟨P', k', h', hw.keep rfl rfl rfl (fun a _ _ => by funext i; unfold st3; rw [if_neg (fun q => by omega)]) rfl rfl rfl rfl rfl rfl (fun _ _ => rfl) (fun i hi => by rw [st3_k (by omega)]) (fun _ _ => rfl) (fun _ _ => rfl)⟩
section
variable {d P k h : Nat} {A B A' B' : Int32} {g r R : mG}
theorem so_0 (hr : Run d P k (h + 0) g R) (hs : Sok (wds g P) (lns g P) P k (h + 1)) (h12 : h + 1 ≤ 12) (h7 : R 0 0 21 = Int32.ofInt 7) : Res (tS (nI 11) 0 d A B g) (tR 0 d A B' r R) R := by
  obtain ⟨g1, r1, a1, b1, h1, o1⟩ := pushF A hr (by omega)
  refine resB (tS_cp (by decide) (by decide) ?_) ?_ h1 o1 hs h7
  · show f_M_compute _ _ = _
    refine e_M_compute (n := 16) rfl ?_
    rw [x_M_compute, s_E_ordinal]
    simp only [Option.bind_some]
    rw [if_pos (smV 0 (by decide)).1]
    simp only [(smV 0 (by decide)).2]
    rw [if_pos (by decide)]
    simp only [a1, Option.bind_some]
  · unfold tR
    rw [if_pos (by decide)]
    simp only [b1, Option.bind_some]
theorem so_1 (hr : Run d P k (h + 1) g R) (hs : Sok (wds g P) (lns g P) P k (h + 0)) (h12 : h + 0 ≤ 12) (h7 : R 0 0 21 = Int32.ofInt 7) : Res (tS (nI 12) 1 d A B g) (tR 1 d A' B' r R) R := by
  obtain ⟨x1, g1, r1, a1, b1, h1, o1⟩ := popF hr
  refine resB (tS_cp (by decide) (by decide) ?_) ?_ h1 (o1) hs h7
  · show f_M_compute _ _ = _
    refine e_M_compute (n := 16) rfl ?_
    rw [x_M_compute, s_E_ordinal]
    simp only [Option.bind_some]
    rw [if_pos (smV 1 (by decide)).1]
    simp only [(smV 1 (by decide)).2]
    rw [if_neg (by decide), if_pos (by decide)]
    simp only [a1, Option.bind_some]
  · have q : f_R_onStack [.inr (0, 0), .inl (nI 1)] R = some r1 := by
      refine e_R_onStack (n := 26) rfl ?_
      rw [x_R_onStack, if_pos (by decide)]
      simp only [b1, Option.bind_some]
    unfold tR
    rw [if_neg (by decide), if_pos (by decide)]
    simp only [q, Option.bind_some]
theorem so_2 (hr : Run d P k (h + 1) g R) (hs : Sok (wds g P) (lns g P) P k (h + 2)) (h12 : h + 2 ≤ 12) (h7 : R 0 0 21 = Int32.ofInt 7) : Res (tS (nI 13) 2 d A B g) (tR 2 d A' B' r R) R := by
  obtain ⟨x1, g1, r1, a1, b1, h1, o1⟩ := popF hr
  obtain ⟨g2, r2, a2, b2, h2, o2⟩ := pushF x1 h1 (by omega)
  obtain ⟨g3, r3, a3, b3, h3, o3⟩ := pushF x1 h2 (by omega)
  refine resB (tS_cp (by decide) (by decide) ?_) ?_ h3 ((o1.trans o2).trans o3) hs h7
  · show f_M_compute _ _ = _
    refine e_M_compute (n := 16) rfl ?_
    rw [x_M_compute, s_E_ordinal]
    simp only [Option.bind_some]
    rw [if_pos (smV 2 (by decide)).1]
    simp only [(smV 2 (by decide)).2]
    rw [if_neg (by decide), if_neg (by decide), if_pos (by decide)]
    simp only [a1, a2, a3, Option.bind_some]
  · have q : f_R_onStack [.inr (0, 0), .inl (nI 2)] R = some r3 := by
      refine e_R_onStack (n := 26) rfl ?_
      rw [x_R_onStack, if_neg (by decide), if_pos (by decide)]
      simp only [b1, b2, b3, Option.bind_some]
    unfold tR
    rw [if_neg (by decide), if_pos (by decide)]
    simp only [q, Option.bind_some]
theorem so_11 (hr : Run d P k (h + 1) g R) (hs : Sok (wds g P) (lns g P) P k (h + 1)) (h12 : h + 1 ≤ 12) (h7 : R 0 0 21 = Int32.ofInt 7) : Res (tS (nI 14) 11 d A B g) (tR 11 d A' B' r R) R := by
  obtain ⟨x1, g1, r1, a1, b1, h1, o1⟩ := popF hr
  by_cases hz : x1 = 0
  · obtain ⟨g2, r2, a2, b2, h2, o2⟩ := pushF (Int32.ofInt 1) h1 (by omega)
    refine resB (tS_cp (by decide) (by decide) ?_) ?_ h2 (o1.trans o2) hs h7
    · show f_M_compute _ _ = _
      refine e_M_compute (n := 16) rfl ?_
      rw [x_M_compute, s_E_ordinal]
      simp only [Option.bind_some]
      rw [if_pos (smV 11 (by decide)).1]
      simp only [(smV 11 (by decide)).2]
      rw [if_neg (by decide), if_neg (by decide), if_neg (by decide), if_pos (by decide)]
      simp only [a1, a2, if_pos hz, Option.bind_some]
    · have q : f_R_onStack [.inr (0, 0), .inl (nI 11)] R = some r2 := by
        refine e_R_onStack (n := 26) rfl ?_
        rw [x_R_onStack, if_neg (by decide), if_neg (by decide), if_neg (by decide), if_pos (by decide)]
        simp only [b1, b2, if_pos hz, Option.bind_some]
      unfold tR
      rw [if_neg (by decide), if_pos (by decide)]
      simp only [q, Option.bind_some]
  · obtain ⟨g2, r2, a2, b2, h2, o2⟩ := pushF (Int32.ofInt 0) h1 (by omega)
    refine resB (tS_cp (by decide) (by decide) ?_) ?_ h2 (o1.trans o2) hs h7
    · show f_M_compute _ _ = _
      refine e_M_compute (n := 16) rfl ?_
      rw [x_M_compute, s_E_ordinal]
      simp only [Option.bind_some]
      rw [if_pos (smV 11 (by decide)).1]
      simp only [(smV 11 (by decide)).2]
      rw [if_neg (by decide), if_neg (by decide), if_neg (by decide), if_pos (by decide)]
      simp only [a1, a2, if_neg hz, Option.bind_some]
    · have q : f_R_onStack [.inr (0, 0), .inl (nI 11)] R = some r2 := by
        refine e_R_onStack (n := 26) rfl ?_
        rw [x_R_onStack, if_neg (by decide), if_neg (by decide), if_neg (by decide), if_pos (by decide)]
        simp only [b1, b2, if_neg hz, Option.bind_some]
      unfold tR
      rw [if_neg (by decide), if_pos (by decide)]
      simp only [q, Option.bind_some]
theorem s_R_reckon4 (b c : Int32) (g : mG) : f_R_reckon [.inr (0, 0), .inl (nI 4), .inl b, .inl c] g = some (b + c, g) := by
  refine e_R_reckon (n := 16) rfl ?_
  rw [x_R_reckon, if_neg (by decide), if_neg (by decide), if_pos (by decide)]
theorem s_R_reckon5 (b c : Int32) (g : mG) : f_R_reckon [.inr (0, 0), .inl (nI 5), .inl b, .inl c] g = some (b - c, g) := by
  refine e_R_reckon (n := 16) rfl ?_
  rw [x_R_reckon, if_neg (by decide), if_neg (by decide), if_neg (by decide), if_pos (by decide)]
theorem s_R_reckon6 (b c : Int32) (g : mG) : f_R_reckon [.inr (0, 0), .inl (nI 6), .inl b, .inl c] g = some (b * c, g) := by
  refine e_R_reckon (n := 16) rfl ?_
  rw [x_R_reckon, if_neg (by decide), if_neg (by decide), if_neg (by decide), if_neg (by decide), if_pos (by decide)]
theorem s_R_reckon9 (b c : Int32) (g : mG) : f_R_reckon [.inr (0, 0), .inl (nI 9), .inl b, .inl c] g = some (if b < c then Int32.ofInt 1 else Int32.ofInt 0, g) := by
  refine e_R_reckon (n := 16) rfl ?_
  rw [x_R_reckon, if_neg (by decide), if_neg (by decide), if_neg (by decide), if_neg (by decide), if_neg (by decide), if_neg (by decide), if_neg (by decide), if_pos (by decide)]
  by_cases hz : b < c
  · rw [if_pos hz, if_pos hz]
  · rw [if_neg hz, if_neg hz]
theorem s_R_reckon10 (b c : Int32) (g : mG) : f_R_reckon [.inr (0, 0), .inl (nI 10), .inl b, .inl c] g = some (if b = c then Int32.ofInt 1 else Int32.ofInt 0, g) := by
  refine e_R_reckon (n := 16) rfl ?_
  rw [x_R_reckon, if_neg (by decide), if_neg (by decide), if_neg (by decide), if_neg (by decide), if_neg (by decide), if_neg (by decide), if_neg (by decide), if_neg (by decide)]
  by_cases hz : b = c
  · rw [if_pos hz, if_pos hz]
  · rw [if_neg hz, if_neg hz]
theorem so_3 (hr : Run d P k (h + 2) g R) (hs : Sok (wds g P) (lns g P) P k (h + 2)) (h12 : h + 2 ≤ 12) (h7 : R 0 0 21 = Int32.ofInt 7) : Res (tS (nI 21) 3 d A B g) (tR 3 d A' B' r R) R := by
  obtain ⟨x1, g1, r1, a1, b1, h1, o1⟩ := popF hr
  obtain ⟨x2, g2, r2, a2, b2, h2, o2⟩ := popF h1
  obtain ⟨g3, r3, a3, b3, h3, o3⟩ := pushF x1 h2 (by omega)
  obtain ⟨g4, r4, a4, b4, h4, o4⟩ := pushF x2 h3 (by omega)
  have q2 : f_M_computeOfTwo [.inr (1, 0), .inr (10, d), .inr (100, 3), .inl A, .inl B] g = some g4 := by
    refine e_M_computeOfTwo (n := 22) rfl ?_
    rw [x_M_computeOfTwo]
    simp only [a1, a2, s_E_ordinal, Option.bind_some]
    rw [if_pos (smV 3 (by decide)).1]
    simp only [(smV 3 (by decide)).2]
    rw [if_pos (by decide)]
    simp only [a3, a4, Option.bind_some]
  have q : f_R_onStack [.inr (0, 0), .inl (nI 3)] R = some r4 := by
    refine e_R_onStack (n := 26) rfl ?_
    rw [x_R_onStack, if_neg (by decide), if_neg (by decide), if_pos (by decide)]
    simp only [b1, b2, b3, b4, Option.bind_some]
  refine resB (tS_cp (by decide) (by decide) ?_) ?_ h4 (((o1.trans o2).trans o3).trans o4) hs h7
  · show f_M_compute _ _ = _
    refine e_M_compute (n := 16) rfl ?_
    rw [x_M_compute, s_E_ordinal]
    simp only [Option.bind_some]
    rw [if_pos (smV 3 (by decide)).1]
    simp only [(smV 3 (by decide)).2]
    rw [if_neg (by decide), if_neg (by decide), if_neg (by decide), if_neg (by decide), if_neg (by decide), if_neg (by decide), if_neg (by decide), if_neg (by decide), if_neg (by decide), if_neg (by decide)]
    simp only [q2, Option.bind_some]
  · unfold tR
    rw [if_neg (by decide), if_pos (by decide)]
    simp only [q, Option.bind_some]
theorem so_4 (hr : Run d P k (h + 2) g R) (hs : Sok (wds g P) (lns g P) P k (h + 1)) (h12 : h + 1 ≤ 12) (h7 : R 0 0 21 = Int32.ofInt 7) : Res (tS (nI 22) 4 d A B g) (tR 4 d A' B' r R) R := by
  obtain ⟨x1, g1, r1, a1, b1, h1, o1⟩ := popF hr
  obtain ⟨x2, g2, r2, a2, b2, h2, o2⟩ := popF h1
  obtain ⟨g3, r3, a3, b3, h3, o3⟩ := pushF (x2 + x1) h2 (by omega)
  have q2 : f_M_computeOfTwo [.inr (1, 0), .inr (10, d), .inr (100, 4), .inl A, .inl B] g = some g3 := by
    refine e_M_computeOfTwo (n := 22) rfl ?_
    rw [x_M_computeOfTwo]
    simp only [a1, a2, s_E_ordinal, Option.bind_some]
    rw [if_pos (smV 4 (by decide)).1]
    simp only [(smV 4 (by decide)).2]
    rw [if_neg (by decide), if_pos (by decide)]
    simp only [a3, Option.bind_some]
  have q : f_R_onStack [.inr (0, 0), .inl (nI 4)] R = some r3 := by
    refine e_R_onStack (n := 26) rfl ?_
    rw [x_R_onStack, if_neg (by decide), if_neg (by decide), if_neg (by decide), if_neg (by decide)]
    simp only [b1, b2, s_R_reckon4, b3, Option.bind_some]
  refine resB (tS_cp (by decide) (by decide) ?_) ?_ h3 ((o1.trans o2).trans o3) hs h7
  · show f_M_compute _ _ = _
    refine e_M_compute (n := 16) rfl ?_
    rw [x_M_compute, s_E_ordinal]
    simp only [Option.bind_some]
    rw [if_pos (smV 4 (by decide)).1]
    simp only [(smV 4 (by decide)).2]
    rw [if_neg (by decide), if_neg (by decide), if_neg (by decide), if_neg (by decide), if_neg (by decide), if_neg (by decide), if_neg (by decide), if_neg (by decide), if_neg (by decide), if_neg (by decide)]
    simp only [q2, Option.bind_some]
  · unfold tR
    rw [if_neg (by decide), if_pos (by decide)]
    simp only [q, Option.bind_some]
theorem so_5 (hr : Run d P k (h + 2) g R) (hs : Sok (wds g P) (lns g P) P k (h + 1)) (h12 : h + 1 ≤ 12) (h7 : R 0 0 21 = Int32.ofInt 7) : Res (tS (nI 23) 5 d A B g) (tR 5 d A' B' r R) R := by
  obtain ⟨x1, g1, r1, a1, b1, h1, o1⟩ := popF hr
  obtain ⟨x2, g2, r2, a2, b2, h2, o2⟩ := popF h1
  obtain ⟨g3, r3, a3, b3, h3, o3⟩ := pushF (x2 - x1) h2 (by omega)
  have q2 : f_M_computeOfTwo [.inr (1, 0), .inr (10, d), .inr (100, 5), .inl A, .inl B] g = some g3 := by
    refine e_M_computeOfTwo (n := 22) rfl ?_
    rw [x_M_computeOfTwo]
    simp only [a1, a2, s_E_ordinal, Option.bind_some]
    rw [if_pos (smV 5 (by decide)).1]
    simp only [(smV 5 (by decide)).2]
    rw [if_neg (by decide), if_neg (by decide), if_pos (by decide)]
    simp only [a3, Option.bind_some]
  have q : f_R_onStack [.inr (0, 0), .inl (nI 5)] R = some r3 := by
    refine e_R_onStack (n := 26) rfl ?_
    rw [x_R_onStack, if_neg (by decide), if_neg (by decide), if_neg (by decide), if_neg (by decide)]
    simp only [b1, b2, s_R_reckon5, b3, Option.bind_some]
  refine resB (tS_cp (by decide) (by decide) ?_) ?_ h3 ((o1.trans o2).trans o3) hs h7
  · show f_M_compute _ _ = _
    refine e_M_compute (n := 16) rfl ?_
    rw [x_M_compute, s_E_ordinal]
    simp only [Option.bind_some]
    rw [if_pos (smV 5 (by decide)).1]
    simp only [(smV 5 (by decide)).2]
    rw [if_neg (by decide), if_neg (by decide), if_neg (by decide), if_neg (by decide), if_neg (by decide), if_neg (by decide), if_neg (by decide), if_neg (by decide), if_neg (by decide), if_neg (by decide)]
    simp only [q2, Option.bind_some]
  · unfold tR
    rw [if_neg (by decide), if_pos (by decide)]
    simp only [q, Option.bind_some]
theorem so_6 (hr : Run d P k (h + 2) g R) (hs : Sok (wds g P) (lns g P) P k (h + 1)) (h12 : h + 1 ≤ 12) (h7 : R 0 0 21 = Int32.ofInt 7) : Res (tS (nI 24) 6 d A B g) (tR 6 d A' B' r R) R := by
  obtain ⟨x1, g1, r1, a1, b1, h1, o1⟩ := popF hr
  obtain ⟨x2, g2, r2, a2, b2, h2, o2⟩ := popF h1
  obtain ⟨g3, r3, a3, b3, h3, o3⟩ := pushF (x2 * x1) h2 (by omega)
  have q2 : f_M_computeOfTwo [.inr (1, 0), .inr (10, d), .inr (100, 6), .inl A, .inl B] g = some g3 := by
    refine e_M_computeOfTwo (n := 22) rfl ?_
    rw [x_M_computeOfTwo]
    simp only [a1, a2, s_E_ordinal, Option.bind_some]
    rw [if_pos (smV 6 (by decide)).1]
    simp only [(smV 6 (by decide)).2]
    rw [if_neg (by decide), if_neg (by decide), if_neg (by decide), if_pos (by decide)]
    simp only [a3, Option.bind_some]
  have q : f_R_onStack [.inr (0, 0), .inl (nI 6)] R = some r3 := by
    refine e_R_onStack (n := 26) rfl ?_
    rw [x_R_onStack, if_neg (by decide), if_neg (by decide), if_neg (by decide), if_neg (by decide)]
    simp only [b1, b2, s_R_reckon6, b3, Option.bind_some]
  refine resB (tS_cp (by decide) (by decide) ?_) ?_ h3 ((o1.trans o2).trans o3) hs h7
  · show f_M_compute _ _ = _
    refine e_M_compute (n := 16) rfl ?_
    rw [x_M_compute, s_E_ordinal]
    simp only [Option.bind_some]
    rw [if_pos (smV 6 (by decide)).1]
    simp only [(smV 6 (by decide)).2]
    rw [if_neg (by decide), if_neg (by decide), if_neg (by decide), if_neg (by decide), if_neg (by decide), if_neg (by decide), if_neg (by decide), if_neg (by decide), if_neg (by decide), if_neg (by decide)]
    simp only [q2, Option.bind_some]
  · unfold tR
    rw [if_neg (by decide), if_pos (by decide)]
    simp only [q, Option.bind_some]
theorem so_9 (hr : Run d P k (h + 2) g R) (hs : Sok (wds g P) (lns g P) P k (h + 1)) (h12 : h + 1 ≤ 12) (h7 : R 0 0 21 = Int32.ofInt 7) : Res (tS (nI 25) 9 d A B g) (tR 9 d A' B' r R) R := by
  obtain ⟨x1, g1, r1, a1, b1, h1, o1⟩ := popF hr
  obtain ⟨x2, g2, r2, a2, b2, h2, o2⟩ := popF h1
  obtain ⟨g3, r3, a3, b3, h3, o3⟩ := pushF (if x2 < x1 then Int32.ofInt 1 else Int32.ofInt 0) h2 (by omega)
  have q2 : f_M_computeOfTwo [.inr (1, 0), .inr (10, d), .inr (100, 9), .inl A, .inl B] g = some g3 := by
    refine e_M_computeOfTwo (n := 22) rfl ?_
    rw [x_M_computeOfTwo]
    simp only [a1, a2, s_E_ordinal, Option.bind_some]
    rw [if_pos (smV 9 (by decide)).1]
    simp only [(smV 9 (by decide)).2]
    rw [if_neg (by decide), if_neg (by decide), if_neg (by decide), if_neg (by decide), if_pos (by decide)]
    by_cases hz : x2 < x1
    · rw [if_pos hz] at a3 ⊢
      simp only [a3, Option.bind_some]
    · rw [if_neg hz] at a3 ⊢
      simp only [a3, Option.bind_some]
  have q : f_R_onStack [.inr (0, 0), .inl (nI 9)] R = some r3 := by
    refine e_R_onStack (n := 26) rfl ?_
    rw [x_R_onStack, if_neg (by decide), if_neg (by decide), if_neg (by decide), if_neg (by decide)]
    simp only [b1, b2, s_R_reckon9, b3, Option.bind_some]
  refine resB (tS_cp (by decide) (by decide) ?_) ?_ h3 ((o1.trans o2).trans o3) hs h7
  · show f_M_compute _ _ = _
    refine e_M_compute (n := 16) rfl ?_
    rw [x_M_compute, s_E_ordinal]
    simp only [Option.bind_some]
    rw [if_pos (smV 9 (by decide)).1]
    simp only [(smV 9 (by decide)).2]
    rw [if_neg (by decide), if_neg (by decide), if_neg (by decide), if_neg (by decide), if_neg (by decide), if_neg (by decide), if_neg (by decide), if_neg (by decide), if_neg (by decide), if_neg (by decide)]
    simp only [q2, Option.bind_some]
  · unfold tR
    rw [if_neg (by decide), if_pos (by decide)]
    simp only [q, Option.bind_some]
theorem so_10 (hr : Run d P k (h + 2) g R) (hs : Sok (wds g P) (lns g P) P k (h + 1)) (h12 : h + 1 ≤ 12) (h7 : R 0 0 21 = Int32.ofInt 7) : Res (tS (nI 26) 10 d A B g) (tR 10 d A' B' r R) R := by
  obtain ⟨x1, g1, r1, a1, b1, h1, o1⟩ := popF hr
  obtain ⟨x2, g2, r2, a2, b2, h2, o2⟩ := popF h1
  obtain ⟨g3, r3, a3, b3, h3, o3⟩ := pushF (if x2 = x1 then Int32.ofInt 1 else Int32.ofInt 0) h2 (by omega)
  have q2 : f_M_computeOfTwo [.inr (1, 0), .inr (10, d), .inr (100, 10), .inl A, .inl B] g = some g3 := by
    refine e_M_computeOfTwo (n := 22) rfl ?_
    rw [x_M_computeOfTwo]
    simp only [a1, a2, s_E_ordinal, Option.bind_some]
    rw [if_pos (smV 10 (by decide)).1]
    simp only [(smV 10 (by decide)).2]
    rw [if_neg (by decide), if_neg (by decide), if_neg (by decide), if_neg (by decide), if_neg (by decide), if_pos (by decide)]
    by_cases hz : x2 = x1
    · rw [if_pos hz] at a3 ⊢
      simp only [a3, Option.bind_some]
    · rw [if_neg hz] at a3 ⊢
      simp only [a3, Option.bind_some]
  have q : f_R_onStack [.inr (0, 0), .inl (nI 10)] R = some r3 := by
    refine e_R_onStack (n := 26) rfl ?_
    rw [x_R_onStack, if_neg (by decide), if_neg (by decide), if_neg (by decide), if_neg (by decide)]
    simp only [b1, b2, s_R_reckon10, b3, Option.bind_some]
  refine resB (tS_cp (by decide) (by decide) ?_) ?_ h3 ((o1.trans o2).trans o3) hs h7
  · show f_M_compute _ _ = _
    refine e_M_compute (n := 16) rfl ?_
    rw [x_M_compute, s_E_ordinal]
    simp only [Option.bind_some]
    rw [if_pos (smV 10 (by decide)).1]
    simp only [(smV 10 (by decide)).2]
    rw [if_neg (by decide), if_neg (by decide), if_neg (by decide), if_neg (by decide), if_neg (by decide), if_neg (by decide), if_neg (by decide), if_neg (by decide), if_neg (by decide), if_neg (by decide)]
    simp only [q2, Option.bind_some]
  · unfold tR
    rw [if_neg (by decide), if_pos (by decide)]
    simp only [q, Option.bind_some]
theorem so_12 {a : Nat} (ha : a < 8) (hR : r 16 = R 16) (hr : Run d P k (h + 0) g R) (hs : Sok (wds g P) (lns g P) P k (h + 1)) (h12 : h + 1 ≤ 12) (h7 : R 0 0 21 = Int32.ofInt 7) : Res (tS (nI 15) 12 d (nI a) B g) (tR 12 d (nI a) B' r R) R := by
  have hd := hr.1.1
  obtain ⟨i1, i2⟩ := ixR (m := 8) (d := d) (i := a) (M := 64) (by omega) (by omega) (by omega) (by omega)
  have ev : g 12 d a = r 16 0 (8 * d + a) := by rw [hR]; exact hr.2.1.2.2.2.2.2.1 a ha
  obtain ⟨g1, r1, a1, b1, h1, o1⟩ := pushF (g 12 d a) hr (by omega)
  refine resB (tS_cp (by decide) (by decide) ?_) ?_ h1 o1 hs h7
  · show f_M_compute _ _ = _
    refine e_M_compute (n := 16) rfl ?_
    rw [x_M_compute, s_E_ordinal]
    simp only [Option.bind_some]
    rw [if_pos (smV 12 (by decide)).1]
    simp only [(smV 12 (by decide)).2]
    rw [if_neg (by decide), if_neg (by decide), if_neg (by decide), if_neg (by decide), if_pos (by decide)]
    simp only [s_F_at_12 ha, a1, Option.bind_some]
  · rw [ev] at b1
    unfold tR
    rw [if_neg (by decide), if_neg (by decide), if_pos (by decide), on8, if_pos i1, i2]
    simp only [b1, Option.bind_some]
theorem so_22 {a : Nat} (ha : a < 3) (hR : r 17 = R 17) (hr : Run d P k (h + 0) g R) (hs : Sok (wds g P) (lns g P) P k (h + 1)) (h12 : h + 1 ≤ 12) (h7 : R 0 0 21 = Int32.ofInt 7) : Res (tS (nI 19) 22 d (nI a) B g) (tR 22 d (nI a) B' r R) R := by
  have hd := hr.1.1
  obtain ⟨i1, i2⟩ := ixR (m := 3) (d := d) (i := a) (M := 24) (by omega) (by omega) (by omega) (by omega)
  have ev : g 13 d a = r 17 0 (3 * d + a) := by rw [hR]; exact hr.2.1.2.2.2.2.2.2.1 a ha
  obtain ⟨g1, r1, a1, b1, h1, o1⟩ := pushF (g 13 d a) hr (by omega)
  refine resB (tS_cp (by decide) (by decide) ?_) ?_ h1 o1 hs h7
  · show f_M_compute _ _ = _
    refine e_M_compute (n := 16) rfl ?_
    rw [x_M_compute, s_E_ordinal]
    simp only [Option.bind_some]
    rw [if_pos (smV 22 (by decide)).1]
    simp only [(smV 22 (by decide)).2]
    rw [if_neg (by decide), if_neg (by decide), if_neg (by decide), if_neg (by decide), if_neg (by decide), if_neg (by decide), if_neg (by decide), if_neg (by decide), if_pos (by decide)]
    simp only [s_F_at_13 ha, a1, Option.bind_some]
  · rw [ev] at b1
    unfold tR
    rw [if_neg (by decide), if_neg (by decide), if_neg (by decide), if_neg (by decide), if_neg (by decide), if_neg (by decide), if_neg (by decide), if_neg (by decide), if_neg (by decide), if_neg (by decide), if_neg (by decide), if_neg (by decide), if_pos (by decide), on3, if_pos i1, i2]
    simp only [b1, Option.bind_some]
theorem so_23 {a : Nat} (ha : a < 3) (hR : r 18 = R 18) (hr : Run d P k (h + 0) g R) (hs : Sok (wds g P) (lns g P) P k (h + 1)) (h12 : h + 1 ≤ 12) (h7 : R 0 0 21 = Int32.ofInt 7) : Res (tS (nI 20) 23 d (nI a) B g) (tR 23 d (nI a) B' r R) R := by
  have hd := hr.1.1
  obtain ⟨i1, i2⟩ := ixR (m := 3) (d := d) (i := a) (M := 24) (by omega) (by omega) (by omega) (by omega)
  have ev : g 14 d a = r 18 0 (3 * d + a) := by rw [hR]; exact hr.2.1.2.2.2.2.2.2.2.1 a ha
  obtain ⟨g1, r1, a1, b1, h1, o1⟩ := pushF (g 14 d a) hr (by omega)
  refine resB (tS_cp (by decide) (by decide) ?_) ?_ h1 o1 hs h7
  · show f_M_compute _ _ = _
    refine e_M_compute (n := 16) rfl ?_
    rw [x_M_compute, s_E_ordinal]
    simp only [Option.bind_some]
    rw [if_pos (smV 23 (by decide)).1]
    simp only [(smV 23 (by decide)).2]
    rw [if_neg (by decide), if_neg (by decide), if_neg (by decide), if_neg (by decide), if_neg (by decide), if_neg (by decide), if_neg (by decide), if_neg (by decide), if_neg (by decide), if_pos (by decide)]
    simp only [s_F_at_14 ha, a1, Option.bind_some]
  · rw [ev] at b1
    unfold tR
    rw [if_neg (by decide), if_neg (by decide), if_neg (by decide), if_neg (by decide), if_neg (by decide), if_neg (by decide), if_neg (by decide), if_neg (by decide), if_neg (by decide), if_neg (by decide), if_neg (by decide), if_neg (by decide), if_neg (by decide), if_pos (by decide), on3, if_pos i1, i2]
    simp only [b1, Option.bind_some]
theorem so_13 {a : Nat} (ha : a < 8) (hr : Run d P k (h + 1) g R) (hs : Sok (wds g P) (lns g P) P k (h + 0)) (h12 : h + 0 ≤ 12) (h7 : R 0 0 21 = Int32.ofInt 7) : Res (tS (nI 16) 13 d (nI a) B g) (tR 13 d (nI a) B' r R) R := by
  have hd := hr.1.1
  obtain ⟨i1, i2⟩ := ixR (m := 8) (d := d) (i := a) (M := 64) (by omega) (by omega) (by omega) (by omega)
  obtain ⟨x1, g1, r1, a1, b1, h1, o1⟩ := popF hr
  refine resB (g' := st3 g1 12 d a x1) (r' := st3 r1 16 0 (8 * d + a) x1) (tS_cp (by decide) (by decide) ?_) ?_ (h1.loc ha) (o1.trans ⟨fun x _ _ z => st3_a z, fun x z => st3_a (by omega)⟩) hs h7
  · show f_M_compute _ _ = _
    refine e_M_compute (n := 16) rfl ?_
    rw [x_M_compute, s_E_ordinal]
    simp only [Option.bind_some]
    rw [if_pos (smV 13 (by decide)).1]
    simp only [(smV 13 (by decide)).2]
    rw [if_neg (by decide), if_neg (by decide), if_neg (by decide), if_neg (by decide), if_neg (by decide), if_pos (by decide)]
    simp only [a1, s_F_store ha, Option.bind_some]
  · unfold tR
    rw [if_neg (by decide), if_neg (by decide), if_neg (by decide), if_pos (by decide)]
    simp only [b1, Option.bind_some]
    rw [on8, if_pos i1, i2]
theorem so_16 {t : Nat} (ht : t < 4) (hR : r 1 = R 1) (hr : Run d P k (h + 0) g R) (hs : Sok (wds g P) (lns g P) P k (h + 1)) (h12 : h + 1 ≤ 12) (h7 : R 0 0 21 = Int32.ofInt 7) : Res (tS (nI 17) 16 d (nI t) B g) (tR 16 d (nI t) B' r R) R := by
  have b4 : inB (nI t) 4 := by rw [nI_inB (by omega)]; exact ht
  have ev : pSize (g 27 0) (nI t) = r 1 0 t := by
    rw [show pSize (g 27 0) (nI t) = _ from if_pos b4, nI_clamp (by omega), hR, hr.cm.2.1.2.1]
  obtain ⟨g1, r1, a1, b1, h1, o1⟩ := pushF (pSize (g 27 0) (nI t)) hr (by omega)
  refine resB (tS_cp (by decide) (by decide) ?_) ?_ h1 o1 hs h7
  · show f_M_compute _ _ = _
    refine e_M_compute (n := 16) rfl ?_
    rw [x_M_compute, s_E_ordinal]
    simp only [Option.bind_some]
    rw [if_pos (smV 16 (by decide)).1]
    simp only [(smV 16 (by decide)).2]
    rw [if_neg (by decide), if_neg (by decide), if_neg (by decide), if_neg (by decide), if_neg (by decide), if_neg (by decide), if_pos (by decide)]
    simp only [s_T_size, a1, Option.bind_some]
  · rw [ev] at b1
    unfold tR
    rw [if_neg (by decide), if_neg (by decide), if_neg (by decide), if_neg (by decide), if_neg (by decide), if_neg (by decide), if_pos (by decide), if_pos b4, nI_clamp (by omega)]
    simp only [b1, Option.bind_some]
theorem so_17 {t c : Nat} (ht : t < 4) (hc : c < 3) (hr : Run d P k (h + 1) g R) (hs : Sok (wds g P) (lns g P) P k (h + 1)) (h12 : h + 1 ≤ 12) (h7 : R 0 0 21 = Int32.ofInt 7) : Res (tS (nI 18) 17 d (nI t) (nI c) g) (tR 17 d (nI t) (nI c) r R) R := by
  have b4 : inB (nI t) 4 := by rw [nI_inB (by omega)]; exact ht
  have b3 : inB (nI c) 3 := by rw [nI_inB (by omega)]; exact hc
  obtain ⟨x1, g1, r1, a1, b1, h1, o1⟩ := popF hr
  have eT := h1.cm.2.1
  obtain ⟨g2, r2, a2, b2, h2, o2⟩ := pushF (pRead (g1 26 0) (g1 27 0) (nI t) x1 (nI c)) h1 (by omega)
  refine resB (tS_cp (by decide) (by decide) ?_) ?_ h2 (o1.trans o2) hs h7
  · show f_M_compute _ _ = _
    refine e_M_compute (n := 16) rfl ?_
    rw [x_M_compute, s_E_ordinal]
    simp only [Option.bind_some]
    rw [if_pos (smV 17 (by decide)).1]
    simp only [(smV 17 (by decide)).2]
    rw [if_neg (by decide), if_neg (by decide), if_neg (by decide), if_neg (by decide), if_neg (by decide), if_neg (by decide), if_neg (by decide), if_pos (by decide)]
    simp only [a1, s_T_read (nI t) x1 (nI c) g1 eT.2.2, a2, Option.bind_some]
  · unfold tR
    rw [if_neg (by decide), if_neg (by decide), if_neg (by decide), if_neg (by decide), if_neg (by decide), if_neg (by decide), if_neg (by decide), if_pos (by decide)]
    simp only [b1, s_R_isRow (nI t) x1 r1 b4, Option.bind_some, bI_0]
    rw [eT.1, eT.2.1] at b2
    by_cases hz : pHas (r1 1 0) (nI t) x1
    · obtain ⟨i1, i2⟩ := ix48' b4 (pHas_16 (by rw [← eT.2.1]; exact eT.2.2) hz) b3
      rw [show pRead (r1 2 0) (r1 1 0) (nI t) x1 (nI c) = _ from if_pos ⟨hz, b3⟩, ← i2] at b2
      rw [if_neg (fun z => z hz), if_pos i1]
      simp only [b2, Option.bind_some]
    · rw [show pRead (r1 2 0) (r1 1 0) (nI t) x1 (nI c) = 0 from if_neg (fun z => hz z.1), ← of0] at b2
      rw [if_pos hz]
      simp only [b2, Option.bind_some]
theorem so_21 {t c : Nat} (ht : t < 4) (hc : c < 3) (hr : Run d P k (h + 2) g R) (hs : Sok (wds g P) (lns g P) P k (h + 1)) (h12 : h + 1 ≤ 12) (h7 : R 0 0 21 = Int32.ofInt 7) : Res (tS (nI 27) 21 d (nI t) (nI c) g) (tR 21 d (nI t) (nI c) r R) R := by
  obtain ⟨x1, g1, r1, a1, b1, h1, o1⟩ := popF hr
  obtain ⟨x2, g2, r2, a2, b2, h2, o2⟩ := popF h1
  have eT := h2.cm.2.1
  obtain ⟨s, hs1, hs2⟩ : ∃ s, g2 27 0 t = nI s ∧ s ≤ 16 := ⟨(g2 27 0 t).toNatClampNeg, by have := eT.2.2 t ht; rw [i_eq, nI_toInt (by rw [cl_toInt]; omega), cl_toInt]; omega, by have := eT.2.2 t ht; rw [cl_toInt]; omega⟩
  obtain ⟨x3, u1, u2⟩ := findB (a := x2) (v := x1) ht hc hs1 hs2 eT.1 eT.2.1
  obtain ⟨g3, r3, a3, b3, h3, o3⟩ := pushF x3 h2 (by omega)
  have q2 : f_M_computeOfTwo [.inr (1, 0), .inr (10, d), .inr (100, 21), .inl (nI t), .inl (nI c)] g = some g3 := by
    refine e_M_computeOfTwo (n := 22) rfl ?_
    rw [x_M_computeOfTwo]
    simp only [a1, a2, s_E_ordinal, Option.bind_some]
    rw [if_pos (smV 21 (by decide)).1]
    simp only [(smV 21 (by decide)).2]
    rw [if_neg (by decide), if_neg (by decide), if_neg (by decide), if_neg (by decide), if_neg (by decide), if_neg (by decide), if_pos (by decide)]
    simp only [u1, a3, Option.bind_some]
  refine resB (tS_cp (by decide) (by decide) ?_) ?_ h3 ((o1.trans o2).trans o3) hs h7
  · show f_M_compute _ _ = _
    refine e_M_compute (n := 16) rfl ?_
    rw [x_M_compute, s_E_ordinal]
    simp only [Option.bind_some]
    rw [if_pos (smV 21 (by decide)).1]
    simp only [(smV 21 (by decide)).2]
    rw [if_neg (by decide), if_neg (by decide), if_neg (by decide), if_neg (by decide), if_neg (by decide), if_neg (by decide), if_neg (by decide), if_neg (by decide), if_neg (by decide), if_neg (by decide)]
    simp only [q2, Option.bind_some]
  · unfold tR
    rw [if_neg (by decide), if_neg (by decide), if_neg (by decide), if_neg (by decide), if_neg (by decide), if_neg (by decide), if_neg (by decide), if_neg (by decide), if_neg (by decide), if_neg (by decide), if_neg (by decide), if_pos (by decide)]
    simp only [b1, b2, u2, b3, Option.bind_some]
end
