/-! one look at a place, both sides -/
theorem tgL : ∀ op, op < 27 → ([0, 1, 1, 2, 2, 2, 2, 2, 2, 2, 2, 1, 0, 1, 0, 1, 0, 1, 3, 1, 2, 2, 0, 0, 1, 1, 1, 0] : List Int32).getD op 0 = nI (tkL.getD op 0) ∧ ([1, 0, 2, 2, 1, 1, 1, 1, 1, 1, 1, 1, 1, 0, 0, 0, 1, 1, 1, 1, 1, 1, 1, 1, 1, 0, 0, 0] : List Int32).getD op 0 = nI (gvL.getD op 0) ∧ tkL.getD op 0 ≤ 3 ∧ gvL.getD op 0 ≤ 2 := by decide +kernel
abbrev aft (h op : Nat) : Nat := h - tkL.getD op 0 + gvL.getD op 0
/-- what a look that breaks no rule has shown -/
def LK (P n k h : Nat) (g r : mG) : Prop := ∃ op, op < 27 ∧ wd g P k = nI op ∧ tkL.getD op 0 ≤ h ∧ aft h op ≤ 12 ∧ (op ≠ 14 → op ≠ 25 → op ≠ 26 → k + 1 + opL.getD op 0 < n ∧ r 9 0 (k + 1 + opL.getD op 0) = 1 ∧ r 8 0 (k + 1 + opL.getD op 0) = nI (aft h op)) ∧ (op = 14 ∨ op = 15 → ∃ t, wd g P (k + 1) = nI t ∧ t < n ∧ r 9 0 t = 1 ∧ r 8 0 t = nI (aft h op))
theorem LK.rch {P n k h : Nat} {g r g' r' : mG} (hk : LK P n k h g r) (hr : Rch g r g' r') : LK P n k h g' r' := by
  obtain ⟨a1, a2, a3, a4, a5, a6⟩ := hr
  have ew : ∀ k, wd g' P k = wd g P k := fun k => by show g' 24 0 _ = g 24 0 _; rw [a1 24 (by decide) (by decide)]
  obtain ⟨op, b1, b2, b3, b4, b5, b6⟩ := hk
  have key : ∀ q, r 8 0 q = nI (aft h op) → r' 8 0 q = nI (aft h op) := fun q hq => by
    rw [a6 q (by rw [hq, nI_toInt (by omega)]; omega)]; exact hq
  refine ⟨op, b1, by rw [ew]; exact b2, b3, b4, fun x y z => ?_, fun x => ?_⟩
  · obtain ⟨c1, c2, c3⟩ := b5 x y z
    exact ⟨c1, by rw [a3]; exact c2, key _ c3⟩
  · obtain ⟨t, c1, c2, c3, c4⟩ := b6 x
    exact ⟨t, by rw [ew]; exact c1, c2, by rw [a3]; exact c3, key _ c4⟩
set_option maxHeartbeats 4000000 in
theorem lookB {P n k h : Nat} {g r : mG} (ho : Opn P n g r) (hb : BG P n g r) (hh : HT g r) (hk : k < n) (hkb : r 9 0 k = 1) (hkh : r 8 0 k = nI h) (h12 : h ≤ 12) :
    ∃ (x : Nat) (g' r' : mG), f_V_ruleOfHeights [.inr (5, 0), .inr (2, 0), .inl (nI P), .inl (nI k)] (st3 g 32 0 k (Int32.ofInt 1)) = some (nI x, g') ∧ f_R_look [.inr (0, 0), .inl (nI k), .inl (nI n)] r = some (nI x, r') ∧
      Rch (st3 g 32 0 k (Int32.ofInt 1)) (st3 r 11 0 k (Int32.ofInt 1)) g' r' ∧ HT g' r' ∧ x ≤ 8 ∧ (x = 0 → LK P n k h g' r') := by
  obtain ⟨hP, hn, hw, hlen, hv, hrp⟩ := ho
  have hwr : r 6 0 = g 24 0 := hw.symm
  obtain ⟨t1, t2, t3, t4, t5⟩ := hh
  obtain ⟨c0, op, c1, c2, c3, c4, c5, c6, c7⟩ := hb.2.1 k (by omega) hkb
  have hw3 : g 24 0 (60 * P + k) = nI op := c2
  have hio : iOf (g 24 0 (60 * P + k)) = op := by rw [hw3]; exact iOf_op (by omega)
  obtain ⟨w1, w2, w3, w4⟩ := tgL op c1
  obtain ⟨y1, -, -, -, -, y6, -, -⟩ := wdL op c1
  obtain ⟨v1, v2, v3⟩ := v_op op c1
  have hmj := mjL op c1
  have ck : (nI k).toNatClampNeg = k := nI_clamp (by omega)
  have hB60 : inB (nI k) 60 := by rw [nI_inB (by omega)]; omega
  have hB61 : inB (nI k) 61 := by rw [nI_inB (by omega)]; omega
  have e31 : g 31 0 k = nI h := by rw [t1 k (by omega), if_pos hkb]; exact hkh
  have e1 : nI k + Int32.ofInt 1 = nI (k + 1) := by rw [on1]; exact nI_add k 1
  -- the memories with the mark of the look
  have hrch : SameC g (st3 g 32 0 k (Int32.ofInt 1)) := fun a x y => st3_a y
  have g24 : (st3 g 32 0 k (Int32.ofInt 1)) 24 = g 24 := st3_a (by decide)
  have g31 : (st3 g 32 0 k (Int32.ofInt 1)) 31 = g 31 := st3_a (by decide)
  have r8 : (st3 r 11 0 k (Int32.ofInt 1)) 8 = r 8 := st3_a (by decide)
  have r9 : (st3 r 11 0 k (Int32.ofInt 1)) 9 = r 9 := st3_a (by decide)
  have r6 : (st3 r 11 0 k (Int32.ofInt 1)) 6 = r 6 := st3_a (by decide)
  have hlen1 : (st3 g 32 0 k (Int32.ofInt 1)) 25 0 P = nI n := hlen
  have hrp1 : (st3 r 11 0 k (Int32.ofInt 1)) 0 0 7 = nI P := hrp
  have hH1 : HT (st3 g 32 0 k (Int32.ofInt 1)) (st3 r 11 0 k (Int32.ofInt 1)) := by
    refine ⟨fun q hq => ?_, fun q hq z => ?_, fun q hq => ?_, fun q hq z => ?_, fun q hq => ?_⟩
    · rw [g31, r9, r8]; exact t1 q hq
    · rw [r9] at z; rw [r8]; exact t2 q hq z
    · rw [r8]; exact t3 q hq
    · rw [r9] at z
      rw [st3_row, st3_row]
      by_cases e : q = k
      · subst e; rw [pk_us, pk_us]
      · rw [pk_un e, pk_un e]; exact t4 q hq z
    · rw [st3_row]
      by_cases e : q = k
      · subst e; rw [pk_us]; exact Or.inr of1
      · rw [pk_un e]; exact t5 q hq
  have hB1 : BG P n (st3 g 32 0 k (Int32.ofInt 1)) (st3 r 11 0 k (Int32.ofInt 1)) := by
    obtain ⟨b1, b2, b3⟩ := hb
    refine ⟨fun q hq => by rw [r9]; exact b1 q hq, fun q hq z => ?_, by rw [r9]; exact b3⟩
    rw [r9] at z
    obtain ⟨d0, o, d1, d2, d3, d4, d5, d6, d7⟩ := b2 q hq z
    exact ⟨d0, o, d1, d2, d3, d4, d5, by rw [r9]; exact d6, fun zz => by obtain ⟨t, f1, f2, f3⟩ := d7 zz; exact ⟨t, f1, f2, by rw [r9]; exact f3⟩⟩
  have hins := s_L_insN P k n (st3 g 32 0 k (Int32.ofInt 1)) hP hk hlen1 hn
  rw [g24, hio] at hins
  have cV : ∀ (x : Nat) (g' : mG), rn_V_ruleOfHeights 55 0 (mL0 [.inr (5, 0), .inr (2, 0), .inl (nI P), .inl (nI k)] 8) [] (st3 g 32 0 k (Int32.ofInt 1)) = some (some (.inl (nI x)), g') → f_V_ruleOfHeights [.inr (5, 0), .inr (2, 0), .inl (nI P), .inl (nI k)] (st3 g 32 0 k (Int32.ofInt 1)) = some (nI x, g') := fun x g' z => e_V_ruleOfHeights (n := 55) rfl z
  have cR : ∀ (x : Nat) (r' : mG), rn_R_look 65 0 (mL0 [.inr (0, 0), .inl (nI k), .inl (nI n)] 7) [] r = some (some (.inl (nI x)), r') → f_R_look [.inr (0, 0), .inl (nI k), .inl (nI n)] r = some (nI x, r') := fun x r' z => e_R_look (n := 65) rfl z
  have hwk := s_R_wordN P k r hrp (by omega)
  rw [hwr, hw3] at hwk
  have q14 : (nI op = Int32.ofInt 14) = (op = 14) := by rw [on14]; exact nI_eqN (by omega) (by omega)
  have q15 : (nI op = Int32.ofInt 15) = (op = 15) := by rw [on15]; exact nI_eqN (by omega) (by omega)
  have q24 : (Int32.ofInt 24 < nI op) = (24 < op) := by rw [on24]; exact nI_ltN (by omega) (by omega)
  have z00 : ((0 : Int32) < Int32.ofInt 0) = False := eq_false (by decide)
  by_cases hA : h < tkL.getD op 0
  · have hA1 : nI h < nI (tkL.getD op 0) := (nI_ltI (by omega) (by omega)).mpr hA
    refine ⟨5, _, _, cV _ _ ?_, cR _ _ ?_, Rch.rf, hH1, by omega, fun z => by omega⟩
    · rw [x_V_ruleOfHeights, hins]
      simp only [Option.bind_some, ck, g31, e31, w1]
      rw [if_pos hB60, if_pos hA1, on5]
    · rw [x_R_look, hwk]
      simp only [Option.bind_some, ck, hkh, s_R_takes, v2, isB_1, if_true]
      rw [if_pos hB61, if_pos hB61, if_pos hA1, on5]
  · have hA1 : ¬ nI h < nI (tkL.getD op 0) := fun z => hA ((nI_ltI (by omega) (by omega)).mp z)
    have eA : nI h - nI (tkL.getD op 0) + nI (gvL.getD op 0) = nI (aft h op) := by rw [pk_sub (by omega), nI_add]
    have haf : aft h op ≤ 14 := by
      show h - tkL.getD op 0 + gvL.getD op 0 ≤ 14
      omega
    have q12 : (Int32.ofInt 12 < nI (aft h op)) = (12 < aft h op) := by rw [on12]; exact nI_ltN (by omega) (by omega)
    by_cases hC : 12 < aft h op
    · refine ⟨6, _, _, cV _ _ ?_, cR _ _ ?_, Rch.rf, hH1, by omega, fun z => by omega⟩
      · rw [x_V_ruleOfHeights, hins]
        simp only [Option.bind_some, ck, g31, e31, w1, w2, eA, q12]
        rw [if_pos hB60, if_neg hA1, if_pos hC, on6]
      · rw [x_R_look, hwk]
        simp only [Option.bind_some, ck, hkh, s_R_takes, s_R_gives, v2, v3, eA, q12, isB_1, if_true]
        rw [if_pos hB61, if_pos hB61, if_neg hA1, if_pos hC, on6]
    · have h12a : aft h op ≤ 12 := by omega
      by_cases hg : op ≠ 14 ∧ op ≠ 25 ∧ op ≠ 26
      · -- it goes on behind
        have hp : k + (1 + opL.getD op 0) = n ∨ (k + (1 + opL.getD op 0) < n ∧ (st3 r 11 0 k (Int32.ofInt 1)) 9 0 (k + (1 + opL.getD op 0)) = 1) := by
          rw [r9, show k + (1 + opL.getD op 0) = k + 1 + opL.getD op 0 by omega]
          rcases c6 with z | z
          · exact Or.inl z
          · rcases Nat.lt_or_ge (k + 1 + opL.getD op 0) n with zz | zz
            · exact Or.inr ⟨zz, z⟩
            · exact Or.inl (by omega)
        obtain ⟨x, g', r', hx1, hx2, hx3, hx4, hx5, hx6⟩ := reachB hB1 hH1 hn hp h12a
        have n24 : ¬ 24 < op := by omega
        have n14 : ¬ op = 14 := hg.1
        by_cases hx0 : x = 0
        · subst hx0
          obtain ⟨l1, l2, l3⟩ := hx6 rfl
          by_cases hj : op = 15
          · -- and jumps
            have hol := (opL_le op c1).1 (Or.inr hj)
            obtain ⟨t, f1, f2, f3⟩ := c7 (Or.inr hj)
            have hB2 := hB1.rch hx3
            have g'24 : g' 24 = g 24 := by rw [hx3.1 24 (by decide) (by decide), g24]
            have g'25 : g' 25 0 P = nI n := by rw [hx3.1 25 (by decide) (by decide)]; exact hlen1
            have r'0 : r' 0 0 7 = nI P := by rw [hx3.2.1 0 (by decide) (by decide) (by decide)]; exact hrp1
            have r'6 : r' 6 0 = g 24 0 := by rw [hx3.2.1 6 (by decide) (by decide) (by decide), r6]; exact hwr
            have r'9 : r' 9 = r 9 := by rw [hx3.2.2.1, r9]
            have hwp := s_L_wordN P (k + 1) n g' hP (by omega) g'25 hn
            rw [if_pos (show k + 1 < n by omega), g'24, show g 24 0 (60 * P + (k + 1)) = nI t from f1] at hwp
            have hrw := s_R_wordN P (k + 1) r' r'0 (by omega)
            rw [r'6, show g 24 0 (60 * P + (k + 1)) = nI t from f1] at hrw
            obtain ⟨x2, g2, r2, hz1, hz2, hz3, hz4, hz5, hz6⟩ := reachB hB2 hx4 hn (Or.inr ⟨f2, by rw [r'9]; exact f3⟩) h12a
            refine ⟨x2, g2, r2, cV _ _ ?_, cR _ _ ?_, hx3.tr hz3, hz4, by omega, fun z => ?_⟩
            · rw [x_V_ruleOfHeights, hins]
              simp only [Option.bind_some, ck, g31, e31, w1, w2, eA, q12, s_I_mayGoOnBehind, s_I_mayJump, y1, nI_add, hx1, bI_0, e1, hwp, hz1]
              rw [if_pos hB60, if_neg hA1, if_neg hC, if_neg (fun z => z hg), if_pos (show nI 0 = 0 from rfl), if_neg (fun z => z (hmj.mpr (Or.inr hj)))]
            · rw [x_R_look, hwk]
              simp only [Option.bind_some, ck, hkh, s_R_takes, s_R_gives, s_R_operands, v1, v2, v3, eA, q12, isB_1, if_true, q14, q15, q24, e1, nI_add, Nat.add_assoc, hx2, hrw, hz2]
              rw [if_pos hB61, if_pos hB61, if_neg hA1, if_neg hC, if_neg n14, if_neg n24, if_neg (show ¬ (0 : Int32) < nI 0 by decide), if_neg n14, if_pos hj]
            · obtain ⟨m1, m2, m3⟩ := hz6 z
              have hLK : LK P n k h g2 r2 := by
                have ew : ∀ q, wd g2 P q = wd g P q := fun q => by show g2 24 0 _ = g 24 0 _; rw [hz3.1 24 (by decide) (by decide), g'24]
                refine ⟨op, c1, by rw [ew]; exact c2, by omega, h12a, fun _ _ _ => ?_, fun _ => ⟨t, by rw [ew]; exact f1, f2, ?_, m3⟩⟩
                · rw [show k + 1 + opL.getD op 0 = k + (1 + opL.getD op 0) by omega]
                  refine ⟨l1, by rw [hz3.2.2.1, hx3.2.2.1]; exact l2, ?_⟩
                  rw [hz3.2.2.2.2.2 _ (by rw [l3, nI_toInt (by omega)]; omega)]; exact l3
                · rw [hz3.2.2.1, r'9]; exact f3
              exact hLK
          · have nj : ¬ (op = 14 ∨ op = 15) := fun z => z.elim n14 hj
            refine ⟨0, g', r', cV _ _ ?_, cR _ _ ?_, hx3, hx4, by omega, fun _ => ?_⟩
            · rw [x_V_ruleOfHeights, hins]
              simp only [Option.bind_some, ck, g31, e31, w1, w2, eA, q12, s_I_mayGoOnBehind, s_I_mayJump, y1, nI_add, hx1, bI_0]
              rw [if_pos hB60, if_neg hA1, if_neg hC, if_neg (fun z => z hg), if_pos (show nI 0 = 0 from rfl), if_pos (fun z => nj (hmj.mp z))]
            · rw [x_R_look, hwk]
              simp only [Option.bind_some, ck, hkh, s_R_takes, s_R_gives, s_R_operands, v1, v2, v3, eA, q12, isB_1, if_true, q14, q15, q24, e1, nI_add, Nat.add_assoc, hx2]
              rw [if_pos hB61, if_pos hB61, if_neg hA1, if_neg hC, if_neg n14, if_neg n24, if_neg (show ¬ (0 : Int32) < nI 0 by decide), if_neg n14, if_neg hj, on0]
            · refine ⟨op, c1, ?_, by omega, h12a, fun _ _ _ => ?_, fun z => absurd z nj⟩
              · show g' 24 0 _ = _
                rw [hx3.1 24 (by decide) (by decide), g24]; exact c2
              · rw [show k + 1 + opL.getD op 0 = k + (1 + opL.getD op 0) by omega]
                exact ⟨l1, by rw [hx3.2.2.1]; exact l2, l3⟩
        · have hxn : ¬ nI x = 0 := by
            rw [show (0 : Int32) = nI 0 from rfl, nI_eq (by omega) (by omega)]; exact hx0
          have hxp : (0 : Int32) < nI x := by rw [i_lt, tiz, nI_toInt (by omega)]; omega
          refine ⟨x, g', r', cV _ _ ?_, cR _ _ ?_, hx3, hx4, by omega, fun z => absurd z hx0⟩
          · rw [x_V_ruleOfHeights, hins]
            simp only [Option.bind_some, ck, g31, e31, w1, w2, eA, q12, s_I_mayGoOnBehind, y1, nI_add, hx1, bI_0]
            rw [if_pos hB60, if_neg hA1, if_neg hC, if_neg (fun z => z hg), if_neg hxn]
          · rw [x_R_look, hwk]
            simp only [Option.bind_some, ck, hkh, s_R_takes, s_R_gives, s_R_operands, v1, v2, v3, eA, q12, isB_1, if_true, q14, q15, q24, e1, nI_add, Nat.add_assoc, hx2]
            rw [if_pos hB61, if_pos hB61, if_neg hA1, if_neg hC, if_neg n14, if_neg n24, if_pos hxp]
      · by_cases h14 : op = 14
        · -- a jump alone
          have hol := (opL_le op c1).1 (Or.inl h14)
          obtain ⟨t, f1, f2, f3⟩ := c7 (Or.inl h14)
          have hwp := s_L_wordN P (k + 1) n (st3 g 32 0 k (Int32.ofInt 1)) hP (by omega) hlen1 hn
          rw [if_pos (show k + 1 < n by omega), g24, show g 24 0 (60 * P + (k + 1)) = nI t from f1] at hwp
          have hrw := s_R_wordN P (k + 1) (st3 r 11 0 k (Int32.ofInt 1)) hrp1 (by omega)
          rw [r6, hwr, show g 24 0 (60 * P + (k + 1)) = nI t from f1] at hrw
          obtain ⟨x2, g2, r2, hz1, hz2, hz3, hz4, hz5, hz6⟩ := reachB hB1 hH1 hn (Or.inr ⟨f2, by rw [r9]; exact f3⟩) h12a
          refine ⟨x2, g2, r2, cV _ _ ?_, cR _ _ ?_, hz3, hz4, by omega, fun z => ?_⟩
          · rw [x_V_ruleOfHeights, hins]
            simp only [Option.bind_some, ck, g31, e31, w1, w2, eA, q12, s_I_mayGoOnBehind, s_I_mayJump, bI_0, of0n, if_true, e1, hwp, hz1]
            rw [if_pos hB60, if_neg hA1, if_neg hC, if_pos hg, if_neg (fun z => z (hmj.mpr (Or.inl h14)))]
          · rw [x_R_look, hwk]
            simp only [Option.bind_some, ck, hkh, s_R_takes, s_R_gives, v2, v3, eA, q12, isB_1, if_true, q14, q15, q24, z00, if_false, e1, hrw, hz2]
            rw [if_pos hB61, if_pos hB61, if_neg hA1, if_neg hC, if_pos h14, if_pos h14]
          · obtain ⟨m1, m2, m3⟩ := hz6 z
            have ew : ∀ q, wd g2 P q = wd g P q := fun q => by show g2 24 0 _ = g 24 0 _; rw [hz3.1 24 (by decide) (by decide), g24]
            exact ⟨op, c1, by rw [ew]; exact c2, by omega, h12a, fun zz => absurd h14 zz, fun _ => ⟨t, by rw [ew]; exact f1, f2, by rw [hz3.2.2.1, r9]; exact f3, m3⟩⟩
        · have h25 : op = 25 ∨ op = 26 := by
            rcases Nat.decEq op 25 with z | z
            · rcases Nat.decEq op 26 with zz | zz
              · exact absurd ⟨h14, z, zz⟩ hg
              · exact Or.inr zz
            · exact Or.inl z
          have nj : ¬ (op = 14 ∨ op = 15) := by omega
          refine ⟨0, _, _, cV _ _ ?_, cR _ _ ?_, Rch.rf, hH1, by omega, fun _ => ⟨op, c1, c2, by omega, h12a, fun _ y z => absurd h25 (fun w => w.elim y z), fun z => absurd z nj⟩⟩
          · rw [x_V_ruleOfHeights, hins]
            simp only [Option.bind_some, ck, g31, e31, w1, w2, eA, q12, s_I_mayGoOnBehind, s_I_mayJump, bI_0, of0n, if_true]
            rw [if_pos hB60, if_neg hA1, if_neg hC, if_pos hg, if_pos (fun z => nj (hmj.mp z)), on0]
          · rw [x_R_look, hwk]
            simp only [Option.bind_some, ck, hkh, s_R_takes, s_R_gives, v2, v3, eA, q12, isB_1, if_true, q14, q15, q24, z00, if_false]
            rw [if_pos hB61, if_pos hB61, if_neg hA1, if_neg hC, if_neg h14, if_pos (show 24 < op by omega), if_neg h14, if_neg (show ¬ op = 15 by omega), on0]
