/-! the places of jumps: both sides in step -/
theorem iIns_iff {P n : Nat} {g r : mG} (hJ : J1 P n n g r) (hn : n ≤ 60) (x : Int32) : iIns g x ↔ (0 ≤ x.toInt ∧ x.toInt < n ∧ r 9 0 x.toNatClampNeg = 1) := by
  obtain ⟨a1, a2, a3, a4, a5, a6⟩ := hJ
  constructor
  · rintro ⟨h1, h2⟩
    have hk := inB_lt h1
    have h3 := a1 _ hk
    by_cases hb : r 9 0 x.toNatClampNeg = 1
    · have h4 := a3 _ (by omega) hb
      have h5 := h1.1
      rw [cl_toInt] at h4
      exact ⟨h5, by omega, hb⟩
    · rw [if_neg hb] at h3
      exact absurd h3 h2
  · rintro ⟨h1, h2, h3⟩
    refine ⟨⟨h1, by show x.toInt < 60; omega⟩, ?_⟩
    have hk : x.toNatClampNeg < 60 := by rw [cl_toInt]; omega
    rw [a1 _ hk, if_pos h3]
    decide
theorem mjL : ∀ op, op < 27 → (([1, 0, 0, 0, 0, 0, 0, 0, 0, 0, 0, 0, 2, 2, 3, 3, 4, 4, 4, 4, 4, 4, 5, 5, 6, 0, 0, 0] : List Int32).getD op 0 = Int32.ofInt 3 ↔ (op = 14 ∨ op = 15)) := by decide +kernel
abbrev JOK (P n k : Nat) (g r : mG) : Prop := ∃ t, wd g P (k + 1) = nI t ∧ t < n ∧ r 9 0 t = 1
theorem ofI4 (t : Nat) : Int32.ofInt 16 * nI t + Int32.ofInt 4 = nI (16 * t + 4) := by rw [on16, on4, pk_mul, nI_add]
set_option maxHeartbeats 4000000 in
theorem ph2 {P n : Nat} {g r : mG} (ho : Opn P n g r) (hJ : J1 P n n g r) : ∀ (m t : Nat) (u u' : Option mV), n - t ≤ m → t ≤ n →
    ∃ (x : Int32) (a b : Nat), rn_V_faultOfPlaces a 2 [some (.inr (5, 0)), some (.inr (2, 0)), some (.inl (nI P)), some (.inl (nI t)), u] [] g = some (some (.inl x), g) ∧
      rn_R_jumps b 2 [some (.inr (0, 0)), some (.inl (nI n)), some (.inl (nI t)), u'] [] r = some (some (.inl x), r) ∧ 0 ≤ x.toInt ∧ (x = 0 → ∀ k, t ≤ k → k < n → r 9 0 k = 1 → (wd g P k = nI 14 ∨ wd g P k = nI 15) → JOK P n k g r) := by
  obtain ⟨hP, hn, hw, hlen, hv, hrp⟩ := ho
  have hwr : r 6 0 = g 24 0 := hw.symm
  have done : ∀ (t : Nat) (u u' : Option mV), ¬ t < n → t ≤ n → ∃ (x : Int32) (a b : Nat), rn_V_faultOfPlaces a 2 [some (.inr (5, 0)), some (.inr (2, 0)), some (.inl (nI P)), some (.inl (nI t)), u] [] g = some (some (.inl x), g) ∧
      rn_R_jumps b 2 [some (.inr (0, 0)), some (.inl (nI n)), some (.inl (nI t)), u'] [] r = some (some (.inl x), r) ∧ 0 ≤ x.toInt ∧ (x = 0 → ∀ k, t ≤ k → k < n → r 9 0 k = 1 → (wd g P k = nI 14 ∨ wd g P k = nI 15) → JOK P n k g r) := by
    intro t u u' h h2
    have l1 : (nI t < nI n) = False := eq_false (by rw [nI_ltI (by omega) (by omega)]; exact h)
    refine ⟨Int32.ofInt 0, 0 + 34, 0 + 41, pxs_px (st := [2]) 34 2 _ _ _ ?_, pxs_px (st := [2]) 41 2 _ _ _ ?_, by rw [ti0]; omega, fun _ k h3 h4 => absurd h4 (by omega)⟩
    · refine (y_V_faultOfPlaces_2 (rn_V_faultOfPlaces 0) (nI P) (nI t) u g).trans ?_
      simp only [s_L_lengthN P n g hP hlen, Option.bind_some, l1, if_false]
    · refine (y_R_jumps_2 (rn_R_jumps 0) (nI n) (nI t) u' r).trans ?_
      simp only [l1, if_false]
  intro m
  induction m with
  | zero =>
    intro t u u' hm ht
    exact done t u u' (by omega) ht
  | succ m ih =>
    intro t u u' hm ht
    by_cases htl : t < n
    · have l1 : (nI t < nI n) = True := eq_true ((nI_ltI (by omega) (by omega)).mpr htl)
      have hB61 : inB (nI t) 61 := by rw [nI_inB (by omega)]; omega
      have ct : (nI t).toNatClampNeg = t := nI_clamp (by omega)
      have e1 : nI t + Int32.ofInt 1 = nI (t + 1) := by rw [on1]; exact nI_add t 1
      have hi := iIns_iff hJ hn (nI t)
      rw [nI_toInt (by omega), ct] at hi
      rcases hJ.2.1 t (by omega) with hb | hb
      · -- no instruction here
        have hni : ¬ iIns g (nI t) := fun z => by
          have := (hi.mp z).2.2
          rw [hb] at this
          exact absurd this (by decide)
        obtain ⟨x, a, b, ha, hb2, s3, s4⟩ := ih (t + 1) (some (.inl (Int32.ofInt 0))) u' (by omega) (by omega)
        refine ⟨x, a + 34, b + 41, pxs_px (st := [2]) 34 2 _ _ _ ?_, pxs_px (st := [2]) 41 2 _ _ _ ?_, s3, fun e k h3 h4 h5 h6 => ?_⟩
        · refine (y_V_faultOfPlaces_2 (rn_V_faultOfPlaces a) (nI P) (nI t) u g).trans ?_
          simp only [s_L_lengthN P n g hP hlen, Option.bind_some, l1, if_true, s_V_isInstruction, bI_0, of0n, e1]
          rw [if_pos hni]
          exact ha
        · refine (y_R_jumps_2 (rn_R_jumps b) (nI n) (nI t) u' r).trans ?_
          simp only [l1, if_true, ct, e1]
          rw [if_pos hB61, if_pos hb]
          exact hb2
        · rcases Nat.lt_or_ge t k with z | z
          · exact s4 e k (by omega) h4 h5 h6
          · have : k = t := by omega
            subst this
            rw [hb] at h5
            exact absurd h5 (by decide)
      · -- an instruction
        have hins : iIns g (nI t) := hi.mpr ⟨by omega, by omega, hb⟩
        have hb0 : ¬ r 9 0 t = 0 := by rw [hb]; decide
        obtain ⟨op, b1, b2, b3, b4, b5, b6⟩ := hJ.2.2.2.2.1 t (by omega) hb
        have hw3 : g 24 0 (60 * P + t) = nI op := b2
        have hio : iOf (g 24 0 (60 * P + t)) = op := by rw [hw3]; exact iOf_op (by omega)
        have hmj := mjL op b1
        by_cases hj : op = 14 ∨ op = 15
        · -- a jump
          have hol := (opL_le op b1).1 hj
          have hwp := s_L_wordN P (t + 1) n g hP (by omega) hlen hn
          rw [if_pos (show t + 1 < n by omega)] at hwp
          have hrw := s_R_wordN P (t + 1) r hrp (by omega)
          have hi2 := iIns_iff hJ hn (wd g P (t + 1))
          by_cases hg : iIns g (wd g P (t + 1))
          · obtain ⟨g1, g2, g3⟩ := hi2.mp hg
            obtain ⟨x, a, b, ha, hb2, s3, s4⟩ := ih (t + 1) (some (.inl (Int32.ofInt 1))) (some (.inl (wd g P (t + 1)))) (by omega) (by omega)
            refine ⟨x, a + 34, b + 41, pxs_px (st := [2]) 34 2 _ _ _ ?_, pxs_px (st := [2]) 41 2 _ _ _ ?_, s3, fun e k h3 h4 h5 h6 => ?_⟩
            · refine (y_V_faultOfPlaces_2 (rn_V_faultOfPlaces a) (nI P) (nI t) u g).trans ?_
              simp only [s_L_lengthN P n g hP hlen, Option.bind_some, l1, if_true, s_V_isInstruction, bI_0, of1n, if_false, e1, s_L_insN P t n g hP htl hlen hn, hio, s_I_mayJump, hwp]
              rw [if_neg (fun z => z hins), if_neg (fun z => z (hmj.mpr hj)), if_neg (fun z => z hg)]
              exact ha
            · refine (y_R_jumps_2 (rn_R_jumps b) (nI n) (nI t) u' r).trans ?_
              have h61 : inB (wd g P (t + 1)) 61 := ⟨g1, by show (wd g P (t + 1)).toInt < 61; omega⟩
              have hr1 : ¬ r 9 0 (wd g P (t + 1)).toNatClampNeg = 0 := by rw [g3]; decide
              have q1 : ¬ (wd g P (t + 1)) < 0 := by rw [i_lt, tiz]; omega
              have q2 : (wd g P (t + 1)) < nI n := by rw [i_lt, nI_toInt (by omega)]; exact g2
              simp only [l1, if_true, ct, e1, s_R_wordN P t r hrp (by omega), hrw, hwr, hw3, Option.bind_some]
              rw [if_pos hB61, if_neg hb0]
              rcases hj with rfl | rfl
              · rw [if_pos (show nI 14 = Int32.ofInt 14 by decide), if_neg q1, if_pos q2, if_pos h61, if_neg hr1]
                exact hb2
              · rw [if_neg (show ¬ nI 15 = Int32.ofInt 14 by decide), if_pos (show nI 15 = Int32.ofInt 15 by decide), if_neg q1, if_pos q2, if_pos h61, if_neg hr1]
                exact hb2
            · rcases Nat.lt_or_ge t k with z | z
              · exact s4 e k (by omega) h4 h5 h6
              · have : k = t := by omega
                subst this
                obtain ⟨q, hq1, hq2⟩ := inB_nI (x := wd g P (k + 1)) (n := n) ⟨g1, g2⟩
                refine ⟨q, hq2, hq1, ?_⟩
                rw [hq2, nI_clamp (by omega)] at g3
                exact g3
          · refine ⟨nI (16 * t + 4), 0 + 34, 0 + 41, pxs_px (st := [2]) 34 2 _ _ _ ?_, pxs_px (st := [2]) 41 2 _ _ _ ?_, by rw [nI_toInt (by omega)]; omega, fun e => ?_⟩
            · refine (y_V_faultOfPlaces_2 (rn_V_faultOfPlaces 0) (nI P) (nI t) u g).trans ?_
              simp only [s_L_lengthN P n g hP hlen, Option.bind_some, l1, if_true, s_V_isInstruction, bI_0, of1n, if_false, e1, s_L_insN P t n g hP htl hlen hn, hio, s_I_mayJump, hwp, s_V_fault, ofI4]
              rw [if_neg (fun z => z hins), if_neg (fun z => z (hmj.mpr hj)), if_pos hg]
            · refine (y_R_jumps_2 (rn_R_jumps 0) (nI n) (nI t) u' r).trans ?_
              have hng : ¬ (0 ≤ (wd g P (t + 1)).toInt ∧ (wd g P (t + 1)).toInt < n ∧ r 9 0 (wd g P (t + 1)).toNatClampNeg = 1) := fun z => hg (hi2.mpr z)
              have tail : (if wd g P (t + 1) < 0 then (some (some (Sum.inl (nI (16 * t + 4))), r) : Option mRes) else if wd g P (t + 1) < nI n then (if inB (wd g P (t + 1)) 61 then (if r 9 0 (wd g P (t + 1)).toNatClampNeg = 0 then some (some (Sum.inl (nI (16 * t + 4))), r) else rn_R_jumps 0 2 [some (.inr (0, 0)), some (.inl (nI n)), some (.inl (nI (t + 1))), some (.inl (wd g P (t + 1)))] [] r) else none) else some (some (Sum.inl (nI (16 * t + 4))), r)) = some (some (Sum.inl (nI (16 * t + 4))), r) := by
                simp only [i_lt, tiz, nI_toInt (show n < 2 ^ 31 by omega)]
                by_cases z1 : (wd g P (t + 1)).toInt < 0
                · rw [if_pos z1]
                · rw [if_neg z1]
                  by_cases z2 : (wd g P (t + 1)).toInt < n
                  · rw [if_pos z2, if_pos (show inB (wd g P (t + 1)) 61 from ⟨by omega, by show (wd g P (t + 1)).toInt < 61; omega⟩)]
                    have hk : (wd g P (t + 1)).toNatClampNeg < 61 := by rw [cl_toInt]; omega
                    rcases hJ.2.1 _ hk with z3 | z3
                    · rw [if_pos z3]
                    · exact absurd ⟨by omega, z2, z3⟩ hng
                  · rw [if_neg z2]
              simp only [l1, if_true, ct, e1, s_R_wordN P t r hrp (by omega), hrw, hwr, hw3, Option.bind_some, ofI4]
              rw [if_pos hB61, if_neg hb0]
              rcases hj with rfl | rfl
              · rw [if_pos (show nI 14 = Int32.ofInt 14 by decide)]
                exact tail
              · rw [if_neg (show ¬ nI 15 = Int32.ofInt 14 by decide), if_pos (show nI 15 = Int32.ofInt 15 by decide)]
                exact tail
            · exfalso
              rw [show (0 : Int32) = nI 0 from rfl, nI_eq (by omega) (by omega)] at e
              omega
        · -- no jump
          obtain ⟨x, a, b, ha, hb2, s3, s4⟩ := ih (t + 1) (some (.inl (Int32.ofInt 0))) u' (by omega) (by omega)
          refine ⟨x, a + 34, b + 41, pxs_px (st := [2]) 34 2 _ _ _ ?_, pxs_px (st := [2]) 41 2 _ _ _ ?_, s3, fun e k h3 h4 h5 h6 => ?_⟩
          · refine (y_V_faultOfPlaces_2 (rn_V_faultOfPlaces a) (nI P) (nI t) u g).trans ?_
            simp only [s_L_lengthN P n g hP hlen, Option.bind_some, l1, if_true, s_V_isInstruction, bI_0, of0n, e1, s_L_insN P t n g hP htl hlen hn, hio, s_I_mayJump]
            rw [if_neg (fun z => z hins), if_pos (fun z => hj (hmj.mp z))]
            exact ha
          · refine (y_R_jumps_2 (rn_R_jumps b) (nI n) (nI t) u' r).trans ?_
            simp only [l1, if_true, ct, e1, s_R_wordN P t r hrp (by omega), hwr, hw3, Option.bind_some]
            rw [if_pos hB61, if_neg hb0, if_neg (show ¬ nI op = Int32.ofInt 14 by rw [on14, nI_eq (by omega) (by omega)]; exact fun z => hj (Or.inl z)), if_neg (show ¬ nI op = Int32.ofInt 15 by rw [on15, nI_eq (by omega) (by omega)]; exact fun z => hj (Or.inr z))]
            exact hb2
          · rcases Nat.lt_or_ge t k with z | z
            · exact s4 e k (by omega) h4 h5 h6
            · have : k = t := by omega
              subst this
              exfalso
              rcases h6 with h6 | h6
              · rw [b2, nI_eq (by omega) (by omega)] at h6
                exact hj (Or.inl h6)
              · rw [b2, nI_eq (by omega) (by omega)] at h6
                exact hj (Or.inr h6)
    · exact done t u u' htl ht
