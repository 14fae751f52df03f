/-! end agrees -/
theorem Inv.same {g r g' r' : mG} (hg : SameC g g') (hr : SameR r r') (h : Inv g r) : Inv g' r' := by
  unfold Inv InvL InvT InvG InvN InvM at h ⊢
  rw [hg 24 (by decide) (by decide), hg 25 (by decide) (by decide), hg 2 (by decide) (by decide), hg 26 (by decide) (by decide), hg 27 (by decide) (by decide), hg 30 (by decide) (by decide), hg 20 (by decide) (by decide), hg 1 (by decide) (by decide), hg 21 (by decide) (by decide), hr 6 (by decide) (by decide) (by decide), hr 7 (by decide) (by decide) (by decide), hr 0 (by decide) (by decide) (by decide), hr 2 (by decide) (by decide) (by decide), hr 1 (by decide) (by decide) (by decide), hr 5 (by decide) (by decide) (by decide)]
  exact h
theorem face_end {g r : mG} (h : Inv g r) : Agree (f_B_end [.inr (0, 0)] g) (f_R_end [.inr (0, 0)] r) := by
  obtain ⟨⟨l1, l2, l3, l4, l5, l6, l7, l8, l9⟩, hT, hG, hN, hM⟩ := h
  have cB : ∀ v g', rn_L_closeOpen 23 0 (mL0 [.inr (2, 0)] 2) [] g = some (some (.inl v), g') → f_B_end [.inr (0, 0)] g = some (v, g') := by
    intro v g' hv
    refine e_B_end (n := 4) rfl ?_
    rw [x_B_end, e_L_closeOpen (n := 23) rfl hv]
    rfl
  by_cases ho : g 2 0 4 = 0
  · refine ⟨Int32.ofInt (-1), g, r, cB _ _ ?_, e_R_end (n := 19) rfl ?_, ⟨l1, l2, l3, l4, l5, l6, l7, l8, l9⟩, hT, hG, hN, hM⟩
    · rw [x_L_closeOpen, if_pos ho]
    · rw [x_R_end, ← l4, if_pos ho]
  · have hp := l7 ho
    have hB : inB (g 2 0 3) 12 := ⟨l5.1, hp⟩
    have hP : (g 2 0 3).toNatClampNeg < 12 := inB_lt hB
    have hlen := l8 _ hP
    have nIof : ∀ y : Int32, 0 ≤ y.toInt → y.toInt ≤ 60 → y = nI y.toNatClampNeg := fun y h1 h2 => by
      have : y.toNatClampNeg ≤ 60 := by rw [cl_toInt]; omega
      rw [i_eq, nI_toInt (by omega), cl_toInt]; omega
    have h23 : g 2 0 3 = nI (g 2 0 3).toNatClampNeg := nIof _ hB.1 (by omega)
    have hNb : (g 25 0 (g 2 0 3).toNatClampNeg).toNatClampNeg ≤ 60 := by rw [cl_toInt]; omega
    have h25 : g 25 0 (g 2 0 3).toNatClampNeg = nI (g 25 0 (g 2 0 3).toNatClampNeg).toNatClampNeg := nIof _ hlen.1 hlen.2
    have hOp : Opn (g 2 0 3).toNatClampNeg (g 25 0 (g 2 0 3).toNatClampNeg).toNatClampNeg (st3 g 2 0 4 (Int32.ofInt 0)) (st3 r 0 0 8 (Int32.ofInt 0)) :=
      ⟨hP, hNb, l1, h25, h23, l3 ▸ h23⟩
    have h7 : (st3 r 0 0 8 (Int32.ofInt 0)) 7 0 (g 2 0 3).toNatClampNeg = nI (g 25 0 (g 2 0 3).toNatClampNeg).toNatClampNeg := by
      show r 7 0 _ = _
      rw [← l2]; exact h25
    obtain ⟨x, g', r', v1, v2, v3, v4, v5, v6⟩ := verifyB hOp h7
    have hI0 : Inv (st3 g 2 0 4 (Int32.ofInt 0)) (st3 r 0 0 8 (Int32.ofInt 0)) :=
      ⟨⟨l1, l2, l3, rfl, l5, Or.inl of0, fun z => absurd of0 z, l8, l9⟩, hT, hG, hN, hM⟩
    have hI := hI0.same v3 v4
    have eg3 : g' 2 0 3 = g 2 0 3 := by rw [v3 2 (by decide) (by decide)]; rfl
    have er7 : r' 0 0 7 = g 2 0 3 := by rw [v4 0 (by decide) (by decide) (by decide)]; exact l3.symm
    rw [← h23] at v1
    by_cases hx : x = 0
    · have hs := v6 hx
      have hs2 : Snd (fun k => g 24 0 (60 * (g 2 0 3).toNatClampNeg + k)) (g 25 0 (g 2 0 3).toNatClampNeg).toNatClampNeg (g 2 0 3).toNatClampNeg := hs
      have et : (g 2 0 3 + Int32.ofInt 1).toInt = (g 2 0 3).toInt + 1 := by rw [ti_add (by rw [ti1]; omega) (by rw [ti1]; omega), ti1]
      refine ⟨x, st3 g' 2 0 3 (g 2 0 3 + Int32.ofInt 1), st3 r' 0 0 7 (g 2 0 3 + Int32.ofInt 1), cB _ _ ?_, e_R_end (n := 19) rfl ?_, ?_⟩
      · rw [x_L_closeOpen, if_neg ho]
        simp only [isB_0, if_true, v1, Option.bind_some]
        rw [if_pos hx, eg3]
      · rw [x_R_end, ← l4, if_neg ho]
        simp only [isB_0, if_true, v2, Option.bind_some]
        rw [if_pos hx, er7]
      · obtain ⟨⟨m1, m2, m3, m4, m5, m6, m7, m8, m9⟩, nT, nG, nN, nM⟩ := hI
        have e24 : g' 24 = g 24 := v3 24 (by decide) (by decide)
        have e25 : g' 25 = g 25 := v3 25 (by decide) (by decide)
        have e2 : g' 2 0 4 = 0 := by rw [v3 2 (by decide) (by decide)]; exact of0
        refine ⟨⟨m1, m2, ?_, m4, ?_, m6, fun z => absurd e2 z, m8, ?_⟩, nT, ⟨nG.1, fun k hk => ?_⟩, nN, nM⟩
        · rw [st3_same, st3_same]
        · rw [st3_same, et]; omega
        · intro p hp2
          rw [st3_same, cl_toInt, et] at hp2
          show Snd (fun k => g' 24 0 (60 * p + k)) (g' 25 0 p).toNatClampNeg p
          rw [e24, e25]
          by_cases e : p = (g 2 0 3).toNatClampNeg
          · rw [e]; exact hs2
          · exact l9 p (by rw [cl_toInt] at e ⊢; omega)
        · have := nG.2 k hk
          rw [eg3] at this
          show -1 ≤ (g' 30 0 k).toInt ∧ (g' 30 0 k).toInt < (st3 g' 2 0 3 (g 2 0 3 + Int32.ofInt 1) 2 0 3).toInt
          rw [st3_same, et]; omega
    · refine ⟨x, g', r', cB _ _ ?_, e_R_end (n := 19) rfl ?_, hI⟩
      · rw [x_L_closeOpen, if_neg ho]
        simp only [isB_0, if_true, v1, Option.bind_some]
        rw [if_neg hx]
      · rw [x_R_end, ← l4, if_neg ho]
        simp only [isB_0, if_true, v2, Option.bind_some]
        rw [if_neg hx]
