/-! begin, emit, bind, unbind agree -/
theorem toN_lt {x : Int32} {n : Nat} (h : x.toInt < n) (h0 : 0 ≤ x.toInt) : x.toNatClampNeg < n := by rw [cl_toInt]; omega
theorem face_begin {g r : mG} (h : Inv g r) : Agree (f_B_begin [.inr (0, 0)] g) (f_R_begin [.inr (0, 0)] r) := by
  obtain ⟨⟨l1, l2, l3, l4, l5, l6, l7, l8, l9⟩, hT, hG, hN, hM⟩ := h
  have cB : ∀ v g', rn_L_openNext 19 0 (mL0 [.inr (2, 0)] 1) [] g = some (some (.inl v), g') → f_B_begin [.inr (0, 0)] g = some (v, g') := by
    intro v g' hv
    refine e_B_begin (n := 4) rfl ?_
    rw [x_B_begin, e_L_openNext (n := 19) rfl hv]
    rfl
  by_cases ho : g 2 0 4 = 0
  · by_cases hp : (g 2 0 3).toInt < 12
    · have hB : inB (g 2 0 3) 12 := ⟨l5.1, hp⟩
      refine ⟨g 2 0 3, st3 (st3 g 2 0 4 (Int32.ofInt 1)) 25 0 (g 2 0 3).toNatClampNeg (Int32.ofInt 0), st3 (st3 r 0 0 8 (Int32.ofInt 1)) 7 0 (g 2 0 3).toNatClampNeg (Int32.ofInt 0), cB _ _ ?_, e_R_begin (n := 19) rfl ?_, ?_⟩
      · rw [x_L_openNext]
        simp only [isB_1, if_true, i_lt, ti12]
        rw [if_pos ho, if_pos hp, if_pos hB]
      · rw [x_R_begin, ← l3, ← l4]
        simp only [isB_1, if_true]
        rw [if_pos ho, if_neg (by rw [i_eq, ti12]; omega), if_pos hB]
      · refine ⟨⟨?_, ?_, l3, rfl, l5, Or.inr of1, fun _ => hp, ?_, ?_⟩, hT, hG, hN, hM⟩
        · exact l1
        · show st3 _ 25 0 _ _ 25 0 = st3 _ 7 0 _ _ 7 0
          rw [st3_row, st3_row]
          show upd (g 25 0) _ _ = upd (r 7 0) _ _
          rw [l2]
        · intro p hp2
          show 0 ≤ (st3 _ 25 0 _ _ 25 0 p).toInt ∧ (st3 _ 25 0 _ _ 25 0 p).toInt ≤ 60
          rw [st3_row]
          unfold upd
          split
          · rw [ti0]; omega
          · exact l8 p hp2
        · intro p hp2
          have hp3 : p < (g 2 0 3).toNatClampNeg := hp2
          show Snd (fun k => g 24 0 (60 * p + k)) (st3 _ 25 0 _ _ 25 0 p).toNatClampNeg p
          rw [st3_row]
          unfold upd
          rw [if_neg (by omega)]
          exact l9 p hp3
    · refine ⟨Int32.ofInt (-2), g, r, cB _ _ ?_, e_R_begin (n := 19) rfl ?_, ⟨l1, l2, l3, l4, l5, l6, l7, l8, l9⟩, hT, hG, hN, hM⟩
      · rw [x_L_openNext]
        simp only [i_lt, ti12]
        rw [if_pos ho, if_neg hp]
      · rw [x_R_begin, ← l3, ← l4, if_pos ho, if_pos (by rw [i_eq, ti12]; omega)]
  · refine ⟨Int32.ofInt (-1), g, r, cB _ _ ?_, e_R_begin (n := 19) rfl ?_, ⟨l1, l2, l3, l4, l5, l6, l7, l8, l9⟩, hT, hG, hN, hM⟩
    · rw [x_L_openNext, if_neg ho]
    · rw [x_R_begin, ← l4, if_neg ho]
theorem face_emit {g r : mG} (a : Int32) (h : Inv g r) : Agree (f_B_emit [.inr (0, 0), .inl a] g) (f_R_emit [.inr (0, 0), .inl a] r) := by
  obtain ⟨⟨l1, l2, l3, l4, l5, l6, l7, l8, l9⟩, hT, hG, hN, hM⟩ := h
  have cB : ∀ v g', isB v → rn_L_append 31 0 (mL0 [.inr (2, 0), .inl a] 3) [] g = some (some (.inl v), g') → f_B_emit [.inr (0, 0), .inl a] g = some (v, g') := by
    intro v g' hb hv
    refine e_B_emit (n := 5) rfl ?_
    rw [x_B_emit, e_L_append (n := 31) rfl hv]
    show (if isB v then (some (some (Sum.inl v), g') : Option mRes) else none) = _
    rw [if_pos hb]
  by_cases ho : g 2 0 4 = 0
  · refine ⟨Int32.ofInt 0, g, r, cB _ _ (Or.inl of0) ?_, e_R_emit (n := 35) rfl ?_, ⟨l1, l2, l3, l4, l5, l6, l7, l8, l9⟩, hT, hG, hN, hM⟩
    · rw [x_L_append, s_L_length]
      show (if g 2 0 4 = 0 then _ else _) = _
      rw [if_pos ho]
      simp only [isB_0, if_true]
    · rw [x_R_emit, ← l4, if_pos ho]
      simp only [isB_0, if_true]
  · have hp := l7 ho
    have hB : inB (g 2 0 3) 12 := ⟨l5.1, hp⟩
    have hP : (g 2 0 3).toNatClampNeg < 12 := inB_lt hB
    have hlen := l8 _ hP
    by_cases hl : (g 25 0 (g 2 0 3).toNatClampNeg).toInt < 60
    · have hB6 : inB (g 25 0 (g 2 0 3).toNatClampNeg) 60 := ⟨hlen.1, hl⟩
      obtain ⟨i1, i2⟩ := ix60 hB hB6
      obtain ⟨j1, j2⟩ := ix60' hB hB6
      refine ⟨Int32.ofInt 1, st3 (st3 g 24 0 (60 * (g 2 0 3).toNatClampNeg + (g 25 0 (g 2 0 3).toNatClampNeg).toNatClampNeg) a) 25 0 (g 2 0 3).toNatClampNeg (g 25 0 (g 2 0 3).toNatClampNeg + Int32.ofInt 1), st3 (st3 r 6 0 (60 * (g 2 0 3).toNatClampNeg + (g 25 0 (g 2 0 3).toNatClampNeg).toNatClampNeg) a) 7 0 (g 2 0 3).toNatClampNeg (g 25 0 (g 2 0 3).toNatClampNeg + Int32.ofInt 1), cB _ _ (Or.inr of1) ?_, e_R_emit (n := 35) rfl ?_, ?_⟩
      · rw [x_L_append, s_L_length, if_pos hB]
        show (if g 2 0 4 = 0 then _ else _) = _
        rw [if_neg ho]
        simp only [isB_1, if_true, i_lt, ti60]
        rw [if_pos hl, if_pos i1, if_pos hB, i2]
      · rw [x_R_emit, ← l3, ← l4, ← l2, if_neg ho]
        simp only [isB_1, if_true]
        rw [if_pos hB, if_neg (by rw [i_eq, ti60]; omega), if_pos hB, if_pos j1, if_pos hB, if_pos hB, j2]
      · refine ⟨⟨?_, ?_, l3, l4, l5, l6, fun _ => hp, ?_, ?_⟩, hT, hG, hN, hM⟩
        · show st3 g 24 0 _ _ 24 0 = st3 r 6 0 _ _ 6 0
          rw [st3_row, st3_row, l1]
        · show st3 _ 25 0 _ _ 25 0 = st3 _ 7 0 _ _ 7 0
          rw [st3_row, st3_row]
          show upd (g 25 0) _ _ = upd (r 7 0) _ _
          rw [l2]
        · intro p hp2
          show 0 ≤ (st3 _ 25 0 _ _ 25 0 p).toInt ∧ (st3 _ 25 0 _ _ 25 0 p).toInt ≤ 60
          rw [st3_row]
          unfold upd
          split
          · rw [ti_add (by rw [ti1]; omega) (by rw [ti1]; omega), ti1]; omega
          · exact l8 p hp2
        · intro p hp2
          have hp3 : p < (g 2 0 3).toNatClampNeg := hp2
          show Snd (fun k => st3 g 24 0 _ _ 24 0 (60 * p + k)) (st3 _ 25 0 _ _ 25 0 p).toNatClampNeg p
          rw [st3_row, st3_row]
          have e1 : upd ((st3 g 24 0 (60 * (g 2 0 3).toNatClampNeg + (g 25 0 (g 2 0 3).toNatClampNeg).toNatClampNeg) a) 25 0) (g 2 0 3).toNatClampNeg (g 25 0 (g 2 0 3).toNatClampNeg + Int32.ofInt 1) p = g 25 0 p := pk_un (by omega)
          rw [e1]
          refine (l9 p hp3).congr (fun k hk => ?_)
          have h60 := l8 p (by omega)
          have hk2 : k < 60 := by rw [cl_toInt] at hk; omega
          exact pk_un (by omega)
    · refine ⟨Int32.ofInt 0, g, r, cB _ _ (Or.inl of0) ?_, e_R_emit (n := 35) rfl ?_, ⟨l1, l2, l3, l4, l5, l6, l7, l8, l9⟩, hT, hG, hN, hM⟩
      · rw [x_L_append, s_L_length, if_pos hB]
        show (if g 2 0 4 = 0 then _ else _) = _
        rw [if_neg ho]
        simp only [isB_0, if_true, i_lt, ti60]
        rw [if_neg hl]
      · rw [x_R_emit, ← l3, ← l4, ← l2, if_neg ho]
        simp only [isB_0, if_true]
        rw [if_pos hB, if_pos (by rw [i_eq, ti60]; omega)]
theorem InvG_put {g r : mG} {i : Nat} {c : Int32} (hG : InvG g r) (hc : -1 ≤ c.toInt ∧ c.toInt < (g 2 0 3).toInt) : InvG (st3 g 30 0 i c) (st3 r 5 0 i c) := by
  refine ⟨?_, fun k hk => ?_⟩
  · rw [st3_row, st3_row, hG.1]
  · show -1 ≤ (st3 g 30 0 i c 30 0 k).toInt ∧ (st3 g 30 0 i c 30 0 k).toInt < (g 2 0 3).toInt
    rw [st3_row]
    unfold upd
    split
    · exact hc
    · exact hG.2 k hk
theorem face_bind {g r : mG} (a b c : Int32) (h : Inv g r) : Agree (f_B_bind [.inr (0, 0), .inl a, .inl b, .inl c] g) (f_R_bind [.inr (0, 0), .inl a, .inl b, .inl c] r) := by
  obtain ⟨hL, hT, hG, hN, hM⟩ := h
  have hI : Inv g r := ⟨hL, hT, hG, hN, hM⟩
  have l3 := hL.2.2.1
  by_cases h1 : inB a 4
  · have a1 : 0 ≤ a.toInt ∧ a.toInt < 4 := h1
    by_cases h2 : inB b 3
    · have b1 : 0 ≤ b.toInt ∧ b.toInt < 3 := h2
      by_cases h3 : 0 ≤ c.toInt ∧ c.toInt < (g 2 0 3).toInt
      · obtain ⟨j1, j2⟩ := ix3' h1 h2
        refine ⟨Int32.ofInt 0, st3 g 30 0 (3 * a.toNatClampNeg + b.toNatClampNeg) c, st3 r 5 0 (3 * a.toNatClampNeg + b.toNatClampNeg) c, e_B_bind (n := 21) rfl ?_, e_R_bind (n := 27) rfl ?_, hL, hT, InvG_put hG ⟨by omega, h3.2⟩, hN, hM⟩
        · rw [x_B_bind]
          simp only [s_B_isBelow, s_L_has, s_G_put, Option.bind_some, bI_0, ti4, ti3]
          rw [if_neg (fun z => z a1), if_neg (fun z => z b1), if_neg (fun z => z h3), if_pos ⟨h1, h2⟩]
        · rw [x_R_bind, ← l3]
          simp only [i_lt, tiz, ti3, ti2]
          rw [if_neg (by omega), if_neg (by omega), if_neg (by omega), if_neg (by omega), if_neg (by omega), if_pos h3.2, if_pos j1, j2]
      · refine ⟨Int32.ofInt 3, g, r, e_B_bind (n := 21) rfl ?_, e_R_bind (n := 27) rfl ?_, hI⟩
        · rw [x_B_bind]
          simp only [s_B_isBelow, s_L_has, s_G_put, Option.bind_some, bI_0, ti4, ti3]
          rw [if_neg (fun z => z a1), if_neg (fun z => z b1), if_pos h3]
        · rw [x_R_bind, ← l3]
          simp only [i_lt, tiz, ti3, ti2]
          rw [if_neg (by omega), if_neg (by omega), if_neg (by omega), if_neg (by omega)]
          by_cases h4 : c.toInt < 0
          · rw [if_pos h4]
          · rw [if_neg h4, if_neg (by omega)]
    · have b1 : ¬ (0 ≤ b.toInt ∧ b.toInt < 3) := h2
      refine ⟨Int32.ofInt 2, g, r, e_B_bind (n := 21) rfl ?_, e_R_bind (n := 27) rfl ?_, hI⟩
      · rw [x_B_bind]
        simp only [s_B_isBelow, s_L_has, s_G_put, Option.bind_some, bI_0, ti4, ti3]
        rw [if_neg (fun z => z a1), if_pos b1]
      · rw [x_R_bind]
        simp only [i_lt, tiz, ti3, ti2]
        rw [if_neg (by omega), if_neg (by omega)]
        by_cases h4 : b.toInt < 0
        · rw [if_pos h4]
        · rw [if_neg h4, if_pos (by omega)]
  · have a1 : ¬ (0 ≤ a.toInt ∧ a.toInt < 4) := h1
    refine ⟨Int32.ofInt 1, g, r, e_B_bind (n := 21) rfl ?_, e_R_bind (n := 27) rfl ?_, hI⟩
    · rw [x_B_bind]
      simp only [s_B_isBelow, s_L_has, s_G_put, Option.bind_some, bI_0, ti4, ti3]
      rw [if_pos a1]
    · rw [x_R_bind]
      simp only [i_lt, tiz, ti3, ti2]
      by_cases h4 : a.toInt < 0
      · rw [if_pos h4]
      · rw [if_neg h4, if_pos (by omega)]
theorem st3_id {g : mG} {a j k : Nat} {x : Int32} (h : g a j k = x) : st3 g a j k x = g := by
  funext a' j' k'
  unfold st3
  split
  · next q => obtain ⟨rfl, rfl, rfl⟩ := q; exact h.symm
  · rfl
theorem face_unbind {g r : mG} (a b : Int32) (h : Inv g r) : Agree (f_B_unbind [.inr (0, 0), .inl a, .inl b] g) (f_R_unbind [.inr (0, 0), .inl a, .inl b] r) := by
  obtain ⟨hL, hT, hG, hN, hM⟩ := h
  have hI : Inv g r := ⟨hL, hT, hG, hN, hM⟩
  by_cases h1 : inB a 4
  · have a1 : 0 ≤ a.toInt ∧ a.toInt < 4 := h1
    by_cases h2 : inB b 3
    · have b1 : 0 ≤ b.toInt ∧ b.toInt < 3 := h2
      obtain ⟨j1, j2⟩ := ix3' h1 h2
      have hk : 3 * a.toNatClampNeg + b.toNatClampNeg < 12 := by
        have := inB_lt h1
        have := inB_lt h2
        omega
      have hq := hG.2 _ hk
      have hpt : pTrig (g 30 0) a b = g 30 0 (3 * a.toNatClampNeg + b.toNatClampNeg) := if_pos ⟨h1, h2⟩
      have l5 := hL.2.2.2.2.1
      by_cases h3 : (g 30 0 (3 * a.toNatClampNeg + b.toNatClampNeg)).toInt < 0
      · have e1 : g 30 0 (3 * a.toNatClampNeg + b.toNatClampNeg) = Int32.ofInt (-1) := by rw [i_eq, tim1]; omega
        refine ⟨Int32.ofInt 0, g, r, e_B_unbind (n := 18) rfl ?_, e_R_unbind (n := 30) rfl ?_, hI⟩
        · rw [x_B_unbind]
          simp only [s_G_find, s_G_put, Option.bind_some, isB_0, isB_1, if_true, hpt]
          rw [if_pos e1, if_pos ⟨h1, h2⟩, st3_id e1]
        · rw [x_R_unbind, ← hG.1]
          simp only [isB_0, isB_1, if_true, i_lt, tiz, ti3, ti2]
          rw [if_neg (by omega), if_neg (by omega), if_neg (by omega), if_neg (by omega), if_pos j1, j2, if_pos h3]
      · have e1 : ¬ g 30 0 (3 * a.toNatClampNeg + b.toNatClampNeg) = Int32.ofInt (-1) := by rw [i_eq, tim1]; omega
        refine ⟨Int32.ofInt 1, st3 g 30 0 (3 * a.toNatClampNeg + b.toNatClampNeg) (Int32.ofInt (-1)), st3 r 5 0 (3 * a.toNatClampNeg + b.toNatClampNeg) (Int32.ofInt (-1)), e_B_unbind (n := 18) rfl ?_, e_R_unbind (n := 30) rfl ?_, hL, hT, InvG_put hG ⟨by rw [tim1]; omega, by rw [tim1]; omega⟩, hN, hM⟩
        · rw [x_B_unbind]
          simp only [s_G_find, s_G_put, Option.bind_some, isB_0, isB_1, if_true, hpt]
          rw [if_neg e1, if_pos ⟨h1, h2⟩]
        · rw [x_R_unbind, ← hG.1]
          simp only [isB_0, isB_1, if_true, i_lt, tiz, ti3, ti2]
          rw [if_neg (by omega), if_neg (by omega), if_neg (by omega), if_neg (by omega), if_pos j1, j2, if_neg h3, if_pos j1]
    · have b1 : ¬ (0 ≤ b.toInt ∧ b.toInt < 3) := h2
      have hpt : pTrig (g 30 0) a b = Int32.ofInt (-1) := if_neg (fun z => h2 z.2)
      refine ⟨Int32.ofInt 0, g, r, e_B_unbind (n := 18) rfl ?_, e_R_unbind (n := 30) rfl ?_, hI⟩
      · rw [x_B_unbind]
        simp only [s_G_find, s_G_put, Option.bind_some, isB_0, isB_1, if_true, hpt]
        rw [if_neg (fun z => h2 z.2)]
      · rw [x_R_unbind]
        simp only [isB_0, isB_1, if_true, i_lt, tiz, ti3, ti2]
        rw [if_neg (by omega), if_neg (by omega)]
        by_cases h4 : b.toInt < 0
        · rw [if_pos h4]
        · rw [if_neg h4, if_pos (by omega)]
  · have a1 : ¬ (0 ≤ a.toInt ∧ a.toInt < 4) := h1
    have hpt : pTrig (g 30 0) a b = Int32.ofInt (-1) := if_neg (fun z => h1 z.1)
    refine ⟨Int32.ofInt 0, g, r, e_B_unbind (n := 18) rfl ?_, e_R_unbind (n := 30) rfl ?_, hI⟩
    · rw [x_B_unbind]
      simp only [s_G_find, s_G_put, Option.bind_some, isB_0, isB_1, if_true, hpt]
      rw [if_neg (fun z => h1 z.1)]
    · rw [x_R_unbind]
      simp only [isB_0, isB_1, if_true, i_lt, tiz, ti3, ti2]
      by_cases h4 : a.toInt < 0
      · rw [if_pos h4]
      · rw [if_neg h4, if_pos (by omega)]
