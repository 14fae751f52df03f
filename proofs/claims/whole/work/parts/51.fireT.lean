theorem Run.cm {d P k h : Nat} {g r : mG} (hr : Run d P k h g r) : Cm g r := hr.2.2.2.2
theorem Run.im {d P k h : Nat} {g r : mG} (hr : Run d P k h g r) : InvM g := by
  refine ⟨hr.1.2.2.2.2, ?_⟩
  rw [hr.1.2.2.2.1, nI_clamp (by have := hr.1.1; omega)]; exact hr.1.1
theorem fire8 {P k h t ev q : Nat} {y x1 x2 x3 : Int32} {g r : mG} (hr : Run 7 P k h g r) (ht : t < 4) (hev : ev < 3) (hb : ¬ g 30 0 (3 * t + ev) = Int32.ofInt (-1)) :
    ∃ g' r', f_M_fire [.inr (1, 0), .inl (nI t), .inl (nI ev), .inl (nI q), .inl y] g = some (Int32.ofInt 4, g') ∧ f_R_fire [.inr (0, 0), .inl (nI t), .inl (nI ev), .inl (nI q), .inl x1, .inl x2, .inl x3] (st3 (st3 r 15 0 (13 * 7 + h) y) 14 0 7 (nI (h + 1))) = some r' ∧ Cm g' r' ∧ InvM g' ∧ r' 0 0 21 = Int32.ofInt 4 ∧ r' 0 0 23 = r 0 0 23 ∧ r' 0 0 24 = r 0 0 24 := by
  have h30 : g 30 0 = r 5 0 := hr.2.2.2.2.2.2.1.1
  have hbd := hr.2.2.2.2.2.2.1.2 (3 * t + ev) (by omega)
  have hnn : ¬ r 5 0 (3 * t + ev) < 0 := by
    rw [i_eq, tim1] at hb
    rw [← h30, i_lt, tiz]; omega
  refine ⟨st3 g 20 0 3 (g 20 0 3 + Int32.ofInt 1), _, e_M_fire (n := 43) rfl ?_, s_R_fire8 ht hev hnn hr.1.2.2.1, ?_, hr.ch.im, st3_same, rfl, rfl⟩
  · rw [x_M_fire, if_pos (by decide), if_pos (by decide), show (Int32.ofInt 3).toNatClampNeg = 3 by decide, s_G_find]
    simp only [Option.bind_some, pTrigN ht hev]
    rw [if_neg (show ¬ (st3 g 20 0 3 (g 20 0 3 + Int32.ofInt 1)) 30 0 (3 * t + ev) = Int32.ofInt (-1) from hb), s_M_open8 (show (st3 g 20 0 3 (g 20 0 3 + Int32.ofInt 1)) 1 0 8 = nI 8 from hr.1.2.1), Option.bind_some, if_neg (show ¬ Int32.ofInt 4 = Int32.ofInt (-1) by decide)]
  · exact hr.ch.cm
