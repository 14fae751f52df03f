theorem st3_comm {g : mG} {a j k a' j' k' : Nat} {x x' : Int32} (h : a ≠ a') : st3 (st3 g a j k x) a' j' k' x' = st3 (st3 g a' j' k' x') a j k x := by
  funext p q s
  unfold st3
  by_cases e1 : p = a' ∧ s = k' ∧ q = j'
  · rw [if_pos e1, if_neg (fun z => h (z.1.symm.trans e1.1)), if_pos e1]
  · rw [if_neg e1, if_neg e1]
theorem Run.ch {d P k h : Nat} {g r : mG} (hr : Run d P k h g r) : Run d P k h (st3 g 20 0 3 (g 20 0 3 + Int32.ofInt 1)) (st3 r 0 0 27 (r 0 0 27 + Int32.ofInt 1)) := by
  obtain ⟨⟨d1, d2, d3, d4, d5⟩, hf, hh, hb, ⟨cL, cT, cG, ⟨n0, n1, n2, n3, n4⟩, cK⟩⟩ := hr
  refine ⟨⟨d1, d2, d3, d4, d5⟩, hf, hh, hb, cL, cT, cG, ⟨n0, n1, n2, ?_, n4⟩, cK⟩
  rw [st3_same, st3_same, n3]
theorem s_F_becomeTrigger (j : Nat) (a : Int32) (g : mG) : f_F_becomeTrigger [.inr (10, j), .inr (22, 0), .inr (23, 0), .inl a] g = some (stR (stR (st3 (st3 g 10 j 7 (Int32.ofInt 1)) 10 j 8 a) 13 j (va_cpy (g 22 0) (g 13 j) 0 0 3)) 14 j (va_cpy (g 23 0) (g 14 j) 0 0 3)) := by
  refine e_F_becomeTrigger (n := 21) rfl ?_
  rw [x_F_becomeTrigger]
  simp only [isB_1, if_true]
  rw [if_pos (by decide), if_pos (by decide), show (Int32.ofInt 0).toNatClampNeg = 0 by decide, show (Int32.ofInt 3).toNatClampNeg = 3 by decide]
/-- what a step leaves -/
def Post (x : Int32) (g' r' : mG) : Prop := (x = Int32.ofInt (-1) ∧ r' 0 0 21 = Int32.ofInt 7 ∧ ∃ d P k h, Run d P k h g' r' ∧ Sok (wds g' P) (lns g' P) P k h) ∨ (0 ≤ x.toInt ∧ x.toInt < 7 ∧ r' 0 0 21 = x ∧ Cm g' r' ∧ InvM g')
theorem pTrigN {t ev : Nat} {tr : Nat → Int32} (ht : t < 4) (hev : ev < 3) : pTrig tr (nI t) (nI ev) = tr (3 * t + ev) := by
  rw [show pTrig tr (nI t) (nI ev) = _ from if_pos ⟨by rw [nI_inB (by omega)]; exact ht, by rw [nI_inB (by omega)]; exact hev⟩, nI_clamp (by omega), nI_clamp (by omega)]
theorem fireN {d P k h t ev q : Nat} {y x1 x2 x3 : Int32} {g r : mG} (hr : Run d P k h g r) (h12 : h < 12) (ht : t < 4) (hev : ev < 3) (hb : g 30 0 (3 * t + ev) = Int32.ofInt (-1)) :
    ∃ g' r', f_M_fire [.inr (1, 0), .inl (nI t), .inl (nI ev), .inl (nI q), .inl y] g = some (Int32.ofInt (-1), g') ∧ f_R_fire [.inr (0, 0), .inl (nI t), .inl (nI ev), .inl (nI q), .inl x1, .inl x2, .inl x3] (st3 (st3 r 15 0 (13 * d + h) y) 14 0 d (nI (h + 1))) = some r' ∧ Run d P k (h + 1) g' r' ∧ g' 24 = g 24 ∧ g' 25 = g 25 ∧ r' 0 0 21 = r 0 0 21 ∧ r' 0 0 23 = r 0 0 23 ∧ r' 0 0 24 = r 0 0 24 := by
  have h30 : g 30 0 = r 5 0 := hr.2.2.2.2.2.2.1.1
  have d9 : g 1 0 9 = nI d := hr.1.2.2.2.1
  have hd := hr.1.1
  have f3 : g 10 d 1 = nI h := hr.2.1.2.2.2.1
  obtain ⟨g', r', p1, p2, p3⟩ := pushB y hr.ch h12
  have e1 : f_F_push [.inr (10, d), .inl y] (st3 g 20 0 3 (g 20 0 3 + Int32.ofInt 1)) = some _ := s_F_push (h := h) f3 h12
  have e2 : f_R_push [.inr (0, 0), .inl y] (st3 r 0 0 27 (r 0 0 27 + Int32.ofInt 1)) = some _ := s_R_push (h := h) (d := d) hr.1.2.2.1 hd hr.2.2.1 (by omega)
  rw [p1] at e1
  rw [p2] at e2
  have q1 := Option.some.inj e1
  have q2 := Option.some.inj e2
  refine ⟨g', r', e_M_fire (n := 43) rfl ?_, ?_, p3, by rw [q1]; rfl, by rw [q1]; rfl, by rw [q2]; rfl, by rw [q2]; rfl, by rw [q2]; rfl⟩
  · rw [x_M_fire, if_pos (by decide), if_pos (by decide), show (Int32.ofInt 3).toNatClampNeg = 3 by decide, s_G_find]
    simp only [Option.bind_some, pTrigN ht hev]
    rw [if_pos (show (st3 g 20 0 3 (g 20 0 3 + Int32.ofInt 1)) 30 0 (3 * t + ev) = Int32.ofInt (-1) from hb), show (st3 g 20 0 3 (g 20 0 3 + Int32.ofInt 1)) 1 0 9 = nI d from d9, nI_clamp (by omega), if_pos (show d < nmC 10 from hd), p1, Option.bind_some]
  · rw [s_R_fire0 ht hev (show (st3 (st3 r 15 0 (13 * d + h) y) 14 0 d (nI (h + 1))) 5 0 (3 * t + ev) < 0 by show r 5 0 (3 * t + ev) < 0; rw [← h30, hb]; decide), q2, st3_comm (show 14 ≠ 0 by decide), st3_comm (show 15 ≠ 0 by decide)]
    rfl
