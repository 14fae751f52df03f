theorem Run.snd {d P k h : Nat} {g r : mG} (hr : Run d P k h g r) : Sok (wds g P) (lns g P) P 0 0 := by
  have hP := hr.2.1.1.1
  exact (hr.cm.1.2.2.2.2.2.2.2.2 P (by rw [cl_toInt]; omega)).ok
theorem Run.post {d P k h : Nat} {g r : mG} (hr : Run d P k h g r) (hs : Sok (wds g P) (lns g P) P k h) (h7 : r 0 0 21 = Int32.ofInt 7) : Post (Int32.ofInt (-1)) g r := Or.inl ⟨rfl, h7, d, P, k, h, hr, hs⟩
theorem fireB {d P k h t ev q : Nat} {y x1 x2 x3 : Int32} {g r : mG} (hr : Run d P k h g r) (hs : Sok (wds g P) (lns g P) P k (h + 1)) (h12 : h < 12) (ht : t < 4) (hq : q < 16) (hev : ev < 3) (h7 : r 0 0 21 = Int32.ofInt 7)
    (h22 : 0 < ev → g 22 0 0 = x1 ∧ g 22 0 1 = x2 ∧ g 22 0 2 = x3) (h22' : ev = 0 → ∀ i, i < 3 → g 22 0 i = 0) (h23 : ev ≠ 1 → ∀ i, i < 3 → g 23 0 i = r 2 0 (48 * t + 3 * q + i)) (h23' : ev = 1 → ∀ i, i < 3 → g 23 0 i = 0) :
    ∃ x g' r', f_M_fire [.inr (1, 0), .inl (nI t), .inl (nI ev), .inl (nI q), .inl y] g = some (x, g') ∧ f_R_fire [.inr (0, 0), .inl (nI t), .inl (nI ev), .inl (nI q), .inl x1, .inl x2, .inl x3] (st3 (st3 r 15 0 (13 * d + h) y) 14 0 d (nI (h + 1))) = some r' ∧ Post x g' r' ∧ r' 0 0 23 = r 0 0 23 ∧ r' 0 0 24 = r 0 0 24 := by
  by_cases hb : g 30 0 (3 * t + ev) = Int32.ofInt (-1)
  · obtain ⟨g', r', a1, a2, a3, a4, a5, a6, a7, a8⟩ := fireN (q := q) (y := y) (x1 := x1) (x2 := x2) (x3 := x3) hr h12 ht hev hb
    refine ⟨_, g', r', a1, a2, a3.post ?_ (a6.trans h7), a7, a8⟩
    unfold wds lns
    rw [a4, a5]; exact hs
  · by_cases hd : d + 1 < 8
    · obtain ⟨P', g', r', a1, a2, a3, a4, a5, a6, a7, a8⟩ := fireT (q := q) (y := y) (x1 := x1) (x2 := x2) (x3 := x3) hr hs h12 hd ht hq hev hb h22 h22' h23 h23'
      exact ⟨_, g', r', a1, a2, a3.post a3.snd (a6.trans h7), a7, a8⟩
    · have e7 : d = 7 := by have := hr.1.1; omega
      subst e7
      obtain ⟨g', r', a1, a2, a3, a4, a5, a6, a7⟩ := fire8 (q := q) (y := y) (x1 := x1) (x2 := x2) (x3 := x3) hr ht hev hb
      exact ⟨_, g', r', a1, a2, Or.inr ⟨by rw [ti4]; omega, by rw [ti4]; omega, a5, a3, a4⟩, a6, a7⟩
/-- only frames change -/
def Fo (g g' r r' : mG) : Prop := (∀ x, x ≠ 10 → x ≠ 11 → x ≠ 12 → g' x = g x) ∧ (∀ x, x < 12 → r' x = r x)
theorem Fo.trans {g g' g'' r r' r'' : mG} (a : Fo g g' r r') (b : Fo g' g'' r' r'') : Fo g g'' r r'' := ⟨fun x p q s => (b.1 x p q s).trans (a.1 x p q s), fun x p => (b.2 x p).trans (a.2 x p)⟩
theorem Fo.sok {g g' r r' : mG} (a : Fo g g' r r') {P k h : Nat} (hs : Sok (wds g P) (lns g P) P k h) : Sok (wds g' P) (lns g' P) P k h := by
  unfold wds lns
  rw [a.1 24 (by decide) (by decide) (by decide), a.1 25 (by decide) (by decide) (by decide)]; exact hs
theorem Fo.s0 {g g' r r' : mG} (a : Fo g g' r r') {x : Int32} {i : Nat} (h : r 0 0 i = x) : r' 0 0 i = x := by
  rw [a.2 0 (by decide)]; exact h
theorem popF {d P k h : Nat} {g r : mG} (hr : Run d P k (h + 1) g r) : ∃ (x : Int32) (g' r' : mG), f_F_pop [.inr (10, d)] g = some (x, g') ∧ f_R_pop [.inr (0, 0)] r = some (x, r') ∧ Run d P k h g' r' ∧ Fo g g' r r' := by
  obtain ⟨x, g', r', p1, p2, p3⟩ := popB hr
  have h12 : h + 1 ≤ 12 := hr.2.1.1.2.2
  have e1 := s_F_pop (j := d) (h := h) hr.2.1.2.2.2.1 (by omega)
  have e2 := s_R_pop (d := d) (h := h) hr.1.2.2.1 hr.1.1 hr.2.2.1 (by omega)
  rw [p1] at e1
  rw [p2] at e2
  have q1 := (Prod.mk.inj (Option.some.inj e1)).2
  have q2 := (Prod.mk.inj (Option.some.inj e2)).2
  refine ⟨x, g', r', p1, p2, p3, fun a a1 _ _ => ?_, fun a a1 => ?_⟩
  · rw [q1, st3_a a1]
  · rw [q2, st3_a (by omega)]
theorem pushF {d P k h : Nat} {g r : mG} (x : Int32) (hr : Run d P k h g r) (h12 : h < 12) : ∃ (g' r' : mG), f_F_push [.inr (10, d), .inl x] g = some g' ∧ f_R_push [.inr (0, 0), .inl x] r = some r' ∧ Run d P k (h + 1) g' r' ∧ Fo g g' r r' := by
  obtain ⟨g', r', p1, p2, p3⟩ := pushB x hr h12
  have e1 := s_F_push (j := d) (h := h) (a := x) hr.2.1.2.2.2.1 h12
  have e2 := s_R_push (d := d) (h := h) (a := x) hr.1.2.2.1 hr.1.1 hr.2.2.1 (by omega)
  rw [p1] at e1
  rw [p2] at e2
  have q1 := Option.some.inj e1
  have q2 := Option.some.inj e2
  refine ⟨g', r', p1, p2, p3, fun a a1 a2 _ => ?_, fun a a1 => ?_⟩
  · rw [q1, st3_a a1, st3_a a2]
  · rw [q2, st3_a (by omega), st3_a (by omega)]
theorem Run.place {d P k h : Nat} {g r : mG} (k' : Nat) (hr : Run d P k h g r) (hk : k' ≤ 60) : Run d P k' h (st3 g 10 d 6 (nI k')) (st3 r 13 0 d (nI k')) := by
  obtain ⟨⟨d1, d2, d3, d4, d5⟩, ⟨⟨f0, f0', f0''⟩, f1, f2, f3, f4, f5, f6, f7, f8⟩, hh, hb, hc⟩ := hr
  refine ⟨⟨d1, d2, d3, d4, d5⟩, ⟨⟨f0, hk, f0''⟩, ?_, ⟨st3_same, st3_same⟩, ?_, f4, f5, f6, f7, ?_⟩, hh, fun j hj => ?_, hc⟩
  · rw [st3_k (by decide)]; exact f1
  · rw [st3_k (by decide)]; exact f3
  · rw [st3_k (by decide)]; exact f8
  · obtain ⟨P', k', h', hw⟩ := hb j hj
    exact ⟨P', k', h', hw.keep rfl rfl rfl (fun a _ _ => by funext i; unfold st3; rw [if_neg (fun q => by omega)]) (by rw [st3_k (by decide)]) rfl (by rw [st3_k (by omega)]) rfl rfl rfl (fun _ _ => rfl) (fun _ _ => rfl) (fun _ _ => rfl) (fun _ _ => rfl)⟩
theorem Run.used {d P k h : Nat} {g r : mG} (hr : Run d P k h g r) : Run d P k h (st3 g 20 0 0 (g 20 0 0 + Int32.ofInt 1)) (st3 r 0 0 24 (r 0 0 24 + Int32.ofInt 1)) := by
  obtain ⟨⟨d1, d2, d3, d4, d5⟩, hf, hh, hb, ⟨cL, cT, cG, ⟨n0, n1, n2, n3, n4⟩, cK⟩⟩ := hr
  refine ⟨⟨d1, d2, d3, d4, d5⟩, hf, hh, hb, cL, cT, cG, ⟨?_, n1, n2, n3, n4⟩, cK⟩
  rw [st3_same, st3_same, n0]
