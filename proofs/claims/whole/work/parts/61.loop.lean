/-! keeping, taking back, and the loop over the fuel -/
def cl (f h : Nat → Int32) (t : Nat) : Nat → Int32 := fun i => if i < t then h i else f i
theorem cl_0 {r : mG} {a : Nat} {h : Nat → Int32} : stR r a 0 (cl (r a 0) h 0) = r := by
  funext x y z
  by_cases e : x = a ∧ y = 0
  · obtain ⟨rfl, rfl⟩ := e
    rw [stR_same]; exact if_neg (by omega)
  · exact congrFun (if_neg e) z
theorem cl_step {r : mG} {a t : Nat} {f h : Nat → Int32} {x : Int32} (hx : x = h t) : st3 (stR r a 0 (cl f h t)) a 0 t x = stR r a 0 (cl f h (t + 1)) := by
  funext u v w
  by_cases e : u = a
  · subst e
    by_cases e2 : v = 0
    · subst e2
      rw [stR_same]
      by_cases e3 : w = t
      · subst e3; rw [st3_same, hx]; exact (if_pos (by omega)).symm
      · rw [st3_k e3, stR_same]
        unfold cl
        by_cases e4 : w < t
        · rw [if_pos e4, if_pos (by omega)]
        · rw [if_neg e4, if_neg (by omega)]
    · have q : ∀ F : Nat → Int32, stR r u 0 F u v = r u v := fun F => if_neg (fun (z : u = u ∧ v = 0) => e2 z.2)
      rw [st3_j e2, q, q]
  · rw [st3_a e, stR_a e, stR_a e]
theorem cl_eq {f f' h h' : Nat → Int32} {n : Nat} (hf : f = f') (hh : ∀ k, k < n → h k = h' k) : cl f h n = cl f' h' n := by
  funext i
  unfold cl
  by_cases e : i < n
  · rw [if_pos e, if_pos e, hh i e]
  · rw [if_neg e, if_neg e, hf]
theorem va_cl {f g : Nat → Int32} {n : Nat} : va_cpy f g 0 0 n = cl g f n := by
  funext i
  unfold va_cpy cl
  by_cases e : i < n
  · rw [if_pos ⟨by omega, by omega⟩, if_pos e, show 0 + (i - 0) = i by omega]
  · rw [if_neg (fun z => by omega), if_neg e]
theorem s_T_keep (g : mG) : f_T_keep [.inr (3, 0)] g = some (stR (stR g 28 0 (cl (g 28 0) (g 26 0) 192)) 29 0 (cl (g 29 0) (g 27 0) 4)) := by
  refine e_T_keep (n := 21) rfl ?_
  rw [x_T_keep, if_pos (by decide), if_pos (by decide), show (Int32.ofInt 0).toNatClampNeg = 0 by decide, nI_clamp (show 192 < 2 ^ 31 by omega), nI_clamp (show 4 < 2 ^ 31 by omega), va_cl, va_cl]
theorem s_T_takeBack (g : mG) : f_T_takeBack [.inr (3, 0)] g = some (stR (stR g 26 0 (cl (g 26 0) (g 28 0) 192)) 27 0 (cl (g 27 0) (g 29 0) 4)) := by
  refine e_T_takeBack (n := 21) rfl ?_
  rw [x_T_takeBack, if_pos (by decide), if_pos (by decide), show (Int32.ofInt 0).toNatClampNeg = 0 by decide, nI_clamp (show 192 < 2 ^ 31 by omega), nI_clamp (show 4 < 2 ^ 31 by omega), va_cl, va_cl]
section
variable {a b c : Int32} {r : mG}
theorem kL69 {res : mRes} {n0 : Nat} (hn : rn_R_call n0 69 [some (.inr (0, 0)), some (.inl a), some (.inl b), some (.inl c), some (.inl (nI 4))] [] (stR r 3 0 (cl (r 3 0) (r 1 0) 4)) = some res) :
    ∀ m t, t + m = 4 → ∃ n, rn_R_call n 69 [some (.inr (0, 0)), some (.inl a), some (.inl b), some (.inl c), some (.inl (nI t))] [] (stR r 3 0 (cl (r 3 0) (r 1 0) t)) = some res := by
  intro m
  induction m with
  | zero =>
    intro t ht
    obtain rfl : t = 4 := by omega
    exact ⟨n0, hn⟩
  | succ m ih =>
    intro t ht
    obtain ⟨n, h1⟩ := ih (t + 1) (by omega)
    refine ⟨n + 14, pxs_px (st := [69, 98, 145, 192, 221]) 14 69 _ _ _ ((y_R_call_69 (rn_R_call n) a b c (nI t) _).trans ?_)⟩
    have b4 : inB (nI t) 4 := by rw [nI_inB (by omega)]; omega
    rw [if_pos (show nI t < Int32.ofInt 4 by rw [on4, nI_ltI (by omega) (by omega)]; omega), if_pos b4, if_pos b4, nI_clamp (by omega), on1, nI_add, cl_step (by rw [stR_a (by decide)])]
    exact h1
theorem kL98 {res : mRes} {n0 : Nat} (hn : rn_R_call n0 98 [some (.inr (0, 0)), some (.inl a), some (.inl b), some (.inl c), some (.inl (nI 192))] [] (stR r 4 0 (cl (r 4 0) (r 2 0) 192)) = some res) :
    ∀ m t, t + m = 192 → ∃ n, rn_R_call n 98 [some (.inr (0, 0)), some (.inl a), some (.inl b), some (.inl c), some (.inl (nI t))] [] (stR r 4 0 (cl (r 4 0) (r 2 0) t)) = some res := by
  intro m
  induction m with
  | zero =>
    intro t ht
    obtain rfl : t = 192 := by omega
    exact ⟨n0, hn⟩
  | succ m ih =>
    intro t ht
    obtain ⟨n, h1⟩ := ih (t + 1) (by omega)
    refine ⟨n + 16, pxs_px (st := [69, 98, 145, 192, 221]) 16 98 _ _ _ ((y_R_call_98 (rn_R_call n) a b c (nI t) _).trans ?_)⟩
    have b4 : inB (nI t) 192 := by rw [nI_inB (by omega)]; omega
    rw [if_pos (show nI t < Int32.ofInt 192 by rw [on192, nI_ltI (by omega) (by omega)]; omega), if_pos b4, if_pos b4, nI_clamp (by omega), on1, nI_add, cl_step (by rw [stR_a (by decide)])]
    exact h1
theorem kL192 {res : mRes} {n0 : Nat} (hn : rn_R_call n0 192 [some (.inr (0, 0)), some (.inl a), some (.inl b), some (.inl c), some (.inl (nI 4))] [] (stR r 1 0 (cl (r 1 0) (r 3 0) 4)) = some res) :
    ∀ m t, t + m = 4 → ∃ n, rn_R_call n 192 [some (.inr (0, 0)), some (.inl a), some (.inl b), some (.inl c), some (.inl (nI t))] [] (stR r 1 0 (cl (r 1 0) (r 3 0) t)) = some res := by
  intro m
  induction m with
  | zero =>
    intro t ht
    obtain rfl : t = 4 := by omega
    exact ⟨n0, hn⟩
  | succ m ih =>
    intro t ht
    obtain ⟨n, h1⟩ := ih (t + 1) (by omega)
    refine ⟨n + 14, pxs_px (st := [69, 98, 145, 192, 221]) 14 192 _ _ _ ((y_R_call_192 (rn_R_call n) a b c (nI t) _).trans ?_)⟩
    have b4 : inB (nI t) 4 := by rw [nI_inB (by omega)]; omega
    rw [if_pos (show nI t < Int32.ofInt 4 by rw [on4, nI_ltI (by omega) (by omega)]; omega), if_pos b4, if_pos b4, nI_clamp (by omega), on1, nI_add, cl_step (by rw [stR_a (by decide)])]
    exact h1
theorem kL221 {res : mRes} {n0 : Nat} (hn : rn_R_call n0 221 [some (.inr (0, 0)), some (.inl a), some (.inl b), some (.inl c), some (.inl (nI 192))] [] (stR r 2 0 (cl (r 2 0) (r 4 0) 192)) = some res) :
    ∀ m t, t + m = 192 → ∃ n, rn_R_call n 221 [some (.inr (0, 0)), some (.inl a), some (.inl b), some (.inl c), some (.inl (nI t))] [] (stR r 2 0 (cl (r 2 0) (r 4 0) t)) = some res := by
  intro m
  induction m with
  | zero =>
    intro t ht
    obtain rfl : t = 192 := by omega
    exact ⟨n0, hn⟩
  | succ m ih =>
    intro t ht
    obtain ⟨n, h1⟩ := ih (t + 1) (by omega)
    refine ⟨n + 14, pxs_px (st := [69, 98, 145, 192, 221]) 14 221 _ _ _ ((y_R_call_221 (rn_R_call n) a b c (nI t) _).trans ?_)⟩
    have b4 : inB (nI t) 192 := by rw [nI_inB (by omega)]; omega
    rw [if_pos (show nI t < Int32.ofInt 192 by rw [on192, nI_ltI (by omega) (by omega)]; omega), if_pos b4, if_pos b4, nI_clamp (by omega), on1, nI_add, cl_step (by rw [stR_a (by decide)])]
    exact h1
/-- the reference's tables, taken back -/
def bkR (r : mG) : mG := stR (stR r 1 0 (cl (r 1 0) (r 3 0) 4)) 2 0 (cl (r 2 0) (r 4 0) 192)
def bkC (g : mG) : mG := stR (stR g 26 0 (cl (g 26 0) (g 28 0) 192)) 27 0 (cl (g 27 0) (g 29 0) 4)
theorem backR : ∃ n, rn_R_call n 192 [some (.inr (0, 0)), some (.inl a), some (.inl b), some (.inl c), some (.inl (Int32.ofInt 0))] [] r = some (some (.inl (r 0 0 21)), bkR r) := by
  obtain ⟨r1, hr1⟩ : ∃ r1, r1 = stR r 1 0 (cl (r 1 0) (r 3 0) 4) := ⟨_, rfl⟩
  have h221 : rn_R_call (0 + 14) 221 [some (.inr (0, 0)), some (.inl a), some (.inl b), some (.inl c), some (.inl (nI 192))] [] (stR r1 2 0 (cl (r1 2 0) (r1 4 0) 192)) = some (some (.inl (r 0 0 21)), bkR r) := by
    refine pxs_px (st := [69, 98, 145, 192, 221]) 14 221 _ _ _ ((y_R_call_221 (rn_R_call 0) a b c (nI 192) _).trans ?_)
    rw [if_neg (show ¬ nI 192 < Int32.ofInt 192 by rw [on192, nI_ltI (by omega) (by omega)]; omega), hr1]
    rfl
  obtain ⟨n1, h1⟩ := kL221 h221 192 0 rfl
  rw [cl_0] at h1
  have h192 : rn_R_call (n1 + 14) 192 [some (.inr (0, 0)), some (.inl a), some (.inl b), some (.inl c), some (.inl (nI 4))] [] (stR r 1 0 (cl (r 1 0) (r 3 0) 4)) = some (some (.inl (r 0 0 21)), bkR r) := by
    refine pxs_px (st := [69, 98, 145, 192, 221]) 14 192 _ _ _ ((y_R_call_192 (rn_R_call n1) a b c (nI 4) _).trans ?_)
    rw [if_neg (show ¬ nI 4 < Int32.ofInt 4 by rw [on4, nI_ltI (by omega) (by omega)]; omega), ← hr1, on0]
    exact h1
  obtain ⟨n2, h2⟩ := kL192 h192 4 0 rfl
  rw [cl_0] at h2
  rw [on0]
  exact ⟨n2, h2⟩
end
theorem backB {g r : mG} (hc : Cm g r) (hm : InvM g) : Inv (bkC g) (bkR r) := by
  obtain ⟨cL, ⟨t1, t2, t3⟩, cG, cN, ⟨k1, k2, k3⟩⟩ := hc
  refine ⟨cL, ⟨?_, ?_, ?_⟩, cG, cN, hm⟩
  · show cl (g 26 0) (g 28 0) 192 = cl (r 2 0) (r 4 0) 192
    exact cl_eq t1 k1
  · show cl (g 27 0) (g 29 0) 4 = cl (r 1 0) (r 3 0) 4
    exact cl_eq t2 k2
  · show szOk (cl (g 27 0) (g 29 0) 4)
    intro t ht
    rw [show cl (g 27 0) (g 29 0) 4 t = g 29 0 t from if_pos ht]
    exact k3 t ht
theorem Cm.inv {g r : mG} (hc : Cm g r) (hm : InvM g) : Inv g r := ⟨hc.1, hc.2.1, hc.2.2.1, hc.2.2.2.1, hm⟩
section
variable {a b c a' b' c' e x : Int32} {u : Option mV} {g r : mG}
theorem endR (hx : r 0 0 21 = x) (h7 : ¬ x = Int32.ofInt 7) (hz : ¬ x = 0) : ∃ n, rn_R_call n 145 [some (.inr (0, 0)), some (.inl a), some (.inl b), some (.inl c), u] [] r = some (some (.inl x), bkR r) := by
  obtain ⟨n, h1⟩ := backR (a := a) (b := b) (c := c) (r := r)
  refine ⟨n + 14, pxs_px (st := [69, 98, 145, 192, 221]) 14 145 _ _ _ ((y_R_call_145 (rn_R_call n) a b c u r).trans ?_)⟩
  rw [hx] at h1
  rw [hx, if_neg h7, if_neg hz]
  exact h1
theorem endB (h0 : 0 ≤ x.toInt) (h7 : x.toInt < 7) (hx : r 0 0 21 = x) (hc : Cm g r) (hm : InvM g) : ∃ n n' g' r', rn_M_perform n 50 [some (.inr (1, 0)), some (.inl a), some (.inl b), some (.inl c), some (.inl x), some (.inl e)] [] g = some (some (.inl x), g') ∧ rn_R_call n' 145 [some (.inr (0, 0)), some (.inl a'), some (.inl b'), some (.inl c'), u] [] r = some (some (.inl x), r') ∧ Inv g' r' := by
  have hx1 : ¬ x = Int32.ofInt (-1) := by rw [i_eq, tim1]; omega
  have hx7 : ¬ x = Int32.ofInt 7 := by rw [i_eq, ti7]; omega
  by_cases hz : x = 0
  · refine ⟨0 + 19, 0 + 14, g, r, pxs_px (st := [50]) 19 50 _ _ _ ((y_M_perform_50 (rn_M_perform 0) a b c x e g).trans ?_), pxs_px (st := [69, 98, 145, 192, 221]) 14 145 _ _ _ ((y_R_call_145 (rn_R_call 0) a' b' c' u r).trans ?_), hc.inv hm⟩
    · by_cases he : 0 < e
      · rw [if_pos he, if_neg hx1, if_neg hx1, if_pos hz]
      · rw [if_neg he, if_neg hx1, if_pos hz]
    · rw [hx, if_neg hx7, if_pos hz, hz, of0]
  · obtain ⟨n', h1⟩ := endR (a := a') (b := b') (c := c') (u := u) hx hx7 hz
    refine ⟨0 + 19, n', bkC g, bkR r, pxs_px (st := [50]) 19 50 _ _ _ ((y_M_perform_50 (rn_M_perform 0) a b c x e g).trans ?_), h1, backB hc hm⟩
    by_cases he : 0 < e
    · rw [if_pos he, if_neg hx1, if_neg hx1, if_neg hz, s_T_takeBack]
      rfl
    · rw [if_neg he, if_neg hx1, if_neg hz, s_T_takeBack]
      rfl
theorem loopB : ∀ (m us lim : Nat) (x : Int32) (g r : mG), Post x g r → r 0 0 24 = nI us → r 0 0 23 = nI lim → us + m = lim → lim ≤ 2000 → ∃ y n n' g' r', rn_M_perform n 50 [some (.inr (1, 0)), some (.inl a), some (.inl b), some (.inl c), some (.inl x), some (.inl (nI m))] [] g = some (some (.inl y), g') ∧ rn_R_call n' 145 [some (.inr (0, 0)), some (.inl a'), some (.inl b'), some (.inl c'), u] [] r = some (some (.inl y), r') ∧ Inv g' r' := by
  intro m
  induction m with
  | zero =>
    intro us lim x g r hp h24 h23 hl hl2
    rcases hp with ⟨hx, h7, d, P, k, h, hr, hs⟩ | ⟨p1, p2, p3, p4, p5⟩
    · obtain ⟨n', h1⟩ := endR (a := a') (b := b') (c := c') (u := u) (r := st3 r 0 0 21 (Int32.ofInt 3)) (x := Int32.ofInt 3) st3_same (by decide) (by decide)
      refine ⟨Int32.ofInt 3, 0 + 19, n' + 14, bkC g, bkR (st3 r 0 0 21 (Int32.ofInt 3)), pxs_px (st := [50]) 19 50 _ _ _ ((y_M_perform_50 (rn_M_perform 0) a b c x (nI 0) g).trans ?_), pxs_px (st := [69, 98, 145, 192, 221]) 14 145 _ _ _ ((y_R_call_145 (rn_R_call n') a' b' c' u r).trans ?_), backB hr.cm.s21 hr.im⟩
      · rw [if_neg (by decide), if_pos hx, if_neg (by decide), s_T_takeBack]
        rfl
      · rw [if_pos h7, if_pos (show r 0 0 24 = r 0 0 23 by rw [h24, h23]; congr 1)]
        exact h1
    · obtain ⟨n, n', g', r', q1, q2, q3⟩ := endB (a := a) (b := b) (c := c) (a' := a') (b' := b') (c' := c') (u := u) (e := nI 0) p1 p2 p3 p4 p5
      exact ⟨x, n, n', g', r', q1, q2, q3⟩
  | succ m ih =>
    intro us lim x g r hp h24 h23 hl hl2
    rcases hp with ⟨hx, h7, d, P, k, h, hr, hs⟩ | ⟨p1, p2, p3, p4, p5⟩
    · obtain ⟨x', g1, r1, s1, s2, s3, s4, s5⟩ := stepB hr hs h7
      obtain ⟨y, n, n', g', r', q1, q2, q3⟩ := ih (us + 1) lim x' g1 r1 s3 (by rw [s5, h24, on1, nI_add]) (by rw [s4, h23]) (by omega) hl2
      refine ⟨y, n + 19, n' + 14, g', r', pxs_px (st := [50]) 19 50 _ _ _ ((y_M_perform_50 (rn_M_perform n) a b c x (nI (m + 1)) g).trans ?_), pxs_px (st := [69, 98, 145, 192, 221]) 14 145 _ _ _ ((y_R_call_145 (rn_R_call n') a' b' c' u r).trans ?_), q3⟩
      · rw [if_pos (show (0 : Int32) < nI (m + 1) by rw [show (0 : Int32) = nI 0 from rfl, nI_ltI (by omega) (by omega)]; omega), if_pos hx, if_pos (by decide), if_pos (by decide), show (Int32.ofInt 0).toNatClampNeg = 0 by decide, s1]
        simp only [Option.bind_some]
        rw [show nI (m + 1) + Int32.ofInt (-1) = nI m by rw [i_eq, ti_add (by rw [nI_toInt (by omega), tim1]; omega) (by rw [nI_toInt (by omega), tim1]; omega), nI_toInt (by omega), tim1, nI_toInt (by omega)]; omega]
        exact q1
      · rw [if_pos h7, if_neg (show ¬ r 0 0 24 = r 0 0 23 by rw [h24, h23, nI_eqN (by omega) (by omega)]; omega), s2]
        simp only [Option.bind_some]
        exact q2
    · obtain ⟨n, n', g', r', q1, q2, q3⟩ := endB (a := a) (b := b) (c := c) (a' := a') (b' := b') (c' := c') (u := u) (e := nI (m + 1)) p1 p2 p3 p4 p5
      exact ⟨x, n, n', g', r', q1, q2, q3⟩
end
