/-! a frame is opened -/
def zr (f : Nat → Int32) (q n : Nat) : Nat → Int32 := fun i => if q ≤ i ∧ i < q + n then 0 else f i
theorem zr_in {f : Nat → Int32} {q n i : Nat} (h1 : q ≤ i) (h2 : i < q + n) : zr f q n i = 0 := if_pos ⟨h1, h2⟩
theorem zr_out {f : Nat → Int32} {q n i : Nat} (h : i < q ∨ q + n ≤ i) : zr f q n i = f i := if_neg (fun z => by omega)
theorem stR_same {g : mG} {a j : Nat} {f : Nat → Int32} : stR g a j f a j = f := by
  unfold stR; rw [if_pos ⟨rfl, rfl⟩]
theorem zr_step {r : mG} {a q t : Nat} {f : Nat → Int32} {x : Int32} (hx : x = 0) : st3 (stR r a 0 (zr f q t)) a 0 (q + t) x = stR r a 0 (zr f q (t + 1)) := by
  subst hx
  funext a' j' k'
  by_cases e : a' = a ∧ j' = 0
  · obtain ⟨rfl, rfl⟩ := e
    rw [stR_same]
    by_cases e2 : k' = q + t
    · subst e2; rw [st3_same, zr_in (by omega) (by omega)]
    · rw [st3_k e2, stR_same]
      unfold zr
      by_cases e3 : q ≤ k' ∧ k' < q + t
      · rw [if_pos e3, if_pos (by omega)]
      · rw [if_neg e3, if_neg (by omega)]
  · unfold st3 stR
    rw [if_neg (fun z => e ⟨z.1, z.2.2⟩), if_neg (fun z => e (by first | exact z | exact ⟨z.1, z.2⟩ | exact ⟨z.2, z.1⟩)), if_neg (fun z => e (by first | exact z | exact ⟨z.1, z.2⟩ | exact ⟨z.2, z.1⟩))]
theorem zr_0 {r : mG} {a q : Nat} : stR r a 0 (zr (r a 0) q 0) = r := by
  funext a' j' k'
  unfold stR
  split
  · next z => obtain ⟨rfl, rfl⟩ := z; exact zr_out (by omega)
  · rfl
theorem ixR0 {m d M : Nat} (h : m * d < M) (hM : M < 1000) : inB (nI m * nI d) M ∧ (nI m * nI d).toNatClampNeg = m * d := by
  rw [pk_mul, nI_inB (by omega), nI_clamp (by omega)]
  exact ⟨h, rfl⟩
section
variable {d : Nat} {a b c : Int32} {r : mG}
theorem en59 (h0 : r 0 0 12 = nI d) (hd : d < 8) (n : Nat) (res : mRes) (hn : rn_R_enter n 104 [some (.inr (0, 0)), some (.inl a), some (.inl b), some (.inl c), some (.inl (Int32.ofInt 0))] [] (st3 (stR r 16 0 (zr (r 16 0) (8 * d) 8)) 16 0 (8 * d) b) = some res) :
    ∀ m t, t + m = 8 → ∃ n', rn_R_enter n' 59 [some (.inr (0, 0)), some (.inl a), some (.inl b), some (.inl c), some (.inl (nI t))] [] (stR r 16 0 (zr (r 16 0) (8 * d) t)) = some res := by
  intro m
  induction m with
  | zero =>
    intro t ht
    have e : t = 8 := by omega
    subst e
    obtain ⟨i1, i2⟩ := ixR0 (m := 8) (d := d) (M := 64) (by omega) (by omega)
    refine ⟨n + 16, pxs_px (st := [59, 104]) 16 59 _ _ _ ?_⟩
    refine (y_R_enter_59 (rn_R_enter n) a b c (nI 8) _).trans ?_
    rw [if_neg (show ¬ nI 8 < Int32.ofInt 8 by decide), stR_a (show 0 ≠ 16 by decide), h0, on8, if_pos i1, i2]
    exact hn
  | succ m ih =>
    intro t ht
    obtain ⟨n', hn'⟩ := ih (t + 1) (by omega)
    obtain ⟨i1, i2⟩ := ixR (m := 8) (d := d) (i := t) (M := 64) (by omega) (by omega) (by omega) (by omega)
    refine ⟨n' + 16, pxs_px (st := [59, 104]) 16 59 _ _ _ ?_⟩
    refine (y_R_enter_59 (rn_R_enter n') a b c (nI t) _).trans ?_
    rw [if_pos (show nI t < Int32.ofInt 8 by rw [on8, nI_ltI (by omega) (by omega)]; omega), stR_a (show 0 ≠ 16 by decide), h0, on8, if_pos i1, i2, zr_step of0, on1, nA (by omega)]
    exact hn'
theorem en104 (h0 : r 0 0 12 = nI d) (hd : d < 8) : ∀ m t, t + m = 3 → ∃ n', rn_R_enter n' 104 [some (.inr (0, 0)), some (.inl a), some (.inl b), some (.inl c), some (.inl (nI t))] [] (stR (stR r 17 0 (zr (r 17 0) (3 * d) t)) 18 0 (zr (r 18 0) (3 * d) t)) =
    some (some (.inl (Int32.ofInt 1)), st3 (st3 (stR (stR r 17 0 (zr (r 17 0) (3 * d) 3)) 18 0 (zr (r 18 0) (3 * d) 3)) 0 0 12 (nI (d + 1))) 0 0 25 (if r 0 0 25 < nI (d + 1) then nI (d + 1) else r 0 0 25)) := by
  intro m
  induction m with
  | zero =>
    intro t ht
    have e : t = 3 := by omega
    subst e
    refine ⟨0 + 26, pxs_px (st := [59, 104]) 26 104 _ _ _ ?_⟩
    refine (y_R_enter_104 (rn_R_enter 0) a b c (nI 3) _).trans ?_
    rw [if_neg (show ¬ nI 3 < Int32.ofInt 3 by decide), stR_a (show 0 ≠ 18 by decide), stR_a (show 0 ≠ 17 by decide), h0, on1, nA (by omega)]
    simp only [show isB (nI 1) = True from on1 ▸ isB_1, if_true]
    by_cases hc : r 0 0 25 < nI (d + 1)
    · rw [if_pos hc, if_pos hc]
    · rw [if_neg hc, if_neg hc]
  | succ m ih =>
    intro t ht
    obtain ⟨n', hn'⟩ := ih (t + 1) (by omega)
    obtain ⟨i1, i2⟩ := ixR (m := 3) (d := d) (i := t) (M := 24) (by omega) (by omega) (by omega) (by omega)
    refine ⟨n' + 26, pxs_px (st := [59, 104]) 26 104 _ _ _ ?_⟩
    refine (y_R_enter_104 (rn_R_enter n') a b c (nI t) _).trans ?_
    rw [if_pos (show nI t < Int32.ofInt 3 by rw [on3, nI_ltI (by omega) (by omega)]; omega), stR_a (show 0 ≠ 18 by decide), stR_a (show 0 ≠ 17 by decide), h0, on3, if_pos i1, if_pos i1, i2, on1, nA (by omega)]
    have e1 : st3 (st3 (stR (stR r 17 0 (zr (r 17 0) (3 * d) t)) 18 0 (zr (r 18 0) (3 * d) t)) 17 0 (3 * d + t) (Int32.ofInt 0)) 18 0 (3 * d + t) (Int32.ofInt 0) = stR (stR r 17 0 (zr (r 17 0) (3 * d) (t + 1))) 18 0 (zr (r 18 0) (3 * d) (t + 1)) := by
      have c1 : st3 (stR (stR r 17 0 (zr (r 17 0) (3 * d) t)) 18 0 (zr (r 18 0) (3 * d) t)) 17 0 (3 * d + t) (Int32.ofInt 0) = stR (st3 (stR r 17 0 (zr (r 17 0) (3 * d) t)) 17 0 (3 * d + t) (Int32.ofInt 0)) 18 0 (zr (r 18 0) (3 * d) t) := by
        funext a' j' k'
        unfold st3 stR
        by_cases q : a' = 18 ∧ j' = 0
        · rw [if_neg (fun z => by omega), if_pos q, if_pos q]
        · rw [if_neg q, if_neg q]
      rw [c1, zr_step of0, zr_step of0]
    rw [e1]
    exact hn'
/-- the reference's memory when a frame is opened -/
def enM (d : Nat) (a c : Int32) (r : mG) : mG := st3 (st3 (st3 (st3 r 12 0 d a) 13 0 d (Int32.ofInt 0)) 14 0 d (Int32.ofInt 0)) 19 0 d c
def enN (d : Nat) (a b c : Int32) (r : mG) : mG := st3 (stR (enM d a c r) 16 0 (zr (r 16 0) (8 * d) 8)) 16 0 (8 * d) b
def enR (d : Nat) (a b c : Int32) (r : mG) : mG := st3 (st3 (stR (stR (enN d a b c r) 17 0 (zr (r 17 0) (3 * d) 3)) 18 0 (zr (r 18 0) (3 * d) 3)) 0 0 12 (nI (d + 1))) 0 0 25 (if r 0 0 25 < nI (d + 1) then nI (d + 1) else r 0 0 25)
theorem s_R_enter (h0 : r 0 0 12 = nI d) (hd : d < 8) (hc : isB c) : f_R_enter [.inr (0, 0), .inl a, .inl b, .inl c] r = some (Int32.ofInt 1, enR d a b c r) := by
  have m0 : (enM d a c r) 0 0 12 = nI d := h0
  have n0 : (enN d a b c r) 0 0 12 = nI d := h0
  obtain ⟨n1, h1⟩ := en104 (a := a) (b := b) (c := c) n0 hd 3 0 rfl
  rw [zr_0, zr_0] at h1
  obtain ⟨n2, h2⟩ := en59 (a := a) (b := b) (c := c) m0 hd n1 _ (on0 ▸ h1) 8 0 rfl
  rw [zr_0] at h2
  refine e_R_enter (n := n2 + 31) rfl (pxs_px (st := [59, 104]) 31 0 _ _ _ ?_)
  refine (y_R_enter_0 (rn_R_enter n2) a b c r).trans ?_
  have b8 : inB (nI d) 8 := by rw [nI_inB (by omega)]; exact hd
  rw [h0, if_neg (show ¬ nI d = Int32.ofInt 8 by rw [on8, nI_eq (by omega) (by omega)]; omega), if_pos b8, if_pos b8, if_pos b8, if_pos b8, if_pos hc, nI_clamp (by omega), on0]
  exact h2
theorem s_R_enter8 (h0 : r 0 0 12 = nI 8) : f_R_enter [.inr (0, 0), .inl a, .inl b, .inl c] r = some (Int32.ofInt 0, st3 r 0 0 21 (Int32.ofInt 4)) := by
  refine e_R_enter (n := 0 + 31) rfl (pxs_px (st := [59, 104]) 31 0 _ _ _ ?_)
  refine (y_R_enter_0 (rn_R_enter 0) a b c r).trans ?_
  rw [h0, if_pos on8.symm]
  simp only [isB_0, if_true]
end
