/-! the reference fires a trigger -/
def nr (f h : Nat → Int32) (q b n : Nat) : Nat → Int32 := fun i => if q ≤ i ∧ i < q + n then h (b + (i - q)) else f i
theorem nr_0 {r : mG} {h : Nat → Int32} {q b : Nat} : stR r 18 0 (nr (r 18 0) h q b 0) = r := by
  funext a' j' k'
  unfold stR
  split
  · next z => obtain ⟨rfl, rfl⟩ := z; exact if_neg (fun z => by omega)
  · rfl
theorem nr_step {r : mG} {q b t : Nat} {f h : Nat → Int32} : st3 (stR r 18 0 (nr f h q b t)) 18 0 (q + t) (h (b + t)) = stR r 18 0 (nr f h q b (t + 1)) := by
  funext a' j' k'
  by_cases e : a' = 18 ∧ j' = 0
  · obtain ⟨rfl, rfl⟩ := e
    rw [stR_same]
    by_cases e2 : k' = q + t
    · subst e2; rw [st3_same]; refine ((if_pos ⟨by omega, by omega⟩).trans ?_).symm
      rw [show q + t - q = t by omega]
    · rw [st3_k e2, stR_same]
      unfold nr
      by_cases e3 : q ≤ k' ∧ k' < q + t
      · rw [if_pos e3, if_pos (by omega)]
      · rw [if_neg e3, if_neg (by omega)]
  · unfold st3 stR
    rw [if_neg (fun z => e ⟨z.1, z.2.2⟩), if_neg e, if_neg e]
theorem frL {t q n ev : Nat} {d e f x : Int32} {r : mG} (ht : t < 4) (hq : q < 16) (hn : n < 8) (hev : ev < 3) (hev1 : ev ≠ 1) :
    ∀ m u, u + m = 3 → ∃ b, rn_R_fire b 97 [some (.inr (0, 0)), some (.inl (nI t)), some (.inl (nI ev)), some (.inl (nI q)), some (.inl d), some (.inl e), some (.inl f), some (.inl x), some (.inl (nI (3 * n))), some (.inl (nI u))] [] (stR r 18 0 (nr (r 18 0) (r 2 0) (3 * n) (48 * t + 3 * q) u)) = some (none, stR r 18 0 (nr (r 18 0) (r 2 0) (3 * n) (48 * t + 3 * q) 3)) := by
  intro m
  induction m with
  | zero =>
    intro u hu
    have eu : u = 3 := by omega
    subst eu
    refine ⟨0 + 27, pxs_px (st := [97]) 27 97 _ _ _ ((y_R_fire_97 (rn_R_fire 0) (nI t) (nI ev) (nI q) d e f x (nI (3 * n)) (nI 3) _).trans ?_)⟩
    rw [if_neg (by decide)]
  | succ m ih =>
    intro u hu
    obtain ⟨b, hb⟩ := ih (u + 1) (by omega)
    obtain ⟨i1, i2⟩ := ix48R ht hq (show u < 3 by omega)
    refine ⟨b + 27, pxs_px (st := [97]) 27 97 _ _ _ ((y_R_fire_97 (rn_R_fire b) (nI t) (nI ev) (nI q) d e f x (nI (3 * n)) (nI u) _).trans ?_)⟩
    rw [if_pos (show nI u < Int32.ofInt 3 by rw [on3, nI_ltI (by omega) (by omega)]; omega), if_neg (show ¬ nI ev = Int32.ofInt 1 by rw [on1, nI_eq (by omega) (by omega)]; exact hev1), if_pos i1, i2, nI_add, if_pos (show inB (nI (3 * n + u)) 24 by rw [nI_inB (by omega)]; omega), nI_clamp (by omega), stR_a (show 2 ≠ 18 by decide), nr_step, on1, nI_add]
    exact hb
theorem fr1 {t q n : Nat} {d e f x : Int32} {r : mG} : ∃ b, rn_R_fire b 97 [some (.inr (0, 0)), some (.inl (nI t)), some (.inl (nI 1)), some (.inl (nI q)), some (.inl d), some (.inl e), some (.inl f), some (.inl x), some (.inl (nI (3 * n))), some (.inl (nI 0))] [] r = some (none, r) := by
  refine ⟨0 + 27, pxs_px (st := [97]) 27 97 _ _ _ ((y_R_fire_97 (rn_R_fire 0) (nI t) (nI 1) (nI q) d e f x (nI (3 * n)) (nI 0) r).trans ?_)⟩
  rw [if_pos (by decide), if_pos (by decide)]
