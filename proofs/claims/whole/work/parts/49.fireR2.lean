def frC (ev n : Nat) (d e f : Int32) (B : mG) : mG := if 0 < ev then st3 (st3 (st3 B 17 0 (3 * n) d) 17 0 (3 * n + 1) e) 17 0 (3 * n + 2) f else B
def frD (ev n b : Nat) (C : mG) : mG := if ev = 1 then C else stR C 18 0 (nr (C 18 0) (C 2 0) (3 * n) b 3)
def frB (n : Nat) (p c : Int32) (r : mG) : mG := st3 (enR n p c (Int32.ofInt 1) (st3 r 0 0 27 (r 0 0 27 + Int32.ofInt 1))) 0 0 26 (r 0 0 26 + Int32.ofInt 1)
def frR (ev n b : Nat) (p c d e f : Int32) (r : mG) : mG := frD ev n b (frC ev n d e f (frB n p c r))
section
variable {t q ev : Nat} {d e f : Int32} {r : mG}
theorem ix3N (ht : t < 4) (hev : ev < 3) : inB (Int32.ofInt 3 * nI t + nI ev) 12 ∧ (Int32.ofInt 3 * nI t + nI ev).toNatClampNeg = 3 * t + ev := by
  rw [on3, pk_mul, nI_add, nI_inB (by omega), nI_clamp (by omega)]
  exact ⟨by omega, rfl⟩
theorem s_R_fire0 (ht : t < 4) (hev : ev < 3) (hb : r 5 0 (3 * t + ev) < 0) : f_R_fire [.inr (0, 0), .inl (nI t), .inl (nI ev), .inl (nI q), .inl d, .inl e, .inl f] r = some (st3 r 0 0 27 (r 0 0 27 + Int32.ofInt 1)) := by
  obtain ⟨i1, i2⟩ := ix3N ht hev
  refine e_R_fire (n := 0 + 60) rfl (pxs_px (st := [97]) 60 0 _ _ _ ((y_R_fire_0 (rn_R_fire 0) (nI t) (nI ev) (nI q) d e f r).trans ?_))
  rw [if_pos i1, i2, if_pos hb]
theorem s_R_fire8 (ht : t < 4) (hev : ev < 3) (hb : ¬ r 5 0 (3 * t + ev) < 0) (h8 : r 0 0 12 = nI 8) : f_R_fire [.inr (0, 0), .inl (nI t), .inl (nI ev), .inl (nI q), .inl d, .inl e, .inl f] r = some (st3 (st3 r 0 0 27 (r 0 0 27 + Int32.ofInt 1)) 0 0 21 (Int32.ofInt 4)) := by
  obtain ⟨i1, i2⟩ := ix3N ht hev
  refine e_R_fire (n := 0 + 60) rfl (pxs_px (st := [97]) 60 0 _ _ _ ((y_R_fire_0 (rn_R_fire 0) (nI t) (nI ev) (nI q) d e f r).trans ?_))
  have h8' : (st3 r 0 0 27 (r 0 0 27 + Int32.ofInt 1)) 0 0 12 = nI 8 := by rw [st3_k (by decide)]; exact h8
  rw [if_pos i1, i2, if_neg hb, s_R_enter8 h8', Option.bind_some, if_pos of0]
theorem s_R_fire {n : Nat} (ht : t < 4) (hq : q < 16) (hev : ev < 3) (hb : ¬ r 5 0 (3 * t + ev) < 0) (hn : n < 8) (h8 : r 0 0 12 = nI n) : f_R_fire [.inr (0, 0), .inl (nI t), .inl (nI ev), .inl (nI q), .inl d, .inl e, .inl f] r = some (frR ev n (48 * t + 3 * q) (r 5 0 (3 * t + ev)) (nI q) d e f r) := by
  obtain ⟨i1, i2⟩ := ix3N ht hev
  have h8' : (st3 r 0 0 27 (r 0 0 27 + Int32.ofInt 1)) 0 0 12 = nI n := by rw [st3_k (by decide)]; exact h8
  have eI : Int32.ofInt 3 * (nI (n + 1) - Int32.ofInt 1) = nI (3 * n) := by rw [on1, nS (by omega), on3, pk_mul]
  have lp : ∀ C : mG, ∃ b, rn_R_fire b 97 [some (.inr (0, 0)), some (.inl (nI t)), some (.inl (nI ev)), some (.inl (nI q)), some (.inl d), some (.inl e), some (.inl f), some (.inl (r 5 0 (3 * t + ev))), some (.inl (nI (3 * n))), some (.inl (nI 0))] [] C = some (none, frD ev n (48 * t + 3 * q) C) := by
    intro C
    by_cases e1 : ev = 1
    · subst e1
      rw [show frD 1 n (48 * t + 3 * q) C = C from if_pos rfl]
      exact fr1
    · rw [show frD ev n (48 * t + 3 * q) C = _ from if_neg e1]
      obtain ⟨b, hb⟩ := frL (d := d) (e := e) (f := f) (x := r 5 0 (3 * t + ev)) (r := C) ht hq hn hev e1 3 0 rfl
      rw [nr_0] at hb
      exact ⟨b, hb⟩
  obtain ⟨b, hb2⟩ := lp (frC ev n d e f (frB n (r 5 0 (3 * t + ev)) (nI q) r))
  refine e_R_fire (n := b + 60) rfl (pxs_px (st := [97]) 60 0 _ _ _ ((y_R_fire_0 (rn_R_fire b) (nI t) (nI ev) (nI q) d e f r).trans ?_))
  have e12 : ∀ z : Int32, enR n z (nI q) (Int32.ofInt 1) (st3 r 0 0 27 (r 0 0 27 + Int32.ofInt 1)) 0 0 12 = nI (n + 1) := fun _ => rfl
  have e26 : ∀ z : Int32, enR n z (nI q) (Int32.ofInt 1) (st3 r 0 0 27 (r 0 0 27 + Int32.ofInt 1)) 0 0 26 = r 0 0 26 := fun _ => rfl
  rw [if_pos i1, i2, if_neg hb, s_R_enter h8' hn (Or.inr of1), Option.bind_some, if_neg (show ¬ Int32.ofInt 1 = 0 by decide)]
  simp only [e12, e26, eI]
  by_cases e0 : 0 < ev
  · rw [show frC ev n d e f (frB n (r 5 0 (3 * t + ev)) (nI q) r) = _ from if_pos e0] at hb2
    rw [if_pos (show (0 : Int32) < nI ev by rw [show (0 : Int32) = nI 0 from rfl, nI_ltI (by omega) (by omega)]; exact e0), if_pos (show inB (nI (3 * n)) 24 by rw [nI_inB (by omega)]; omega), on1, on2, nI_add, nI_add, if_pos (show inB (nI (3 * n + 1)) 24 by rw [nI_inB (by omega)]; omega), if_pos (show inB (nI (3 * n + 2)) 24 by rw [nI_inB (by omega)]; omega), nI_clamp (by omega), nI_clamp (by omega), nI_clamp (by omega), on0]
    rw [show frR ev n (48 * t + 3 * q) (r 5 0 (3 * t + ev)) (nI q) d e f r = frD ev n (48 * t + 3 * q) (frC ev n d e f (frB n (r 5 0 (3 * t + ev)) (nI q) r)) from rfl, show frC ev n d e f (frB n (r 5 0 (3 * t + ev)) (nI q) r) = _ from if_pos e0]
    exact hb2
  · rw [show frC ev n d e f (frB n (r 5 0 (3 * t + ev)) (nI q) r) = _ from if_neg e0] at hb2
    rw [if_neg (show ¬ (0 : Int32) < nI ev by rw [show (0 : Int32) = nI 0 from rfl, nI_ltI (by omega) (by omega)]; exact e0), on0]
    rw [show frR ev n (48 * t + 3 * q) (r 5 0 (3 * t + ev)) (nI q) d e f r = frD ev n (48 * t + 3 * q) (frC ev n d e f (frB n (r 5 0 (3 * t + ev)) (nI q) r)) from rfl, show frC ev n d e f (frB n (r 5 0 (3 * t + ev)) (nI q) r) = _ from if_neg e0]
    exact hb2
end
