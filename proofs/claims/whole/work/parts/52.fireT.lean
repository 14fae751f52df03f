theorem frD_a {ev n b x : Nat} {C : mG} (h : x ≠ 18) : frD ev n b C x = C x := by
  unfold frD
  split
  · rfl
  · exact stR_a h
theorem frC_a {ev n x : Nat} {d e f : Int32} {B : mG} (h : x ≠ 17) : frC ev n d e f B x = B x := by
  unfold frC
  split
  · rw [st3_a h, st3_a h, st3_a h]
  · rfl
theorem frR_a {ev n b x : Nat} {p c d e f : Int32} {r : mG} (h : x ≠ 18) (h2 : x ≠ 17) : frR ev n b p c d e f r x = frB n p c r x := by
  unfold frR
  rw [frD_a h, frC_a h2]
theorem frR_17 {ev n b i : Nat} {p c d e f : Int32} {r : mG} : frR ev n b p c d e f r 17 0 i = frC ev n d e f (frB n p c r) 17 0 i := by
  unfold frR
  rw [frD_a (by decide)]
theorem frR_17o {ev n b i : Nat} {p c d e f : Int32} {r : mG} (h : i < 3 * n ∨ 3 * n + 3 ≤ i) : frR ev n b p c d e f r 17 0 i = frB n p c r 17 0 i := by
  rw [frR_17]
  unfold frC
  split
  · rw [st3_k (by omega), st3_k (by omega), st3_k (by omega)]
  · rfl
theorem frR_18o {ev n b i : Nat} {p c d e f : Int32} {r : mG} (h : i < 3 * n ∨ 3 * n + 3 ≤ i) : frR ev n b p c d e f r 18 0 i = frB n p c r 18 0 i := by
  unfold frR frD
  split
  · rw [frC_a (by decide)]
  · rw [stR_same, frC_a (show 18 ≠ 17 by decide)]
    exact if_neg (fun z => by omega)
theorem frR_18 {ev n b i : Nat} {p c d e f : Int32} {r : mG} (hi : i < 3) : frR ev n b p c d e f r 18 0 (3 * n + i) = if ev = 1 then frB n p c r 18 0 (3 * n + i) else frB n p c r 2 0 (b + i) := by
  unfold frR frD
  by_cases h : ev = 1
  · rw [if_pos h, if_pos h, frC_a (by decide)]
  · rw [if_neg h, if_neg h, stR_same, frC_a (show 18 ≠ 17 by decide), frC_a (show 2 ≠ 17 by decide)]
    refine (if_pos ⟨by omega, by omega⟩).trans ?_
    rw [show 3 * n + i - 3 * n = i by omega]
