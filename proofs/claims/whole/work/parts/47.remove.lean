/-! a row is taken out -/
def sh (f : Nat → Int32) (q n : Nat) : Nat → Int32 := fun i => if q ≤ i ∧ i < q + n then f (i + 3) else f i
theorem sh_0 {r : mG} {q : Nat} : stR r 2 0 (sh (r 2 0) q 0) = r := by
  funext a' j' k'
  unfold stR
  split
  · next z => obtain ⟨rfl, rfl⟩ := z; exact if_neg (fun z => by omega)
  · rfl
theorem sh_step {r : mG} {q t : Nat} {f : Nat → Int32} : st3 (stR r 2 0 (sh f q t)) 2 0 (q + t) (f (q + t + 3)) = stR r 2 0 (sh f q (t + 1)) := by
  funext a' j' k'
  by_cases e : a' = 2 ∧ j' = 0
  · obtain ⟨rfl, rfl⟩ := e
    rw [stR_same]
    by_cases e2 : k' = q + t
    · subst e2; rw [st3_same]; exact (if_pos ⟨by omega, by omega⟩).symm
    · rw [st3_k e2, stR_same]
      unfold sh
      by_cases e3 : q ≤ k' ∧ k' < q + t
      · rw [if_pos e3, if_pos (by omega)]
      · rw [if_neg e3, if_neg (by omega)]
  · unfold st3 stR
    rw [if_neg (fun z => e ⟨z.1, z.2.2⟩), if_neg e, if_neg e]
theorem delL {t q s : Nat} {x y d e f : Int32} {r r' : mG} (ht : t < 4) (hq : q < s) (hs2 : s ≤ 16) (hs : r 1 0 t = nI (s - 1)) (hf : f_R_fire [.inr (0, 0), .inl (nI t), .inl (Int32.ofInt 1), .inl x, .inl d, .inl e, .inl f] (stR r 2 0 (sh (r 2 0) (48 * t + 3 * q) (3 * (s - q - 1)))) = some r') :
    ∀ m u, u + m = 3 * (s - q - 1) → ∃ n, rn_R_delete n 83 [some (.inr (0, 0)), some (.inl (nI t)), some (.inl x), some (.inl y), some (.inl d), some (.inl e), some (.inl f), some (.inl (nI (48 * t + 3 * q + u)))] [] (stR r 2 0 (sh (r 2 0) (48 * t + 3 * q) u)) = some (none, r') := by
  have b4 : inB (nI t) 4 := by rw [nI_inB (by omega)]; exact ht
  have el : Int32.ofInt 48 * nI t + Int32.ofInt 3 * nI (s - 1) = nI (48 * t + 3 * (s - 1)) := by rw [on48, on3, pk_mul, pk_mul, nI_add]
  intro m
  induction m with
  | zero =>
    intro u hu
    have eu : u = 3 * (s - q - 1) := by omega
    subst eu
    refine ⟨0 + 25, pxs_px (st := [83]) 25 83 _ _ _ ((y_R_delete_83 (rn_R_delete 0) (nI t) x y d e f (nI (48 * t + 3 * q + 3 * (s - q - 1))) _).trans ?_)⟩
    rw [nI_clamp (show t < 2 ^ 31 by omega), stR_a (show 1 ≠ 2 by decide), hs, el, if_pos b4, if_neg (show ¬ nI (48 * t + 3 * q + 3 * (s - q - 1)) < nI (48 * t + 3 * (s - 1)) by rw [nI_ltI (by omega) (by omega)]; omega), hf, Option.bind_some]
  | succ m ih =>
    intro u hu
    obtain ⟨n, hn⟩ := ih (u + 1) (by omega)
    refine ⟨n + 25, pxs_px (st := [83]) 25 83 _ _ _ ((y_R_delete_83 (rn_R_delete n) (nI t) x y d e f (nI (48 * t + 3 * q + u)) _).trans ?_)⟩
    have er : (stR r 2 0 (sh (r 2 0) (48 * t + 3 * q) u)) 2 0 (48 * t + 3 * q + u + 3) = r 2 0 (48 * t + 3 * q + u + 3) := by
      rw [stR_same]; exact if_neg (fun z => by omega)
    rw [nI_clamp (show t < 2 ^ 31 by omega), stR_a (show 1 ≠ 2 by decide), hs, el, if_pos b4, if_pos (show nI (48 * t + 3 * q + u) < nI (48 * t + 3 * (s - 1)) by rw [nI_ltI (by omega) (by omega)]; omega), on3, nI_add, if_pos (show inB (nI (48 * t + 3 * q + u + 3)) 192 by rw [nI_inB (by omega)]; omega), if_pos (show inB (nI (48 * t + 3 * q + u)) 192 by rw [nI_inB (by omega)]; omega), nI_clamp (by omega), nI_clamp (by omega), er, sh_step, on1, nI_add]
    exact hn
theorem s_T_removeRowN {t q s : Nat} {g : mG} (ht : t < 4) (hs : g 27 0 t = nI s) (hs2 : s ≤ 16) (hq : q < s) : f_T_removeRow [.inr (3, 0), .inl (nI t), .inl (nI q)] g = some (st3 (stR g 26 0 (sh (g 26 0) (48 * t + 3 * q) (3 * (s - q - 1)))) 27 0 t (nI (s - 1))) := by
  have b4 : inB (nI t) 4 := by rw [nI_inB (by omega)]; exact ht
  have e1 : (nI t * Int32.ofInt 16 + (nI q + Int32.ofInt 1)) * Int32.ofInt 3 + Int32.ofInt 0 = nI (48 * t + 3 * q + 3) := by
    rw [on16, on1, on3, on0, pk_mul, nI_add, nI_add, pk_mul, nI_add]; congr 1; omega
  have e2 : (nI t * Int32.ofInt 16 + nI q) * Int32.ofInt 3 + Int32.ofInt 0 = nI (48 * t + 3 * q) := by
    rw [on16, on3, on0, pk_mul, nI_add, pk_mul, nI_add]; congr 1; omega
  obtain ⟨w, rfl⟩ : ∃ w, s = w + 1 + q := ⟨s - 1 - q, by omega⟩
  have e3 : (nI (w + 1 + q) - nI q - Int32.ofInt 1) * Int32.ofInt 3 = nI (3 * w) := by
    rw [nS (by omega), on1, nS (by omega), on3, pk_mul]; congr 1; omega
  have e4 : nI (w + 1 + q) - Int32.ofInt 1 = nI (w + 1 + q - 1) := by
    rw [show w + 1 + q = (w + q) + 1 by omega, on1, nS (by omega)]; rfl
  refine e_T_removeRow (n := 41) rfl ?_
  rw [x_T_removeRow, s_T_has]
  simp only [Option.bind_some, bI_0, s_T_index, nI_clamp (show t < 2 ^ 31 by omega), hs, e1, e2, e3, e4, nI_toInt (show 48 * t + 3 * q + 3 < 2 ^ 31 by omega), nI_toInt (show 48 * t + 3 * q < 2 ^ 31 by omega), nI_toInt (show 3 * w < 2 ^ 31 by omega), nI_clamp (show 48 * t + 3 * q + 3 < 2 ^ 31 by omega), nI_clamp (show 48 * t + 3 * q < 2 ^ 31 by omega), nI_clamp (show 3 * w < 2 ^ 31 by omega)]
  rw [if_neg (fun z => z ((pHasN ht hs hs2 (by omega)).mpr hq)), if_pos b4, if_pos (show _ from ⟨⟨by omega, by omega, by omega⟩, by omega, by omega⟩), if_pos b4, if_pos b4]
  have ec : va_cpy (g 26 0) (g 26 0) (48 * t + 3 * q + 3) (48 * t + 3 * q) (3 * w) = sh (g 26 0) (48 * t + 3 * q) (3 * (w + 1 + q - q - 1)) := by
    funext i
    unfold va_cpy sh
    rw [show w + 1 + q - q - 1 = w by omega]
    by_cases z : 48 * t + 3 * q ≤ i ∧ i < 48 * t + 3 * q + 3 * w
    · rw [if_pos z, if_pos z, show 48 * t + 3 * q + 3 + (i - (48 * t + 3 * q)) = i + 3 by omega]
    · rw [if_neg z, if_neg z]
  rw [ec]
