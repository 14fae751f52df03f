/-! rows of tables -/
theorem ix48N {t q c : Nat} (ht : t < 4) (hq : q < 16) (hc : c < 3) : inB ((nI t * Int32.ofInt 16 + nI q) * Int32.ofInt 3 + nI c) 192 ∧ ((nI t * Int32.ofInt 16 + nI q) * Int32.ofInt 3 + nI c).toNatClampNeg = 48 * t + 3 * q + c := by
  have h := ix48 (a := nI t) (b := nI q) (c := nI c) (by rw [nI_inB (by omega)]; exact ht) (by rw [nI_inB (by omega)]; exact hq) (by rw [nI_inB (by omega)]; exact hc)
  rw [nI_clamp (by omega), nI_clamp (by omega), nI_clamp (by omega)] at h
  exact h
theorem ix48R {t q c : Nat} (ht : t < 4) (hq : q < 16) (hc : c < 3) : inB (Int32.ofInt 48 * nI t + Int32.ofInt 3 * nI q + nI c) 192 ∧ (Int32.ofInt 48 * nI t + Int32.ofInt 3 * nI q + nI c).toNatClampNeg = 48 * t + 3 * q + c := by
  have h := ix48' (a := nI t) (b := nI q) (c := nI c) (by rw [nI_inB (by omega)]; exact ht) (by rw [nI_inB (by omega)]; exact hq) (by rw [nI_inB (by omega)]; exact hc)
  rw [nI_clamp (by omega), nI_clamp (by omega), nI_clamp (by omega)] at h
  exact h
theorem pHasN {t q s : Nat} {sz : Nat → Int32} (ht : t < 4) (hs : sz t = nI s) (hs2 : s ≤ 16) (hq : q < 2 ^ 31) : pHas sz (nI t) (nI q) ↔ q < s := by
  unfold pHas
  rw [nI_inB (by omega), nI_clamp (by omega), hs, nI_toInt (by omega), nI_toInt (by omega)]
  constructor
  · intro z; omega
  · intro z; exact ⟨ht, by omega, by omega⟩
theorem s_T_writeN {t q c s : Nat} {g : mG} (ht : t < 4) (hs : g 27 0 t = nI s) (hs2 : s ≤ 16) (v : Int32) (hq : q < s) (hc : c < 3) : f_T_write [.inr (3, 0), .inl (nI t), .inl (nI q), .inl (nI c), .inl v] g = some (st3 g 26 0 (48 * t + 3 * q + c) v) := by
  obtain ⟨i1, i2⟩ := ix48N (c := c) ht (show q < 16 by omega) hc
  refine e_T_write (n := 18) rfl ?_
  rw [x_T_write, s_T_has]
  simp only [Option.bind_some, bI_0, s_B_isBelow, s_T_index, ti3, nI_toInt (show c < 2 ^ 31 by omega)]
  rw [if_neg (fun z => z ((pHasN ht hs hs2 (by omega)).mpr hq)), if_neg (fun z => z ⟨by omega, by omega⟩), if_pos i1, i2]
theorem s_T_readN {t q c s : Nat} {g : mG} (ht : t < 4) (hs : g 27 0 t = nI s) (hs2 : s ≤ 16) (hq : q < s) (hc : c < 3) (ho : szOk (g 27 0)) : f_T_read [.inr (3, 0), .inl (nI t), .inl (nI q), .inl (nI c)] g = some (g 26 0 (48 * t + 3 * q + c), g) := by
  rw [s_T_read _ _ _ _ ho, show pRead (g 26 0) (g 27 0) (nI t) (nI q) (nI c) = _ from if_pos ⟨(pHasN ht hs hs2 (by omega)).mpr hq, by rw [nI_inB (by omega)]; exact hc⟩, nI_clamp (by omega), nI_clamp (by omega), nI_clamp (by omega)]
theorem s_T_addRowN {t s : Nat} {g : mG} (ht : t < 4) (hs : g 27 0 t = nI s) (hs2 : s ≤ 16) (h : s < 16) : f_T_addRow [.inr (3, 0), .inl (nI t)] g = some (nI s, st3 g 27 0 t (nI (s + 1))) := by
  have b4 : inB (nI t) 4 := by rw [nI_inB (by omega)]; exact ht
  refine e_T_addRow (n := 25) rfl ?_
  rw [x_T_addRow, s_B_isBelow]
  simp only [Option.bind_some, bI_0, ti4, nI_toInt (show t < 2 ^ 31 by omega), nI_clamp (show t < 2 ^ 31 by omega), hs]
  rw [if_neg (fun z => z ⟨by omega, by omega⟩), if_pos b4, if_pos (show nI s < Int32.ofInt 16 by rw [on16, nI_ltI (by omega) (by omega)]; exact h), if_pos b4, if_pos b4, if_pos b4, on1, nA (by omega), st3_same, nS (by omega)]
theorem s_T_addRow16 {t s : Nat} {g : mG} (ht : t < 4) (hs : g 27 0 t = nI s) (h : s = 16) : f_T_addRow [.inr (3, 0), .inl (nI t)] g = some (Int32.ofInt (-1), g) := by
  have b4 : inB (nI t) 4 := by rw [nI_inB (by omega)]; exact ht
  refine e_T_addRow (n := 25) rfl ?_
  rw [x_T_addRow, s_B_isBelow]
  simp only [Option.bind_some, bI_0, ti4, nI_toInt (show t < 2 ^ 31 by omega), nI_clamp (show t < 2 ^ 31 by omega), hs]
  subst h
  rw [if_neg (fun z => z ⟨by omega, by omega⟩), if_pos b4, if_neg (by decide)]
