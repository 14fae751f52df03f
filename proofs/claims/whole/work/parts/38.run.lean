/-! the state while a call runs, as both sides have it -/
def HtOk (w : Nat → Int32) (n P : Nat) (ht : Nat → Option Nat) : Prop := ∀ k h, ht k = some h → ∃ op, op < 27 ∧ w k = nI op ∧ k + opL.getD op 0 < n ∧ tkL.getD op 0 ≤ h ∧ h - tkL.getD op 0 + gvL.getD op 0 ≤ 12 ∧
  (1 ≤ opL.getD op 0 → kOk (k1L.getD op 0) (w (k + 1)) P) ∧ (2 ≤ opL.getD op 0 → kOk (k2L.getD op 0) (w (k + 2)) P) ∧
  (op ≠ 14 → op ≠ 25 → op ≠ 26 → ht (k + 1 + opL.getD op 0) = some (h - tkL.getD op 0 + gvL.getD op 0)) ∧
  (op = 14 ∨ op = 15 → ∃ t, w (k + 1) = nI t ∧ t < n ∧ ht t = some (h - tkL.getD op 0 + gvL.getD op 0))
def Sok (w : Nat → Int32) (n P k h : Nat) : Prop := ∃ ht, ht k = some h ∧ HtOk w n P ht
theorem Snd.ok {w : Nat → Int32} {n P : Nat} (h : Snd w n P) : Sok w n P 0 0 := by
  obtain ⟨ht, h0, h1⟩ := h
  exact ⟨ht, h0, h1⟩
theorem Sok.at {w : Nat → Int32} {n P k h : Nat} (hs : Sok w n P k h) : ∃ op, op < 27 ∧ w k = nI op ∧ k + opL.getD op 0 < n ∧ tkL.getD op 0 ≤ h ∧ h - tkL.getD op 0 + gvL.getD op 0 ≤ 12 ∧
  (1 ≤ opL.getD op 0 → kOk (k1L.getD op 0) (w (k + 1)) P) ∧ (2 ≤ opL.getD op 0 → kOk (k2L.getD op 0) (w (k + 2)) P) ∧
  (op ≠ 14 → op ≠ 25 → op ≠ 26 → Sok w n P (k + 1 + opL.getD op 0) (h - tkL.getD op 0 + gvL.getD op 0)) ∧
  (op = 14 ∨ op = 15 → ∃ t, w (k + 1) = nI t ∧ t < n ∧ Sok w n P t (h - tkL.getD op 0 + gvL.getD op 0)) := by
  obtain ⟨ht, h0, h1⟩ := hs
  obtain ⟨op, a1, a2, a3, a4, a5, a6, a7, a8, a9⟩ := h1 k h h0
  refine ⟨op, a1, a2, a3, a4, a5, a6, a7, fun x y z => ⟨ht, a8 x y z, h1⟩, fun z => ?_⟩
  obtain ⟨t, b1, b2, b3⟩ := a9 z
  exact ⟨t, b1, b2, ht, b3, h1⟩
theorem nA {a b : Nat} (h : a + b < 2 ^ 31) : nI a + nI b = nI (a + b) := by
  rw [i_eq, ti_add (by rw [nI_toInt (by omega), nI_toInt (by omega)]; omega) (by rw [nI_toInt (by omega), nI_toInt (by omega)]; omega), nI_toInt (by omega), nI_toInt (by omega), nI_toInt (by omega)]; omega
theorem nS {a b : Nat} (h : a + b < 2 ^ 31) : nI (a + b) - nI b = nI a := by
  rw [i_eq, ti_sub (by rw [nI_toInt (by omega), nI_toInt (by omega)]; omega) (by rw [nI_toInt (by omega), nI_toInt (by omega)]; omega), nI_toInt (by omega), nI_toInt (by omega), nI_toInt (by omega)]; omega
/-- frame j, as both sides have it, the reference's height aside -/
def FrC (j P k h : Nat) (g r : mG) : Prop := ((P : Int) < (g 2 0 3).toInt ∧ k ≤ 60 ∧ h ≤ 12) ∧ (g 10 j 5 = nI P ∧ r 12 0 j = nI P) ∧ (g 10 j 6 = nI k ∧ r 13 0 j = nI k) ∧ g 10 j 1 = nI h ∧ (∀ i, i < h → g 11 j i = r 15 0 (13 * j + i)) ∧ (∀ i, i < 8 → g 12 j i = r 16 0 (8 * j + i)) ∧ (∀ i, i < 3 → g 13 j i = r 17 0 (3 * j + i)) ∧ (∀ i, i < 3 → g 14 j i = r 18 0 (3 * j + i)) ∧ g 10 j 7 = r 19 0 j
abbrev wds (g : mG) (P : Nat) : Nat → Int32 := fun i => g 24 0 (60 * P + i)
abbrev lns (g : mG) (P : Nat) : Nat := (g 25 0 P).toNatClampNeg
/-- a frame that waits for a number: where a trigger stands above it, the reference has that number already -/
def Wt (j P k h : Nat) (g r : mG) : Prop := FrC j P k h g r ∧ Sok (wds g P) (lns g P) P k (h + 1) ∧ h < 12 ∧ (r 19 0 (j + 1) = 0 → r 14 0 j = nI h) ∧ (r 19 0 (j + 1) ≠ 0 → r 14 0 j = nI (h + 1) ∧ r 15 0 (13 * j + h) = g 10 (j + 1) 8)
def Bel (d : Nat) (g r : mG) : Prop := ∀ j, j < d → ∃ P k h, Wt j P k h g r
/-- all but the frames -/
def Kpt (g r : mG) : Prop := (∀ k, k < 192 → g 28 0 k = r 4 0 k) ∧ (∀ k, k < 4 → g 29 0 k = r 3 0 k) ∧ szOk (g 29 0)
def Cm (g r : mG) : Prop := InvL g r ∧ InvT g r ∧ InvG g r ∧ InvN g r ∧ Kpt g r
def Dp (d : Nat) (g r : mG) : Prop := d < 8 ∧ g 1 0 8 = nI (d + 1) ∧ r 0 0 12 = nI (d + 1) ∧ g 1 0 9 = nI d ∧ ∀ i, i < 8 → g 21 0 i = nI i
def Run (d P k h : Nat) (g r : mG) : Prop := Dp d g r ∧ FrC d P k h g r ∧ r 14 0 d = nI h ∧ Bel d g r ∧ Cm g r
theorem s_F_push {j h : Nat} {a : Int32} {g : mG} (h1 : g 10 j 1 = nI h) (h2 : h < 12) : f_F_push [.inr (10, j), .inl a] g = some (st3 (st3 g 11 j h a) 10 j 1 (nI (h + 1))) := by
  refine e_F_push (n := 17) rfl ?_
  rw [x_F_push, h1, if_pos (show nI h < Int32.ofInt 12 by rw [on12, nI_ltI (by omega) (by omega)]; exact h2), if_pos (show inB (nI h) 12 by rw [nI_inB (by omega)]; exact h2), nI_clamp (by omega), on1, nA (by omega)]
theorem s_F_pop {j h : Nat} {g : mG} (h1 : g 10 j 1 = nI (h + 1)) (h2 : h < 12) : f_F_pop [.inr (10, j)] g = some (g 11 j h, st3 g 10 j 1 (nI h)) := by
  refine e_F_pop (n := 15) rfl ?_
  have e : g 10 j 1 - Int32.ofInt 1 = nI h := by rw [h1, on1, nS (by omega)]
  rw [x_F_pop, if_pos (show (0 : Int32) < g 10 j 1 by rw [h1, show (0 : Int32) = nI 0 from rfl, nI_ltI (by omega) (by omega)]; omega), e, st3_same, if_pos (show inB (nI h) 12 by rw [nI_inB (by omega)]; exact h2), nI_clamp (by omega)]
theorem ixR {m d i M : Nat} (h : m * d + i < M) (hM : M < 1000) (hm : m < 1000) (hd : d < 1000) : inB (nI m * nI d + nI i) M ∧ (nI m * nI d + nI i).toNatClampNeg = m * d + i := by
  rw [pk_mul, nA (by omega), nI_inB (by omega), nI_clamp (by omega)]
  exact ⟨h, rfl⟩
theorem s_R_push {d h : Nat} {a : Int32} {r : mG} (h0 : r 0 0 12 = nI (d + 1)) (hd : d < 8) (h1 : r 14 0 d = nI h) (h2 : h < 13) : f_R_push [.inr (0, 0), .inl a] r = some (st3 (st3 r 15 0 (13 * d + h) a) 14 0 d (nI (h + 1))) := by
  refine e_R_push (n := 26) rfl ?_
  have e : r 0 0 12 - Int32.ofInt 1 = nI d := by rw [h0, on1, nS (by omega)]
  obtain ⟨i1, i2⟩ := ixR (m := 13) (d := d) (i := h) (M := 104) (by omega) (by omega) (by omega) (by omega)
  have b8 : inB (nI d) 8 := by rw [nI_inB (by omega)]; exact hd
  rw [x_R_push, e, nI_clamp (by omega), h1, on13, if_pos b8, if_pos i1, if_pos b8, if_pos b8, i2, on1, nA (by omega)]
theorem s_R_pop {d h : Nat} {r : mG} (h0 : r 0 0 12 = nI (d + 1)) (hd : d < 8) (h1 : r 14 0 d = nI (h + 1)) (h2 : h < 13) : f_R_pop [.inr (0, 0)] r = some (r 15 0 (13 * d + h), st3 r 14 0 d (nI h)) := by
  refine e_R_pop (n := 25) rfl ?_
  have e : r 0 0 12 - Int32.ofInt 1 = nI d := by rw [h0, on1, nS (by omega)]
  have e2 : r 14 0 d - Int32.ofInt 1 = nI h := by rw [h1, on1, nS (by omega)]
  obtain ⟨i1, i2⟩ := ixR (m := 13) (d := d) (i := h) (M := 104) (by omega) (by omega) (by omega) (by omega)
  have b8 : inB (nI d) 8 := by rw [nI_inB (by omega)]; exact hd
  rw [x_R_pop, e, nI_clamp (by omega), e2, on13, st3_same, if_pos b8, if_pos b8, if_pos b8, if_pos i1, i2]
theorem popB {d P k h : Nat} {g r : mG} (hr : Run d P k (h + 1) g r) : ∃ (x : Int32) (g' r' : mG), f_F_pop [.inr (10, d)] g = some (x, g') ∧ f_R_pop [.inr (0, 0)] r = some (x, r') ∧ Run d P k h g' r' := by
  obtain ⟨⟨d1, d2, d3, d4, d5⟩, ⟨⟨f0, f0', f0''⟩, f1, f2, f3, f4, f5, f6, f7, f8⟩, hh, hb, hc⟩ := hr
  refine ⟨g 11 d h, st3 g 10 d 1 (nI h), st3 r 14 0 d (nI h), s_F_pop f3 (by omega), ?_, ⟨d1, d2, d3, d4, d5⟩, ⟨⟨f0, f0', by omega⟩, ?_, ?_, st3_same, fun i hi => f4 i (by omega), f5, f6, f7, ?_⟩, st3_same, fun j hj => ?_, hc⟩
  · rw [f4 h (by omega)]; exact s_R_pop d3 d1 hh (by omega)
  · rw [st3_k (by decide), st3_a (by decide)]; exact f1
  · rw [st3_k (by decide), st3_a (by decide)]; exact f2
  · rw [st3_k (by decide), st3_a (by decide)]; exact f8
  · obtain ⟨P', k', h', ⟨c0, c1, c2, c3, c4, c5, c6, c7, c8⟩, w1, w2, w3, w4⟩ := hb j hj
    refine ⟨P', k', h', ⟨c0, ?_, ?_, ?_, c4, c5, c6, c7, ?_⟩, w1, w2, fun z => ?_, fun z => ?_⟩
    · rw [st3_k (by decide), st3_a (by decide)]; exact c1
    · rw [st3_k (by decide), st3_a (by decide)]; exact c2
    · rw [st3_j (by omega)]; exact c3
    · rw [st3_k (by decide), st3_a (by decide)]; exact c8
    · rw [st3_k (by omega)]; exact w3 z
    · rw [st3_k (by omega), st3_k (by decide), st3_a (by decide)]; exact w4 z
