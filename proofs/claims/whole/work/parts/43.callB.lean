section
variable {n P' : Nat} {b c : Int32} {g r g' : mG}
theorem FrC.enter {j P k h : Nat} (hj : j < n) (q1 : ∀ x, x ≠ 1 → x ≠ 10 → x ≠ 12 → x ≠ 13 → x ≠ 14 → x ≠ 20 → g' x = g x) (q2 : ∀ x j, 10 ≤ x → x ≤ 14 → j ≠ n → g' x j = g x j) (hf : FrC j P k h g r) : FrC j P k h g' (enR n (nI P') b c r) :=
  hf.keep (by rw [q1 2 (by decide) (by decide) (by decide) (by decide) (by decide) (by decide)]) (fun x x1 x2 => q2 x j x1 x2 (by omega)) (by rw [enR_12, if_neg (by omega)]) (by rw [enR_13, if_neg (by omega)]) (by rw [enR_19, if_neg (by omega)]) (fun i _ => rfl)
    (fun i hi => by rw [enR_16, if_neg (by omega), zr_out (by omega)]) (fun i hi => by rw [enR_17, zr_out (by omega)]) (fun i hi => by rw [enR_18, zr_out (by omega)])
theorem Sok.enter {P k h : Nat} (q1 : ∀ x, x ≠ 1 → x ≠ 10 → x ≠ 12 → x ≠ 13 → x ≠ 14 → x ≠ 20 → g' x = g x) (hs : Sok (wds g P) (lns g P) P k h) : Sok (wds g' P) (lns g' P) P k h := by
  unfold wds lns
  rw [q1 24 (by decide) (by decide) (by decide) (by decide) (by decide) (by decide), q1 25 (by decide) (by decide) (by decide) (by decide) (by decide) (by decide)]
  exact hs
theorem Wt.enter {j P k h : Nat} (hj : j + 1 < n) (q1 : ∀ x, x ≠ 1 → x ≠ 10 → x ≠ 12 → x ≠ 13 → x ≠ 14 → x ≠ 20 → g' x = g x) (q2 : ∀ x j, 10 ≤ x → x ≤ 14 → j ≠ n → g' x j = g x j) (hw : Wt j P k h g r) : Wt j P k h g' (enR n (nI P') b c r) := by
  obtain ⟨w0, w1, w2, w3, w4⟩ := hw
  refine ⟨w0.enter (by omega) q1 q2, w1.enter q1, w2, fun z => ?_, fun z => ?_⟩
  · rw [enR_19, if_neg (by omega)] at z
    rw [enR_14, if_neg (by omega)]; exact w3 z
  · rw [enR_19, if_neg (by omega)] at z
    rw [enR_14, if_neg (by omega), enR_15, q2 10 (j + 1) (by omega) (by omega) (by omega)]; exact w4 z
end
/-- a call opens a frame above the one that calls -/
theorem callB {d P k h P' : Nat} {b : Int32} {g r : mG} (hr : Run d P k h g r) (hs : Sok (wds g P) (lns g P) P k (h + 1)) (h12 : h < 12) (hd : d + 1 < 8) (hP : (P' : Int) < (g 2 0 3).toInt) :
    ∃ g' r', f_M_open [.inr (1, 0), .inl (nI P'), .inl b] g = some (Int32.ofInt (-1), g') ∧ f_R_enter [.inr (0, 0), .inl (nI P'), .inl b, .inl (Int32.ofInt 0)] r = some (Int32.ofInt 1, r') ∧ Run (d + 1) P' 0 0 g' r' ∧ r' 0 0 21 = r 0 0 21 ∧ g' 24 = g 24 ∧ g' 25 = g 25 ∧ r' 0 0 23 = r 0 0 23 ∧ r' 0 0 24 = r 0 0 24 := by
  obtain ⟨⟨d1, d2, d3, d4, d5⟩, hf, hh, hb, hc⟩ := hr
  obtain ⟨g', e1, e2, e3, e4, e5, e6, e7, e8⟩ := enterB (b := b) (c := Int32.ofInt 0) d2 d3 hd d5 hc hP (Or.inl of0)
  rw [st3_id (by rw [e5]; exact of0.symm)] at e6
  refine ⟨g', _, e1, e2, ⟨e3, e6, ?_, fun j hj => ?_, e4⟩, rfl, e7 24 (by decide) (by decide) (by decide) (by decide) (by decide) (by decide), e7 25 (by decide) (by decide) (by decide) (by decide) (by decide) (by decide), rfl, rfl⟩
  · rw [enR_14, if_pos rfl, on0]
  · by_cases ej : j = d
    · subst ej
      refine ⟨P, k, h, hf.enter (by omega) e7 e8, hs.enter e7, h12, fun z => ?_, fun z => ?_⟩
      · rw [enR_14, if_neg (by omega)]; exact hh
      · rw [enR_19, if_pos rfl] at z; exact absurd of0 z
    · obtain ⟨P2, k2, h2, hw⟩ := hb j (by omega)
      exact ⟨P2, k2, h2, hw.enter (by omega) e7 e8⟩
