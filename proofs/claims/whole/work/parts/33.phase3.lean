/-! the third phase: looks at the least place that is reached and not yet looked at -/
def cz (f : Nat → Int32) : Nat → Nat
  | 0 => 0
  | m + 1 => cz f m + (if f m = 0 then 1 else 0)
theorem cz_le (f : Nat → Int32) : ∀ m, cz f m ≤ m
  | 0 => Nat.le_refl _
  | m + 1 => by
    have := cz_le f m
    unfold cz
    split <;> omega
theorem cz_0 {f : Nat → Int32} : ∀ {m : Nat}, cz f m = 0 → ∀ k, k < m → f k ≠ 0
  | 0, _, k, hk => absurd hk (by omega)
  | m + 1, h, k, hk => by
    unfold cz at h
    by_cases e : k = m
    · subst e
      intro z
      rw [if_pos z] at h
      omega
    · exact cz_0 (m := m) (by omega) k (by omega)
theorem cz_same {f f' : Nat → Int32} : ∀ {m : Nat}, (∀ k, k < m → f' k = f k) → cz f' m = cz f m
  | 0, _ => rfl
  | m + 1, h => by
    unfold cz
    rw [cz_same (m := m) (fun k hk => h k (by omega)), h m (by omega)]
theorem cz_upd {f : Nat → Int32} {k : Nat} {x : Int32} (hx : x ≠ 0) (hf : f k = 0) : ∀ {m : Nat}, k < m → cz (upd f k x) m + 1 = cz f m
  | 0, h => absurd h (by omega)
  | m + 1, h => by
    unfold cz
    by_cases e : k = m
    · subst e
      rw [pk_us, if_neg hx, if_pos hf, cz_same (fun j hj => pk_un (by omega))]
    · rw [pk_un (fun z => e z.symm)]
      have := cz_upd hx hf (m := m) (by omega)
      omega
abbrev TL (r : mG) (k : Nat) : Prop := 0 ≤ (r 8 0 k).toInt ∧ r 11 0 k = 0
theorem TL_c {g r : mG} (hh : HT g r) (hb : ∀ k, k < 61 → r 9 0 k = 0 ∨ r 9 0 k = 1) {k : Nat} (hk : k < 60) : ((¬ g 31 0 k < 0) ∧ g 32 0 k = 0 ↔ TL r k) ∧ (g 31 0 k < 0 → ¬ TL r k) := by
  obtain ⟨t1, t2, t3, t4, t5⟩ := hh
  rcases hb k (by omega) with z | z
  · have e1 : g 31 0 k = Int32.ofInt (-2) := by rw [t1 k hk, if_neg (by rw [z]; decide)]
    have e2 := t2 k (by omega) z
    have hn : ¬ TL r k := fun w => by
      have := w.1
      rw [e2, tim1] at this
      omega
    refine ⟨⟨fun w => absurd (show g 31 0 k < 0 by rw [e1]; decide) w.1, fun w => absurd w hn⟩, fun _ => hn⟩
  · have e1 : g 31 0 k = r 8 0 k := by rw [t1 k hk, if_pos z]
    have e2 := t4 k hk z
    rw [e1, e2, i_lt, tiz]
    refine ⟨⟨fun w => ⟨by have := w.1; omega, w.2⟩, fun w => ⟨by have := w.1; omega, w.2⟩⟩, fun w v => by have := v.1; omega⟩
theorem leastS {g r : mG} (hh : HT g r) (hb : ∀ k, k < 61 → r 9 0 k = 0 ∨ r 9 0 k = 1) {k : Nat} (hk : k ≤ 60) (hkl : k < 60 → TL r k) : ∀ (m t : Nat), k - t ≤ m → t ≤ k → (∀ i, t ≤ i → i < k → ¬ TL r i) →
    ∃ a, rn_V_leastToLookAt a 2 [some (.inr (5, 0)), some (.inl (nI t))] [] g = some (some (.inl (if k < 60 then nI k else Int32.ofInt (-1))), g) := by
  have fin : ∀ t, t = k → ∃ a, rn_V_leastToLookAt a 2 [some (.inr (5, 0)), some (.inl (nI t))] [] g = some (some (.inl (if k < 60 then nI k else Int32.ofInt (-1))), g) := by
    rintro t rfl
    refine ⟨0 + 16, pxs_px (st := [2]) 16 2 _ _ _ ?_⟩
    refine (y_V_leastToLookAt_2 (rn_V_leastToLookAt 0) (nI t) g).trans ?_
    simp only [on60, nI_ltN (show t < 2 ^ 31 by omega) (show 60 < 2 ^ 31 by omega), nI_clamp (show t < 2 ^ 31 by omega)]
    by_cases h : t < 60
    · have hB : inB (nI t) 60 := by rw [nI_inB (by omega)]; exact h
      obtain ⟨w1, w2⟩ := (TL_c hh hb h).1.mpr (hkl h)
      rw [if_pos h, if_pos h, if_pos hB, if_neg w1, if_pos hB, if_pos w2]
    · rw [if_neg h, if_neg h]
  intro m
  induction m with
  | zero => intro t h1 h2 _; exact fin t (by omega)
  | succ m ih =>
    intro t h1 h2 h3
    by_cases e : t = k
    · exact fin t e
    · obtain ⟨a, ha⟩ := ih (t + 1) (by omega) (by omega) (fun i hi => h3 i (by omega))
      have hn := h3 t (Nat.le_refl _) (by omega)
      have h60 : t < 60 := by omega
      have hB : inB (nI t) 60 := by rw [nI_inB (by omega)]; exact h60
      have e1 : nI t + Int32.ofInt 1 = nI (t + 1) := by rw [on1]; exact nI_add t 1
      refine ⟨a + 16, pxs_px (st := [2]) 16 2 _ _ _ ?_⟩
      refine (y_V_leastToLookAt_2 (rn_V_leastToLookAt a) (nI t) g).trans ?_
      simp only [on60, nI_ltN (show t < 2 ^ 31 by omega) (show 60 < 2 ^ 31 by omega), nI_clamp (show t < 2 ^ 31 by omega), e1]
      rw [if_pos h60, if_pos hB]
      by_cases hl : g 31 0 t < 0
      · rw [if_pos hl]; exact ha
      · rw [if_neg hl, if_pos hB, if_neg (fun z => hn ((TL_c hh hb h60).1.mp ⟨hl, z⟩))]
        exact ha
theorem scanR {r : mG} {n k b : Nat} {v : Int32} {u : Option mV} {res : mRes} (hn : n ≤ 60) (hkn : k ≤ n) (hres : rn_R_verify b 87 [some (.inr (0, 0)), some (.inl (nI n)), some (.inl v), some (.inl (nI k)), u] [] r = some res) : ∀ (m t : Nat), k - t ≤ m → t ≤ k → (∀ i, t ≤ i → i < k → ¬ TL r i) →
    ∃ b', rn_R_verify b' 87 [some (.inr (0, 0)), some (.inl (nI n)), some (.inl v), some (.inl (nI t)), u] [] r = some res := by
  intro m
  induction m with
  | zero => intro t h1 h2 _; have e : t = k := by omega
            subst e; exact ⟨b, hres⟩
  | succ m ih =>
    intro t h1 h2 h3
    by_cases e : t = k
    · subst e; exact ⟨b, hres⟩
    · obtain ⟨a, ha⟩ := ih (t + 1) (by omega) (by omega) (fun i hi => h3 i (by omega))
      have hnt := h3 t (Nat.le_refl _) (by omega)
      have hB : inB (nI t) 61 := by rw [nI_inB (by omega)]; omega
      have e1 : nI t + Int32.ofInt 1 = nI (t + 1) := by rw [on1]; exact nI_add t 1
      refine ⟨a + 27, pxs_px (st := [12, 87]) 27 87 _ _ _ ?_⟩
      refine (y_R_verify_87 (rn_R_verify a) (nI n) v (nI t) u r).trans ?_
      simp only [nI_ltN (show t < 2 ^ 31 by omega) (show n < 2 ^ 31 by omega), nI_clamp (show t < 2 ^ 31 by omega), e1]
      rw [if_pos (show t < n by omega), if_pos hB]
      by_cases hl : r 8 0 t < 0
      · rw [if_pos hl]; exact ha
      · rw [if_neg hl, if_pos hB, if_neg (fun z => hnt ⟨by rw [i_lt, tiz] at hl; omega, z⟩)]
        exact ha
def LKA (P n : Nat) (g r : mG) : Prop := ∀ k, k < 61 → r 11 0 k = 1 → ∃ h, r 8 0 k = nI h ∧ h ≤ 12 ∧ LK P n k h g r
def Fin3 (P n : Nat) (g r : mG) : Prop := Opn P n g r ∧ BG P n g r ∧ HT g r ∧ LKA P n g r ∧ ∀ k, k < 61 → 0 ≤ (r 8 0 k).toInt → r 11 0 k = 1
theorem exL (Q : Nat → Prop) (dec : ∀ k, Q k ∨ ¬ Q k) : ∀ N, ∃ k, k ≤ N ∧ (k < N → Q k) ∧ ∀ i, i < k → ¬ Q i
  | 0 => ⟨0, Nat.le_refl _, fun h => absurd h (by omega), fun i h => absurd h (by omega)⟩
  | N + 1 => by
    obtain ⟨k, h1, h2, h3⟩ := exL Q dec N
    by_cases e : k < N
    · exact ⟨k, by omega, fun _ => h2 e, h3⟩
    · rcases dec N with z | z
      · exact ⟨N, by omega, fun _ => z, fun i hi => h3 i (by omega)⟩
      · refine ⟨N + 1, Nat.le_refl _, fun h => absurd h (by omega), fun i hi => ?_⟩
        by_cases e2 : i = N
        · rw [e2]; exact z
        · exact h3 i (by omega)
