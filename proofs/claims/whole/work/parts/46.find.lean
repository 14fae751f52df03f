theorem findL {t c s : Nat} {a v : Int32} {g r : mG} (ht : t < 4) (hc : c < 3) (hs : g 27 0 t = nI s) (hs2 : s ≤ 16) (h26 : g 26 0 = r 2 0) (h27 : g 27 0 = r 1 0) : ∀ m e, s - e ≤ m → e < 2 ^ 31 → ∃ (x : Int32) (n n' : Nat), rn_T_find n 25 [some (.inr (3, 0)), some (.inl (nI t)), some (.inl a), some (.inl (nI c)), some (.inl v), some (.inl (nI e))] [] g = some (some (.inl x), g) ∧ rn_R_find n' 11 [some (.inr (0, 0)), some (.inl (nI t)), some (.inl (nI c)), some (.inl a), some (.inl v), some (.inl (nI e))] [] r = some (some (.inl x), r) := by
  have b4 : inB (nI t) 4 := by rw [nI_inB (by omega)]; exact ht
  have hs' : r 1 0 t = nI s := by rw [← h27]; exact hs
  have stop : ∀ e, s ≤ e → e < 2 ^ 31 → ∃ (x : Int32) (n n' : Nat), rn_T_find n 25 [some (.inr (3, 0)), some (.inl (nI t)), some (.inl a), some (.inl (nI c)), some (.inl v), some (.inl (nI e))] [] g = some (some (.inl x), g) ∧ rn_R_find n' 11 [some (.inr (0, 0)), some (.inl (nI t)), some (.inl (nI c)), some (.inl a), some (.inl v), some (.inl (nI e))] [] r = some (some (.inl x), r) := by
    intro e he he2
    have hn : ¬ nI e < nI s := by rw [nI_ltI he2 (by omega)]; omega
    refine ⟨Int32.ofInt (-1), 0 + 18, 0 + 30, pxs_px (st := [25]) 18 25 _ _ _ ((y_T_find_25 (rn_T_find 0) (nI t) a (nI c) v (nI e) g).trans ?_), pxs_px (st := [11]) 30 11 _ _ _ ((y_R_find_11 (rn_R_find 0) (nI t) (nI c) a v (nI e) r).trans ?_)⟩
    · rw [nI_clamp (show t < 2 ^ 31 by omega), hs, if_pos b4, if_neg hn]
    · rw [nI_clamp (show t < 2 ^ 31 by omega), hs', if_pos b4, if_neg hn, if_pos b4, if_neg hn]
  intro m
  induction m with
  | zero => intro e he he2; exact stop e (by omega) he2
  | succ m ih =>
    intro e he he2
    by_cases h : s ≤ e
    · exact stop e h he2
    · have hl : nI e < nI s := by rw [nI_ltI he2 (by omega)]; omega
      obtain ⟨i1, i2⟩ := ix48N ht (show e < 16 by omega) hc
      obtain ⟨j1, j2⟩ := ix48R ht (show e < 16 by omega) hc
      by_cases hv : g 26 0 (48 * t + 3 * e + c) = v
      · refine ⟨nI e, 0 + 18, 0 + 30, pxs_px (st := [25]) 18 25 _ _ _ ((y_T_find_25 (rn_T_find 0) (nI t) a (nI c) v (nI e) g).trans ?_), pxs_px (st := [11]) 30 11 _ _ _ ((y_R_find_11 (rn_R_find 0) (nI t) (nI c) a v (nI e) r).trans ?_)⟩
        · rw [nI_clamp (show t < 2 ^ 31 by omega), hs, if_pos b4, if_pos hl, s_T_index, Option.bind_some, if_pos i1, i2, if_pos hv]
        · rw [nI_clamp (show t < 2 ^ 31 by omega), hs', if_pos b4, if_pos hl, if_pos j1, j2, ← h26, if_pos hv, if_pos b4, if_pos hl]
      · obtain ⟨x, n, n', h1, h2⟩ := ih (e + 1) (by omega) (by omega)
        refine ⟨x, n + 18, n' + 30, pxs_px (st := [25]) 18 25 _ _ _ ((y_T_find_25 (rn_T_find n) (nI t) a (nI c) v (nI e) g).trans ?_), pxs_px (st := [11]) 30 11 _ _ _ ((y_R_find_11 (rn_R_find n') (nI t) (nI c) a v (nI e) r).trans ?_)⟩
        · rw [nI_clamp (show t < 2 ^ 31 by omega), hs, if_pos b4, if_pos hl, s_T_index, Option.bind_some, if_pos i1, i2, if_neg hv, on1, nA (by omega)]
          exact h1
        · rw [nI_clamp (show t < 2 ^ 31 by omega), hs', if_pos b4, if_pos hl, if_pos j1, j2, ← h26, if_neg hv, on1, nA (by omega)]
          exact h2
theorem findB {t c s : Nat} {a v : Int32} {g r : mG} (ht : t < 4) (hc : c < 3) (hs : g 27 0 t = nI s) (hs2 : s ≤ 16) (h26 : g 26 0 = r 2 0) (h27 : g 27 0 = r 1 0) : ∃ x, f_T_find [.inr (3, 0), .inl (nI t), .inl a, .inl (nI c), .inl v] g = some (x, g) ∧ f_R_find [.inr (0, 0), .inl (nI t), .inl (nI c), .inl a, .inl v] r = some (x, r) := by
  have key : ∀ e, e < 2 ^ 31 → (if a < Int32.ofInt 0 then Int32.ofInt 0 else a) = nI e → ∃ x, f_T_find [.inr (3, 0), .inl (nI t), .inl a, .inl (nI c), .inl v] g = some (x, g) ∧ f_R_find [.inr (0, 0), .inl (nI t), .inl (nI c), .inl a, .inl v] r = some (x, r) := by
    intro e he hv
    obtain ⟨x, n, n', h1, h2⟩ := findL (a := a) (v := v) ht hc hs hs2 h26 h27 s e (by omega) he
    refine ⟨x, e_T_find (n := n + 13) rfl (pxs_px (st := [25]) 13 0 _ _ _ ((y_T_find_0 (rn_T_find n) (nI t) a (nI c) v g).trans ?_)), e_R_find (n := n' + 6) rfl (pxs_px (st := [11]) 6 0 _ _ _ ((y_R_find_0 (rn_R_find n') (nI t) (nI c) a v r).trans ?_))⟩
    · simp only [s_B_isBelow, Option.bind_some, bI_0, ti4, ti3, nI_toInt (show t < 2 ^ 31 by omega), nI_toInt (show c < 2 ^ 31 by omega), hv]
      rw [if_neg (fun z => z ⟨by omega, by omega⟩), if_neg (fun z => z ⟨by omega, by omega⟩)]
      exact h1
    · by_cases hz : a < 0
      · rw [if_pos hz]
        rw [if_pos (show a < Int32.ofInt 0 by rw [of0]; exact hz)] at hv
        rw [hv]; exact h2
      · rw [if_neg hz]
        rw [if_neg (show ¬ a < Int32.ofInt 0 by rw [of0]; exact hz)] at hv
        rw [show (some (Sum.inl a) : Option mV) = some (Sum.inl (nI e)) by rw [hv]] at *
        exact h2
  by_cases hz : a < Int32.ofInt 0
  · exact key 0 (by omega) (by rw [if_pos hz, on0])
  · have ha : 0 ≤ a.toInt := by rw [i_lt, ti0] at hz; omega
    have hb := ti_hi a
    exact key a.toNatClampNeg (by rw [cl_toInt]; omega) (by rw [if_neg hz, i_eq, nI_toInt (by rw [cl_toInt]; omega), cl_toInt]; omega)
