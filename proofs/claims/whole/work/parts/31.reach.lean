/-! the heights: reaching a place, both sides -/
def BG (P n : Nat) (g r : mG) : Prop := (∀ k, k < 61 → r 9 0 k = 0 ∨ r 9 0 k = 1) ∧ (∀ k, k < 61 → r 9 0 k = 1 → k < n ∧ ∃ op, op < 27 ∧ wd g P k = nI op ∧ k + 1 + opL.getD op 0 ≤ n ∧ (1 ≤ opL.getD op 0 → kOk (k1L.getD op 0) (wd g P (k + 1)) P) ∧ (2 ≤ opL.getD op 0 → kOk (k2L.getD op 0) (wd g P (k + 2)) P) ∧ (k + 1 + opL.getD op 0 = n ∨ r 9 0 (k + 1 + opL.getD op 0) = 1) ∧ (op = 14 ∨ op = 15 → JOK P n k g r)) ∧ (n = 0 ∨ r 9 0 0 = 1)
def HT (g r : mG) : Prop := (∀ k, k < 60 → g 31 0 k = if r 9 0 k = 1 then r 8 0 k else Int32.ofInt (-2)) ∧ (∀ k, k < 61 → r 9 0 k = 0 → r 8 0 k = Int32.ofInt (-1)) ∧ (∀ k, k < 61 → -1 ≤ (r 8 0 k).toInt ∧ (r 8 0 k).toInt ≤ 12) ∧ (∀ k, k < 60 → r 9 0 k = 1 → g 32 0 k = r 11 0 k) ∧ (∀ k, k < 61 → r 11 0 k = 0 ∨ r 11 0 k = 1)
/-- what a reaching keeps -/
def Rch (g r g' r' : mG) : Prop := SameC g g' ∧ SameR r r' ∧ r' 9 = r 9 ∧ r' 11 = r 11 ∧ g' 32 = g 32 ∧ (∀ k, 0 ≤ (r 8 0 k).toInt → r' 8 0 k = r 8 0 k)
theorem Rch.rf {g r : mG} : Rch g r g r := ⟨SameC.rf, SameR.rf, rfl, rfl, rfl, fun _ _ => rfl⟩
theorem Rch.tr {g r g1 r1 g2 r2 : mG} (h1 : Rch g r g1 r1) (h2 : Rch g1 r1 g2 r2) : Rch g r g2 r2 := by
  obtain ⟨a1, a2, a3, a4, a5, a6⟩ := h1
  obtain ⟨b1, b2, b3, b4, b5, b6⟩ := h2
  refine ⟨a1.tr b1, a2.tr b2, b3.trans a3, b4.trans a4, b5.trans a5, fun k hk => ?_⟩
  have e := a6 k hk
  rw [b6 k (by rw [e]; exact hk), e]
theorem BG.rch {P n : Nat} {g r g' r' : mG} (h : BG P n g r) (hr : Rch g r g' r') : BG P n g' r' := by
  obtain ⟨a1, a2, a3, a4, a5, a6⟩ := hr
  have ew : ∀ k, wd g' P k = wd g P k := fun k => by show g' 24 0 _ = g 24 0 _; rw [a1 24 (by decide) (by decide)]
  obtain ⟨b1, b2, b3⟩ := h
  refine ⟨fun k hk => by rw [a3]; exact b1 k hk, fun k hk hb => ?_, by rw [a3]; exact b3⟩
  rw [a3] at hb
  obtain ⟨c0, op, c1, c2, c3, c4, c5, c6, c7⟩ := b2 k hk hb
  refine ⟨c0, op, c1, by rw [ew]; exact c2, c3, fun z => by rw [ew]; exact c4 z, fun z => by rw [ew]; exact c5 z, by rw [a3]; exact c6, fun z => ?_⟩
  obtain ⟨t, d1, d2, d3⟩ := c7 z
  exact ⟨t, by rw [ew]; exact d1, d2, by rw [a3]; exact d3⟩
theorem reachB {P n p h : Nat} {g r : mG} (hb : BG P n g r) (hh : HT g r) (hn : n ≤ 60) (hp : p = n ∨ (p < n ∧ r 9 0 p = 1)) (h12 : h ≤ 12) :
    ∃ (x : Nat) (g' r' : mG), f_V_reach [.inr (5, 0), .inl (nI p), .inl (nI h)] g = some (nI x, g') ∧ f_R_reach [.inr (0, 0), .inl (nI p), .inl (nI h), .inl (nI n)] r = some (nI x, r') ∧ Rch g r g' r' ∧ HT g' r' ∧ (x = 0 ∨ x = 7 ∨ x = 8) ∧ (x = 0 → p < n ∧ r 9 0 p = 1 ∧ r' 8 0 p = nI h) := by
  obtain ⟨t1, t2, t3, t4, t5⟩ := hh
  have hh : HT g r := ⟨t1, t2, t3, t4, t5⟩
  rcases hp with rfl | ⟨hpn, hpb⟩
  · refine ⟨8, g, r, ?_, ?_, Rch.rf, hh, Or.inr (Or.inr rfl), fun z => by omega⟩
    · have hni : ¬ iIns g (nI p) := by
        rintro ⟨z1, z2⟩
        have z1 : inB (nI p) 60 := z1
        rw [nI_inB (by omega)] at z1
        rw [nI_clamp (by omega)] at z2
        rw [t1 p z1] at z2
        rcases hb.1 p (by omega) with z | z
        · rw [if_neg (by rw [z]; decide)] at z2
          exact z2 rfl
        · have := (hb.2.1 p (by omega) z).1
          omega
      rw [s_V_reach, if_neg hni, on8]
    · refine e_R_reach (n := 21) rfl ?_
      rw [x_R_reach, if_neg (show ¬ nI p < nI p by rw [nI_ltI (by omega) (by omega)]; omega), on8]
  · have hB61 : inB (nI p) 61 := by rw [nI_inB (by omega)]; omega
    have hB60 : inB (nI p) 60 := by rw [nI_inB (by omega)]; omega
    have cp : (nI p).toNatClampNeg = p := nI_clamp (by omega)
    have e31 : g 31 0 p = r 8 0 p := by rw [t1 p (by omega), if_pos hpb]
    have hbd := t3 p (by omega)
    have hi : iIns g (nI p) := by
      refine ⟨hB60, ?_⟩
      rw [cp, e31]
      intro z
      rw [z, tim2] at hbd
      omega
    have lpn : nI p < nI n := (nI_ltI (by omega) (by omega)).mpr hpn
    by_cases hm : r 8 0 p = Int32.ofInt (-1)
    · refine ⟨0, st3 g 31 0 p (nI h), st3 r 8 0 p (nI h), ?_, ?_, ⟨fun a x y => st3_a x, fun a x y z => st3_a x, st3_a (by decide), st3_a (by decide), st3_a (by decide), fun k hk => ?_⟩, ⟨fun k hk => ?_, fun k hk hb0 => ?_, fun k hk => ?_, fun k hk hb0 => ?_, fun k hk => ?_⟩, Or.inl rfl, fun _ => ⟨hpn, hpb, st3_same⟩⟩
      · rw [s_V_reach, if_pos hi, cp, e31, if_pos hm, on0]
      · refine e_R_reach (n := 21) rfl ?_
        rw [x_R_reach, cp, if_pos lpn, if_pos hB61, if_pos (show r 8 0 p < 0 by rw [hm]; decide), if_pos hB61, on0]
      · by_cases e : k = p
        · subst e
          rw [hm, tim1] at hk
          omega
        · exact st3_k e
      · rw [st3_row, st3_a (by decide), st3_row]
        by_cases e : k = p
        · subst e
          rw [pk_us, pk_us, if_pos hpb]
        · rw [pk_un e, pk_un e]
          exact t1 k hk
      · rw [st3_a (by decide)] at hb0
        rw [st3_row]
        by_cases e : k = p
        · subst e
          rw [hpb] at hb0
          exact absurd hb0 (by decide)
        · rw [pk_un e]; exact t2 k hk hb0
      · rw [st3_row]
        by_cases e : k = p
        · subst e
          rw [pk_us, nI_toInt (by omega)]; omega
        · rw [pk_un e]; exact t3 k hk
      · rw [st3_a (by decide)] at hb0 ⊢
        rw [st3_a (by decide)]
        exact t4 k hk hb0
      · rw [st3_a (by decide)]; exact t5 k hk
    · have hge : ¬ r 8 0 p < 0 := by
        rw [i_lt, tiz]
        rw [i_eq, tim1] at hm
        omega
      by_cases he : r 8 0 p = nI h
      · refine ⟨0, g, r, ?_, ?_, Rch.rf, hh, Or.inl rfl, fun _ => ⟨hpn, hpb, he⟩⟩
        · rw [s_V_reach, if_pos hi, cp, e31, if_neg hm, if_pos he, on0]
        · refine e_R_reach (n := 21) rfl ?_
          rw [x_R_reach, cp, if_pos lpn, if_pos hB61, if_neg hge, if_pos hB61, if_pos he, if_pos hB61, st3_id he, on0]
      · refine ⟨7, g, r, ?_, ?_, Rch.rf, hh, Or.inr (Or.inl rfl), fun z => by omega⟩
        · rw [s_V_reach, if_pos hi, cp, e31, if_neg hm, if_neg he, on7]
        · refine e_R_reach (n := 21) rfl ?_
          rw [x_R_reach, cp, if_pos lpn, if_pos hB61, if_neg hge, if_pos hB61, if_neg he, on7]
