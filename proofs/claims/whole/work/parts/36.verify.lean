/-! the verifier as a whole -/
theorem cz_all {f : Nat → Int32} : ∀ {m : Nat}, (∀ k, k < m → f k = 0) → cz f m = m
  | 0, _ => rfl
  | m + 1, h => by
    unfold cz
    rw [cz_all (m := m) (fun k hk => h k (by omega)), if_pos (h m (by omega))]
theorem Fin3.snd {P n : Nat} {g r : mG} (h : Fin3 P n g r) (h0 : r 8 0 0 = nI 0) : Snd (fun k => g 24 0 (60 * P + k)) n P := by
  obtain ⟨ho, hb, hh, hl, hs⟩ := h
  have hn := ho.2.1
  have some_of : ∀ q m, q < 60 → m ≤ 12 → r 8 0 q = nI m → (if q < 60 ∧ 0 ≤ (r 8 0 q).toInt then some (r 8 0 q).toNatClampNeg else none) = some m := fun q m hq hm e => by
    rw [e, nI_toInt (by omega), if_pos ⟨hq, by omega⟩, nI_clamp (by omega)]
  refine ⟨fun k => if k < 60 ∧ 0 ≤ (r 8 0 k).toInt then some (r 8 0 k).toNatClampNeg else none, some_of 0 0 (by omega) (by omega) h0, fun k h hk => ?_⟩
  dsimp only at hk
  split at hk
  · next hc =>
    have ek := Option.some.inj hk
    have hb3 := hh.2.2.1 k (by omega)
    obtain ⟨h', m1, m2, m3⟩ := hl k (by omega) (hs k (by omega) hc.2)
    have eh : h' = h := by rw [← ek, m1, nI_clamp (by omega)]
    subst eh
    have hkb : r 9 0 k = 1 := by
      rcases hb.1 k (by omega) with z | z
      · have := hc.2
        rw [hh.2.1 k (by omega) z, tim1] at this; omega
      · exact z
    obtain ⟨c0, op, c1, c2, c3, c4, c5, c6, c7⟩ := hb.2.1 k (by omega) hkb
    obtain ⟨op', b1, b2, b3, b4, b5, b6⟩ := m3
    have eo : op' = op := (nI_eq (by omega) (by omega)).mp (b2.symm.trans c2)
    subst eo
    have haf : aft h' op' = h' - tkL.getD op' 0 + gvL.getD op' 0 := rfl
    refine ⟨op', c1, c2, by omega, b3, b4, c4, c5, fun x y z => ?_, fun x => ?_⟩
    · obtain ⟨d1, d2, d3⟩ := b5 x y z
      exact some_of _ _ (by omega) b4 d3
    · obtain ⟨t, d1, d2, d3, d4⟩ := b6 x
      exact ⟨t, d1, d2, some_of t _ (by omega) b4 d4⟩
  · cases hk
set_option maxHeartbeats 4000000 in
theorem verifyB {P n : Nat} {g r : mG} (ho : Opn P n g r) (h7 : r 7 0 P = nI n) : ∃ (x : Int32) (g' r' : mG), f_V_firstFault [.inr (5, 0), .inr (2, 0), .inl (nI P)] g = some (x, g') ∧ f_R_verify [.inr (0, 0)] r = some (x, r') ∧ SameC g g' ∧ SameR r r' ∧ 0 ≤ x.toInt ∧ (x = 0 → Snd (fun k => g 24 0 (60 * P + k)) n P) := by
  obtain ⟨hP, hn, hw, hlen, hv, hrp⟩ := ho
  have ho : Opn P n g r := ⟨hP, hn, hw, hlen, hv, hrp⟩
  -- fill and clear
  obtain ⟨g1, f1, f2, f3, f4, f5⟩ := s_A_fill_31 (Int32.ofInt (-2)) g
  have sg1 : SameC g g1 := fun a x _ => f2 a x
  obtain ⟨r1, q1, q2, -, q4⟩ := clR (n := n) 61 0 r (by omega) (by omega)
  have close : ∀ (c : Nat) (res : mRes), rs_R_verify [12, 87] (rn_R_verify c) 25 12 [some (.inr (0, 0)), some (.inl (nI n)), some (.inl (nI 61)), none, none] [] r1 = some res → ∃ b', rn_R_verify b' 0 (mL0 [.inr (0, 0)] 5) [] r = some res := by
    intro c res h
    obtain ⟨b', hb'⟩ := q4 (c + 25) res (pxs_px (st := [12, 87]) 25 12 _ _ _ h)
    refine ⟨b' + 9, pxs_px (st := [12, 87]) 9 0 _ _ _ ?_⟩
    refine (y_R_verify_0 (rn_R_verify b') r).trans ?_
    rw [if_pos (show inB (r 0 0 7) 12 by rw [hrp, nI_inB (by omega)]; exact hP), hrp, nI_clamp (by omega), h7, on0]
    exact hb'
  have ho1 : Opn P n g1 r1 := ho.same sg1 q1
  have z9 : ∀ k, k < 61 → r1 9 0 k = 0 := fun k hk => (q2 k (Nat.zero_le _) hk).2.1
  have n9 : ∀ k, k < 61 → ¬ r1 9 0 k = 1 := fun k hk => by rw [z9 k hk]; decide
  have hJ0 : J1 P n 0 g1 r1 := ⟨fun k hk => by rw [f4 k hk, if_neg (n9 k (by omega))], fun k hk => Or.inl (z9 k hk), fun k hk h => absurd h (n9 k hk), fun k hk h => absurd h (n9 k (by omega)), fun k hk h => absurd h (n9 k hk), Or.inl rfl⟩
  obtain ⟨x, g2, r2, a, b, ha, hb, s1, s2, s3, s4, s5, s6⟩ := ph1 n 0 0 g1 r1 none none none (by omega) (by omega) (by omega) ho1 hJ0
  have hW : f_V_faultOfWords [.inr (5, 0), .inr (2, 0), .inl (nI P)] g = some (x, g2) := by
    refine e_V_faultOfWords (n := a + 15) rfl (pxs_px (st := [26]) 15 0 _ _ _ ?_)
    refine (y_V_faultOfWords_0 (rn_V_faultOfWords a) (nI P) g).trans ?_
    simp only [f1, Option.bind_some, s_L_lengthN P n g1 hP ho1.2.2.2.1]
    rw [if_neg (show ¬ Int32.ofInt 60 < nI n by rw [on60, nI_ltI (by omega) (by omega)]; omega), on0]
    exact ha
  have hSh : f_R_shape [.inr (0, 0), .inl (nI n)] r1 = some (x, r2) := by
    refine e_R_shape (n := b + 3) rfl (pxs_px (st := [2]) 3 0 _ _ _ ?_)
    refine (y_R_shape_0 (rn_R_shape b) (nI n) r1).trans ?_
    rw [on0]; exact hb
  have n61 : ¬ nI 61 < Int32.ofInt 61 := by decide
  have sg2 : SameC g g2 := sg1.tr s1
  have sr2 : SameR r r2 := q1.tr s2
  by_cases hx : x = 0
  · subst hx
    have hJ := s4 rfl
    have ho2 : Opn P n g2 r2 := ho1.same s1 s2
    obtain ⟨x2, a2, b2, ha2, hb2, t3, t4⟩ := ph2 ho2 hJ n 0 none none (by omega) (by omega)
    have hPl : f_V_faultOfPlaces [.inr (5, 0), .inr (2, 0), .inl (nI P)] g2 = some (x2, g2) := by
      refine e_V_faultOfPlaces (n := a2 + 3) rfl (pxs_px (st := [2]) 3 0 _ _ _ ?_)
      refine (y_V_faultOfPlaces_0 (rn_V_faultOfPlaces a2) (nI P) g2).trans ?_
      rw [on0]; exact ha2
    have hJu : f_R_jumps [.inr (0, 0), .inl (nI n)] r2 = some (x2, r2) := by
      refine e_R_jumps (n := b2 + 3) rfl (pxs_px (st := [2]) 3 0 _ _ _ ?_)
      refine (y_R_jumps_0 (rn_R_jumps b2) (nI n) r2).trans ?_
      rw [on0]; exact hb2
    by_cases hx2 : x2 = 0
    · subst hx2
      have hB : BG P n g2 r2 := by
        obtain ⟨j1, j2, j3, j4, j5, j6⟩ := hJ
        refine ⟨j2, fun k hk h => ?_, j6⟩
        obtain ⟨op, c1, c2, c3, c4, c5, c6⟩ := j5 k hk h
        have hkn := j3 k hk h
        exact ⟨hkn, op, c1, c2, c3, c4, c5, c6, fun z => t4 rfl k (Nat.zero_le _) hkn h (by rcases z with rfl | rfl; exact Or.inl c2; exact Or.inr c2)⟩
      have e8 : ∀ k, k < 61 → r2 8 0 k = Int32.ofInt (-1) := fun k hk => by rw [s5]; exact (q2 k (Nat.zero_le _) hk).1
      have e11 : ∀ k, k < 61 → r2 11 0 k = 0 := fun k hk => by rw [s6]; exact (q2 k (Nat.zero_le _) hk).2.2
      by_cases hn0 : n = 0
      · -- no words at all
        subst hn0
        have hni : ¬ iIns g2 (Int32.ofInt 0) := fun z => by
          rw [on0] at z
          have := ((iIns_iff hJ (by omega) (nI 0)).mp z).2.1
          rw [nI_toInt (by omega)] at this
          omega
        have hH : f_V_faultOfHeights [.inr (5, 0), .inr (2, 0), .inl (nI P)] g2 = some (Int32.ofInt 8, g2) := by
          refine e_V_faultOfHeights (n := 0 + 27 + 10) rfl (pxs_px (st := [13]) 10 0 _ _ _ ?_)
          refine (y_V_faultOfHeights_0 (rn_V_faultOfHeights (0 + 27)) (nI P) g2).trans ?_
          rw [s_V_reach, if_neg hni]
          rw [Option.bind_some]
          refine pxs_px (st := [13]) 27 13 _ _ _ ?_
          refine (y_V_faultOfHeights_13 (rn_V_faultOfHeights 0) (nI P) (Int32.ofInt 8) (Int32.ofInt 0) (Int32.ofInt 0) none g2).trans ?_
          rw [if_pos (show Int32.ofInt 0 < Int32.ofInt 60 by decide), if_neg (show ¬ Int32.ofInt 8 = 0 by decide), if_neg (show ¬ Int32.ofInt 8 = 0 by decide), s_V_fault]
          show some (some (Sum.inl (Int32.ofInt 16 * Int32.ofInt 0 + Int32.ofInt 8)), g2) = _
          rw [show Int32.ofInt 16 * Int32.ofInt 0 + Int32.ofInt 8 = Int32.ofInt 8 by decide]
        obtain ⟨b', hb'⟩ := close 0 (some (.inl (Int32.ofInt 8)), r2) (by
          refine (y_R_verify_12 (rn_R_verify 0) (nI 0) (nI 61) r1).trans ?_
          rw [if_neg n61, hSh]
          simp only [Option.bind_some, hJu]
          rw [if_neg (show ¬ (0 : Int32) < 0 by decide), if_neg (show ¬ (0 : Int32) < 0 by decide), if_pos (show nI 0 = 0 from rfl)])
        refine ⟨Int32.ofInt 8, g2, r2, e_V_firstFault (n := 21) rfl ?_, e_R_verify (n := b') rfl hb', sg2, sr2, by rw [ti8]; omega, fun e => absurd e (by decide)⟩
        rw [x_V_firstFault, hW]
        simp only [Option.bind_some, hPl, hH, if_true]
      · have hb0 : r2 9 0 0 = 1 := (hB.2.2).resolve_left hn0
        have e31 : g2 31 0 0 = Int32.ofInt (-1) := by rw [hJ.1 0 (by omega), if_pos hb0]
        have hi0 : iIns g2 (Int32.ofInt 0) := ⟨by decide, by rw [show (Int32.ofInt 0).toNatClampNeg = 0 by decide, e31]; decide⟩
        have sg3 : SameC g2 (st3 g2 31 0 0 (Int32.ofInt 0)) := fun a x y => st3_a x
        have sr3 : SameR r2 (st3 r2 8 0 0 (Int32.ofInt 0)) := fun a x y z => st3_a x
        have hH3 : HT (st3 g2 31 0 0 (Int32.ofInt 0)) (st3 r2 8 0 0 (Int32.ofInt 0)) := by
          refine ⟨fun k hk => ?_, fun k hk z => ?_, fun k hk => ?_, fun k hk z => ?_, fun k hk => ?_⟩
          · rw [st3_row, st3_row, st3_a (by decide)]
            by_cases e : k = 0
            · subst e; rw [pk_us, pk_us, if_pos hb0]
            · rw [pk_un e, pk_un e, hJ.1 k hk, e8 k (by omega)]
          · rw [st3_a (by decide)] at z
            rw [st3_row]
            by_cases e : k = 0
            · subst e; rw [hb0] at z; exact absurd z (by decide)
            · rw [pk_un e]; exact e8 k hk
          · rw [st3_row]
            by_cases e : k = 0
            · subst e; rw [pk_us, ti0]; omega
            · rw [pk_un e, e8 k hk, tim1]; omega
          · rw [st3_a (by decide)] at z ⊢
            rw [st3_a (by decide), e11 k (by omega)]
            exact hJ.2.2.2.1 k hk z
          · rw [st3_a (by decide)]; exact Or.inl (e11 k hk)
        have ho3 := ho2.same sg3 sr3
        have hB3 : BG P n (st3 g2 31 0 0 (Int32.ofInt 0)) (st3 r2 8 0 0 (Int32.ofInt 0)) := hB.rch ⟨sg3, sr3, st3_a (by decide), st3_a (by decide), st3_a (by decide), fun k hk => by
          by_cases e : k = 0
          · subst e; rw [e8 0 (by omega), tim1] at hk; omega
          · exact st3_k e⟩
        have e11' : (st3 r2 8 0 0 (Int32.ofInt 0)) 11 = r2 11 := st3_a (by decide)
        have hL3 : LKA P n (st3 g2 31 0 0 (Int32.ofInt 0)) (st3 r2 8 0 0 (Int32.ofInt 0)) := fun k hk z => by
          rw [e11', e11 k hk] at z
          exact absurd z (by decide)
        obtain ⟨x3, g4, r4, a3, b3, ha3, hb3, u1, u2, u3, u4⟩ := ph3 (P := P) (n := n) 60 0 _ _ (Int32.ofInt 0) 0 none none (by rw [e11']; exact cz_all fun k hk => e11 k (by omega)) rfl ho3 hB3 hH3 hL3
        have hH : f_V_faultOfHeights [.inr (5, 0), .inr (2, 0), .inl (nI P)] g2 = some (x3, g4) := by
          refine e_V_faultOfHeights (n := a3 + 10) rfl (pxs_px (st := [13]) 10 0 _ _ _ ?_)
          refine (y_V_faultOfHeights_0 (rn_V_faultOfHeights a3) (nI P) g2).trans ?_
          rw [s_V_reach, if_pos hi0, show (Int32.ofInt 0).toNatClampNeg = 0 by decide, if_pos e31]
          exact ha3
        obtain ⟨b', hb'⟩ := close b3 (some (.inl x3), r4) (by
          refine (y_R_verify_12 (rn_R_verify b3) (nI n) (nI 61) r1).trans ?_
          rw [if_neg n61, hSh]
          simp only [Option.bind_some, hJu]
          rw [if_neg (show ¬ (0 : Int32) < 0 by decide), if_neg (show ¬ (0 : Int32) < 0 by decide), if_neg (show ¬ nI n = 0 by rw [show (0 : Int32) = nI 0 from rfl, nI_eq (by omega) (by omega)]; exact hn0), if_pos (show inB (Int32.ofInt 0) 61 by decide), show (Int32.ofInt 0).toNatClampNeg = 0 by decide]
          exact hb3)
        refine ⟨x3, g4, r4, e_V_firstFault (n := 21) rfl ?_, e_R_verify (n := b') rfl hb', (sg2.tr sg3).tr u1, (sr2.tr sr3).tr u2, u3, fun e => ?_⟩
        · rw [x_V_firstFault, hW]
          simp only [Option.bind_some, hPl, hH, if_true]
        · obtain ⟨v1, v2⟩ := u4 e
          have h00 : r4 8 0 0 = nI 0 := by
            rw [v2 0 (by rw [st3_same, ti0]; omega), st3_same, on0]
          have hs := Fin3.snd v1 h00
          have e24 : g4 24 = g 24 := ((sg2.tr sg3).tr u1) 24 (by decide) (by decide)
          rw [e24] at hs
          exact hs
    · have hp2 : (0 : Int32) < x2 := by
        rw [i_lt, tiz]
        rw [i_eq, tiz] at hx2
        omega
      obtain ⟨b', hb'⟩ := close 0 (some (.inl x2), r2) (by
        refine (y_R_verify_12 (rn_R_verify 0) (nI n) (nI 61) r1).trans ?_
        rw [if_neg n61, hSh]
        simp only [Option.bind_some, hJu]
        rw [if_neg (show ¬ (0 : Int32) < 0 by decide), if_pos hp2])
      refine ⟨x2, g2, r2, e_V_firstFault (n := 21) rfl ?_, e_R_verify (n := b') rfl hb', sg2, sr2, t3, fun e => absurd e hx2⟩
      rw [x_V_firstFault, hW]
      simp only [Option.bind_some, hPl, if_true]
      rw [if_neg hx2]
  · have hp : (0 : Int32) < x := by
      rw [i_lt, tiz]
      rw [i_eq, tiz] at hx
      omega
    obtain ⟨b', hb'⟩ := close 0 (some (.inl x), r2) (by
      refine (y_R_verify_12 (rn_R_verify 0) (nI n) (nI 61) r1).trans ?_
      rw [if_neg n61, hSh]
      simp only [Option.bind_some]
      rw [if_pos hp, if_pos hp])
    refine ⟨x, g2, r2, e_V_firstFault (n := 21) rfl ?_, e_R_verify (n := b') rfl hb', sg2, sr2, s3, fun e => absurd e hx⟩
    rw [x_V_firstFault, hW]
    simp only [Option.bind_some]
    rw [if_neg hx, if_neg hx]
