theorem LK.marks {P n k h : Nat} {g r g' r' : mG} (hk : LK P n k h g r) (e1 : g' 24 = g 24) (e2 : r' 8 = r 8) (e3 : r' 9 = r 9) : LK P n k h g' r' := by
  obtain ⟨op, b1, b2, b3, b4, b5, b6⟩ := hk
  have ew : ∀ k, wd g' P k = wd g P k := fun k => by show g' 24 0 _ = g 24 0 _; rw [e1]
  refine ⟨op, b1, by rw [ew]; exact b2, b3, b4, ?_, ?_⟩
  · rw [e2, e3]; exact b5
  · rw [e2, e3, ew]; exact b6
set_option maxHeartbeats 4000000 in
theorem ph3 {P n : Nat} : ∀ (m d : Nat) (g r : mG) (c v : Int32) (u u' : Option mV), cz (r 11 0) 60 = m → d + m = 60 → Opn P n g r → BG P n g r → HT g r → LKA P n g r →
    ∃ (x : Int32) (g' r' : mG) (a b : Nat), rn_V_faultOfHeights a 13 [some (.inr (5, 0)), some (.inr (2, 0)), some (.inl (nI P)), some (.inl (nI 0)), some (.inl c), some (.inl (nI d)), u] [] g = some (some (.inl x), g') ∧
      rn_R_verify b 87 [some (.inr (0, 0)), some (.inl (nI n)), some (.inl v), some (.inl (nI 0)), u'] [] r = some (some (.inl x), r') ∧ SameC g g' ∧ SameR r r' ∧ 0 ≤ x.toInt ∧ (x = 0 → Fin3 P n g' r' ∧ ∀ k, 0 ≤ (r 8 0 k).toInt → r' 8 0 k = r 8 0 k) := by
  intro m
  induction m with
  | zero =>
    intro d g r c v u u' hz hdm ho hb hh hl
    have hno : ∀ i, i < 60 → ¬ TL r i := fun i hi w => cz_0 hz i hi w.2
    have hn := ho.2.1
    have hend : rn_R_verify (0 + 27) 87 [some (.inr (0, 0)), some (.inl (nI n)), some (.inl v), some (.inl (nI n)), u'] [] r = some (some (.inl (Int32.ofInt 0)), r) := by
      refine pxs_px (st := [12, 87]) 27 87 _ _ _ ?_
      refine (y_R_verify_87 (rn_R_verify 0) (nI n) v (nI n) u' r).trans ?_
      rw [if_neg (show ¬ nI n < nI n by rw [nI_ltI (by omega) (by omega)]; omega)]
    obtain ⟨b, hb2⟩ := scanR hn (Nat.le_refl n) hend n 0 (by omega) (Nat.zero_le _) (fun i _ hi => hno i (by omega))
    refine ⟨Int32.ofInt 0, g, r, 0 + 27, b, pxs_px (st := [13]) 27 13 _ _ _ ?_, hb2, SameC.rf, SameR.rf, by rw [ti0]; omega, fun _ => ⟨⟨ho, hb, hh, hl, fun k hk h8 => ?_⟩, fun _ _ => rfl⟩⟩
    · refine (y_V_faultOfHeights_13 (rn_V_faultOfHeights 0) (nI P) (nI 0) c (nI d) u g).trans ?_
      rw [if_neg (show ¬ nI d < Int32.ofInt 60 by rw [on60, nI_ltI (by omega) (by omega)]; omega), if_pos (show nI 0 = 0 from rfl)]
    · by_cases e : k = 60
      · subst e
        rcases hb.1 60 (by omega) with z | z
        · rw [hh.2.1 60 (by omega) z, tim1] at h8; omega
        · have := (hb.2.1 60 (by omega) z).1; omega
      · rcases hh.2.2.2.2 k hk with z | z
        · exact absurd ⟨h8, z⟩ (hno k (by omega))
        · exact z
  | succ m ih =>
    intro d g r c v u u' hz hdm ho hb hh hl
    have hn := ho.2.1
    have hd60 : nI d < Int32.ofInt 60 := by rw [on60, nI_ltI (by omega) (by omega)]; omega
    obtain ⟨k, k1, k2, k3⟩ := exL (TL r) (fun k => Classical.em _) 60
    obtain ⟨a0, ha0⟩ := leastS hh hb.1 k1 k2 60 0 (by omega) (Nat.zero_le _) (fun i _ hi => k3 i hi)
    have hlst : f_V_leastToLookAt [.inr (5, 0)] g = some (if k < 60 then nI k else Int32.ofInt (-1), g) := by
      refine e_V_leastToLookAt (n := a0 + 3) rfl (pxs_px (st := [2]) 3 0 _ _ _ ?_)
      refine (y_V_leastToLookAt_0 (rn_V_leastToLookAt a0) g).trans ?_
      rw [on0]; exact ha0
    by_cases hk60 : k < 60
    · -- a place to look at
      rw [if_pos hk60] at hlst
      obtain ⟨w1, w2⟩ := k2 hk60
      have hkb : r 9 0 k = 1 := by
        rcases hb.1 k (by omega) with z | z
        · rw [hh.2.1 k (by omega) z, tim1] at w1; omega
        · exact z
      have hkn := (hb.2.1 k (by omega) hkb).1
      have hbd := hh.2.2.1 k (by omega)
      obtain ⟨h, h13, hkh⟩ := inB_nI (x := r 8 0 k) (n := 13) ⟨w1, by show (r 8 0 k).toInt < 13; omega⟩
      obtain ⟨x, g', r', l1, l2, l3, l4, l5, l6⟩ := lookB ho hb hh hkn hkb hkh (by omega)
      have hS1 : SameC g g' := SameC.tr (fun a x y => st3_a y) l3.1
      have hS2 : SameR r r' := SameR.tr (fun a x y z => st3_a z) l3.2.1
      have ck : (nI k).toNatClampNeg = k := nI_clamp (by omega)
      have hB60 : inB (nI k) 60 := by rw [nI_inB (by omega)]; exact hk60
      have hB61 : inB (nI k) 61 := by rw [nI_inB (by omega)]; omega
      have km1 : ¬ nI k = Int32.ofInt (-1) := by rw [i_eq, tim1, nI_toInt (by omega)]; omega
      have e1 : nI d + Int32.ofInt 1 = nI (d + 1) := by rw [on1]; exact nI_add d 1
      have n8 : ¬ r 8 0 k < 0 := by rw [i_lt, tiz]; omega
      have ef : Int32.ofInt 16 * nI k + nI x = nI (16 * k + x) := by rw [on16, pk_mul, nI_add]
      -- both sides up to behind the look
      have stepV : ∀ (a : Nat) (res : mRes), rn_V_faultOfHeights a 13 [some (.inr (5, 0)), some (.inr (2, 0)), some (.inl (nI P)), some (.inl (nI x)), some (.inl (nI k)), some (.inl (nI (d + 1))), some (.inl (nI k))] [] g' = some res → rn_V_faultOfHeights (a + 27) 13 [some (.inr (5, 0)), some (.inr (2, 0)), some (.inl (nI P)), some (.inl (nI 0)), some (.inl c), some (.inl (nI d)), u] [] g = some res := by
        intro a res hr
        refine pxs_px (st := [13]) 27 13 _ _ _ ?_
        refine (y_V_faultOfHeights_13 (rn_V_faultOfHeights a) (nI P) (nI 0) c (nI d) u g).trans ?_
        simp only [hlst, Option.bind_some, isB_1, if_true, ck, l1, e1]
        rw [if_pos hd60, if_pos (show nI 0 = 0 from rfl), if_neg km1, if_pos hB60]
        exact hr
      by_cases hx0 : x = 0
      · subst hx0
        have r'11 : r' 11 0 = upd (r 11 0) k (Int32.ofInt 1) := by rw [l3.2.2.2.1, st3_row]
        have hcz : cz (r' 11 0) 60 = m := by
          rw [r'11]
          have := cz_upd (f := r 11 0) (k := k) (x := Int32.ofInt 1) (by decide) w2 hk60
          omega
        have ho' := ho.same hS1 hS2
        have g'24 : g' 24 = g 24 := hS1 24 (by decide) (by decide)
        have r'9 : r' 9 = r 9 := by rw [l3.2.2.1]; exact st3_a (by decide)
        have hb' : BG P n g' r' := by
          obtain ⟨b1, b2, b3⟩ := hb
          have ew : ∀ k, wd g' P k = wd g P k := fun k => by show g' 24 0 _ = g 24 0 _; rw [g'24]
          refine ⟨fun q hq => by rw [r'9]; exact b1 q hq, fun q hq z => ?_, by rw [r'9]; exact b3⟩
          rw [r'9] at z
          obtain ⟨d0, o, d1, d2, d3, d4, d5, d6, d7⟩ := b2 q hq z
          exact ⟨d0, o, d1, by rw [ew]; exact d2, d3, fun z => by rw [ew]; exact d4 z, fun z => by rw [ew]; exact d5 z, by rw [r'9]; exact d6, fun zz => by obtain ⟨t, f1, f2, f3⟩ := d7 zz; exact ⟨t, by rw [ew]; exact f1, f2, by rw [r'9]; exact f3⟩⟩
        have keep8 : ∀ q, 0 ≤ (r 8 0 q).toInt → r' 8 0 q = r 8 0 q := fun q hq => l3.2.2.2.2.2 q hq
        have hl' : LKA P n g' r' := by
          intro q hq hq1
          rw [r'11] at hq1
          by_cases e : q = k
          · subst e
            exact ⟨h, by rw [keep8 q w1]; exact hkh, by omega, l6 rfl⟩
          · rw [pk_un e] at hq1
            obtain ⟨hq2, m1, m2, m3⟩ := hl q hq hq1
            refine ⟨hq2, ?_, m2, (m3.marks (g' := st3 g 32 0 k (Int32.ofInt 1)) (r' := st3 r 11 0 k (Int32.ofInt 1)) (st3_a (by decide)) (st3_a (by decide)) (st3_a (by decide))).rch l3⟩
            rw [keep8 q (by rw [m1, nI_toInt (by omega)]; omega)]; exact m1
        obtain ⟨x, g2, r2, a, b, ha, hb2, s1, s2, s3, s4⟩ := ih (d + 1) g' r' (nI k) v (some (.inl (nI k))) (some (.inl (nI 0))) hcz (by omega) ho' hb' l4 hl'
        have hR : rn_R_verify (b + 27) 87 [some (.inr (0, 0)), some (.inl (nI n)), some (.inl v), some (.inl (nI k)), u'] [] r = some (some (.inl x), r2) := by
          refine pxs_px (st := [12, 87]) 27 87 _ _ _ ?_
          refine (y_R_verify_87 (rn_R_verify b) (nI n) v (nI k) u' r).trans ?_
          simp only [ck, l2, Option.bind_some, nI_ltN (show k < 2 ^ 31 by omega) (show n < 2 ^ 31 by omega), on0]
          rw [if_pos hkn, if_pos hB61, if_neg n8, if_pos hB61, if_pos w2, if_neg (show ¬ (0 : Int32) < nI 0 by decide)]
          exact hb2
        obtain ⟨b', hb'2⟩ := scanR hn (by omega) hR 60 0 (by omega) (Nat.zero_le _) (fun i _ hi => k3 i hi)
        exact ⟨x, g2, r2, a + 27, b', stepV a _ ha, hb'2, hS1.tr s1, hS2.tr s2, s3, fun e => ⟨(s4 e).1, fun q hq => by rw [(s4 e).2 q (by rw [keep8 q hq]; exact hq), keep8 q hq]⟩⟩
      · have hxn : ¬ nI x = 0 := by
          rw [show (0 : Int32) = nI 0 from rfl, nI_eq (by omega) (by omega)]; exact hx0
        have hV : rn_V_faultOfHeights (0 + 27) 13 [some (.inr (5, 0)), some (.inr (2, 0)), some (.inl (nI P)), some (.inl (nI x)), some (.inl (nI k)), some (.inl (nI (d + 1))), some (.inl (nI k))] [] g' = some (some (.inl (nI (16 * k + x))), g') := by
          refine pxs_px (st := [13]) 27 13 _ _ _ ?_
          refine (y_V_faultOfHeights_13 (rn_V_faultOfHeights 0) (nI P) (nI x) (nI k) (nI (d + 1)) (some (.inl (nI k))) g').trans ?_
          simp only [s_V_fault, Option.bind_some, ef]
          by_cases hd2 : nI (d + 1) < Int32.ofInt 60
          · rw [if_pos hd2, if_neg hxn, if_neg hxn]
          · rw [if_neg hd2, if_neg hxn]
        have hR : rn_R_verify (0 + 27) 87 [some (.inr (0, 0)), some (.inl (nI n)), some (.inl v), some (.inl (nI k)), u'] [] r = some (some (.inl (nI (16 * k + x))), r') := by
          refine pxs_px (st := [12, 87]) 27 87 _ _ _ ?_
          refine (y_R_verify_87 (rn_R_verify 0) (nI n) v (nI k) u' r).trans ?_
          simp only [ck, l2, Option.bind_some, nI_ltN (show k < 2 ^ 31 by omega) (show n < 2 ^ 31 by omega), ef]
          rw [if_pos hkn, if_pos hB61, if_neg n8, if_pos hB61, if_pos w2, if_pos (show (0 : Int32) < nI x by rw [i_lt, tiz, nI_toInt (by omega)]; omega)]
        obtain ⟨b', hb'2⟩ := scanR hn (by omega) hR 60 0 (by omega) (Nat.zero_le _) (fun i _ hi => k3 i hi)
        refine ⟨nI (16 * k + x), g', r', 0 + 27 + 27, b', stepV _ _ hV, hb'2, hS1, hS2, by rw [nI_toInt (by omega)]; omega, fun e => ?_⟩
        exfalso
        rw [show (0 : Int32) = nI 0 from rfl, nI_eq (by omega) (by omega)] at e
        omega
    · -- none is left
      rw [if_neg hk60] at hlst
      have hno : ∀ i, i < 60 → ¬ TL r i := fun i hi => k3 i (by omega)
      have hend : rn_R_verify (0 + 27) 87 [some (.inr (0, 0)), some (.inl (nI n)), some (.inl v), some (.inl (nI n)), u'] [] r = some (some (.inl (Int32.ofInt 0)), r) := by
        refine pxs_px (st := [12, 87]) 27 87 _ _ _ ?_
        refine (y_R_verify_87 (rn_R_verify 0) (nI n) v (nI n) u' r).trans ?_
        rw [if_neg (show ¬ nI n < nI n by rw [nI_ltI (by omega) (by omega)]; omega)]
      obtain ⟨b, hb2⟩ := scanR hn (Nat.le_refl n) hend n 0 (by omega) (Nat.zero_le _) (fun i _ hi => hno i (by omega))
      refine ⟨Int32.ofInt 0, g, r, 0 + 27, b, pxs_px (st := [13]) 27 13 _ _ _ ?_, hb2, SameC.rf, SameR.rf, by rw [ti0]; omega, fun _ => ⟨⟨ho, hb, hh, hl, fun k hk h8 => ?_⟩, fun _ _ => rfl⟩⟩
      · refine (y_V_faultOfHeights_13 (rn_V_faultOfHeights 0) (nI P) (nI 0) c (nI d) u g).trans ?_
        simp only [hlst, Option.bind_some, if_true]
        rw [if_pos hd60, if_pos (show nI 0 = 0 from rfl)]
      · by_cases e : k = 60
        · subst e
          rcases hb.1 60 (by omega) with z | z
          · rw [hh.2.1 60 (by omega) z, tim1] at h8; omega
          · have := (hb.2.1 60 (by omega) z).1; omega
        · rcases hh.2.2.2.2 k hk with z | z
          · exact absurd ⟨h8, z⟩ (hno k (by omega))
          · exact z
