/-! the first going over the words: both sides in step -/
def SameC (g g' : mG) : Prop := ∀ a, a ≠ 31 → a ≠ 32 → g' a = g a
def SameR (r r' : mG) : Prop := ∀ a, a ≠ 8 → a ≠ 9 → a ≠ 11 → r' a = r a
theorem SameC.rf {g : mG} : SameC g g := fun _ _ _ => rfl
theorem SameR.rf {r : mG} : SameR r r := fun _ _ _ _ => rfl
theorem SameC.tr {g g1 g2 : mG} (h1 : SameC g g1) (h2 : SameC g1 g2) : SameC g g2 := fun a x y => (h2 a x y).trans (h1 a x y)
theorem SameR.tr {g g1 g2 : mG} (h1 : SameR g g1) (h2 : SameR g1 g2) : SameR g g2 := fun a x y z => (h2 a x y z).trans (h1 a x y z)
/-- the open procedure, as both sides have it -/
def Opn (P n : Nat) (g r : mG) : Prop := P < 12 ∧ n ≤ 60 ∧ g 24 0 = r 6 0 ∧ g 25 0 P = nI n ∧ g 2 0 3 = nI P ∧ r 0 0 7 = nI P
theorem Opn.same {P n : Nat} {g r g' r' : mG} (h : Opn P n g r) (hg : SameC g g') (hr : SameR r r') : Opn P n g' r' := by
  obtain ⟨a1, a2, a3, a4, a5, a6⟩ := h
  refine ⟨a1, a2, ?_, ?_, ?_, ?_⟩
  · rw [hg 24 (by decide) (by decide), hr 6 (by decide) (by decide) (by decide)]; exact a3
  · rw [hg 25 (by decide) (by decide)]; exact a4
  · rw [hg 2 (by decide) (by decide)]; exact a5
  · rw [hr 0 (by decide) (by decide) (by decide)]; exact a6
abbrev wd (g : mG) (P k : Nat) : Int32 := g 24 0 (60 * P + k)
/-- where instructions stand, up to a place -/
def J1 (P n t : Nat) (g r : mG) : Prop := (∀ k, k < 60 → g 31 0 k = if r 9 0 k = 1 then Int32.ofInt (-1) else Int32.ofInt (-2)) ∧ (∀ k, k < 61 → r 9 0 k = 0 ∨ r 9 0 k = 1) ∧ (∀ k, k < 61 → r 9 0 k = 1 → k < t) ∧ (∀ k, k < 60 → r 9 0 k = 1 → g 32 0 k = 0) ∧
  (∀ k, k < 61 → r 9 0 k = 1 → ∃ op, op < 27 ∧ wd g P k = nI op ∧ k + 1 + opL.getD op 0 ≤ t ∧ (1 ≤ opL.getD op 0 → kOk (k1L.getD op 0) (wd g P (k + 1)) P) ∧ (2 ≤ opL.getD op 0 → kOk (k2L.getD op 0) (wd g P (k + 2)) P) ∧ (k + 1 + opL.getD op 0 = t ∨ r 9 0 (k + 1 + opL.getD op 0) = 1)) ∧ (t = 0 ∨ r 9 0 0 = 1)
theorem s_V_rule27 (a b : Int32) (g : mG) : f_V_ruleOfWords [.inr (2, 0), .inl a, .inl b, .inr (100, 27)] g = some (Int32.ofInt 1, g) := by
  refine e_V_ruleOfWords (n := 41) rfl ?_
  rw [x_V_ruleOfWords, if_pos rfl]
theorem J1.step {P n t op : Nat} {g r : mG} (h : J1 P n t g r) (ho : Opn P n g r) (ht : t < n) (hop : op < 27) (hw : wd g P t = nI op) (hle : t + (1 + opL.getD op 0) ≤ n) (k1 : kB (k1L.getD op 0) (wd g P (t + 1)) P = true) (k2 : kB (k2L.getD op 0) (wd g P (t + 2)) P = true) :
    J1 P n (t + (1 + opL.getD op 0)) (st3 (st3 g 31 0 t (Int32.ofInt (-1))) 32 0 t (Int32.ofInt 0)) (st3 r 9 0 t (Int32.ofInt 1)) := by
  obtain ⟨a1, a2, a3, a4, a5, a6⟩ := h
  have hn := ho.2.1
  have eg31 : (st3 (st3 g 31 0 t (Int32.ofInt (-1))) 32 0 t (Int32.ofInt 0)) 31 0 = upd (g 31 0) t (Int32.ofInt (-1)) := by
    rw [st3_a (by decide), st3_row]
  have eg32 : (st3 (st3 g 31 0 t (Int32.ofInt (-1))) 32 0 t (Int32.ofInt 0)) 32 0 = upd (g 32 0) t (Int32.ofInt 0) := by
    rw [st3_row, st3_a (by decide)]
  have er : (st3 r 9 0 t (Int32.ofInt 1)) 9 0 = upd (r 9 0) t 1 := by rw [st3_row, of1]
  have ew : ∀ k, wd (st3 (st3 g 31 0 t (Int32.ofInt (-1))) 32 0 t (Int32.ofInt 0)) P k = wd g P k := fun k => by
    show st3 _ 32 0 _ _ 24 0 _ = _
    rw [st3_a (by decide), st3_a (by decide)]
  have key : ∀ k, upd (r 9 0) t 1 k = 1 → k = t ∨ r 9 0 k = 1 := fun k hk => by
    by_cases e : k = t
    · exact Or.inl e
    · rw [pk_un e] at hk; exact Or.inr hk
  have keep : ∀ k, r 9 0 k = 1 → upd (r 9 0) t 1 k = 1 := fun k hk => by
    by_cases e : k = t
    · rw [e, pk_us]
    · rw [pk_un e]; exact hk
  refine ⟨fun k hk => ?_, fun k hk => ?_, fun k hk hb => ?_, fun k hk hb => ?_, fun k hk hb => ?_, Or.inr ?_⟩
  · rw [eg31, er]
    by_cases e : k = t
    · rw [e, pk_us, pk_us, if_pos rfl]
    · rw [pk_un e, pk_un e]; exact a1 k hk
  · rw [er]
    by_cases e : k = t
    · rw [e, pk_us]; exact Or.inr rfl
    · rw [pk_un e]; exact a2 k hk
  · rw [er] at hb
    rcases key k hb with e | e
    · omega
    · have := a3 k hk e; omega
  · rw [er] at hb
    rw [eg32]
    by_cases e : k = t
    · rw [e, pk_us, of0]
    · rw [pk_un e]
      rcases key k hb with e2 | e2
      · exact absurd e2 e
      · exact a4 k hk e2
  · rw [er] at hb
    by_cases e : k = t
    · subst e
      refine ⟨op, hop, by rw [ew]; exact hw, by omega, fun _ => by rw [ew]; exact kB_ok k1, fun _ => by rw [ew]; exact kB_ok k2, Or.inl (by omega)⟩
    · rcases key k hb with e2 | e2
      · exact absurd e2 e
      · obtain ⟨o, b1, b2, b3, b4, b5, b6⟩ := a5 k hk e2
        refine ⟨o, b1, by rw [ew]; exact b2, by omega, fun z => by rw [ew]; exact b4 z, fun z => by rw [ew]; exact b5 z, Or.inr ?_⟩
        rw [er]
        rcases b6 with b6 | b6
        · rw [b6, pk_us]
        · exact keep _ b6
  · rw [er]
    rcases a6 with e | e
    · subst e; exact pk_us
    · exact keep 0 e
set_option maxHeartbeats 4000000 in
theorem ph1 {P n : Nat} : ∀ (m t d : Nat) (g r : mG) (u v u' : Option mV), n - t ≤ m → t ≤ n → d ≤ t → Opn P n g r → J1 P n t g r →
    ∃ (x : Int32) (g' r' : mG) (a b : Nat), rn_V_faultOfWords a 26 [some (.inr (5, 0)), some (.inr (2, 0)), some (.inl (nI P)), some (.inl (nI n)), some (.inl (nI t)), some (.inl (nI d)), u, v] [] g = some (some (.inl x), g') ∧
      rn_R_shape b 2 [some (.inr (0, 0)), some (.inl (nI n)), some (.inl (nI t)), u'] [] r = some (some (.inl x), r') ∧ SameC g g' ∧ SameR r r' ∧ 0 ≤ x.toInt ∧ (x = 0 → J1 P n n g' r') ∧ (r' 8 = r 8 ∧ r' 11 = r 11) := by
  intro m
  induction m with
  | zero =>
    intro t d g r u v u' hm ht hd ho hJ
    have e : t = n := by omega
    subst e
    refine ⟨Int32.ofInt 0, g, r, 0 + 37, 0 + 40, pxs_px (st := [26]) 37 26 _ _ _ ?_, pxs_px (st := [2]) 40 2 _ _ _ ?_, SameC.rf, SameR.rf, by rw [ti0]; omega, fun _ => hJ, rfl, rfl⟩
    · refine (y_V_faultOfWords_26 (rn_V_faultOfWords 0) (nI P) (nI t) (nI t) (nI d) u v g).trans ?_
      have hn := ho.2.1
      simp only [nI_ltN (show t < 2 ^ 31 by omega) (show t < 2 ^ 31 by omega)]
      rw [if_neg (show ¬ t < t by omega)]
      split <;> rfl
    · refine (y_R_shape_2 (rn_R_shape 0) (nI t) (nI t) u' r).trans ?_
      have hn := ho.2.1
      simp only [nI_ltN (show t < 2 ^ 31 by omega) (show t < 2 ^ 31 by omega)]
      rw [if_neg (show ¬ t < t by omega)]
  | succ m ih =>
    intro t d g r u v u' hm ht hd ho hJ
    by_cases htn : t = n
    · subst htn
      refine ⟨Int32.ofInt 0, g, r, 0 + 37, 0 + 40, pxs_px (st := [26]) 37 26 _ _ _ ?_, pxs_px (st := [2]) 40 2 _ _ _ ?_, SameC.rf, SameR.rf, by rw [ti0]; omega, fun _ => hJ, rfl, rfl⟩
      · refine (y_V_faultOfWords_26 (rn_V_faultOfWords 0) (nI P) (nI t) (nI t) (nI d) u v g).trans ?_
        have hn := ho.2.1
        simp only [nI_ltN (show t < 2 ^ 31 by omega) (show t < 2 ^ 31 by omega)]
        rw [if_neg (show ¬ t < t by omega)]
        split <;> rfl
      · refine (y_R_shape_2 (rn_R_shape 0) (nI t) (nI t) u' r).trans ?_
        have hn := ho.2.1
        simp only [nI_ltN (show t < 2 ^ 31 by omega) (show t < 2 ^ 31 by omega)]
        rw [if_neg (show ¬ t < t by omega)]
    · have htl : t < n := by omega
      obtain ⟨hP, hn, hw, hlen, hv, hrp⟩ := ho
      have ho : Opn P n g r := ⟨hP, hn, hw, hlen, hv, hrp⟩
      have hwr : r 6 0 = g 24 0 := hw.symm
      have l1 : (nI t < nI n) = True := eq_true ((nI_ltI (by omega) (by omega)).mpr htl)
      have l2 : (nI d < nI n) = True := eq_true ((nI_ltI (by omega) (by omega)).mpr (by omega))
      by_cases hop : inB (wd g P t) 27
      · obtain ⟨op, hop2, hw2⟩ := inB_nI hop
        have hw3 : g 24 0 (60 * P + t) = nI op := hw2
        have hio : iOf (g 24 0 (60 * P + t)) = op := by rw [hw3]; exact iOf_op (by omega)
        have hv1 := (v_op op hop2).1
        have hol := (opL_le op hop2).2
        obtain ⟨w1, -, -, -, -, -, w7, w8⟩ := wdL op hop2
        have hrul := s_V_ruleOfWords P t n op g hP htl hlen hn hv hop2
        have q1 : (nI op < 0) = False := eq_false (by rw [i_lt, tiz, nI_toInt (by omega)]; omega)
        have q2 : (Int32.ofInt 26 < nI op) = False := eq_false (by rw [i_lt, ti26, nI_toInt (by omega)]; omega)
        have hB60 : inB (nI t) 60 := by rw [nI_inB (by omega)]; omega
        have hB61 : inB (nI t) 61 := by rw [nI_inB (by omega)]; omega
        have ct : (nI t).toNatClampNeg = t := nI_clamp (by omega)
        have hsm1 : SameC g (st3 (st3 g 31 0 t (Int32.ofInt (-1))) 32 0 t (Int32.ofInt 0)) := fun a h1 h2 => by rw [st3_a h2, st3_a h1]
        have hsm2 : SameR r (st3 r 9 0 t (Int32.ofInt 1)) := fun a h1 h2 h3 => by rw [st3_a h2]
        by_cases c1 : n < t + (1 + opL.getD op 0)
        · have eR : rlW (fun j => g 24 0 (60 * P + j)) n P t op = 2 := if_pos c1
          have ef : Int32.ofInt 16 * nI t + nI 2 = nI (16 * t + 2) := by rw [on16, pk_mul, nI_add]
          have q3 : (nI (t + opL.getD op 0) < nI n) = False := eq_false (by rw [nI_ltI (by omega) (by omega)]; omega)
          refine ⟨nI (16 * t + 2), g, r, 0 + 37, 0 + 40, pxs_px (st := [26]) 37 26 _ _ _ ?_, pxs_px (st := [2]) 40 2 _ _ _ ?_, SameC.rf, SameR.rf, by rw [nI_toInt (by omega)]; omega, fun e => ?_, rfl, rfl⟩
          · refine (y_V_faultOfWords_26 (rn_V_faultOfWords 0) (nI P) (nI n) (nI t) (nI d) u v g).trans ?_
            simp only [l1, l2, if_true, s_L_insN P t n g hP htl hlen hn, Option.bind_some, hio, hrul, eR]
            rw [if_neg (show ¬ nI 2 = 0 by decide)]
            simp only [s_V_fault, Option.bind_some, ef]
          · refine (y_R_shape_2 (rn_R_shape 0) (nI n) (nI t) u' r).trans ?_
            simp only [l1, if_true, s_R_wordN P t r hrp (by omega), hwr, hw3, Option.bind_some, s_R_operands, hv1, nI_add, q1, q2, q3, if_false]
            rw [on2, ef]
          · exfalso
            rw [show (0 : Int32) = nI 0 from rfl, nI_eq (by omega) (by omega)] at e
            omega
        · have q3 : (nI (t + opL.getD op 0) < nI n) = True := eq_true ((nI_ltI (by omega) (by omega)).mpr (by omega))
          by_cases c2 : kB (k1L.getD op 0) (wd g P (t + 1)) P = true ∧ kB (k2L.getD op 0) (wd g P (t + 2)) P = true
          · have eR : rlW (fun j => g 24 0 (60 * P + j)) n P t op = 0 := by
              unfold rlW
              rw [if_neg c1]
              exact if_pos c2
            obtain ⟨x, g', r', a, b, ha, hb, s1, s2, s3, s4, s5, s6⟩ := ih (t + (1 + opL.getD op 0)) (d + 1) _ _ (some (.inr (100, op))) (some (.inl (nI 0))) (some (.inl (nI op))) (by omega) (by omega) (by omega) (ho.same hsm1 hsm2) (hJ.step ho htl hop2 hw2 (by omega) c2.1 c2.2)
            refine ⟨x, g', r', a + 37, b + 40, pxs_px (st := [26]) 37 26 _ _ _ ?_, pxs_px (st := [2]) 40 2 _ _ _ ?_, hsm1.tr s1, hsm2.tr s2, s3, s4, ?_, ?_⟩
            · refine (y_V_faultOfWords_26 (rn_V_faultOfWords a) (nI P) (nI n) (nI t) (nI d) u v g).trans ?_
              simp only [l1, l2, if_true, s_L_insN P t n g hP htl hlen hn, Option.bind_some, hio, hrul, eR]
              rw [if_pos (show nI 0 = 0 from rfl), if_pos hB60, if_pos hB60]
              simp only [isB_0, if_true, w1, nI_add, on1, ct]
              exact ha
            · refine (y_R_shape_2 (rn_R_shape b) (nI n) (nI t) u' r).trans ?_
              simp only [l1, if_true, s_R_wordN P t r hrp (by omega), hwr, hw3, Option.bind_some, s_R_operands, hv1, nI_add, q1, q2, q3, if_false, on1, ct]
              by_cases ho0 : opL.getD op 0 = 0
              · rw [ho0] at hb ⊢
                rw [if_neg (show ¬ (0 : Int32) < nI 0 by decide), if_pos hB61]
                simp only [isB_1, ← on1, if_true]
                exact hb
              · have q4 : (0 : Int32) < nI (opL.getD op 0) := by rw [i_lt, tiz, nI_toInt (by omega)]; omega
                rw [if_pos q4]
                simp only [s_R_isOutside op t n P r hop2 hrp hP (by omega) (by omega) hn, hwr, Option.bind_some, bI_0]
                rw [if_pos (show ¬ ¬ _ from fun z => z c2), if_pos hB61]
                simp only [isB_1, ← on1, if_true]
                exact hb
            · rw [s5]; exact st3_a (by decide)
            · rw [s6]; exact st3_a (by decide)
          · have eR : rlW (fun j => g 24 0 (60 * P + j)) n P t op = 3 := by
              unfold rlW
              rw [if_neg c1]
              exact if_neg c2
            have ef : Int32.ofInt 16 * nI t + nI 3 = nI (16 * t + 3) := by rw [on16, pk_mul, nI_add]
            have ho0 : 1 ≤ opL.getD op 0 := by
              rcases Nat.eq_zero_or_pos (opL.getD op 0) with z | z
              · exfalso
                apply c2
                rw [w7 z, w8 (by omega)]
                exact ⟨kB_0 _ _, kB_0 _ _⟩
              · exact z
            refine ⟨nI (16 * t + 3), g, r, 0 + 37, 0 + 40, pxs_px (st := [26]) 37 26 _ _ _ ?_, pxs_px (st := [2]) 40 2 _ _ _ ?_, SameC.rf, SameR.rf, by rw [nI_toInt (by omega)]; omega, fun e => ?_, rfl, rfl⟩
            · refine (y_V_faultOfWords_26 (rn_V_faultOfWords 0) (nI P) (nI n) (nI t) (nI d) u v g).trans ?_
              simp only [l1, l2, if_true, s_L_insN P t n g hP htl hlen hn, Option.bind_some, hio, hrul, eR]
              rw [if_neg (show ¬ nI 3 = 0 by decide)]
              simp only [s_V_fault, Option.bind_some, ef]
            · refine (y_R_shape_2 (rn_R_shape 0) (nI n) (nI t) u' r).trans ?_
              have q4 : (0 : Int32) < nI (opL.getD op 0) := by rw [i_lt, tiz, nI_toInt (by omega)]; omega
              simp only [l1, if_true, s_R_wordN P t r hrp (by omega), hwr, hw3, Option.bind_some, s_R_operands, hv1, nI_add, q1, q2, q3, if_false]
              rw [if_pos q4]
              simp only [s_R_isOutside op t n P r hop2 hrp hP (by omega) (by omega) hn, hwr, Option.bind_some, bI_0]
              rw [if_neg (show ¬ ¬ ¬ _ from fun z => z c2), on3, ef]
            · exfalso
              rw [show (0 : Int32) = nI 0 from rfl, nI_eq (by omega) (by omega)] at e
              omega
      · have hop2 : ¬ (0 ≤ (wd g P t).toInt ∧ (wd g P t).toInt < 27) := hop
        have ef : (Int32.ofInt 16 * nI t + Int32.ofInt 1) = nI (16 * t + 1) := by rw [on16, on1, pk_mul, nI_add]
        refine ⟨nI (16 * t + 1), g, r, 0 + 37, 0 + 40, pxs_px (st := [26]) 37 26 _ _ _ ?_, pxs_px (st := [2]) 40 2 _ _ _ ?_, SameC.rf, SameR.rf, by rw [nI_toInt (by omega)]; omega, fun e => ?_, rfl, rfl⟩
        · refine (y_V_faultOfWords_26 (rn_V_faultOfWords 0) (nI P) (nI n) (nI t) (nI d) u v g).trans ?_
          simp only [l1, l2, if_true, s_L_insN P t n g hP htl hlen hn, Option.bind_some]
          rw [iOf_no hop]
          simp only [s_V_rule27, Option.bind_some, s_V_fault, ef, of1n, if_false]
        · refine (y_R_shape_2 (rn_R_shape 0) (nI n) (nI t) u' r).trans ?_
          simp only [l1, if_true, s_R_wordN P t r hrp (by omega), Option.bind_some, ef, i_lt, tiz, ti26, hwr]
          by_cases h0 : (g 24 0 (60 * P + t)).toInt < 0
          · rw [if_pos h0]
          · rw [if_neg h0, if_pos (by have := hop2; simp only [wd] at this; omega)]
        · exfalso
          rw [show (0 : Int32) = nI 0 from rfl, nI_eq (by omega) (by omega)] at e
          omega
