/-! one step on both sides -/
theorem stepB {d P k h : Nat} {g r : mG} (hr : Run d P k h g r) (hs : Sok (wds g P) (lns g P) P k h) (h7 : r 0 0 21 = Int32.ofInt 7) :
    ∃ x g' r', f_M_step [.inr (1, 0)] (st3 g 20 0 0 (g 20 0 0 + Int32.ofInt 1)) = some (x, g') ∧ f_R_step [.inr (0, 0)] r = some r' ∧ Post x g' r' ∧ r' 0 0 23 = r 0 0 23 ∧ r' 0 0 24 = r 0 0 24 + Int32.ofInt 1 := by
  obtain ⟨op, hop, hw, hk, htk, h12, hk1, hk2, hgo, hjmp⟩ := hs.at
  have cL := hr.cm.1
  have hP12 : P < 12 := by have := cL.2.2.2.2.1.2; have := hr.2.1.1.1; omega
  have hlen := cL.2.2.2.2.2.2.2.1 P hP12
  have hn : g 25 0 P = nI (lns g P) := by unfold lns; rw [i_eq, nI_toInt (by rw [cl_toInt]; omega), cl_toInt]; omega
  have hn2 : lns g P ≤ 60 := by unfold lns; rw [cl_toInt]; omega
  have ho2 : opL.getD op 0 ≤ 2 := (opL_le op hop).2
  obtain ⟨h0, rfl⟩ : ∃ h0, h = h0 + tkL.getD op 0 := ⟨h - tkL.getD op 0, (Nat.sub_add_cancel htk).symm⟩
  rw [Nat.add_sub_cancel] at h12 hgo hjmp
  have hR := hr.used.place (k + (1 + opL.getD op 0)) (by omega)
  rw [st3_comm (show 0 ≠ 13 by decide)] at hR
  obtain ⟨G, hG⟩ : ∃ G, G = st3 (st3 g 20 0 0 (g 20 0 0 + Int32.ofInt 1)) 10 d 6 (nI (k + (1 + opL.getD op 0))) := ⟨_, rfl⟩
  obtain ⟨R, hRR⟩ : ∃ G, G = st3 (st3 r 13 0 d (nI (k + (1 + opL.getD op 0)))) 0 0 24 (r 0 0 24 + Int32.ofInt 1) := ⟨_, rfl⟩
  rw [← hG, ← hRR] at hR
  obtain ⟨A, hA⟩ : ∃ A, A = if k + 1 < lns g P then g 24 0 (60 * P + (k + 1)) else Int32.ofInt (-1) := ⟨_, rfl⟩
  obtain ⟨B, hB⟩ : ∃ A, A = if k + 2 < lns g P then g 24 0 (60 * P + (k + 2)) else Int32.ofInt (-1) := ⟨_, rfl⟩
  obtain ⟨A', hA'⟩ : ∃ A, A = if 0 < opL.getD op 0 then r 6 0 (60 * P + k + 1) else Int32.ofInt 0 := ⟨_, rfl⟩
  obtain ⟨B', hB'⟩ : ∃ A, A = if 1 < opL.getD op 0 then r 6 0 (60 * P + k + 2) else Int32.ofInt 0 := ⟨_, rfl⟩
  have e24 : g 24 0 = r 6 0 := cL.1
  have qa : 0 < opL.getD op 0 → A = wds g P (k + 1) ∧ A' = wds g P (k + 1) := fun z => by
    rw [hA, hA', if_pos (by omega), if_pos z, ← e24]; exact ⟨rfl, rfl⟩
  have qb : 1 < opL.getD op 0 → B = wds g P (k + 2) ∧ B' = wds g P (k + 2) := fun z => by
    rw [hB, hB', if_pos (by omega), if_pos z, ← e24]; exact ⟨rfl, rfl⟩
  have key : Res (tS (nI (smL.getD op 0)) op d A B G) (tR op d A' B' r R) R := by
    have gW : G 24 = g 24 := by rw [hG]; rfl
    have gL : G 25 = g 25 := by rw [hG]; rfl
    have g2 : G 2 = g 2 := by rw [hG]; rfl
    have rR : ∀ x, x ≠ 0 → x ≠ 13 → r x = R x := fun x a b => by rw [hRR, st3_a a, st3_a b]
    have h7' : R 0 0 21 = Int32.ofInt 7 := by rw [hRR]; exact h7
    have gS : ∀ {k h : Nat}, Sok (wds g P) (lns g P) P k h → Sok (wds G P) (lns G P) P k h := fun {k h} z => by unfold wds lns; rw [gW, gL]; exact z
    have hs1 : op ≠ 14 → op ≠ 25 → op ≠ 26 → Sok (wds G P) (lns G P) P (k + (1 + opL.getD op 0)) (h0 + gvL.getD op 0) := fun a b c => gS (by rw [← Nat.add_assoc]; exact hgo a b c)
    clear hA hA' hB hB' hG hRR hgo hw hs
    rcases (show op = 0 ∨ op = 1 ∨ op = 2 ∨ op = 3 ∨ op = 4 ∨ op = 5 ∨ op = 6 ∨ op = 7 ∨ op = 8 ∨ op = 9 ∨ op = 10 ∨ op = 11 ∨ op = 12 ∨ op = 13 ∨ op = 14 ∨ op = 15 ∨ op = 16 ∨ op = 17 ∨ op = 18 ∨ op = 19 ∨ op = 20 ∨ op = 21 ∨ op = 22 ∨ op = 23 ∨ op = 24 ∨ op = 25 ∨ op = 26 by omega) with rfl | rfl | rfl | rfl | rfl | rfl | rfl | rfl | rfl | rfl | rfl | rfl | rfl | rfl | rfl | rfl | rfl | rfl | rfl | rfl | rfl | rfl | rfl | rfl | rfl | rfl | rfl
    · obtain ⟨ea, ea'⟩ := qa (by decide)
      rw [ea, ea']
      exact so_0 (h := h0) hR (hs1 (by decide) (by decide) (by decide)) h12 h7'
    · exact so_1 (h := h0) hR (hs1 (by decide) (by decide) (by decide)) h12 h7'
    · exact so_2 (h := h0) hR (hs1 (by decide) (by decide) (by decide)) h12 h7'
    · exact so_3 (h := h0) hR (hs1 (by decide) (by decide) (by decide)) h12 h7'
    · exact so_4 (h := h0) hR (hs1 (by decide) (by decide) (by decide)) h12 h7'
    · exact so_5 (h := h0) hR (hs1 (by decide) (by decide) (by decide)) h12 h7'
    · exact so_6 (h := h0) hR (hs1 (by decide) (by decide) (by decide)) h12 h7'
    · exact so_7 (h := h0) hR (hs1 (by decide) (by decide) (by decide)) h12 h7'
    · exact so_8 (h := h0) hR (hs1 (by decide) (by decide) (by decide)) h12 h7'
    · exact so_9 (h := h0) hR (hs1 (by decide) (by decide) (by decide)) h12 h7'
    · exact so_10 (h := h0) hR (hs1 (by decide) (by decide) (by decide)) h12 h7'
    · exact so_11 (h := h0) hR (hs1 (by decide) (by decide) (by decide)) h12 h7'
    · obtain ⟨ea, ea'⟩ := qa (by decide)
      obtain ⟨a, ha, e⟩ := inB_nI (hk1 (by decide))
      rw [ea, ea', e]
      exact so_12 (h := h0) ha (rR 16 (by decide) (by decide)) hR (hs1 (by decide) (by decide) (by decide)) h12 h7'
    · obtain ⟨ea, ea'⟩ := qa (by decide)
      obtain ⟨a, ha, e⟩ := inB_nI (hk1 (by decide))
      rw [ea, ea', e]
      exact so_13 (h := h0) ha hR (hs1 (by decide) (by decide) (by decide)) h12 h7'
    · obtain ⟨ea, ea'⟩ := qa (by decide)
      obtain ⟨t, et, ht, hst⟩ := hjmp (Or.inl rfl)
      rw [ea, ea', et]
      exact so_14 (h := h0) (by omega) hR (gS hst) h7'
    · obtain ⟨ea, ea'⟩ := qa (by decide)
      obtain ⟨t, et, ht, hst⟩ := hjmp (Or.inr rfl)
      rw [ea, ea', et]
      exact so_15 (h := h0) (by omega) hR (hs1 (by decide) (by decide) (by decide)) (gS hst) h7'
    · obtain ⟨ea, ea'⟩ := qa (by decide)
      obtain ⟨a, ha, e⟩ := inB_nI (hk1 (by decide))
      rw [ea, ea', e]
      exact so_16 (h := h0) ha (rR 1 (by decide) (by decide)) hR (hs1 (by decide) (by decide) (by decide)) h12 h7'
    · obtain ⟨ea, ea'⟩ := qa (by decide)
      obtain ⟨eb, eb'⟩ := qb (by decide)
      obtain ⟨a, ha, e⟩ := inB_nI (hk1 (by decide))
      obtain ⟨b, hb, e2⟩ := inB_nI (hk2 (by decide))
      rw [ea, ea', eb, eb', e, e2]
      exact so_17 (h := h0) ha hb hR (hs1 (by decide) (by decide) (by decide)) h12 h7'
    · obtain ⟨ea, ea'⟩ := qa (by decide)
      obtain ⟨a, ha, e⟩ := inB_nI (hk1 (by decide))
      rw [ea, ea', e]
      exact so_18 (h := h0) ha hR (hs1 (by decide) (by decide) (by decide)) h7'
    · obtain ⟨ea, ea'⟩ := qa (by decide)
      obtain ⟨a, ha, e⟩ := inB_nI (hk1 (by decide))
      rw [ea, ea', e]
      exact so_19 (h := h0) ha hR (hs1 (by decide) (by decide) (by decide)) h7'
    · obtain ⟨ea, ea'⟩ := qa (by decide)
      obtain ⟨eb, eb'⟩ := qb (by decide)
      obtain ⟨a, ha, e⟩ := inB_nI (hk1 (by decide))
      obtain ⟨b, hb, e2⟩ := inB_nI (hk2 (by decide))
      rw [ea, ea', eb, eb', e, e2]
      exact so_20 (h := h0) ha hb hR (hs1 (by decide) (by decide) (by decide)) h7'
    · obtain ⟨ea, ea'⟩ := qa (by decide)
      obtain ⟨eb, eb'⟩ := qb (by decide)
      obtain ⟨a, ha, e⟩ := inB_nI (hk1 (by decide))
      obtain ⟨b, hb, e2⟩ := inB_nI (hk2 (by decide))
      rw [ea, ea', eb, eb', e, e2]
      exact so_21 (h := h0) ha hb hR (hs1 (by decide) (by decide) (by decide)) h12 h7'
    · obtain ⟨ea, ea'⟩ := qa (by decide)
      obtain ⟨a, ha, e⟩ := inB_nI (hk1 (by decide))
      rw [ea, ea', e]
      exact so_22 (h := h0) ha (rR 17 (by decide) (by decide)) hR (hs1 (by decide) (by decide) (by decide)) h12 h7'
    · obtain ⟨ea, ea'⟩ := qa (by decide)
      obtain ⟨a, ha, e⟩ := inB_nI (hk1 (by decide))
      rw [ea, ea', e]
      exact so_23 (h := h0) ha (rR 18 (by decide) (by decide)) hR (hs1 (by decide) (by decide) (by decide)) h12 h7'
    · obtain ⟨ea, ea'⟩ := qa (by decide)
      obtain ⟨a, ha, e⟩ := inB_nI (hk1 (by decide))
      rw [ea, ea', e]
      exact so_24 (h := h0) (by rw [g2]; have := hr.2.1.1.1; omega) hR (hs1 (by decide) (by decide) (by decide)) h12 h7'
    · exact so_25 (h := h0) hR
    · exact so_26 (h := h0) hR h7'
  obtain ⟨x, g', r', c1, c2, c3, c4, c5⟩ := key
  refine ⟨x, g', r', e_M_step (n := 52) rfl ?_, e_R_step (n := 118) rfl ?_, c3, ?_, ?_⟩
  · subst hA hB hG
    exact (headC (g := st3 g 20 0 0 (g 20 0 0 + Int32.ofInt 1)) hr.1.1 hr.1.2.2.2.1 hr.2.1.2.1.1 hr.2.1.2.2.1.1 hP12 hn hn2 (by omega) hop hw).trans c1
  · rw [hRR] at c2
    exact (headR hr.1.1 hr.1.2.2.1 hr.2.1.2.1.2 hr.2.1.2.2.1.2 hP12 hop (by rw [← e24]; exact hw) (by omega) (fun z => by rw [hA', if_pos z]) (fun z => by rw [hA', if_neg (by omega)]) (fun z => by rw [hB', if_pos z]) (fun z => by rw [hB', if_neg (by omega)])).trans c2
  · rw [c4, hRR]; rfl
  · rw [c5, hRR]; exact st3_same
