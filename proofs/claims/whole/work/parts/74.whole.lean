/-! the law's loop, and its start -/
theorem InvI : Inv gI rI := by
  refine ⟨⟨rfl, rfl, rfl, rfl, ⟨by decide, by decide⟩, Or.inl rfl, fun h => absurd rfl h, fun p _ => ⟨by decide +revert, by decide +revert⟩, fun p hp => absurd hp (by decide +revert)⟩, ⟨rfl, rfl, fun t _ => ⟨by decide +revert, by decide +revert⟩⟩, ⟨rfl, fun k hk => ?_⟩, ⟨rfl, rfl, rfl, rfl, rfl⟩, fun k hk => rfl, by decide⟩
  show -1 ≤ (fmF 12 k).toInt ∧ (fmF 12 k).toInt < (0 : Int32).toInt
  rw [show fmF 12 k = -1 from if_pos hk]
  decide
theorem cmpL {L k : Nat} (hL : L ≤ 2048) (hk : 4 * k ≤ L) : (Int32.ofNat L - 4 < nI (4 * k)) ↔ L < 4 * k + 4 := by
  have e0 : (Int32.ofNat L).toInt = L := nI_toInt (by omega)
  have e4 : (4 : Int32).toInt = 4 := by decide
  have e : (Int32.ofNat L - 4 : Int32).toInt = (L : Int) - 4 := by rw [ti_sub (by rw [e0, e4]; omega) (by rw [e0, e4]; omega), e0, e4]
  rw [i_lt, e, nI_toInt (by omega)]
  omega
section LP
variable {p : Program} {l : Launch} {e : Env} {s : State} {m : MethodId} {args : Array Value} {below : List Frame} {meth : Method} {c : Code} {cells slots : Nat} {Q : State → Prop}
variable {D : va_G} {cA : Nat → ClassId} {ad adr : Nat → Nat → Nat} {A : Nat → Prop} {c0 : Cond} {b L : Nat} {xs : Nat → Int32}
theorem lawLoop (hL : L ≤ 2048) (S : CallFix p m c code 4 s args (c0 :: mTb) R_law) (hK : va_K D clA (mTys cA) s) (hSt : StC ad (aOf shC cA ad csC) s) (hAp : Ap ad adr A) (hX : va_X b L xs s s.heap) (hbl : b < s.heap.size) (hA0 : ∀ q : Nat, q < s.heap.size → ¬ A q) (hf : cells ≤ room_1.cells ∧ slots ≤ room_1.slots)
    (kend : ∀ (H : Heap) (locs : List Loc) (ls : Array Slot), va_S A s.heap H locs → W p l e room_1 s m args below meth c H locs cells slots Q (F0 m 381 ls [])) :
    ∀ (n k : Nat) (H : Heap) (locs : List Loc) (ls : Array Slot) (g r : mG), L < 4 * (k + n) + 4 → 4 * k ≤ L → lv_has ls 4 [(3, .int (nI (4 * k))), (2, .ref (adr 0 0)), (1, .ref (ad 0 0)), (0, .ref b)] → LI D cA ad adr A s.heap g r H locs → Inv g r → W p l e room_1 s m args below meth c H locs cells slots Q (F0 m 18 ls []) := by
  have hx := S.1
  have hb := S.2.1
  intro n
  induction n with
  | zero =>
    intro k H locs ls g r hn hk0 hl hI hV
    refine lv_iload_n hx hb dw_18 rfl (lv_at hl 0 rfl) ?_
    refine lv_aload_n hx hb dw_19 rfl (lv_at hl 3 rfl) ?_
    refine va_slen hx hb hX hbl (hA0 b hbl) hI.2.2 dw_20 ?_
    refine lv_iconst (v := 4) hx hb dw_21 (by decide) ?_
    refine lv_isub hx hb dw_22 ?_
    refine lv_icmp_gt (tgt := 381) hx hb dw_23 (by decide) (fun _ => kend H locs ls hI.2.2) (fun h => absurd ((cmpL hL hk0).mpr (by omega)) h)
  | succ n ih =>
    intro k H locs ls g r hn hk0 hl hI hV
    refine lv_iload_n hx hb dw_18 rfl (lv_at hl 0 rfl) ?_
    refine lv_aload_n hx hb dw_19 rfl (lv_at hl 3 rfl) ?_
    refine va_slen hx hb hX hbl (hA0 b hbl) hI.2.2 dw_20 ?_
    refine lv_iconst (v := 4) hx hb dw_21 (by decide) ?_
    refine lv_isub hx hb dw_22 ?_
    refine lv_icmp_gt (tgt := 381) hx hb dw_23 (by decide) (fun _ => kend H locs ls hI.2.2) (fun h => ?_)
    have hk : 4 * k + 4 ≤ L := Nat.not_lt.mp (fun z => h ((cmpL hL hk0).mpr z))
    refine lv_aload_n hx hb dw_26 rfl (lv_at hl 3 rfl) ?_
    refine lv_iload_n hx hb dw_27 rfl (lv_at hl 0 rfl) ?_
    refine va_sld hx hb hX hbl (hA0 b hbl) hI.2.2 (inB_in (by rw [nI_inB (by omega)]; omega)) dw_28 ?_
    refine lv_bipush (v := 15) hx hb dw_29 (by decide) ?_
    refine lv_iand hx hb dw_31 ?_
    refine lv_topi (fun x _ => ?_)
    have next : ∀ (H1 : Heap) (locs1 : List Loc) (g1 r1 : mG), LI D cA ad adr A s.heap g1 r1 H1 locs1 → Inv g1 r1 → W p l e room_1 s m args below meth c H1 locs1 cells slots Q (F0 m 375 ls []) := by
      intro H1 locs1 g1 r1 hI1 hV1
      refine lv_iinc (k := 0) (v := nI (4 * (k + 1))) hx hb dw_375 hl rfl (by rw [on4, nI_add]; rfl) (by decide) rfl (fun ls1 hl1 => ?_)
      refine lv_goto (tgt := 18) hx hb dw_378 (by decide) ?_
      exact ih (k + 1) H1 locs1 ls1 g1 r1 (by omega) (by omega) hl1 hI1 hV1
    by_cases h0 : 0 ≤ x.toInt ∧ x.toInt ≤ 10
    · rcases (show x.toInt = 0 ∨ x.toInt = 1 ∨ x.toInt = 2 ∨ x.toInt = 3 ∨ x.toInt = 4 ∨ x.toInt = 5 ∨ x.toInt = 6 ∨ x.toInt = 7 ∨ x.toInt = 8 ∨ x.toInt = 9 ∨ x.toInt = 10 by omega) with hj | hj | hj | hj | hj | hj | hj | hj | hj | hj | hj
      · refine lv_tableIn (off := 60) (tgt := 92) hx hb dw_32 (by omega) (by omega) (by rw [hj]; rfl) (by decide) ?_
        exact lw_begin hL S hK hSt hAp hX hbl hA0 hk hl hI hV hf next
      · refine lv_tableIn (off := 73) (tgt := 105) hx hb dw_32 (by omega) (by omega) (by rw [hj]; rfl) (by decide) ?_
        exact lw_emit hL S hK hSt hAp hX hbl hA0 hk hl hI hV hf next
      · refine lv_tableIn (off := 96) (tgt := 128) hx hb dw_32 (by omega) (by omega) (by rw [hj]; rfl) (by decide) ?_
        exact lw_end hL S hK hSt hAp hX hbl hA0 hk hl hI hV hf next
      · refine lv_tableIn (off := 109) (tgt := 141) hx hb dw_32 (by omega) (by omega) (by rw [hj]; rfl) (by decide) ?_
        exact lw_procedures hL S hK hSt hAp hX hbl hA0 hk hl hI hV hf next
      · refine lv_tableIn (off := 122) (tgt := 154) hx hb dw_32 (by omega) (by omega) (by rw [hj]; rfl) (by decide) ?_
        exact lw_bind hL S hK hSt hAp hX hbl hA0 hk hl hI hV hf next
      · refine lv_tableIn (off := 165) (tgt := 197) hx hb dw_32 (by omega) (by omega) (by rw [hj]; rfl) (by decide) ?_
        exact lw_unbind hL S hK hSt hAp hX hbl hA0 hk hl hI hV hf next
      · refine lv_tableIn (off := 198) (tgt := 230) hx hb dw_32 (by omega) (by omega) (by rw [hj]; rfl) (by decide) ?_
        exact lw_call hL S hK hSt hAp hX hbl hA0 hk hl hI hV hf next
      · refine lv_tableIn (off := 241) (tgt := 273) hx hb dw_32 (by omega) (by omega) (by rw [hj]; rfl) (by decide) ?_
        exact lw_value hL S hK hSt hAp hX hbl hA0 hk hl hI hV hf next
      · refine lv_tableIn (off := 254) (tgt := 286) hx hb dw_32 (by omega) (by omega) (by rw [hj]; rfl) (by decide) ?_
        exact lw_count hL S hK hSt hAp hX hbl hA0 hk hl hI hV hf next
      · refine lv_tableIn (off := 277) (tgt := 309) hx hb dw_32 (by omega) (by omega) (by rw [hj]; rfl) (by decide) ?_
        exact lw_rows hL S hK hSt hAp hX hbl hA0 hk hl hI hV hf next
      · refine lv_tableIn (off := 300) (tgt := 332) hx hb dw_32 (by omega) (by omega) (by rw [hj]; rfl) (by decide) ?_
        exact lw_cell hL S hK hSt hAp hX hbl hA0 hk hl hI hV hf next
    · refine lv_tableOut (tgt := 375) hx hb dw_32 (by omega) (by decide) ?_
      exact next H locs g r hI hV
end LP
def adF (en : Nat → Nat) (t1 t2 h0 : Nat) (u : Nat → Nat → Nat) : Nat → Nat → Nat := fun a j => if a = 100 then en j else if a = 101 then t1 else if a = 102 then t2 else adB h0 u a j
set_option maxRecDepth 100000 in
set_option maxHeartbeats 4000000 in
theorem wi_F_eq (cA : Nat → ClassId) (en : Nat → Nat) (t1 t2 h0 : Nat) (u : Nat → Nat → Nat) : wi_B cA h0 u = mWd shC cA (adF en t1 t2 h0 u) csC gI := rfl
theorem csC_lt : ∀ c ∈ csC, c.1 < 100 := by decide
theorem aOf_F {cA : Nat → ClassId} {en : Nat → Nat} {t1 t2 h0 : Nat} {u : Nat → Nat → Nat} : aOf shC cA (adF en t1 t2 h0 u) csC = aOf shC cA (adB h0 u) csC := by
  have key : ∀ c ∈ csC, adF en t1 t2 h0 u c.1 c.2 = adB h0 u c.1 c.2 := fun c hc => by
    have h := csC_lt c hc
    unfold adF
    rw [if_neg (by omega), if_neg (by omega), if_neg (by omega)]
  funext q
  exact propext ⟨fun ⟨c, hc, h⟩ => ⟨c, hc, by rw [← key c hc]; exact h⟩, fun ⟨c, hc, h⟩ => ⟨c, hc, by rw [key c hc]; exact h⟩⟩
theorem va_P.lft {D : va_G} {cl : List vw_C} {w1 w2 : va_W} {H : Heap} (h : va_P D cl (w1 ++ w2) H) : va_P D cl w1 H := fun k q hk => h k q (by rw [List.getElem?_append_left (List.getElem?_eq_some_iff.mp hk).1]; exact hk)
theorem va_P.rgt {D : va_G} {cl : List vw_C} {w1 w2 : va_W} {H : Heap} (h : va_P D cl (w1 ++ w2) H) : va_P D cl w2 H := fun k q hk => h (w1.length + k) q (by rw [List.getElem?_append_right (by omega), Nat.add_sub_cancel_left]; exact hk)
set_option maxRecDepth 100000 in
set_option maxHeartbeats 4000000 in
theorem whole_start {p : Program} {e : Env} {s : State} {m : MethodId} {below : List Frame} {meth : Method} {c : Code} (l : Launch) {b L : Nat} {xs : Nat → Int32} (hL : L ≤ 2048) (C0 : lw_At p s m meth c b L xs) : W p l e room_1 s m #[Value.ref b] below meth c s.heap [] 0 0 (lw_Z below #[Value.ref b] s) (entryFrame m ([Value.ref b] : List Value).toArray 4) := by
  obtain ⟨hx, hb, hr, hml, hown, hts0, hX, hbl, hlk, hgv⟩ := C0
  obtain ⟨D, cA, hK⟩ := kOf hts0
  have hN := nestOf hts0
  have hw : ∀ {w : Cond}, w ∈ mTb → w.before #[Value.ref b] s = true := fun h => hts0 _ (mTb_lw h)
  have hts : ∀ w ∈ Cond.initialized "TriggerBase" :: mTb, w.before #[Value.ref b] s = true := fun w h => (List.mem_cons.mp h).elim (fun e => by rw [e]; exact hw mn_B) (fun h => hw h)
  obtain ⟨A, hAe⟩ : ∃ A : Nat → Prop, A = fun q => s.heap.size ≤ q := ⟨_, rfl⟩
  have hA : ∀ q : Nat, s.heap.size ≤ q → A q := fun q h => by rw [hAe]; exact h
  have hA' : ∀ q : Nat, A q → s.heap.size ≤ q := fun q h => by rw [hAe] at h; exact h
  have hA0 : ∀ q : Nat, q < s.heap.size → ¬ A q := fun q h z => absurd (hA' q z) (by omega)
  have hS : va_S A s.heap s.heap [] := va_S.rf
  have hP : va_P D clA [] s.heap := fun k q h => by cases h
  have hD : va_D A [] := ⟨fun i j p q hi => (by cases hi), fun k q h => (by cases h)⟩
  have hl := lv_entry ([.ref b]) (n := 4) (Nat.le_of_ble_eq_true rfl)
  rw [lg_entry_eq]
  generalize (lg_sl ([.ref b]) ++ List.replicate (4 - (lg_sl ([.ref b])).length) Slot.unset).toArray = ls at hl ⊢
  have hl : lv_has ls 4 [(0, .ref b)] := hl
  refine va_new (ci := 6) (fs := [.null, .null, .null, .null]) (C := "TriggerBase") (T := uT_B) (N := 4) hx hb hts (uwi (ci := 6) rfl) uY_B ty_B hown (hw (mTb_at 51 ⟨by decide +kernel, rfl⟩)) (hw (mTb_at 52 ⟨by decide +kernel, rfl⟩)) (hw mn_B) hK hP hD hS hA rfl df_B (Nat.le_of_ble_eq_true rfl) (Nat.le_of_ble_eq_true rfl) dw_0 (fun q1 H hP hD hS => ?_)
  have hP : va_P D clA [(q1, .inr (6, [.null, .null, .null, .null]))] H := hP
  have hD : va_D A [(q1, .inr (6, [.null, .null, .null, .null]))] := hD
  refine lv_dup hx hb dw_3 rfl ?_
  have hFc := va_free (wc := [(q1, .inr (6, [.null, .null, .null, .null]))]) hD hS hA [0] rfl
  refine va_callv (va_runI (As := []) (rest := [.ref q1]) ⟨hx, hb, hml, hown, hts⟩ (ci_B l D cA q1 H.size) (cwI 0 hts (mGoodW (mTb_at 55 ⟨by decide +kernel, rfl⟩)) rfl rfl rfl (hw mn_B) (hw (mTb_at 53 ⟨by decide +kernel, rfl⟩)) (hw (mTb_at 54 ⟨by decide +kernel, rfl⟩)) rfl ⟨by decide, by decide, by decide +kernel⟩ ⟨Nat.le_of_ble_eq_true rfl, Nat.le_of_ble_eq_true rfl⟩) ⟨iPre.blind, iPre.pre hP hK hD hN⟩ rfl rfl hl.1 rfl (lv_room (Nat.le_of_ble_eq_true rfl)) dw_4 ⟨Nat.le_of_ble_eq_true rfl, Nat.le_of_ble_eq_true rfl⟩) hS (fun q _ h => hFc q h) hFc (fun u t H1 locs ht hvm _ hB hz1 hk1 hS => ?_)
  obtain ⟨hP1, hD1⟩ := hB
  rw [ht] at hP1
  obtain ⟨hP, hD⟩ := va_join (wr := []) (w1 := wi_B cA q1 u) hP hD [0] [] rfl rfl (by decide) (by decide) hk1 hFc hP1 hD1
  generalize H1 = H at hP hS ⊢
  have hP : va_P D clA (wi_B cA q1 u) H := hP
  have hD : va_D A (wi_B cA q1 u) := hD
  refine lv_astore_n hx hb dw_7 rfl hl (by decide) rfl (fun ls hl => ?_)
  have hl : lv_has ls 4 [(1, .ref q1), (0, .ref b)] := hl
  refine va_new (ci := 7) (fs := [.null, .null, .null, .null, .null, .null, .null, .int 0, .int 0, .null, .null, .null, .int 0, .null, .null, .null, .null, .null, .null, .null, .null, .int 0, .int 0, .int 0, .int 0, .int 0, .int 0, .int 0]) (C := "TriggerBaseModel") (T := uT_R) (N := 28) hx hb hts (uwi (ci := 7) rfl) uY_R ty_R hown (hw (mTb_at 524 ⟨by decide +kernel, rfl⟩)) (hw (mTb_at 525 ⟨by decide +kernel, rfl⟩)) (hw mn_R) hK hP hD hS hA rfl df_R (Nat.le_of_ble_eq_true rfl) (Nat.le_of_ble_eq_true rfl) dw_8 (fun q2 H hP hD hS => ?_)
  refine lv_dup hx hb dw_11 rfl ?_
  have hPc := hP.sub (ws' := [(q2, .inr (7, [.null, .null, .null, .null, .null, .null, .null, .int 0, .int 0, .null, .null, .null, .int 0, .null, .null, .null, .null, .null, .null, .null, .null, .int 0, .int 0, .int 0, .int 0, .int 0, .int 0, .int 0]))]) [59] rfl
  have hDc := hD.sub (ws' := [(q2, .inr (7, [.null, .null, .null, .null, .null, .null, .null, .int 0, .int 0, .null, .null, .null, .int 0, .null, .null, .null, .null, .null, .null, .null, .null, .int 0, .int 0, .int 0, .int 0, .int 0, .int 0, .int 0]))]) [59] (by decide) rfl
  have hFc := va_free (wc := [(q2, .inr (7, [.null, .null, .null, .null, .null, .null, .null, .int 0, .int 0, .null, .null, .null, .int 0, .null, .null, .null, .null, .null, .null, .null, .null, .int 0, .int 0, .int 0, .int 0, .int 0, .int 0, .int 0]))]) hD hS hA [59] rfl
  refine va_callv (va_runI (As := []) (rest := [.ref q2]) ⟨hx, hb, hml, hown, hts⟩ (ci_R l D cA q2 H.size) (cwI 0 hts (mGoodW (mTb_at 528 ⟨by decide +kernel, rfl⟩)) rfl rfl rfl (hw mn_R) (hw (mTb_at 526 ⟨by decide +kernel, rfl⟩)) (hw (mTb_at 527 ⟨by decide +kernel, rfl⟩)) rfl ⟨by decide, by decide, by decide +kernel⟩ ⟨Nat.le_of_ble_eq_true rfl, Nat.le_of_ble_eq_true rfl⟩) ⟨iPre.blind, iPre.pre hPc hK hDc hN⟩ rfl rfl hl.1 rfl (lv_room (Nat.le_of_ble_eq_true rfl)) dw_12 ⟨Nat.le_of_ble_eq_true rfl, Nat.le_of_ble_eq_true rfl⟩) hS (fun q _ h => hFc q h) hFc (fun u2 t H1 locs ht hvm hpost hB hz1 hk1 hS => ?_)
  obtain ⟨hP1, hD1⟩ := hB
  rw [ht] at hP1
  have hu := hpost
  subst hu
  obtain ⟨hP, hD⟩ := va_join (wr := wi_B cA q1 u) (w1 := wi_R cA u2) hP hD [59] [0, 1, 2, 3, 4, 5, 6, 7, 8, 9, 10, 11, 12, 13, 14, 15, 16, 17, 18, 19, 20, 21, 22, 23, 24, 25, 26, 27, 28, 29, 30, 31, 32, 33, 34, 35, 36, 37, 38, 39, 40, 41, 42, 43, 44, 45, 46, 47, 48, 49, 50, 51, 52, 53, 54, 55, 56, 57, 58] rfl rfl (by decide) (by decide) hk1 hFc hP1 hD1
  generalize H1 = H at hP hS ⊢
  refine lv_astore_n hx hb dw_15 rfl hl (by decide) rfl (fun ls hl => ?_)
  have hl : lv_has ls 4 [(2, .ref (u2 0 0)), (1, .ref q1), (0, .ref b)] := hl
  refine lv_iconst (v := 0) hx hb dw_16 (by decide) ?_
  refine lv_istore_n hx hb dw_17 rfl hl (by decide) rfl (fun ls hl => ?_)
  obtain ⟨en, t1, t2, hSt⟩ := stOf (A := aOf shC cA (adB q1 u) csC) hgv hts0 (fun a ha z => by
    obtain ⟨c, hc, h⟩ := z
    obtain ⟨i, hi⟩ := List.getElem?_of_mem hc
    rw [wi_B_eq] at hD
    obtain ⟨x, hx⟩ := mWd_at (sh := shC) (cA := cA) (ad := adB q1 u) (g := gI) hi
    have h2 := hD.2 i _ (by rw [List.getElem?_append_left (List.getElem?_eq_some_iff.mp hx).1]; exact hx)
    rw [h] at h2
    exact hA0 a ha h2)
  have hSt := hSt (adF en t1 t2 q1 u) rfl rfl rfl
  rw [← aOf_F (cA := cA) (en := en) (t1 := t1) (t2 := t2) (h0 := q1) (u := u)] at hSt
  rw [wi_F_eq cA en t1 t2 q1 u, wi_R_eq] at hP hD
  have hl : lv_has ls 4 [(3, .int (nI (4 * 0))), (2, .ref (u2 0 0)), (1, .ref (adF en t1 t2 q1 u 0 0)), (0, .ref b)] := hl
  refine lawLoop hL ⟨hx, hb, hml, hown, hts⟩ hK hSt (Ap.of hD) hX hbl hA0 ⟨Nat.le_of_ble_eq_true rfl, Nat.le_of_ble_eq_true rfl⟩ (fun H locs ls hS => ?_) L 0 H _ ls gI rI (by omega) (by omega) hl ⟨hP.lft, hP.rgt, hS⟩ InvI
  refine lv_iconst (v := 1) hx hb dw_381 (by decide) ?_
  refine va_forget (fun q hq => hA' _ (hS.2.2 q hq)) ?_
  refine W.widen (k := 600000) (n := 7302250) (Nat.le_of_ble_eq_true rfl) (Nat.le_of_ble_eq_true rfl) ?_
  exact lw_ret hx hb hr hlk dw_382
