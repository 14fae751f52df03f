section MSTEP
variable {p : Program} {l : Launch} {e : Env} {R : Room} {s : State} {m : MethodId} {args : Array Value} {below : List Frame} {meth : Method} {c : Code}
variable {Qc : Array Value → State → Outcome → State → Prop}
variable {cc : ByteArray} {nL : Nat} {own : String} {D : va_G} {cl : List vw_C} {tys : List (ClassId × FieldType)} {sh : mSh} {nm : Nat → Nat} {cs : List (Nat × Nat)} {cA : Nat → ClassId} {ad : Nat → Nat → Nat} {A : Nat → Prop}
variable {T : List (Nat × mIn)} {gl pl : List (Nat × Nat × Nat)} {gs : List (Nat × mV)} {fe : List (Nat × List Int32)} {sm : List Int32} {ct : List (Nat × Nat × Nat × mFn)} {sp : List (Nat × Nat)} {rk : Nat} {res : mRes}
theorem i32_nn {x : Int32} (h : 0 ≤ x.toInt) : ¬ x < 0 := by
  rw [Int32.lt_iff_toInt_lt]
  have h0 : (0 : Int32).toInt = 0 := by decide
  omega
/-- a call -/
theorem mSimC (X : mCtx p l e R s m args below meth c Qc cc nL own D cl tys sh nm cs cA ad A T gl pl gs fe sm ct sp rk res) {pc idx kd : Nat} (hd : decode cc pc = .ok (mInv kd idx, 3)) {L : mL} {S : List mV} {g : mG} {ls : Array Slot} {H : Heap} {locs : List Loc} {k : mK}
    (hs : mCall sh ct sp kd idx (pc + 3) L S g k = some res)
    (hk : ∀ (pc' : Nat) (L' : mL) (S' : List mV) (g' : mG), k pc' L' S' g' = some res → ∀ (ls' : Array Slot) (H' : Heap) (locs' : List Loc), mHL ad ls' nL L' → mokL nm L' → mokS nm S' → mHp D cl sh cA ad cs A s.heap g' H' locs' → mWk p l e R s m args below meth c Qc A H' locs' pc' ls' (S'.map (mcv ad)))
    (hL : mHL ad ls nL L) (hoL : mokL nm L) (hoS : mokS nm S) (hH : mHp D cl sh cA ad cs A s.heap g H locs) : mWk p l e R s m args below meth c Qc A H locs pc ls (S.map (mcv ad)) := by
  obtain ⟨⟨hx, hb, hml, hown, hlocks⟩, hdec, ⟨hK, ht0, ht1, FC, ht2⟩, ⟨hnd, hcs, hcl, hn10, hst, hkd⟩, hgl, hpl, hgs, hfe, hsm, hal, hln, hinj, hct, hsp, hrt, hend⟩ := X
  unfold mCall at hs
  split at hs
  · next h0 =>
    obtain ⟨hb2, hs1⟩ := bif_inv hs
    clear hs
    have ek := beq_inv hb2
    subst ek
    have hs := hs1
    clear hs1
    obtain ⟨n, S1, hE, hs1⟩ := pI_inv hs
    clear hs
    subst hE
    have hs := hs1
    clear hs1
    obtain ⟨d, S2, hE, hs1⟩ := pI_inv hs
    clear hs
    subst hE
    have hs := hs1
    clear hs1
    obtain ⟨a, j, S3, hE, hs1⟩ := pR_inv hs
    clear hs
    subst hE
    have hs := hs1
    clear hs1
    obtain ⟨o, S4, hE, hs1⟩ := pI_inv hs
    clear hs
    subst hE
    have hs := hs1
    clear hs1
    obtain ⟨a0, j0, S5, hE, hs1⟩ := pR_inv hs
    clear hs
    subst hE
    have hs := hs1
    clear hs1
    obtain ⟨hl8, hs⟩ := bif_inv hs
    obtain ⟨len, h1, hs⟩ := mArr_inv hs
    obtain ⟨len0, h2, hs⟩ := mArr_inv hs
    obtain ⟨⟨⟨n0, o0, d0⟩, hA1, hA2⟩, hs⟩ := ite_inv hs
    obtain ⟨m1, m2, m3, m4, m5, m6⟩ := hsp idx 0 h0
    obtain ⟨q0, c0, w0⟩ := hH.at (hcs a0 j0 _ h2 hoS.tl.tl.tl.tl.hd)
    obtain ⟨q1, c1, w1⟩ := hH.at (hcs a j _ h1 hoS.tl.tl.hd)
    rw [mEn_arr h2 (by decide)] at w0
    rw [mEn_arr h1 (by decide)] at w1
    have hl8' := Nat.le_of_ble_eq_true hl8
    have cN : ∀ z : Int32, z.toNatClampNeg = z.toInt.toNat := fun _ => rfl
    exact va_copyi hx hb (hml.trans hL.1.symm) hown m1 m2 m3 m4 hK hH.1 hH.2.1 hH.2.2 q0 q1 0 0 w0 w1 ht0 ht0 rfl (i32_nn o0) (i32_nn d0) (i32_nn n0) (by rw [cN, cN]; omega) (by rw [cN, cN]; omega) (fun _ _ => rfl) m5 (by rw [mcat_sum]; omega) hd
      (fun H1 locs1 hP hD hS => hk _ _ _ _ hs ls H1 locs1 hL hoL hoS.tl.tl.tl.tl.tl (mHp.wr hnd c1 (fun a' j' h => stR_ne h) (by rw [mEn_arr h1 (by decide), stR_row]) hP hD hS))
  · next h0 =>
    obtain ⟨hb2, hs1⟩ := bif_inv hs
    clear hs
    have ek := beq_inv hb2
    subst ek
    have hs := hs1
    clear hs1
    obtain ⟨y, S1, hE, hs1⟩ := pI_inv hs
    clear hs
    subst hE
    have hs := hs1
    clear hs1
    obtain ⟨x, S2, hE, hs1⟩ := pI_inv hs
    clear hs
    subst hE
    have hs := hs1
    clear hs1
    obtain ⟨hl8, hs⟩ := bif_inv hs
    obtain ⟨m1, m2, m3, m4, m5, m6⟩ := hsp idx 1 h0
    have hl8' := Nat.le_of_ble_eq_true hl8
    exact va_mmax hx hb (hml.trans hL.1.symm) hown m1 m2 m3 m4 m5 (by rw [mcat_sum]; omega) (Nat.zero_le _) (Nat.zero_le _) hd (hk _ _ _ _ hs ls H locs hL hoL (hoS.tl.tl.int _) hH)
  · next h0 =>
    obtain ⟨hb2, hs1⟩ := bif_inv hs
    clear hs
    have ek := beq_inv hb2
    subst ek
    have hs := hs1
    clear hs1
    obtain ⟨y, S1, hE, hs1⟩ := pI_inv hs
    clear hs
    subst hE
    have hs := hs1
    clear hs1
    obtain ⟨x, S2, hE, hs1⟩ := pI_inv hs
    clear hs
    subst hE
    have hs := hs1
    clear hs1
    obtain ⟨hl8, hs⟩ := bif_inv hs
    obtain ⟨m1, m2, m3, m4, m5, m6⟩ := hsp idx 2 h0
    have hl8' := Nat.le_of_ble_eq_true hl8
    exact va_mmin hx hb (hml.trans hL.1.symm) hown m1 m2 m3 m4 m5 (by rw [mcat_sum]; omega) (Nat.zero_le _) (Nat.zero_le _) hd (hk _ _ _ _ hs ls H locs hL hoL (hoS.tl.tl.int _) hH)
  · cases hs
  · split at hs
    · next q hq =>
      obtain ⟨h0, hs⟩ := bif_inv hs
      simp only [Bool.and_eq_true] at h0
      obtain ⟨k1, k2, k3⟩ := h0
      have ek := beq_inv k1
      have l1 := Nat.le_of_ble_eq_true k2
      have l2 := Nat.le_of_ble_eq_true k3
      obtain ⟨r, g', hf, hs⟩ := mGo_inv hs
      have okA : mokS nm (S.take q.2.1).reverse := fun v hv => hoS v (List.mem_of_mem_take (List.mem_reverse.mp hv))
      have okD : mokS nm (S.drop q.2.1) := fun v hv => hoS v (List.mem_of_mem_drop hv)
      have hgo := hct idx q hq pc ls H locs g g' (S.take q.2.1).reverse (S.drop q.2.1) r (by rw [ek]; exact hd) hL.1 (by rw [List.length_reverse, List.length_take]; omega) okA (by rw [List.length_drop]; omega) hH hf
      have hall : (S.take q.2.1).reverse.reverse ++ S.drop q.2.1 = S := by rw [List.reverse_reverse, List.take_append_drop]
      rw [hall] at hgo
      refine hgo (fun H1 locs1 h1 hr => hk _ _ _ _ hs ls H1 locs1 hL hoL (fun v hv => ?_) h1)
      rcases List.mem_append.mp hv with h | h
      · exact hr v (Option.mem_toList.mp h)
      · exact okD v h
    · cases hs
/-- a step of the small machine is a step of the large one -/
theorem mSim1 (X : mCtx p l e R s m args below meth c Qc cc nL own D cl tys sh nm cs cA ad A T gl pl gs fe sm ct sp rk res) {pc : Nat} {i : mIn} (hi : mlk T pc = some i) {L : mL} {S : List mV} {g : mG} {ls : Array Slot} {H : Heap} {locs : List Loc} {k : mK}
    (hs : mStep sh nm gl pl gs fe sm ct sp rk i L S g k = some res)
    (hk : ∀ (pc' : Nat) (L' : mL) (S' : List mV) (g' : mG), k pc' L' S' g' = some res → ∀ (ls' : Array Slot) (H' : Heap) (locs' : List Loc), mHL ad ls' nL L' → mokL nm L' → mokS nm S' → mHp D cl sh cA ad cs A s.heap g' H' locs' → mWk p l e R s m args below meth c Qc A H' locs' pc' ls' (S'.map (mcv ad)))
    (hL : mHL ad ls nL L) (hoL : mokL nm L) (hoS : mokS nm S) (hH : mHp D cl sh cA ad cs A s.heap g H locs) : mWk p l e R s m args below meth c Qc A H locs pc ls (S.map (mcv ad)) := by
  have X0 := X
  obtain ⟨⟨hx, hb, hml, hown, hlocks⟩, hdec, ⟨hK, ht0, ht1, FC, ht2⟩, ⟨hnd, hcs, hcl, hn10, hst, hkd⟩, hgl, hpl, hgs, hfe, hsm, hal, hln, hinj, hct, hsp, ⟨hr0, hr1, hr2, hr3⟩, hend⟩ := X
  obtain ⟨hd, hnx, hok⟩ := hdec pc i hi
  obtain ⟨ins, len, nx, tg, sw⟩ := i
  dsimp only at hd hnx
  subst hnx
  cases ins
  all_goals (try dsimp only [mStep] at hs)
  case iconst n =>
    have e1 : len = 1 := of_decide_eq_true hok
    subst e1
    exact lv_iconst hx hb hd rfl (hk _ _ _ _ hs ls H locs hL hoL (hoS.int _) hH)
  case bipush n =>
    have h9 : (decide (len = 2) && decide ((Int8.ofInt n).toInt32 = Int32.ofInt n)) = true := hok
    simp only [Bool.and_eq_true, decide_eq_true_eq] at h9
    obtain ⟨e1, e2⟩ := h9
    subst e1
    exact lv_bipush hx hb hd e2 (hk _ _ _ _ hs ls H locs hL hoL (hoS.int _) hH)
  case sipush n =>
    have h9 : (decide (len = 3) && decide ((Int16.ofInt n).toInt32 = Int32.ofInt n)) = true := hok
    simp only [Bool.and_eq_true, decide_eq_true_eq] at h9
    obtain ⟨e1, e2⟩ := h9
    subst e1
    exact lv_sipush hx hb hd e2 (hk _ _ _ _ hs ls H locs hL hoL (hoS.int _) hH)
  case iload j =>
    have e1 : len = 2 := of_decide_eq_true hok
    subst e1
    obtain ⟨x, h1, hs⟩ := lI_inv hs
    exact lv_iload hx hb hd (hL.2.2 j _ h1) (hk _ _ _ _ hs ls H locs hL hoL (hoS.int _) hH)
  case iload_n j =>
    have e1 : len = 1 := of_decide_eq_true hok
    subst e1
    obtain ⟨x, h1, hs⟩ := lI_inv hs
    exact lv_iload_n hx hb hd rfl (hL.2.2 j.val _ h1) (hk _ _ _ _ hs ls H locs hL hoL (hoS.int _) hH)
  case aload j =>
    have e1 : len = 2 := of_decide_eq_true hok
    subst e1
    obtain ⟨a, b, h1, hs⟩ := lR_inv hs
    exact lv_aload hx hb hd (hL.2.2 j _ h1) (hk _ _ _ _ hs ls H locs hL hoL (hoS.cons (hoL j _ h1)) hH)
  case aload_n j =>
    have e1 : len = 1 := of_decide_eq_true hok
    subst e1
    obtain ⟨a, b, h1, hs⟩ := lR_inv hs
    exact lv_aload_n hx hb hd rfl (hL.2.2 j.val _ h1) (hk _ _ _ _ hs ls H locs hL hoL (hoS.cons (hoL j.val _ h1)) hH)
  case istore j =>
    have h9 : (decide (len = 2) && decide (j < nL)) = true := hok
    simp only [Bool.and_eq_true, decide_eq_true_eq] at h9
    obtain ⟨e1, e2⟩ := h9
    subst e1
    obtain ⟨x, S1, hE, hs1⟩ := pI_inv hs
    clear hs
    subst hE
    have hs := hs1
    clear hs1
    exact lv_istore hx hb hd hL.to e2 rfl (fun ls' h' => hk _ _ _ _ hs ls' H locs (mHL.set (v := .inl x) h') (hoL.set (v := .inl x) trivial) hoS.tl hH)
  case istore_n j =>
    have h9 : (decide (len = 1) && decide (j.val < nL)) = true := hok
    simp only [Bool.and_eq_true, decide_eq_true_eq] at h9
    obtain ⟨e1, e2⟩ := h9
    subst e1
    obtain ⟨x, S1, hE, hs1⟩ := pI_inv hs
    clear hs
    subst hE
    have hs := hs1
    clear hs1
    exact lv_istore_n hx hb hd rfl hL.to e2 rfl (fun ls' h' => hk _ _ _ _ hs ls' H locs (mHL.set (v := .inl x) h') (hoL.set (v := .inl x) trivial) hoS.tl hH)
  case astore j =>
    have h9 : (decide (len = 2) && decide (j < nL)) = true := hok
    simp only [Bool.and_eq_true, decide_eq_true_eq] at h9
    obtain ⟨e1, e2⟩ := h9
    subst e1
    obtain ⟨a, b, S1, hE, hs1⟩ := pR_inv hs
    clear hs
    subst hE
    have hs := hs1
    clear hs1
    exact lv_astore hx hb hd hL.to e2 rfl (fun ls' h' => hk _ _ _ _ hs ls' H locs (mHL.set (v := .inr (a, b)) h') (hoL.set (v := .inr (a, b)) hoS.hd) hoS.tl hH)
  case astore_n j =>
    have h9 : (decide (len = 1) && decide (j.val < nL)) = true := hok
    simp only [Bool.and_eq_true, decide_eq_true_eq] at h9
    obtain ⟨e1, e2⟩ := h9
    subst e1
    obtain ⟨a, b, S1, hE, hs1⟩ := pR_inv hs
    clear hs
    subst hE
    have hs := hs1
    clear hs1
    exact lv_astore_n hx hb hd rfl hL.to e2 rfl (fun ls' h' => hk _ _ _ _ hs ls' H locs (mHL.set (v := .inr (a, b)) h') (hoL.set (v := .inr (a, b)) hoS.hd) hoS.tl hH)
  case iinc j n =>
    have h9 : (decide (len = 3) && decide (j < nL)) = true := hok
    simp only [Bool.and_eq_true, decide_eq_true_eq] at h9
    obtain ⟨e1, e2⟩ := h9
    subst e1
    obtain ⟨x, h1, hs⟩ := lI_inv hs
    obtain ⟨q, hq⟩ := List.getElem?_of_mem (mlvs_mem (ad := ad) (q := (j, .int x)) |>.mpr ⟨.inl x, h1, rfl⟩)
    exact lv_iinc hx hb hd hL.to hq rfl e2 rfl (fun ls' h' => hk _ _ _ _ hs ls' H locs (mHL.set (v := .inl _) h') (hoL.set (v := .inl _) trivial) hoS hH)
  case iadd =>
    have e1 : len = 1 := of_decide_eq_true hok
    subst e1
    obtain ⟨y, S1, hE, hs1⟩ := pI_inv hs
    clear hs
    subst hE
    have hs := hs1
    clear hs1
    obtain ⟨x, S2, hE, hs1⟩ := pI_inv hs
    clear hs
    subst hE
    have hs := hs1
    clear hs1
    exact lv_iadd hx hb hd (hk _ _ _ _ hs ls H locs hL hoL (hoS.tl.tl.int _) hH)
  case isub =>
    have e1 : len = 1 := of_decide_eq_true hok
    subst e1
    obtain ⟨y, S1, hE, hs1⟩ := pI_inv hs
    clear hs
    subst hE
    have hs := hs1
    clear hs1
    obtain ⟨x, S2, hE, hs1⟩ := pI_inv hs
    clear hs
    subst hE
    have hs := hs1
    clear hs1
    exact lv_isub hx hb hd (hk _ _ _ _ hs ls H locs hL hoL (hoS.tl.tl.int _) hH)
  case imul =>
    have e1 : len = 1 := of_decide_eq_true hok
    subst e1
    obtain ⟨y, S1, hE, hs1⟩ := pI_inv hs
    clear hs
    subst hE
    have hs := hs1
    clear hs1
    obtain ⟨x, S2, hE, hs1⟩ := pI_inv hs
    clear hs
    subst hE
    have hs := hs1
    clear hs1
    exact lv_imul hx hb hd (hk _ _ _ _ hs ls H locs hL hoL (hoS.tl.tl.int _) hH)
  case idiv =>
    have e1 : len = 1 := of_decide_eq_true hok
    subst e1
    obtain ⟨y, S1, hE, hs1⟩ := pI_inv hs
    clear hs
    subst hE
    have hs := hs1
    clear hs1
    obtain ⟨x, S2, hE, hs1⟩ := pI_inv hs
    clear hs
    subst hE
    have hs := hs1
    clear hs1
    by_cases h0 : y = 0
    · rw [if_pos h0] at hs; cases hs
    · rw [if_neg h0] at hs
      exact lv_idiv hx hb hd h0 (hk _ _ _ _ hs ls H locs hL hoL (hoS.tl.tl.int _) hH)
  case irem =>
    have e1 : len = 1 := of_decide_eq_true hok
    subst e1
    obtain ⟨y, S1, hE, hs1⟩ := pI_inv hs
    clear hs
    subst hE
    have hs := hs1
    clear hs1
    obtain ⟨x, S2, hE, hs1⟩ := pI_inv hs
    clear hs
    subst hE
    have hs := hs1
    clear hs1
    by_cases h0 : y = 0
    · rw [if_pos h0] at hs; cases hs
    · rw [if_neg h0] at hs
      exact lv_irem hx hb hd h0 (hk _ _ _ _ hs ls H locs hL hoL (hoS.tl.tl.int _) hH)
  case dup =>
    have e1 : len = 1 := of_decide_eq_true hok
    subst e1
    obtain ⟨v, S1, hE, hs1⟩ := pA_inv hs
    clear hs
    subst hE
    have hs := hs1
    clear hs1
    exact lv_dup hx hb hd (mcv_cat ad v) (hk _ _ _ _ hs ls H locs hL hoL (hoS.cons hoS.hd) hH)
  case pop =>
    have e1 : len = 1 := of_decide_eq_true hok
    subst e1
    obtain ⟨v, S1, hE, hs1⟩ := pA_inv hs
    clear hs
    subst hE
    have hs := hs1
    clear hs1
    exact lv_pop hx hb hd (mcv_cat ad v) (hk _ _ _ _ hs ls H locs hL hoL hoS.tl hH)
  case dup_x1 =>
    have e1 : len = 1 := of_decide_eq_true hok
    subst e1
    obtain ⟨v, S1, hE, hs1⟩ := pA_inv hs
    clear hs
    subst hE
    have hs := hs1
    clear hs1
    obtain ⟨w, S2, hE, hs1⟩ := pA_inv hs
    clear hs
    subst hE
    have hs := hs1
    clear hs1
    exact lv_dup_x1 hx hb hd (mcv_cat ad v) (mcv_cat ad w) (hk _ _ _ _ hs ls H locs hL hoL (((hoS.tl.tl.cons hoS.hd).cons hoS.tl.hd).cons hoS.hd) hH)
  case dup_x2 =>
    have e1 : len = 1 := of_decide_eq_true hok
    subst e1
    obtain ⟨v, S1, hE, hs1⟩ := pA_inv hs
    clear hs
    subst hE
    have hs := hs1
    clear hs1
    obtain ⟨w, S2, hE, hs1⟩ := pA_inv hs
    clear hs
    subst hE
    have hs := hs1
    clear hs1
    obtain ⟨u, S3, hE, hs1⟩ := pA_inv hs
    clear hs
    subst hE
    have hs := hs1
    clear hs1
    exact lv_dup_x2 hx hb hd (mcv_cat ad v) (mcv_cat ad w) (mcv_cat ad u) (hk _ _ _ _ hs ls H locs hL hoL ((((hoS.tl.tl.tl.cons hoS.hd).cons hoS.tl.tl.hd).cons hoS.tl.hd).cons hoS.hd) hH)
  case dup2 =>
    have e1 : len = 1 := of_decide_eq_true hok
    subst e1
    obtain ⟨v, S1, hE, hs1⟩ := pA_inv hs
    clear hs
    subst hE
    have hs := hs1
    clear hs1
    obtain ⟨w, S2, hE, hs1⟩ := pA_inv hs
    clear hs
    subst hE
    have hs := hs1
    clear hs1
    exact lv_dup2_11 hx hb hd (mcv_cat ad v) (mcv_cat ad w) (hk _ _ _ _ hs ls H locs hL hoL ((hoS.cons hoS.tl.hd).cons hoS.hd) hH)
  case ifCond cnd off =>
    have h9 : (decide (len = 3) && decide ((pc : Int) + off = (tg : Int))) = true := hok
    simp only [Bool.and_eq_true, decide_eq_true_eq] at h9
    obtain ⟨e1, e2⟩ := h9
    subst e1
    obtain ⟨x, S1, hE, hs1⟩ := pI_inv hs
    clear hs
    subst hE
    have hs := hs1
    clear hs1
    have kt : k tg L S1 g = some res → mWk p l e R s m args below meth c Qc A H locs tg ls (S1.map (mcv ad)) := fun h => hk _ _ _ _ h ls H locs hL hoL hoS.tl hH
    have kf : k (pc + 3) L S1 g = some res → mWk p l e R s m args below meth c Qc A H locs (pc + 3) ls (S1.map (mcv ad)) := fun h => hk _ _ _ _ h ls H locs hL hoL hoS.tl hH
    cases cnd
    all_goals dsimp only [mIf] at hs
    case eq => exact lv_if_eq hx hb hd e2 (fun h => kt (by rwa [if_pos h] at hs)) (fun h => kf (by rwa [if_neg h] at hs))
    case ne => exact lv_if_ne hx hb hd e2 (fun h => kt (by rwa [if_neg h] at hs)) (fun h => kf (by rwa [if_pos h] at hs))
    case lt => exact lv_if_lt hx hb hd e2 (fun h => kt (by rwa [if_pos h] at hs)) (fun h => kf (by rwa [if_neg h] at hs))
    case ge => exact lv_if_ge hx hb hd e2 (fun h => kt (by rwa [if_neg (i32_ge.mp h)] at hs)) (fun h => kf (by rwa [if_pos (Classical.not_not.mp fun z => h (i32_ge.mpr z))] at hs))
    case gt => exact lv_if_gt hx hb hd e2 (fun h => kt (by rwa [if_pos h] at hs)) (fun h => kf (by rwa [if_neg h] at hs))
    case le => exact lv_if_le hx hb hd e2 (fun h => kt (by rwa [if_neg (i32_ge.mp h)] at hs)) (fun h => kf (by rwa [if_pos (Classical.not_not.mp fun z => h (i32_ge.mpr z))] at hs))
  case if_icmp cnd off =>
    have h9 : (decide (len = 3) && decide ((pc : Int) + off = (tg : Int))) = true := hok
    simp only [Bool.and_eq_true, decide_eq_true_eq] at h9
    obtain ⟨e1, e2⟩ := h9
    subst e1
    obtain ⟨y, S0, hE, hs1⟩ := pI_inv hs
    clear hs
    subst hE
    have hs := hs1
    clear hs1
    obtain ⟨x, S1, hE, hs1⟩ := pI_inv hs
    clear hs
    subst hE
    have hs := hs1
    clear hs1
    have kt : k tg L S1 g = some res → mWk p l e R s m args below meth c Qc A H locs tg ls (S1.map (mcv ad)) := fun h => hk _ _ _ _ h ls H locs hL hoL hoS.tl.tl hH
    have kf : k (pc + 3) L S1 g = some res → mWk p l e R s m args below meth c Qc A H locs (pc + 3) ls (S1.map (mcv ad)) := fun h => hk _ _ _ _ h ls H locs hL hoL hoS.tl.tl hH
    cases cnd
    all_goals dsimp only [mIf] at hs
    case eq => exact lv_icmp_eq hx hb hd e2 (fun h => kt (by rwa [if_pos h] at hs)) (fun h => kf (by rwa [if_neg h] at hs))
    case ne => exact lv_icmp_ne hx hb hd e2 (fun h => kt (by rwa [if_neg h] at hs)) (fun h => kf (by rwa [if_pos h] at hs))
    case lt => exact lv_icmp_lt hx hb hd e2 (fun h => kt (by rwa [if_pos h] at hs)) (fun h => kf (by rwa [if_neg h] at hs))
    case ge => exact lv_icmp_ge hx hb hd e2 (fun h => kt (by rwa [if_neg (i32_ge.mp h)] at hs)) (fun h => kf (by rwa [if_pos (Classical.not_not.mp fun z => h (i32_ge.mpr z))] at hs))
    case gt => exact lv_icmp_gt hx hb hd e2 (fun h => kt (by rwa [if_pos h] at hs)) (fun h => kf (by rwa [if_neg h] at hs))
    case le => exact lv_icmp_le hx hb hd e2 (fun h => kt (by rwa [if_neg (i32_ge.mp h)] at hs)) (fun h => kf (by rwa [if_pos (Classical.not_not.mp fun z => h (i32_ge.mpr z))] at hs))
  case if_acmp cnd off =>
    have h9 : (decide (len = 3) && decide ((pc : Int) + off = (tg : Int))) = true := hok
    simp only [Bool.and_eq_true, decide_eq_true_eq] at h9
    obtain ⟨e1, e2⟩ := h9
    subst e1
    cases cnd
    case eq =>
      obtain ⟨b, j', S0, hE, hs1⟩ := pR_inv hs
      clear hs
      subst hE
      have hs := hs1
      clear hs1
      obtain ⟨a, j, S1, hE, hs1⟩ := pR_inv hs
      clear hs
      subst hE
      have hs := hs1
      clear hs1
      obtain ⟨h0, hs⟩ := bif_inv hs
      simp only [Bool.and_eq_true] at h0
      have ea := beq_inv h0.1
      have eb := beq_inv h0.2
      subst ea; subst eb
      have v1 : j' < nm 100 := hoS.hd
      have v2 : j < nm 100 := hoS.tl.hd
      refine lv_acmp_eq (rx := some (ad 100 j)) (ry := some (ad 100 j')) hx hb hd e2 (fun h => ?_) (fun h => ?_)
      · have hj := hinj j j' v2 v1 (Option.some.inj h)
        rw [if_pos hj] at hs
        exact hk _ _ _ _ hs ls H locs hL hoL hoS.tl.tl hH
      · have hj : ¬ j = j' := fun z => h (by rw [z])
        rw [if_neg hj] at hs
        exact hk _ _ _ _ hs ls H locs hL hoL hoS.tl.tl hH
    case ne =>
      obtain ⟨b, j', S0, hE, hs1⟩ := pR_inv hs
      clear hs
      subst hE
      have hs := hs1
      clear hs1
      obtain ⟨a, j, S1, hE, hs1⟩ := pR_inv hs
      clear hs
      subst hE
      have hs := hs1
      clear hs1
      obtain ⟨h0, hs⟩ := bif_inv hs
      simp only [Bool.and_eq_true] at h0
      have ea := beq_inv h0.1
      have eb := beq_inv h0.2
      subst ea; subst eb
      have v1 : j' < nm 100 := hoS.hd
      have v2 : j < nm 100 := hoS.tl.hd
      refine lv_acmp_ne (rx := some (ad 100 j)) (ry := some (ad 100 j')) hx hb hd e2 (fun h => ?_) (fun h => ?_)
      · have hj : ¬ j = j' := fun z => h (by rw [z])
        rw [if_neg hj] at hs
        exact hk _ _ _ _ hs ls H locs hL hoL hoS.tl.tl hH
      · have hj := hinj j j' v2 v1 (Option.some.inj h)
        rw [if_pos hj] at hs
        exact hk _ _ _ _ hs ls H locs hL hoL hoS.tl.tl hH
  case goto off =>
    have h9 : (decide (len = 3) && decide ((pc : Int) + off = (tg : Int))) = true := hok
    simp only [Bool.and_eq_true, decide_eq_true_eq] at h9
    obtain ⟨e1, e2⟩ := h9
    subst e1
    exact lv_goto hx hb hd e2 (hk _ _ _ _ hs ls H locs hL hoL hoS hH)
  case tableswitch d lo hi9 offs =>
    have h9 : (decide ((pc : Int) + d = (tg : Int)) && (decide (hi9 = lo + (sw.length : Int) - 1) && mSwOk pc offs.toList lo sw)) = true := hok
    simp only [Bool.and_eq_true, decide_eq_true_eq] at h9
    obtain ⟨e1, e2, e3⟩ := h9
    obtain ⟨x, S1, hE, hs1⟩ := pI_inv hs
    clear hs
    subst hE
    have hs := hs1
    clear hs1
    rcases mSw_in sw offs.toList lo e3 hs with ⟨h1, h2⟩ | ⟨h1, h2, off, tgt, h3, h4, h5⟩
    · rw [← e2] at h1
      exact lv_tableOut hx hb hd h1 e1 (hk _ _ _ _ h2 ls H locs hL hoL hoS.tl hH)
    · rw [← e2] at h2
      rw [Array.getElem?_toList] at h3
      exact lv_tableIn hx hb hd h1 h2 h3 h4 (hk _ _ _ _ h5 ls H locs hL hoL hoS.tl hH)
  case lookupswitch d ps =>
    have h9 : (decide ((pc : Int) + d = (tg : Int)) && ((ps.toList.zip (ps.toList.drop 1)).all (fun (a, next) => a.1 < next.1) && mLkOk pc ps.toList sw)) = true := hok
    rw [Bool.and_eq_true, Bool.and_eq_true] at h9
    obtain ⟨e1, e2, e3⟩ := h9
    obtain ⟨x, S1, hE, hs1⟩ := pI_inv hs
    clear hs
    subst hE
    have hs := hs1
    clear hs1
    obtain ⟨tgt, h1, h2⟩ := mLk_in (of_decide_eq_true e1) sw ps.toList e3 hs
    exact lv_lookup hx hb hd e2 rfl h1 (hk _ _ _ _ h2 ls H locs hL hoL hoS.tl hH)
  case getfield idx =>
    have e1 : len = 3 := of_decide_eq_true hok
    subst e1
    obtain ⟨a, j, S1, hE, hs1⟩ := pR_inv hs
    clear hs
    subst hE
    have hs := hs1
    clear hs1
    have hv : j < nm a := hoS.hd
    cases h0 : Nat.beq a 100 with
    | true =>
      rw [h0] at hs
      have ea := beq_inv h0
      subst ea
      cases h1 : mlk fe idx with
      | none => rw [h1] at hs; cases hs
      | some vs =>
        rw [h1] at hs
        exact hfe idx vs h1 j pc ls H locs _ hv hd hH.2.2 (hk _ _ _ _ hs ls H locs hL hoL (hoS.tl.int _) hH)
    | false =>
      rw [h0] at hs
      dsimp only [cond] at hs
      obtain ⟨ci, ks, f, kd, h1, h2, h3, hs⟩ := mFld_inv hs
      obtain ⟨q0, c0, w0⟩ := hH.at (hcs a j _ h1 hv)
      rw [mEn_obj h1] at w0
      obtain ⟨C, Tt, N, ref, g1, g2, g3, g4, g5⟩ := hgl idx ci f h2
      have hgo : ∀ v : mV, mEl ad g a j f kd = mcv ad v → mokV nm v → k (pc + 3) L (v :: S1) g = some res → mWk p l e R s m args below meth c Qc A H locs pc ls ((.inr (a, j) :: S1).map (mcv ad)) := by
        intro v hev hov hs
        have hkk := hk _ _ _ _ hs ls H locs hL hoL (hoS.tl.cons hov) hH
        rcases g4 with g4 | ⟨host, g4⟩
        · exact va_get (D := D) (Ts := u_ws C Tt N) (ci := ci) (v := mcv ad v) hx hb g3 (fun _ h => h) hown hK hH.1 q0 w0 g1 f g2 g4 g5 (by rw [mEn_slot h3, hev]) hd hkk
        · exact va_getN (D := D) (Ts := u_ws C Tt N) (ci := ci) (v := mcv ad v) hx hb g3 (fun _ h => h) hown hK hH.1 q0 w0 g1 f g2 g4 g5 (by rw [mEn_slot h3, hev]) hd hkk
      match kd, h3, hs, hgo with
      | 0, h3, hs, hgo => exact hgo (.inl (g a j f)) rfl trivial hs
      | 1, h3, hs, hgo => exact hgo (.inl (g a j f)) rfl trivial hs
      | 2, h3, hs, hgo =>
        obtain ⟨h4, hs⟩ := ite_inv hs
        exact hgo (.inr (10, (g a j f).toNatClampNeg)) rfl h4 hs
      | b + 3, h3, hs, hgo => exact hgo (.inr (b, j)) rfl (Nat.lt_of_lt_of_le hv (hst a ci ks f b h1 h3)) hs
  case putfield idx =>
    have e1 : len = 3 := of_decide_eq_true hok
    subst e1
    obtain ⟨v, S0, hE, hs1⟩ := pA_inv hs
    clear hs
    subst hE
    have hs := hs1
    clear hs1
    obtain ⟨a, j, S1, hE, hs1⟩ := pR_inv hs
    clear hs
    subst hE
    have hs := hs1
    clear hs1
    have hv : j < nm a := hoS.tl.hd
    obtain ⟨ci, ks, f, kd, h1, h2, h3, hs⟩ := mFld_inv hs
    obtain ⟨q0, c0, w0⟩ := hH.at (hcs a j _ h1 hv)
    rw [mEn_obj h1] at w0
    obtain ⟨⟨C, Tt, N, ref, g1, g2, g3, g4, g5⟩, C', T', N', f1, f2⟩ := hpl idx ci f h2
    obtain ⟨C2, T2, N2, ty, d1, d2, d3, d4, d5⟩ := hcl a ci ks h1
    obtain ⟨rfl, rfl, rfl⟩ : C = C' ∧ Tt = T' ∧ N = N' := by
      have := Option.some.inj (g1.symm.trans f1)
      simpa using this
    obtain ⟨rfl, rfl, rfl⟩ : C = C2 ∧ Tt = T2 ∧ N = N2 := by
      have := Option.some.inj (g1.symm.trans d1)
      simpa using this
    have hgo : ∀ x : Int32, mEl ad (st3 g a j f x) a j f kd = mcv ad v → narrow (ty f) (mcv ad v) = mcv ad v → fits (ty f) (mcv ad v) = true → k (pc + 3) L S1 (st3 g a j f x) = some res → mWk p l e R s m args below meth c Qc A H locs pc ls ((v :: .inr (a, j) :: S1).map (mcv ad)) := by
      intro x hev hna hfi hs
      have hkk : ∀ (H1 : Heap) (locs1 : List Loc), va_P D cl ((mWd sh cA ad cs g).set q0 (ad a j, .inr (ci, (ks.mapIdx (fun k kd => mEl ad g a j k kd)).set f (mcv ad v)))) H1 → va_D A ((mWd sh cA ad cs g).set q0 (ad a j, .inr (ci, (ks.mapIdx (fun k kd => mEl ad g a j k kd)).set f (mcv ad v)))) → va_S A s.heap H1 locs1 → mWk p l e R s m args below meth c Qc A H1 locs1 (pc + 3) ls (S1.map (mcv ad)) :=
        fun H1 locs1 hP hD hS => hk _ _ _ _ hs ls H1 locs1 hL hoL hoS.tl.tl (mHp.wr hnd c0 (fun a' j' h => st3_ne h) (mEn_put h1 h3 hev) hP hD hS)
      have hlen : f < (ks.mapIdx (fun k kd => mEl ad g a j k kd)).length := by
        rw [List.length_mapIdx]
        exact (List.getElem?_eq_some_iff.mp h3).1
      rcases g4 with g4 | ⟨host, g4⟩
      · exact va_put (D := D) (Ts := u_ws C Tt N) (ci := ci) (v := mcv ad v) hx hb g3 (fun _ h => h) ty d3 d4 hown hK hH.1 hH.2.1 hH.2.2 q0 w0 g1 f g2 g4 g5 f2 (d3 f g2) hna hfi hlen hd hkk
      · exact va_putN (D := D) (Ts := u_ws C Tt N) (ci := ci) (v := mcv ad v) hx hb g3 (fun _ h => h) ty d3 d4 hown hK hH.1 hH.2.1 hH.2.2 q0 w0 g1 f g2 g4 g5 f2 (d3 f g2) hna hfi hlen hd hkk
    have hself : ∀ x : Int32, st3 g a j f x a j f = x := by
      intro x
      unfold st3
      exact if_pos ⟨rfl, rfl, rfl⟩
    match v, hs, hgo, hoS with
    | .inl x, hs, hgo, _ =>
      dsimp only at hs
      cases h4 : Nat.beq kd 0 with
      | true =>
        rw [h4] at hs
        have ek := beq_inv h4
        subst ek
        have ety := (d5 f).1 h3
        exact hgo x (by show Value.int _ = Value.int _; rw [hself]) (by rw [ety]; rfl) (by rw [ety]; rfl) hs
      | false =>
        rw [h4] at hs
        obtain ⟨h5, hs⟩ := bif_inv (show (bif Nat.beq kd 1 then (if isB x then k (pc + 3) L S1 (st3 g a j f x) else none) else none) = some res from hs)
        have ek := beq_inv h5
        subst ek
        obtain ⟨hB, hs⟩ := ite_inv hs
        have ety := (d5 f).2.1 h3
        exact hgo x (by show Value.int _ = Value.int _; rw [hself]) (by rw [ety]; rcases hB with rfl | rfl <;> rfl) (by rw [ety]; rcases hB with rfl | rfl <;> rfl) hs
    | .inr q, hs, hgo, hoS =>
      dsimp only at hs
      obtain ⟨h5, hs⟩ := bif_inv hs
      simp only [Bool.and_eq_true] at h5
      have ek := beq_inv h5.1
      have eq10 := beq_inv h5.2
      subst ek
      obtain ⟨b, cN⟩ := q
      dsimp only at eq10 hs
      subst eq10
      have hc : cN < nm 10 := hoS.hd
      obtain ⟨o, ety⟩ := (d5 f).2.2 h3
      exact hgo (nI cN) (by show Value.ref _ = Value.ref _; rw [hself, nI_clamp (by omega)]) (by rw [ety]; rfl) (by rw [ety]; rfl) hs
  case iaload =>
    have e1 : len = 1 := of_decide_eq_true hok
    subst e1
    obtain ⟨x, S0, hE, hs1⟩ := pI_inv hs
    clear hs
    subst hE
    have hs := hs1
    clear hs1
    obtain ⟨a, j, S1, hE, hs1⟩ := pR_inv hs
    clear hs
    subst hE
    have hs := hs1
    clear hs1
    have hv : j < nm a := hoS.tl.hd
    cases h0 : Nat.beq a 102 with
    | true =>
      rw [h0] at hs
      have ea := beq_inv h0
      subst ea
      obtain ⟨hB, hs⟩ := ite_inv (show (if inB x sm.length then k (pc + 1) L (.inl (sm.getD x.toNatClampNeg 0) :: S1) g else none) = some res from hs)
      exact hsm x j pc ls H locs _ hv hB hd hH.2.2 (hk _ _ _ _ hs ls H locs hL hoL (hoS.tl.tl.int _) hH)
    | false =>
      rw [h0] at hs
      dsimp only [cond] at hs
      obtain ⟨n, h1, hs⟩ := mArr_inv hs
      obtain ⟨hB, hs⟩ := ite_inv hs
      obtain ⟨q0, c0, w0⟩ := hH.at (hcs a j _ h1 hv)
      rw [mEn_arr h1 (by decide)] at w0
      exact va_iald hx hb hK hH.1 q0 0 w0 ht0 (inB_in hB) hd (hk _ _ _ _ hs ls H locs hL hoL (hoS.tl.tl.int _) hH)
  case baload =>
    have e1 : len = 1 := of_decide_eq_true hok
    subst e1
    obtain ⟨x, S0, hE, hs1⟩ := pI_inv hs
    clear hs
    subst hE
    have hs := hs1
    clear hs1
    obtain ⟨a, j, S1, hE, hs1⟩ := pR_inv hs
    clear hs
    subst hE
    have hs := hs1
    clear hs1
    have hv : j < nm a := hoS.tl.hd
    obtain ⟨n, h1, hs⟩ := mArr_inv hs
    obtain ⟨hB, hs⟩ := ite_inv hs
    obtain ⟨q0, c0, w0⟩ := hH.at (hcs a j _ h1 hv)
    rw [mEn_arr h1 (by decide)] at w0
    exact va_zald hx hb hK hH.1 q0 1 w0 ht1 (inB_in hB) hd (hk _ _ _ _ hs ls H locs hL hoL (hoS.tl.tl.int _) hH)
  case aaload =>
    have e1 : len = 1 := of_decide_eq_true hok
    subst e1
    obtain ⟨x, S0, hE, hs1⟩ := pI_inv hs
    clear hs
    subst hE
    have hs := hs1
    clear hs1
    obtain ⟨a, j, S1, hE, hs1⟩ := pR_inv hs
    clear hs
    subst hE
    have hs := hs1
    clear hs1
    have hv : j < nm a := hoS.tl.hd
    cases h0 : Nat.beq a 101 with
    | true =>
      rw [h0] at hs
      have ea := beq_inv h0
      subst ea
      obtain ⟨hB, hs⟩ := ite_inv (show (if inB x (nm 100) then k (pc + 1) L (.inr (100, x.toNatClampNeg) :: S1) g else none) = some res from hs)
      exact hal x j pc ls H locs _ hv hB hd hH.2.2 (hk _ _ _ _ hs ls H locs hL hoL (hoS.tl.tl.cons (inB_lt hB)) hH)
    | false =>
      rw [h0] at hs
      dsimp only [cond] at hs
      obtain ⟨n, h1, hs⟩ := mArr_inv hs
      obtain ⟨hB, hs⟩ := ite_inv hs
      obtain ⟨hc, hs⟩ := ite_inv hs
      obtain ⟨q0, c0, w0⟩ := hH.at (hcs a j _ h1 hv)
      rw [mEn_ref h1] at w0
      exact va_aldq hx hb hK hH.1 q0 2 w0 ht2 (inB_in hB) hd (hk _ _ _ _ hs ls H locs hL hoL (hoS.tl.tl.cons hc) hH)
  case iastore =>
    have e1 : len = 1 := of_decide_eq_true hok
    subst e1
    obtain ⟨v, S00, hE, hs1⟩ := pI_inv hs
    clear hs
    subst hE
    have hs := hs1
    clear hs1
    obtain ⟨x, S0, hE, hs1⟩ := pI_inv hs
    clear hs
    subst hE
    have hs := hs1
    clear hs1
    obtain ⟨a, j, S1, hE, hs1⟩ := pR_inv hs
    clear hs
    subst hE
    have hs := hs1
    clear hs1
    have hv : j < nm a := hoS.tl.tl.hd
    obtain ⟨n, h1, hs⟩ := mArr_inv hs
    obtain ⟨hB, hs⟩ := ite_inv hs
    obtain ⟨q0, c0, w0⟩ := hH.at (hcs a j _ h1 hv)
    rw [mEn_arr h1 (by decide)] at w0
    exact va_iast hx hb hK hH.1 hH.2.1 hH.2.2 q0 0 w0 ht0 (inB_in hB) hd (fun H1 locs1 hP hD hS => hk _ _ _ _ hs ls H1 locs1 hL hoL hoS.tl.tl.tl (mHp.wr hnd c0 (fun a' j' h => st3_ne h) (by rw [mEn_arr h1 (by decide), st3_row]) hP hD hS))
  case bastore =>
    have e1 : len = 1 := of_decide_eq_true hok
    subst e1
    obtain ⟨v, S00, hE, hs1⟩ := pI_inv hs
    clear hs
    subst hE
    have hs := hs1
    clear hs1
    obtain ⟨x, S0, hE, hs1⟩ := pI_inv hs
    clear hs
    subst hE
    have hs := hs1
    clear hs1
    obtain ⟨a, j, S1, hE, hs1⟩ := pR_inv hs
    clear hs
    subst hE
    have hs := hs1
    clear hs1
    have hv : j < nm a := hoS.tl.tl.hd
    obtain ⟨n, h1, hs⟩ := mArr_inv hs
    obtain ⟨hB, hs⟩ := ite_inv hs
    obtain ⟨hB2, hs⟩ := ite_inv hs
    obtain ⟨q0, c0, w0⟩ := hH.at (hcs a j _ h1 hv)
    rw [mEn_arr h1 (by decide)] at w0
    have hnar : vp_nar .boolean v = v := by rcases hB2 with rfl | rfl <;> rfl
    exact va_zast hx hb hK hH.1 hH.2.1 hH.2.2 q0 1 w0 ht1 (inB_in hB) hd (fun H1 locs1 hP hD hS => hk _ _ _ _ hs ls H1 locs1 hL hoL hoS.tl.tl.tl (mHp.wr hnd c0 (fun a' j' h => st3_ne h) (by rw [mEn_arr h1 (by decide), st3_row, hnar]) hP hD hS))
  case arraylength =>
    have e1 : len = 1 := of_decide_eq_true hok
    subst e1
    obtain ⟨a, j, S1, hE, hs1⟩ := pR_inv hs
    clear hs
    subst hE
    have hs := hs1
    clear hs1
    have hv : j < nm a := hoS.hd
    cases h0 : Nat.beq a 101 with
    | true =>
      rw [h0] at hs
      have ea := beq_inv h0
      subst ea
      exact hln j pc ls H locs _ hv hd hH.2.2 (hk _ _ _ _ hs ls H locs hL hoL (hoS.tl.int _) hH)
    | false =>
      rw [h0] at hs
      dsimp only [cond] at hs
      split at hs
      · next q hq =>
        obtain ⟨n, t⟩ := q
        obtain ⟨q0, c0, w0⟩ := hH.at (hcs a j _ hq hv)
        by_cases h2 : t = 2
        · subst h2
          rw [mEn_ref hq] at w0
          exact va_alen hx hb hK hH.1 q0 2 w0 ht2 rfl hd (hk _ _ _ _ hs ls H locs hL hoL (hoS.tl.int _) hH)
        · rw [mEn_arr hq h2] at w0
          have ht : t = 0 ∨ t = 1 := by
            have := hkd a n t hq
            omega
          rcases ht with rfl | rfl
          · exact va_alen hx hb hK hH.1 q0 0 w0 ht0 rfl hd (hk _ _ _ _ hs ls H locs hL hoL (hoS.tl.int _) hH)
          · exact va_alen hx hb hK hH.1 q0 1 w0 ht1 rfl hd (hk _ _ _ _ hs ls H locs hL hoL (hoS.tl.int _) hH)
      · cases hs
  case getstatic idx =>
    have e1 : len = 3 := of_decide_eq_true hok
    subst e1
    cases h1 : mlk gs idx with
    | none =>
      have hs : (match mlk gs idx with
        | some v => k (pc + 3) L (v :: S) g
        | none => none) = some res := hs
      rw [h1] at hs; cases hs
    | some v =>
      have hs : (match mlk gs idx with
        | some v => k (pc + 3) L (v :: S) g
        | none => none) = some res := hs
      rw [h1] at hs
      obtain ⟨h2, h3⟩ := hgs idx v h1
      exact h3 pc ls H locs _ hd hH.2.2 (hk _ _ _ _ hs ls H locs hL hoL (hoS.cons h2) hH)
  case invokevirtual idx =>
    have e1 : len = 3 := of_decide_eq_true hok
    subst e1
    exact mSimC X0 (kd := 0) hd hs hk hL hoL hoS hH
  case invokespecial idx =>
    have e1 : len = 3 := of_decide_eq_true hok
    subst e1
    exact mSimC X0 (kd := 1) hd hs hk hL hoL hoS hH
  case invokestatic idx =>
    have e1 : len = 3 := of_decide_eq_true hok
    subst e1
    exact mSimC X0 (kd := 2) hd hs hk hL hoL hoS hH
  case ireturn =>
    have e1 : len = 1 := of_decide_eq_true hok
    subst e1
    have hs : mRetI rk S g = some res := hs
    unfold mRetI at hs
    split at hs
    · next x _ =>
      cases h1 : Nat.beq rk 1 with
      | true =>
        rw [h1] at hs
        have e2 : (some (.inl x), g) = res := Option.some.inj hs
        subst e2
        exact W.iret hx hb (hr1 (beq_inv h1)) (fun t ht hW => hend H locs hH (fun v h => by cases h; trivial) t ht hW) hH.2.2.2.2 hd
      | false =>
        rw [h1] at hs
        obtain ⟨h2, hs⟩ := bif_inv (show (bif Nat.beq rk 2 then (if isB x then some (some (.inl x), g) else none) else none) = some res from hs)
        obtain ⟨hB, hs⟩ := ite_inv hs
        have e2 : (some (.inl x), g) = res := Option.some.inj hs
        subst e2
        exact W.zret (ty := .boolean) hx hb (hr2 (beq_inv h2)) (by rcases hB with rfl | rfl <;> rfl) (fun t ht hW => hend H locs hH (fun v h => by cases h; trivial) t ht hW) hH.2.2.2.2 hd
    · cases hs
  case areturn =>
    have e1 : len = 1 := of_decide_eq_true hok
    subst e1
    have hs : mRetA rk S g = some res := hs
    unfold mRetA at hs
    split at hs
    · next q _ =>
      obtain ⟨h2, hs⟩ := bif_inv hs
      have e2 : (some (.inr q), g) = res := Option.some.inj hs
      subst e2
      obtain ⟨o, ho⟩ := hr3 (beq_inv h2)
      exact W.aret hx hb ho (Or.inl ⟨o, rfl⟩) (Or.inr ⟨_, rfl⟩) (fun t ht hW => hend H locs hH (fun v h => by cases h; exact hoS.hd) t ht hW) hH.2.2.2.2 hd
    · cases hs
  case return_ =>
    have e1 : len = 1 := of_decide_eq_true hok
    subst e1
    have hs : mRetV rk S g = some res := hs
    unfold mRetV at hs
    split at hs
    · obtain ⟨h2, hs⟩ := bif_inv hs
      have e2 : (none, g) = res := Option.some.inj hs
      subst e2
      exact W.vret hx hb (hr0 (beq_inv h2)) (fun t ht hW => hend H locs hH (fun v h => by cases h) t ht hW) hH.2.2.2.2 hd
    · cases hs
  all_goals exact nomatch (show (none : Option mRes) = some res from hs)
/-- a run of the small machine is one of the large -/
theorem mSim (X : mCtx p l e R s m args below meth c Qc cc nL own D cl tys sh nm cs cA ad A T gl pl gs fe sm ct sp rk res) : ∀ (n pc : Nat) (L : mL) (S : List mV) (g : mG), px T sh nm gl pl gs fe sm ct sp rk n pc L S g = some res → ∀ (ls : Array Slot) (H : Heap) (locs : List Loc), mHL ad ls nL L → mokL nm L → mokS nm S → mHp D cl sh cA ad cs A s.heap g H locs → mWk p l e R s m args below meth c Qc A H locs pc ls (S.map (mcv ad))
  | 0, _, _, _, _, h, _, _, _, _, _, _, _ => nomatch (show (none : Option mRes) = some res from h)
  | n + 1, pc, L, S, g, h, ls, H, locs, hL, hoL, hoS, hH => by
    have h : (match mlk T pc with
      | some i => mStep sh nm gl pl gs fe sm ct sp rk i L S g (px T sh nm gl pl gs fe sm ct sp rk n)
      | none => none) = some res := h
    cases hi : mlk T pc with
    | none => rw [hi] at h; cases h
    | some i =>
      rw [hi] at h
      exact mSim1 X hi h (fun pc' L' S' g' h' ls' H' locs' a1 a2 a3 a4 => mSim X n pc' L' S' g' h' ls' H' locs' a1 a2 a3 a4) hL hoL hoS hH
end MSTEP
