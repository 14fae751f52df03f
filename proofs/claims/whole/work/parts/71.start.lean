/-! what the start gives: classes, arrays, constants -/
def fl : List Cond := flatC (Jvm.Cond.and given_1 narrow_1)
def exQ : List Nat := [103, 110, 117, 124, 131, 138, 145, 96, 152, 159, 166, 173, 180, 187, 44, 194, 201, 208, 215, 222, 229, 236, 243, 250, 257, 51, 58, 37]
def lsQ : List Nat := [756, 757, 758, 759, 760, 761, 762, 416, 763, 764, 765, 766, 767, 768, 332, 769, 770, 771, 772, 773, 774, 775, 776, 777, 778, 334, 336, 286]
theorem fx_ex : ∀ i, i < 28 → fl[exQ.getD i 0]? = some (Cond.exactly (.static "TriggerBase$Instruction" (enC.getD i "") "LTriggerBase$Instruction;") "TriggerBase$Instruction") := by decide +kernel
theorem fx_f : ∀ k, k < 6 → ∀ i, i < 28 → fl[exQ.getD i 0 + 1 + k]? = some (Cond.eq (.field (.static "TriggerBase$Instruction" (enC.getD i "") "LTriggerBase$Instruction;") (efC.getD k ("", "", "", [])).1 (efC.getD k ("", "", "", [])).2.1 (efC.getD k ("", "", "", [])).2.2.1) (.int ((efC.getD k ("", "", "", [])).2.2.2.getD i 0))) := by decide +kernel
theorem fx_al : ∀ i, i < 28 → fl[9 + i]? = some (Cond.eq (.elem (.static "TriggerBase$Instruction" "ALL" "[LTriggerBase$Instruction;") (.int (Int32.ofNat i))) (.static "TriggerBase$Instruction" (enC.getD i "") "LTriggerBase$Instruction;")) := by decide +kernel
theorem fx_sm : ∀ i, i < 28 → fl[68 + i]? = some (Cond.eq (.elem (.static "TriggerBase$1" "$SwitchMap$TriggerBase$Instruction" "[I") (.int (Int32.ofNat i))) (.int (smC.getD i 0))) := by decide +kernel
theorem fx_aA : fl[6]? = some (Cond.arrayOf (.static "TriggerBase$Instruction" "ALL" "[LTriggerBase$Instruction;") (.object "TriggerBase$Instruction")) := by decide +kernel
theorem fx_lA : fl[7]? = some (Cond.eq (.length (.static "TriggerBase$Instruction" "ALL" "[LTriggerBase$Instruction;")) (.int (Int32.ofNat 28))) := by decide +kernel
theorem fx_aS : fl[66]? = some (Cond.arrayOf (.static "TriggerBase$1" "$SwitchMap$TriggerBase$Instruction" "[I") .int) := by decide +kernel
theorem fx_lS : fl[67]? = some (Cond.eq (.length (.static "TriggerBase$1" "$SwitchMap$TriggerBase$Instruction" "[I")) (.int (Int32.ofNat 28))) := by decide +kernel
theorem fx_ls : ∀ i, i < 28 → lw_tbl[lsQ.getD i 0]? = some (Cond.laysStatic "TriggerBase$Instruction" (enC.getD i "") "LTriggerBase$Instruction;") := by decide +kernel
theorem fx_lsA : lw_tbl[283]? = some (Cond.laysStatic "TriggerBase$Instruction" "ALL" "[LTriggerBase$Instruction;") := by decide +kernel
theorem fx_lsS : lw_tbl[401]? = some (Cond.laysStatic "TriggerBase$1" "$SwitchMap$TriggerBase$Instruction" "[I") := by decide +kernel
theorem fx_in : Cond.initialized "TriggerBase$Instruction" ∈ lw_tbl := List.mem_of_getElem? (i := 48) (by decide +kernel)
theorem fx_in1 : Cond.initialized "TriggerBase$1" ∈ lw_tbl := List.mem_of_getElem? (i := 50) (by decide +kernel)
theorem fx_n0 : Cond.methodLinkNest "TriggerBase$Library" 33 yn_B_isBelow "TriggerBase" ∈ lw_tbl := List.mem_of_getElem? (i := 247) (by decide +kernel)
theorem fx_n1 : Cond.methodLinkNest "TriggerBase$Instruction" 128 yn_B_isBelow "TriggerBase" ∈ lw_tbl := List.mem_of_getElem? (i := 284) (by decide +kernel)
theorem fx_n2 : Cond.methodLinkNest "TriggerBase$Verifier" 81 yn_B_isBelow "TriggerBase" ∈ lw_tbl := List.mem_of_getElem? (i := 295) (by decide +kernel)
theorem fx_n3 : Cond.methodLinkNest "TriggerBase$Triggers" 21 yn_B_isBelow "TriggerBase" ∈ lw_tbl := List.mem_of_getElem? (i := 354) (by decide +kernel)
theorem fx_n4 : Cond.methodLinkNest "TriggerBase$Tables" 24 yn_B_isBelow "TriggerBase" ∈ lw_tbl := List.mem_of_getElem? (i := 429) (by decide +kernel)
theorem fx_n5 : Cond.methodLinkNest "TriggerBase$Frame" 53 yn_B_isBelow "TriggerBase" ∈ lw_tbl := List.mem_of_getElem? (i := 483) (by decide +kernel)
theorem fx_m0 : Cond.methodLinkNest "TriggerBase$Machine" 11 ⟨"TriggerBase$Library", "<init>", "()V"⟩ "TriggerBase" ∈ lw_tbl := List.mem_of_getElem? (i := 67) (by decide +kernel)
theorem fx_m1 : Cond.methodLinkNest "TriggerBase$Machine" 20 ⟨"TriggerBase$Tables", "<init>", "()V"⟩ "TriggerBase" ∈ lw_tbl := List.mem_of_getElem? (i := 106) (by decide +kernel)
theorem fx_m2 : Cond.methodLinkNest "TriggerBase$Machine" 55 ⟨"TriggerBase$Frame", "<init>", "()V"⟩ "TriggerBase" ∈ lw_tbl := List.mem_of_getElem? (i := 139) (by decide +kernel)
theorem fx_m3 : Cond.methodLinkNest "TriggerBase$Library" 20 ⟨"TriggerBase$Verifier", "<init>", "()V"⟩ "TriggerBase" ∈ lw_tbl := List.mem_of_getElem? (i := 73) (by decide +kernel)
theorem fx_over : Cond.arrayOver (.object "TriggerBase$Frame") ∈ lw_tbl := List.mem_of_getElem? (i := 137) (by decide +kernel)
theorem fx_ai : Cond.arrayClass .int ∈ lw_tbl := List.mem_of_getElem? (i := 84) (by decide +kernel)
theorem fx_az : Cond.arrayClass .boolean ∈ lw_tbl := List.mem_of_getElem? (i := 85) (by decide +kernel)
theorem inst_ok : (clA.all fun r => decide (Cond.instantiable r.1 r.2.2 ∈ lw_tbl)) = true := by decide +kernel
section ST
variable {args : Array Value} {s : State}
theorem kOf (hts : ∀ w ∈ lw_tbl, w.before args s = true) : ∃ (D : va_G) (cA : Nat → ClassId), va_K D clA (mTys cA) s := by
  have ht : ∀ w ∈ mTb, w.before args s = true := fun w h => hts w (mTb_lw h)
  have h0 : ∀ i : Nat, ∃ x : ClassId × (Nat → Nat), ∀ q : vw_C, clA[i]? = some q → u_Kn s q.1 q.2.1 q.2.2 x.1 x.2 := by
    intro i
    cases hc : clA[i]? with
    | none => exact ⟨(0, fun _ => 0), fun q h => by cases h⟩
    | some q =>
      have hi := List.all_eq_true.mp inst_ok q (List.mem_of_getElem? hc)
      rw [decide_eq_true_eq] at hi
      obtain ⟨cC, iS, h⟩ := u_known (ws := mTb) ht (uw_in hc) (hts _ hi)
      exact ⟨(cC, iS), fun q' h' => by cases h'; exact h⟩
  obtain ⟨f, hf⟩ := Classical.axiomOfChoice h0
  obtain ⟨cI, kI, compI, i1, i2, i3⟩ := Cond.arrayClass_spec (hts _ fx_ai)
  obtain ⟨cZ, kZ, compZ, z1, z2, z3⟩ := Cond.arrayClass_spec (hts _ fx_az)
  obtain ⟨compF, cF, kF, f1, f2, f3, f4, f5⟩ := Cond.arrayOver_spec (hts _ fx_over)
  refine ⟨(fun i => (f i).1, fun i => (f i).2), fun k => if k = 0 then cI else if k = 1 then cZ else cF, fun i q hq => hf i q hq, fun k q hq => ?_⟩
  match k, hq with
  | 0, hq => cases hq; exact ⟨fun n z => ⟨fun k h => (by cases h), kI, i2, compI, i3⟩, i1⟩
  | 1, hq => cases hq; exact ⟨fun n z => ⟨fun k h => (by cases h), kZ, z2, compZ, z3⟩, z1⟩
  | 2, hq => cases hq; exact ⟨fun n z => ⟨fun k h => (by cases h), kF, f3, compF, f4⟩, kF, compF, f3, f4, f1, f5⟩
  | k + 3, hq => cases hq
theorem nestOf (hts : ∀ w ∈ lw_tbl, w.before args s = true) : iNest s := by
  refine ⟨fun i hi => ?_, va_AO.of (hts _ fx_over)⟩
  rcases (show i = 0 ∨ i = 1 ∨ i = 2 ∨ i = 3 by omega) with rfl | rfl | rfl | rfl
  · exact va_Nw.of rfl (hts _ fx_m0)
  · exact va_Nw.of rfl (hts _ fx_m1)
  · exact va_Nw.of rfl (hts _ fx_m2)
  · exact va_Nw.of rfl (hts _ fx_m3)
theorem eqRR {t u : Term} {a b : Nat} (ht : t.eval args s none [] s = some (.ref a)) (hu : u.eval args s none [] s = some (.ref b)) (hab : a ≠ b) : (Cond.not (.eq t u)).before args s = true := by
  simp [Cond.before, Cond.holds, Cond.value, ht, hu, hab]
theorem eqTo {t u : Term} {a : Nat} (h : (Cond.eq t u).before args s = true) (hu : u.eval args s none [] s = some (.ref a)) : t.eval args s none [] s = some (.ref a) := by
  cases hv : t.eval args s none [] s with
  | none => simp [Cond.before, Cond.holds, Cond.value, hv] at h
  | some v =>
    cases v with
    | ref x =>
      simp [Cond.before, Cond.holds, Cond.value, hv, hu] at h
      rw [h]
    | _ => simp [Cond.before, Cond.holds, Cond.value, hv, hu] at h
theorem ordD : ∀ i, i < 28 → ∀ j, j < 28 → (efC.getD 0 ("", "", "", [])).2.2.2.getD i 0 = (efC.getD 0 ("", "", "", [])).2.2.2.getD j 0 → i = j := by decide +kernel
theorem stOf {A : Nat → Prop} (hgv : (Jvm.Cond.and given_1 narrow_1).before args s = true) (hts : ∀ w ∈ lw_tbl, w.before args s = true) (hA : ∀ a : Nat, a < s.heap.size → ¬ A a) : ∃ (en : Nat → Nat) (t1 t2 : Nat), ∀ ad : Nat → Nat → Nat, ad 100 = en → ad 101 0 = t1 → ad 102 0 = t2 → StC ad A s := by
  have hs : ∀ {w : Cond} {i : Nat}, fl[i]? = some w → w.before args s = true := fun h => flat_of_before _ hgv _ (List.mem_of_getElem? h)
  have hex : ∀ i, i < enC.length → (Cond.exactly (.static "TriggerBase$Instruction" (enC.getD i "") "LTriggerBase$Instruction;") "TriggerBase$Instruction").before args s = true := fun i hi => hs (fx_ex i hi)
  have hff : ∀ k, k < 6 → ∀ i, i < 28 → (Cond.eq (.field (.static "TriggerBase$Instruction" (enC.getD i "") "LTriggerBase$Instruction;") (efC.getD k ("", "", "", [])).1 (efC.getD k ("", "", "", [])).2.1 (efC.getD k ("", "", "", [])).2.2.1) (.int ((efC.getD k ("", "", "", [])).2.2.2.getD i 0))).before args s = true := fun k hk i hi => hs (fx_f k hk i hi)
  have hf : ∀ q ∈ efC, ∀ i, i < enC.length → (Cond.eq (.field (.static "TriggerBase$Instruction" (enC.getD i "") "LTriggerBase$Instruction;") q.1 q.2.1 q.2.2.1) (.int (q.2.2.2.getD i 0))).before args s = true := by
    intro q hq i hi
    obtain ⟨k, hk⟩ := List.getElem?_of_mem hq
    have hk6 : k < 6 := (List.getElem?_eq_some_iff.mp hk).1
    have e : efC.getD k ("", "", "", []) = q := by rw [List.getD_eq_getElem?_getD, hk]; rfl
    have := hff k hk6 i hi
    rw [e] at this
    exact this
  have hev : ∀ i, i < 28 → ∃ a : Nat, (Term.static "TriggerBase$Instruction" (enC.getD i "") "LTriggerBase$Instruction;").eval args s none [] s = some (.ref a) := fun i hi => by
    obtain ⟨a, c, cell, k, q1, -⟩ := Cond.exactly_spec (hex i hi)
    exact ⟨a, q1⟩
  have hd : ∀ i j, i < enC.length → j < enC.length → i ≠ j → (Cond.not (.eq (.static "TriggerBase$Instruction" (enC.getD i "") "LTriggerBase$Instruction;") (.static "TriggerBase$Instruction" (enC.getD j "") "LTriggerBase$Instruction;"))).before args s = true ∨ (Cond.not (.eq (.static "TriggerBase$Instruction" (enC.getD j "") "LTriggerBase$Instruction;") (.static "TriggerBase$Instruction" (enC.getD i "") "LTriggerBase$Instruction;"))).before args s = true := by
    intro i j hi hj hij
    obtain ⟨a, ha⟩ := hev i hi
    obtain ⟨b, hb⟩ := hev j hj
    have hab : a ≠ b := by
      rintro rfl
      have h1 := va_eqt (hff 0 (by decide) i hi)
      have h2 := va_eqt (hff 0 (by decide) j hj)
      rw [va_fe ha] at h1
      rw [va_fe hb, h1] at h2
      exact hij (ordD i hi j hj (Value.int.inj (Option.some.inj h2)))
    exact Or.inl (eqRR ha hb hab)
  obtain ⟨en, hen, hst⟩ := va_Enof2 (A := A) (E := "TriggerBase$Instruction") (d := "LTriggerBase$Instruction;") (nm := enC) (F := efC) (fun i hi => hts _ (List.mem_of_getElem? (fx_ls i hi))) (hts _ fx_in) hex hf hd hA
  have hel : ∀ j : Nat, j < 28 → (Term.elem (.static "TriggerBase$Instruction" "ALL" "[LTriggerBase$Instruction;") (.int (Int32.ofNat j))).eval args s none [] s = some (.ref (en j)) := by
    intro j hj
    exact eqTo (hs (fx_al j hj)) (hst j hj)
  obtain ⟨t1, ht1, hT1⟩ := va_Tof (f := fun j => .ref (en j)) (A := A) (by decide) (hs fx_aA) (va_eqt (hs fx_lA)) hel hA
  obtain ⟨t2, ht2, hT2⟩ := va_Tof (f := fun j => .int (smC.getD j 0)) (A := A) (by decide) (hs fx_aS) (va_eqt (hs fx_lS)) (fun j hj => va_eqt (hs (fx_sm j hj))) hA
  refine ⟨en, t1, t2, fun ad e1 e2 e3 => ?_⟩
  have z1 := va_Zof (hts _ (List.mem_of_getElem? fx_lsA)) (hts _ fx_in) ht1 hA
  have z2 := va_Zof (hts _ (List.mem_of_getElem? fx_lsS)) (hts _ fx_in1) ht2 hA
  unfold StC
  rw [e1, e2, e3]
  refine ⟨hen, ⟨z1, hT1⟩, ⟨z2, hT2⟩, fun q hq => ?_⟩
  unfold nestC at hq
  simp only [List.mem_cons, List.not_mem_nil, or_false] at hq
  rcases hq with rfl | rfl | rfl | rfl | rfl | rfl
  · exact va_Nw.of rfl (hts _ fx_n0)
  · exact va_Nw.of rfl (hts _ fx_n1)
  · exact va_Nw.of rfl (hts _ fx_n2)
  · exact va_Nw.of rfl (hts _ fx_n3)
  · exact va_Nw.of rfl (hts _ fx_n4)
  · exact va_Nw.of rfl (hts _ fx_n5)
end ST
