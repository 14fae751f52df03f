/-! making: arrays of known kinds, what a constructor starts from -/
theorem va_RA.fc {U : State} {cI : ClassId} {ty : FieldType} (h : va_RA U cI ty) : U.vm.findClass ("[" ++ ty.toString) = some cI := by
  cases ty with
  | object C => obtain ⟨_, _, _, _, _, h⟩ := h; exact h
  | _ => exact h
theorem va_K.same {D : va_G} {cl : List vw_C} {tys : List (ClassId × FieldType)} {s : State} {c1 cI : ClassId} {ty : FieldType} {t0 : Nat} (h1 : va_K D cl (tys ++ [(c1, ty)]) s) (ht : tys[t0]? = some (cI, ty)) : c1 = cI := by
  have a := (h1.2 tys.length (c1, ty) (by rw [List.getElem?_append_right (Nat.le_refl _), Nat.sub_self]; rfl)).2.fc
  have b := (h1.2 t0 (cI, ty) (by rw [List.getElem?_append_left (List.getElem?_eq_some_iff.mp ht).1]; exact ht)).2.fc
  exact Option.some.inj (a.symm.trans b)
section NW
variable {p : Program} {l : Launch} {e : Env} {R : Room} {s : State} {m : MethodId} {args : Array Value} {below : List Frame} {meth : Method} {c : Code} {H : Heap} {locs : List Loc} {cells slots : Nat} {Q : State → Prop}
variable {cc : ByteArray} {pc : Nat} {ls : Array Slot} {rest : List Value} {D : va_G} {cl : List vw_C} {A : Nat → Prop} {a : Nat} {tys : List (ClassId × FieldType)} {ws : va_W} {H0 : Heap}
theorem nwA (hexec : p.tables.exec = Jvm.exec) (hb : c.code = cc) {atype : ArrayType} (harr : (Cond.arrayClass (newarray.typeOf atype)).before args s = true) {ty : FieldType} (hty : newarray.typeOf atype = ty) (hK : va_K D cl tys s) (hP : va_P D cl ws H) (hD : va_D A ws) (hS : va_S A H0 H locs) (hA : ∀ q, H0.size ≤ q → A q)
    {n : Int32} {N' t0 : Nat} {cI : ClassId} (ht : tys[t0]? = some (cI, ty)) (ha : ∀ cA : ClassId, vp_cell cA (N', .inl (fun _ => 0)) = arrV cA N' (fun _ => defaultValue ty)) (hn : ¬ n < 0) (hN : n.toNatClampNeg = N') (hbytes : N' * componentBytes ty ≤ 536870912) (hcells : cells + 1 ≤ R.cells) (hslots : slots + N' ≤ R.slots) (hdg : decode cc pc = .ok (.newarray atype, 2))
    (kk : ∀ (q : Nat) (H1 : Heap), va_P D cl (ws ++ [(q, .inl (cI, N', .inl (fun _ => 0)))]) H1 → va_D A (ws ++ [(q, .inl (cI, N', .inl (fun _ => 0)))]) → va_S A H0 H1 locs →
      W p l e R s m args below meth c H1 locs (cells + 1) (slots + N') Q (F0 m (pc + 2) ls (.ref q :: rest))) : W p l e R s m args below meth c H locs cells slots Q (F0 m pc ls (.int n :: rest)) := by
  refine va_newa hexec hb harr hty hK hP hD hS hA ha hn hN hbytes hcells hslots hdg (fun q c1 H1 hK1 hP1 hD1 hS1 => ?_)
  have e9 := hK1.same ht
  subst e9
  exact kk q H1 hP1 hD1 hS1
theorem nwQ (hexec : p.tables.exec = Jvm.exec) (hb : c.code = cc) {own C : String} {index : Nat} (hown : s.vm.findClass own = some m.cls) (hclink : (Cond.classLink own index C).before args s = true) (hover : va_AO C s) (hK : va_K D cl tys s) (hP : va_P D cl ws H) (hD : va_D A ws) (hS : va_S A H0 H locs) (hA : ∀ q, H0.size ≤ q → A q)
    {n : Int32} {N' t0 : Nat} {cI : ClassId} (ht : tys[t0]? = some (cI, .object C)) (hn : ¬ n < 0) (hN : n.toNatClampNeg = N') (hbytes : N' * 4 ≤ 536870912) (hcells : cells + 1 ≤ R.cells) (hslots : slots + N' ≤ R.slots) (hdg : decode cc pc = .ok (.anewarray index, 3))
    (kk : ∀ (q : Nat) (H1 : Heap), va_P D cl (ws ++ [(q, .inl (cI, N', .inr (.inr (.inr (.inr (fun _ => none))))))]) H1 → va_D A (ws ++ [(q, .inl (cI, N', .inr (.inr (.inr (.inr (fun _ => none))))))]) → va_S A H0 H1 locs →
      W p l e R s m args below meth c H1 locs (cells + 1) (slots + N') Q (F0 m (pc + 3) ls (.ref q :: rest))) : W p l e R s m args below meth c H locs cells slots Q (F0 m pc ls (.int n :: rest)) := by
  refine va_newq hexec hb hown hclink hover hK hP hD hS hA hn hN hbytes hcells hslots hdg (fun q c1 H1 hK1 hP1 hD1 hS1 => ?_)
  have e9 := hK1.same ht
  subst e9
  exact kk q H1 hP1 hD1 hS1
end NW
theorem uw_in {ci : Nat} {r : vw_C} (hc : clA[ci]? = some r) : ∀ w ∈ u_ws r.1 r.2.1 r.2.2, w ∈ mTb := by
  intro w hw
  have h := List.all_eq_true.mp (List.all_eq_true.mp uw_ok r (List.mem_of_getElem? hc)) w hw
  rw [Bool.and_eq_true, decide_eq_true_eq] at h
  exact mTb_in h.1 h.2
theorem uwi {ci : Nat} {C : String} {Tt : u_T} {N : Nat} {c0 : Cond} (hc : clA[ci]? = some (C, Tt, N)) : ∀ w ∈ u_ws C Tt N, w ∈ c0 :: mTb := fun w hw => List.mem_cons_of_mem _ (uw_in hc w hw)
theorem ty_F : ∀ k, k < 9 → parseFieldDescriptor (uT_F k).2.2.1 = some (uY_F k) := by decide +kernel
theorem nm_F : ∀ a, a < 9 → ∀ b, b < 9 → a ≠ b → (uT_F a).2.1 ≠ (uT_F b).2.1 := by decide +kernel
theorem df_F : ∀ j, j < 9 → defaultValue (uY_F j) = vp_V [.null, .int 0, .null, .null, .null, .int 0, .int 0, .int 0, .int 0] j := by
  intro j hj
  rcases (show j = 0 ∨ j = 1 ∨ j = 2 ∨ j = 3 ∨ j = 4 ∨ j = 5 ∨ j = 6 ∨ j = 7 ∨ j = 8 by omega) with rfl | rfl | rfl | rfl | rfl | rfl | rfl | rfl | rfl <;> rfl
theorem ty_L : ∀ k, k < 5 → parseFieldDescriptor (uT_L k).2.2.1 = some (uY_L k) := by decide +kernel
theorem nm_L : ∀ a, a < 5 → ∀ b, b < 5 → a ≠ b → (uT_L a).2.1 ≠ (uT_L b).2.1 := by decide +kernel
theorem df_L : ∀ j, j < 5 → defaultValue (uY_L j) = vp_V [.null, .null, .null, .int 0, .int 0] j := by
  intro j hj
  rcases (show j = 0 ∨ j = 1 ∨ j = 2 ∨ j = 3 ∨ j = 4 by omega) with rfl | rfl | rfl | rfl | rfl <;> rfl
theorem ty_M : ∀ k, k < 10 → parseFieldDescriptor (uT_M k).2.2.1 = some (uY_M k) := by decide +kernel
theorem nm_M : ∀ a, a < 10 → ∀ b, b < 10 → a ≠ b → (uT_M a).2.1 ≠ (uT_M b).2.1 := by decide +kernel
theorem df_M : ∀ j, j < 10 → defaultValue (uY_M j) = vp_V [.null, .null, .null, .null, .int 0, .null, .null, .null, .int 0, .null] j := by
  intro j hj
  rcases (show j = 0 ∨ j = 1 ∨ j = 2 ∨ j = 3 ∨ j = 4 ∨ j = 5 ∨ j = 6 ∨ j = 7 ∨ j = 8 ∨ j = 9 by omega) with rfl | rfl | rfl | rfl | rfl | rfl | rfl | rfl | rfl | rfl <;> rfl
theorem ty_T : ∀ k, k < 4 → parseFieldDescriptor (uT_T k).2.2.1 = some (uY_T k) := by decide +kernel
theorem nm_T : ∀ a, a < 4 → ∀ b, b < 4 → a ≠ b → (uT_T a).2.1 ≠ (uT_T b).2.1 := by decide +kernel
theorem df_T : ∀ j, j < 4 → defaultValue (uY_T j) = vp_V [.null, .null, .null, .null] j := by
  intro j hj
  rcases (show j = 0 ∨ j = 1 ∨ j = 2 ∨ j = 3 by omega) with rfl | rfl | rfl | rfl <;> rfl
theorem ty_G : ∀ k, k < 1 → parseFieldDescriptor (uT_G k).2.2.1 = some (uY_G k) := by decide +kernel
theorem nm_G : ∀ a, a < 1 → ∀ b, b < 1 → a ≠ b → (uT_G a).2.1 ≠ (uT_G b).2.1 := by decide +kernel
theorem df_G : ∀ j, j < 1 → defaultValue (uY_G j) = vp_V [.null] j := by
  intro j hj
  rcases (show j = 0 by omega) with rfl <;> rfl
theorem ty_V : ∀ k, k < 2 → parseFieldDescriptor (uT_V k).2.2.1 = some (uY_V k) := by decide +kernel
theorem nm_V : ∀ a, a < 2 → ∀ b, b < 2 → a ≠ b → (uT_V a).2.1 ≠ (uT_V b).2.1 := by decide +kernel
theorem df_V : ∀ j, j < 2 → defaultValue (uY_V j) = vp_V [.null, .null] j := by
  intro j hj
  rcases (show j = 0 ∨ j = 1 by omega) with rfl | rfl <;> rfl
theorem ty_B : ∀ k, k < 4 → parseFieldDescriptor (uT_B k).2.2.1 = some (uY_B k) := by decide +kernel
theorem nm_B : ∀ a, a < 4 → ∀ b, b < 4 → a ≠ b → (uT_B a).2.1 ≠ (uT_B b).2.1 := by decide +kernel
theorem df_B : ∀ j, j < 4 → defaultValue (uY_B j) = vp_V [.null, .null, .null, .null] j := by
  intro j hj
  rcases (show j = 0 ∨ j = 1 ∨ j = 2 ∨ j = 3 by omega) with rfl | rfl | rfl | rfl <;> rfl
theorem ty_R : ∀ k, k < 28 → parseFieldDescriptor (uT_R k).2.2.1 = some (uY_R k) := by decide +kernel
theorem nm_R : ∀ a, a < 28 → ∀ b, b < 28 → a ≠ b → (uT_R a).2.1 ≠ (uT_R b).2.1 := by decide +kernel
theorem df_R : ∀ j, j < 28 → defaultValue (uY_R j) = vp_V [.null, .null, .null, .null, .null, .null, .null, .int 0, .int 0, .null, .null, .null, .int 0, .null, .null, .null, .null, .null, .null, .null, .null, .int 0, .int 0, .int 0, .int 0, .int 0, .int 0, .int 0] j := by
  intro j hj
  rcases (show j = 0 ∨ j = 1 ∨ j = 2 ∨ j = 3 ∨ j = 4 ∨ j = 5 ∨ j = 6 ∨ j = 7 ∨ j = 8 ∨ j = 9 ∨ j = 10 ∨ j = 11 ∨ j = 12 ∨ j = 13 ∨ j = 14 ∨ j = 15 ∨ j = 16 ∨ j = 17 ∨ j = 18 ∨ j = 19 ∨ j = 20 ∨ j = 21 ∨ j = 22 ∨ j = 23 ∨ j = 24 ∨ j = 25 ∨ j = 26 ∨ j = 27 by omega) with rfl | rfl | rfl | rfl | rfl | rfl | rfl | rfl | rfl | rfl | rfl | rfl | rfl | rfl | rfl | rfl | rfl | rfl | rfl | rfl | rfl | rfl | rfl | rfl | rfl | rfl | rfl | rfl <;> rfl
def nestI : List (String × Nat × MethodName) := [("TriggerBase$Machine", 11, ⟨"TriggerBase$Library", "<init>", "()V"⟩), ("TriggerBase$Machine", 20, ⟨"TriggerBase$Tables", "<init>", "()V"⟩), ("TriggerBase$Machine", 55, ⟨"TriggerBase$Frame", "<init>", "()V"⟩), ("TriggerBase$Library", 20, ⟨"TriggerBase$Verifier", "<init>", "()V"⟩)]
def iNest (U : State) : Prop := (∀ i, i < 4 → va_Nw (.methodLinkNest (nestI.getD i ("", 0, ⟨"", "", ""⟩)).1 (nestI.getD i ("", 0, ⟨"", "", ""⟩)).2.1 (nestI.getD i ("", 0, ⟨"", "", ""⟩)).2.2 "TriggerBase") U) ∧ va_AO "TriggerBase$Frame" U
theorem iNest.same {u U : State} (h : u.vm = U.vm) (hN : iNest u) : iNest U := ⟨fun i hi => va_Nw.same rfl h (hN.1 i hi), hN.2.moved (by rw [h]; exact Vm.Alike.refl _)⟩
theorem iNest.warm {u U : State} (h : u.WarmedH U.vm) (hN : iNest u) : iNest U := ⟨fun i hi => va_Nw.warmM h (hN.1 i hi), hN.2.moved h.alike⟩
def iPre (D : va_G) (cA : Nat → ClassId) (h0 sz ci : Nat) (fs : List Value) (U : State) : Prop := U.heap.size = sz ∧ va_P D clA [(h0, .inr (ci, fs))] U.heap ∧ va_K D clA (mTys cA) U ∧ va_D (fun _ => True) [(h0, .inr (ci, fs))] ∧ iNest U
theorem iPre.blind {D : va_G} {cA : Nat → ClassId} {h0 sz ci : Nat} {fs : List Value} {av : List Value} : FrameBlind (va_Pc av (iPre D cA h0 sz ci fs)) := by
  rintro a U gf mk ⟨h1, h2, h3, h4, h5, h6⟩
  exact ⟨h1, h2, h3, va_K.moved (u := U) (U := U.calling gf mk a) (Vm.Alike.refl U.vm) h4, h5, iNest.same rfl h6⟩
theorem iPre.pre {D : va_G} {cA : Nat → ClassId} {h0 ci : Nat} {fs : List Value} {H : Heap} {A : Nat → Prop} {s : State} (hP : va_P D clA [(h0, .inr (ci, fs))] H) (hK : va_K D clA (mTys cA) s) (hD : va_D A [(h0, .inr (ci, fs))]) (hN : iNest s) : ∀ U : State, U.heap = H → s.WarmedH U.vm → va_Pc [.ref h0] (iPre D cA h0 H.size ci fs) [Value.ref h0].toArray U := by
  intro U hU hW
  exact ⟨rfl, by rw [hU], by rw [hU]; exact hP, va_K.moved hW.alike hK, hD.weaken (fun _ _ _ _ => trivial), hN.warm hW⟩
