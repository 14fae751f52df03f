/-! constructors: Frame, Verifier, Tables, Library -/
abbrev ki_F : ByteArray := prog_3_method_1_code
abbrev yi_F : MethodName := ⟨"TriggerBase$Frame", "<init>", "()V"⟩
theorem di_F_0 : decode ki_F 0 = .ok (.aload_n 0, 1) := by decide +kernel
theorem di_F_1 : decode ki_F 1 = .ok (.invokespecial 3, 3) := by decide +kernel
theorem di_F_4 : decode ki_F 4 = .ok (.aload_n 0, 1) := by decide +kernel
theorem di_F_5 : decode ki_F 5 = .ok (.bipush 12, 2) := by decide +kernel
theorem di_F_7 : decode ki_F 7 = .ok (.newarray .int, 2) := by decide +kernel
theorem di_F_9 : decode ki_F 9 = .ok (.putfield 9, 3) := by decide +kernel
theorem di_F_12 : decode ki_F 12 = .ok (.aload_n 0, 1) := by decide +kernel
theorem di_F_13 : decode ki_F 13 = .ok (.iconst 0, 1) := by decide +kernel
theorem di_F_14 : decode ki_F 14 = .ok (.putfield 15, 3) := by decide +kernel
theorem di_F_17 : decode ki_F 17 = .ok (.aload_n 0, 1) := by decide +kernel
theorem di_F_18 : decode ki_F 18 = .ok (.bipush 8, 2) := by decide +kernel
theorem di_F_20 : decode ki_F 20 = .ok (.newarray .int, 2) := by decide +kernel
theorem di_F_22 : decode ki_F 22 = .ok (.putfield 19, 3) := by decide +kernel
theorem di_F_25 : decode ki_F 25 = .ok (.aload_n 0, 1) := by decide +kernel
theorem di_F_26 : decode ki_F 26 = .ok (.iconst 3, 1) := by decide +kernel
theorem di_F_27 : decode ki_F 27 = .ok (.newarray .int, 2) := by decide +kernel
theorem di_F_29 : decode ki_F 29 = .ok (.putfield 22, 3) := by decide +kernel
theorem di_F_32 : decode ki_F 32 = .ok (.aload_n 0, 1) := by decide +kernel
theorem di_F_33 : decode ki_F 33 = .ok (.iconst 3, 1) := by decide +kernel
theorem di_F_34 : decode ki_F 34 = .ok (.newarray .int, 2) := by decide +kernel
theorem di_F_36 : decode ki_F 36 = .ok (.putfield 25, 3) := by decide +kernel
theorem di_F_39 : decode ki_F 39 = .ok (.aload_n 0, 1) := by decide +kernel
theorem di_F_40 : decode ki_F 40 = .ok (.iconst (-1), 1) := by decide +kernel
theorem di_F_41 : decode ki_F 41 = .ok (.putfield 28, 3) := by decide +kernel
theorem di_F_44 : decode ki_F 44 = .ok (.aload_n 0, 1) := by decide +kernel
theorem di_F_45 : decode ki_F 45 = .ok (.iconst 0, 1) := by decide +kernel
theorem di_F_46 : decode ki_F 46 = .ok (.putfield 31, 3) := by decide +kernel
theorem di_F_49 : decode ki_F 49 = .ok (.aload_n 0, 1) := by decide +kernel
theorem di_F_50 : decode ki_F 50 = .ok (.iconst 0, 1) := by decide +kernel
theorem di_F_51 : decode ki_F 51 = .ok (.putfield 34, 3) := by decide +kernel
theorem di_F_54 : decode ki_F 54 = .ok (.aload_n 0, 1) := by decide +kernel
theorem di_F_55 : decode ki_F 55 = .ok (.iconst 0, 1) := by decide +kernel
theorem di_F_56 : decode ki_F 56 = .ok (.putfield 38, 3) := by decide +kernel
theorem di_F_59 : decode ki_F 59 = .ok (.return_, 1) := by decide +kernel
abbrev wi_F (cA : Nat → ClassId) (h0 : Nat) (u : Nat × Nat × Nat × Nat) : va_W := [(h0, .inr (0, [.ref u.1, .int 0, .ref u.2.1, .ref u.2.2.1, .ref u.2.2.2, .int (-1), .int 0, .int 0, .int 0])), (u.1, .inl (cA 0, 12, .inl (fun _ => 0))), (u.2.1, .inl (cA 0, 8, .inl (fun _ => 0))), (u.2.2.1, .inl (cA 0, 3, .inl (fun _ => 0))), (u.2.2.2, .inl (cA 0, 3, .inl (fun _ => 0)))]
abbrev rmi_F : Room := { frames := 1, cells := 4, slots := 26, locals := 20 }
set_option maxRecDepth 100000 in
set_option maxHeartbeats 4000000 in
theorem ci_F (l : Launch) (D : va_G) (cA : Nat → ClassId) (h0 sz : Nat) : Met l yi_F (mWs yi_F ki_F 1 none) rmi_F (va_Pc [.ref h0] (iPre D cA h0 sz 0 [.null, .int 0, .null, .null, .null, .int 0, .int 0, .int 0, .int 0])) (va_Qv (fun _ : Nat × Nat × Nat × Nat => True) (fun u t => va_P D clA (wi_F cA h0 u) t.heap ∧ va_D (va_A [(h0, .inr (0, [.null, .int 0, .null, .null, .null, .int 0, .int 0, .int 0, .int 0]))] sz) (wi_F cA h0 u)) (va_A [(h0, .inr (0, [.null, .int 0, .null, .null, .null, .int 0, .int 0, .int 0, .int 0]))] sz)) 4 26 (va_A [(h0, .inr (0, [.null, .int 0, .null, .null, .null, .int 0, .int 0, .int 0, .int 0]))] sz) := by
  refine Met.ofW (cc := ki_F) (maxL := 1) (ret := none) (by decide) rfl ?_
  intro p e s m args below meth c s₁ B hml hv
  obtain ⟨rfl, hsz, hP, hK, hD0, hN⟩ := hv
  have hx := B.exec
  have hb := B.bytes
  have hr := B.returns
  have hts := atoms_spec (ws := mWs yi_F ki_F 1 none) B.pre
  have hw : ∀ {w : Cond}, w ∈ mTb → w.before _ s = true := fun h => hts _ (List.mem_cons_of_mem _ h)
  have hown : s.vm.findClass "TriggerBase$Frame" = some m.cls := findClass_of_methodNamed B.named
  have hin : meth.name = "<init>" := (name_of_methodNamed B.named B.method).1
  subst hsz
  have hD := hD0.self (sz := s.heap.size)
  generalize hAe : va_A [(h0, .inr (0, [.null, .int 0, .null, .null, .null, .int 0, .int 0, .int 0, .int 0]))] s.heap.size = A at hD ⊢
  have hA : ∀ q : Nat, s.heap.size ≤ q → A q := fun q h => by rw [← hAe]; exact Or.inr h
  have hS : va_S A s.heap s.heap [] := va_S.rf
  have hP : va_P D clA [(h0, .inr (0, [.null, .int 0, .null, .null, .null, .int 0, .int 0, .int 0, .int 0]))] s.heap := hP
  have hl := lv_entry ([.ref h0]) (n := 1) (Nat.le_of_ble_eq_true rfl)
  rw [lg_entry_eq]
  generalize (lg_sl ([.ref h0]) ++ List.replicate (1 - (lg_sl ([.ref h0])).length) Slot.unset).toArray = ls at hl ⊢
  have hl : lv_has ls 1 [(0, .ref h0)] := hl
  refine lv_aload_n hx hb di_F_0 rfl (lv_at hl 0 rfl) ?_
  refine W.objInit hx hb hown (hw (mTb_at 142 ⟨by decide +kernel, rfl⟩)) (hw (mTb_at 57 ⟨by decide +kernel, rfl⟩)) (hw (mTb_at 58 ⟨by decide +kernel, rfl⟩)) rfl (by rw [hml]; exact hl.1) rfl di_F_1 (Nat.le_of_ble_eq_true rfl) (Nat.le_of_ble_eq_true rfl) ?_
  refine W.eq (g2 := F0 m 4 ls []) rfl ?_
  refine lv_aload_n hx hb di_F_4 rfl (lv_at hl 0 rfl) ?_
  refine lv_bipush (v := 12) hx hb di_F_5 (by decide) ?_
  refine nwA (t0 := 0) (ty := .int) (N' := 12) hx hb (hw (mTb_at 84 ⟨by decide +kernel, rfl⟩)) rfl hK hP hD hS hA rfl (fun _ => rfl) (by decide) (by decide) (by decide) (Nat.le_of_ble_eq_true rfl) (Nat.le_of_ble_eq_true rfl) di_F_7 (fun q1 H hP hD hS => ?_)
  have hP : va_P D clA [(h0, .inr (0, [.null, .int 0, .null, .null, .null, .int 0, .int 0, .int 0, .int 0])), (q1, .inl (cA 0, 12, .inl (fun _ => 0)))] H := hP
  have hD : va_D A [(h0, .inr (0, [.null, .int 0, .null, .null, .null, .int 0, .int 0, .int 0, .int 0])), (q1, .inl (cA 0, 12, .inl (fun _ => 0)))] := hD
  refine va_putF (D := D) (ci := 0) (v := .ref q1) (ty := (.array .int)) (C := "TriggerBase$Frame") (T := uT_F) (N := 9) hx hb hts (uwi (ci := 0) rfl) uY_F ty_F nm_F hown hK hP hD hS 0 rfl rfl 0 (by decide) (hw (mTb_at 143 ⟨by decide +kernel, rfl⟩)) (fun _ h9 => h9) rfl hin rfl (by decide +kernel) rfl rfl (Nat.le_of_ble_eq_true rfl) di_F_9 (fun H locs hP hD hS => ?_)
  have hP : va_P D clA [(h0, .inr (0, [.ref q1, .int 0, .null, .null, .null, .int 0, .int 0, .int 0, .int 0])), (q1, .inl (cA 0, 12, .inl (fun _ => 0)))] H := hP
  have hD : va_D A [(h0, .inr (0, [.ref q1, .int 0, .null, .null, .null, .int 0, .int 0, .int 0, .int 0])), (q1, .inl (cA 0, 12, .inl (fun _ => 0)))] := hD
  refine lv_aload_n hx hb di_F_12 rfl (lv_at hl 0 rfl) ?_
  refine lv_iconst (v := 0) hx hb di_F_13 (by decide) ?_
  refine va_put (D := D) (ci := 0) (v := .int 0) (ty := .int) (C := "TriggerBase$Frame") (T := uT_F) (N := 9) hx hb hts (uwi (ci := 0) rfl) uY_F ty_F nm_F hown hK hP hD hS 0 rfl rfl 1 (by decide) (hw (mTb_at 144 ⟨by decide +kernel, rfl⟩)) (fun _ h9 => h9) rfl (by decide +kernel) rfl rfl (Nat.le_of_ble_eq_true rfl) di_F_14 (fun H locs hP hD hS => ?_)
  have hP : va_P D clA [(h0, .inr (0, [.ref q1, .int 0, .null, .null, .null, .int 0, .int 0, .int 0, .int 0])), (q1, .inl (cA 0, 12, .inl (fun _ => 0)))] H := hP
  have hD : va_D A [(h0, .inr (0, [.ref q1, .int 0, .null, .null, .null, .int 0, .int 0, .int 0, .int 0])), (q1, .inl (cA 0, 12, .inl (fun _ => 0)))] := hD
  refine lv_aload_n hx hb di_F_17 rfl (lv_at hl 0 rfl) ?_
  refine lv_bipush (v := 8) hx hb di_F_18 (by decide) ?_
  refine nwA (t0 := 0) (ty := .int) (N' := 8) hx hb (hw (mTb_at 84 ⟨by decide +kernel, rfl⟩)) rfl hK hP hD hS hA rfl (fun _ => rfl) (by decide) (by decide) (by decide) (Nat.le_of_ble_eq_true rfl) (Nat.le_of_ble_eq_true rfl) di_F_20 (fun q2 H hP hD hS => ?_)
  have hP : va_P D clA [(h0, .inr (0, [.ref q1, .int 0, .null, .null, .null, .int 0, .int 0, .int 0, .int 0])), (q1, .inl (cA 0, 12, .inl (fun _ => 0))), (q2, .inl (cA 0, 8, .inl (fun _ => 0)))] H := hP
  have hD : va_D A [(h0, .inr (0, [.ref q1, .int 0, .null, .null, .null, .int 0, .int 0, .int 0, .int 0])), (q1, .inl (cA 0, 12, .inl (fun _ => 0))), (q2, .inl (cA 0, 8, .inl (fun _ => 0)))] := hD
  refine va_putF (D := D) (ci := 0) (v := .ref q2) (ty := (.array .int)) (C := "TriggerBase$Frame") (T := uT_F) (N := 9) hx hb hts (uwi (ci := 0) rfl) uY_F ty_F nm_F hown hK hP hD hS 0 rfl rfl 2 (by decide) (hw (mTb_at 145 ⟨by decide +kernel, rfl⟩)) (fun _ h9 => h9) rfl hin rfl (by decide +kernel) rfl rfl (Nat.le_of_ble_eq_true rfl) di_F_22 (fun H locs hP hD hS => ?_)
  have hP : va_P D clA [(h0, .inr (0, [.ref q1, .int 0, .ref q2, .null, .null, .int 0, .int 0, .int 0, .int 0])), (q1, .inl (cA 0, 12, .inl (fun _ => 0))), (q2, .inl (cA 0, 8, .inl (fun _ => 0)))] H := hP
  have hD : va_D A [(h0, .inr (0, [.ref q1, .int 0, .ref q2, .null, .null, .int 0, .int 0, .int 0, .int 0])), (q1, .inl (cA 0, 12, .inl (fun _ => 0))), (q2, .inl (cA 0, 8, .inl (fun _ => 0)))] := hD
  refine lv_aload_n hx hb di_F_25 rfl (lv_at hl 0 rfl) ?_
  refine lv_iconst (v := 3) hx hb di_F_26 (by decide) ?_
  refine nwA (t0 := 0) (ty := .int) (N' := 3) hx hb (hw (mTb_at 84 ⟨by decide +kernel, rfl⟩)) rfl hK hP hD hS hA rfl (fun _ => rfl) (by decide) (by decide) (by decide) (Nat.le_of_ble_eq_true rfl) (Nat.le_of_ble_eq_true rfl) di_F_27 (fun q3 H hP hD hS => ?_)
  have hP : va_P D clA [(h0, .inr (0, [.ref q1, .int 0, .ref q2, .null, .null, .int 0, .int 0, .int 0, .int 0])), (q1, .inl (cA 0, 12, .inl (fun _ => 0))), (q2, .inl (cA 0, 8, .inl (fun _ => 0))), (q3, .inl (cA 0, 3, .inl (fun _ => 0)))] H := hP
  have hD : va_D A [(h0, .inr (0, [.ref q1, .int 0, .ref q2, .null, .null, .int 0, .int 0, .int 0, .int 0])), (q1, .inl (cA 0, 12, .inl (fun _ => 0))), (q2, .inl (cA 0, 8, .inl (fun _ => 0))), (q3, .inl (cA 0, 3, .inl (fun _ => 0)))] := hD
  refine va_putF (D := D) (ci := 0) (v := .ref q3) (ty := (.array .int)) (C := "TriggerBase$Frame") (T := uT_F) (N := 9) hx hb hts (uwi (ci := 0) rfl) uY_F ty_F nm_F hown hK hP hD hS 0 rfl rfl 3 (by decide) (hw (mTb_at 147 ⟨by decide +kernel, rfl⟩)) (fun _ h9 => h9) rfl hin rfl (by decide +kernel) rfl rfl (Nat.le_of_ble_eq_true rfl) di_F_29 (fun H locs hP hD hS => ?_)
  have hP : va_P D clA [(h0, .inr (0, [.ref q1, .int 0, .ref q2, .ref q3, .null, .int 0, .int 0, .int 0, .int 0])), (q1, .inl (cA 0, 12, .inl (fun _ => 0))), (q2, .inl (cA 0, 8, .inl (fun _ => 0))), (q3, .inl (cA 0, 3, .inl (fun _ => 0)))] H := hP
  have hD : va_D A [(h0, .inr (0, [.ref q1, .int 0, .ref q2, .ref q3, .null, .int 0, .int 0, .int 0, .int 0])), (q1, .inl (cA 0, 12, .inl (fun _ => 0))), (q2, .inl (cA 0, 8, .inl (fun _ => 0))), (q3, .inl (cA 0, 3, .inl (fun _ => 0)))] := hD
  refine lv_aload_n hx hb di_F_32 rfl (lv_at hl 0 rfl) ?_
  refine lv_iconst (v := 3) hx hb di_F_33 (by decide) ?_
  refine nwA (t0 := 0) (ty := .int) (N' := 3) hx hb (hw (mTb_at 84 ⟨by decide +kernel, rfl⟩)) rfl hK hP hD hS hA rfl (fun _ => rfl) (by decide) (by decide) (by decide) (Nat.le_of_ble_eq_true rfl) (Nat.le_of_ble_eq_true rfl) di_F_34 (fun q4 H hP hD hS => ?_)
  have hP : va_P D clA [(h0, .inr (0, [.ref q1, .int 0, .ref q2, .ref q3, .null, .int 0, .int 0, .int 0, .int 0])), (q1, .inl (cA 0, 12, .inl (fun _ => 0))), (q2, .inl (cA 0, 8, .inl (fun _ => 0))), (q3, .inl (cA 0, 3, .inl (fun _ => 0))), (q4, .inl (cA 0, 3, .inl (fun _ => 0)))] H := hP
  have hD : va_D A [(h0, .inr (0, [.ref q1, .int 0, .ref q2, .ref q3, .null, .int 0, .int 0, .int 0, .int 0])), (q1, .inl (cA 0, 12, .inl (fun _ => 0))), (q2, .inl (cA 0, 8, .inl (fun _ => 0))), (q3, .inl (cA 0, 3, .inl (fun _ => 0))), (q4, .inl (cA 0, 3, .inl (fun _ => 0)))] := hD
  refine va_putF (D := D) (ci := 0) (v := .ref q4) (ty := (.array .int)) (C := "TriggerBase$Frame") (T := uT_F) (N := 9) hx hb hts (uwi (ci := 0) rfl) uY_F ty_F nm_F hown hK hP hD hS 0 rfl rfl 4 (by decide) (hw (mTb_at 149 ⟨by decide +kernel, rfl⟩)) (fun _ h9 => h9) rfl hin rfl (by decide +kernel) rfl rfl (Nat.le_of_ble_eq_true rfl) di_F_36 (fun H locs hP hD hS => ?_)
  have hP : va_P D clA [(h0, .inr (0, [.ref q1, .int 0, .ref q2, .ref q3, .ref q4, .int 0, .int 0, .int 0, .int 0])), (q1, .inl (cA 0, 12, .inl (fun _ => 0))), (q2, .inl (cA 0, 8, .inl (fun _ => 0))), (q3, .inl (cA 0, 3, .inl (fun _ => 0))), (q4, .inl (cA 0, 3, .inl (fun _ => 0)))] H := hP
  have hD : va_D A [(h0, .inr (0, [.ref q1, .int 0, .ref q2, .ref q3, .ref q4, .int 0, .int 0, .int 0, .int 0])), (q1, .inl (cA 0, 12, .inl (fun _ => 0))), (q2, .inl (cA 0, 8, .inl (fun _ => 0))), (q3, .inl (cA 0, 3, .inl (fun _ => 0))), (q4, .inl (cA 0, 3, .inl (fun _ => 0)))] := hD
  refine lv_aload_n hx hb di_F_39 rfl (lv_at hl 0 rfl) ?_
  refine lv_iconst (v := -1) hx hb di_F_40 (by decide) ?_
  refine va_put (D := D) (ci := 0) (v := .int (-1)) (ty := .int) (C := "TriggerBase$Frame") (T := uT_F) (N := 9) hx hb hts (uwi (ci := 0) rfl) uY_F ty_F nm_F hown hK hP hD hS 0 rfl rfl 5 (by decide) (hw (mTb_at 151 ⟨by decide +kernel, rfl⟩)) (fun _ h9 => h9) rfl (by decide +kernel) rfl rfl (Nat.le_of_ble_eq_true rfl) di_F_41 (fun H locs hP hD hS => ?_)
  have hP : va_P D clA [(h0, .inr (0, [.ref q1, .int 0, .ref q2, .ref q3, .ref q4, .int (-1), .int 0, .int 0, .int 0])), (q1, .inl (cA 0, 12, .inl (fun _ => 0))), (q2, .inl (cA 0, 8, .inl (fun _ => 0))), (q3, .inl (cA 0, 3, .inl (fun _ => 0))), (q4, .inl (cA 0, 3, .inl (fun _ => 0)))] H := hP
  have hD : va_D A [(h0, .inr (0, [.ref q1, .int 0, .ref q2, .ref q3, .ref q4, .int (-1), .int 0, .int 0, .int 0])), (q1, .inl (cA 0, 12, .inl (fun _ => 0))), (q2, .inl (cA 0, 8, .inl (fun _ => 0))), (q3, .inl (cA 0, 3, .inl (fun _ => 0))), (q4, .inl (cA 0, 3, .inl (fun _ => 0)))] := hD
  refine lv_aload_n hx hb di_F_44 rfl (lv_at hl 0 rfl) ?_
  refine lv_iconst (v := 0) hx hb di_F_45 (by decide) ?_
  refine va_put (D := D) (ci := 0) (v := .int 0) (ty := .int) (C := "TriggerBase$Frame") (T := uT_F) (N := 9) hx hb hts (uwi (ci := 0) rfl) uY_F ty_F nm_F hown hK hP hD hS 0 rfl rfl 6 (by decide) (hw (mTb_at 153 ⟨by decide +kernel, rfl⟩)) (fun _ h9 => h9) rfl (by decide +kernel) rfl rfl (Nat.le_of_ble_eq_true rfl) di_F_46 (fun H locs hP hD hS => ?_)
  have hP : va_P D clA [(h0, .inr (0, [.ref q1, .int 0, .ref q2, .ref q3, .ref q4, .int (-1), .int 0, .int 0, .int 0])), (q1, .inl (cA 0, 12, .inl (fun _ => 0))), (q2, .inl (cA 0, 8, .inl (fun _ => 0))), (q3, .inl (cA 0, 3, .inl (fun _ => 0))), (q4, .inl (cA 0, 3, .inl (fun _ => 0)))] H := hP
  have hD : va_D A [(h0, .inr (0, [.ref q1, .int 0, .ref q2, .ref q3, .ref q4, .int (-1), .int 0, .int 0, .int 0])), (q1, .inl (cA 0, 12, .inl (fun _ => 0))), (q2, .inl (cA 0, 8, .inl (fun _ => 0))), (q3, .inl (cA 0, 3, .inl (fun _ => 0))), (q4, .inl (cA 0, 3, .inl (fun _ => 0)))] := hD
  refine lv_aload_n hx hb di_F_49 rfl (lv_at hl 0 rfl) ?_
  refine lv_iconst (v := 0) hx hb di_F_50 (by decide) ?_
  refine va_put (D := D) (ci := 0) (v := .int 0) (ty := .boolean) (C := "TriggerBase$Frame") (T := uT_F) (N := 9) hx hb hts (uwi (ci := 0) rfl) uY_F ty_F nm_F hown hK hP hD hS 0 rfl rfl 7 (by decide) (hw (mTb_at 155 ⟨by decide +kernel, rfl⟩)) (fun _ h9 => h9) rfl (by decide +kernel) rfl rfl (Nat.le_of_ble_eq_true rfl) di_F_51 (fun H locs hP hD hS => ?_)
  have hP : va_P D clA [(h0, .inr (0, [.ref q1, .int 0, .ref q2, .ref q3, .ref q4, .int (-1), .int 0, .int 0, .int 0])), (q1, .inl (cA 0, 12, .inl (fun _ => 0))), (q2, .inl (cA 0, 8, .inl (fun _ => 0))), (q3, .inl (cA 0, 3, .inl (fun _ => 0))), (q4, .inl (cA 0, 3, .inl (fun _ => 0)))] H := hP
  have hD : va_D A [(h0, .inr (0, [.ref q1, .int 0, .ref q2, .ref q3, .ref q4, .int (-1), .int 0, .int 0, .int 0])), (q1, .inl (cA 0, 12, .inl (fun _ => 0))), (q2, .inl (cA 0, 8, .inl (fun _ => 0))), (q3, .inl (cA 0, 3, .inl (fun _ => 0))), (q4, .inl (cA 0, 3, .inl (fun _ => 0)))] := hD
  refine lv_aload_n hx hb di_F_54 rfl (lv_at hl 0 rfl) ?_
  refine lv_iconst (v := 0) hx hb di_F_55 (by decide) ?_
  refine va_put (D := D) (ci := 0) (v := .int 0) (ty := .int) (C := "TriggerBase$Frame") (T := uT_F) (N := 9) hx hb hts (uwi (ci := 0) rfl) uY_F ty_F nm_F hown hK hP hD hS 0 rfl rfl 8 (by decide) (hw (mTb_at 157 ⟨by decide +kernel, rfl⟩)) (fun _ h9 => h9) rfl (by decide +kernel) rfl rfl (Nat.le_of_ble_eq_true rfl) di_F_56 (fun H locs hP hD hS => ?_)
  have hP : va_P D clA [(h0, .inr (0, [.ref q1, .int 0, .ref q2, .ref q3, .ref q4, .int (-1), .int 0, .int 0, .int 0])), (q1, .inl (cA 0, 12, .inl (fun _ => 0))), (q2, .inl (cA 0, 8, .inl (fun _ => 0))), (q3, .inl (cA 0, 3, .inl (fun _ => 0))), (q4, .inl (cA 0, 3, .inl (fun _ => 0)))] H := hP
  have hD : va_D A [(h0, .inr (0, [.ref q1, .int 0, .ref q2, .ref q3, .ref q4, .int (-1), .int 0, .int 0, .int 0])), (q1, .inl (cA 0, 12, .inl (fun _ => 0))), (q2, .inl (cA 0, 8, .inl (fun _ => 0))), (q3, .inl (cA 0, 3, .inl (fun _ => 0))), (q4, .inl (cA 0, 3, .inl (fun _ => 0)))] := hD
  refine W.widen (k := 4) (n := 26) (Nat.le_of_ble_eq_true rfl) (Nat.le_of_ble_eq_true rfl) ?_
  have hP9 := hP.sub (ws' := [(h0, .inr (0, [.ref q1, .int 0, .ref q2, .ref q3, .ref q4, .int (-1), .int 0, .int 0, .int 0])), (q1, .inl (cA 0, 12, .inl (fun _ => 0))), (q2, .inl (cA 0, 8, .inl (fun _ => 0))), (q3, .inl (cA 0, 3, .inl (fun _ => 0))), (q4, .inl (cA 0, 3, .inl (fun _ => 0)))]) [0, 1, 2, 3, 4] rfl
  have hD9 := hD.sub (ws' := [(h0, .inr (0, [.ref q1, .int 0, .ref q2, .ref q3, .ref q4, .int (-1), .int 0, .int 0, .int 0])), (q1, .inl (cA 0, 12, .inl (fun _ => 0))), (q2, .inl (cA 0, 8, .inl (fun _ => 0))), (q3, .inl (cA 0, 3, .inl (fun _ => 0))), (q4, .inl (cA 0, 3, .inl (fun _ => 0)))]) [0, 1, 2, 3, 4] (by decide) rfl
  exact W.vret hx hb hr (fun t ht hW => ⟨⟨(q1, q2, q3, q4), rfl, trivial, by rw [ht]; exact hP9, hD9⟩, hS.F ht⟩) hS.2.2 di_F_59
abbrev ki_V : ByteArray := prog_9_method_1_code
abbrev yi_V : MethodName := ⟨"TriggerBase$Verifier", "<init>", "()V"⟩
theorem di_V_0 : decode ki_V 0 = .ok (.aload_n 0, 1) := by decide +kernel
theorem di_V_1 : decode ki_V 1 = .ok (.invokespecial 3, 3) := by decide +kernel
theorem di_V_4 : decode ki_V 4 = .ok (.aload_n 0, 1) := by decide +kernel
theorem di_V_5 : decode ki_V 5 = .ok (.bipush 60, 2) := by decide +kernel
theorem di_V_7 : decode ki_V 7 = .ok (.newarray .int, 2) := by decide +kernel
theorem di_V_9 : decode ki_V 9 = .ok (.putfield 9, 3) := by decide +kernel
theorem di_V_12 : decode ki_V 12 = .ok (.aload_n 0, 1) := by decide +kernel
theorem di_V_13 : decode ki_V 13 = .ok (.bipush 60, 2) := by decide +kernel
theorem di_V_15 : decode ki_V 15 = .ok (.newarray .boolean, 2) := by decide +kernel
theorem di_V_17 : decode ki_V 17 = .ok (.putfield 15, 3) := by decide +kernel
theorem di_V_20 : decode ki_V 20 = .ok (.return_, 1) := by decide +kernel
abbrev wi_V (cA : Nat → ClassId) (h0 : Nat) (u : Nat × Nat) : va_W := [(h0, .inr (5, [.ref u.1, .ref u.2])), (u.1, .inl (cA 0, 60, .inl (fun _ => 0))), (u.2, .inl (cA 1, 60, .inl (fun _ => 0)))]
abbrev rmi_V : Room := { frames := 1, cells := 2, slots := 120, locals := 20 }
set_option maxRecDepth 100000 in
set_option maxHeartbeats 4000000 in
theorem ci_V (l : Launch) (D : va_G) (cA : Nat → ClassId) (h0 sz : Nat) : Met l yi_V (mWs yi_V ki_V 1 none) rmi_V (va_Pc [.ref h0] (iPre D cA h0 sz 5 [.null, .null])) (va_Qv (fun _ : Nat × Nat => True) (fun u t => va_P D clA (wi_V cA h0 u) t.heap ∧ va_D (va_A [(h0, .inr (5, [.null, .null]))] sz) (wi_V cA h0 u)) (va_A [(h0, .inr (5, [.null, .null]))] sz)) 2 120 (va_A [(h0, .inr (5, [.null, .null]))] sz) := by
  refine Met.ofW (cc := ki_V) (maxL := 1) (ret := none) (by decide) rfl ?_
  intro p e s m args below meth c s₁ B hml hv
  obtain ⟨rfl, hsz, hP, hK, hD0, hN⟩ := hv
  have hx := B.exec
  have hb := B.bytes
  have hr := B.returns
  have hts := atoms_spec (ws := mWs yi_V ki_V 1 none) B.pre
  have hw : ∀ {w : Cond}, w ∈ mTb → w.before _ s = true := fun h => hts _ (List.mem_cons_of_mem _ h)
  have hown : s.vm.findClass "TriggerBase$Verifier" = some m.cls := findClass_of_methodNamed B.named
  have hin : meth.name = "<init>" := (name_of_methodNamed B.named B.method).1
  subst hsz
  have hD := hD0.self (sz := s.heap.size)
  generalize hAe : va_A [(h0, .inr (5, [.null, .null]))] s.heap.size = A at hD ⊢
  have hA : ∀ q : Nat, s.heap.size ≤ q → A q := fun q h => by rw [← hAe]; exact Or.inr h
  have hS : va_S A s.heap s.heap [] := va_S.rf
  have hP : va_P D clA [(h0, .inr (5, [.null, .null]))] s.heap := hP
  have hl := lv_entry ([.ref h0]) (n := 1) (Nat.le_of_ble_eq_true rfl)
  rw [lg_entry_eq]
  generalize (lg_sl ([.ref h0]) ++ List.replicate (1 - (lg_sl ([.ref h0])).length) Slot.unset).toArray = ls at hl ⊢
  have hl : lv_has ls 1 [(0, .ref h0)] := hl
  refine lv_aload_n hx hb di_V_0 rfl (lv_at hl 0 rfl) ?_
  refine W.objInit hx hb hown (hw (mTb_at 76 ⟨by decide +kernel, rfl⟩)) (hw (mTb_at 57 ⟨by decide +kernel, rfl⟩)) (hw (mTb_at 58 ⟨by decide +kernel, rfl⟩)) rfl (by rw [hml]; exact hl.1) rfl di_V_1 (Nat.le_of_ble_eq_true rfl) (Nat.le_of_ble_eq_true rfl) ?_
  refine W.eq (g2 := F0 m 4 ls []) rfl ?_
  refine lv_aload_n hx hb di_V_4 rfl (lv_at hl 0 rfl) ?_
  refine lv_bipush (v := 60) hx hb di_V_5 (by decide) ?_
  refine nwA (t0 := 0) (ty := .int) (N' := 60) hx hb (hw (mTb_at 84 ⟨by decide +kernel, rfl⟩)) rfl hK hP hD hS hA rfl (fun _ => rfl) (by decide) (by decide) (by decide) (Nat.le_of_ble_eq_true rfl) (Nat.le_of_ble_eq_true rfl) di_V_7 (fun q1 H hP hD hS => ?_)
  have hP : va_P D clA [(h0, .inr (5, [.null, .null])), (q1, .inl (cA 0, 60, .inl (fun _ => 0)))] H := hP
  have hD : va_D A [(h0, .inr (5, [.null, .null])), (q1, .inl (cA 0, 60, .inl (fun _ => 0)))] := hD
  refine va_putF (D := D) (ci := 5) (v := .ref q1) (ty := (.array .int)) (C := "TriggerBase$Verifier") (T := uT_V) (N := 2) hx hb hts (uwi (ci := 5) rfl) uY_V ty_V nm_V hown hK hP hD hS 0 rfl rfl 0 (by decide) (hw (mTb_at 77 ⟨by decide +kernel, rfl⟩)) (fun _ h9 => h9) rfl hin rfl (by decide +kernel) rfl rfl (Nat.le_of_ble_eq_true rfl) di_V_9 (fun H locs hP hD hS => ?_)
  have hP : va_P D clA [(h0, .inr (5, [.ref q1, .null])), (q1, .inl (cA 0, 60, .inl (fun _ => 0)))] H := hP
  have hD : va_D A [(h0, .inr (5, [.ref q1, .null])), (q1, .inl (cA 0, 60, .inl (fun _ => 0)))] := hD
  refine lv_aload_n hx hb di_V_12 rfl (lv_at hl 0 rfl) ?_
  refine lv_bipush (v := 60) hx hb di_V_13 (by decide) ?_
  refine nwA (t0 := 1) (ty := .boolean) (N' := 60) hx hb (hw (mTb_at 85 ⟨by decide +kernel, rfl⟩)) rfl hK hP hD hS hA rfl (fun _ => rfl) (by decide) (by decide) (by decide) (Nat.le_of_ble_eq_true rfl) (Nat.le_of_ble_eq_true rfl) di_V_15 (fun q2 H hP hD hS => ?_)
  have hP : va_P D clA [(h0, .inr (5, [.ref q1, .null])), (q1, .inl (cA 0, 60, .inl (fun _ => 0))), (q2, .inl (cA 1, 60, .inl (fun _ => 0)))] H := hP
  have hD : va_D A [(h0, .inr (5, [.ref q1, .null])), (q1, .inl (cA 0, 60, .inl (fun _ => 0))), (q2, .inl (cA 1, 60, .inl (fun _ => 0)))] := hD
  refine va_putF (D := D) (ci := 5) (v := .ref q2) (ty := (.array .boolean)) (C := "TriggerBase$Verifier") (T := uT_V) (N := 2) hx hb hts (uwi (ci := 5) rfl) uY_V ty_V nm_V hown hK hP hD hS 0 rfl rfl 1 (by decide) (hw (mTb_at 78 ⟨by decide +kernel, rfl⟩)) (fun _ h9 => h9) rfl hin rfl (by decide +kernel) rfl rfl (Nat.le_of_ble_eq_true rfl) di_V_17 (fun H locs hP hD hS => ?_)
  have hP : va_P D clA [(h0, .inr (5, [.ref q1, .ref q2])), (q1, .inl (cA 0, 60, .inl (fun _ => 0))), (q2, .inl (cA 1, 60, .inl (fun _ => 0)))] H := hP
  have hD : va_D A [(h0, .inr (5, [.ref q1, .ref q2])), (q1, .inl (cA 0, 60, .inl (fun _ => 0))), (q2, .inl (cA 1, 60, .inl (fun _ => 0)))] := hD
  refine W.widen (k := 2) (n := 120) (Nat.le_of_ble_eq_true rfl) (Nat.le_of_ble_eq_true rfl) ?_
  have hP9 := hP.sub (ws' := [(h0, .inr (5, [.ref q1, .ref q2])), (q1, .inl (cA 0, 60, .inl (fun _ => 0))), (q2, .inl (cA 1, 60, .inl (fun _ => 0)))]) [0, 1, 2] rfl
  have hD9 := hD.sub (ws' := [(h0, .inr (5, [.ref q1, .ref q2])), (q1, .inl (cA 0, 60, .inl (fun _ => 0))), (q2, .inl (cA 1, 60, .inl (fun _ => 0)))]) [0, 1, 2] (by decide) rfl
  exact W.vret hx hb hr (fun t ht hW => ⟨⟨(q1, q2), rfl, trivial, by rw [ht]; exact hP9, hD9⟩, hS.F ht⟩) hS.2.2 di_V_20
abbrev ki_T : ByteArray := prog_7_method_1_code
abbrev yi_T : MethodName := ⟨"TriggerBase$Tables", "<init>", "()V"⟩
theorem di_T_0 : decode ki_T 0 = .ok (.aload_n 0, 1) := by decide +kernel
theorem di_T_1 : decode ki_T 1 = .ok (.invokespecial 3, 3) := by decide +kernel
theorem di_T_4 : decode ki_T 4 = .ok (.aload_n 0, 1) := by decide +kernel
theorem di_T_5 : decode ki_T 5 = .ok (.sipush 192, 3) := by decide +kernel
theorem di_T_8 : decode ki_T 8 = .ok (.newarray .int, 2) := by decide +kernel
theorem di_T_10 : decode ki_T 10 = .ok (.putfield 9, 3) := by decide +kernel
theorem di_T_13 : decode ki_T 13 = .ok (.aload_n 0, 1) := by decide +kernel
theorem di_T_14 : decode ki_T 14 = .ok (.iconst 4, 1) := by decide +kernel
theorem di_T_15 : decode ki_T 15 = .ok (.newarray .int, 2) := by decide +kernel
theorem di_T_17 : decode ki_T 17 = .ok (.putfield 15, 3) := by decide +kernel
theorem di_T_20 : decode ki_T 20 = .ok (.aload_n 0, 1) := by decide +kernel
theorem di_T_21 : decode ki_T 21 = .ok (.sipush 192, 3) := by decide +kernel
theorem di_T_24 : decode ki_T 24 = .ok (.newarray .int, 2) := by decide +kernel
theorem di_T_26 : decode ki_T 26 = .ok (.putfield 18, 3) := by decide +kernel
theorem di_T_29 : decode ki_T 29 = .ok (.aload_n 0, 1) := by decide +kernel
theorem di_T_30 : decode ki_T 30 = .ok (.iconst 4, 1) := by decide +kernel
theorem di_T_31 : decode ki_T 31 = .ok (.newarray .int, 2) := by decide +kernel
theorem di_T_33 : decode ki_T 33 = .ok (.putfield 21, 3) := by decide +kernel
theorem di_T_36 : decode ki_T 36 = .ok (.return_, 1) := by decide +kernel
abbrev wi_T (cA : Nat → ClassId) (h0 : Nat) (u : Nat × Nat × Nat × Nat) : va_W := [(h0, .inr (3, [.ref u.1, .ref u.2.1, .ref u.2.2.1, .ref u.2.2.2])), (u.1, .inl (cA 0, 192, .inl (fun _ => 0))), (u.2.1, .inl (cA 0, 4, .inl (fun _ => 0))), (u.2.2.1, .inl (cA 0, 192, .inl (fun _ => 0))), (u.2.2.2, .inl (cA 0, 4, .inl (fun _ => 0)))]
abbrev rmi_T : Room := { frames := 1, cells := 4, slots := 392, locals := 20 }
set_option maxRecDepth 100000 in
set_option maxHeartbeats 4000000 in
theorem ci_T (l : Launch) (D : va_G) (cA : Nat → ClassId) (h0 sz : Nat) : Met l yi_T (mWs yi_T ki_T 1 none) rmi_T (va_Pc [.ref h0] (iPre D cA h0 sz 3 [.null, .null, .null, .null])) (va_Qv (fun _ : Nat × Nat × Nat × Nat => True) (fun u t => va_P D clA (wi_T cA h0 u) t.heap ∧ va_D (va_A [(h0, .inr (3, [.null, .null, .null, .null]))] sz) (wi_T cA h0 u)) (va_A [(h0, .inr (3, [.null, .null, .null, .null]))] sz)) 4 392 (va_A [(h0, .inr (3, [.null, .null, .null, .null]))] sz) := by
  refine Met.ofW (cc := ki_T) (maxL := 1) (ret := none) (by decide) rfl ?_
  intro p e s m args below meth c s₁ B hml hv
  obtain ⟨rfl, hsz, hP, hK, hD0, hN⟩ := hv
  have hx := B.exec
  have hb := B.bytes
  have hr := B.returns
  have hts := atoms_spec (ws := mWs yi_T ki_T 1 none) B.pre
  have hw : ∀ {w : Cond}, w ∈ mTb → w.before _ s = true := fun h => hts _ (List.mem_cons_of_mem _ h)
  have hown : s.vm.findClass "TriggerBase$Tables" = some m.cls := findClass_of_methodNamed B.named
  have hin : meth.name = "<init>" := (name_of_methodNamed B.named B.method).1
  subst hsz
  have hD := hD0.self (sz := s.heap.size)
  generalize hAe : va_A [(h0, .inr (3, [.null, .null, .null, .null]))] s.heap.size = A at hD ⊢
  have hA : ∀ q : Nat, s.heap.size ≤ q → A q := fun q h => by rw [← hAe]; exact Or.inr h
  have hS : va_S A s.heap s.heap [] := va_S.rf
  have hP : va_P D clA [(h0, .inr (3, [.null, .null, .null, .null]))] s.heap := hP
  have hl := lv_entry ([.ref h0]) (n := 1) (Nat.le_of_ble_eq_true rfl)
  rw [lg_entry_eq]
  generalize (lg_sl ([.ref h0]) ++ List.replicate (1 - (lg_sl ([.ref h0])).length) Slot.unset).toArray = ls at hl ⊢
  have hl : lv_has ls 1 [(0, .ref h0)] := hl
  refine lv_aload_n hx hb di_T_0 rfl (lv_at hl 0 rfl) ?_
  refine W.objInit hx hb hown (hw (mTb_at 109 ⟨by decide +kernel, rfl⟩)) (hw (mTb_at 57 ⟨by decide +kernel, rfl⟩)) (hw (mTb_at 58 ⟨by decide +kernel, rfl⟩)) rfl (by rw [hml]; exact hl.1) rfl di_T_1 (Nat.le_of_ble_eq_true rfl) (Nat.le_of_ble_eq_true rfl) ?_
  refine W.eq (g2 := F0 m 4 ls []) rfl ?_
  refine lv_aload_n hx hb di_T_4 rfl (lv_at hl 0 rfl) ?_
  refine lv_sipush (v := 192) hx hb di_T_5 (by decide) ?_
  refine nwA (t0 := 0) (ty := .int) (N' := 192) hx hb (hw (mTb_at 84 ⟨by decide +kernel, rfl⟩)) rfl hK hP hD hS hA rfl (fun _ => rfl) (by decide) (by decide) (by decide) (Nat.le_of_ble_eq_true rfl) (Nat.le_of_ble_eq_true rfl) di_T_8 (fun q1 H hP hD hS => ?_)
  have hP : va_P D clA [(h0, .inr (3, [.null, .null, .null, .null])), (q1, .inl (cA 0, 192, .inl (fun _ => 0)))] H := hP
  have hD : va_D A [(h0, .inr (3, [.null, .null, .null, .null])), (q1, .inl (cA 0, 192, .inl (fun _ => 0)))] := hD
  refine va_putF (D := D) (ci := 3) (v := .ref q1) (ty := (.array .int)) (C := "TriggerBase$Tables") (T := uT_T) (N := 4) hx hb hts (uwi (ci := 3) rfl) uY_T ty_T nm_T hown hK hP hD hS 0 rfl rfl 0 (by decide) (hw (mTb_at 110 ⟨by decide +kernel, rfl⟩)) (fun _ h9 => h9) rfl hin rfl (by decide +kernel) rfl rfl (Nat.le_of_ble_eq_true rfl) di_T_10 (fun H locs hP hD hS => ?_)
  have hP : va_P D clA [(h0, .inr (3, [.ref q1, .null, .null, .null])), (q1, .inl (cA 0, 192, .inl (fun _ => 0)))] H := hP
  have hD : va_D A [(h0, .inr (3, [.ref q1, .null, .null, .null])), (q1, .inl (cA 0, 192, .inl (fun _ => 0)))] := hD
  refine lv_aload_n hx hb di_T_13 rfl (lv_at hl 0 rfl) ?_
  refine lv_iconst (v := 4) hx hb di_T_14 (by decide) ?_
  refine nwA (t0 := 0) (ty := .int) (N' := 4) hx hb (hw (mTb_at 84 ⟨by decide +kernel, rfl⟩)) rfl hK hP hD hS hA rfl (fun _ => rfl) (by decide) (by decide) (by decide) (Nat.le_of_ble_eq_true rfl) (Nat.le_of_ble_eq_true rfl) di_T_15 (fun q2 H hP hD hS => ?_)
  have hP : va_P D clA [(h0, .inr (3, [.ref q1, .null, .null, .null])), (q1, .inl (cA 0, 192, .inl (fun _ => 0))), (q2, .inl (cA 0, 4, .inl (fun _ => 0)))] H := hP
  have hD : va_D A [(h0, .inr (3, [.ref q1, .null, .null, .null])), (q1, .inl (cA 0, 192, .inl (fun _ => 0))), (q2, .inl (cA 0, 4, .inl (fun _ => 0)))] := hD
  refine va_putF (D := D) (ci := 3) (v := .ref q2) (ty := (.array .int)) (C := "TriggerBase$Tables") (T := uT_T) (N := 4) hx hb hts (uwi (ci := 3) rfl) uY_T ty_T nm_T hown hK hP hD hS 0 rfl rfl 1 (by decide) (hw (mTb_at 111 ⟨by decide +kernel, rfl⟩)) (fun _ h9 => h9) rfl hin rfl (by decide +kernel) rfl rfl (Nat.le_of_ble_eq_true rfl) di_T_17 (fun H locs hP hD hS => ?_)
  have hP : va_P D clA [(h0, .inr (3, [.ref q1, .ref q2, .null, .null])), (q1, .inl (cA 0, 192, .inl (fun _ => 0))), (q2, .inl (cA 0, 4, .inl (fun _ => 0)))] H := hP
  have hD : va_D A [(h0, .inr (3, [.ref q1, .ref q2, .null, .null])), (q1, .inl (cA 0, 192, .inl (fun _ => 0))), (q2, .inl (cA 0, 4, .inl (fun _ => 0)))] := hD
  refine lv_aload_n hx hb di_T_20 rfl (lv_at hl 0 rfl) ?_
  refine lv_sipush (v := 192) hx hb di_T_21 (by decide) ?_
  refine nwA (t0 := 0) (ty := .int) (N' := 192) hx hb (hw (mTb_at 84 ⟨by decide +kernel, rfl⟩)) rfl hK hP hD hS hA rfl (fun _ => rfl) (by decide) (by decide) (by decide) (Nat.le_of_ble_eq_true rfl) (Nat.le_of_ble_eq_true rfl) di_T_24 (fun q3 H hP hD hS => ?_)
  have hP : va_P D clA [(h0, .inr (3, [.ref q1, .ref q2, .null, .null])), (q1, .inl (cA 0, 192, .inl (fun _ => 0))), (q2, .inl (cA 0, 4, .inl (fun _ => 0))), (q3, .inl (cA 0, 192, .inl (fun _ => 0)))] H := hP
  have hD : va_D A [(h0, .inr (3, [.ref q1, .ref q2, .null, .null])), (q1, .inl (cA 0, 192, .inl (fun _ => 0))), (q2, .inl (cA 0, 4, .inl (fun _ => 0))), (q3, .inl (cA 0, 192, .inl (fun _ => 0)))] := hD
  refine va_putF (D := D) (ci := 3) (v := .ref q3) (ty := (.array .int)) (C := "TriggerBase$Tables") (T := uT_T) (N := 4) hx hb hts (uwi (ci := 3) rfl) uY_T ty_T nm_T hown hK hP hD hS 0 rfl rfl 2 (by decide) (hw (mTb_at 112 ⟨by decide +kernel, rfl⟩)) (fun _ h9 => h9) rfl hin rfl (by decide +kernel) rfl rfl (Nat.le_of_ble_eq_true rfl) di_T_26 (fun H locs hP hD hS => ?_)
  have hP : va_P D clA [(h0, .inr (3, [.ref q1, .ref q2, .ref q3, .null])), (q1, .inl (cA 0, 192, .inl (fun _ => 0))), (q2, .inl (cA 0, 4, .inl (fun _ => 0))), (q3, .inl (cA 0, 192, .inl (fun _ => 0)))] H := hP
  have hD : va_D A [(h0, .inr (3, [.ref q1, .ref q2, .ref q3, .null])), (q1, .inl (cA 0, 192, .inl (fun _ => 0))), (q2, .inl (cA 0, 4, .inl (fun _ => 0))), (q3, .inl (cA 0, 192, .inl (fun _ => 0)))] := hD
  refine lv_aload_n hx hb di_T_29 rfl (lv_at hl 0 rfl) ?_
  refine lv_iconst (v := 4) hx hb di_T_30 (by decide) ?_
  refine nwA (t0 := 0) (ty := .int) (N' := 4) hx hb (hw (mTb_at 84 ⟨by decide +kernel, rfl⟩)) rfl hK hP hD hS hA rfl (fun _ => rfl) (by decide) (by decide) (by decide) (Nat.le_of_ble_eq_true rfl) (Nat.le_of_ble_eq_true rfl) di_T_31 (fun q4 H hP hD hS => ?_)
  have hP : va_P D clA [(h0, .inr (3, [.ref q1, .ref q2, .ref q3, .null])), (q1, .inl (cA 0, 192, .inl (fun _ => 0))), (q2, .inl (cA 0, 4, .inl (fun _ => 0))), (q3, .inl (cA 0, 192, .inl (fun _ => 0))), (q4, .inl (cA 0, 4, .inl (fun _ => 0)))] H := hP
  have hD : va_D A [(h0, .inr (3, [.ref q1, .ref q2, .ref q3, .null])), (q1, .inl (cA 0, 192, .inl (fun _ => 0))), (q2, .inl (cA 0, 4, .inl (fun _ => 0))), (q3, .inl (cA 0, 192, .inl (fun _ => 0))), (q4, .inl (cA 0, 4, .inl (fun _ => 0)))] := hD
  refine va_putF (D := D) (ci := 3) (v := .ref q4) (ty := (.array .int)) (C := "TriggerBase$Tables") (T := uT_T) (N := 4) hx hb hts (uwi (ci := 3) rfl) uY_T ty_T nm_T hown hK hP hD hS 0 rfl rfl 3 (by decide) (hw (mTb_at 113 ⟨by decide +kernel, rfl⟩)) (fun _ h9 => h9) rfl hin rfl (by decide +kernel) rfl rfl (Nat.le_of_ble_eq_true rfl) di_T_33 (fun H locs hP hD hS => ?_)
  have hP : va_P D clA [(h0, .inr (3, [.ref q1, .ref q2, .ref q3, .ref q4])), (q1, .inl (cA 0, 192, .inl (fun _ => 0))), (q2, .inl (cA 0, 4, .inl (fun _ => 0))), (q3, .inl (cA 0, 192, .inl (fun _ => 0))), (q4, .inl (cA 0, 4, .inl (fun _ => 0)))] H := hP
  have hD : va_D A [(h0, .inr (3, [.ref q1, .ref q2, .ref q3, .ref q4])), (q1, .inl (cA 0, 192, .inl (fun _ => 0))), (q2, .inl (cA 0, 4, .inl (fun _ => 0))), (q3, .inl (cA 0, 192, .inl (fun _ => 0))), (q4, .inl (cA 0, 4, .inl (fun _ => 0)))] := hD
  refine W.widen (k := 4) (n := 392) (Nat.le_of_ble_eq_true rfl) (Nat.le_of_ble_eq_true rfl) ?_
  have hP9 := hP.sub (ws' := [(h0, .inr (3, [.ref q1, .ref q2, .ref q3, .ref q4])), (q1, .inl (cA 0, 192, .inl (fun _ => 0))), (q2, .inl (cA 0, 4, .inl (fun _ => 0))), (q3, .inl (cA 0, 192, .inl (fun _ => 0))), (q4, .inl (cA 0, 4, .inl (fun _ => 0)))]) [0, 1, 2, 3, 4] rfl
  have hD9 := hD.sub (ws' := [(h0, .inr (3, [.ref q1, .ref q2, .ref q3, .ref q4])), (q1, .inl (cA 0, 192, .inl (fun _ => 0))), (q2, .inl (cA 0, 4, .inl (fun _ => 0))), (q3, .inl (cA 0, 192, .inl (fun _ => 0))), (q4, .inl (cA 0, 4, .inl (fun _ => 0)))]) [0, 1, 2, 3, 4] (by decide) rfl
  exact W.vret hx hb hr (fun t ht hW => ⟨⟨(q1, q2, q3, q4), rfl, trivial, by rw [ht]; exact hP9, hD9⟩, hS.F ht⟩) hS.2.2 di_T_36
abbrev ki_L : ByteArray := prog_5_method_1_code
abbrev yi_L : MethodName := ⟨"TriggerBase$Library", "<init>", "()V"⟩
theorem di_L_0 : decode ki_L 0 = .ok (.aload_n 0, 1) := by decide +kernel
theorem di_L_1 : decode ki_L 1 = .ok (.invokespecial 3, 3) := by decide +kernel
theorem di_L_4 : decode ki_L 4 = .ok (.aload_n 0, 1) := by decide +kernel
theorem di_L_5 : decode ki_L 5 = .ok (.sipush 720, 3) := by decide +kernel
theorem di_L_8 : decode ki_L 8 = .ok (.newarray .int, 2) := by decide +kernel
theorem di_L_10 : decode ki_L 10 = .ok (.putfield 9, 3) := by decide +kernel
theorem di_L_13 : decode ki_L 13 = .ok (.aload_n 0, 1) := by decide +kernel
theorem di_L_14 : decode ki_L 14 = .ok (.bipush 12, 2) := by decide +kernel
theorem di_L_16 : decode ki_L 16 = .ok (.newarray .int, 2) := by decide +kernel
theorem di_L_18 : decode ki_L 18 = .ok (.putfield 15, 3) := by decide +kernel
theorem di_L_21 : decode ki_L 21 = .ok (.aload_n 0, 1) := by decide +kernel
theorem di_L_22 : decode ki_L 22 = .ok (.new 18, 3) := by decide +kernel
theorem di_L_25 : decode ki_L 25 = .ok (.dup, 1) := by decide +kernel
theorem di_L_26 : decode ki_L 26 = .ok (.invokespecial 20, 3) := by decide +kernel
theorem di_L_29 : decode ki_L 29 = .ok (.putfield 21, 3) := by decide +kernel
theorem di_L_32 : decode ki_L 32 = .ok (.aload_n 0, 1) := by decide +kernel
theorem di_L_33 : decode ki_L 33 = .ok (.iconst 0, 1) := by decide +kernel
theorem di_L_34 : decode ki_L 34 = .ok (.putfield 25, 3) := by decide +kernel
theorem di_L_37 : decode ki_L 37 = .ok (.aload_n 0, 1) := by decide +kernel
theorem di_L_38 : decode ki_L 38 = .ok (.iconst 0, 1) := by decide +kernel
theorem di_L_39 : decode ki_L 39 = .ok (.putfield 29, 3) := by decide +kernel
theorem di_L_42 : decode ki_L 42 = .ok (.return_, 1) := by decide +kernel
abbrev wi_L (cA : Nat → ClassId) (h0 : Nat) (u : Nat × Nat × Nat × Nat × Nat) : va_W := [(h0, .inr (1, [.ref u.1, .ref u.2.1, .ref u.2.2.1, .int 0, .int 0])), (u.1, .inl (cA 0, 720, .inl (fun _ => 0))), (u.2.1, .inl (cA 0, 12, .inl (fun _ => 0))), (u.2.2.1, .inr (5, [.ref u.2.2.2.1, .ref u.2.2.2.2])), (u.2.2.2.1, .inl (cA 0, 60, .inl (fun _ => 0))), (u.2.2.2.2, .inl (cA 1, 60, .inl (fun _ => 0)))]
abbrev rmi_L : Room := { frames := 2, cells := 5, slots := 854, locals := 40 }
set_option maxRecDepth 100000 in
set_option maxHeartbeats 4000000 in
theorem ci_L (l : Launch) (D : va_G) (cA : Nat → ClassId) (h0 sz : Nat) : Met l yi_L (mWs yi_L ki_L 1 none) rmi_L (va_Pc [.ref h0] (iPre D cA h0 sz 1 [.null, .null, .null, .int 0, .int 0])) (va_Qv (fun _ : Nat × Nat × Nat × Nat × Nat => True) (fun u t => va_P D clA (wi_L cA h0 u) t.heap ∧ va_D (va_A [(h0, .inr (1, [.null, .null, .null, .int 0, .int 0]))] sz) (wi_L cA h0 u)) (va_A [(h0, .inr (1, [.null, .null, .null, .int 0, .int 0]))] sz)) 5 854 (va_A [(h0, .inr (1, [.null, .null, .null, .int 0, .int 0]))] sz) := by
  refine Met.ofW (cc := ki_L) (maxL := 1) (ret := none) (by decide) rfl ?_
  intro p e s m args below meth c s₁ B hml hv
  obtain ⟨rfl, hsz, hP, hK, hD0, hN⟩ := hv
  have hx := B.exec
  have hb := B.bytes
  have hr := B.returns
  have hts := atoms_spec (ws := mWs yi_L ki_L 1 none) B.pre
  have hw : ∀ {w : Cond}, w ∈ mTb → w.before _ s = true := fun h => hts _ (List.mem_cons_of_mem _ h)
  have hown : s.vm.findClass "TriggerBase$Library" = some m.cls := findClass_of_methodNamed B.named
  have hin : meth.name = "<init>" := (name_of_methodNamed B.named B.method).1
  subst hsz
  have hD := hD0.self (sz := s.heap.size)
  generalize hAe : va_A [(h0, .inr (1, [.null, .null, .null, .int 0, .int 0]))] s.heap.size = A at hD ⊢
  have hA : ∀ q : Nat, s.heap.size ≤ q → A q := fun q h => by rw [← hAe]; exact Or.inr h
  have hS : va_S A s.heap s.heap [] := va_S.rf
  have hP : va_P D clA [(h0, .inr (1, [.null, .null, .null, .int 0, .int 0]))] s.heap := hP
  have hl := lv_entry ([.ref h0]) (n := 1) (Nat.le_of_ble_eq_true rfl)
  rw [lg_entry_eq]
  generalize (lg_sl ([.ref h0]) ++ List.replicate (1 - (lg_sl ([.ref h0])).length) Slot.unset).toArray = ls at hl ⊢
  have hl : lv_has ls 1 [(0, .ref h0)] := hl
  refine lv_aload_n hx hb di_L_0 rfl (lv_at hl 0 rfl) ?_
  refine W.objInit hx hb hown (hw (mTb_at 70 ⟨by decide +kernel, rfl⟩)) (hw (mTb_at 57 ⟨by decide +kernel, rfl⟩)) (hw (mTb_at 58 ⟨by decide +kernel, rfl⟩)) rfl (by rw [hml]; exact hl.1) rfl di_L_1 (Nat.le_of_ble_eq_true rfl) (Nat.le_of_ble_eq_true rfl) ?_
  refine W.eq (g2 := F0 m 4 ls []) rfl ?_
  refine lv_aload_n hx hb di_L_4 rfl (lv_at hl 0 rfl) ?_
  refine lv_sipush (v := 720) hx hb di_L_5 (by decide) ?_
  refine nwA (t0 := 0) (ty := .int) (N' := 720) hx hb (hw (mTb_at 84 ⟨by decide +kernel, rfl⟩)) rfl hK hP hD hS hA rfl (fun _ => rfl) (by decide) (by decide) (by decide) (Nat.le_of_ble_eq_true rfl) (Nat.le_of_ble_eq_true rfl) di_L_8 (fun q1 H hP hD hS => ?_)
  have hP : va_P D clA [(h0, .inr (1, [.null, .null, .null, .int 0, .int 0])), (q1, .inl (cA 0, 720, .inl (fun _ => 0)))] H := hP
  have hD : va_D A [(h0, .inr (1, [.null, .null, .null, .int 0, .int 0])), (q1, .inl (cA 0, 720, .inl (fun _ => 0)))] := hD
  refine va_putF (D := D) (ci := 1) (v := .ref q1) (ty := (.array .int)) (C := "TriggerBase$Library") (T := uT_L) (N := 5) hx hb hts (uwi (ci := 1) rfl) uY_L ty_L nm_L hown hK hP hD hS 0 rfl rfl 0 (by decide) (hw (mTb_at 86 ⟨by decide +kernel, rfl⟩)) (fun _ h9 => h9) rfl hin rfl (by decide +kernel) rfl rfl (Nat.le_of_ble_eq_true rfl) di_L_10 (fun H locs hP hD hS => ?_)
  have hP : va_P D clA [(h0, .inr (1, [.ref q1, .null, .null, .int 0, .int 0])), (q1, .inl (cA 0, 720, .inl (fun _ => 0)))] H := hP
  have hD : va_D A [(h0, .inr (1, [.ref q1, .null, .null, .int 0, .int 0])), (q1, .inl (cA 0, 720, .inl (fun _ => 0)))] := hD
  refine lv_aload_n hx hb di_L_13 rfl (lv_at hl 0 rfl) ?_
  refine lv_bipush (v := 12) hx hb di_L_14 (by decide) ?_
  refine nwA (t0 := 0) (ty := .int) (N' := 12) hx hb (hw (mTb_at 84 ⟨by decide +kernel, rfl⟩)) rfl hK hP hD hS hA rfl (fun _ => rfl) (by decide) (by decide) (by decide) (Nat.le_of_ble_eq_true rfl) (Nat.le_of_ble_eq_true rfl) di_L_16 (fun q2 H hP hD hS => ?_)
  have hP : va_P D clA [(h0, .inr (1, [.ref q1, .null, .null, .int 0, .int 0])), (q1, .inl (cA 0, 720, .inl (fun _ => 0))), (q2, .inl (cA 0, 12, .inl (fun _ => 0)))] H := hP
  have hD : va_D A [(h0, .inr (1, [.ref q1, .null, .null, .int 0, .int 0])), (q1, .inl (cA 0, 720, .inl (fun _ => 0))), (q2, .inl (cA 0, 12, .inl (fun _ => 0)))] := hD
  refine va_putF (D := D) (ci := 1) (v := .ref q2) (ty := (.array .int)) (C := "TriggerBase$Library") (T := uT_L) (N := 5) hx hb hts (uwi (ci := 1) rfl) uY_L ty_L nm_L hown hK hP hD hS 0 rfl rfl 1 (by decide) (hw (mTb_at 87 ⟨by decide +kernel, rfl⟩)) (fun _ h9 => h9) rfl hin rfl (by decide +kernel) rfl rfl (Nat.le_of_ble_eq_true rfl) di_L_18 (fun H locs hP hD hS => ?_)
  have hP : va_P D clA [(h0, .inr (1, [.ref q1, .ref q2, .null, .int 0, .int 0])), (q1, .inl (cA 0, 720, .inl (fun _ => 0))), (q2, .inl (cA 0, 12, .inl (fun _ => 0)))] H := hP
  have hD : va_D A [(h0, .inr (1, [.ref q1, .ref q2, .null, .int 0, .int 0])), (q1, .inl (cA 0, 720, .inl (fun _ => 0))), (q2, .inl (cA 0, 12, .inl (fun _ => 0)))] := hD
  refine lv_aload_n hx hb di_L_21 rfl (lv_at hl 0 rfl) ?_
  refine va_new (ci := 5) (fs := [.null, .null]) (C := "TriggerBase$Verifier") (T := uT_V) (N := 2) hx hb hts (uwi (ci := 5) rfl) uY_V ty_V hown (hw (mTb_at 71 ⟨by decide +kernel, rfl⟩)) (hw (mTb_at 72 ⟨by decide +kernel, rfl⟩)) (hw (mTb_at 40 ⟨by decide +kernel, rfl⟩)) hK hP hD hS hA rfl (df_V) (Nat.le_of_ble_eq_true rfl) (Nat.le_of_ble_eq_true rfl) di_L_22 (fun q3 H hP hD hS => ?_)
  have hP : va_P D clA [(h0, .inr (1, [.ref q1, .ref q2, .null, .int 0, .int 0])), (q1, .inl (cA 0, 720, .inl (fun _ => 0))), (q2, .inl (cA 0, 12, .inl (fun _ => 0))), (q3, .inr (5, [.null, .null]))] H := hP
  have hD : va_D A [(h0, .inr (1, [.ref q1, .ref q2, .null, .int 0, .int 0])), (q1, .inl (cA 0, 720, .inl (fun _ => 0))), (q2, .inl (cA 0, 12, .inl (fun _ => 0))), (q3, .inr (5, [.null, .null]))] := hD
  refine lv_dup hx hb di_L_25 rfl ?_
  have hPc := hP.sub (ws' := [(q3, .inr (5, [.null, .null]))]) [3] rfl
  have hDc := hD.sub (ws' := [(q3, .inr (5, [.null, .null]))]) [3] (by decide) rfl
  have hFc := va_free (wc := [(q3, .inr (5, [.null, .null]))]) hD hS hA [3] rfl
  refine va_callv (va_runIN (As := []) (rest := [.ref q3, .ref h0]) ⟨hx, hb, hml, hown, hts⟩ (ci_V l D cA q3 H.size) ⟨va_cnB 0 hts (mGoodW (mTb_at 75 ⟨by decide +kernel, rfl⟩)) rfl rfl rfl (hN.1 3 (by decide)) (hw (mTb_at 40 ⟨by decide +kernel, rfl⟩)) ⟨by decide, by decide, by decide +kernel⟩ ⟨Nat.le_of_ble_eq_true rfl, Nat.le_of_ble_eq_true rfl⟩, rfl, hw (mTb_at 74 ⟨by decide +kernel, rfl⟩)⟩ ⟨iPre.blind, iPre.pre hPc hK hDc hN⟩ rfl rfl hl.1 rfl (lv_room (Nat.le_of_ble_eq_true rfl)) di_L_26 ⟨Nat.le_of_ble_eq_true rfl, Nat.le_of_ble_eq_true rfl⟩) hS (fun q _ h => hFc q h) hFc (fun u t H1 locs ht hvm _ hB hz1 hk1 hS => ?_)
  obtain ⟨hP1, hD1⟩ := hB
  rw [ht] at hP1
  obtain ⟨q4, q5⟩ := u
  obtain ⟨hP, hD⟩ := va_join (wr := [(h0, .inr (1, [.ref q1, .ref q2, .null, .int 0, .int 0])), (q1, .inl (cA 0, 720, .inl (fun _ => 0))), (q2, .inl (cA 0, 12, .inl (fun _ => 0)))]) (w1 := [(q3, .inr (5, [.ref q4, .ref q5])), (q4, .inl (cA 0, 60, .inl (fun _ => 0))), (q5, .inl (cA 1, 60, .inl (fun _ => 0)))]) hP hD [3] [0, 1, 2] rfl rfl (by decide) (by decide) hk1 hFc hP1 hD1
  generalize H1 = H at hP hS ⊢
  have hP : va_P D clA [(h0, .inr (1, [.ref q1, .ref q2, .null, .int 0, .int 0])), (q1, .inl (cA 0, 720, .inl (fun _ => 0))), (q2, .inl (cA 0, 12, .inl (fun _ => 0))), (q3, .inr (5, [.ref q4, .ref q5])), (q4, .inl (cA 0, 60, .inl (fun _ => 0))), (q5, .inl (cA 1, 60, .inl (fun _ => 0)))] H := hP
  have hD : va_D A [(h0, .inr (1, [.ref q1, .ref q2, .null, .int 0, .int 0])), (q1, .inl (cA 0, 720, .inl (fun _ => 0))), (q2, .inl (cA 0, 12, .inl (fun _ => 0))), (q3, .inr (5, [.ref q4, .ref q5])), (q4, .inl (cA 0, 60, .inl (fun _ => 0))), (q5, .inl (cA 1, 60, .inl (fun _ => 0)))] := hD
  refine va_putF (D := D) (ci := 1) (v := .ref q3) (ty := (.object "TriggerBase$Verifier")) (C := "TriggerBase$Library") (T := uT_L) (N := 5) hx hb hts (uwi (ci := 1) rfl) uY_L ty_L nm_L hown hK hP hD hS 0 rfl rfl 2 (by decide) (hw (mTb_at 88 ⟨by decide +kernel, rfl⟩)) (fun _ h9 => h9) rfl hin rfl (by decide +kernel) rfl rfl (Nat.le_of_ble_eq_true rfl) di_L_29 (fun H locs hP hD hS => ?_)
  have hP : va_P D clA [(h0, .inr (1, [.ref q1, .ref q2, .ref q3, .int 0, .int 0])), (q1, .inl (cA 0, 720, .inl (fun _ => 0))), (q2, .inl (cA 0, 12, .inl (fun _ => 0))), (q3, .inr (5, [.ref q4, .ref q5])), (q4, .inl (cA 0, 60, .inl (fun _ => 0))), (q5, .inl (cA 1, 60, .inl (fun _ => 0)))] H := hP
  have hD : va_D A [(h0, .inr (1, [.ref q1, .ref q2, .ref q3, .int 0, .int 0])), (q1, .inl (cA 0, 720, .inl (fun _ => 0))), (q2, .inl (cA 0, 12, .inl (fun _ => 0))), (q3, .inr (5, [.ref q4, .ref q5])), (q4, .inl (cA 0, 60, .inl (fun _ => 0))), (q5, .inl (cA 1, 60, .inl (fun _ => 0)))] := hD
  refine lv_aload_n hx hb di_L_32 rfl (lv_at hl 0 rfl) ?_
  refine lv_iconst (v := 0) hx hb di_L_33 (by decide) ?_
  refine va_put (D := D) (ci := 1) (v := .int 0) (ty := .int) (C := "TriggerBase$Library") (T := uT_L) (N := 5) hx hb hts (uwi (ci := 1) rfl) uY_L ty_L nm_L hown hK hP hD hS 0 rfl rfl 3 (by decide) (hw (mTb_at 89 ⟨by decide +kernel, rfl⟩)) (fun _ h9 => h9) rfl (by decide +kernel) rfl rfl (Nat.le_of_ble_eq_true rfl) di_L_34 (fun H locs hP hD hS => ?_)
  have hP : va_P D clA [(h0, .inr (1, [.ref q1, .ref q2, .ref q3, .int 0, .int 0])), (q1, .inl (cA 0, 720, .inl (fun _ => 0))), (q2, .inl (cA 0, 12, .inl (fun _ => 0))), (q3, .inr (5, [.ref q4, .ref q5])), (q4, .inl (cA 0, 60, .inl (fun _ => 0))), (q5, .inl (cA 1, 60, .inl (fun _ => 0)))] H := hP
  have hD : va_D A [(h0, .inr (1, [.ref q1, .ref q2, .ref q3, .int 0, .int 0])), (q1, .inl (cA 0, 720, .inl (fun _ => 0))), (q2, .inl (cA 0, 12, .inl (fun _ => 0))), (q3, .inr (5, [.ref q4, .ref q5])), (q4, .inl (cA 0, 60, .inl (fun _ => 0))), (q5, .inl (cA 1, 60, .inl (fun _ => 0)))] := hD
  refine lv_aload_n hx hb di_L_37 rfl (lv_at hl 0 rfl) ?_
  refine lv_iconst (v := 0) hx hb di_L_38 (by decide) ?_
  refine va_put (D := D) (ci := 1) (v := .int 0) (ty := .boolean) (C := "TriggerBase$Library") (T := uT_L) (N := 5) hx hb hts (uwi (ci := 1) rfl) uY_L ty_L nm_L hown hK hP hD hS 0 rfl rfl 4 (by decide) (hw (mTb_at 92 ⟨by decide +kernel, rfl⟩)) (fun _ h9 => h9) rfl (by decide +kernel) rfl rfl (Nat.le_of_ble_eq_true rfl) di_L_39 (fun H locs hP hD hS => ?_)
  have hP : va_P D clA [(h0, .inr (1, [.ref q1, .ref q2, .ref q3, .int 0, .int 0])), (q1, .inl (cA 0, 720, .inl (fun _ => 0))), (q2, .inl (cA 0, 12, .inl (fun _ => 0))), (q3, .inr (5, [.ref q4, .ref q5])), (q4, .inl (cA 0, 60, .inl (fun _ => 0))), (q5, .inl (cA 1, 60, .inl (fun _ => 0)))] H := hP
  have hD : va_D A [(h0, .inr (1, [.ref q1, .ref q2, .ref q3, .int 0, .int 0])), (q1, .inl (cA 0, 720, .inl (fun _ => 0))), (q2, .inl (cA 0, 12, .inl (fun _ => 0))), (q3, .inr (5, [.ref q4, .ref q5])), (q4, .inl (cA 0, 60, .inl (fun _ => 0))), (q5, .inl (cA 1, 60, .inl (fun _ => 0)))] := hD
  refine W.widen (k := 5) (n := 854) (Nat.le_of_ble_eq_true rfl) (Nat.le_of_ble_eq_true rfl) ?_
  have hP9 := hP.sub (ws' := [(h0, .inr (1, [.ref q1, .ref q2, .ref q3, .int 0, .int 0])), (q1, .inl (cA 0, 720, .inl (fun _ => 0))), (q2, .inl (cA 0, 12, .inl (fun _ => 0))), (q3, .inr (5, [.ref q4, .ref q5])), (q4, .inl (cA 0, 60, .inl (fun _ => 0))), (q5, .inl (cA 1, 60, .inl (fun _ => 0)))]) [0, 1, 2, 3, 4, 5] rfl
  have hD9 := hD.sub (ws' := [(h0, .inr (1, [.ref q1, .ref q2, .ref q3, .int 0, .int 0])), (q1, .inl (cA 0, 720, .inl (fun _ => 0))), (q2, .inl (cA 0, 12, .inl (fun _ => 0))), (q3, .inr (5, [.ref q4, .ref q5])), (q4, .inl (cA 0, 60, .inl (fun _ => 0))), (q5, .inl (cA 1, 60, .inl (fun _ => 0)))]) [0, 1, 2, 3, 4, 5] (by decide) rfl
  exact W.vret hx hb hr (fun t ht hW => ⟨⟨(q1, q2, q3, q4, q5), rfl, trivial, by rw [ht]; exact hP9, hD9⟩, hS.F ht⟩) hS.2.2 di_L_42
