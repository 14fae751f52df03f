/-! constructor of Triggers -/
abbrev ki_G : ByteArray := prog_8_method_1_code
abbrev yi_G : MethodName := ⟨"TriggerBase$Triggers", "<init>", "()V"⟩
theorem di_G_0 : decode ki_G 0 = .ok (.aload_n 0, 1) := by decide +kernel
theorem di_G_1 : decode ki_G 1 = .ok (.invokespecial 3, 3) := by decide +kernel
theorem di_G_4 : decode ki_G 4 = .ok (.aload_n 0, 1) := by decide +kernel
theorem di_G_5 : decode ki_G 5 = .ok (.bipush 12, 2) := by decide +kernel
theorem di_G_7 : decode ki_G 7 = .ok (.newarray .int, 2) := by decide +kernel
theorem di_G_9 : decode ki_G 9 = .ok (.putfield 9, 3) := by decide +kernel
theorem di_G_12 : decode ki_G 12 = .ok (.aload_n 0, 1) := by decide +kernel
theorem di_G_13 : decode ki_G 13 = .ok (.getfield 9, 3) := by decide +kernel
theorem di_G_16 : decode ki_G 16 = .ok (.iconst (-1), 1) := by decide +kernel
theorem di_G_17 : decode ki_G 17 = .ok (.invokestatic 15, 3) := by decide +kernel
theorem di_G_20 : decode ki_G 20 = .ok (.return_, 1) := by decide +kernel
abbrev wi_G (cA : Nat → ClassId) (h0 : Nat) (u : Nat) : va_W := [(h0, .inr (4, [.ref u])), (u, .inl (cA 0, 12, .inl (fmF 12)))]
abbrev rmi_G : Room := { frames := 1, cells := 1, slots := 12, locals := 23 }
set_option maxRecDepth 100000 in
set_option maxHeartbeats 4000000 in
theorem ci_G (l : Launch) (D : va_G) (cA : Nat → ClassId) (h0 sz : Nat) : Met l yi_G (mWs yi_G ki_G 1 none) rmi_G (va_Pc [.ref h0] (iPre D cA h0 sz 4 [.null])) (va_Qv (fun _ : Nat => True) (fun u t => va_P D clA (wi_G cA h0 u) t.heap ∧ va_D (va_A [(h0, .inr (4, [.null]))] sz) (wi_G cA h0 u)) (va_A [(h0, .inr (4, [.null]))] sz)) 1 12 (va_A [(h0, .inr (4, [.null]))] sz) := by
  refine Met.ofW (cc := ki_G) (maxL := 1) (ret := none) (by decide) rfl ?_
  intro p e s m args below meth c s₁ B hml hv
  obtain ⟨rfl, hsz, hP, hK, hD0, hN⟩ := hv
  have hx := B.exec
  have hb := B.bytes
  have hr := B.returns
  have hts := atoms_spec (ws := mWs yi_G ki_G 1 none) B.pre
  have hw : ∀ {w : Cond}, w ∈ mTb → w.before _ s = true := fun h => hts _ (List.mem_cons_of_mem _ h)
  have hown : s.vm.findClass "TriggerBase$Triggers" = some m.cls := findClass_of_methodNamed B.named
  have hin : meth.name = "<init>" := (name_of_methodNamed B.named B.method).1
  subst hsz
  have hD := hD0.self (sz := s.heap.size)
  generalize hAe : va_A [(h0, .inr (4, [.null]))] s.heap.size = A at hD ⊢
  have hA : ∀ q : Nat, s.heap.size ≤ q → A q := fun q h => by rw [← hAe]; exact Or.inr h
  have hS : va_S A s.heap s.heap [] := va_S.rf
  have hP : va_P D clA [(h0, .inr (4, [.null]))] s.heap := hP
  have hl := lv_entry ([.ref h0]) (n := 1) (Nat.le_of_ble_eq_true rfl)
  rw [lg_entry_eq]
  generalize (lg_sl ([.ref h0]) ++ List.replicate (1 - (lg_sl ([.ref h0])).length) Slot.unset).toArray = ls at hl ⊢
  have hl : lv_has ls 1 [(0, .ref h0)] := hl
  refine lv_aload_n hx hb di_G_0 rfl (lv_at hl 0 rfl) ?_
  refine W.objInit hx hb hown (hw (mTb_at 128 ⟨by decide +kernel, rfl⟩)) (hw (mTb_at 57 ⟨by decide +kernel, rfl⟩)) (hw (mTb_at 58 ⟨by decide +kernel, rfl⟩)) rfl (by rw [hml]; exact hl.1) rfl di_G_1 (Nat.le_of_ble_eq_true rfl) (Nat.le_of_ble_eq_true rfl) ?_
  refine W.eq (g2 := F0 m 4 ls []) rfl ?_
  refine lv_aload_n hx hb di_G_4 rfl (lv_at hl 0 rfl) ?_
  refine lv_bipush (v := 12) hx hb di_G_5 (by decide) ?_
  refine nwA (t0 := 0) (ty := .int) (N' := 12) hx hb (hw (mTb_at 84 ⟨by decide +kernel, rfl⟩)) rfl hK hP hD hS hA rfl (fun _ => rfl) (by decide) (by decide) (by decide) (Nat.le_of_ble_eq_true rfl) (Nat.le_of_ble_eq_true rfl) di_G_7 (fun q1 H hP hD hS => ?_)
  have hP : va_P D clA [(h0, .inr (4, [.null])), (q1, .inl (cA 0, 12, .inl (fun _ => 0)))] H := hP
  have hD : va_D A [(h0, .inr (4, [.null])), (q1, .inl (cA 0, 12, .inl (fun _ => 0)))] := hD
  refine va_putF (D := D) (ci := 4) (v := .ref q1) (ty := (.array .int)) (C := "TriggerBase$Triggers") (T := uT_G) (N := 1) hx hb hts (uwi (ci := 4) rfl) uY_G ty_G nm_G hown hK hP hD hS 0 rfl rfl 0 (by decide) (hw (mTb_at 132 ⟨by decide +kernel, rfl⟩)) (fun _ h9 => h9) rfl hin rfl (by decide +kernel) rfl rfl (Nat.le_of_ble_eq_true rfl) di_G_9 (fun H locs hP hD hS => ?_)
  have hP : va_P D clA [(h0, .inr (4, [.ref q1])), (q1, .inl (cA 0, 12, .inl (fun _ => 0)))] H := hP
  have hD : va_D A [(h0, .inr (4, [.ref q1])), (q1, .inl (cA 0, 12, .inl (fun _ => 0)))] := hD
  refine lv_aload_n hx hb di_G_12 rfl (lv_at hl 0 rfl) ?_
  refine va_get (D := D) (ci := 4) (v := .ref q1) (C := "TriggerBase$Triggers") (T := uT_G) (N := 1) hx hb hts (uwi (ci := 4) rfl) hown hK hP 0 rfl rfl 0 (by decide) (hw (mTb_at 132 ⟨by decide +kernel, rfl⟩)) (fun _ h9 => h9) rfl di_G_13 ?_
  refine lv_iconst (v := -1) hx hb di_G_16 (by decide) ?_
  have hPc := hP.sub (ws' := [(q1, .inl (cA 0, 12, .inl (fun _ => 0)))]) [1] rfl
  have hDc := hD.sub (ws' := [(q1, .inl (cA 0, 12, .inl (fun _ => 0)))]) [1] (by decide) rfl
  have hFc := va_free (wc := [(q1, .inl (cA 0, 12, .inl (fun _ => 0)))]) hD hS hA [1] rfl
  refine va_callv (va_runS (As := [.ref q1, .int (-1)]) (rest := []) ⟨hx, hb, hml, hown, hts⟩ (ci_fill l D cA q1 H.size) (va_cwS 2 hts (goodIn_two (mGoodT (List.forall_mem_cons.mpr ⟨(mTb_at 129 ⟨by decide +kernel, rfl⟩), List.forall_mem_cons.mpr ⟨mst_A_fill, List.forall_mem_cons.mpr ⟨mn_A, fun _ h => absurd h List.not_mem_nil⟩⟩⟩)) (mGoodW mc_A_fill)) rfl rfl rfl ⟨by decide, by decide, by decide +kernel⟩ ⟨Nat.le_of_ble_eq_true rfl, Nat.le_of_ble_eq_true rfl⟩) ⟨fPre.blind, fun U hU hW => ⟨rfl, by rw [hU], by rw [hU]; exact hPc, va_K.moved hW.alike hK, hDc.weaken (fun _ _ _ _ => trivial)⟩⟩ rfl rfl hl.1 rfl (lv_room (Nat.le_of_ble_eq_true rfl)) di_G_17 ⟨Nat.le_of_ble_eq_true rfl, Nat.le_of_ble_eq_true rfl⟩) hS (fun q _ h => hFc q h) hFc (fun u t H1 locs ht hvm _ hB hz1 hk1 hS => ?_)
  obtain ⟨hP1, hD1⟩ := hB
  rw [ht] at hP1
  obtain ⟨hP, hD⟩ := va_join (wr := [(h0, .inr (4, [.ref q1]))]) (w1 := [(q1, .inl (cA 0, 12, .inl (fmF 12)))]) hP hD [1] [0] rfl rfl (by decide) (by decide) hk1 hFc hP1 hD1
  generalize H1 = H at hP hS ⊢
  have hP : va_P D clA [(h0, .inr (4, [.ref q1])), (q1, .inl (cA 0, 12, .inl (fmF 12)))] H := hP
  have hD : va_D A [(h0, .inr (4, [.ref q1])), (q1, .inl (cA 0, 12, .inl (fmF 12)))] := hD
  refine W.widen (k := 1) (n := 12) (Nat.le_of_ble_eq_true rfl) (Nat.le_of_ble_eq_true rfl) ?_
  have hP9 := hP.sub (ws' := [(h0, .inr (4, [.ref q1])), (q1, .inl (cA 0, 12, .inl (fmF 12)))]) [0, 1] rfl
  have hD9 := hD.sub (ws' := [(h0, .inr (4, [.ref q1])), (q1, .inl (cA 0, 12, .inl (fmF 12)))]) [0, 1] (by decide) rfl
  exact W.vret hx hb hr (fun t ht hW => ⟨⟨(q1), rfl, trivial, by rw [ht]; exact hP9, hD9⟩, hS.F ht⟩) hS.2.2 di_G_20
