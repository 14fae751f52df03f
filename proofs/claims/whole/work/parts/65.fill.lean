/-! filling an array of twelve with -1; Triggers -/
def fmF (k : Nat) : Nat → Int32 := fun j => if j < k then -1 else 0
theorem fmF_0 : fmF 0 = fun _ => 0 := by
  funext j
  exact if_neg (by omega)
theorem fmF_step {k : Nat} : upd (fmF k) k (-1) = fmF (k + 1) := by
  funext j
  unfold upd fmF
  by_cases e : j = k
  · rw [if_pos e, if_pos (by omega)]
  · rw [if_neg e]
    by_cases e2 : j < k
    · rw [if_pos e2, if_pos (by omega)]
    · rw [if_neg e2, if_neg (by omega)]
theorem df_A_5 : decode kc_A_fill 5 = .ok (.iload_n 2, 1) := by decide +kernel
theorem df_A_6 : decode kc_A_fill 6 = .ok (.iload_n 3, 1) := by decide +kernel
theorem df_A_7 : decode kc_A_fill 7 = .ok (.if_icmp .ge 13, 3) := by decide +kernel
theorem df_A_10 : decode kc_A_fill 10 = .ok (.aload_n 0, 1) := by decide +kernel
theorem df_A_11 : decode kc_A_fill 11 = .ok (.iload_n 2, 1) := by decide +kernel
theorem df_A_12 : decode kc_A_fill 12 = .ok (.iload_n 1, 1) := by decide +kernel
theorem df_A_13 : decode kc_A_fill 13 = .ok (.iastore, 1) := by decide +kernel
theorem df_A_14 : decode kc_A_fill 14 = .ok (.iinc 2 1, 3) := by decide +kernel
theorem df_A_17 : decode kc_A_fill 17 = .ok (.goto (-12), 3) := by decide +kernel
theorem df_A_20 : decode kc_A_fill 20 = .ok (.return_, 1) := by decide +kernel
theorem df_A_0 : decode kc_A_fill 0 = .ok (.iconst 0, 1) := by decide +kernel
theorem df_A_1 : decode kc_A_fill 1 = .ok (.istore_n 2, 1) := by decide +kernel
theorem df_A_2 : decode kc_A_fill 2 = .ok (.aload_n 0, 1) := by decide +kernel
theorem df_A_3 : decode kc_A_fill 3 = .ok (.arraylength, 1) := by decide +kernel
theorem df_A_4 : decode kc_A_fill 4 = .ok (.istore_n 3, 1) := by decide +kernel
section FL
variable {p : Program} {l : Launch} {e : Env} {R : Room} {s : State} {m : MethodId} {args : Array Value} {below : List Frame} {meth : Method} {c : Code} {cells slots : Nat} {Q : State → Prop} {D : va_G} {A : Nat → Prop} {a : Nat} {cA : Nat → ClassId}
theorem fillL (hx : p.tables.exec = Jvm.exec) (hb : c.code = kc_A_fill) (hK : va_K D clA (mTys cA) s)
    (kend : ∀ (H : Heap) (locs : List Loc) (ls : Array Slot), va_P D clA [(a, .inl (cA 0, 12, .inl (fmF 12)))] H → va_D A [(a, .inl (cA 0, 12, .inl (fmF 12)))] → va_S A s.heap H locs → W p l e R s m args below meth c H locs cells slots Q (F0 m 20 ls [])) :
    ∀ (n k : Nat) (H : Heap) (locs : List Loc) (ls : Array Slot), k + n = 12 → lv_has ls 4 [(2, .int (nI k)), (3, .int 12), (0, .ref a), (1, .int (-1))] → va_P D clA [(a, .inl (cA 0, 12, .inl (fmF k)))] H → va_D A [(a, .inl (cA 0, 12, .inl (fmF k)))] → va_S A s.heap H locs → W p l e R s m args below meth c H locs cells slots Q (F0 m 5 ls []) := by
  intro n
  induction n with
  | zero =>
    intro k H locs ls hk hl hP hD hS
    obtain rfl : k = 12 := by omega
    refine lv_iload_n hx hb df_A_5 rfl (lv_at hl 0 rfl) ?_
    refine lv_iload_n hx hb df_A_6 rfl (lv_at hl 1 rfl) ?_
    refine lv_icmp_ge (tgt := 20) hx hb df_A_7 (by decide) (fun _ => ?_) (fun h => absurd (by decide) h)
    exact kend H locs ls hP hD hS
  | succ n ih =>
    intro k H locs ls hk hl hP hD hS
    refine lv_iload_n hx hb df_A_5 rfl (lv_at hl 0 rfl) ?_
    refine lv_iload_n hx hb df_A_6 rfl (lv_at hl 1 rfl) ?_
    refine lv_icmp_ge (tgt := 20) hx hb df_A_7 (by decide) (fun h => absurd h (by rw [Int32.le_iff_toInt_le, nI_toInt (by omega), show (12 : Int32).toInt = 12 by decide]; omega)) (fun _ => ?_)
    refine lv_aload_n hx hb df_A_10 rfl (lv_at hl 2 rfl) ?_
    refine lv_iload_n hx hb df_A_11 rfl (lv_at hl 0 rfl) ?_
    refine lv_iload_n hx hb df_A_12 rfl (lv_at hl 3 rfl) ?_
    refine va_iast hx hb hK hP hD hS 0 0 rfl rfl (inB_in (by rw [nI_inB (by omega)]; omega)) df_A_13 (fun H locs hP hD hS => ?_)
    rw [nI_clamp (by omega), fmF_step] at hP hD
    refine lv_iinc (k := 0) (v := nI (k + 1)) hx hb df_A_14 hl rfl (by rw [on1, nI_add]) (by decide) rfl (fun ls hl => ?_)
    refine lv_goto (tgt := 5) hx hb df_A_17 (by decide) ?_
    exact ih (k + 1) H locs ls (by omega) hl hP hD hS
end FL
def fPre (D : va_G) (cA : Nat → ClassId) (a sz : Nat) (U : State) : Prop := U.heap.size = sz ∧ va_P D clA [(a, .inl (cA 0, 12, .inl (fun _ => 0)))] U.heap ∧ va_K D clA (mTys cA) U ∧ va_D (fun _ => True) [(a, .inl (cA 0, 12, .inl (fun _ => 0)))]
theorem fPre.blind {D : va_G} {cA : Nat → ClassId} {a sz : Nat} {av : List Value} : FrameBlind (va_Pc av (fPre D cA a sz)) := by
  rintro a U gf mk ⟨h1, h2, h3, h4, h5⟩
  exact ⟨h1, h2, h3, va_K.moved (u := U) (U := U.calling gf mk a) (Vm.Alike.refl U.vm) h4, h5⟩
set_option maxRecDepth 100000 in
set_option maxHeartbeats 4000000 in
theorem ci_fill (l : Launch) (D : va_G) (cA : Nat → ClassId) (a sz : Nat) : Met l yn_A_fill (mWs yn_A_fill kc_A_fill 4 none) rm_A_fill (va_Pc [.ref a, .int (-1)] (fPre D cA a sz)) (va_Qv (fun _ : Unit => True) (fun _ t => va_P D clA [(a, .inl (cA 0, 12, .inl (fmF 12)))] t.heap ∧ va_D (va_A [(a, .inl (cA 0, 12, .inl (fun _ => 0)))] sz) [(a, .inl (cA 0, 12, .inl (fmF 12)))]) (va_A [(a, .inl (cA 0, 12, .inl (fun _ => 0)))] sz)) 0 0 (va_A [(a, .inl (cA 0, 12, .inl (fun _ => 0)))] sz) := by
  refine Met.ofW (cc := kc_A_fill) (maxL := 4) (ret := none) (by decide) rfl ?_
  intro p e s m args below meth c s₁ B hml hv
  obtain ⟨rfl, hsz, hP, hK, hD0⟩ := hv
  have hx := B.exec
  have hb := B.bytes
  have hr := B.returns
  subst hsz
  have hD := hD0.self (sz := s.heap.size)
  generalize hAe : va_A [(a, .inl (cA 0, 12, .inl (fun _ => 0)))] s.heap.size = A at hD ⊢
  have hS : va_S A s.heap s.heap [] := va_S.rf
  have hl := lv_entry ([.ref a, .int (-1)]) (n := 4) (Nat.le_of_ble_eq_true rfl)
  rw [lg_entry_eq]
  generalize (lg_sl ([.ref a, .int (-1)]) ++ List.replicate (4 - (lg_sl ([.ref a, .int (-1)])).length) Slot.unset).toArray = ls at hl ⊢
  have hl : lv_has ls 4 [(0, .ref a), (1, .int (-1))] := hl
  refine lv_iconst (v := 0) hx hb df_A_0 (by decide) ?_
  refine lv_istore_n hx hb df_A_1 rfl hl (by decide) rfl (fun ls hl => ?_)
  have hl : lv_has ls 4 [(2, .int 0), (0, .ref a), (1, .int (-1))] := hl
  refine lv_aload_n hx hb df_A_2 rfl (lv_at hl 1 rfl) ?_
  refine va_alen (v := 12) hx hb hK hP 0 0 rfl rfl (by decide) df_A_3 ?_
  refine lv_istore_n hx hb df_A_4 rfl hl (by decide) rfl (fun ls hl => ?_)
  have hl : lv_has ls 4 [(2, .int (nI 0)), (3, .int 12), (0, .ref a), (1, .int (-1))] := lv_sub hl [1, 0, 2, 3] rfl
  rw [← fmF_0] at hP hD
  exact fillL hx hb hK (fun H locs ls hP hD hS => W.vret hx hb hr (fun t ht hW => ⟨⟨(), rfl, trivial, by rw [ht]; exact hP, hD⟩, hS.F ht⟩) hS.2.2 df_A_20) 12 0 s.heap [] ls (by omega) hl hP hD hS
