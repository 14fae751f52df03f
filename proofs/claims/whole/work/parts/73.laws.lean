/-! the law's calls, one by one -/
section LAWS
variable {p : Program} {l : Launch} {e : Env} {s : State} {m : MethodId} {args : Array Value} {below : List Frame} {meth : Method} {c : Code} {H : Heap} {locs : List Loc} {cells slots : Nat} {Q : State → Prop}
variable {ls : Array Slot} {D : va_G} {cA : Nat → ClassId} {ad adr : Nat → Nat → Nat} {A : Nat → Prop} {c0 : Cond} {b L k : Nat} {xs : Nat → Int32} {g r : mG}
theorem mFI_of {f : List mV → mG → Option (Int32 × mG)} {As : List mV} {v : Int32} {g' : mG} (h : f As g = some (v, g')) : mFres (.inr (.inl f)) As g = some (some (.inl v), g') := by
  show (f As g).bind _ = _
  rw [h]
  rfl
theorem viL {t : Nat} {x : Int32} (hL : L ≤ 2048) (hk : 4 * k + t < L) (hx : x = nI t) : vp_in (nI (4 * k) + x) L := by
  rw [hx, nI_add]
  exact inB_in (by rw [nI_inB (by omega)]; exact hk)
theorem lw_begin (hL : L ≤ 2048) (S : CallFix p m c code 4 s args (c0 :: mTb) R_law) (hK : va_K D clA (mTys cA) s) (hSt : StC ad (aOf shC cA ad csC) s) (hAp : Ap ad adr A) (hX : va_X b L xs s s.heap) (hbl : b < s.heap.size) (hA0 : ∀ q : Nat, q < s.heap.size → ¬ A q) (hk : 4 * k + 4 ≤ L) (hl : lv_has ls 4 [(3, .int (nI (4 * k))), (2, .ref (adr 0 0)), (1, .ref (ad 0 0)), (0, .ref b)]) (hI : LI D cA ad adr A s.heap g r H locs) (hV : Inv g r) (hf : cells ≤ room_1.cells ∧ slots ≤ room_1.slots)
    (kk : ∀ (H1 : Heap) (locs1 : List Loc) (g1 r1 : mG), LI D cA ad adr A s.heap g1 r1 H1 locs1 → Inv g1 r1 → W p l e room_1 s m args below meth c H1 locs1 cells slots Q (F0 m 375 ls [])) : W p l e room_1 s m args below meth c H locs cells slots Q (F0 m 92 ls []) := by
  have hx := S.1
  have hb := S.2.1
  obtain ⟨v, g1, r1, e1, e2, hV1⟩ := face_begin hV
  refine lv_aload_n hx hb dw_92 rfl (lv_at hl 2 rfl) ?_
  refine lawCall (sh := shC) (nm := nmC) (cs := csC) (ad := ad) (A1 := aOf shC cA ad csC) (St := StC ad (aOf shC cA ad csC)) (As := []) (n := 0) (rest := []) StC_stable S hK hSt (mTb_at 227 ⟨by decide +kernel, rfl⟩) mi_B_begin ms_B_begin mn_B mc_B_begin (c_B_begin l D cA ad _) ⟨rfl, rfl⟩ ⟨by decide, by decide, by decide +kernel⟩ ⟨by decide, by decide⟩ (mRecvC hK shC_ok (a := 0) rfl rfl fun As g r h => (hd_B_begin h).1) hI.1 hAp.C hI.2.2.1 (fun q hq => hI.2.2.2.1 q hq (hA0 q hq)) (g' := g1) (v := v) (mFI_of e1) rfl (by decide) hl.1 (Nat.le_of_ble_eq_true rfl) dw_93 hf (fun H1 locs1 h1 h2 h3 h4 => ?_)
  have hI := hI.C hAp h1 h2 h3 h4
  refine lv_aload_n hx hb dw_96 rfl (lv_at hl 1 rfl) ?_
  refine lawCall (sh := shR) (nm := nmR) (cs := csR) (ad := adr) (A1 := aOf shR cA adr csR) (St := fun _ => True) (As := []) (n := 0) (rest := [.int v]) StR_stable S hK trivial (mTb_at 615 ⟨by decide +kernel, rfl⟩) mi_R_begin ms_R_begin mn_R mc_R_begin (c_R_begin l D cA adr _) ⟨rfl, rfl⟩ ⟨by decide, by decide, by decide +kernel⟩ ⟨by decide, by decide⟩ (mRecvC hK shR_ok (a := 0) rfl rfl fun As g r h => (hd_R_begin h).1) hI.2.1 hAp.R hI.2.2.1 (fun q hq => hI.2.2.2.1 q hq (hA0 q hq)) (g' := r1) (v := v) (mFI_of e2) rfl (by decide) hl.1 (Nat.le_of_ble_eq_true rfl) dw_97 hf (fun H1 locs1 h1 h2 h3 h4 => ?_)
  have hI := hI.rf hAp h1 h2 h3 h4
  refine lv_icmp_eq (tgt := 375) hx hb dw_100 (by decide) (fun _ => ?_) (fun h => absurd rfl h)
  exact kk _ _ g1 r1 hI hV1
theorem lw_emit (hL : L ≤ 2048) (S : CallFix p m c code 4 s args (c0 :: mTb) R_law) (hK : va_K D clA (mTys cA) s) (hSt : StC ad (aOf shC cA ad csC) s) (hAp : Ap ad adr A) (hX : va_X b L xs s s.heap) (hbl : b < s.heap.size) (hA0 : ∀ q : Nat, q < s.heap.size → ¬ A q) (hk : 4 * k + 4 ≤ L) (hl : lv_has ls 4 [(3, .int (nI (4 * k))), (2, .ref (adr 0 0)), (1, .ref (ad 0 0)), (0, .ref b)]) (hI : LI D cA ad adr A s.heap g r H locs) (hV : Inv g r) (hf : cells ≤ room_1.cells ∧ slots ≤ room_1.slots)
    (kk : ∀ (H1 : Heap) (locs1 : List Loc) (g1 r1 : mG), LI D cA ad adr A s.heap g1 r1 H1 locs1 → Inv g1 r1 → W p l e room_1 s m args below meth c H1 locs1 cells slots Q (F0 m 375 ls [])) : W p l e room_1 s m args below meth c H locs cells slots Q (F0 m 105 ls []) := by
  have hx := S.1
  have hb := S.2.1
  obtain ⟨v, g1, r1, e1, e2, hV1⟩ := face_emit (xs (nI (4 * k) + 1).toNatClampNeg) hV
  refine lv_aload_n hx hb dw_105 rfl (lv_at hl 2 rfl) ?_
  refine lv_aload_n hx hb dw_106 rfl (lv_at hl 3 rfl) ?_
  refine lv_iload_n hx hb dw_107 rfl (lv_at hl 0 rfl) ?_
  refine lv_iconst (v := 1) hx hb dw_108 (by decide) ?_
  refine lv_iadd hx hb dw_109 ?_
  refine va_sld hx hb hX hbl (hA0 b hbl) hI.2.2 (viL (t := 1) hL (by omega) (by decide)) dw_110 ?_
  refine lawCall (sh := shC) (nm := nmC) (cs := csC) (ad := ad) (A1 := aOf shC cA ad csC) (St := StC ad (aOf shC cA ad csC)) (As := [(xs (nI (4 * k) + 1).toNatClampNeg)]) (n := 1) (rest := []) StC_stable S hK hSt (mTb_at 235 ⟨by decide +kernel, rfl⟩) mi_B_emit ms_B_emit mn_B mc_B_emit (c_B_emit l D cA ad _) ⟨rfl, rfl⟩ ⟨by decide, by decide, by decide +kernel⟩ ⟨by decide, by decide⟩ (mRecvC hK shC_ok (a := 0) rfl rfl fun As g r h => (hd_B_emit h).1) hI.1 hAp.C hI.2.2.1 (fun q hq => hI.2.2.2.1 q hq (hA0 q hq)) (g' := g1) (v := v) (mFI_of e1) rfl (by decide) hl.1 (Nat.le_of_ble_eq_true rfl) dw_111 hf (fun H1 locs1 h1 h2 h3 h4 => ?_)
  have hI := hI.C hAp h1 h2 h3 h4
  refine lv_aload_n hx hb dw_114 rfl (lv_at hl 1 rfl) ?_
  refine lv_aload_n hx hb dw_115 rfl (lv_at hl 3 rfl) ?_
  refine lv_iload_n hx hb dw_116 rfl (lv_at hl 0 rfl) ?_
  refine lv_iconst (v := 1) hx hb dw_117 (by decide) ?_
  refine lv_iadd hx hb dw_118 ?_
  refine va_sld hx hb hX hbl (hA0 b hbl) hI.2.2 (viL (t := 1) hL (by omega) (by decide)) dw_119 ?_
  refine lawCall (sh := shR) (nm := nmR) (cs := csR) (ad := adr) (A1 := aOf shR cA adr csR) (St := fun _ => True) (As := [(xs (nI (4 * k) + 1).toNatClampNeg)]) (n := 1) (rest := [.int v]) StR_stable S hK trivial (mTb_at 619 ⟨by decide +kernel, rfl⟩) mi_R_emit ms_R_emit mn_R mc_R_emit (c_R_emit l D cA adr _) ⟨rfl, rfl⟩ ⟨by decide, by decide, by decide +kernel⟩ ⟨by decide, by decide⟩ (mRecvC hK shR_ok (a := 0) rfl rfl fun As g r h => (hd_R_emit h).1) hI.2.1 hAp.R hI.2.2.1 (fun q hq => hI.2.2.2.1 q hq (hA0 q hq)) (g' := r1) (v := v) (mFI_of e2) rfl (by decide) hl.1 (Nat.le_of_ble_eq_true rfl) dw_120 hf (fun H1 locs1 h1 h2 h3 h4 => ?_)
  have hI := hI.rf hAp h1 h2 h3 h4
  refine lv_icmp_eq (tgt := 375) hx hb dw_123 (by decide) (fun _ => ?_) (fun h => absurd rfl h)
  exact kk _ _ g1 r1 hI hV1
theorem lw_end (hL : L ≤ 2048) (S : CallFix p m c code 4 s args (c0 :: mTb) R_law) (hK : va_K D clA (mTys cA) s) (hSt : StC ad (aOf shC cA ad csC) s) (hAp : Ap ad adr A) (hX : va_X b L xs s s.heap) (hbl : b < s.heap.size) (hA0 : ∀ q : Nat, q < s.heap.size → ¬ A q) (hk : 4 * k + 4 ≤ L) (hl : lv_has ls 4 [(3, .int (nI (4 * k))), (2, .ref (adr 0 0)), (1, .ref (ad 0 0)), (0, .ref b)]) (hI : LI D cA ad adr A s.heap g r H locs) (hV : Inv g r) (hf : cells ≤ room_1.cells ∧ slots ≤ room_1.slots)
    (kk : ∀ (H1 : Heap) (locs1 : List Loc) (g1 r1 : mG), LI D cA ad adr A s.heap g1 r1 H1 locs1 → Inv g1 r1 → W p l e room_1 s m args below meth c H1 locs1 cells slots Q (F0 m 375 ls [])) : W p l e room_1 s m args below meth c H locs cells slots Q (F0 m 128 ls []) := by
  have hx := S.1
  have hb := S.2.1
  obtain ⟨v, g1, r1, e1, e2, hV1⟩ := face_end hV
  refine lv_aload_n hx hb dw_128 rfl (lv_at hl 2 rfl) ?_
  refine lawCall (sh := shC) (nm := nmC) (cs := csC) (ad := ad) (A1 := aOf shC cA ad csC) (St := StC ad (aOf shC cA ad csC)) (As := []) (n := 0) (rest := []) StC_stable S hK hSt (mTb_at 250 ⟨by decide +kernel, rfl⟩) mi_B_end ms_B_end mn_B mc_B_end (c_B_end l D cA ad _) ⟨rfl, rfl⟩ ⟨by decide, by decide, by decide +kernel⟩ ⟨by decide, by decide⟩ (mRecvC hK shC_ok (a := 0) rfl rfl fun As g r h => (hd_B_end h).1) hI.1 hAp.C hI.2.2.1 (fun q hq => hI.2.2.2.1 q hq (hA0 q hq)) (g' := g1) (v := v) (mFI_of e1) rfl (by decide) hl.1 (Nat.le_of_ble_eq_true rfl) dw_129 hf (fun H1 locs1 h1 h2 h3 h4 => ?_)
  have hI := hI.C hAp h1 h2 h3 h4
  refine lv_aload_n hx hb dw_132 rfl (lv_at hl 1 rfl) ?_
  refine lawCall (sh := shR) (nm := nmR) (cs := csR) (ad := adr) (A1 := aOf shR cA adr csR) (St := fun _ => True) (As := []) (n := 0) (rest := [.int v]) StR_stable S hK trivial (mTb_at 623 ⟨by decide +kernel, rfl⟩) mi_R_end ms_R_end mn_R mc_R_end (c_R_end l D cA adr _) ⟨rfl, rfl⟩ ⟨by decide, by decide, by decide +kernel⟩ ⟨by decide, by decide⟩ (mRecvC hK shR_ok (a := 0) rfl rfl fun As g r h => (hd_R_end h).1) hI.2.1 hAp.R hI.2.2.1 (fun q hq => hI.2.2.2.1 q hq (hA0 q hq)) (g' := r1) (v := v) (mFI_of e2) rfl (by decide) hl.1 (Nat.le_of_ble_eq_true rfl) dw_133 hf (fun H1 locs1 h1 h2 h3 h4 => ?_)
  have hI := hI.rf hAp h1 h2 h3 h4
  refine lv_icmp_eq (tgt := 375) hx hb dw_136 (by decide) (fun _ => ?_) (fun h => absurd rfl h)
  exact kk _ _ g1 r1 hI hV1
theorem lw_procedures (hL : L ≤ 2048) (S : CallFix p m c code 4 s args (c0 :: mTb) R_law) (hK : va_K D clA (mTys cA) s) (hSt : StC ad (aOf shC cA ad csC) s) (hAp : Ap ad adr A) (hX : va_X b L xs s s.heap) (hbl : b < s.heap.size) (hA0 : ∀ q : Nat, q < s.heap.size → ¬ A q) (hk : 4 * k + 4 ≤ L) (hl : lv_has ls 4 [(3, .int (nI (4 * k))), (2, .ref (adr 0 0)), (1, .ref (ad 0 0)), (0, .ref b)]) (hI : LI D cA ad adr A s.heap g r H locs) (hV : Inv g r) (hf : cells ≤ room_1.cells ∧ slots ≤ room_1.slots)
    (kk : ∀ (H1 : Heap) (locs1 : List Loc) (g1 r1 : mG), LI D cA ad adr A s.heap g1 r1 H1 locs1 → Inv g1 r1 → W p l e room_1 s m args below meth c H1 locs1 cells slots Q (F0 m 375 ls [])) : W p l e room_1 s m args below meth c H locs cells slots Q (F0 m 141 ls []) := by
  have hx := S.1
  have hb := S.2.1
  obtain ⟨v, g1, r1, e1, e2, hV1⟩ := face_procedures hV
  refine lv_aload_n hx hb dw_141 rfl (lv_at hl 2 rfl) ?_
  refine lawCall (sh := shC) (nm := nmC) (cs := csC) (ad := ad) (A1 := aOf shC cA ad csC) (St := StC ad (aOf shC cA ad csC)) (As := []) (n := 0) (rest := []) StC_stable S hK hSt (mTb_at 337 ⟨by decide +kernel, rfl⟩) mi_B_procedures ms_B_procedures mn_B mc_B_procedures (c_B_procedures l D cA ad _) ⟨rfl, rfl⟩ ⟨by decide, by decide, by decide +kernel⟩ ⟨by decide, by decide⟩ (mRecvC hK shC_ok (a := 0) rfl rfl fun As g r h => (hd_B_procedures h).1) hI.1 hAp.C hI.2.2.1 (fun q hq => hI.2.2.2.1 q hq (hA0 q hq)) (g' := g1) (v := v) (mFI_of e1) rfl (by decide) hl.1 (Nat.le_of_ble_eq_true rfl) dw_142 hf (fun H1 locs1 h1 h2 h3 h4 => ?_)
  have hI := hI.C hAp h1 h2 h3 h4
  refine lv_aload_n hx hb dw_145 rfl (lv_at hl 1 rfl) ?_
  refine lawCall (sh := shR) (nm := nmR) (cs := csR) (ad := adr) (A1 := aOf shR cA adr csR) (St := fun _ => True) (As := []) (n := 0) (rest := [.int v]) StR_stable S hK trivial (mTb_at 664 ⟨by decide +kernel, rfl⟩) mi_R_procedures ms_R_procedures mn_R mc_R_procedures (c_R_procedures l D cA adr _) ⟨rfl, rfl⟩ ⟨by decide, by decide, by decide +kernel⟩ ⟨by decide, by decide⟩ (mRecvC hK shR_ok (a := 0) rfl rfl fun As g r h => (hd_R_procedures h).1) hI.2.1 hAp.R hI.2.2.1 (fun q hq => hI.2.2.2.1 q hq (hA0 q hq)) (g' := r1) (v := v) (mFI_of e2) rfl (by decide) hl.1 (Nat.le_of_ble_eq_true rfl) dw_146 hf (fun H1 locs1 h1 h2 h3 h4 => ?_)
  have hI := hI.rf hAp h1 h2 h3 h4
  refine lv_icmp_eq (tgt := 375) hx hb dw_149 (by decide) (fun _ => ?_) (fun h => absurd rfl h)
  exact kk _ _ g1 r1 hI hV1
theorem lw_bind (hL : L ≤ 2048) (S : CallFix p m c code 4 s args (c0 :: mTb) R_law) (hK : va_K D clA (mTys cA) s) (hSt : StC ad (aOf shC cA ad csC) s) (hAp : Ap ad adr A) (hX : va_X b L xs s s.heap) (hbl : b < s.heap.size) (hA0 : ∀ q : Nat, q < s.heap.size → ¬ A q) (hk : 4 * k + 4 ≤ L) (hl : lv_has ls 4 [(3, .int (nI (4 * k))), (2, .ref (adr 0 0)), (1, .ref (ad 0 0)), (0, .ref b)]) (hI : LI D cA ad adr A s.heap g r H locs) (hV : Inv g r) (hf : cells ≤ room_1.cells ∧ slots ≤ room_1.slots)
    (kk : ∀ (H1 : Heap) (locs1 : List Loc) (g1 r1 : mG), LI D cA ad adr A s.heap g1 r1 H1 locs1 → Inv g1 r1 → W p l e room_1 s m args below meth c H1 locs1 cells slots Q (F0 m 375 ls [])) : W p l e room_1 s m args below meth c H locs cells slots Q (F0 m 154 ls []) := by
  have hx := S.1
  have hb := S.2.1
  obtain ⟨v, g1, r1, e1, e2, hV1⟩ := face_bind (xs (nI (4 * k) + 1).toNatClampNeg) (xs (nI (4 * k) + 2).toNatClampNeg) (xs (nI (4 * k) + 3).toNatClampNeg) hV
  refine lv_aload_n hx hb dw_154 rfl (lv_at hl 2 rfl) ?_
  refine lv_aload_n hx hb dw_155 rfl (lv_at hl 3 rfl) ?_
  refine lv_iload_n hx hb dw_156 rfl (lv_at hl 0 rfl) ?_
  refine lv_iconst (v := 1) hx hb dw_157 (by decide) ?_
  refine lv_iadd hx hb dw_158 ?_
  refine va_sld hx hb hX hbl (hA0 b hbl) hI.2.2 (viL (t := 1) hL (by omega) (by decide)) dw_159 ?_
  refine lv_aload_n hx hb dw_160 rfl (lv_at hl 3 rfl) ?_
  refine lv_iload_n hx hb dw_161 rfl (lv_at hl 0 rfl) ?_
  refine lv_iconst (v := 2) hx hb dw_162 (by decide) ?_
  refine lv_iadd hx hb dw_163 ?_
  refine va_sld hx hb hX hbl (hA0 b hbl) hI.2.2 (viL (t := 2) hL (by omega) (by decide)) dw_164 ?_
  refine lv_aload_n hx hb dw_165 rfl (lv_at hl 3 rfl) ?_
  refine lv_iload_n hx hb dw_166 rfl (lv_at hl 0 rfl) ?_
  refine lv_iconst (v := 3) hx hb dw_167 (by decide) ?_
  refine lv_iadd hx hb dw_168 ?_
  refine va_sld hx hb hX hbl (hA0 b hbl) hI.2.2 (viL (t := 3) hL (by omega) (by decide)) dw_169 ?_
  refine lawCall (sh := shC) (nm := nmC) (cs := csC) (ad := ad) (A1 := aOf shC cA ad csC) (St := StC ad (aOf shC cA ad csC)) (As := [(xs (nI (4 * k) + 1).toNatClampNeg), (xs (nI (4 * k) + 2).toNatClampNeg), (xs (nI (4 * k) + 3).toNatClampNeg)]) (n := 3) (rest := []) StC_stable S hK hSt (mTb_at 341 ⟨by decide +kernel, rfl⟩) mi_B_bind ms_B_bind mn_B mc_B_bind (c_B_bind l D cA ad _) ⟨rfl, rfl⟩ ⟨by decide, by decide, by decide +kernel⟩ ⟨by decide, by decide⟩ (mRecvC hK shC_ok (a := 0) rfl rfl fun As g r h => (hd_B_bind h).1) hI.1 hAp.C hI.2.2.1 (fun q hq => hI.2.2.2.1 q hq (hA0 q hq)) (g' := g1) (v := v) (mFI_of e1) rfl (by decide) hl.1 (Nat.le_of_ble_eq_true rfl) dw_170 hf (fun H1 locs1 h1 h2 h3 h4 => ?_)
  have hI := hI.C hAp h1 h2 h3 h4
  refine lv_aload_n hx hb dw_173 rfl (lv_at hl 1 rfl) ?_
  refine lv_aload_n hx hb dw_174 rfl (lv_at hl 3 rfl) ?_
  refine lv_iload_n hx hb dw_175 rfl (lv_at hl 0 rfl) ?_
  refine lv_iconst (v := 1) hx hb dw_176 (by decide) ?_
  refine lv_iadd hx hb dw_177 ?_
  refine va_sld hx hb hX hbl (hA0 b hbl) hI.2.2 (viL (t := 1) hL (by omega) (by decide)) dw_178 ?_
  refine lv_aload_n hx hb dw_179 rfl (lv_at hl 3 rfl) ?_
  refine lv_iload_n hx hb dw_180 rfl (lv_at hl 0 rfl) ?_
  refine lv_iconst (v := 2) hx hb dw_181 (by decide) ?_
  refine lv_iadd hx hb dw_182 ?_
  refine va_sld hx hb hX hbl (hA0 b hbl) hI.2.2 (viL (t := 2) hL (by omega) (by decide)) dw_183 ?_
  refine lv_aload_n hx hb dw_184 rfl (lv_at hl 3 rfl) ?_
  refine lv_iload_n hx hb dw_185 rfl (lv_at hl 0 rfl) ?_
  refine lv_iconst (v := 3) hx hb dw_186 (by decide) ?_
  refine lv_iadd hx hb dw_187 ?_
  refine va_sld hx hb hX hbl (hA0 b hbl) hI.2.2 (viL (t := 3) hL (by omega) (by decide)) dw_188 ?_
  refine lawCall (sh := shR) (nm := nmR) (cs := csR) (ad := adr) (A1 := aOf shR cA adr csR) (St := fun _ => True) (As := [(xs (nI (4 * k) + 1).toNatClampNeg), (xs (nI (4 * k) + 2).toNatClampNeg), (xs (nI (4 * k) + 3).toNatClampNeg)]) (n := 3) (rest := [.int v]) StR_stable S hK trivial (mTb_at 668 ⟨by decide +kernel, rfl⟩) mi_R_bind ms_R_bind mn_R mc_R_bind (c_R_bind l D cA adr _) ⟨rfl, rfl⟩ ⟨by decide, by decide, by decide +kernel⟩ ⟨by decide, by decide⟩ (mRecvC hK shR_ok (a := 0) rfl rfl fun As g r h => (hd_R_bind h).1) hI.2.1 hAp.R hI.2.2.1 (fun q hq => hI.2.2.2.1 q hq (hA0 q hq)) (g' := r1) (v := v) (mFI_of e2) rfl (by decide) hl.1 (Nat.le_of_ble_eq_true rfl) dw_189 hf (fun H1 locs1 h1 h2 h3 h4 => ?_)
  have hI := hI.rf hAp h1 h2 h3 h4
  refine lv_icmp_eq (tgt := 375) hx hb dw_192 (by decide) (fun _ => ?_) (fun h => absurd rfl h)
  exact kk _ _ g1 r1 hI hV1
theorem lw_unbind (hL : L ≤ 2048) (S : CallFix p m c code 4 s args (c0 :: mTb) R_law) (hK : va_K D clA (mTys cA) s) (hSt : StC ad (aOf shC cA ad csC) s) (hAp : Ap ad adr A) (hX : va_X b L xs s s.heap) (hbl : b < s.heap.size) (hA0 : ∀ q : Nat, q < s.heap.size → ¬ A q) (hk : 4 * k + 4 ≤ L) (hl : lv_has ls 4 [(3, .int (nI (4 * k))), (2, .ref (adr 0 0)), (1, .ref (ad 0 0)), (0, .ref b)]) (hI : LI D cA ad adr A s.heap g r H locs) (hV : Inv g r) (hf : cells ≤ room_1.cells ∧ slots ≤ room_1.slots)
    (kk : ∀ (H1 : Heap) (locs1 : List Loc) (g1 r1 : mG), LI D cA ad adr A s.heap g1 r1 H1 locs1 → Inv g1 r1 → W p l e room_1 s m args below meth c H1 locs1 cells slots Q (F0 m 375 ls [])) : W p l e room_1 s m args below meth c H locs cells slots Q (F0 m 197 ls []) := by
  have hx := S.1
  have hb := S.2.1
  obtain ⟨v, g1, r1, e1, e2, hV1⟩ := face_unbind (xs (nI (4 * k) + 1).toNatClampNeg) (xs (nI (4 * k) + 2).toNatClampNeg) hV
  refine lv_aload_n hx hb dw_197 rfl (lv_at hl 2 rfl) ?_
  refine lv_aload_n hx hb dw_198 rfl (lv_at hl 3 rfl) ?_
  refine lv_iload_n hx hb dw_199 rfl (lv_at hl 0 rfl) ?_
  refine lv_iconst (v := 1) hx hb dw_200 (by decide) ?_
  refine lv_iadd hx hb dw_201 ?_
  refine va_sld hx hb hX hbl (hA0 b hbl) hI.2.2 (viL (t := 1) hL (by omega) (by decide)) dw_202 ?_
  refine lv_aload_n hx hb dw_203 rfl (lv_at hl 3 rfl) ?_
  refine lv_iload_n hx hb dw_204 rfl (lv_at hl 0 rfl) ?_
  refine lv_iconst (v := 2) hx hb dw_205 (by decide) ?_
  refine lv_iadd hx hb dw_206 ?_
  refine va_sld hx hb hX hbl (hA0 b hbl) hI.2.2 (viL (t := 2) hL (by omega) (by decide)) dw_207 ?_
  refine lawCall (sh := shC) (nm := nmC) (cs := csC) (ad := ad) (A1 := aOf shC cA ad csC) (St := StC ad (aOf shC cA ad csC)) (As := [(xs (nI (4 * k) + 1).toNatClampNeg), (xs (nI (4 * k) + 2).toNatClampNeg)]) (n := 2) (rest := []) StC_stable S hK hSt (mTb_at 355 ⟨by decide +kernel, rfl⟩) mi_B_unbind ms_B_unbind mn_B mc_B_unbind (c_B_unbind l D cA ad _) ⟨rfl, rfl⟩ ⟨by decide, by decide, by decide +kernel⟩ ⟨by decide, by decide⟩ (mRecvC hK shC_ok (a := 0) rfl rfl fun As g r h => (hd_B_unbind h).1) hI.1 hAp.C hI.2.2.1 (fun q hq => hI.2.2.2.1 q hq (hA0 q hq)) (g' := g1) (v := v) (mFI_of e1) rfl (by decide) hl.1 (Nat.le_of_ble_eq_true rfl) dw_208 hf (fun H1 locs1 h1 h2 h3 h4 => ?_)
  have hI := hI.C hAp h1 h2 h3 h4
  refine lv_aload_n hx hb dw_211 rfl (lv_at hl 1 rfl) ?_
  refine lv_aload_n hx hb dw_212 rfl (lv_at hl 3 rfl) ?_
  refine lv_iload_n hx hb dw_213 rfl (lv_at hl 0 rfl) ?_
  refine lv_iconst (v := 1) hx hb dw_214 (by decide) ?_
  refine lv_iadd hx hb dw_215 ?_
  refine va_sld hx hb hX hbl (hA0 b hbl) hI.2.2 (viL (t := 1) hL (by omega) (by decide)) dw_216 ?_
  refine lv_aload_n hx hb dw_217 rfl (lv_at hl 3 rfl) ?_
  refine lv_iload_n hx hb dw_218 rfl (lv_at hl 0 rfl) ?_
  refine lv_iconst (v := 2) hx hb dw_219 (by decide) ?_
  refine lv_iadd hx hb dw_220 ?_
  refine va_sld hx hb hX hbl (hA0 b hbl) hI.2.2 (viL (t := 2) hL (by omega) (by decide)) dw_221 ?_
  refine lawCall (sh := shR) (nm := nmR) (cs := csR) (ad := adr) (A1 := aOf shR cA adr csR) (St := fun _ => True) (As := [(xs (nI (4 * k) + 1).toNatClampNeg), (xs (nI (4 * k) + 2).toNatClampNeg)]) (n := 2) (rest := [.int v]) StR_stable S hK trivial (mTb_at 672 ⟨by decide +kernel, rfl⟩) mi_R_unbind ms_R_unbind mn_R mc_R_unbind (c_R_unbind l D cA adr _) ⟨rfl, rfl⟩ ⟨by decide, by decide, by decide +kernel⟩ ⟨by decide, by decide⟩ (mRecvC hK shR_ok (a := 0) rfl rfl fun As g r h => (hd_R_unbind h).1) hI.2.1 hAp.R hI.2.2.1 (fun q hq => hI.2.2.2.1 q hq (hA0 q hq)) (g' := r1) (v := v) (mFI_of e2) rfl (by decide) hl.1 (Nat.le_of_ble_eq_true rfl) dw_222 hf (fun H1 locs1 h1 h2 h3 h4 => ?_)
  have hI := hI.rf hAp h1 h2 h3 h4
  refine lv_icmp_eq (tgt := 375) hx hb dw_225 (by decide) (fun _ => ?_) (fun h => absurd rfl h)
  exact kk _ _ g1 r1 hI hV1
theorem lw_call (hL : L ≤ 2048) (S : CallFix p m c code 4 s args (c0 :: mTb) R_law) (hK : va_K D clA (mTys cA) s) (hSt : StC ad (aOf shC cA ad csC) s) (hAp : Ap ad adr A) (hX : va_X b L xs s s.heap) (hbl : b < s.heap.size) (hA0 : ∀ q : Nat, q < s.heap.size → ¬ A q) (hk : 4 * k + 4 ≤ L) (hl : lv_has ls 4 [(3, .int (nI (4 * k))), (2, .ref (adr 0 0)), (1, .ref (ad 0 0)), (0, .ref b)]) (hI : LI D cA ad adr A s.heap g r H locs) (hV : Inv g r) (hf : cells ≤ room_1.cells ∧ slots ≤ room_1.slots)
    (kk : ∀ (H1 : Heap) (locs1 : List Loc) (g1 r1 : mG), LI D cA ad adr A s.heap g1 r1 H1 locs1 → Inv g1 r1 → W p l e room_1 s m args below meth c H1 locs1 cells slots Q (F0 m 375 ls [])) : W p l e room_1 s m args below meth c H locs cells slots Q (F0 m 230 ls []) := by
  have hx := S.1
  have hb := S.2.1
  obtain ⟨v, g1, r1, e1, e2, hV1⟩ := face_call (xs (nI (4 * k) + 1).toNatClampNeg) (xs (nI (4 * k) + 2).toNatClampNeg) (xs (nI (4 * k) + 3).toNatClampNeg) hV
  refine lv_aload_n hx hb dw_230 rfl (lv_at hl 2 rfl) ?_
  refine lv_aload_n hx hb dw_231 rfl (lv_at hl 3 rfl) ?_
  refine lv_iload_n hx hb dw_232 rfl (lv_at hl 0 rfl) ?_
  refine lv_iconst (v := 1) hx hb dw_233 (by decide) ?_
  refine lv_iadd hx hb dw_234 ?_
  refine va_sld hx hb hX hbl (hA0 b hbl) hI.2.2 (viL (t := 1) hL (by omega) (by decide)) dw_235 ?_
  refine lv_aload_n hx hb dw_236 rfl (lv_at hl 3 rfl) ?_
  refine lv_iload_n hx hb dw_237 rfl (lv_at hl 0 rfl) ?_
  refine lv_iconst (v := 2) hx hb dw_238 (by decide) ?_
  refine lv_iadd hx hb dw_239 ?_
  refine va_sld hx hb hX hbl (hA0 b hbl) hI.2.2 (viL (t := 2) hL (by omega) (by decide)) dw_240 ?_
  refine lv_aload_n hx hb dw_241 rfl (lv_at hl 3 rfl) ?_
  refine lv_iload_n hx hb dw_242 rfl (lv_at hl 0 rfl) ?_
  refine lv_iconst (v := 3) hx hb dw_243 (by decide) ?_
  refine lv_iadd hx hb dw_244 ?_
  refine va_sld hx hb hX hbl (hA0 b hbl) hI.2.2 (viL (t := 3) hL (by omega) (by decide)) dw_245 ?_
  refine lawCall (sh := shC) (nm := nmC) (cs := csC) (ad := ad) (A1 := aOf shC cA ad csC) (St := StC ad (aOf shC cA ad csC)) (As := [(xs (nI (4 * k) + 1).toNatClampNeg), (xs (nI (4 * k) + 2).toNatClampNeg), (xs (nI (4 * k) + 3).toNatClampNeg)]) (n := 3) (rest := []) StC_stable S hK hSt (mTb_at 363 ⟨by decide +kernel, rfl⟩) mi_B_call ms_B_call mn_B mc_B_call (c_B_call l D cA ad _) ⟨rfl, rfl⟩ ⟨by decide, by decide, by decide +kernel⟩ ⟨by decide, by decide⟩ (mRecvC hK shC_ok (a := 0) rfl rfl fun As g r h => (hd_B_call h).1) hI.1 hAp.C hI.2.2.1 (fun q hq => hI.2.2.2.1 q hq (hA0 q hq)) (g' := g1) (v := v) (mFI_of e1) rfl (by decide) hl.1 (Nat.le_of_ble_eq_true rfl) dw_246 hf (fun H1 locs1 h1 h2 h3 h4 => ?_)
  have hI := hI.C hAp h1 h2 h3 h4
  refine lv_aload_n hx hb dw_249 rfl (lv_at hl 1 rfl) ?_
  refine lv_aload_n hx hb dw_250 rfl (lv_at hl 3 rfl) ?_
  refine lv_iload_n hx hb dw_251 rfl (lv_at hl 0 rfl) ?_
  refine lv_iconst (v := 1) hx hb dw_252 (by decide) ?_
  refine lv_iadd hx hb dw_253 ?_
  refine va_sld hx hb hX hbl (hA0 b hbl) hI.2.2 (viL (t := 1) hL (by omega) (by decide)) dw_254 ?_
  refine lv_aload_n hx hb dw_255 rfl (lv_at hl 3 rfl) ?_
  refine lv_iload_n hx hb dw_256 rfl (lv_at hl 0 rfl) ?_
  refine lv_iconst (v := 2) hx hb dw_257 (by decide) ?_
  refine lv_iadd hx hb dw_258 ?_
  refine va_sld hx hb hX hbl (hA0 b hbl) hI.2.2 (viL (t := 2) hL (by omega) (by decide)) dw_259 ?_
  refine lv_aload_n hx hb dw_260 rfl (lv_at hl 3 rfl) ?_
  refine lv_iload_n hx hb dw_261 rfl (lv_at hl 0 rfl) ?_
  refine lv_iconst (v := 3) hx hb dw_262 (by decide) ?_
  refine lv_iadd hx hb dw_263 ?_
  refine va_sld hx hb hX hbl (hA0 b hbl) hI.2.2 (viL (t := 3) hL (by omega) (by decide)) dw_264 ?_
  refine lawCall (sh := shR) (nm := nmR) (cs := csR) (ad := adr) (A1 := aOf shR cA adr csR) (St := fun _ => True) (As := [(xs (nI (4 * k) + 1).toNatClampNeg), (xs (nI (4 * k) + 2).toNatClampNeg), (xs (nI (4 * k) + 3).toNatClampNeg)]) (n := 3) (rest := [.int v]) StR_stable S hK trivial (mTb_at 676 ⟨by decide +kernel, rfl⟩) mi_R_call ms_R_call mn_R mc_R_call (c_R_call l D cA adr _) ⟨rfl, rfl⟩ ⟨by decide, by decide, by decide +kernel⟩ ⟨by decide, by decide⟩ (mRecvC hK shR_ok (a := 0) rfl rfl fun As g r h => (hd_R_call h).1) hI.2.1 hAp.R hI.2.2.1 (fun q hq => hI.2.2.2.1 q hq (hA0 q hq)) (g' := r1) (v := v) (mFI_of e2) rfl (by decide) hl.1 (Nat.le_of_ble_eq_true rfl) dw_265 hf (fun H1 locs1 h1 h2 h3 h4 => ?_)
  have hI := hI.rf hAp h1 h2 h3 h4
  refine lv_icmp_eq (tgt := 375) hx hb dw_268 (by decide) (fun _ => ?_) (fun h => absurd rfl h)
  exact kk _ _ g1 r1 hI hV1
theorem lw_value (hL : L ≤ 2048) (S : CallFix p m c code 4 s args (c0 :: mTb) R_law) (hK : va_K D clA (mTys cA) s) (hSt : StC ad (aOf shC cA ad csC) s) (hAp : Ap ad adr A) (hX : va_X b L xs s s.heap) (hbl : b < s.heap.size) (hA0 : ∀ q : Nat, q < s.heap.size → ¬ A q) (hk : 4 * k + 4 ≤ L) (hl : lv_has ls 4 [(3, .int (nI (4 * k))), (2, .ref (adr 0 0)), (1, .ref (ad 0 0)), (0, .ref b)]) (hI : LI D cA ad adr A s.heap g r H locs) (hV : Inv g r) (hf : cells ≤ room_1.cells ∧ slots ≤ room_1.slots)
    (kk : ∀ (H1 : Heap) (locs1 : List Loc) (g1 r1 : mG), LI D cA ad adr A s.heap g1 r1 H1 locs1 → Inv g1 r1 → W p l e room_1 s m args below meth c H1 locs1 cells slots Q (F0 m 375 ls [])) : W p l e room_1 s m args below meth c H locs cells slots Q (F0 m 273 ls []) := by
  have hx := S.1
  have hb := S.2.1
  obtain ⟨v, g1, r1, e1, e2, hV1⟩ := face_value hV
  refine lv_aload_n hx hb dw_273 rfl (lv_at hl 2 rfl) ?_
  refine lawCall (sh := shC) (nm := nmC) (cs := csC) (ad := ad) (A1 := aOf shC cA ad csC) (St := StC ad (aOf shC cA ad csC)) (As := []) (n := 0) (rest := []) StC_stable S hK hSt (mTb_at 506 ⟨by decide +kernel, rfl⟩) mi_B_value ms_B_value mn_B mc_B_value (c_B_value l D cA ad _) ⟨rfl, rfl⟩ ⟨by decide, by decide, by decide +kernel⟩ ⟨by decide, by decide⟩ (mRecvC hK shC_ok (a := 0) rfl rfl fun As g r h => (hd_B_value h).1) hI.1 hAp.C hI.2.2.1 (fun q hq => hI.2.2.2.1 q hq (hA0 q hq)) (g' := g1) (v := v) (mFI_of e1) rfl (by decide) hl.1 (Nat.le_of_ble_eq_true rfl) dw_274 hf (fun H1 locs1 h1 h2 h3 h4 => ?_)
  have hI := hI.C hAp h1 h2 h3 h4
  refine lv_aload_n hx hb dw_277 rfl (lv_at hl 1 rfl) ?_
  refine lawCall (sh := shR) (nm := nmR) (cs := csR) (ad := adr) (A1 := aOf shR cA adr csR) (St := fun _ => True) (As := []) (n := 0) (rest := [.int v]) StR_stable S hK trivial (mTb_at 732 ⟨by decide +kernel, rfl⟩) mi_R_value ms_R_value mn_R mc_R_value (c_R_value l D cA adr _) ⟨rfl, rfl⟩ ⟨by decide, by decide, by decide +kernel⟩ ⟨by decide, by decide⟩ (mRecvC hK shR_ok (a := 0) rfl rfl fun As g r h => (hd_R_value h).1) hI.2.1 hAp.R hI.2.2.1 (fun q hq => hI.2.2.2.1 q hq (hA0 q hq)) (g' := r1) (v := v) (mFI_of e2) rfl (by decide) hl.1 (Nat.le_of_ble_eq_true rfl) dw_278 hf (fun H1 locs1 h1 h2 h3 h4 => ?_)
  have hI := hI.rf hAp h1 h2 h3 h4
  refine lv_icmp_eq (tgt := 375) hx hb dw_281 (by decide) (fun _ => ?_) (fun h => absurd rfl h)
  exact kk _ _ g1 r1 hI hV1
theorem lw_count (hL : L ≤ 2048) (S : CallFix p m c code 4 s args (c0 :: mTb) R_law) (hK : va_K D clA (mTys cA) s) (hSt : StC ad (aOf shC cA ad csC) s) (hAp : Ap ad adr A) (hX : va_X b L xs s s.heap) (hbl : b < s.heap.size) (hA0 : ∀ q : Nat, q < s.heap.size → ¬ A q) (hk : 4 * k + 4 ≤ L) (hl : lv_has ls 4 [(3, .int (nI (4 * k))), (2, .ref (adr 0 0)), (1, .ref (ad 0 0)), (0, .ref b)]) (hI : LI D cA ad adr A s.heap g r H locs) (hV : Inv g r) (hf : cells ≤ room_1.cells ∧ slots ≤ room_1.slots)
    (kk : ∀ (H1 : Heap) (locs1 : List Loc) (g1 r1 : mG), LI D cA ad adr A s.heap g1 r1 H1 locs1 → Inv g1 r1 → W p l e room_1 s m args below meth c H1 locs1 cells slots Q (F0 m 375 ls [])) : W p l e room_1 s m args below meth c H locs cells slots Q (F0 m 286 ls []) := by
  have hx := S.1
  have hb := S.2.1
  obtain ⟨v, g1, r1, e1, e2, hV1⟩ := face_count (xs (nI (4 * k) + 1).toNatClampNeg) hV
  refine lv_aload_n hx hb dw_286 rfl (lv_at hl 2 rfl) ?_
  refine lv_aload_n hx hb dw_287 rfl (lv_at hl 3 rfl) ?_
  refine lv_iload_n hx hb dw_288 rfl (lv_at hl 0 rfl) ?_
  refine lv_iconst (v := 1) hx hb dw_289 (by decide) ?_
  refine lv_iadd hx hb dw_290 ?_
  refine va_sld hx hb hX hbl (hA0 b hbl) hI.2.2 (viL (t := 1) hL (by omega) (by decide)) dw_291 ?_
  refine lawCall (sh := shC) (nm := nmC) (cs := csC) (ad := ad) (A1 := aOf shC cA ad csC) (St := StC ad (aOf shC cA ad csC)) (As := [(xs (nI (4 * k) + 1).toNatClampNeg)]) (n := 1) (rest := []) StC_stable S hK hSt (mTb_at 510 ⟨by decide +kernel, rfl⟩) mi_B_count ms_B_count mn_B mc_B_count (c_B_count l D cA ad _) ⟨rfl, rfl⟩ ⟨by decide, by decide, by decide +kernel⟩ ⟨by decide, by decide⟩ (mRecvC hK shC_ok (a := 0) rfl rfl fun As g r h => (hd_B_count h).1) hI.1 hAp.C hI.2.2.1 (fun q hq => hI.2.2.2.1 q hq (hA0 q hq)) (g' := g1) (v := v) (mFI_of e1) rfl (by decide) hl.1 (Nat.le_of_ble_eq_true rfl) dw_292 hf (fun H1 locs1 h1 h2 h3 h4 => ?_)
  have hI := hI.C hAp h1 h2 h3 h4
  refine lv_aload_n hx hb dw_295 rfl (lv_at hl 1 rfl) ?_
  refine lv_aload_n hx hb dw_296 rfl (lv_at hl 3 rfl) ?_
  refine lv_iload_n hx hb dw_297 rfl (lv_at hl 0 rfl) ?_
  refine lv_iconst (v := 1) hx hb dw_298 (by decide) ?_
  refine lv_iadd hx hb dw_299 ?_
  refine va_sld hx hb hX hbl (hA0 b hbl) hI.2.2 (viL (t := 1) hL (by omega) (by decide)) dw_300 ?_
  refine lawCall (sh := shR) (nm := nmR) (cs := csR) (ad := adr) (A1 := aOf shR cA adr csR) (St := fun _ => True) (As := [(xs (nI (4 * k) + 1).toNatClampNeg)]) (n := 1) (rest := [.int v]) StR_stable S hK trivial (mTb_at 736 ⟨by decide +kernel, rfl⟩) mi_R_count ms_R_count mn_R mc_R_count (c_R_count l D cA adr _) ⟨rfl, rfl⟩ ⟨by decide, by decide, by decide +kernel⟩ ⟨by decide, by decide⟩ (mRecvC hK shR_ok (a := 0) rfl rfl fun As g r h => (hd_R_count h).1) hI.2.1 hAp.R hI.2.2.1 (fun q hq => hI.2.2.2.1 q hq (hA0 q hq)) (g' := r1) (v := v) (mFI_of e2) rfl (by decide) hl.1 (Nat.le_of_ble_eq_true rfl) dw_301 hf (fun H1 locs1 h1 h2 h3 h4 => ?_)
  have hI := hI.rf hAp h1 h2 h3 h4
  refine lv_icmp_eq (tgt := 375) hx hb dw_304 (by decide) (fun _ => ?_) (fun h => absurd rfl h)
  exact kk _ _ g1 r1 hI hV1
theorem lw_rows (hL : L ≤ 2048) (S : CallFix p m c code 4 s args (c0 :: mTb) R_law) (hK : va_K D clA (mTys cA) s) (hSt : StC ad (aOf shC cA ad csC) s) (hAp : Ap ad adr A) (hX : va_X b L xs s s.heap) (hbl : b < s.heap.size) (hA0 : ∀ q : Nat, q < s.heap.size → ¬ A q) (hk : 4 * k + 4 ≤ L) (hl : lv_has ls 4 [(3, .int (nI (4 * k))), (2, .ref (adr 0 0)), (1, .ref (ad 0 0)), (0, .ref b)]) (hI : LI D cA ad adr A s.heap g r H locs) (hV : Inv g r) (hf : cells ≤ room_1.cells ∧ slots ≤ room_1.slots)
    (kk : ∀ (H1 : Heap) (locs1 : List Loc) (g1 r1 : mG), LI D cA ad adr A s.heap g1 r1 H1 locs1 → Inv g1 r1 → W p l e room_1 s m args below meth c H1 locs1 cells slots Q (F0 m 375 ls [])) : W p l e room_1 s m args below meth c H locs cells slots Q (F0 m 309 ls []) := by
  have hx := S.1
  have hb := S.2.1
  obtain ⟨v, g1, r1, e1, e2, hV1⟩ := face_rows (xs (nI (4 * k) + 1).toNatClampNeg) hV
  refine lv_aload_n hx hb dw_309 rfl (lv_at hl 2 rfl) ?_
  refine lv_aload_n hx hb dw_310 rfl (lv_at hl 3 rfl) ?_
  refine lv_iload_n hx hb dw_311 rfl (lv_at hl 0 rfl) ?_
  refine lv_iconst (v := 1) hx hb dw_312 (by decide) ?_
  refine lv_iadd hx hb dw_313 ?_
  refine va_sld hx hb hX hbl (hA0 b hbl) hI.2.2 (viL (t := 1) hL (by omega) (by decide)) dw_314 ?_
  refine lawCall (sh := shC) (nm := nmC) (cs := csC) (ad := ad) (A1 := aOf shC cA ad csC) (St := StC ad (aOf shC cA ad csC)) (As := [(xs (nI (4 * k) + 1).toNatClampNeg)]) (n := 1) (rest := []) StC_stable S hK hSt (mTb_at 514 ⟨by decide +kernel, rfl⟩) mi_B_rows ms_B_rows mn_B mc_B_rows (c_B_rows l D cA ad _) ⟨rfl, rfl⟩ ⟨by decide, by decide, by decide +kernel⟩ ⟨by decide, by decide⟩ (mRecvC hK shC_ok (a := 0) rfl rfl fun As g r h => (hd_B_rows h).1) hI.1 hAp.C hI.2.2.1 (fun q hq => hI.2.2.2.1 q hq (hA0 q hq)) (g' := g1) (v := v) (mFI_of e1) rfl (by decide) hl.1 (Nat.le_of_ble_eq_true rfl) dw_315 hf (fun H1 locs1 h1 h2 h3 h4 => ?_)
  have hI := hI.C hAp h1 h2 h3 h4
  refine lv_aload_n hx hb dw_318 rfl (lv_at hl 1 rfl) ?_
  refine lv_aload_n hx hb dw_319 rfl (lv_at hl 3 rfl) ?_
  refine lv_iload_n hx hb dw_320 rfl (lv_at hl 0 rfl) ?_
  refine lv_iconst (v := 1) hx hb dw_321 (by decide) ?_
  refine lv_iadd hx hb dw_322 ?_
  refine va_sld hx hb hX hbl (hA0 b hbl) hI.2.2 (viL (t := 1) hL (by omega) (by decide)) dw_323 ?_
  refine lawCall (sh := shR) (nm := nmR) (cs := csR) (ad := adr) (A1 := aOf shR cA adr csR) (St := fun _ => True) (As := [(xs (nI (4 * k) + 1).toNatClampNeg)]) (n := 1) (rest := [.int v]) StR_stable S hK trivial (mTb_at 740 ⟨by decide +kernel, rfl⟩) mi_R_rows ms_R_rows mn_R mc_R_rows (c_R_rows l D cA adr _) ⟨rfl, rfl⟩ ⟨by decide, by decide, by decide +kernel⟩ ⟨by decide, by decide⟩ (mRecvC hK shR_ok (a := 0) rfl rfl fun As g r h => (hd_R_rows h).1) hI.2.1 hAp.R hI.2.2.1 (fun q hq => hI.2.2.2.1 q hq (hA0 q hq)) (g' := r1) (v := v) (mFI_of e2) rfl (by decide) hl.1 (Nat.le_of_ble_eq_true rfl) dw_324 hf (fun H1 locs1 h1 h2 h3 h4 => ?_)
  have hI := hI.rf hAp h1 h2 h3 h4
  refine lv_icmp_eq (tgt := 375) hx hb dw_327 (by decide) (fun _ => ?_) (fun h => absurd rfl h)
  exact kk _ _ g1 r1 hI hV1
theorem lw_cell (hL : L ≤ 2048) (S : CallFix p m c code 4 s args (c0 :: mTb) R_law) (hK : va_K D clA (mTys cA) s) (hSt : StC ad (aOf shC cA ad csC) s) (hAp : Ap ad adr A) (hX : va_X b L xs s s.heap) (hbl : b < s.heap.size) (hA0 : ∀ q : Nat, q < s.heap.size → ¬ A q) (hk : 4 * k + 4 ≤ L) (hl : lv_has ls 4 [(3, .int (nI (4 * k))), (2, .ref (adr 0 0)), (1, .ref (ad 0 0)), (0, .ref b)]) (hI : LI D cA ad adr A s.heap g r H locs) (hV : Inv g r) (hf : cells ≤ room_1.cells ∧ slots ≤ room_1.slots)
    (kk : ∀ (H1 : Heap) (locs1 : List Loc) (g1 r1 : mG), LI D cA ad adr A s.heap g1 r1 H1 locs1 → Inv g1 r1 → W p l e room_1 s m args below meth c H1 locs1 cells slots Q (F0 m 375 ls [])) : W p l e room_1 s m args below meth c H locs cells slots Q (F0 m 332 ls []) := by
  have hx := S.1
  have hb := S.2.1
  obtain ⟨v, g1, r1, e1, e2, hV1⟩ := face_cell (xs (nI (4 * k) + 1).toNatClampNeg) (xs (nI (4 * k) + 2).toNatClampNeg) (xs (nI (4 * k) + 3).toNatClampNeg) hV
  refine lv_aload_n hx hb dw_332 rfl (lv_at hl 2 rfl) ?_
  refine lv_aload_n hx hb dw_333 rfl (lv_at hl 3 rfl) ?_
  refine lv_iload_n hx hb dw_334 rfl (lv_at hl 0 rfl) ?_
  refine lv_iconst (v := 1) hx hb dw_335 (by decide) ?_
  refine lv_iadd hx hb dw_336 ?_
  refine va_sld hx hb hX hbl (hA0 b hbl) hI.2.2 (viL (t := 1) hL (by omega) (by decide)) dw_337 ?_
  refine lv_aload_n hx hb dw_338 rfl (lv_at hl 3 rfl) ?_
  refine lv_iload_n hx hb dw_339 rfl (lv_at hl 0 rfl) ?_
  refine lv_iconst (v := 2) hx hb dw_340 (by decide) ?_
  refine lv_iadd hx hb dw_341 ?_
  refine va_sld hx hb hX hbl (hA0 b hbl) hI.2.2 (viL (t := 2) hL (by omega) (by decide)) dw_342 ?_
  refine lv_aload_n hx hb dw_343 rfl (lv_at hl 3 rfl) ?_
  refine lv_iload_n hx hb dw_344 rfl (lv_at hl 0 rfl) ?_
  refine lv_iconst (v := 3) hx hb dw_345 (by decide) ?_
  refine lv_iadd hx hb dw_346 ?_
  refine va_sld hx hb hX hbl (hA0 b hbl) hI.2.2 (viL (t := 3) hL (by omega) (by decide)) dw_347 ?_
  refine lawCall (sh := shC) (nm := nmC) (cs := csC) (ad := ad) (A1 := aOf shC cA ad csC) (St := StC ad (aOf shC cA ad csC)) (As := [(xs (nI (4 * k) + 1).toNatClampNeg), (xs (nI (4 * k) + 2).toNatClampNeg), (xs (nI (4 * k) + 3).toNatClampNeg)]) (n := 3) (rest := []) StC_stable S hK hSt (mTb_at 519 ⟨by decide +kernel, rfl⟩) mi_B_cell ms_B_cell mn_B mc_B_cell (c_B_cell l D cA ad _) ⟨rfl, rfl⟩ ⟨by decide, by decide, by decide +kernel⟩ ⟨by decide, by decide⟩ (mRecvC hK shC_ok (a := 0) rfl rfl fun As g r h => (hd_B_cell h).1) hI.1 hAp.C hI.2.2.1 (fun q hq => hI.2.2.2.1 q hq (hA0 q hq)) (g' := g1) (v := v) (mFI_of e1) rfl (by decide) hl.1 (Nat.le_of_ble_eq_true rfl) dw_348 hf (fun H1 locs1 h1 h2 h3 h4 => ?_)
  have hI := hI.C hAp h1 h2 h3 h4
  refine lv_aload_n hx hb dw_351 rfl (lv_at hl 1 rfl) ?_
  refine lv_aload_n hx hb dw_352 rfl (lv_at hl 3 rfl) ?_
  refine lv_iload_n hx hb dw_353 rfl (lv_at hl 0 rfl) ?_
  refine lv_iconst (v := 1) hx hb dw_354 (by decide) ?_
  refine lv_iadd hx hb dw_355 ?_
  refine va_sld hx hb hX hbl (hA0 b hbl) hI.2.2 (viL (t := 1) hL (by omega) (by decide)) dw_356 ?_
  refine lv_aload_n hx hb dw_357 rfl (lv_at hl 3 rfl) ?_
  refine lv_iload_n hx hb dw_358 rfl (lv_at hl 0 rfl) ?_
  refine lv_iconst (v := 2) hx hb dw_359 (by decide) ?_
  refine lv_iadd hx hb dw_360 ?_
  refine va_sld hx hb hX hbl (hA0 b hbl) hI.2.2 (viL (t := 2) hL (by omega) (by decide)) dw_361 ?_
  refine lv_aload_n hx hb dw_362 rfl (lv_at hl 3 rfl) ?_
  refine lv_iload_n hx hb dw_363 rfl (lv_at hl 0 rfl) ?_
  refine lv_iconst (v := 3) hx hb dw_364 (by decide) ?_
  refine lv_iadd hx hb dw_365 ?_
  refine va_sld hx hb hX hbl (hA0 b hbl) hI.2.2 (viL (t := 3) hL (by omega) (by decide)) dw_366 ?_
  refine lawCall (sh := shR) (nm := nmR) (cs := csR) (ad := adr) (A1 := aOf shR cA adr csR) (St := fun _ => True) (As := [(xs (nI (4 * k) + 1).toNatClampNeg), (xs (nI (4 * k) + 2).toNatClampNeg), (xs (nI (4 * k) + 3).toNatClampNeg)]) (n := 3) (rest := [.int v]) StR_stable S hK trivial (mTb_at 744 ⟨by decide +kernel, rfl⟩) mi_R_cell ms_R_cell mn_R mc_R_cell (c_R_cell l D cA adr _) ⟨rfl, rfl⟩ ⟨by decide, by decide, by decide +kernel⟩ ⟨by decide, by decide⟩ (mRecvC hK shR_ok (a := 0) rfl rfl fun As g r h => (hd_R_cell h).1) hI.2.1 hAp.R hI.2.2.1 (fun q hq => hI.2.2.2.1 q hq (hA0 q hq)) (g' := r1) (v := v) (mFI_of e2) rfl (by decide) hl.1 (Nat.le_of_ble_eq_true rfl) dw_367 hf (fun H1 locs1 h1 h2 h3 h4 => ?_)
  have hI := hI.rf hAp h1 h2 h3 h4
  refine lv_icmp_eq (tgt := 375) hx hb dw_370 (by decide) (fun _ => ?_) (fun h => absurd rfl h)
  exact kk _ _ g1 r1 hI hV1
end LAWS
