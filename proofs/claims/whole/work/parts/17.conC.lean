theorem hd_F_becomeTrigger {As : List mV} {g : mG} {r : mRes} (h : mFres (.inl f_F_becomeTrigger) As g = some r) : mHd (some 10) As = true ∧ As.length = 4 ∧ ∃ k, rn_F_becomeTrigger k 0 (mL0 As 4) [] g = some r := by
  obtain ⟨h1, h2, h3⟩ := mFun_inv (mFV_inv (t := t_F_becomeTrigger) h)
  exact ⟨h1, h2, mEv_inv h3⟩
abbrev rm_F_becomeTrigger : Room := { frames := 1, cells := 0, slots := 0, locals := 26 }
set_option maxRecDepth 100000 in
set_option maxHeartbeats 4000000 in
theorem c_F_becomeTrigger (l : Launch) (D : va_G) (cA : Nat → ClassId) (ad : Nat → Nat → Nat) (A : Nat → Prop) : mCt l D clA (mTys cA) shC nmC csC cA ad A (StC ad A) yn_F_becomeTrigger (mWs yn_F_becomeTrigger kc_F_becomeTrigger 4 none) rm_F_becomeTrigger (.inl f_F_becomeTrigger) := by
  refine mMetOf (T := tb_F_becomeTrigger) (gl := gl_F) (pl := pl_F) (gs := gs_F) (fe := fe_F) (sm := smC) (ct := ct_F_becomeTrigger) (sp := sp_F_becomeTrigger) (rk := 0) (by decide) rfl StC_stable (fun As g r _ h => ⟨by rw [(hd_F_becomeTrigger h).2.1]; decide, (hd_F_becomeTrigger h).2.2⟩) ?_
  intro p e s m args below meth c Qc res hx hb hml hown hlk hrt hts hK hS hend
  have ht : ∀ w ∈ mTb, w.before args s = true := fun w hw => hts w (List.mem_cons_of_mem _ hw)
  have hct : ∀ idx q, mlk ct_F_becomeTrigger idx = some q → mCallOk p l e rm_F_becomeTrigger s m args below meth c Qc kc_F_becomeTrigger 4 D clA shC nmC csC cA ad A idx q.1 q.2.1 q.2.2 := by
    unfold ct_F_becomeTrigger
    exact mlk_none
  have hsp : ∀ idx n, mlk sp_F_becomeTrigger idx = some n → mSpOk rm_F_becomeTrigger s args "TriggerBase$Frame" idx n := by
    unfold sp_F_becomeTrigger
    exact mlk_cons (P := fun (idx n : Nat) => mSpOk rm_F_becomeTrigger s args "TriggerBase$Frame" idx n) (⟨(ht _ (mTb_at 458 ⟨by decide +kernel, rfl⟩)), (ht _ (mTb_at 383 ⟨by decide +kernel, rfl⟩)), (ht _ (mTb_at 382 ⟨by decide +kernel, rfl⟩)), (ht _ (mTb_at 49 ⟨by decide +kernel, rfl⟩)), by decide, by decide⟩) (mlk_none)
  exact ⟨⟨hx, hb, hml, hown, hlk⟩, mTok.to tb_F_becomeTrigger_ok, ⟨hK, rfl, rfl, _, rfl⟩, shC_ok, mGlB.to uw_ok gl_F_ok ht, mPlB.to uw_ok pl_F_ok.1 pl_F_ok.2 ht, mlk_none, mlk_none, smr hx hb hS, alr hx hb hS, lnr hx hb hS, fun i j hi hj => hS.1.2 i j hi hj, hct, hsp, ⟨fun _ => hrt, (fun h => nomatch h), (fun h => nomatch h), (fun h => nomatch h)⟩, hend⟩
theorem hd_M_fire {As : List mV} {g : mG} {r : mRes} (h : mFres (.inr (.inl f_M_fire)) As g = some r) : mHd (some 1) As = true ∧ As.length = 5 ∧ ∃ k, rn_M_fire k 0 (mL0 As 7) [] g = some r := by
  obtain ⟨h1, h2, h3⟩ := mFun_inv (mFI_inv (t := t_M_fire) h)
  exact ⟨h1, h2, mEv_inv h3⟩
abbrev rm_M_fire : Room := { frames := 3, cells := 0, slots := 0, locals := 67 }
set_option maxRecDepth 100000 in
set_option maxHeartbeats 4000000 in
theorem c_M_fire (l : Launch) (D : va_G) (cA : Nat → ClassId) (ad : Nat → Nat → Nat) (A : Nat → Prop) : mCt l D clA (mTys cA) shC nmC csC cA ad A (StC ad A) yn_M_fire (mWs yn_M_fire kc_M_fire 7 (some .int)) rm_M_fire (.inr (.inl f_M_fire)) := by
  refine mMetOf (T := tb_M_fire) (gl := gl_M) (pl := pl_M) (gs := gs_M) (fe := fe_M) (sm := smC) (ct := ct_M_fire) (sp := sp_M_fire) (rk := 1) (by decide) rfl StC_stable (fun As g r _ h => ⟨by rw [(hd_M_fire h).2.1]; decide, (hd_M_fire h).2.2⟩) ?_
  intro p e s m args below meth c Qc res hx hb hml hown hlk hrt hts hK hS hend
  have ht : ∀ w ∈ mTb, w.before args s = true := fun w hw => hts w (List.mem_cons_of_mem _ hw)
  have hct : ∀ idx q, mlk ct_M_fire idx = some q → mCallOk p l e rm_M_fire s m args below meth c Qc kc_M_fire 7 D clA shC nmC csC cA ad A idx q.1 q.2.1 q.2.2 := by
    unfold ct_M_fire
    exact mlk_cons (P := fun (idx : Nat) (q : Nat × Nat × mFn) => mCallOk p l e rm_M_fire s m args below meth c Qc kc_M_fire 7 D clA shC nmC csC cA ad A idx q.1 q.2.1 q.2.2) (mCV StC_stable ⟨hx, hb, hml, hown, hts⟩ hK hS (mTb_at 453 ⟨by decide +kernel, rfl⟩) mi_G_find ms_G_find mn_G mc_G_find (c_G_find l D cA ad A) ⟨rfl, rfl⟩ ⟨by decide, by decide, by decide +kernel⟩ ⟨by decide, by decide⟩ (mRecvC hK shC_ok (a := 4) rfl rfl fun As g r h => (hd_G_find h).1)) (mlk_cons (P := fun (idx : Nat) (q : Nat × Nat × mFn) => mCallOk p l e rm_M_fire s m args below meth c Qc kc_M_fire 7 D clA shC nmC csC cA ad A idx q.1 q.2.1 q.2.2) (mCV StC_stable ⟨hx, hb, hml, hown, hts⟩ hK hS (mTb_at 417 ⟨by decide +kernel, rfl⟩) mi_F_push ms_F_push mn_F mc_F_push (c_F_push l D cA ad A) ⟨rfl, rfl⟩ ⟨by decide, by decide, by decide +kernel⟩ ⟨by decide, by decide⟩ (mRecvC hK shC_ok (a := 10) rfl rfl fun As g r h => (hd_F_push h).1)) (mlk_cons (P := fun (idx : Nat) (q : Nat × Nat × mFn) => mCallOk p l e rm_M_fire s m args below meth c Qc kc_M_fire 7 D clA shC nmC csC cA ad A idx q.1 q.2.1 q.2.2) (mCV StC_stable ⟨hx, hb, hml, hown, hts⟩ hK hS (mTb_at 384 ⟨by decide +kernel, rfl⟩) mi_M_open ms_M_open mn_M mc_M_open (c_M_open l D cA ad A) ⟨rfl, rfl⟩ ⟨by decide, by decide, by decide +kernel⟩ ⟨by decide, by decide⟩ (mRecvC hK shC_ok (a := 1) rfl rfl fun As g r h => (hd_M_open h).1)) (mlk_cons (P := fun (idx : Nat) (q : Nat × Nat × mFn) => mCallOk p l e rm_M_fire s m args below meth c Qc kc_M_fire 7 D clA shC nmC csC cA ad A idx q.1 q.2.1 q.2.2) (mCV StC_stable ⟨hx, hb, hml, hown, hts⟩ hK hS (mTb_at 454 ⟨by decide +kernel, rfl⟩) mi_F_becomeTrigger ms_F_becomeTrigger mn_F mc_F_becomeTrigger (c_F_becomeTrigger l D cA ad A) ⟨rfl, rfl⟩ ⟨by decide, by decide, by decide +kernel⟩ ⟨by decide, by decide⟩ (mRecvC hK shC_ok (a := 10) rfl rfl fun As g r h => (hd_F_becomeTrigger h).1)) (mlk_none))))
  have hsp : ∀ idx n, mlk sp_M_fire idx = some n → mSpOk rm_M_fire s args "TriggerBase$Machine" idx n := by
    unfold sp_M_fire
    exact mlk_none
  exact ⟨⟨hx, hb, hml, hown, hlk⟩, mTok.to tb_M_fire_ok, ⟨hK, rfl, rfl, _, rfl⟩, shC_ok, mGlB.to uw_ok gl_M_ok ht, mPlB.to uw_ok pl_M_ok.1 pl_M_ok.2 ht, gsr_M hx hb hown ht hS, fer_M hx hb hown ht hS, smr hx hb hS, alr hx hb hS, lnr hx hb hS, fun i j hi hj => hS.1.2 i j hi hj, hct, hsp, ⟨(fun h => nomatch h), fun _ => hrt, (fun h => nomatch h), (fun h => nomatch h)⟩, hend⟩
theorem hd_M_insert {As : List mV} {g : mG} {r : mRes} (h : mFres (.inr (.inl f_M_insert)) As g = some r) : mHd (some 1) As = true ∧ As.length = 3 ∧ ∃ k, rn_M_insert k 0 (mL0 As 5) [] g = some r := by
  obtain ⟨h1, h2, h3⟩ := mFun_inv (mFI_inv (t := t_M_insert) h)
  exact ⟨h1, h2, mEv_inv h3⟩
abbrev rm_M_insert : Room := { frames := 4, cells := 0, slots := 0, locals := 93 }
set_option maxRecDepth 100000 in
set_option maxHeartbeats 4000000 in
theorem c_M_insert (l : Launch) (D : va_G) (cA : Nat → ClassId) (ad : Nat → Nat → Nat) (A : Nat → Prop) : mCt l D clA (mTys cA) shC nmC csC cA ad A (StC ad A) yn_M_insert (mWs yn_M_insert kc_M_insert 5 (some .int)) rm_M_insert (.inr (.inl f_M_insert)) := by
  refine mMetOf (T := tb_M_insert) (gl := gl_M) (pl := pl_M) (gs := gs_M) (fe := fe_M) (sm := smC) (ct := ct_M_insert) (sp := sp_M_insert) (rk := 1) (by decide) rfl StC_stable (fun As g r _ h => ⟨by rw [(hd_M_insert h).2.1]; decide, (hd_M_insert h).2.2⟩) ?_
  intro p e s m args below meth c Qc res hx hb hml hown hlk hrt hts hK hS hend
  have ht : ∀ w ∈ mTb, w.before args s = true := fun w hw => hts w (List.mem_cons_of_mem _ hw)
  have hct : ∀ idx q, mlk ct_M_insert idx = some q → mCallOk p l e rm_M_insert s m args below meth c Qc kc_M_insert 5 D clA shC nmC csC cA ad A idx q.1 q.2.1 q.2.2 := by
    unfold ct_M_insert
    exact mlk_cons (P := fun (idx : Nat) (q : Nat × Nat × mFn) => mCallOk p l e rm_M_insert s m args below meth c Qc kc_M_insert 5 D clA shC nmC csC cA ad A idx q.1 q.2.1 q.2.2) (mCV StC_stable ⟨hx, hb, hml, hown, hts⟩ hK hS (mTb_at 425 ⟨by decide +kernel, rfl⟩) mi_T_addRow ms_T_addRow mn_T mc_T_addRow (c_T_addRow l D cA ad A) ⟨rfl, rfl⟩ ⟨by decide, by decide, by decide +kernel⟩ ⟨by decide, by decide⟩ (mRecvC hK shC_ok (a := 3) rfl rfl fun As g r h => (hd_T_addRow h).1)) (mlk_cons (P := fun (idx : Nat) (q : Nat × Nat × mFn) => mCallOk p l e rm_M_insert s m args below meth c Qc kc_M_insert 5 D clA shC nmC csC cA ad A idx q.1 q.2.1 q.2.2) (mCV StC_stable ⟨hx, hb, hml, hown, hts⟩ hK hS (mTb_at 411 ⟨by decide +kernel, rfl⟩) mi_F_pop ms_F_pop mn_F mc_F_pop (c_F_pop l D cA ad A) ⟨rfl, rfl⟩ ⟨by decide, by decide, by decide +kernel⟩ ⟨by decide, by decide⟩ (mRecvC hK shC_ok (a := 10) rfl rfl fun As g r h => (hd_F_pop h).1)) (mlk_cons (P := fun (idx : Nat) (q : Nat × Nat × mFn) => mCallOk p l e rm_M_insert s m args below meth c Qc kc_M_insert 5 D clA shC nmC csC cA ad A idx q.1 q.2.1 q.2.2) (mCV StC_stable ⟨hx, hb, hml, hown, hts⟩ hK hS (mTb_at 430 ⟨by decide +kernel, rfl⟩) mi_T_write ms_T_write mn_T mc_T_write (c_T_write l D cA ad A) ⟨rfl, rfl⟩ ⟨by decide, by decide, by decide +kernel⟩ ⟨by decide, by decide⟩ (mRecvC hK shC_ok (a := 3) rfl rfl fun As g r h => (hd_T_write h).1)) (mlk_cons (P := fun (idx : Nat) (q : Nat × Nat × mFn) => mCallOk p l e rm_M_insert s m args below meth c Qc kc_M_insert 5 D clA shC nmC csC cA ad A idx q.1 q.2.1 q.2.2) (mCS StC_stable ⟨hx, hb, hml, hown, hts⟩ hK hS (mTb_at 375 ⟨by decide +kernel, rfl⟩) mst_A_fill mn_A mc_A_fill (c_A_fill l D cA ad A) ⟨rfl, rfl⟩ ⟨by decide, by decide, by decide +kernel⟩ ⟨by decide, by decide⟩) (mlk_cons (P := fun (idx : Nat) (q : Nat × Nat × mFn) => mCallOk p l e rm_M_insert s m args below meth c Qc kc_M_insert 5 D clA shC nmC csC cA ad A idx q.1 q.2.1 q.2.2) (mCV StC_stable ⟨hx, hb, hml, hown, hts⟩ hK hS (mTb_at 441 ⟨by decide +kernel, rfl⟩) mi_T_copyRow ms_T_copyRow mn_T mc_T_copyRow (c_T_copyRow l D cA ad A) ⟨rfl, rfl⟩ ⟨by decide, by decide, by decide +kernel⟩ ⟨by decide, by decide⟩ (mRecvC hK shC_ok (a := 3) rfl rfl fun As g r h => (hd_T_copyRow h).1)) (mlk_cons (P := fun (idx : Nat) (q : Nat × Nat × mFn) => mCallOk p l e rm_M_insert s m args below meth c Qc kc_M_insert 5 D clA shC nmC csC cA ad A idx q.1 q.2.1 q.2.2) (mCV StC_stable ⟨hx, hb, hml, hown, hts⟩ hK hS (mTb_at 449 ⟨by decide +kernel, rfl⟩) mi_M_fire ms_M_fire mn_M mc_M_fire (c_M_fire l D cA ad A) ⟨rfl, rfl⟩ ⟨by decide, by decide, by decide +kernel⟩ ⟨by decide, by decide⟩ (mRecvC hK shC_ok (a := 1) rfl rfl fun As g r h => (hd_M_fire h).1)) (mlk_none))))))
  have hsp : ∀ idx n, mlk sp_M_insert idx = some n → mSpOk rm_M_insert s args "TriggerBase$Machine" idx n := by
    unfold sp_M_insert
    exact mlk_none
  exact ⟨⟨hx, hb, hml, hown, hlk⟩, mTok.to tb_M_insert_ok, ⟨hK, rfl, rfl, _, rfl⟩, shC_ok, mGlB.to uw_ok gl_M_ok ht, mPlB.to uw_ok pl_M_ok.1 pl_M_ok.2 ht, gsr_M hx hb hown ht hS, fer_M hx hb hown ht hS, smr hx hb hS, alr hx hb hS, lnr hx hb hS, fun i j hi hj => hS.1.2 i j hi hj, hct, hsp, ⟨(fun h => nomatch h), fun _ => hrt, (fun h => nomatch h), (fun h => nomatch h)⟩, hend⟩
theorem hd_T_removeRow {As : List mV} {g : mG} {r : mRes} (h : mFres (.inl f_T_removeRow) As g = some r) : mHd (some 3) As = true ∧ As.length = 3 ∧ ∃ k, rn_T_removeRow k 0 (mL0 As 4) [] g = some r := by
  obtain ⟨h1, h2, h3⟩ := mFun_inv (mFV_inv (t := t_T_removeRow) h)
  exact ⟨h1, h2, mEv_inv h3⟩
abbrev rm_T_removeRow : Room := { frames := 2, cells := 0, slots := 0, locals := 43 }
set_option maxRecDepth 100000 in
set_option maxHeartbeats 4000000 in
theorem c_T_removeRow (l : Launch) (D : va_G) (cA : Nat → ClassId) (ad : Nat → Nat → Nat) (A : Nat → Prop) : mCt l D clA (mTys cA) shC nmC csC cA ad A (StC ad A) yn_T_removeRow (mWs yn_T_removeRow kc_T_removeRow 4 none) rm_T_removeRow (.inl f_T_removeRow) := by
  refine mMetOf (T := tb_T_removeRow) (gl := gl_T) (pl := pl_T) (gs := gs_T) (fe := fe_T) (sm := smC) (ct := ct_T_removeRow) (sp := sp_T_removeRow) (rk := 0) (by decide) rfl StC_stable (fun As g r _ h => ⟨by rw [(hd_T_removeRow h).2.1]; decide, (hd_T_removeRow h).2.2⟩) ?_
  intro p e s m args below meth c Qc res hx hb hml hown hlk hrt hts hK hS hend
  have ht : ∀ w ∈ mTb, w.before args s = true := fun w hw => hts w (List.mem_cons_of_mem _ hw)
  have hct : ∀ idx q, mlk ct_T_removeRow idx = some q → mCallOk p l e rm_T_removeRow s m args below meth c Qc kc_T_removeRow 4 D clA shC nmC csC cA ad A idx q.1 q.2.1 q.2.2 := by
    unfold ct_T_removeRow
    exact mlk_cons (P := fun (idx : Nat) (q : Nat × Nat × mFn) => mCallOk p l e rm_T_removeRow s m args below meth c Qc kc_T_removeRow 4 D clA shC nmC csC cA ad A idx q.1 q.2.1 q.2.2) (mCV StC_stable ⟨hx, hb, hml, hown, hts⟩ hK hS (mTb_at 434 ⟨by decide +kernel, rfl⟩) mi_T_has ms_T_has mn_T mc_T_has (c_T_has l D cA ad A) ⟨rfl, rfl⟩ ⟨by decide, by decide, by decide +kernel⟩ ⟨by decide, by decide⟩ (mRecvC hK shC_ok (a := 3) rfl rfl fun As g r h => (hd_T_has h).1)) (mlk_cons (P := fun (idx : Nat) (q : Nat × Nat × mFn) => mCallOk p l e rm_T_removeRow s m args below meth c Qc kc_T_removeRow 4 D clA shC nmC csC cA ad A idx q.1 q.2.1 q.2.2) (mCS StC_stable ⟨hx, hb, hml, hown, hts⟩ hK hS (mTb_at 438 ⟨by decide +kernel, rfl⟩) mst_T_index mn_T mc_T_index (c_T_index l D cA ad A) ⟨rfl, rfl⟩ ⟨by decide, by decide, by decide +kernel⟩ ⟨by decide, by decide⟩) (mlk_none))
  have hsp : ∀ idx n, mlk sp_T_removeRow idx = some n → mSpOk rm_T_removeRow s args "TriggerBase$Tables" idx n := by
    unfold sp_T_removeRow
    exact mlk_cons (P := fun (idx n : Nat) => mSpOk rm_T_removeRow s args "TriggerBase$Tables" idx n) (⟨(ht _ (mTb_at 381 ⟨by decide +kernel, rfl⟩)), (ht _ (mTb_at 383 ⟨by decide +kernel, rfl⟩)), (ht _ (mTb_at 382 ⟨by decide +kernel, rfl⟩)), (ht _ (mTb_at 49 ⟨by decide +kernel, rfl⟩)), by decide, by decide⟩) (mlk_none)
  exact ⟨⟨hx, hb, hml, hown, hlk⟩, mTok.to tb_T_removeRow_ok, ⟨hK, rfl, rfl, _, rfl⟩, shC_ok, mGlB.to uw_ok gl_T_ok ht, mPlB.to uw_ok pl_T_ok.1 pl_T_ok.2 ht, mlk_none, mlk_none, smr hx hb hS, alr hx hb hS, lnr hx hb hS, fun i j hi hj => hS.1.2 i j hi hj, hct, hsp, ⟨fun _ => hrt, (fun h => nomatch h), (fun h => nomatch h), (fun h => nomatch h)⟩, hend⟩
theorem hd_M_delete {As : List mV} {g : mG} {r : mRes} (h : mFres (.inr (.inl f_M_delete)) As g = some r) : mHd (some 1) As = true ∧ As.length = 3 ∧ ∃ k, rn_M_delete k 0 (mL0 As 4) [] g = some r := by
  obtain ⟨h1, h2, h3⟩ := mFun_inv (mFI_inv (t := t_M_delete) h)
  exact ⟨h1, h2, mEv_inv h3⟩
abbrev rm_M_delete : Room := { frames := 4, cells := 0, slots := 0, locals := 93 }
set_option maxRecDepth 100000 in
set_option maxHeartbeats 4000000 in
theorem c_M_delete (l : Launch) (D : va_G) (cA : Nat → ClassId) (ad : Nat → Nat → Nat) (A : Nat → Prop) : mCt l D clA (mTys cA) shC nmC csC cA ad A (StC ad A) yn_M_delete (mWs yn_M_delete kc_M_delete 4 (some .int)) rm_M_delete (.inr (.inl f_M_delete)) := by
  refine mMetOf (T := tb_M_delete) (gl := gl_M) (pl := pl_M) (gs := gs_M) (fe := fe_M) (sm := smC) (ct := ct_M_delete) (sp := sp_M_delete) (rk := 1) (by decide) rfl StC_stable (fun As g r _ h => ⟨by rw [(hd_M_delete h).2.1]; decide, (hd_M_delete h).2.2⟩) ?_
  intro p e s m args below meth c Qc res hx hb hml hown hlk hrt hts hK hS hend
  have ht : ∀ w ∈ mTb, w.before args s = true := fun w hw => hts w (List.mem_cons_of_mem _ hw)
  have hct : ∀ idx q, mlk ct_M_delete idx = some q → mCallOk p l e rm_M_delete s m args below meth c Qc kc_M_delete 4 D clA shC nmC csC cA ad A idx q.1 q.2.1 q.2.2 := by
    unfold ct_M_delete
    exact mlk_cons (P := fun (idx : Nat) (q : Nat × Nat × mFn) => mCallOk p l e rm_M_delete s m args below meth c Qc kc_M_delete 4 D clA shC nmC csC cA ad A idx q.1 q.2.1 q.2.2) (mCV StC_stable ⟨hx, hb, hml, hown, hts⟩ hK hS (mTb_at 411 ⟨by decide +kernel, rfl⟩) mi_F_pop ms_F_pop mn_F mc_F_pop (c_F_pop l D cA ad A) ⟨rfl, rfl⟩ ⟨by decide, by decide, by decide +kernel⟩ ⟨by decide, by decide⟩ (mRecvC hK shC_ok (a := 10) rfl rfl fun As g r h => (hd_F_pop h).1)) (mlk_cons (P := fun (idx : Nat) (q : Nat × Nat × mFn) => mCallOk p l e rm_M_delete s m args below meth c Qc kc_M_delete 4 D clA shC nmC csC cA ad A idx q.1 q.2.1 q.2.2) (mCV StC_stable ⟨hx, hb, hml, hown, hts⟩ hK hS (mTb_at 463 ⟨by decide +kernel, rfl⟩) mi_T_has ms_T_has mn_T mc_T_has (c_T_has l D cA ad A) ⟨rfl, rfl⟩ ⟨by decide, by decide, by decide +kernel⟩ ⟨by decide, by decide⟩ (mRecvC hK shC_ok (a := 3) rfl rfl fun As g r h => (hd_T_has h).1)) (mlk_cons (P := fun (idx : Nat) (q : Nat × Nat × mFn) => mCallOk p l e rm_M_delete s m args below meth c Qc kc_M_delete 4 D clA shC nmC csC cA ad A idx q.1 q.2.1 q.2.2) (mCV StC_stable ⟨hx, hb, hml, hown, hts⟩ hK hS (mTb_at 417 ⟨by decide +kernel, rfl⟩) mi_F_push ms_F_push mn_F mc_F_push (c_F_push l D cA ad A) ⟨rfl, rfl⟩ ⟨by decide, by decide, by decide +kernel⟩ ⟨by decide, by decide⟩ (mRecvC hK shC_ok (a := 10) rfl rfl fun As g r h => (hd_F_push h).1)) (mlk_cons (P := fun (idx : Nat) (q : Nat × Nat × mFn) => mCallOk p l e rm_M_delete s m args below meth c Qc kc_M_delete 4 D clA shC nmC csC cA ad A idx q.1 q.2.1 q.2.2) (mCV StC_stable ⟨hx, hb, hml, hown, hts⟩ hK hS (mTb_at 441 ⟨by decide +kernel, rfl⟩) mi_T_copyRow ms_T_copyRow mn_T mc_T_copyRow (c_T_copyRow l D cA ad A) ⟨rfl, rfl⟩ ⟨by decide, by decide, by decide +kernel⟩ ⟨by decide, by decide⟩ (mRecvC hK shC_ok (a := 3) rfl rfl fun As g r h => (hd_T_copyRow h).1)) (mlk_cons (P := fun (idx : Nat) (q : Nat × Nat × mFn) => mCallOk p l e rm_M_delete s m args below meth c Qc kc_M_delete 4 D clA shC nmC csC cA ad A idx q.1 q.2.1 q.2.2) (mCV StC_stable ⟨hx, hb, hml, hown, hts⟩ hK hS (mTb_at 464 ⟨by decide +kernel, rfl⟩) mi_T_removeRow ms_T_removeRow mn_T mc_T_removeRow (c_T_removeRow l D cA ad A) ⟨rfl, rfl⟩ ⟨by decide, by decide, by decide +kernel⟩ ⟨by decide, by decide⟩ (mRecvC hK shC_ok (a := 3) rfl rfl fun As g r h => (hd_T_removeRow h).1)) (mlk_cons (P := fun (idx : Nat) (q : Nat × Nat × mFn) => mCallOk p l e rm_M_delete s m args below meth c Qc kc_M_delete 4 D clA shC nmC csC cA ad A idx q.1 q.2.1 q.2.2) (mCS StC_stable ⟨hx, hb, hml, hown, hts⟩ hK hS (mTb_at 375 ⟨by decide +kernel, rfl⟩) mst_A_fill mn_A mc_A_fill (c_A_fill l D cA ad A) ⟨rfl, rfl⟩ ⟨by decide, by decide, by decide +kernel⟩ ⟨by decide, by decide⟩) (mlk_cons (P := fun (idx : Nat) (q : Nat × Nat × mFn) => mCallOk p l e rm_M_delete s m args below meth c Qc kc_M_delete 4 D clA shC nmC csC cA ad A idx q.1 q.2.1 q.2.2) (mCV StC_stable ⟨hx, hb, hml, hown, hts⟩ hK hS (mTb_at 449 ⟨by decide +kernel, rfl⟩) mi_M_fire ms_M_fire mn_M mc_M_fire (c_M_fire l D cA ad A) ⟨rfl, rfl⟩ ⟨by decide, by decide, by decide +kernel⟩ ⟨by decide, by decide⟩ (mRecvC hK shC_ok (a := 1) rfl rfl fun As g r h => (hd_M_fire h).1)) (mlk_none)))))))
  have hsp : ∀ idx n, mlk sp_M_delete idx = some n → mSpOk rm_M_delete s args "TriggerBase$Machine" idx n := by
    unfold sp_M_delete
    exact mlk_none
  exact ⟨⟨hx, hb, hml, hown, hlk⟩, mTok.to tb_M_delete_ok, ⟨hK, rfl, rfl, _, rfl⟩, shC_ok, mGlB.to uw_ok gl_M_ok ht, mPlB.to uw_ok pl_M_ok.1 pl_M_ok.2 ht, gsr_M hx hb hown ht hS, fer_M hx hb hown ht hS, smr hx hb hS, alr hx hb hS, lnr hx hb hS, fun i j hi hj => hS.1.2 i j hi hj, hct, hsp, ⟨(fun h => nomatch h), fun _ => hrt, (fun h => nomatch h), (fun h => nomatch h)⟩, hend⟩
theorem hd_M_update {As : List mV} {g : mG} {r : mRes} (h : mFres (.inr (.inl f_M_update)) As g = some r) : mHd (some 1) As = true ∧ As.length = 4 ∧ ∃ k, rn_M_update k 0 (mL0 As 6) [] g = some r := by
  obtain ⟨h1, h2, h3⟩ := mFun_inv (mFI_inv (t := t_M_update) h)
  exact ⟨h1, h2, mEv_inv h3⟩
abbrev rm_M_update : Room := { frames := 4, cells := 0, slots := 0, locals := 93 }
set_option maxRecDepth 100000 in
set_option maxHeartbeats 4000000 in
theorem c_M_update (l : Launch) (D : va_G) (cA : Nat → ClassId) (ad : Nat → Nat → Nat) (A : Nat → Prop) : mCt l D clA (mTys cA) shC nmC csC cA ad A (StC ad A) yn_M_update (mWs yn_M_update kc_M_update 6 (some .int)) rm_M_update (.inr (.inl f_M_update)) := by
  refine mMetOf (T := tb_M_update) (gl := gl_M) (pl := pl_M) (gs := gs_M) (fe := fe_M) (sm := smC) (ct := ct_M_update) (sp := sp_M_update) (rk := 1) (by decide) rfl StC_stable (fun As g r _ h => ⟨by rw [(hd_M_update h).2.1]; decide, (hd_M_update h).2.2⟩) ?_
  intro p e s m args below meth c Qc res hx hb hml hown hlk hrt hts hK hS hend
  have ht : ∀ w ∈ mTb, w.before args s = true := fun w hw => hts w (List.mem_cons_of_mem _ hw)
  have hct : ∀ idx q, mlk ct_M_update idx = some q → mCallOk p l e rm_M_update s m args below meth c Qc kc_M_update 6 D clA shC nmC csC cA ad A idx q.1 q.2.1 q.2.2 := by
    unfold ct_M_update
    exact mlk_cons (P := fun (idx : Nat) (q : Nat × Nat × mFn) => mCallOk p l e rm_M_update s m args below meth c Qc kc_M_update 6 D clA shC nmC csC cA ad A idx q.1 q.2.1 q.2.2) (mCV StC_stable ⟨hx, hb, hml, hown, hts⟩ hK hS (mTb_at 411 ⟨by decide +kernel, rfl⟩) mi_F_pop ms_F_pop mn_F mc_F_pop (c_F_pop l D cA ad A) ⟨rfl, rfl⟩ ⟨by decide, by decide, by decide +kernel⟩ ⟨by decide, by decide⟩ (mRecvC hK shC_ok (a := 10) rfl rfl fun As g r h => (hd_F_pop h).1)) (mlk_cons (P := fun (idx : Nat) (q : Nat × Nat × mFn) => mCallOk p l e rm_M_update s m args below meth c Qc kc_M_update 6 D clA shC nmC csC cA ad A idx q.1 q.2.1 q.2.2) (mCV StC_stable ⟨hx, hb, hml, hown, hts⟩ hK hS (mTb_at 463 ⟨by decide +kernel, rfl⟩) mi_T_has ms_T_has mn_T mc_T_has (c_T_has l D cA ad A) ⟨rfl, rfl⟩ ⟨by decide, by decide, by decide +kernel⟩ ⟨by decide, by decide⟩ (mRecvC hK shC_ok (a := 3) rfl rfl fun As g r h => (hd_T_has h).1)) (mlk_cons (P := fun (idx : Nat) (q : Nat × Nat × mFn) => mCallOk p l e rm_M_update s m args below meth c Qc kc_M_update 6 D clA shC nmC csC cA ad A idx q.1 q.2.1 q.2.2) (mCV StC_stable ⟨hx, hb, hml, hown, hts⟩ hK hS (mTb_at 417 ⟨by decide +kernel, rfl⟩) mi_F_push ms_F_push mn_F mc_F_push (c_F_push l D cA ad A) ⟨rfl, rfl⟩ ⟨by decide, by decide, by decide +kernel⟩ ⟨by decide, by decide⟩ (mRecvC hK shC_ok (a := 10) rfl rfl fun As g r h => (hd_F_push h).1)) (mlk_cons (P := fun (idx : Nat) (q : Nat × Nat × mFn) => mCallOk p l e rm_M_update s m args below meth c Qc kc_M_update 6 D clA shC nmC csC cA ad A idx q.1 q.2.1 q.2.2) (mCV StC_stable ⟨hx, hb, hml, hown, hts⟩ hK hS (mTb_at 441 ⟨by decide +kernel, rfl⟩) mi_T_copyRow ms_T_copyRow mn_T mc_T_copyRow (c_T_copyRow l D cA ad A) ⟨rfl, rfl⟩ ⟨by decide, by decide, by decide +kernel⟩ ⟨by decide, by decide⟩ (mRecvC hK shC_ok (a := 3) rfl rfl fun As g r h => (hd_T_copyRow h).1)) (mlk_cons (P := fun (idx : Nat) (q : Nat × Nat × mFn) => mCallOk p l e rm_M_update s m args below meth c Qc kc_M_update 6 D clA shC nmC csC cA ad A idx q.1 q.2.1 q.2.2) (mCV StC_stable ⟨hx, hb, hml, hown, hts⟩ hK hS (mTb_at 430 ⟨by decide +kernel, rfl⟩) mi_T_write ms_T_write mn_T mc_T_write (c_T_write l D cA ad A) ⟨rfl, rfl⟩ ⟨by decide, by decide, by decide +kernel⟩ ⟨by decide, by decide⟩ (mRecvC hK shC_ok (a := 3) rfl rfl fun As g r h => (hd_T_write h).1)) (mlk_cons (P := fun (idx : Nat) (q : Nat × Nat × mFn) => mCallOk p l e rm_M_update s m args below meth c Qc kc_M_update 6 D clA shC nmC csC cA ad A idx q.1 q.2.1 q.2.2) (mCV StC_stable ⟨hx, hb, hml, hown, hts⟩ hK hS (mTb_at 449 ⟨by decide +kernel, rfl⟩) mi_M_fire ms_M_fire mn_M mc_M_fire (c_M_fire l D cA ad A) ⟨rfl, rfl⟩ ⟨by decide, by decide, by decide +kernel⟩ ⟨by decide, by decide⟩ (mRecvC hK shC_ok (a := 1) rfl rfl fun As g r h => (hd_M_fire h).1)) (mlk_none))))))
  have hsp : ∀ idx n, mlk sp_M_update idx = some n → mSpOk rm_M_update s args "TriggerBase$Machine" idx n := by
    unfold sp_M_update
    exact mlk_none
  exact ⟨⟨hx, hb, hml, hown, hlk⟩, mTok.to tb_M_update_ok, ⟨hK, rfl, rfl, _, rfl⟩, shC_ok, mGlB.to uw_ok gl_M_ok ht, mPlB.to uw_ok pl_M_ok.1 pl_M_ok.2 ht, gsr_M hx hb hown ht hS, fer_M hx hb hown ht hS, smr hx hb hS, alr hx hb hS, lnr hx hb hS, fun i j hi hj => hS.1.2 i j hi hj, hct, hsp, ⟨(fun h => nomatch h), fun _ => hrt, (fun h => nomatch h), (fun h => nomatch h)⟩, hend⟩
theorem hd_M_giveBack {As : List mV} {g : mG} {r : mRes} (h : mFres (.inr (.inl f_M_giveBack)) As g = some r) : mHd (some 1) As = true ∧ As.length = 2 ∧ ∃ k, rn_M_giveBack k 0 (mL0 As 3) [] g = some r := by
  obtain ⟨h1, h2, h3⟩ := mFun_inv (mFI_inv (t := t_M_giveBack) h)
  exact ⟨h1, h2, mEv_inv h3⟩
abbrev rm_M_giveBack : Room := { frames := 1, cells := 0, slots := 0, locals := 21 }
set_option maxRecDepth 100000 in
set_option maxHeartbeats 4000000 in
theorem c_M_giveBack (l : Launch) (D : va_G) (cA : Nat → ClassId) (ad : Nat → Nat → Nat) (A : Nat → Prop) : mCt l D clA (mTys cA) shC nmC csC cA ad A (StC ad A) yn_M_giveBack (mWs yn_M_giveBack kc_M_giveBack 3 (some .int)) rm_M_giveBack (.inr (.inl f_M_giveBack)) := by
  refine mMetOf (T := tb_M_giveBack) (gl := gl_M) (pl := pl_M) (gs := gs_M) (fe := fe_M) (sm := smC) (ct := ct_M_giveBack) (sp := sp_M_giveBack) (rk := 1) (by decide) rfl StC_stable (fun As g r _ h => ⟨by rw [(hd_M_giveBack h).2.1]; decide, (hd_M_giveBack h).2.2⟩) ?_
  intro p e s m args below meth c Qc res hx hb hml hown hlk hrt hts hK hS hend
  have ht : ∀ w ∈ mTb, w.before args s = true := fun w hw => hts w (List.mem_cons_of_mem _ hw)
  have hct : ∀ idx q, mlk ct_M_giveBack idx = some q → mCallOk p l e rm_M_giveBack s m args below meth c Qc kc_M_giveBack 3 D clA shC nmC csC cA ad A idx q.1 q.2.1 q.2.2 := by
    unfold ct_M_giveBack
    exact mlk_cons (P := fun (idx : Nat) (q : Nat × Nat × mFn) => mCallOk p l e rm_M_giveBack s m args below meth c Qc kc_M_giveBack 3 D clA shC nmC csC cA ad A idx q.1 q.2.1 q.2.2) (mCV StC_stable ⟨hx, hb, hml, hown, hts⟩ hK hS (mTb_at 411 ⟨by decide +kernel, rfl⟩) mi_F_pop ms_F_pop mn_F mc_F_pop (c_F_pop l D cA ad A) ⟨rfl, rfl⟩ ⟨by decide, by decide, by decide +kernel⟩ ⟨by decide, by decide⟩ (mRecvC hK shC_ok (a := 10) rfl rfl fun As g r h => (hd_F_pop h).1)) (mlk_cons (P := fun (idx : Nat) (q : Nat × Nat × mFn) => mCallOk p l e rm_M_giveBack s m args below meth c Qc kc_M_giveBack 3 D clA shC nmC csC cA ad A idx q.1 q.2.1 q.2.2) (mCV StC_stable ⟨hx, hb, hml, hown, hts⟩ hK hS (mTb_at 417 ⟨by decide +kernel, rfl⟩) mi_F_push ms_F_push mn_F mc_F_push (c_F_push l D cA ad A) ⟨rfl, rfl⟩ ⟨by decide, by decide, by decide +kernel⟩ ⟨by decide, by decide⟩ (mRecvC hK shC_ok (a := 10) rfl rfl fun As g r h => (hd_F_push h).1)) (mlk_none))
  have hsp : ∀ idx n, mlk sp_M_giveBack idx = some n → mSpOk rm_M_giveBack s args "TriggerBase$Machine" idx n := by
    unfold sp_M_giveBack
    exact mlk_none
  exact ⟨⟨hx, hb, hml, hown, hlk⟩, mTok.to tb_M_giveBack_ok, ⟨hK, rfl, rfl, _, rfl⟩, shC_ok, mGlB.to uw_ok gl_M_ok ht, mPlB.to uw_ok pl_M_ok.1 pl_M_ok.2 ht, gsr_M hx hb hown ht hS, fer_M hx hb hown ht hS, smr hx hb hS, alr hx hb hS, lnr hx hb hS, fun i j hi hj => hS.1.2 i j hi hj, hct, hsp, ⟨(fun h => nomatch h), fun _ => hrt, (fun h => nomatch h), (fun h => nomatch h)⟩, hend⟩
theorem hd_F_at {As : List mV} {g : mG} {r : mRes} (h : mFres (.inr (.inl f_F_at)) As g = some r) : mHd none As = true ∧ As.length = 2 ∧ ∃ k, rn_F_at k 0 (mL0 As 2) [] g = some r := by
  obtain ⟨h1, h2, h3⟩ := mFun_inv (mFI_inv (t := t_F_at) h)
  exact ⟨h1, h2, mEv_inv h3⟩
abbrev rm_F_at : Room := { frames := 1, cells := 0, slots := 0, locals := 21 }
set_option maxRecDepth 100000 in
set_option maxHeartbeats 4000000 in
theorem c_F_at (l : Launch) (D : va_G) (cA : Nat → ClassId) (ad : Nat → Nat → Nat) (A : Nat → Prop) : mCt l D clA (mTys cA) shC nmC csC cA ad A (StC ad A) yn_F_at (mWs yn_F_at kc_F_at 2 (some .int)) rm_F_at (.inr (.inl f_F_at)) := by
  refine mMetOf (T := tb_F_at) (gl := gl_F) (pl := pl_F) (gs := gs_F) (fe := fe_F) (sm := smC) (ct := ct_F_at) (sp := sp_F_at) (rk := 1) (by decide) rfl StC_stable (fun As g r _ h => ⟨by rw [(hd_F_at h).2.1]; decide, (hd_F_at h).2.2⟩) ?_
  intro p e s m args below meth c Qc res hx hb hml hown hlk hrt hts hK hS hend
  have ht : ∀ w ∈ mTb, w.before args s = true := fun w hw => hts w (List.mem_cons_of_mem _ hw)
  have hct : ∀ idx q, mlk ct_F_at idx = some q → mCallOk p l e rm_F_at s m args below meth c Qc kc_F_at 2 D clA shC nmC csC cA ad A idx q.1 q.2.1 q.2.2 := by
    unfold ct_F_at
    exact mlk_cons (P := fun (idx : Nat) (q : Nat × Nat × mFn) => mCallOk p l e rm_F_at s m args below meth c Qc kc_F_at 2 D clA shC nmC csC cA ad A idx q.1 q.2.1 q.2.2) (mCSN (host := "TriggerBase") StC_stable ⟨hx, hb, hml, hown, hts⟩ hK hS (hS.2.2.2 ("TriggerBase$Frame", 53) (by decide)) mst_B_isBelow mn_B mc_B_isBelow (c_B_isBelow l D cA ad A) ⟨rfl, rfl⟩ ⟨by decide, by decide, by decide +kernel⟩ ⟨by decide, by decide⟩) (mlk_none)
  have hsp : ∀ idx n, mlk sp_F_at idx = some n → mSpOk rm_F_at s args "TriggerBase$Frame" idx n := by
    unfold sp_F_at
    exact mlk_none
  exact ⟨⟨hx, hb, hml, hown, hlk⟩, mTok.to tb_F_at_ok, ⟨hK, rfl, rfl, _, rfl⟩, shC_ok, mGlB.to uw_ok gl_F_ok ht, mPlB.to uw_ok pl_F_ok.1 pl_F_ok.2 ht, mlk_none, mlk_none, smr hx hb hS, alr hx hb hS, lnr hx hb hS, fun i j hi hj => hS.1.2 i j hi hj, hct, hsp, ⟨(fun h => nomatch h), fun _ => hrt, (fun h => nomatch h), (fun h => nomatch h)⟩, hend⟩
theorem hd_F_store {As : List mV} {g : mG} {r : mRes} (h : mFres (.inl f_F_store) As g = some r) : mHd (some 10) As = true ∧ As.length = 3 ∧ ∃ k, rn_F_store k 0 (mL0 As 3) [] g = some r := by
  obtain ⟨h1, h2, h3⟩ := mFun_inv (mFV_inv (t := t_F_store) h)
  exact ⟨h1, h2, mEv_inv h3⟩
abbrev rm_F_store : Room := { frames := 1, cells := 0, slots := 0, locals := 21 }
set_option maxRecDepth 100000 in
set_option maxHeartbeats 4000000 in
theorem c_F_store (l : Launch) (D : va_G) (cA : Nat → ClassId) (ad : Nat → Nat → Nat) (A : Nat → Prop) : mCt l D clA (mTys cA) shC nmC csC cA ad A (StC ad A) yn_F_store (mWs yn_F_store kc_F_store 3 none) rm_F_store (.inl f_F_store) := by
  refine mMetOf (T := tb_F_store) (gl := gl_F) (pl := pl_F) (gs := gs_F) (fe := fe_F) (sm := smC) (ct := ct_F_store) (sp := sp_F_store) (rk := 0) (by decide) rfl StC_stable (fun As g r _ h => ⟨by rw [(hd_F_store h).2.1]; decide, (hd_F_store h).2.2⟩) ?_
  intro p e s m args below meth c Qc res hx hb hml hown hlk hrt hts hK hS hend
  have ht : ∀ w ∈ mTb, w.before args s = true := fun w hw => hts w (List.mem_cons_of_mem _ hw)
  have hct : ∀ idx q, mlk ct_F_store idx = some q → mCallOk p l e rm_F_store s m args below meth c Qc kc_F_store 3 D clA shC nmC csC cA ad A idx q.1 q.2.1 q.2.2 := by
    unfold ct_F_store
    exact mlk_cons (P := fun (idx : Nat) (q : Nat × Nat × mFn) => mCallOk p l e rm_F_store s m args below meth c Qc kc_F_store 3 D clA shC nmC csC cA ad A idx q.1 q.2.1 q.2.2) (mCSN (host := "TriggerBase") StC_stable ⟨hx, hb, hml, hown, hts⟩ hK hS (hS.2.2.2 ("TriggerBase$Frame", 53) (by decide)) mst_B_isBelow mn_B mc_B_isBelow (c_B_isBelow l D cA ad A) ⟨rfl, rfl⟩ ⟨by decide, by decide, by decide +kernel⟩ ⟨by decide, by decide⟩) (mlk_none)
  have hsp : ∀ idx n, mlk sp_F_store idx = some n → mSpOk rm_F_store s args "TriggerBase$Frame" idx n := by
    unfold sp_F_store
    exact mlk_none
  exact ⟨⟨hx, hb, hml, hown, hlk⟩, mTok.to tb_F_store_ok, ⟨hK, rfl, rfl, _, rfl⟩, shC_ok, mGlB.to uw_ok gl_F_ok ht, mPlB.to uw_ok pl_F_ok.1 pl_F_ok.2 ht, mlk_none, mlk_none, smr hx hb hS, alr hx hb hS, lnr hx hb hS, fun i j hi hj => hS.1.2 i j hi hj, hct, hsp, ⟨fun _ => hrt, (fun h => nomatch h), (fun h => nomatch h), (fun h => nomatch h)⟩, hend⟩
theorem hd_T_size {As : List mV} {g : mG} {r : mRes} (h : mFres (.inr (.inl f_T_size)) As g = some r) : mHd (some 3) As = true ∧ As.length = 2 ∧ ∃ k, rn_T_size k 0 (mL0 As 2) [] g = some r := by
  obtain ⟨h1, h2, h3⟩ := mFun_inv (mFI_inv (t := t_T_size) h)
  exact ⟨h1, h2, mEv_inv h3⟩
abbrev rm_T_size : Room := { frames := 1, cells := 0, slots := 0, locals := 21 }
set_option maxRecDepth 100000 in
set_option maxHeartbeats 4000000 in
theorem c_T_size (l : Launch) (D : va_G) (cA : Nat → ClassId) (ad : Nat → Nat → Nat) (A : Nat → Prop) : mCt l D clA (mTys cA) shC nmC csC cA ad A (StC ad A) yn_T_size (mWs yn_T_size kc_T_size 2 (some .int)) rm_T_size (.inr (.inl f_T_size)) := by
  refine mMetOf (T := tb_T_size) (gl := gl_T) (pl := pl_T) (gs := gs_T) (fe := fe_T) (sm := smC) (ct := ct_T_size) (sp := sp_T_size) (rk := 1) (by decide) rfl StC_stable (fun As g r _ h => ⟨by rw [(hd_T_size h).2.1]; decide, (hd_T_size h).2.2⟩) ?_
  intro p e s m args below meth c Qc res hx hb hml hown hlk hrt hts hK hS hend
  have ht : ∀ w ∈ mTb, w.before args s = true := fun w hw => hts w (List.mem_cons_of_mem _ hw)
  have hct : ∀ idx q, mlk ct_T_size idx = some q → mCallOk p l e rm_T_size s m args below meth c Qc kc_T_size 2 D clA shC nmC csC cA ad A idx q.1 q.2.1 q.2.2 := by
    unfold ct_T_size
    exact mlk_cons (P := fun (idx : Nat) (q : Nat × Nat × mFn) => mCallOk p l e rm_T_size s m args below meth c Qc kc_T_size 2 D clA shC nmC csC cA ad A idx q.1 q.2.1 q.2.2) (mCSN (host := "TriggerBase") StC_stable ⟨hx, hb, hml, hown, hts⟩ hK hS (hS.2.2.2 ("TriggerBase$Tables", 24) (by decide)) mst_B_isBelow mn_B mc_B_isBelow (c_B_isBelow l D cA ad A) ⟨rfl, rfl⟩ ⟨by decide, by decide, by decide +kernel⟩ ⟨by decide, by decide⟩) (mlk_none)
  have hsp : ∀ idx n, mlk sp_T_size idx = some n → mSpOk rm_T_size s args "TriggerBase$Tables" idx n := by
    unfold sp_T_size
    exact mlk_none
  exact ⟨⟨hx, hb, hml, hown, hlk⟩, mTok.to tb_T_size_ok, ⟨hK, rfl, rfl, _, rfl⟩, shC_ok, mGlB.to uw_ok gl_T_ok ht, mPlB.to uw_ok pl_T_ok.1 pl_T_ok.2 ht, mlk_none, mlk_none, smr hx hb hS, alr hx hb hS, lnr hx hb hS, fun i j hi hj => hS.1.2 i j hi hj, hct, hsp, ⟨(fun h => nomatch h), fun _ => hrt, (fun h => nomatch h), (fun h => nomatch h)⟩, hend⟩
theorem hd_T_find {As : List mV} {g : mG} {r : mRes} (h : mFres (.inr (.inl f_T_find)) As g = some r) : mHd (some 3) As = true ∧ As.length = 5 ∧ ∃ k, rn_T_find k 0 (mL0 As 6) [] g = some r := by
  obtain ⟨h1, h2, h3⟩ := mFun_inv (mFI_inv (t := t_T_find) h)
  exact ⟨h1, h2, mEv_inv h3⟩
abbrev rm_T_find : Room := { frames := 1, cells := 0, slots := 0, locals := 22 }
set_option maxRecDepth 100000 in
set_option maxHeartbeats 4000000 in
theorem c_T_find (l : Launch) (D : va_G) (cA : Nat → ClassId) (ad : Nat → Nat → Nat) (A : Nat → Prop) : mCt l D clA (mTys cA) shC nmC csC cA ad A (StC ad A) yn_T_find (mWs yn_T_find kc_T_find 6 (some .int)) rm_T_find (.inr (.inl f_T_find)) := by
  refine mMetOf (T := tb_T_find) (gl := gl_T) (pl := pl_T) (gs := gs_T) (fe := fe_T) (sm := smC) (ct := ct_T_find) (sp := sp_T_find) (rk := 1) (by decide) rfl StC_stable (fun As g r _ h => ⟨by rw [(hd_T_find h).2.1]; decide, (hd_T_find h).2.2⟩) ?_
  intro p e s m args below meth c Qc res hx hb hml hown hlk hrt hts hK hS hend
  have ht : ∀ w ∈ mTb, w.before args s = true := fun w hw => hts w (List.mem_cons_of_mem _ hw)
  have hct : ∀ idx q, mlk ct_T_find idx = some q → mCallOk p l e rm_T_find s m args below meth c Qc kc_T_find 6 D clA shC nmC csC cA ad A idx q.1 q.2.1 q.2.2 := by
    unfold ct_T_find
    exact mlk_cons (P := fun (idx : Nat) (q : Nat × Nat × mFn) => mCallOk p l e rm_T_find s m args below meth c Qc kc_T_find 6 D clA shC nmC csC cA ad A idx q.1 q.2.1 q.2.2) (mCSN (host := "TriggerBase") StC_stable ⟨hx, hb, hml, hown, hts⟩ hK hS (hS.2.2.2 ("TriggerBase$Tables", 24) (by decide)) mst_B_isBelow mn_B mc_B_isBelow (c_B_isBelow l D cA ad A) ⟨rfl, rfl⟩ ⟨by decide, by decide, by decide +kernel⟩ ⟨by decide, by decide⟩) (mlk_cons (P := fun (idx : Nat) (q : Nat × Nat × mFn) => mCallOk p l e rm_T_find s m args below meth c Qc kc_T_find 6 D clA shC nmC csC cA ad A idx q.1 q.2.1 q.2.2) (mCS StC_stable ⟨hx, hb, hml, hown, hts⟩ hK hS (mTb_at 438 ⟨by decide +kernel, rfl⟩) mst_T_index mn_T mc_T_index (c_T_index l D cA ad A) ⟨rfl, rfl⟩ ⟨by decide, by decide, by decide +kernel⟩ ⟨by decide, by decide⟩) (mlk_none))
  have hsp : ∀ idx n, mlk sp_T_find idx = some n → mSpOk rm_T_find s args "TriggerBase$Tables" idx n := by
    unfold sp_T_find
    exact mlk_cons (P := fun (idx n : Nat) => mSpOk rm_T_find s args "TriggerBase$Tables" idx n) (⟨(ht _ (mTb_at 501 ⟨by decide +kernel, rfl⟩)), (ht _ (mTb_at 369 ⟨by decide +kernel, rfl⟩)), (ht _ (mTb_at 46 ⟨by decide +kernel, rfl⟩)), (ht _ (mTb_at 370 ⟨by decide +kernel, rfl⟩)), by decide, by decide⟩) (mlk_none)
  exact ⟨⟨hx, hb, hml, hown, hlk⟩, mTok.to tb_T_find_ok, ⟨hK, rfl, rfl, _, rfl⟩, shC_ok, mGlB.to uw_ok gl_T_ok ht, mPlB.to uw_ok pl_T_ok.1 pl_T_ok.2 ht, mlk_none, mlk_none, smr hx hb hS, alr hx hb hS, lnr hx hb hS, fun i j hi hj => hS.1.2 i j hi hj, hct, hsp, ⟨(fun h => nomatch h), fun _ => hrt, (fun h => nomatch h), (fun h => nomatch h)⟩, hend⟩
theorem hd_M_computeOfTwo {As : List mV} {g : mG} {r : mRes} (h : mFres (.inl f_M_computeOfTwo) As g = some r) : mHd (some 1) As = true ∧ As.length = 5 ∧ ∃ k, rn_M_computeOfTwo k 0 (mL0 As 7) [] g = some r := by
  obtain ⟨h1, h2, h3⟩ := mFun_inv (mFV_inv (t := t_M_computeOfTwo) h)
  exact ⟨h1, h2, mEv_inv h3⟩
abbrev rm_M_computeOfTwo : Room := { frames := 2, cells := 0, slots := 0, locals := 47 }
set_option maxRecDepth 100000 in
set_option maxHeartbeats 4000000 in
theorem c_M_computeOfTwo (l : Launch) (D : va_G) (cA : Nat → ClassId) (ad : Nat → Nat → Nat) (A : Nat → Prop) : mCt l D clA (mTys cA) shC nmC csC cA ad A (StC ad A) yn_M_computeOfTwo (mWs yn_M_computeOfTwo kc_M_computeOfTwo 7 none) rm_M_computeOfTwo (.inl f_M_computeOfTwo) := by
  refine mMetOf (T := tb_M_computeOfTwo) (gl := gl_M) (pl := pl_M) (gs := gs_M) (fe := fe_M) (sm := smC) (ct := ct_M_computeOfTwo) (sp := sp_M_computeOfTwo) (rk := 0) (by decide) rfl StC_stable (fun As g r _ h => ⟨by rw [(hd_M_computeOfTwo h).2.1]; decide, (hd_M_computeOfTwo h).2.2⟩) ?_
  intro p e s m args below meth c Qc res hx hb hml hown hlk hrt hts hK hS hend
  have ht : ∀ w ∈ mTb, w.before args s = true := fun w hw => hts w (List.mem_cons_of_mem _ hw)
  have hct : ∀ idx q, mlk ct_M_computeOfTwo idx = some q → mCallOk p l e rm_M_computeOfTwo s m args below meth c Qc kc_M_computeOfTwo 7 D clA shC nmC csC cA ad A idx q.1 q.2.1 q.2.2 := by
    unfold ct_M_computeOfTwo
    exact mlk_cons (P := fun (idx : Nat) (q : Nat × Nat × mFn) => mCallOk p l e rm_M_computeOfTwo s m args below meth c Qc kc_M_computeOfTwo 7 D clA shC nmC csC cA ad A idx q.1 q.2.1 q.2.2) (mCV StC_stable ⟨hx, hb, hml, hown, hts⟩ hK hS (mTb_at 411 ⟨by decide +kernel, rfl⟩) mi_F_pop ms_F_pop mn_F mc_F_pop (c_F_pop l D cA ad A) ⟨rfl, rfl⟩ ⟨by decide, by decide, by decide +kernel⟩ ⟨by decide, by decide⟩ (mRecvC hK shC_ok (a := 10) rfl rfl fun As g r h => (hd_F_pop h).1)) (mlk_cons (P := fun (idx : Nat) (q : Nat × Nat × mFn) => mCallOk p l e rm_M_computeOfTwo s m args below meth c Qc kc_M_computeOfTwo 7 D clA shC nmC csC cA ad A idx q.1 q.2.1 q.2.2) (mCU (x0 := ⟨"TriggerBase$Instruction", "ordinal", "()I"⟩) StC_stable ⟨hx, hb, hml, hown, hts⟩ hK hS rfl (mTb_at 402 ⟨by decide +kernel, rfl⟩) (mTb_at 403 ⟨by decide +kernel, rfl⟩) (mTb_at 405 ⟨by decide +kernel, rfl⟩) mi_E_ordinal mn_E mc_E_ordinal (c_E_ordinal l D cA ad A) ⟨rfl, rfl⟩ ⟨by decide, by decide, by decide +kernel⟩ ⟨by decide, by decide⟩ (recvI hS fun As g r h => (hd_E_ordinal h).1)) (mlk_cons (P := fun (idx : Nat) (q : Nat × Nat × mFn) => mCallOk p l e rm_M_computeOfTwo s m args below meth c Qc kc_M_computeOfTwo 7 D clA shC nmC csC cA ad A idx q.1 q.2.1 q.2.2) (mCV StC_stable ⟨hx, hb, hml, hown, hts⟩ hK hS (mTb_at 417 ⟨by decide +kernel, rfl⟩) mi_F_push ms_F_push mn_F mc_F_push (c_F_push l D cA ad A) ⟨rfl, rfl⟩ ⟨by decide, by decide, by decide +kernel⟩ ⟨by decide, by decide⟩ (mRecvC hK shC_ok (a := 10) rfl rfl fun As g r h => (hd_F_push h).1)) (mlk_cons (P := fun (idx : Nat) (q : Nat × Nat × mFn) => mCallOk p l e rm_M_computeOfTwo s m args below meth c Qc kc_M_computeOfTwo 7 D clA shC nmC csC cA ad A idx q.1 q.2.1 q.2.2) (mCV StC_stable ⟨hx, hb, hml, hown, hts⟩ hK hS (mTb_at 497 ⟨by decide +kernel, rfl⟩) mi_T_find ms_T_find mn_T mc_T_find (c_T_find l D cA ad A) ⟨rfl, rfl⟩ ⟨by decide, by decide, by decide +kernel⟩ ⟨by decide, by decide⟩ (mRecvC hK shC_ok (a := 3) rfl rfl fun As g r h => (hd_T_find h).1)) (mlk_none))))
  have hsp : ∀ idx n, mlk sp_M_computeOfTwo idx = some n → mSpOk rm_M_computeOfTwo s args "TriggerBase$Machine" idx n := by
    unfold sp_M_computeOfTwo
    exact mlk_none
  exact ⟨⟨hx, hb, hml, hown, hlk⟩, mTok.to tb_M_computeOfTwo_ok, ⟨hK, rfl, rfl, _, rfl⟩, shC_ok, mGlB.to uw_ok gl_M_ok ht, mPlB.to uw_ok pl_M_ok.1 pl_M_ok.2 ht, gsr_M hx hb hown ht hS, fer_M hx hb hown ht hS, smr hx hb hS, alr hx hb hS, lnr hx hb hS, fun i j hi hj => hS.1.2 i j hi hj, hct, hsp, ⟨fun _ => hrt, (fun h => nomatch h), (fun h => nomatch h), (fun h => nomatch h)⟩, hend⟩
theorem hd_M_compute {As : List mV} {g : mG} {r : mRes} (h : mFres (.inl f_M_compute) As g = some r) : mHd (some 1) As = true ∧ As.length = 5 ∧ ∃ k, rn_M_compute k 0 (mL0 As 6) [] g = some r := by
  obtain ⟨h1, h2, h3⟩ := mFun_inv (mFV_inv (t := t_M_compute) h)
  exact ⟨h1, h2, mEv_inv h3⟩
abbrev rm_M_compute : Room := { frames := 3, cells := 0, slots := 0, locals := 73 }
set_option maxRecDepth 100000 in
set_option maxHeartbeats 4000000 in
theorem c_M_compute (l : Launch) (D : va_G) (cA : Nat → ClassId) (ad : Nat → Nat → Nat) (A : Nat → Prop) : mCt l D clA (mTys cA) shC nmC csC cA ad A (StC ad A) yn_M_compute (mWs yn_M_compute kc_M_compute 6 none) rm_M_compute (.inl f_M_compute) := by
  refine mMetOf (T := tb_M_compute) (gl := gl_M) (pl := pl_M) (gs := gs_M) (fe := fe_M) (sm := smC) (ct := ct_M_compute) (sp := sp_M_compute) (rk := 0) (by decide) rfl StC_stable (fun As g r _ h => ⟨by rw [(hd_M_compute h).2.1]; decide, (hd_M_compute h).2.2⟩) ?_
  intro p e s m args below meth c Qc res hx hb hml hown hlk hrt hts hK hS hend
  have ht : ∀ w ∈ mTb, w.before args s = true := fun w hw => hts w (List.mem_cons_of_mem _ hw)
  have hct : ∀ idx q, mlk ct_M_compute idx = some q → mCallOk p l e rm_M_compute s m args below meth c Qc kc_M_compute 6 D clA shC nmC csC cA ad A idx q.1 q.2.1 q.2.2 := by
    unfold ct_M_compute
    exact mlk_cons (P := fun (idx : Nat) (q : Nat × Nat × mFn) => mCallOk p l e rm_M_compute s m args below meth c Qc kc_M_compute 6 D clA shC nmC csC cA ad A idx q.1 q.2.1 q.2.2) (mCU (x0 := ⟨"TriggerBase$Instruction", "ordinal", "()I"⟩) StC_stable ⟨hx, hb, hml, hown, hts⟩ hK hS rfl (mTb_at 402 ⟨by decide +kernel, rfl⟩) (mTb_at 403 ⟨by decide +kernel, rfl⟩) (mTb_at 405 ⟨by decide +kernel, rfl⟩) mi_E_ordinal mn_E mc_E_ordinal (c_E_ordinal l D cA ad A) ⟨rfl, rfl⟩ ⟨by decide, by decide, by decide +kernel⟩ ⟨by decide, by decide⟩ (recvI hS fun As g r h => (hd_E_ordinal h).1)) (mlk_cons (P := fun (idx : Nat) (q : Nat × Nat × mFn) => mCallOk p l e rm_M_compute s m args below meth c Qc kc_M_compute 6 D clA shC nmC csC cA ad A idx q.1 q.2.1 q.2.2) (mCV StC_stable ⟨hx, hb, hml, hown, hts⟩ hK hS (mTb_at 417 ⟨by decide +kernel, rfl⟩) mi_F_push ms_F_push mn_F mc_F_push (c_F_push l D cA ad A) ⟨rfl, rfl⟩ ⟨by decide, by decide, by decide +kernel⟩ ⟨by decide, by decide⟩ (mRecvC hK shC_ok (a := 10) rfl rfl fun As g r h => (hd_F_push h).1)) (mlk_cons (P := fun (idx : Nat) (q : Nat × Nat × mFn) => mCallOk p l e rm_M_compute s m args below meth c Qc kc_M_compute 6 D clA shC nmC csC cA ad A idx q.1 q.2.1 q.2.2) (mCV StC_stable ⟨hx, hb, hml, hown, hts⟩ hK hS (mTb_at 411 ⟨by decide +kernel, rfl⟩) mi_F_pop ms_F_pop mn_F mc_F_pop (c_F_pop l D cA ad A) ⟨rfl, rfl⟩ ⟨by decide, by decide, by decide +kernel⟩ ⟨by decide, by decide⟩ (mRecvC hK shC_ok (a := 10) rfl rfl fun As g r h => (hd_F_pop h).1)) (mlk_cons (P := fun (idx : Nat) (q : Nat × Nat × mFn) => mCallOk p l e rm_M_compute s m args below meth c Qc kc_M_compute 6 D clA shC nmC csC cA ad A idx q.1 q.2.1 q.2.2) (mCS StC_stable ⟨hx, hb, hml, hown, hts⟩ hK hS (mTb_at 480 ⟨by decide +kernel, rfl⟩) mst_F_at mn_F mc_F_at (c_F_at l D cA ad A) ⟨rfl, rfl⟩ ⟨by decide, by decide, by decide +kernel⟩ ⟨by decide, by decide⟩) (mlk_cons (P := fun (idx : Nat) (q : Nat × Nat × mFn) => mCallOk p l e rm_M_compute s m args below meth c Qc kc_M_compute 6 D clA shC nmC csC cA ad A idx q.1 q.2.1 q.2.2) (mCV StC_stable ⟨hx, hb, hml, hown, hts⟩ hK hS (mTb_at 484 ⟨by decide +kernel, rfl⟩) mi_F_store ms_F_store mn_F mc_F_store (c_F_store l D cA ad A) ⟨rfl, rfl⟩ ⟨by decide, by decide, by decide +kernel⟩ ⟨by decide, by decide⟩ (mRecvC hK shC_ok (a := 10) rfl rfl fun As g r h => (hd_F_store h).1)) (mlk_cons (P := fun (idx : Nat) (q : Nat × Nat × mFn) => mCallOk p l e rm_M_compute s m args below meth c Qc kc_M_compute 6 D clA shC nmC csC cA ad A idx q.1 q.2.1 q.2.2) (mCV StC_stable ⟨hx, hb, hml, hown, hts⟩ hK hS (mTb_at 488 ⟨by decide +kernel, rfl⟩) mi_T_size ms_T_size mn_T mc_T_size (c_T_size l D cA ad A) ⟨rfl, rfl⟩ ⟨by decide, by decide, by decide +kernel⟩ ⟨by decide, by decide⟩ (mRecvC hK shC_ok (a := 3) rfl rfl fun As g r h => (hd_T_size h).1)) (mlk_cons (P := fun (idx : Nat) (q : Nat × Nat × mFn) => mCallOk p l e rm_M_compute s m args below meth c Qc kc_M_compute 6 D clA shC nmC csC cA ad A idx q.1 q.2.1 q.2.2) (mCV StC_stable ⟨hx, hb, hml, hown, hts⟩ hK hS (mTb_at 492 ⟨by decide +kernel, rfl⟩) mi_T_read ms_T_read mn_T mc_T_read (c_T_read l D cA ad A) ⟨rfl, rfl⟩ ⟨by decide, by decide, by decide +kernel⟩ ⟨by decide, by decide⟩ (mRecvC hK shC_ok (a := 3) rfl rfl fun As g r h => (hd_T_read h).1)) (mlk_cons (P := fun (idx : Nat) (q : Nat × Nat × mFn) => mCallOk p l e rm_M_compute s m args below meth c Qc kc_M_compute 6 D clA shC nmC csC cA ad A idx q.1 q.2.1 q.2.2) (mCV StC_stable ⟨hx, hb, hml, hown, hts⟩ hK hS (mTb_at 493 ⟨by decide +kernel, rfl⟩) mi_M_computeOfTwo ms_M_computeOfTwo mn_M mc_M_computeOfTwo (c_M_computeOfTwo l D cA ad A) ⟨rfl, rfl⟩ ⟨by decide, by decide, by decide +kernel⟩ ⟨by decide, by decide⟩ (mRecvC hK shC_ok (a := 1) rfl rfl fun As g r h => (hd_M_computeOfTwo h).1)) (mlk_none))))))))
  have hsp : ∀ idx n, mlk sp_M_compute idx = some n → mSpOk rm_M_compute s args "TriggerBase$Machine" idx n := by
    unfold sp_M_compute
    exact mlk_none
  exact ⟨⟨hx, hb, hml, hown, hlk⟩, mTok.to tb_M_compute_ok, ⟨hK, rfl, rfl, _, rfl⟩, shC_ok, mGlB.to uw_ok gl_M_ok ht, mPlB.to uw_ok pl_M_ok.1 pl_M_ok.2 ht, gsr_M hx hb hown ht hS, fer_M hx hb hown ht hS, smr hx hb hS, alr hx hb hS, lnr hx hb hS, fun i j hi hj => hS.1.2 i j hi hj, hct, hsp, ⟨fun _ => hrt, (fun h => nomatch h), (fun h => nomatch h), (fun h => nomatch h)⟩, hend⟩
theorem hd_M_step {As : List mV} {g : mG} {r : mRes} (h : mFres (.inr (.inl f_M_step)) As g = some r) : mHd (some 1) As = true ∧ As.length = 1 ∧ ∃ k, rn_M_step k 0 (mL0 As 5) [] g = some r := by
  obtain ⟨h1, h2, h3⟩ := mFun_inv (mFI_inv (t := t_M_step) h)
  exact ⟨h1, h2, mEv_inv h3⟩
abbrev rm_M_step : Room := { frames := 5, cells := 0, slots := 0, locals := 118 }
set_option maxRecDepth 100000 in
set_option maxHeartbeats 4000000 in
theorem c_M_step (l : Launch) (D : va_G) (cA : Nat → ClassId) (ad : Nat → Nat → Nat) (A : Nat → Prop) : mCt l D clA (mTys cA) shC nmC csC cA ad A (StC ad A) yn_M_step (mWs yn_M_step kc_M_step 5 (some .int)) rm_M_step (.inr (.inl f_M_step)) := by
  refine mMetOf (T := tb_M_step) (gl := gl_M) (pl := pl_M) (gs := gs_M) (fe := fe_M) (sm := smC) (ct := ct_M_step) (sp := sp_M_step) (rk := 1) (by decide) rfl StC_stable (fun As g r _ h => ⟨by rw [(hd_M_step h).2.1]; decide, (hd_M_step h).2.2⟩) ?_
  intro p e s m args below meth c Qc res hx hb hml hown hlk hrt hts hK hS hend
  have ht : ∀ w ∈ mTb, w.before args s = true := fun w hw => hts w (List.mem_cons_of_mem _ hw)
  have hct : ∀ idx q, mlk ct_M_step idx = some q → mCallOk p l e rm_M_step s m args below meth c Qc kc_M_step 5 D clA shC nmC csC cA ad A idx q.1 q.2.1 q.2.2 := by
    unfold ct_M_step
    exact mlk_cons (P := fun (idx : Nat) (q : Nat × Nat × mFn) => mCallOk p l e rm_M_step s m args below meth c Qc kc_M_step 5 D clA shC nmC csC cA ad A idx q.1 q.2.1 q.2.2) (mCV StC_stable ⟨hx, hb, hml, hown, hts⟩ hK hS (mTb_at 398 ⟨by decide +kernel, rfl⟩) mi_L_instructionAt ms_L_instructionAt mn_L mc_L_instructionAt (c_L_instructionAt l D cA ad A) ⟨rfl, rfl⟩ ⟨by decide, by decide, by decide +kernel⟩ ⟨by decide, by decide⟩ (mRecvC hK shC_ok (a := 2) rfl rfl fun As g r h => (hd_L_instructionAt h).1)) (mlk_cons (P := fun (idx : Nat) (q : Nat × Nat × mFn) => mCallOk p l e rm_M_step s m args below meth c Qc kc_M_step 5 D clA shC nmC csC cA ad A idx q.1 q.2.1 q.2.2) (mCV StC_stable ⟨hx, hb, hml, hown, hts⟩ hK hS (mTb_at 399 ⟨by decide +kernel, rfl⟩) mi_L_word ms_L_word mn_L mc_L_word (c_L_word l D cA ad A) ⟨rfl, rfl⟩ ⟨by decide, by decide, by decide +kernel⟩ ⟨by decide, by decide⟩ (mRecvC hK shC_ok (a := 2) rfl rfl fun As g r h => (hd_L_word h).1)) (mlk_cons (P := fun (idx : Nat) (q : Nat × Nat × mFn) => mCallOk p l e rm_M_step s m args below meth c Qc kc_M_step 5 D clA shC nmC csC cA ad A idx q.1 q.2.1 q.2.2) (mCU (x0 := ⟨"TriggerBase$Instruction", "ordinal", "()I"⟩) StC_stable ⟨hx, hb, hml, hown, hts⟩ hK hS rfl (mTb_at 402 ⟨by decide +kernel, rfl⟩) (mTb_at 403 ⟨by decide +kernel, rfl⟩) (mTb_at 405 ⟨by decide +kernel, rfl⟩) mi_E_ordinal mn_E mc_E_ordinal (c_E_ordinal l D cA ad A) ⟨rfl, rfl⟩ ⟨by decide, by decide, by decide +kernel⟩ ⟨by decide, by decide⟩ (recvI hS fun As g r h => (hd_E_ordinal h).1)) (mlk_cons (P := fun (idx : Nat) (q : Nat × Nat × mFn) => mCallOk p l e rm_M_step s m args below meth c Qc kc_M_step 5 D clA shC nmC csC cA ad A idx q.1 q.2.1 q.2.2) (mCS StC_stable ⟨hx, hb, hml, hown, hts⟩ hK hS (mTb_at 408 ⟨by decide +kernel, rfl⟩) mst_M_divide mn_M mc_M_divide (c_M_divide l D cA ad A) ⟨rfl, rfl⟩ ⟨by decide, by decide, by decide +kernel⟩ ⟨by decide, by decide⟩) (mlk_cons (P := fun (idx : Nat) (q : Nat × Nat × mFn) => mCallOk p l e rm_M_step s m args below meth c Qc kc_M_step 5 D clA shC nmC csC cA ad A idx q.1 q.2.1 q.2.2) (mCV StC_stable ⟨hx, hb, hml, hown, hts⟩ hK hS (mTb_at 411 ⟨by decide +kernel, rfl⟩) mi_F_pop ms_F_pop mn_F mc_F_pop (c_F_pop l D cA ad A) ⟨rfl, rfl⟩ ⟨by decide, by decide, by decide +kernel⟩ ⟨by decide, by decide⟩ (mRecvC hK shC_ok (a := 10) rfl rfl fun As g r h => (hd_F_pop h).1)) (mlk_cons (P := fun (idx : Nat) (q : Nat × Nat × mFn) => mCallOk p l e rm_M_step s m args below meth c Qc kc_M_step 5 D clA shC nmC csC cA ad A idx q.1 q.2.1 q.2.2) (mCV StC_stable ⟨hx, hb, hml, hown, hts⟩ hK hS (mTb_at 421 ⟨by decide +kernel, rfl⟩) mi_M_insert ms_M_insert mn_M mc_M_insert (c_M_insert l D cA ad A) ⟨rfl, rfl⟩ ⟨by decide, by decide, by decide +kernel⟩ ⟨by decide, by decide⟩ (mRecvC hK shC_ok (a := 1) rfl rfl fun As g r h => (hd_M_insert h).1)) (mlk_cons (P := fun (idx : Nat) (q : Nat × Nat × mFn) => mCallOk p l e rm_M_step s m args below meth c Qc kc_M_step 5 D clA shC nmC csC cA ad A idx q.1 q.2.1 q.2.2) (mCV StC_stable ⟨hx, hb, hml, hown, hts⟩ hK hS (mTb_at 459 ⟨by decide +kernel, rfl⟩) mi_M_delete ms_M_delete mn_M mc_M_delete (c_M_delete l D cA ad A) ⟨rfl, rfl⟩ ⟨by decide, by decide, by decide +kernel⟩ ⟨by decide, by decide⟩ (mRecvC hK shC_ok (a := 1) rfl rfl fun As g r h => (hd_M_delete h).1)) (mlk_cons (P := fun (idx : Nat) (q : Nat × Nat × mFn) => mCallOk p l e rm_M_step s m args below meth c Qc kc_M_step 5 D clA shC nmC csC cA ad A idx q.1 q.2.1 q.2.2) (mCV StC_stable ⟨hx, hb, hml, hown, hts⟩ hK hS (mTb_at 468 ⟨by decide +kernel, rfl⟩) mi_M_update ms_M_update mn_M mc_M_update (c_M_update l D cA ad A) ⟨rfl, rfl⟩ ⟨by decide, by decide, by decide +kernel⟩ ⟨by decide, by decide⟩ (mRecvC hK shC_ok (a := 1) rfl rfl fun As g r h => (hd_M_update h).1)) (mlk_cons (P := fun (idx : Nat) (q : Nat × Nat × mFn) => mCallOk p l e rm_M_step s m args below meth c Qc kc_M_step 5 D clA shC nmC csC cA ad A idx q.1 q.2.1 q.2.2) (mCV StC_stable ⟨hx, hb, hml, hown, hts⟩ hK hS (mTb_at 384 ⟨by decide +kernel, rfl⟩) mi_M_open ms_M_open mn_M mc_M_open (c_M_open l D cA ad A) ⟨rfl, rfl⟩ ⟨by decide, by decide, by decide +kernel⟩ ⟨by decide, by decide⟩ (mRecvC hK shC_ok (a := 1) rfl rfl fun As g r h => (hd_M_open h).1)) (mlk_cons (P := fun (idx : Nat) (q : Nat × Nat × mFn) => mCallOk p l e rm_M_step s m args below meth c Qc kc_M_step 5 D clA shC nmC csC cA ad A idx q.1 q.2.1 q.2.2) (mCV StC_stable ⟨hx, hb, hml, hown, hts⟩ hK hS (mTb_at 472 ⟨by decide +kernel, rfl⟩) mi_M_giveBack ms_M_giveBack mn_M mc_M_giveBack (c_M_giveBack l D cA ad A) ⟨rfl, rfl⟩ ⟨by decide, by decide, by decide +kernel⟩ ⟨by decide, by decide⟩ (mRecvC hK shC_ok (a := 1) rfl rfl fun As g r h => (hd_M_giveBack h).1)) (mlk_cons (P := fun (idx : Nat) (q : Nat × Nat × mFn) => mCallOk p l e rm_M_step s m args below meth c Qc kc_M_step 5 D clA shC nmC csC cA ad A idx q.1 q.2.1 q.2.2) (mCV StC_stable ⟨hx, hb, hml, hown, hts⟩ hK hS (mTb_at 476 ⟨by decide +kernel, rfl⟩) mi_M_compute ms_M_compute mn_M mc_M_compute (c_M_compute l D cA ad A) ⟨rfl, rfl⟩ ⟨by decide, by decide, by decide +kernel⟩ ⟨by decide, by decide⟩ (mRecvC hK shC_ok (a := 1) rfl rfl fun As g r h => (hd_M_compute h).1)) (mlk_none)))))))))))
  have hsp : ∀ idx n, mlk sp_M_step idx = some n → mSpOk rm_M_step s args "TriggerBase$Machine" idx n := by
    unfold sp_M_step
    exact mlk_none
  exact ⟨⟨hx, hb, hml, hown, hlk⟩, mTok.to tb_M_step_ok, ⟨hK, rfl, rfl, _, rfl⟩, shC_ok, mGlB.to uw_ok gl_M_ok ht, mPlB.to uw_ok pl_M_ok.1 pl_M_ok.2 ht, gsr_M hx hb hown ht hS, fer_M hx hb hown ht hS, smr hx hb hS, alr hx hb hS, lnr hx hb hS, fun i j hi hj => hS.1.2 i j hi hj, hct, hsp, ⟨(fun h => nomatch h), fun _ => hrt, (fun h => nomatch h), (fun h => nomatch h)⟩, hend⟩
theorem hd_T_takeBack {As : List mV} {g : mG} {r : mRes} (h : mFres (.inl f_T_takeBack) As g = some r) : mHd (some 3) As = true ∧ As.length = 1 ∧ ∃ k, rn_T_takeBack k 0 (mL0 As 1) [] g = some r := by
  obtain ⟨h1, h2, h3⟩ := mFun_inv (mFV_inv (t := t_T_takeBack) h)
  exact ⟨h1, h2, mEv_inv h3⟩
abbrev rm_T_takeBack : Room := { frames := 1, cells := 0, slots := 0, locals := 26 }
set_option maxRecDepth 100000 in
set_option maxHeartbeats 4000000 in
theorem c_T_takeBack (l : Launch) (D : va_G) (cA : Nat → ClassId) (ad : Nat → Nat → Nat) (A : Nat → Prop) : mCt l D clA (mTys cA) shC nmC csC cA ad A (StC ad A) yn_T_takeBack (mWs yn_T_takeBack kc_T_takeBack 1 none) rm_T_takeBack (.inl f_T_takeBack) := by
  refine mMetOf (T := tb_T_takeBack) (gl := gl_T) (pl := pl_T) (gs := gs_T) (fe := fe_T) (sm := smC) (ct := ct_T_takeBack) (sp := sp_T_takeBack) (rk := 0) (by decide) rfl StC_stable (fun As g r _ h => ⟨by rw [(hd_T_takeBack h).2.1]; decide, (hd_T_takeBack h).2.2⟩) ?_
  intro p e s m args below meth c Qc res hx hb hml hown hlk hrt hts hK hS hend
  have ht : ∀ w ∈ mTb, w.before args s = true := fun w hw => hts w (List.mem_cons_of_mem _ hw)
  have hct : ∀ idx q, mlk ct_T_takeBack idx = some q → mCallOk p l e rm_T_takeBack s m args below meth c Qc kc_T_takeBack 1 D clA shC nmC csC cA ad A idx q.1 q.2.1 q.2.2 := by
    unfold ct_T_takeBack
    exact mlk_none
  have hsp : ∀ idx n, mlk sp_T_takeBack idx = some n → mSpOk rm_T_takeBack s args "TriggerBase$Tables" idx n := by
    unfold sp_T_takeBack
    exact mlk_cons (P := fun (idx n : Nat) => mSpOk rm_T_takeBack s args "TriggerBase$Tables" idx n) (⟨(ht _ (mTb_at 381 ⟨by decide +kernel, rfl⟩)), (ht _ (mTb_at 383 ⟨by decide +kernel, rfl⟩)), (ht _ (mTb_at 382 ⟨by decide +kernel, rfl⟩)), (ht _ (mTb_at 49 ⟨by decide +kernel, rfl⟩)), by decide, by decide⟩) (mlk_none)
  exact ⟨⟨hx, hb, hml, hown, hlk⟩, mTok.to tb_T_takeBack_ok, ⟨hK, rfl, rfl, _, rfl⟩, shC_ok, mGlB.to uw_ok gl_T_ok ht, mPlB.to uw_ok pl_T_ok.1 pl_T_ok.2 ht, mlk_none, mlk_none, smr hx hb hS, alr hx hb hS, lnr hx hb hS, fun i j hi hj => hS.1.2 i j hi hj, hct, hsp, ⟨fun _ => hrt, (fun h => nomatch h), (fun h => nomatch h), (fun h => nomatch h)⟩, hend⟩
theorem hd_M_perform {As : List mV} {g : mG} {r : mRes} (h : mFres (.inr (.inl f_M_perform)) As g = some r) : mHd (some 1) As = true ∧ As.length = 4 ∧ ∃ k, rn_M_perform k 0 (mL0 As 6) [] g = some r := by
  obtain ⟨h1, h2, h3⟩ := mFun_inv (mFI_inv (t := t_M_perform) h)
  exact ⟨h1, h2, mEv_inv h3⟩
abbrev rm_M_perform : Room := { frames := 6, cells := 0, slots := 0, locals := 142 }
set_option maxRecDepth 100000 in
set_option maxHeartbeats 4000000 in
theorem c_M_perform (l : Launch) (D : va_G) (cA : Nat → ClassId) (ad : Nat → Nat → Nat) (A : Nat → Prop) : mCt l D clA (mTys cA) shC nmC csC cA ad A (StC ad A) yn_M_perform (mWs yn_M_perform kc_M_perform 6 (some .int)) rm_M_perform (.inr (.inl f_M_perform)) := by
  refine mMetOf (T := tb_M_perform) (gl := gl_M) (pl := pl_M) (gs := gs_M) (fe := fe_M) (sm := smC) (ct := ct_M_perform) (sp := sp_M_perform) (rk := 1) (by decide) rfl StC_stable (fun As g r _ h => ⟨by rw [(hd_M_perform h).2.1]; decide, (hd_M_perform h).2.2⟩) ?_
  intro p e s m args below meth c Qc res hx hb hml hown hlk hrt hts hK hS hend
  have ht : ∀ w ∈ mTb, w.before args s = true := fun w hw => hts w (List.mem_cons_of_mem _ hw)
  have hct : ∀ idx q, mlk ct_M_perform idx = some q → mCallOk p l e rm_M_perform s m args below meth c Qc kc_M_perform 6 D clA shC nmC csC cA ad A idx q.1 q.2.1 q.2.2 := by
    unfold ct_M_perform
    exact mlk_cons (P := fun (idx : Nat) (q : Nat × Nat × mFn) => mCallOk p l e rm_M_perform s m args below meth c Qc kc_M_perform 6 D clA shC nmC csC cA ad A idx q.1 q.2.1 q.2.2) (mCS StC_stable ⟨hx, hb, hml, hown, hts⟩ hK hS (mTb_at 375 ⟨by decide +kernel, rfl⟩) mst_A_fill mn_A mc_A_fill (c_A_fill l D cA ad A) ⟨rfl, rfl⟩ ⟨by decide, by decide, by decide +kernel⟩ ⟨by decide, by decide⟩) (mlk_cons (P := fun (idx : Nat) (q : Nat × Nat × mFn) => mCallOk p l e rm_M_perform s m args below meth c Qc kc_M_perform 6 D clA shC nmC csC cA ad A idx q.1 q.2.1 q.2.2) (mCV StC_stable ⟨hx, hb, hml, hown, hts⟩ hK hS (mTb_at 376 ⟨by decide +kernel, rfl⟩) mi_L_has ms_L_has mn_L mc_L_has (c_L_has l D cA ad A) ⟨rfl, rfl⟩ ⟨by decide, by decide, by decide +kernel⟩ ⟨by decide, by decide⟩ (mRecvC hK shC_ok (a := 2) rfl rfl fun As g r h => (hd_L_has h).1)) (mlk_cons (P := fun (idx : Nat) (q : Nat × Nat × mFn) => mCallOk p l e rm_M_perform s m args below meth c Qc kc_M_perform 6 D clA shC nmC csC cA ad A idx q.1 q.2.1 q.2.2) (mCV StC_stable ⟨hx, hb, hml, hown, hts⟩ hK hS (mTb_at 377 ⟨by decide +kernel, rfl⟩) mi_T_keep ms_T_keep mn_T mc_T_keep (c_T_keep l D cA ad A) ⟨rfl, rfl⟩ ⟨by decide, by decide, by decide +kernel⟩ ⟨by decide, by decide⟩ (mRecvC hK shC_ok (a := 3) rfl rfl fun As g r h => (hd_T_keep h).1)) (mlk_cons (P := fun (idx : Nat) (q : Nat × Nat × mFn) => mCallOk p l e rm_M_perform s m args below meth c Qc kc_M_perform 6 D clA shC nmC csC cA ad A idx q.1 q.2.1 q.2.2) (mCV StC_stable ⟨hx, hb, hml, hown, hts⟩ hK hS (mTb_at 384 ⟨by decide +kernel, rfl⟩) mi_M_open ms_M_open mn_M mc_M_open (c_M_open l D cA ad A) ⟨rfl, rfl⟩ ⟨by decide, by decide, by decide +kernel⟩ ⟨by decide, by decide⟩ (mRecvC hK shC_ok (a := 1) rfl rfl fun As g r h => (hd_M_open h).1)) (mlk_cons (P := fun (idx : Nat) (q : Nat × Nat × mFn) => mCallOk p l e rm_M_perform s m args below meth c Qc kc_M_perform 6 D clA shC nmC csC cA ad A idx q.1 q.2.1 q.2.2) (mCV StC_stable ⟨hx, hb, hml, hown, hts⟩ hK hS (mTb_at 394 ⟨by decide +kernel, rfl⟩) mi_M_step ms_M_step mn_M mc_M_step (c_M_step l D cA ad A) ⟨rfl, rfl⟩ ⟨by decide, by decide, by decide +kernel⟩ ⟨by decide, by decide⟩ (mRecvC hK shC_ok (a := 1) rfl rfl fun As g r h => (hd_M_step h).1)) (mlk_cons (P := fun (idx : Nat) (q : Nat × Nat × mFn) => mCallOk p l e rm_M_perform s m args below meth c Qc kc_M_perform 6 D clA shC nmC csC cA ad A idx q.1 q.2.1 q.2.2) (mCV StC_stable ⟨hx, hb, hml, hown, hts⟩ hK hS (mTb_at 502 ⟨by decide +kernel, rfl⟩) mi_T_takeBack ms_T_takeBack mn_T mc_T_takeBack (c_T_takeBack l D cA ad A) ⟨rfl, rfl⟩ ⟨by decide, by decide, by decide +kernel⟩ ⟨by decide, by decide⟩ (mRecvC hK shC_ok (a := 3) rfl rfl fun As g r h => (hd_T_takeBack h).1)) (mlk_none))))))
  have hsp : ∀ idx n, mlk sp_M_perform idx = some n → mSpOk rm_M_perform s args "TriggerBase$Machine" idx n := by
    unfold sp_M_perform
    exact mlk_none
  exact ⟨⟨hx, hb, hml, hown, hlk⟩, mTok.to tb_M_perform_ok, ⟨hK, rfl, rfl, _, rfl⟩, shC_ok, mGlB.to uw_ok gl_M_ok ht, mPlB.to uw_ok pl_M_ok.1 pl_M_ok.2 ht, gsr_M hx hb hown ht hS, fer_M hx hb hown ht hS, smr hx hb hS, alr hx hb hS, lnr hx hb hS, fun i j hi hj => hS.1.2 i j hi hj, hct, hsp, ⟨(fun h => nomatch h), fun _ => hrt, (fun h => nomatch h), (fun h => nomatch h)⟩, hend⟩
theorem hd_B_call {As : List mV} {g : mG} {r : mRes} (h : mFres (.inr (.inl f_B_call)) As g = some r) : mHd (some 0) As = true ∧ As.length = 4 ∧ ∃ k, rn_B_call k 0 (mL0 As 4) [] g = some r := by
  obtain ⟨h1, h2, h3⟩ := mFun_inv (mFI_inv (t := t_B_call) h)
  exact ⟨h1, h2, mEv_inv h3⟩
abbrev rm_B_call : Room := { frames := 7, cells := 0, slots := 0, locals := 167 }
set_option maxRecDepth 100000 in
set_option maxHeartbeats 4000000 in
theorem c_B_call (l : Launch) (D : va_G) (cA : Nat → ClassId) (ad : Nat → Nat → Nat) (A : Nat → Prop) : mCt l D clA (mTys cA) shC nmC csC cA ad A (StC ad A) yn_B_call (mWs yn_B_call kc_B_call 4 (some .int)) rm_B_call (.inr (.inl f_B_call)) := by
  refine mMetOf (T := tb_B_call) (gl := gl_B) (pl := pl_B) (gs := gs_B) (fe := fe_B) (sm := smC) (ct := ct_B_call) (sp := sp_B_call) (rk := 1) (by decide) rfl StC_stable (fun As g r _ h => ⟨by rw [(hd_B_call h).2.1]; decide, (hd_B_call h).2.2⟩) ?_
  intro p e s m args below meth c Qc res hx hb hml hown hlk hrt hts hK hS hend
  have ht : ∀ w ∈ mTb, w.before args s = true := fun w hw => hts w (List.mem_cons_of_mem _ hw)
  have hct : ∀ idx q, mlk ct_B_call idx = some q → mCallOk p l e rm_B_call s m args below meth c Qc kc_B_call 4 D clA shC nmC csC cA ad A idx q.1 q.2.1 q.2.2 := by
    unfold ct_B_call
    exact mlk_cons (P := fun (idx : Nat) (q : Nat × Nat × mFn) => mCallOk p l e rm_B_call s m args below meth c Qc kc_B_call 4 D clA shC nmC csC cA ad A idx q.1 q.2.1 q.2.2) (mCV StC_stable ⟨hx, hb, hml, hown, hts⟩ hK hS (mTb_at 371 ⟨by decide +kernel, rfl⟩) mi_M_perform ms_M_perform mn_M mc_M_perform (c_M_perform l D cA ad A) ⟨rfl, rfl⟩ ⟨by decide, by decide, by decide +kernel⟩ ⟨by decide, by decide⟩ (mRecvC hK shC_ok (a := 1) rfl rfl fun As g r h => (hd_M_perform h).1)) (mlk_none)
  have hsp : ∀ idx n, mlk sp_B_call idx = some n → mSpOk rm_B_call s args "TriggerBase" idx n := by
    unfold sp_B_call
    exact mlk_cons (P := fun (idx n : Nat) => mSpOk rm_B_call s args "TriggerBase" idx n) (⟨(ht _ (mTb_at 367 ⟨by decide +kernel, rfl⟩)), (ht _ (mTb_at 269 ⟨by decide +kernel, rfl⟩)), (ht _ (mTb_at 46 ⟨by decide +kernel, rfl⟩)), (ht _ (mTb_at 270 ⟨by decide +kernel, rfl⟩)), by decide, by decide⟩) (mlk_cons (P := fun (idx n : Nat) => mSpOk rm_B_call s args "TriggerBase" idx n) (⟨(ht _ (mTb_at 368 ⟨by decide +kernel, rfl⟩)), (ht _ (mTb_at 369 ⟨by decide +kernel, rfl⟩)), (ht _ (mTb_at 46 ⟨by decide +kernel, rfl⟩)), (ht _ (mTb_at 370 ⟨by decide +kernel, rfl⟩)), by decide, by decide⟩) (mlk_none))
  exact ⟨⟨hx, hb, hml, hown, hlk⟩, mTok.to tb_B_call_ok, ⟨hK, rfl, rfl, _, rfl⟩, shC_ok, mGlB.to uw_ok gl_B_ok ht, mPlB.to uw_ok pl_B_ok.1 pl_B_ok.2 ht, mlk_none, mlk_none, smr hx hb hS, alr hx hb hS, lnr hx hb hS, fun i j hi hj => hS.1.2 i j hi hj, hct, hsp, ⟨(fun h => nomatch h), fun _ => hrt, (fun h => nomatch h), (fun h => nomatch h)⟩, hend⟩
theorem hd_B_value {As : List mV} {g : mG} {r : mRes} (h : mFres (.inr (.inl f_B_value)) As g = some r) : mHd (some 0) As = true ∧ As.length = 1 ∧ ∃ k, rn_B_value k 0 (mL0 As 1) [] g = some r := by
  obtain ⟨h1, h2, h3⟩ := mFun_inv (mFI_inv (t := t_B_value) h)
  exact ⟨h1, h2, mEv_inv h3⟩
abbrev rm_B_value : Room := { frames := 0, cells := 0, slots := 0, locals := 0 }
set_option maxRecDepth 100000 in
set_option maxHeartbeats 4000000 in
theorem c_B_value (l : Launch) (D : va_G) (cA : Nat → ClassId) (ad : Nat → Nat → Nat) (A : Nat → Prop) : mCt l D clA (mTys cA) shC nmC csC cA ad A (StC ad A) yn_B_value (mWs yn_B_value kc_B_value 1 (some .int)) rm_B_value (.inr (.inl f_B_value)) := by
  refine mMetOf (T := tb_B_value) (gl := gl_B) (pl := pl_B) (gs := gs_B) (fe := fe_B) (sm := smC) (ct := ct_B_value) (sp := sp_B_value) (rk := 1) (by decide) rfl StC_stable (fun As g r _ h => ⟨by rw [(hd_B_value h).2.1]; decide, (hd_B_value h).2.2⟩) ?_
  intro p e s m args below meth c Qc res hx hb hml hown hlk hrt hts hK hS hend
  have ht : ∀ w ∈ mTb, w.before args s = true := fun w hw => hts w (List.mem_cons_of_mem _ hw)
  have hct : ∀ idx q, mlk ct_B_value idx = some q → mCallOk p l e rm_B_value s m args below meth c Qc kc_B_value 1 D clA shC nmC csC cA ad A idx q.1 q.2.1 q.2.2 := by
    unfold ct_B_value
    exact mlk_none
  have hsp : ∀ idx n, mlk sp_B_value idx = some n → mSpOk rm_B_value s args "TriggerBase" idx n := by
    unfold sp_B_value
    exact mlk_none
  exact ⟨⟨hx, hb, hml, hown, hlk⟩, mTok.to tb_B_value_ok, ⟨hK, rfl, rfl, _, rfl⟩, shC_ok, mGlB.to uw_ok gl_B_ok ht, mPlB.to uw_ok pl_B_ok.1 pl_B_ok.2 ht, mlk_none, mlk_none, smr hx hb hS, alr hx hb hS, lnr hx hb hS, fun i j hi hj => hS.1.2 i j hi hj, hct, hsp, ⟨(fun h => nomatch h), fun _ => hrt, (fun h => nomatch h), (fun h => nomatch h)⟩, hend⟩
theorem hd_B_count {As : List mV} {g : mG} {r : mRes} (h : mFres (.inr (.inl f_B_count)) As g = some r) : mHd (some 0) As = true ∧ As.length = 2 ∧ ∃ k, rn_B_count k 0 (mL0 As 2) [] g = some r := by
  obtain ⟨h1, h2, h3⟩ := mFun_inv (mFI_inv (t := t_B_count) h)
  exact ⟨h1, h2, mEv_inv h3⟩
abbrev rm_B_count : Room := { frames := 1, cells := 0, slots := 0, locals := 21 }
set_option maxRecDepth 100000 in
set_option maxHeartbeats 4000000 in
theorem c_B_count (l : Launch) (D : va_G) (cA : Nat → ClassId) (ad : Nat → Nat → Nat) (A : Nat → Prop) : mCt l D clA (mTys cA) shC nmC csC cA ad A (StC ad A) yn_B_count (mWs yn_B_count kc_B_count 2 (some .int)) rm_B_count (.inr (.inl f_B_count)) := by
  refine mMetOf (T := tb_B_count) (gl := gl_B) (pl := pl_B) (gs := gs_B) (fe := fe_B) (sm := smC) (ct := ct_B_count) (sp := sp_B_count) (rk := 1) (by decide) rfl StC_stable (fun As g r _ h => ⟨by rw [(hd_B_count h).2.1]; decide, (hd_B_count h).2.2⟩) ?_
  intro p e s m args below meth c Qc res hx hb hml hown hlk hrt hts hK hS hend
  have ht : ∀ w ∈ mTb, w.before args s = true := fun w hw => hts w (List.mem_cons_of_mem _ hw)
  have hct : ∀ idx q, mlk ct_B_count idx = some q → mCallOk p l e rm_B_count s m args below meth c Qc kc_B_count 2 D clA shC nmC csC cA ad A idx q.1 q.2.1 q.2.2 := by
    unfold ct_B_count
    exact mlk_cons (P := fun (idx : Nat) (q : Nat × Nat × mFn) => mCallOk p l e rm_B_count s m args below meth c Qc kc_B_count 2 D clA shC nmC csC cA ad A idx q.1 q.2.1 q.2.2) (mCS StC_stable ⟨hx, hb, hml, hown, hts⟩ hK hS (mTb_at 345 ⟨by decide +kernel, rfl⟩) mst_B_isBelow mn_B mc_B_isBelow (c_B_isBelow l D cA ad A) ⟨rfl, rfl⟩ ⟨by decide, by decide, by decide +kernel⟩ ⟨by decide, by decide⟩) (mlk_none)
  have hsp : ∀ idx n, mlk sp_B_count idx = some n → mSpOk rm_B_count s args "TriggerBase" idx n := by
    unfold sp_B_count
    exact mlk_none
  exact ⟨⟨hx, hb, hml, hown, hlk⟩, mTok.to tb_B_count_ok, ⟨hK, rfl, rfl, _, rfl⟩, shC_ok, mGlB.to uw_ok gl_B_ok ht, mPlB.to uw_ok pl_B_ok.1 pl_B_ok.2 ht, mlk_none, mlk_none, smr hx hb hS, alr hx hb hS, lnr hx hb hS, fun i j hi hj => hS.1.2 i j hi hj, hct, hsp, ⟨(fun h => nomatch h), fun _ => hrt, (fun h => nomatch h), (fun h => nomatch h)⟩, hend⟩
theorem hd_B_rows {As : List mV} {g : mG} {r : mRes} (h : mFres (.inr (.inl f_B_rows)) As g = some r) : mHd (some 0) As = true ∧ As.length = 2 ∧ ∃ k, rn_B_rows k 0 (mL0 As 2) [] g = some r := by
  obtain ⟨h1, h2, h3⟩ := mFun_inv (mFI_inv (t := t_B_rows) h)
  exact ⟨h1, h2, mEv_inv h3⟩
abbrev rm_B_rows : Room := { frames := 2, cells := 0, slots := 0, locals := 42 }
set_option maxRecDepth 100000 in
set_option maxHeartbeats 4000000 in
theorem c_B_rows (l : Launch) (D : va_G) (cA : Nat → ClassId) (ad : Nat → Nat → Nat) (A : Nat → Prop) : mCt l D clA (mTys cA) shC nmC csC cA ad A (StC ad A) yn_B_rows (mWs yn_B_rows kc_B_rows 2 (some .int)) rm_B_rows (.inr (.inl f_B_rows)) := by
  refine mMetOf (T := tb_B_rows) (gl := gl_B) (pl := pl_B) (gs := gs_B) (fe := fe_B) (sm := smC) (ct := ct_B_rows) (sp := sp_B_rows) (rk := 1) (by decide) rfl StC_stable (fun As g r _ h => ⟨by rw [(hd_B_rows h).2.1]; decide, (hd_B_rows h).2.2⟩) ?_
  intro p e s m args below meth c Qc res hx hb hml hown hlk hrt hts hK hS hend
  have ht : ∀ w ∈ mTb, w.before args s = true := fun w hw => hts w (List.mem_cons_of_mem _ hw)
  have hct : ∀ idx q, mlk ct_B_rows idx = some q → mCallOk p l e rm_B_rows s m args below meth c Qc kc_B_rows 2 D clA shC nmC csC cA ad A idx q.1 q.2.1 q.2.2 := by
    unfold ct_B_rows
    exact mlk_cons (P := fun (idx : Nat) (q : Nat × Nat × mFn) => mCallOk p l e rm_B_rows s m args below meth c Qc kc_B_rows 2 D clA shC nmC csC cA ad A idx q.1 q.2.1 q.2.2) (mCV StC_stable ⟨hx, hb, hml, hown, hts⟩ hK hS (mTb_at 518 ⟨by decide +kernel, rfl⟩) mi_T_size ms_T_size mn_T mc_T_size (c_T_size l D cA ad A) ⟨rfl, rfl⟩ ⟨by decide, by decide, by decide +kernel⟩ ⟨by decide, by decide⟩ (mRecvC hK shC_ok (a := 3) rfl rfl fun As g r h => (hd_T_size h).1)) (mlk_none)
  have hsp : ∀ idx n, mlk sp_B_rows idx = some n → mSpOk rm_B_rows s args "TriggerBase" idx n := by
    unfold sp_B_rows
    exact mlk_none
  exact ⟨⟨hx, hb, hml, hown, hlk⟩, mTok.to tb_B_rows_ok, ⟨hK, rfl, rfl, _, rfl⟩, shC_ok, mGlB.to uw_ok gl_B_ok ht, mPlB.to uw_ok pl_B_ok.1 pl_B_ok.2 ht, mlk_none, mlk_none, smr hx hb hS, alr hx hb hS, lnr hx hb hS, fun i j hi hj => hS.1.2 i j hi hj, hct, hsp, ⟨(fun h => nomatch h), fun _ => hrt, (fun h => nomatch h), (fun h => nomatch h)⟩, hend⟩
theorem hd_B_cell {As : List mV} {g : mG} {r : mRes} (h : mFres (.inr (.inl f_B_cell)) As g = some r) : mHd (some 0) As = true ∧ As.length = 4 ∧ ∃ k, rn_B_cell k 0 (mL0 As 4) [] g = some r := by
  obtain ⟨h1, h2, h3⟩ := mFun_inv (mFI_inv (t := t_B_cell) h)
  exact ⟨h1, h2, mEv_inv h3⟩
abbrev rm_B_cell : Room := { frames := 3, cells := 0, slots := 0, locals := 66 }
set_option maxRecDepth 100000 in
set_option maxHeartbeats 4000000 in
theorem c_B_cell (l : Launch) (D : va_G) (cA : Nat → ClassId) (ad : Nat → Nat → Nat) (A : Nat → Prop) : mCt l D clA (mTys cA) shC nmC csC cA ad A (StC ad A) yn_B_cell (mWs yn_B_cell kc_B_cell 4 (some .int)) rm_B_cell (.inr (.inl f_B_cell)) := by
  refine mMetOf (T := tb_B_cell) (gl := gl_B) (pl := pl_B) (gs := gs_B) (fe := fe_B) (sm := smC) (ct := ct_B_cell) (sp := sp_B_cell) (rk := 1) (by decide) rfl StC_stable (fun As g r _ h => ⟨by rw [(hd_B_cell h).2.1]; decide, (hd_B_cell h).2.2⟩) ?_
  intro p e s m args below meth c Qc res hx hb hml hown hlk hrt hts hK hS hend
  have ht : ∀ w ∈ mTb, w.before args s = true := fun w hw => hts w (List.mem_cons_of_mem _ hw)
  have hct : ∀ idx q, mlk ct_B_cell idx = some q → mCallOk p l e rm_B_cell s m args below meth c Qc kc_B_cell 4 D clA shC nmC csC cA ad A idx q.1 q.2.1 q.2.2 := by
    unfold ct_B_cell
    exact mlk_cons (P := fun (idx : Nat) (q : Nat × Nat × mFn) => mCallOk p l e rm_B_cell s m args below meth c Qc kc_B_cell 4 D clA shC nmC csC cA ad A idx q.1 q.2.1 q.2.2) (mCV StC_stable ⟨hx, hb, hml, hown, hts⟩ hK hS (mTb_at 523 ⟨by decide +kernel, rfl⟩) mi_T_read ms_T_read mn_T mc_T_read (c_T_read l D cA ad A) ⟨rfl, rfl⟩ ⟨by decide, by decide, by decide +kernel⟩ ⟨by decide, by decide⟩ (mRecvC hK shC_ok (a := 3) rfl rfl fun As g r h => (hd_T_read h).1)) (mlk_none)
  have hsp : ∀ idx n, mlk sp_B_cell idx = some n → mSpOk rm_B_cell s args "TriggerBase" idx n := by
    unfold sp_B_cell
    exact mlk_none
  exact ⟨⟨hx, hb, hml, hown, hlk⟩, mTok.to tb_B_cell_ok, ⟨hK, rfl, rfl, _, rfl⟩, shC_ok, mGlB.to uw_ok gl_B_ok ht, mPlB.to uw_ok pl_B_ok.1 pl_B_ok.2 ht, mlk_none, mlk_none, smr hx hb hS, alr hx hb hS, lnr hx hb hS, fun i j hi hj => hS.1.2 i j hi hj, hct, hsp, ⟨(fun h => nomatch h), fun _ => hrt, (fun h => nomatch h), (fun h => nomatch h)⟩, hend⟩
