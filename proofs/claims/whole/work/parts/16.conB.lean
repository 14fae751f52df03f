theorem hd_V_firstFault {As : List mV} {g : mG} {r : mRes} (h : mFres (.inr (.inl f_V_firstFault)) As g = some r) : mHd (some 5) As = true ∧ As.length = 3 ∧ ∃ k, rn_V_firstFault k 0 (mL0 As 4) [] g = some r := by
  obtain ⟨h1, h2, h3⟩ := mFun_inv (mFI_inv (t := t_V_firstFault) h)
  exact ⟨h1, h2, mEv_inv h3⟩
abbrev rm_V_firstFault : Room := { frames := 5, cells := 0, slots := 0, locals := 119 }
set_option maxRecDepth 100000 in
set_option maxHeartbeats 4000000 in
theorem c_V_firstFault (l : Launch) (D : va_G) (cA : Nat → ClassId) (ad : Nat → Nat → Nat) (A : Nat → Prop) : mCt l D clA (mTys cA) shC nmC csC cA ad A (StC ad A) yn_V_firstFault (mWs yn_V_firstFault kc_V_firstFault 4 (some .int)) rm_V_firstFault (.inr (.inl f_V_firstFault)) := by
  refine mMetOf (T := tb_V_firstFault) (gl := gl_V) (pl := pl_V) (gs := gs_V) (fe := fe_V) (sm := smC) (ct := ct_V_firstFault) (sp := sp_V_firstFault) (rk := 1) (by decide) rfl StC_stable (fun As g r _ h => ⟨by rw [(hd_V_firstFault h).2.1]; decide, (hd_V_firstFault h).2.2⟩) ?_
  intro p e s m args below meth c Qc res hx hb hml hown hlk hrt hts hK hS hend
  have ht : ∀ w ∈ mTb, w.before args s = true := fun w hw => hts w (List.mem_cons_of_mem _ hw)
  have hct : ∀ idx q, mlk ct_V_firstFault idx = some q → mCallOk p l e rm_V_firstFault s m args below meth c Qc kc_V_firstFault 4 D clA shC nmC csC cA ad A idx q.1 q.2.1 q.2.2 := by
    unfold ct_V_firstFault
    exact mlk_cons (P := fun (idx : Nat) (q : Nat × Nat × mFn) => mCallOk p l e rm_V_firstFault s m args below meth c Qc kc_V_firstFault 4 D clA shC nmC csC cA ad A idx q.1 q.2.1 q.2.2) (mCV StC_stable ⟨hx, hb, hml, hown, hts⟩ hK hS (mTb_at 262 ⟨by decide +kernel, rfl⟩) mi_V_faultOfWords ms_V_faultOfWords mn_V mc_V_faultOfWords (c_V_faultOfWords l D cA ad A) ⟨rfl, rfl⟩ ⟨by decide, by decide, by decide +kernel⟩ ⟨by decide, by decide⟩ (mRecvC hK shC_ok (a := 5) rfl rfl fun As g r h => (hd_V_faultOfWords h).1)) (mlk_cons (P := fun (idx : Nat) (q : Nat × Nat × mFn) => mCallOk p l e rm_V_firstFault s m args below meth c Qc kc_V_firstFault 4 D clA shC nmC csC cA ad A idx q.1 q.2.1 q.2.2) (mCV StC_stable ⟨hx, hb, hml, hown, hts⟩ hK hS (mTb_at 299 ⟨by decide +kernel, rfl⟩) mi_V_faultOfPlaces ms_V_faultOfPlaces mn_V mc_V_faultOfPlaces (c_V_faultOfPlaces l D cA ad A) ⟨rfl, rfl⟩ ⟨by decide, by decide, by decide +kernel⟩ ⟨by decide, by decide⟩ (mRecvC hK shC_ok (a := 5) rfl rfl fun As g r h => (hd_V_faultOfPlaces h).1)) (mlk_cons (P := fun (idx : Nat) (q : Nat × Nat × mFn) => mCallOk p l e rm_V_firstFault s m args below meth c Qc kc_V_firstFault 4 D clA shC nmC csC cA ad A idx q.1 q.2.1 q.2.2) (mCV StC_stable ⟨hx, hb, hml, hown, hts⟩ hK hS (mTb_at 311 ⟨by decide +kernel, rfl⟩) mi_V_faultOfHeights ms_V_faultOfHeights mn_V mc_V_faultOfHeights (c_V_faultOfHeights l D cA ad A) ⟨rfl, rfl⟩ ⟨by decide, by decide, by decide +kernel⟩ ⟨by decide, by decide⟩ (mRecvC hK shC_ok (a := 5) rfl rfl fun As g r h => (hd_V_faultOfHeights h).1)) (mlk_none)))
  have hsp : ∀ idx n, mlk sp_V_firstFault idx = some n → mSpOk rm_V_firstFault s args "TriggerBase$Verifier" idx n := by
    unfold sp_V_firstFault
    exact mlk_none
  exact ⟨⟨hx, hb, hml, hown, hlk⟩, mTok.to tb_V_firstFault_ok, ⟨hK, rfl, rfl, _, rfl⟩, shC_ok, mGlB.to uw_ok gl_V_ok ht, mPlB.to uw_ok pl_V_ok.1 pl_V_ok.2 ht, gsr_V hx hb hown ht hS, fer_V hx hb hown ht hS, smr hx hb hS, alr hx hb hS, lnr hx hb hS, fun i j hi hj => hS.1.2 i j hi hj, hct, hsp, ⟨(fun h => nomatch h), fun _ => hrt, (fun h => nomatch h), (fun h => nomatch h)⟩, hend⟩
theorem hd_L_closeOpen {As : List mV} {g : mG} {r : mRes} (h : mFres (.inr (.inl f_L_closeOpen)) As g = some r) : mHd (some 2) As = true ∧ As.length = 1 ∧ ∃ k, rn_L_closeOpen k 0 (mL0 As 2) [] g = some r := by
  obtain ⟨h1, h2, h3⟩ := mFun_inv (mFI_inv (t := t_L_closeOpen) h)
  exact ⟨h1, h2, mEv_inv h3⟩
abbrev rm_L_closeOpen : Room := { frames := 6, cells := 0, slots := 0, locals := 142 }
set_option maxRecDepth 100000 in
set_option maxHeartbeats 4000000 in
theorem c_L_closeOpen (l : Launch) (D : va_G) (cA : Nat → ClassId) (ad : Nat → Nat → Nat) (A : Nat → Prop) : mCt l D clA (mTys cA) shC nmC csC cA ad A (StC ad A) yn_L_closeOpen (mWs yn_L_closeOpen kc_L_closeOpen 2 (some .int)) rm_L_closeOpen (.inr (.inl f_L_closeOpen)) := by
  refine mMetOf (T := tb_L_closeOpen) (gl := gl_L) (pl := pl_L) (gs := gs_L) (fe := fe_L) (sm := smC) (ct := ct_L_closeOpen) (sp := sp_L_closeOpen) (rk := 1) (by decide) rfl StC_stable (fun As g r _ h => ⟨by rw [(hd_L_closeOpen h).2.1]; decide, (hd_L_closeOpen h).2.2⟩) ?_
  intro p e s m args below meth c Qc res hx hb hml hown hlk hrt hts hK hS hend
  have ht : ∀ w ∈ mTb, w.before args s = true := fun w hw => hts w (List.mem_cons_of_mem _ hw)
  have hct : ∀ idx q, mlk ct_L_closeOpen idx = some q → mCallOk p l e rm_L_closeOpen s m args below meth c Qc kc_L_closeOpen 2 D clA shC nmC csC cA ad A idx q.1 q.2.1 q.2.2 := by
    unfold ct_L_closeOpen
    exact mlk_cons (P := fun (idx : Nat) (q : Nat × Nat × mFn) => mCallOk p l e rm_L_closeOpen s m args below meth c Qc kc_L_closeOpen 2 D clA shC nmC csC cA ad A idx q.1 q.2.1 q.2.2) (mCV StC_stable ⟨hx, hb, hml, hown, hts⟩ hK hS (mTb_at 258 ⟨by decide +kernel, rfl⟩) mi_V_firstFault ms_V_firstFault mn_V mc_V_firstFault (c_V_firstFault l D cA ad A) ⟨rfl, rfl⟩ ⟨by decide, by decide, by decide +kernel⟩ ⟨by decide, by decide⟩ (mRecvC hK shC_ok (a := 5) rfl rfl fun As g r h => (hd_V_firstFault h).1)) (mlk_none)
  have hsp : ∀ idx n, mlk sp_L_closeOpen idx = some n → mSpOk rm_L_closeOpen s args "TriggerBase$Library" idx n := by
    unfold sp_L_closeOpen
    exact mlk_none
  exact ⟨⟨hx, hb, hml, hown, hlk⟩, mTok.to tb_L_closeOpen_ok, ⟨hK, rfl, rfl, _, rfl⟩, shC_ok, mGlB.to uw_ok gl_L_ok ht, mPlB.to uw_ok pl_L_ok.1 pl_L_ok.2 ht, mlk_none, mlk_none, smr hx hb hS, alr hx hb hS, lnr hx hb hS, fun i j hi hj => hS.1.2 i j hi hj, hct, hsp, ⟨(fun h => nomatch h), fun _ => hrt, (fun h => nomatch h), (fun h => nomatch h)⟩, hend⟩
theorem hd_B_end {As : List mV} {g : mG} {r : mRes} (h : mFres (.inr (.inl f_B_end)) As g = some r) : mHd (some 0) As = true ∧ As.length = 1 ∧ ∃ k, rn_B_end k 0 (mL0 As 1) [] g = some r := by
  obtain ⟨h1, h2, h3⟩ := mFun_inv (mFI_inv (t := t_B_end) h)
  exact ⟨h1, h2, mEv_inv h3⟩
abbrev rm_B_end : Room := { frames := 7, cells := 0, slots := 0, locals := 163 }
set_option maxRecDepth 100000 in
set_option maxHeartbeats 4000000 in
theorem c_B_end (l : Launch) (D : va_G) (cA : Nat → ClassId) (ad : Nat → Nat → Nat) (A : Nat → Prop) : mCt l D clA (mTys cA) shC nmC csC cA ad A (StC ad A) yn_B_end (mWs yn_B_end kc_B_end 1 (some .int)) rm_B_end (.inr (.inl f_B_end)) := by
  refine mMetOf (T := tb_B_end) (gl := gl_B) (pl := pl_B) (gs := gs_B) (fe := fe_B) (sm := smC) (ct := ct_B_end) (sp := sp_B_end) (rk := 1) (by decide) rfl StC_stable (fun As g r _ h => ⟨by rw [(hd_B_end h).2.1]; decide, (hd_B_end h).2.2⟩) ?_
  intro p e s m args below meth c Qc res hx hb hml hown hlk hrt hts hK hS hend
  have ht : ∀ w ∈ mTb, w.before args s = true := fun w hw => hts w (List.mem_cons_of_mem _ hw)
  have hct : ∀ idx q, mlk ct_B_end idx = some q → mCallOk p l e rm_B_end s m args below meth c Qc kc_B_end 1 D clA shC nmC csC cA ad A idx q.1 q.2.1 q.2.2 := by
    unfold ct_B_end
    exact mlk_cons (P := fun (idx : Nat) (q : Nat × Nat × mFn) => mCallOk p l e rm_B_end s m args below meth c Qc kc_B_end 1 D clA shC nmC csC cA ad A idx q.1 q.2.1 q.2.2) (mCV StC_stable ⟨hx, hb, hml, hown, hts⟩ hK hS (mTb_at 254 ⟨by decide +kernel, rfl⟩) mi_L_closeOpen ms_L_closeOpen mn_L mc_L_closeOpen (c_L_closeOpen l D cA ad A) ⟨rfl, rfl⟩ ⟨by decide, by decide, by decide +kernel⟩ ⟨by decide, by decide⟩ (mRecvC hK shC_ok (a := 2) rfl rfl fun As g r h => (hd_L_closeOpen h).1)) (mlk_none)
  have hsp : ∀ idx n, mlk sp_B_end idx = some n → mSpOk rm_B_end s args "TriggerBase" idx n := by
    unfold sp_B_end
    exact mlk_none
  exact ⟨⟨hx, hb, hml, hown, hlk⟩, mTok.to tb_B_end_ok, ⟨hK, rfl, rfl, _, rfl⟩, shC_ok, mGlB.to uw_ok gl_B_ok ht, mPlB.to uw_ok pl_B_ok.1 pl_B_ok.2 ht, mlk_none, mlk_none, smr hx hb hS, alr hx hb hS, lnr hx hb hS, fun i j hi hj => hS.1.2 i j hi hj, hct, hsp, ⟨(fun h => nomatch h), fun _ => hrt, (fun h => nomatch h), (fun h => nomatch h)⟩, hend⟩
theorem hd_B_procedures {As : List mV} {g : mG} {r : mRes} (h : mFres (.inr (.inl f_B_procedures)) As g = some r) : mHd (some 0) As = true ∧ As.length = 1 ∧ ∃ k, rn_B_procedures k 0 (mL0 As 1) [] g = some r := by
  obtain ⟨h1, h2, h3⟩ := mFun_inv (mFI_inv (t := t_B_procedures) h)
  exact ⟨h1, h2, mEv_inv h3⟩
abbrev rm_B_procedures : Room := { frames := 0, cells := 0, slots := 0, locals := 0 }
set_option maxRecDepth 100000 in
set_option maxHeartbeats 4000000 in
theorem c_B_procedures (l : Launch) (D : va_G) (cA : Nat → ClassId) (ad : Nat → Nat → Nat) (A : Nat → Prop) : mCt l D clA (mTys cA) shC nmC csC cA ad A (StC ad A) yn_B_procedures (mWs yn_B_procedures kc_B_procedures 1 (some .int)) rm_B_procedures (.inr (.inl f_B_procedures)) := by
  refine mMetOf (T := tb_B_procedures) (gl := gl_B) (pl := pl_B) (gs := gs_B) (fe := fe_B) (sm := smC) (ct := ct_B_procedures) (sp := sp_B_procedures) (rk := 1) (by decide) rfl StC_stable (fun As g r _ h => ⟨by rw [(hd_B_procedures h).2.1]; decide, (hd_B_procedures h).2.2⟩) ?_
  intro p e s m args below meth c Qc res hx hb hml hown hlk hrt hts hK hS hend
  have ht : ∀ w ∈ mTb, w.before args s = true := fun w hw => hts w (List.mem_cons_of_mem _ hw)
  have hct : ∀ idx q, mlk ct_B_procedures idx = some q → mCallOk p l e rm_B_procedures s m args below meth c Qc kc_B_procedures 1 D clA shC nmC csC cA ad A idx q.1 q.2.1 q.2.2 := by
    unfold ct_B_procedures
    exact mlk_none
  have hsp : ∀ idx n, mlk sp_B_procedures idx = some n → mSpOk rm_B_procedures s args "TriggerBase" idx n := by
    unfold sp_B_procedures
    exact mlk_none
  exact ⟨⟨hx, hb, hml, hown, hlk⟩, mTok.to tb_B_procedures_ok, ⟨hK, rfl, rfl, _, rfl⟩, shC_ok, mGlB.to uw_ok gl_B_ok ht, mPlB.to uw_ok pl_B_ok.1 pl_B_ok.2 ht, mlk_none, mlk_none, smr hx hb hS, alr hx hb hS, lnr hx hb hS, fun i j hi hj => hS.1.2 i j hi hj, hct, hsp, ⟨(fun h => nomatch h), fun _ => hrt, (fun h => nomatch h), (fun h => nomatch h)⟩, hend⟩
theorem hd_L_has {As : List mV} {g : mG} {r : mRes} (h : mFres (.inr (.inl f_L_has)) As g = some r) : mHd (some 2) As = true ∧ As.length = 2 ∧ ∃ k, rn_L_has k 0 (mL0 As 2) [] g = some r := by
  obtain ⟨h1, h2, h3⟩ := mFun_inv (mFI_inv (t := t_L_has) h)
  exact ⟨h1, h2, mEv_inv h3⟩
abbrev rm_L_has : Room := { frames := 1, cells := 0, slots := 0, locals := 21 }
set_option maxRecDepth 100000 in
set_option maxHeartbeats 4000000 in
theorem c_L_has (l : Launch) (D : va_G) (cA : Nat → ClassId) (ad : Nat → Nat → Nat) (A : Nat → Prop) : mCt l D clA (mTys cA) shC nmC csC cA ad A (StC ad A) yn_L_has (mWs yn_L_has kc_L_has 2 (some .boolean)) rm_L_has (.inr (.inl f_L_has)) := by
  refine mMetOf (T := tb_L_has) (gl := gl_L) (pl := pl_L) (gs := gs_L) (fe := fe_L) (sm := smC) (ct := ct_L_has) (sp := sp_L_has) (rk := 2) (by decide) rfl StC_stable (fun As g r _ h => ⟨by rw [(hd_L_has h).2.1]; decide, (hd_L_has h).2.2⟩) ?_
  intro p e s m args below meth c Qc res hx hb hml hown hlk hrt hts hK hS hend
  have ht : ∀ w ∈ mTb, w.before args s = true := fun w hw => hts w (List.mem_cons_of_mem _ hw)
  have hct : ∀ idx q, mlk ct_L_has idx = some q → mCallOk p l e rm_L_has s m args below meth c Qc kc_L_has 2 D clA shC nmC csC cA ad A idx q.1 q.2.1 q.2.2 := by
    unfold ct_L_has
    exact mlk_cons (P := fun (idx : Nat) (q : Nat × Nat × mFn) => mCallOk p l e rm_L_has s m args below meth c Qc kc_L_has 2 D clA shC nmC csC cA ad A idx q.1 q.2.1 q.2.2) (mCSN (host := "TriggerBase") StC_stable ⟨hx, hb, hml, hown, hts⟩ hK hS (hS.2.2.2 ("TriggerBase$Library", 33) (by decide)) mst_B_isBelow mn_B mc_B_isBelow (c_B_isBelow l D cA ad A) ⟨rfl, rfl⟩ ⟨by decide, by decide, by decide +kernel⟩ ⟨by decide, by decide⟩) (mlk_none)
  have hsp : ∀ idx n, mlk sp_L_has idx = some n → mSpOk rm_L_has s args "TriggerBase$Library" idx n := by
    unfold sp_L_has
    exact mlk_none
  exact ⟨⟨hx, hb, hml, hown, hlk⟩, mTok.to tb_L_has_ok, ⟨hK, rfl, rfl, _, rfl⟩, shC_ok, mGlB.to uw_ok gl_L_ok ht, mPlB.to uw_ok pl_L_ok.1 pl_L_ok.2 ht, mlk_none, mlk_none, smr hx hb hS, alr hx hb hS, lnr hx hb hS, fun i j hi hj => hS.1.2 i j hi hj, hct, hsp, ⟨(fun h => nomatch h), (fun h => nomatch h), fun _ => hrt, (fun h => nomatch h)⟩, hend⟩
theorem hd_G_put {As : List mV} {g : mG} {r : mRes} (h : mFres (.inl f_G_put) As g = some r) : mHd (some 4) As = true ∧ As.length = 4 ∧ ∃ k, rn_G_put k 0 (mL0 As 4) [] g = some r := by
  obtain ⟨h1, h2, h3⟩ := mFun_inv (mFV_inv (t := t_G_put) h)
  exact ⟨h1, h2, mEv_inv h3⟩
abbrev rm_G_put : Room := { frames := 1, cells := 0, slots := 0, locals := 21 }
set_option maxRecDepth 100000 in
set_option maxHeartbeats 4000000 in
theorem c_G_put (l : Launch) (D : va_G) (cA : Nat → ClassId) (ad : Nat → Nat → Nat) (A : Nat → Prop) : mCt l D clA (mTys cA) shC nmC csC cA ad A (StC ad A) yn_G_put (mWs yn_G_put kc_G_put 4 none) rm_G_put (.inl f_G_put) := by
  refine mMetOf (T := tb_G_put) (gl := gl_G) (pl := pl_G) (gs := gs_G) (fe := fe_G) (sm := smC) (ct := ct_G_put) (sp := sp_G_put) (rk := 0) (by decide) rfl StC_stable (fun As g r _ h => ⟨by rw [(hd_G_put h).2.1]; decide, (hd_G_put h).2.2⟩) ?_
  intro p e s m args below meth c Qc res hx hb hml hown hlk hrt hts hK hS hend
  have ht : ∀ w ∈ mTb, w.before args s = true := fun w hw => hts w (List.mem_cons_of_mem _ hw)
  have hct : ∀ idx q, mlk ct_G_put idx = some q → mCallOk p l e rm_G_put s m args below meth c Qc kc_G_put 4 D clA shC nmC csC cA ad A idx q.1 q.2.1 q.2.2 := by
    unfold ct_G_put
    exact mlk_cons (P := fun (idx : Nat) (q : Nat × Nat × mFn) => mCallOk p l e rm_G_put s m args below meth c Qc kc_G_put 4 D clA shC nmC csC cA ad A idx q.1 q.2.1 q.2.2) (mCSN (host := "TriggerBase") StC_stable ⟨hx, hb, hml, hown, hts⟩ hK hS (hS.2.2.2 ("TriggerBase$Triggers", 21) (by decide)) mst_B_isBelow mn_B mc_B_isBelow (c_B_isBelow l D cA ad A) ⟨rfl, rfl⟩ ⟨by decide, by decide, by decide +kernel⟩ ⟨by decide, by decide⟩) (mlk_none)
  have hsp : ∀ idx n, mlk sp_G_put idx = some n → mSpOk rm_G_put s args "TriggerBase$Triggers" idx n := by
    unfold sp_G_put
    exact mlk_none
  exact ⟨⟨hx, hb, hml, hown, hlk⟩, mTok.to tb_G_put_ok, ⟨hK, rfl, rfl, _, rfl⟩, shC_ok, mGlB.to uw_ok gl_G_ok ht, mPlB.to uw_ok pl_G_ok.1 pl_G_ok.2 ht, mlk_none, mlk_none, smr hx hb hS, alr hx hb hS, lnr hx hb hS, fun i j hi hj => hS.1.2 i j hi hj, hct, hsp, ⟨fun _ => hrt, (fun h => nomatch h), (fun h => nomatch h), (fun h => nomatch h)⟩, hend⟩
theorem hd_B_bind {As : List mV} {g : mG} {r : mRes} (h : mFres (.inr (.inl f_B_bind)) As g = some r) : mHd (some 0) As = true ∧ As.length = 4 ∧ ∃ k, rn_B_bind k 0 (mL0 As 4) [] g = some r := by
  obtain ⟨h1, h2, h3⟩ := mFun_inv (mFI_inv (t := t_B_bind) h)
  exact ⟨h1, h2, mEv_inv h3⟩
abbrev rm_B_bind : Room := { frames := 2, cells := 0, slots := 0, locals := 44 }
set_option maxRecDepth 100000 in
set_option maxHeartbeats 4000000 in
theorem c_B_bind (l : Launch) (D : va_G) (cA : Nat → ClassId) (ad : Nat → Nat → Nat) (A : Nat → Prop) : mCt l D clA (mTys cA) shC nmC csC cA ad A (StC ad A) yn_B_bind (mWs yn_B_bind kc_B_bind 4 (some .int)) rm_B_bind (.inr (.inl f_B_bind)) := by
  refine mMetOf (T := tb_B_bind) (gl := gl_B) (pl := pl_B) (gs := gs_B) (fe := fe_B) (sm := smC) (ct := ct_B_bind) (sp := sp_B_bind) (rk := 1) (by decide) rfl StC_stable (fun As g r _ h => ⟨by rw [(hd_B_bind h).2.1]; decide, (hd_B_bind h).2.2⟩) ?_
  intro p e s m args below meth c Qc res hx hb hml hown hlk hrt hts hK hS hend
  have ht : ∀ w ∈ mTb, w.before args s = true := fun w hw => hts w (List.mem_cons_of_mem _ hw)
  have hct : ∀ idx q, mlk ct_B_bind idx = some q → mCallOk p l e rm_B_bind s m args below meth c Qc kc_B_bind 4 D clA shC nmC csC cA ad A idx q.1 q.2.1 q.2.2 := by
    unfold ct_B_bind
    exact mlk_cons (P := fun (idx : Nat) (q : Nat × Nat × mFn) => mCallOk p l e rm_B_bind s m args below meth c Qc kc_B_bind 4 D clA shC nmC csC cA ad A idx q.1 q.2.1 q.2.2) (mCS StC_stable ⟨hx, hb, hml, hown, hts⟩ hK hS (mTb_at 345 ⟨by decide +kernel, rfl⟩) mst_B_isBelow mn_B mc_B_isBelow (c_B_isBelow l D cA ad A) ⟨rfl, rfl⟩ ⟨by decide, by decide, by decide +kernel⟩ ⟨by decide, by decide⟩) (mlk_cons (P := fun (idx : Nat) (q : Nat × Nat × mFn) => mCallOk p l e rm_B_bind s m args below meth c Qc kc_B_bind 4 D clA shC nmC csC cA ad A idx q.1 q.2.1 q.2.2) (mCV StC_stable ⟨hx, hb, hml, hown, hts⟩ hK hS (mTb_at 346 ⟨by decide +kernel, rfl⟩) mi_L_has ms_L_has mn_L mc_L_has (c_L_has l D cA ad A) ⟨rfl, rfl⟩ ⟨by decide, by decide, by decide +kernel⟩ ⟨by decide, by decide⟩ (mRecvC hK shC_ok (a := 2) rfl rfl fun As g r h => (hd_L_has h).1)) (mlk_cons (P := fun (idx : Nat) (q : Nat × Nat × mFn) => mCallOk p l e rm_B_bind s m args below meth c Qc kc_B_bind 4 D clA shC nmC csC cA ad A idx q.1 q.2.1 q.2.2) (mCV StC_stable ⟨hx, hb, hml, hown, hts⟩ hK hS (mTb_at 350 ⟨by decide +kernel, rfl⟩) mi_G_put ms_G_put mn_G mc_G_put (c_G_put l D cA ad A) ⟨rfl, rfl⟩ ⟨by decide, by decide, by decide +kernel⟩ ⟨by decide, by decide⟩ (mRecvC hK shC_ok (a := 4) rfl rfl fun As g r h => (hd_G_put h).1)) (mlk_none)))
  have hsp : ∀ idx n, mlk sp_B_bind idx = some n → mSpOk rm_B_bind s args "TriggerBase" idx n := by
    unfold sp_B_bind
    exact mlk_none
  exact ⟨⟨hx, hb, hml, hown, hlk⟩, mTok.to tb_B_bind_ok, ⟨hK, rfl, rfl, _, rfl⟩, shC_ok, mGlB.to uw_ok gl_B_ok ht, mPlB.to uw_ok pl_B_ok.1 pl_B_ok.2 ht, mlk_none, mlk_none, smr hx hb hS, alr hx hb hS, lnr hx hb hS, fun i j hi hj => hS.1.2 i j hi hj, hct, hsp, ⟨(fun h => nomatch h), fun _ => hrt, (fun h => nomatch h), (fun h => nomatch h)⟩, hend⟩
theorem hd_G_find {As : List mV} {g : mG} {r : mRes} (h : mFres (.inr (.inl f_G_find)) As g = some r) : mHd (some 4) As = true ∧ As.length = 3 ∧ ∃ k, rn_G_find k 0 (mL0 As 4) [] g = some r := by
  obtain ⟨h1, h2, h3⟩ := mFun_inv (mFI_inv (t := t_G_find) h)
  exact ⟨h1, h2, mEv_inv h3⟩
abbrev rm_G_find : Room := { frames := 1, cells := 0, slots := 0, locals := 21 }
set_option maxRecDepth 100000 in
set_option maxHeartbeats 4000000 in
theorem c_G_find (l : Launch) (D : va_G) (cA : Nat → ClassId) (ad : Nat → Nat → Nat) (A : Nat → Prop) : mCt l D clA (mTys cA) shC nmC csC cA ad A (StC ad A) yn_G_find (mWs yn_G_find kc_G_find 4 (some .int)) rm_G_find (.inr (.inl f_G_find)) := by
  refine mMetOf (T := tb_G_find) (gl := gl_G) (pl := pl_G) (gs := gs_G) (fe := fe_G) (sm := smC) (ct := ct_G_find) (sp := sp_G_find) (rk := 1) (by decide) rfl StC_stable (fun As g r _ h => ⟨by rw [(hd_G_find h).2.1]; decide, (hd_G_find h).2.2⟩) ?_
  intro p e s m args below meth c Qc res hx hb hml hown hlk hrt hts hK hS hend
  have ht : ∀ w ∈ mTb, w.before args s = true := fun w hw => hts w (List.mem_cons_of_mem _ hw)
  have hct : ∀ idx q, mlk ct_G_find idx = some q → mCallOk p l e rm_G_find s m args below meth c Qc kc_G_find 4 D clA shC nmC csC cA ad A idx q.1 q.2.1 q.2.2 := by
    unfold ct_G_find
    exact mlk_cons (P := fun (idx : Nat) (q : Nat × Nat × mFn) => mCallOk p l e rm_G_find s m args below meth c Qc kc_G_find 4 D clA shC nmC csC cA ad A idx q.1 q.2.1 q.2.2) (mCSN (host := "TriggerBase") StC_stable ⟨hx, hb, hml, hown, hts⟩ hK hS (hS.2.2.2 ("TriggerBase$Triggers", 21) (by decide)) mst_B_isBelow mn_B mc_B_isBelow (c_B_isBelow l D cA ad A) ⟨rfl, rfl⟩ ⟨by decide, by decide, by decide +kernel⟩ ⟨by decide, by decide⟩) (mlk_none)
  have hsp : ∀ idx n, mlk sp_G_find idx = some n → mSpOk rm_G_find s args "TriggerBase$Triggers" idx n := by
    unfold sp_G_find
    exact mlk_none
  exact ⟨⟨hx, hb, hml, hown, hlk⟩, mTok.to tb_G_find_ok, ⟨hK, rfl, rfl, _, rfl⟩, shC_ok, mGlB.to uw_ok gl_G_ok ht, mPlB.to uw_ok pl_G_ok.1 pl_G_ok.2 ht, mlk_none, mlk_none, smr hx hb hS, alr hx hb hS, lnr hx hb hS, fun i j hi hj => hS.1.2 i j hi hj, hct, hsp, ⟨(fun h => nomatch h), fun _ => hrt, (fun h => nomatch h), (fun h => nomatch h)⟩, hend⟩
theorem hd_B_unbind {As : List mV} {g : mG} {r : mRes} (h : mFres (.inr (.inl f_B_unbind)) As g = some r) : mHd (some 0) As = true ∧ As.length = 3 ∧ ∃ k, rn_B_unbind k 0 (mL0 As 4) [] g = some r := by
  obtain ⟨h1, h2, h3⟩ := mFun_inv (mFI_inv (t := t_B_unbind) h)
  exact ⟨h1, h2, mEv_inv h3⟩
abbrev rm_B_unbind : Room := { frames := 2, cells := 0, slots := 0, locals := 44 }
set_option maxRecDepth 100000 in
set_option maxHeartbeats 4000000 in
theorem c_B_unbind (l : Launch) (D : va_G) (cA : Nat → ClassId) (ad : Nat → Nat → Nat) (A : Nat → Prop) : mCt l D clA (mTys cA) shC nmC csC cA ad A (StC ad A) yn_B_unbind (mWs yn_B_unbind kc_B_unbind 4 (some .boolean)) rm_B_unbind (.inr (.inl f_B_unbind)) := by
  refine mMetOf (T := tb_B_unbind) (gl := gl_B) (pl := pl_B) (gs := gs_B) (fe := fe_B) (sm := smC) (ct := ct_B_unbind) (sp := sp_B_unbind) (rk := 2) (by decide) rfl StC_stable (fun As g r _ h => ⟨by rw [(hd_B_unbind h).2.1]; decide, (hd_B_unbind h).2.2⟩) ?_
  intro p e s m args below meth c Qc res hx hb hml hown hlk hrt hts hK hS hend
  have ht : ∀ w ∈ mTb, w.before args s = true := fun w hw => hts w (List.mem_cons_of_mem _ hw)
  have hct : ∀ idx q, mlk ct_B_unbind idx = some q → mCallOk p l e rm_B_unbind s m args below meth c Qc kc_B_unbind 4 D clA shC nmC csC cA ad A idx q.1 q.2.1 q.2.2 := by
    unfold ct_B_unbind
    exact mlk_cons (P := fun (idx : Nat) (q : Nat × Nat × mFn) => mCallOk p l e rm_B_unbind s m args below meth c Qc kc_B_unbind 4 D clA shC nmC csC cA ad A idx q.1 q.2.1 q.2.2) (mCV StC_stable ⟨hx, hb, hml, hown, hts⟩ hK hS (mTb_at 359 ⟨by decide +kernel, rfl⟩) mi_G_find ms_G_find mn_G mc_G_find (c_G_find l D cA ad A) ⟨rfl, rfl⟩ ⟨by decide, by decide, by decide +kernel⟩ ⟨by decide, by decide⟩ (mRecvC hK shC_ok (a := 4) rfl rfl fun As g r h => (hd_G_find h).1)) (mlk_cons (P := fun (idx : Nat) (q : Nat × Nat × mFn) => mCallOk p l e rm_B_unbind s m args below meth c Qc kc_B_unbind 4 D clA shC nmC csC cA ad A idx q.1 q.2.1 q.2.2) (mCV StC_stable ⟨hx, hb, hml, hown, hts⟩ hK hS (mTb_at 350 ⟨by decide +kernel, rfl⟩) mi_G_put ms_G_put mn_G mc_G_put (c_G_put l D cA ad A) ⟨rfl, rfl⟩ ⟨by decide, by decide, by decide +kernel⟩ ⟨by decide, by decide⟩ (mRecvC hK shC_ok (a := 4) rfl rfl fun As g r h => (hd_G_put h).1)) (mlk_none))
  have hsp : ∀ idx n, mlk sp_B_unbind idx = some n → mSpOk rm_B_unbind s args "TriggerBase" idx n := by
    unfold sp_B_unbind
    exact mlk_none
  exact ⟨⟨hx, hb, hml, hown, hlk⟩, mTok.to tb_B_unbind_ok, ⟨hK, rfl, rfl, _, rfl⟩, shC_ok, mGlB.to uw_ok gl_B_ok ht, mPlB.to uw_ok pl_B_ok.1 pl_B_ok.2 ht, mlk_none, mlk_none, smr hx hb hS, alr hx hb hS, lnr hx hb hS, fun i j hi hj => hS.1.2 i j hi hj, hct, hsp, ⟨(fun h => nomatch h), (fun h => nomatch h), fun _ => hrt, (fun h => nomatch h)⟩, hend⟩
theorem hd_T_keep {As : List mV} {g : mG} {r : mRes} (h : mFres (.inl f_T_keep) As g = some r) : mHd (some 3) As = true ∧ As.length = 1 ∧ ∃ k, rn_T_keep k 0 (mL0 As 1) [] g = some r := by
  obtain ⟨h1, h2, h3⟩ := mFun_inv (mFV_inv (t := t_T_keep) h)
  exact ⟨h1, h2, mEv_inv h3⟩
abbrev rm_T_keep : Room := { frames := 1, cells := 0, slots := 0, locals := 26 }
set_option maxRecDepth 100000 in
set_option maxHeartbeats 4000000 in
theorem c_T_keep (l : Launch) (D : va_G) (cA : Nat → ClassId) (ad : Nat → Nat → Nat) (A : Nat → Prop) : mCt l D clA (mTys cA) shC nmC csC cA ad A (StC ad A) yn_T_keep (mWs yn_T_keep kc_T_keep 1 none) rm_T_keep (.inl f_T_keep) := by
  refine mMetOf (T := tb_T_keep) (gl := gl_T) (pl := pl_T) (gs := gs_T) (fe := fe_T) (sm := smC) (ct := ct_T_keep) (sp := sp_T_keep) (rk := 0) (by decide) rfl StC_stable (fun As g r _ h => ⟨by rw [(hd_T_keep h).2.1]; decide, (hd_T_keep h).2.2⟩) ?_
  intro p e s m args below meth c Qc res hx hb hml hown hlk hrt hts hK hS hend
  have ht : ∀ w ∈ mTb, w.before args s = true := fun w hw => hts w (List.mem_cons_of_mem _ hw)
  have hct : ∀ idx q, mlk ct_T_keep idx = some q → mCallOk p l e rm_T_keep s m args below meth c Qc kc_T_keep 1 D clA shC nmC csC cA ad A idx q.1 q.2.1 q.2.2 := by
    unfold ct_T_keep
    exact mlk_none
  have hsp : ∀ idx n, mlk sp_T_keep idx = some n → mSpOk rm_T_keep s args "TriggerBase$Tables" idx n := by
    unfold sp_T_keep
    exact mlk_cons (P := fun (idx n : Nat) => mSpOk rm_T_keep s args "TriggerBase$Tables" idx n) (⟨(ht _ (mTb_at 381 ⟨by decide +kernel, rfl⟩)), (ht _ (mTb_at 383 ⟨by decide +kernel, rfl⟩)), (ht _ (mTb_at 382 ⟨by decide +kernel, rfl⟩)), (ht _ (mTb_at 49 ⟨by decide +kernel, rfl⟩)), by decide, by decide⟩) (mlk_none)
  exact ⟨⟨hx, hb, hml, hown, hlk⟩, mTok.to tb_T_keep_ok, ⟨hK, rfl, rfl, _, rfl⟩, shC_ok, mGlB.to uw_ok gl_T_ok ht, mPlB.to uw_ok pl_T_ok.1 pl_T_ok.2 ht, mlk_none, mlk_none, smr hx hb hS, alr hx hb hS, lnr hx hb hS, fun i j hi hj => hS.1.2 i j hi hj, hct, hsp, ⟨fun _ => hrt, (fun h => nomatch h), (fun h => nomatch h), (fun h => nomatch h)⟩, hend⟩
theorem hd_F_start {As : List mV} {g : mG} {r : mRes} (h : mFres (.inl f_F_start) As g = some r) : mHd (some 10) As = true ∧ As.length = 3 ∧ ∃ k, rn_F_start k 0 (mL0 As 3) [] g = some r := by
  obtain ⟨h1, h2, h3⟩ := mFun_inv (mFV_inv (t := t_F_start) h)
  exact ⟨h1, h2, mEv_inv h3⟩
abbrev rm_F_start : Room := { frames := 1, cells := 0, slots := 0, locals := 23 }
set_option maxRecDepth 100000 in
set_option maxHeartbeats 4000000 in
theorem c_F_start (l : Launch) (D : va_G) (cA : Nat → ClassId) (ad : Nat → Nat → Nat) (A : Nat → Prop) : mCt l D clA (mTys cA) shC nmC csC cA ad A (StC ad A) yn_F_start (mWs yn_F_start kc_F_start 3 none) rm_F_start (.inl f_F_start) := by
  refine mMetOf (T := tb_F_start) (gl := gl_F) (pl := pl_F) (gs := gs_F) (fe := fe_F) (sm := smC) (ct := ct_F_start) (sp := sp_F_start) (rk := 0) (by decide) rfl StC_stable (fun As g r _ h => ⟨by rw [(hd_F_start h).2.1]; decide, (hd_F_start h).2.2⟩) ?_
  intro p e s m args below meth c Qc res hx hb hml hown hlk hrt hts hK hS hend
  have ht : ∀ w ∈ mTb, w.before args s = true := fun w hw => hts w (List.mem_cons_of_mem _ hw)
  have hct : ∀ idx q, mlk ct_F_start idx = some q → mCallOk p l e rm_F_start s m args below meth c Qc kc_F_start 3 D clA shC nmC csC cA ad A idx q.1 q.2.1 q.2.2 := by
    unfold ct_F_start
    exact mlk_cons (P := fun (idx : Nat) (q : Nat × Nat × mFn) => mCallOk p l e rm_F_start s m args below meth c Qc kc_F_start 3 D clA shC nmC csC cA ad A idx q.1 q.2.1 q.2.2) (mCS StC_stable ⟨hx, hb, hml, hown, hts⟩ hK hS (mTb_at 392 ⟨by decide +kernel, rfl⟩) mst_A_fill mn_A mc_A_fill (c_A_fill l D cA ad A) ⟨rfl, rfl⟩ ⟨by decide, by decide, by decide +kernel⟩ ⟨by decide, by decide⟩) (mlk_none)
  have hsp : ∀ idx n, mlk sp_F_start idx = some n → mSpOk rm_F_start s args "TriggerBase$Frame" idx n := by
    unfold sp_F_start
    exact mlk_none
  exact ⟨⟨hx, hb, hml, hown, hlk⟩, mTok.to tb_F_start_ok, ⟨hK, rfl, rfl, _, rfl⟩, shC_ok, mGlB.to uw_ok gl_F_ok ht, mPlB.to uw_ok pl_F_ok.1 pl_F_ok.2 ht, mlk_none, mlk_none, smr hx hb hS, alr hx hb hS, lnr hx hb hS, fun i j hi hj => hS.1.2 i j hi hj, hct, hsp, ⟨fun _ => hrt, (fun h => nomatch h), (fun h => nomatch h), (fun h => nomatch h)⟩, hend⟩
theorem hd_M_open {As : List mV} {g : mG} {r : mRes} (h : mFres (.inr (.inl f_M_open)) As g = some r) : mHd (some 1) As = true ∧ As.length = 3 ∧ ∃ k, rn_M_open k 0 (mL0 As 3) [] g = some r := by
  obtain ⟨h1, h2, h3⟩ := mFun_inv (mFI_inv (t := t_M_open) h)
  exact ⟨h1, h2, mEv_inv h3⟩
abbrev rm_M_open : Room := { frames := 2, cells := 0, slots := 0, locals := 45 }
set_option maxRecDepth 100000 in
set_option maxHeartbeats 4000000 in
theorem c_M_open (l : Launch) (D : va_G) (cA : Nat → ClassId) (ad : Nat → Nat → Nat) (A : Nat → Prop) : mCt l D clA (mTys cA) shC nmC csC cA ad A (StC ad A) yn_M_open (mWs yn_M_open kc_M_open 3 (some .int)) rm_M_open (.inr (.inl f_M_open)) := by
  refine mMetOf (T := tb_M_open) (gl := gl_M) (pl := pl_M) (gs := gs_M) (fe := fe_M) (sm := smC) (ct := ct_M_open) (sp := sp_M_open) (rk := 1) (by decide) rfl StC_stable (fun As g r _ h => ⟨by rw [(hd_M_open h).2.1]; decide, (hd_M_open h).2.2⟩) ?_
  intro p e s m args below meth c Qc res hx hb hml hown hlk hrt hts hK hS hend
  have ht : ∀ w ∈ mTb, w.before args s = true := fun w hw => hts w (List.mem_cons_of_mem _ hw)
  have hct : ∀ idx q, mlk ct_M_open idx = some q → mCallOk p l e rm_M_open s m args below meth c Qc kc_M_open 3 D clA shC nmC csC cA ad A idx q.1 q.2.1 q.2.2 := by
    unfold ct_M_open
    exact mlk_cons (P := fun (idx : Nat) (q : Nat × Nat × mFn) => mCallOk p l e rm_M_open s m args below meth c Qc kc_M_open 3 D clA shC nmC csC cA ad A idx q.1 q.2.1 q.2.2) (mCV StC_stable ⟨hx, hb, hml, hown, hts⟩ hK hS (mTb_at 388 ⟨by decide +kernel, rfl⟩) mi_F_start ms_F_start mn_F mc_F_start (c_F_start l D cA ad A) ⟨rfl, rfl⟩ ⟨by decide, by decide, by decide +kernel⟩ ⟨by decide, by decide⟩ (mRecvC hK shC_ok (a := 10) rfl rfl fun As g r h => (hd_F_start h).1)) (mlk_none)
  have hsp : ∀ idx n, mlk sp_M_open idx = some n → mSpOk rm_M_open s args "TriggerBase$Machine" idx n := by
    unfold sp_M_open
    exact mlk_cons (P := fun (idx n : Nat) => mSpOk rm_M_open s args "TriggerBase$Machine" idx n) (⟨(ht _ (mTb_at 393 ⟨by decide +kernel, rfl⟩)), (ht _ (mTb_at 369 ⟨by decide +kernel, rfl⟩)), (ht _ (mTb_at 46 ⟨by decide +kernel, rfl⟩)), (ht _ (mTb_at 370 ⟨by decide +kernel, rfl⟩)), by decide, by decide⟩) (mlk_none)
  exact ⟨⟨hx, hb, hml, hown, hlk⟩, mTok.to tb_M_open_ok, ⟨hK, rfl, rfl, _, rfl⟩, shC_ok, mGlB.to uw_ok gl_M_ok ht, mPlB.to uw_ok pl_M_ok.1 pl_M_ok.2 ht, gsr_M hx hb hown ht hS, fer_M hx hb hown ht hS, smr hx hb hS, alr hx hb hS, lnr hx hb hS, fun i j hi hj => hS.1.2 i j hi hj, hct, hsp, ⟨(fun h => nomatch h), fun _ => hrt, (fun h => nomatch h), (fun h => nomatch h)⟩, hend⟩
theorem hd_E_ordinal {As : List mV} {g : mG} {r : mRes} (h : mFres (.inr (.inl f_E_ordinal)) As g = some r) : mHd (some 100) As = true ∧ As.length = 1 ∧ ∃ k, rn_E_ordinal k 0 (mL0 As 1) [] g = some r := by
  obtain ⟨h1, h2, h3⟩ := mFun_inv (mFI_inv (t := t_E_ordinal) h)
  exact ⟨h1, h2, mEv_inv h3⟩
abbrev rm_E_ordinal : Room := { frames := 0, cells := 0, slots := 0, locals := 0 }
set_option maxRecDepth 100000 in
set_option maxHeartbeats 4000000 in
theorem c_E_ordinal (l : Launch) (D : va_G) (cA : Nat → ClassId) (ad : Nat → Nat → Nat) (A : Nat → Prop) : mCt l D clA (mTys cA) shC nmC csC cA ad A (StC ad A) yn_E_ordinal (mWs yn_E_ordinal kc_E_ordinal 1 (some .int)) rm_E_ordinal (.inr (.inl f_E_ordinal)) := by
  refine mMetOf (T := tb_E_ordinal) (gl := gl_E) (pl := pl_E) (gs := gs_E) (fe := fe_E) (sm := smC) (ct := ct_E_ordinal) (sp := sp_E_ordinal) (rk := 1) (by decide) rfl StC_stable (fun As g r _ h => ⟨by rw [(hd_E_ordinal h).2.1]; decide, (hd_E_ordinal h).2.2⟩) ?_
  intro p e s m args below meth c Qc res hx hb hml hown hlk hrt hts hK hS hend
  have ht : ∀ w ∈ mTb, w.before args s = true := fun w hw => hts w (List.mem_cons_of_mem _ hw)
  have hct : ∀ idx q, mlk ct_E_ordinal idx = some q → mCallOk p l e rm_E_ordinal s m args below meth c Qc kc_E_ordinal 1 D clA shC nmC csC cA ad A idx q.1 q.2.1 q.2.2 := by
    unfold ct_E_ordinal
    exact mlk_none
  have hsp : ∀ idx n, mlk sp_E_ordinal idx = some n → mSpOk rm_E_ordinal s args "java/lang/Enum" idx n := by
    unfold sp_E_ordinal
    exact mlk_none
  exact ⟨⟨hx, hb, hml, hown, hlk⟩, mTok.to tb_E_ordinal_ok, ⟨hK, rfl, rfl, _, rfl⟩, shC_ok, mGlB.to uw_ok gl_E_ok ht, mPlB.to uw_ok pl_E_ok.1 pl_E_ok.2 ht, mlk_none, fer_E hx hb hown ht hS, smr hx hb hS, alr hx hb hS, lnr hx hb hS, fun i j hi hj => hS.1.2 i j hi hj, hct, hsp, ⟨(fun h => nomatch h), fun _ => hrt, (fun h => nomatch h), (fun h => nomatch h)⟩, hend⟩
theorem hd_F_pop {As : List mV} {g : mG} {r : mRes} (h : mFres (.inr (.inl f_F_pop)) As g = some r) : mHd (some 10) As = true ∧ As.length = 1 ∧ ∃ k, rn_F_pop k 0 (mL0 As 1) [] g = some r := by
  obtain ⟨h1, h2, h3⟩ := mFun_inv (mFI_inv (t := t_F_pop) h)
  exact ⟨h1, h2, mEv_inv h3⟩
abbrev rm_F_pop : Room := { frames := 0, cells := 0, slots := 0, locals := 0 }
set_option maxRecDepth 100000 in
set_option maxHeartbeats 4000000 in
theorem c_F_pop (l : Launch) (D : va_G) (cA : Nat → ClassId) (ad : Nat → Nat → Nat) (A : Nat → Prop) : mCt l D clA (mTys cA) shC nmC csC cA ad A (StC ad A) yn_F_pop (mWs yn_F_pop kc_F_pop 1 (some .int)) rm_F_pop (.inr (.inl f_F_pop)) := by
  refine mMetOf (T := tb_F_pop) (gl := gl_F) (pl := pl_F) (gs := gs_F) (fe := fe_F) (sm := smC) (ct := ct_F_pop) (sp := sp_F_pop) (rk := 1) (by decide) rfl StC_stable (fun As g r _ h => ⟨by rw [(hd_F_pop h).2.1]; decide, (hd_F_pop h).2.2⟩) ?_
  intro p e s m args below meth c Qc res hx hb hml hown hlk hrt hts hK hS hend
  have ht : ∀ w ∈ mTb, w.before args s = true := fun w hw => hts w (List.mem_cons_of_mem _ hw)
  have hct : ∀ idx q, mlk ct_F_pop idx = some q → mCallOk p l e rm_F_pop s m args below meth c Qc kc_F_pop 1 D clA shC nmC csC cA ad A idx q.1 q.2.1 q.2.2 := by
    unfold ct_F_pop
    exact mlk_none
  have hsp : ∀ idx n, mlk sp_F_pop idx = some n → mSpOk rm_F_pop s args "TriggerBase$Frame" idx n := by
    unfold sp_F_pop
    exact mlk_none
  exact ⟨⟨hx, hb, hml, hown, hlk⟩, mTok.to tb_F_pop_ok, ⟨hK, rfl, rfl, _, rfl⟩, shC_ok, mGlB.to uw_ok gl_F_ok ht, mPlB.to uw_ok pl_F_ok.1 pl_F_ok.2 ht, mlk_none, mlk_none, smr hx hb hS, alr hx hb hS, lnr hx hb hS, fun i j hi hj => hS.1.2 i j hi hj, hct, hsp, ⟨(fun h => nomatch h), fun _ => hrt, (fun h => nomatch h), (fun h => nomatch h)⟩, hend⟩
theorem hd_F_push {As : List mV} {g : mG} {r : mRes} (h : mFres (.inl f_F_push) As g = some r) : mHd (some 10) As = true ∧ As.length = 2 ∧ ∃ k, rn_F_push k 0 (mL0 As 2) [] g = some r := by
  obtain ⟨h1, h2, h3⟩ := mFun_inv (mFV_inv (t := t_F_push) h)
  exact ⟨h1, h2, mEv_inv h3⟩
abbrev rm_F_push : Room := { frames := 0, cells := 0, slots := 0, locals := 0 }
set_option maxRecDepth 100000 in
set_option maxHeartbeats 4000000 in
theorem c_F_push (l : Launch) (D : va_G) (cA : Nat → ClassId) (ad : Nat → Nat → Nat) (A : Nat → Prop) : mCt l D clA (mTys cA) shC nmC csC cA ad A (StC ad A) yn_F_push (mWs yn_F_push kc_F_push 2 none) rm_F_push (.inl f_F_push) := by
  refine mMetOf (T := tb_F_push) (gl := gl_F) (pl := pl_F) (gs := gs_F) (fe := fe_F) (sm := smC) (ct := ct_F_push) (sp := sp_F_push) (rk := 0) (by decide) rfl StC_stable (fun As g r _ h => ⟨by rw [(hd_F_push h).2.1]; decide, (hd_F_push h).2.2⟩) ?_
  intro p e s m args below meth c Qc res hx hb hml hown hlk hrt hts hK hS hend
  have ht : ∀ w ∈ mTb, w.before args s = true := fun w hw => hts w (List.mem_cons_of_mem _ hw)
  have hct : ∀ idx q, mlk ct_F_push idx = some q → mCallOk p l e rm_F_push s m args below meth c Qc kc_F_push 2 D clA shC nmC csC cA ad A idx q.1 q.2.1 q.2.2 := by
    unfold ct_F_push
    exact mlk_none
  have hsp : ∀ idx n, mlk sp_F_push idx = some n → mSpOk rm_F_push s args "TriggerBase$Frame" idx n := by
    unfold sp_F_push
    exact mlk_none
  exact ⟨⟨hx, hb, hml, hown, hlk⟩, mTok.to tb_F_push_ok, ⟨hK, rfl, rfl, _, rfl⟩, shC_ok, mGlB.to uw_ok gl_F_ok ht, mPlB.to uw_ok pl_F_ok.1 pl_F_ok.2 ht, mlk_none, mlk_none, smr hx hb hS, alr hx hb hS, lnr hx hb hS, fun i j hi hj => hS.1.2 i j hi hj, hct, hsp, ⟨fun _ => hrt, (fun h => nomatch h), (fun h => nomatch h), (fun h => nomatch h)⟩, hend⟩
theorem hd_M_divide {As : List mV} {g : mG} {r : mRes} (h : mFres (.inr (.inl f_M_divide)) As g = some r) : mHd none As = true ∧ As.length = 2 ∧ ∃ k, rn_M_divide k 0 (mL0 As 4) [] g = some r := by
  obtain ⟨h1, h2, h3⟩ := mFun_inv (mFI_inv (t := t_M_divide) h)
  exact ⟨h1, h2, mEv_inv h3⟩
abbrev rm_M_divide : Room := { frames := 1, cells := 0, slots := 0, locals := 21 }
set_option maxRecDepth 100000 in
set_option maxHeartbeats 4000000 in
theorem c_M_divide (l : Launch) (D : va_G) (cA : Nat → ClassId) (ad : Nat → Nat → Nat) (A : Nat → Prop) : mCt l D clA (mTys cA) shC nmC csC cA ad A (StC ad A) yn_M_divide (mWs yn_M_divide kc_M_divide 4 (some .int)) rm_M_divide (.inr (.inl f_M_divide)) := by
  refine mMetOf (T := tb_M_divide) (gl := gl_M) (pl := pl_M) (gs := gs_M) (fe := fe_M) (sm := smC) (ct := ct_M_divide) (sp := sp_M_divide) (rk := 1) (by decide) rfl StC_stable (fun As g r _ h => ⟨by rw [(hd_M_divide h).2.1]; decide, (hd_M_divide h).2.2⟩) ?_
  intro p e s m args below meth c Qc res hx hb hml hown hlk hrt hts hK hS hend
  have ht : ∀ w ∈ mTb, w.before args s = true := fun w hw => hts w (List.mem_cons_of_mem _ hw)
  have hct : ∀ idx q, mlk ct_M_divide idx = some q → mCallOk p l e rm_M_divide s m args below meth c Qc kc_M_divide 4 D clA shC nmC csC cA ad A idx q.1 q.2.1 q.2.2 := by
    unfold ct_M_divide
    exact mlk_cons (P := fun (idx : Nat) (q : Nat × Nat × mFn) => mCallOk p l e rm_M_divide s m args below meth c Qc kc_M_divide 4 D clA shC nmC csC cA ad A idx q.1 q.2.1 q.2.2) (mCV StC_stable ⟨hx, hb, hml, hown, hts⟩ hK hS (mTb_at 411 ⟨by decide +kernel, rfl⟩) mi_F_pop ms_F_pop mn_F mc_F_pop (c_F_pop l D cA ad A) ⟨rfl, rfl⟩ ⟨by decide, by decide, by decide +kernel⟩ ⟨by decide, by decide⟩ (mRecvC hK shC_ok (a := 10) rfl rfl fun As g r h => (hd_F_pop h).1)) (mlk_cons (P := fun (idx : Nat) (q : Nat × Nat × mFn) => mCallOk p l e rm_M_divide s m args below meth c Qc kc_M_divide 4 D clA shC nmC csC cA ad A idx q.1 q.2.1 q.2.2) (mCV StC_stable ⟨hx, hb, hml, hown, hts⟩ hK hS (mTb_at 417 ⟨by decide +kernel, rfl⟩) mi_F_push ms_F_push mn_F mc_F_push (c_F_push l D cA ad A) ⟨rfl, rfl⟩ ⟨by decide, by decide, by decide +kernel⟩ ⟨by decide, by decide⟩ (mRecvC hK shC_ok (a := 10) rfl rfl fun As g r h => (hd_F_push h).1)) (mlk_none))
  have hsp : ∀ idx n, mlk sp_M_divide idx = some n → mSpOk rm_M_divide s args "TriggerBase$Machine" idx n := by
    unfold sp_M_divide
    exact mlk_none
  exact ⟨⟨hx, hb, hml, hown, hlk⟩, mTok.to tb_M_divide_ok, ⟨hK, rfl, rfl, _, rfl⟩, shC_ok, mGlB.to uw_ok gl_M_ok ht, mPlB.to uw_ok pl_M_ok.1 pl_M_ok.2 ht, gsr_M hx hb hown ht hS, fer_M hx hb hown ht hS, smr hx hb hS, alr hx hb hS, lnr hx hb hS, fun i j hi hj => hS.1.2 i j hi hj, hct, hsp, ⟨(fun h => nomatch h), fun _ => hrt, (fun h => nomatch h), (fun h => nomatch h)⟩, hend⟩
theorem hd_T_addRow {As : List mV} {g : mG} {r : mRes} (h : mFres (.inr (.inl f_T_addRow)) As g = some r) : mHd (some 3) As = true ∧ As.length = 2 ∧ ∃ k, rn_T_addRow k 0 (mL0 As 2) [] g = some r := by
  obtain ⟨h1, h2, h3⟩ := mFun_inv (mFI_inv (t := t_T_addRow) h)
  exact ⟨h1, h2, mEv_inv h3⟩
abbrev rm_T_addRow : Room := { frames := 1, cells := 0, slots := 0, locals := 21 }
set_option maxRecDepth 100000 in
set_option maxHeartbeats 4000000 in
theorem c_T_addRow (l : Launch) (D : va_G) (cA : Nat → ClassId) (ad : Nat → Nat → Nat) (A : Nat → Prop) : mCt l D clA (mTys cA) shC nmC csC cA ad A (StC ad A) yn_T_addRow (mWs yn_T_addRow kc_T_addRow 2 (some .int)) rm_T_addRow (.inr (.inl f_T_addRow)) := by
  refine mMetOf (T := tb_T_addRow) (gl := gl_T) (pl := pl_T) (gs := gs_T) (fe := fe_T) (sm := smC) (ct := ct_T_addRow) (sp := sp_T_addRow) (rk := 1) (by decide) rfl StC_stable (fun As g r _ h => ⟨by rw [(hd_T_addRow h).2.1]; decide, (hd_T_addRow h).2.2⟩) ?_
  intro p e s m args below meth c Qc res hx hb hml hown hlk hrt hts hK hS hend
  have ht : ∀ w ∈ mTb, w.before args s = true := fun w hw => hts w (List.mem_cons_of_mem _ hw)
  have hct : ∀ idx q, mlk ct_T_addRow idx = some q → mCallOk p l e rm_T_addRow s m args below meth c Qc kc_T_addRow 2 D clA shC nmC csC cA ad A idx q.1 q.2.1 q.2.2 := by
    unfold ct_T_addRow
    exact mlk_cons (P := fun (idx : Nat) (q : Nat × Nat × mFn) => mCallOk p l e rm_T_addRow s m args below meth c Qc kc_T_addRow 2 D clA shC nmC csC cA ad A idx q.1 q.2.1 q.2.2) (mCSN (host := "TriggerBase") StC_stable ⟨hx, hb, hml, hown, hts⟩ hK hS (hS.2.2.2 ("TriggerBase$Tables", 24) (by decide)) mst_B_isBelow mn_B mc_B_isBelow (c_B_isBelow l D cA ad A) ⟨rfl, rfl⟩ ⟨by decide, by decide, by decide +kernel⟩ ⟨by decide, by decide⟩) (mlk_none)
  have hsp : ∀ idx n, mlk sp_T_addRow idx = some n → mSpOk rm_T_addRow s args "TriggerBase$Tables" idx n := by
    unfold sp_T_addRow
    exact mlk_none
  exact ⟨⟨hx, hb, hml, hown, hlk⟩, mTok.to tb_T_addRow_ok, ⟨hK, rfl, rfl, _, rfl⟩, shC_ok, mGlB.to uw_ok gl_T_ok ht, mPlB.to uw_ok pl_T_ok.1 pl_T_ok.2 ht, mlk_none, mlk_none, smr hx hb hS, alr hx hb hS, lnr hx hb hS, fun i j hi hj => hS.1.2 i j hi hj, hct, hsp, ⟨(fun h => nomatch h), fun _ => hrt, (fun h => nomatch h), (fun h => nomatch h)⟩, hend⟩
theorem hd_T_has {As : List mV} {g : mG} {r : mRes} (h : mFres (.inr (.inl f_T_has)) As g = some r) : mHd (some 3) As = true ∧ As.length = 3 ∧ ∃ k, rn_T_has k 0 (mL0 As 3) [] g = some r := by
  obtain ⟨h1, h2, h3⟩ := mFun_inv (mFI_inv (t := t_T_has) h)
  exact ⟨h1, h2, mEv_inv h3⟩
abbrev rm_T_has : Room := { frames := 1, cells := 0, slots := 0, locals := 21 }
set_option maxRecDepth 100000 in
set_option maxHeartbeats 4000000 in
theorem c_T_has (l : Launch) (D : va_G) (cA : Nat → ClassId) (ad : Nat → Nat → Nat) (A : Nat → Prop) : mCt l D clA (mTys cA) shC nmC csC cA ad A (StC ad A) yn_T_has (mWs yn_T_has kc_T_has 3 (some .boolean)) rm_T_has (.inr (.inl f_T_has)) := by
  refine mMetOf (T := tb_T_has) (gl := gl_T) (pl := pl_T) (gs := gs_T) (fe := fe_T) (sm := smC) (ct := ct_T_has) (sp := sp_T_has) (rk := 2) (by decide) rfl StC_stable (fun As g r _ h => ⟨by rw [(hd_T_has h).2.1]; decide, (hd_T_has h).2.2⟩) ?_
  intro p e s m args below meth c Qc res hx hb hml hown hlk hrt hts hK hS hend
  have ht : ∀ w ∈ mTb, w.before args s = true := fun w hw => hts w (List.mem_cons_of_mem _ hw)
  have hct : ∀ idx q, mlk ct_T_has idx = some q → mCallOk p l e rm_T_has s m args below meth c Qc kc_T_has 3 D clA shC nmC csC cA ad A idx q.1 q.2.1 q.2.2 := by
    unfold ct_T_has
    exact mlk_cons (P := fun (idx : Nat) (q : Nat × Nat × mFn) => mCallOk p l e rm_T_has s m args below meth c Qc kc_T_has 3 D clA shC nmC csC cA ad A idx q.1 q.2.1 q.2.2) (mCSN (host := "TriggerBase") StC_stable ⟨hx, hb, hml, hown, hts⟩ hK hS (hS.2.2.2 ("TriggerBase$Tables", 24) (by decide)) mst_B_isBelow mn_B mc_B_isBelow (c_B_isBelow l D cA ad A) ⟨rfl, rfl⟩ ⟨by decide, by decide, by decide +kernel⟩ ⟨by decide, by decide⟩) (mlk_none)
  have hsp : ∀ idx n, mlk sp_T_has idx = some n → mSpOk rm_T_has s args "TriggerBase$Tables" idx n := by
    unfold sp_T_has
    exact mlk_none
  exact ⟨⟨hx, hb, hml, hown, hlk⟩, mTok.to tb_T_has_ok, ⟨hK, rfl, rfl, _, rfl⟩, shC_ok, mGlB.to uw_ok gl_T_ok ht, mPlB.to uw_ok pl_T_ok.1 pl_T_ok.2 ht, mlk_none, mlk_none, smr hx hb hS, alr hx hb hS, lnr hx hb hS, fun i j hi hj => hS.1.2 i j hi hj, hct, hsp, ⟨(fun h => nomatch h), (fun h => nomatch h), fun _ => hrt, (fun h => nomatch h)⟩, hend⟩
theorem hd_T_index {As : List mV} {g : mG} {r : mRes} (h : mFres (.inr (.inl f_T_index)) As g = some r) : mHd none As = true ∧ As.length = 3 ∧ ∃ k, rn_T_index k 0 (mL0 As 3) [] g = some r := by
  obtain ⟨h1, h2, h3⟩ := mFun_inv (mFI_inv (t := t_T_index) h)
  exact ⟨h1, h2, mEv_inv h3⟩
abbrev rm_T_index : Room := { frames := 0, cells := 0, slots := 0, locals := 0 }
set_option maxRecDepth 100000 in
set_option maxHeartbeats 4000000 in
theorem c_T_index (l : Launch) (D : va_G) (cA : Nat → ClassId) (ad : Nat → Nat → Nat) (A : Nat → Prop) : mCt l D clA (mTys cA) shC nmC csC cA ad A (StC ad A) yn_T_index (mWs yn_T_index kc_T_index 3 (some .int)) rm_T_index (.inr (.inl f_T_index)) := by
  refine mMetOf (T := tb_T_index) (gl := gl_T) (pl := pl_T) (gs := gs_T) (fe := fe_T) (sm := smC) (ct := ct_T_index) (sp := sp_T_index) (rk := 1) (by decide) rfl StC_stable (fun As g r _ h => ⟨by rw [(hd_T_index h).2.1]; decide, (hd_T_index h).2.2⟩) ?_
  intro p e s m args below meth c Qc res hx hb hml hown hlk hrt hts hK hS hend
  have ht : ∀ w ∈ mTb, w.before args s = true := fun w hw => hts w (List.mem_cons_of_mem _ hw)
  have hct : ∀ idx q, mlk ct_T_index idx = some q → mCallOk p l e rm_T_index s m args below meth c Qc kc_T_index 3 D clA shC nmC csC cA ad A idx q.1 q.2.1 q.2.2 := by
    unfold ct_T_index
    exact mlk_none
  have hsp : ∀ idx n, mlk sp_T_index idx = some n → mSpOk rm_T_index s args "TriggerBase$Tables" idx n := by
    unfold sp_T_index
    exact mlk_none
  exact ⟨⟨hx, hb, hml, hown, hlk⟩, mTok.to tb_T_index_ok, ⟨hK, rfl, rfl, _, rfl⟩, shC_ok, mGlB.to uw_ok gl_T_ok ht, mPlB.to uw_ok pl_T_ok.1 pl_T_ok.2 ht, mlk_none, mlk_none, smr hx hb hS, alr hx hb hS, lnr hx hb hS, fun i j hi hj => hS.1.2 i j hi hj, hct, hsp, ⟨(fun h => nomatch h), fun _ => hrt, (fun h => nomatch h), (fun h => nomatch h)⟩, hend⟩
theorem hd_T_write {As : List mV} {g : mG} {r : mRes} (h : mFres (.inl f_T_write) As g = some r) : mHd (some 3) As = true ∧ As.length = 5 ∧ ∃ k, rn_T_write k 0 (mL0 As 5) [] g = some r := by
  obtain ⟨h1, h2, h3⟩ := mFun_inv (mFV_inv (t := t_T_write) h)
  exact ⟨h1, h2, mEv_inv h3⟩
abbrev rm_T_write : Room := { frames := 2, cells := 0, slots := 0, locals := 43 }
set_option maxRecDepth 100000 in
set_option maxHeartbeats 4000000 in
theorem c_T_write (l : Launch) (D : va_G) (cA : Nat → ClassId) (ad : Nat → Nat → Nat) (A : Nat → Prop) : mCt l D clA (mTys cA) shC nmC csC cA ad A (StC ad A) yn_T_write (mWs yn_T_write kc_T_write 5 none) rm_T_write (.inl f_T_write) := by
  refine mMetOf (T := tb_T_write) (gl := gl_T) (pl := pl_T) (gs := gs_T) (fe := fe_T) (sm := smC) (ct := ct_T_write) (sp := sp_T_write) (rk := 0) (by decide) rfl StC_stable (fun As g r _ h => ⟨by rw [(hd_T_write h).2.1]; decide, (hd_T_write h).2.2⟩) ?_
  intro p e s m args below meth c Qc res hx hb hml hown hlk hrt hts hK hS hend
  have ht : ∀ w ∈ mTb, w.before args s = true := fun w hw => hts w (List.mem_cons_of_mem _ hw)
  have hct : ∀ idx q, mlk ct_T_write idx = some q → mCallOk p l e rm_T_write s m args below meth c Qc kc_T_write 5 D clA shC nmC csC cA ad A idx q.1 q.2.1 q.2.2 := by
    unfold ct_T_write
    exact mlk_cons (P := fun (idx : Nat) (q : Nat × Nat × mFn) => mCallOk p l e rm_T_write s m args below meth c Qc kc_T_write 5 D clA shC nmC csC cA ad A idx q.1 q.2.1 q.2.2) (mCV StC_stable ⟨hx, hb, hml, hown, hts⟩ hK hS (mTb_at 434 ⟨by decide +kernel, rfl⟩) mi_T_has ms_T_has mn_T mc_T_has (c_T_has l D cA ad A) ⟨rfl, rfl⟩ ⟨by decide, by decide, by decide +kernel⟩ ⟨by decide, by decide⟩ (mRecvC hK shC_ok (a := 3) rfl rfl fun As g r h => (hd_T_has h).1)) (mlk_cons (P := fun (idx : Nat) (q : Nat × Nat × mFn) => mCallOk p l e rm_T_write s m args below meth c Qc kc_T_write 5 D clA shC nmC csC cA ad A idx q.1 q.2.1 q.2.2) (mCSN (host := "TriggerBase") StC_stable ⟨hx, hb, hml, hown, hts⟩ hK hS (hS.2.2.2 ("TriggerBase$Tables", 24) (by decide)) mst_B_isBelow mn_B mc_B_isBelow (c_B_isBelow l D cA ad A) ⟨rfl, rfl⟩ ⟨by decide, by decide, by decide +kernel⟩ ⟨by decide, by decide⟩) (mlk_cons (P := fun (idx : Nat) (q : Nat × Nat × mFn) => mCallOk p l e rm_T_write s m args below meth c Qc kc_T_write 5 D clA shC nmC csC cA ad A idx q.1 q.2.1 q.2.2) (mCS StC_stable ⟨hx, hb, hml, hown, hts⟩ hK hS (mTb_at 438 ⟨by decide +kernel, rfl⟩) mst_T_index mn_T mc_T_index (c_T_index l D cA ad A) ⟨rfl, rfl⟩ ⟨by decide, by decide, by decide +kernel⟩ ⟨by decide, by decide⟩) (mlk_none)))
  have hsp : ∀ idx n, mlk sp_T_write idx = some n → mSpOk rm_T_write s args "TriggerBase$Tables" idx n := by
    unfold sp_T_write
    exact mlk_none
  exact ⟨⟨hx, hb, hml, hown, hlk⟩, mTok.to tb_T_write_ok, ⟨hK, rfl, rfl, _, rfl⟩, shC_ok, mGlB.to uw_ok gl_T_ok ht, mPlB.to uw_ok pl_T_ok.1 pl_T_ok.2 ht, mlk_none, mlk_none, smr hx hb hS, alr hx hb hS, lnr hx hb hS, fun i j hi hj => hS.1.2 i j hi hj, hct, hsp, ⟨fun _ => hrt, (fun h => nomatch h), (fun h => nomatch h), (fun h => nomatch h)⟩, hend⟩
theorem hd_T_read {As : List mV} {g : mG} {r : mRes} (h : mFres (.inr (.inl f_T_read)) As g = some r) : mHd (some 3) As = true ∧ As.length = 4 ∧ ∃ k, rn_T_read k 0 (mL0 As 4) [] g = some r := by
  obtain ⟨h1, h2, h3⟩ := mFun_inv (mFI_inv (t := t_T_read) h)
  exact ⟨h1, h2, mEv_inv h3⟩
abbrev rm_T_read : Room := { frames := 2, cells := 0, slots := 0, locals := 43 }
set_option maxRecDepth 100000 in
set_option maxHeartbeats 4000000 in
theorem c_T_read (l : Launch) (D : va_G) (cA : Nat → ClassId) (ad : Nat → Nat → Nat) (A : Nat → Prop) : mCt l D clA (mTys cA) shC nmC csC cA ad A (StC ad A) yn_T_read (mWs yn_T_read kc_T_read 4 (some .int)) rm_T_read (.inr (.inl f_T_read)) := by
  refine mMetOf (T := tb_T_read) (gl := gl_T) (pl := pl_T) (gs := gs_T) (fe := fe_T) (sm := smC) (ct := ct_T_read) (sp := sp_T_read) (rk := 1) (by decide) rfl StC_stable (fun As g r _ h => ⟨by rw [(hd_T_read h).2.1]; decide, (hd_T_read h).2.2⟩) ?_
  intro p e s m args below meth c Qc res hx hb hml hown hlk hrt hts hK hS hend
  have ht : ∀ w ∈ mTb, w.before args s = true := fun w hw => hts w (List.mem_cons_of_mem _ hw)
  have hct : ∀ idx q, mlk ct_T_read idx = some q → mCallOk p l e rm_T_read s m args below meth c Qc kc_T_read 4 D clA shC nmC csC cA ad A idx q.1 q.2.1 q.2.2 := by
    unfold ct_T_read
    exact mlk_cons (P := fun (idx : Nat) (q : Nat × Nat × mFn) => mCallOk p l e rm_T_read s m args below meth c Qc kc_T_read 4 D clA shC nmC csC cA ad A idx q.1 q.2.1 q.2.2) (mCV StC_stable ⟨hx, hb, hml, hown, hts⟩ hK hS (mTb_at 434 ⟨by decide +kernel, rfl⟩) mi_T_has ms_T_has mn_T mc_T_has (c_T_has l D cA ad A) ⟨rfl, rfl⟩ ⟨by decide, by decide, by decide +kernel⟩ ⟨by decide, by decide⟩ (mRecvC hK shC_ok (a := 3) rfl rfl fun As g r h => (hd_T_has h).1)) (mlk_cons (P := fun (idx : Nat) (q : Nat × Nat × mFn) => mCallOk p l e rm_T_read s m args below meth c Qc kc_T_read 4 D clA shC nmC csC cA ad A idx q.1 q.2.1 q.2.2) (mCSN (host := "TriggerBase") StC_stable ⟨hx, hb, hml, hown, hts⟩ hK hS (hS.2.2.2 ("TriggerBase$Tables", 24) (by decide)) mst_B_isBelow mn_B mc_B_isBelow (c_B_isBelow l D cA ad A) ⟨rfl, rfl⟩ ⟨by decide, by decide, by decide +kernel⟩ ⟨by decide, by decide⟩) (mlk_cons (P := fun (idx : Nat) (q : Nat × Nat × mFn) => mCallOk p l e rm_T_read s m args below meth c Qc kc_T_read 4 D clA shC nmC csC cA ad A idx q.1 q.2.1 q.2.2) (mCS StC_stable ⟨hx, hb, hml, hown, hts⟩ hK hS (mTb_at 438 ⟨by decide +kernel, rfl⟩) mst_T_index mn_T mc_T_index (c_T_index l D cA ad A) ⟨rfl, rfl⟩ ⟨by decide, by decide, by decide +kernel⟩ ⟨by decide, by decide⟩) (mlk_none)))
  have hsp : ∀ idx n, mlk sp_T_read idx = some n → mSpOk rm_T_read s args "TriggerBase$Tables" idx n := by
    unfold sp_T_read
    exact mlk_none
  exact ⟨⟨hx, hb, hml, hown, hlk⟩, mTok.to tb_T_read_ok, ⟨hK, rfl, rfl, _, rfl⟩, shC_ok, mGlB.to uw_ok gl_T_ok ht, mPlB.to uw_ok pl_T_ok.1 pl_T_ok.2 ht, mlk_none, mlk_none, smr hx hb hS, alr hx hb hS, lnr hx hb hS, fun i j hi hj => hS.1.2 i j hi hj, hct, hsp, ⟨(fun h => nomatch h), fun _ => hrt, (fun h => nomatch h), (fun h => nomatch h)⟩, hend⟩
theorem hd_T_copyRow {As : List mV} {g : mG} {r : mRes} (h : mFres (.inl f_T_copyRow) As g = some r) : mHd (some 3) As = true ∧ As.length = 4 ∧ ∃ k, rn_T_copyRow k 0 (mL0 As 5) [] g = some r := by
  obtain ⟨h1, h2, h3⟩ := mFun_inv (mFV_inv (t := t_T_copyRow) h)
  exact ⟨h1, h2, mEv_inv h3⟩
abbrev rm_T_copyRow : Room := { frames := 3, cells := 0, slots := 0, locals := 66 }
set_option maxRecDepth 100000 in
set_option maxHeartbeats 4000000 in
theorem c_T_copyRow (l : Launch) (D : va_G) (cA : Nat → ClassId) (ad : Nat → Nat → Nat) (A : Nat → Prop) : mCt l D clA (mTys cA) shC nmC csC cA ad A (StC ad A) yn_T_copyRow (mWs yn_T_copyRow kc_T_copyRow 5 none) rm_T_copyRow (.inl f_T_copyRow) := by
  refine mMetOf (T := tb_T_copyRow) (gl := gl_T) (pl := pl_T) (gs := gs_T) (fe := fe_T) (sm := smC) (ct := ct_T_copyRow) (sp := sp_T_copyRow) (rk := 0) (by decide) rfl StC_stable (fun As g r _ h => ⟨by rw [(hd_T_copyRow h).2.1]; decide, (hd_T_copyRow h).2.2⟩) ?_
  intro p e s m args below meth c Qc res hx hb hml hown hlk hrt hts hK hS hend
  have ht : ∀ w ∈ mTb, w.before args s = true := fun w hw => hts w (List.mem_cons_of_mem _ hw)
  have hct : ∀ idx q, mlk ct_T_copyRow idx = some q → mCallOk p l e rm_T_copyRow s m args below meth c Qc kc_T_copyRow 5 D clA shC nmC csC cA ad A idx q.1 q.2.1 q.2.2 := by
    unfold ct_T_copyRow
    exact mlk_cons (P := fun (idx : Nat) (q : Nat × Nat × mFn) => mCallOk p l e rm_T_copyRow s m args below meth c Qc kc_T_copyRow 5 D clA shC nmC csC cA ad A idx q.1 q.2.1 q.2.2) (mCV StC_stable ⟨hx, hb, hml, hown, hts⟩ hK hS (mTb_at 445 ⟨by decide +kernel, rfl⟩) mi_T_read ms_T_read mn_T mc_T_read (c_T_read l D cA ad A) ⟨rfl, rfl⟩ ⟨by decide, by decide, by decide +kernel⟩ ⟨by decide, by decide⟩ (mRecvC hK shC_ok (a := 3) rfl rfl fun As g r h => (hd_T_read h).1)) (mlk_none)
  have hsp : ∀ idx n, mlk sp_T_copyRow idx = some n → mSpOk rm_T_copyRow s args "TriggerBase$Tables" idx n := by
    unfold sp_T_copyRow
    exact mlk_none
  exact ⟨⟨hx, hb, hml, hown, hlk⟩, mTok.to tb_T_copyRow_ok, ⟨hK, rfl, rfl, _, rfl⟩, shC_ok, mGlB.to uw_ok gl_T_ok ht, mPlB.to uw_ok pl_T_ok.1 pl_T_ok.2 ht, mlk_none, mlk_none, smr hx hb hS, alr hx hb hS, lnr hx hb hS, fun i j hi hj => hS.1.2 i j hi hj, hct, hsp, ⟨fun _ => hrt, (fun h => nomatch h), (fun h => nomatch h), (fun h => nomatch h)⟩, hend⟩
