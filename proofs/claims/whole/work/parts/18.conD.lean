theorem hd_R_begin {As : List mV} {g : mG} {r : mRes} (h : mFres (.inr (.inl f_R_begin)) As g = some r) : mHd (some 0) As = true ∧ As.length = 1 ∧ ∃ k, rn_R_begin k 0 (mL0 As 1) [] g = some r := by
  obtain ⟨h1, h2, h3⟩ := mFun_inv (mFI_inv (t := t_R_begin) h)
  exact ⟨h1, h2, mEv_inv h3⟩
abbrev rm_R_begin : Room := { frames := 0, cells := 0, slots := 0, locals := 0 }
set_option maxRecDepth 100000 in
set_option maxHeartbeats 4000000 in
theorem c_R_begin (l : Launch) (D : va_G) (cA : Nat → ClassId) (ad : Nat → Nat → Nat) (A : Nat → Prop) : mCt l D clA (mTys cA) shR nmR csR cA ad A (fun _ => True) yn_R_begin (mWs yn_R_begin kc_R_begin 1 (some .int)) rm_R_begin (.inr (.inl f_R_begin)) := by
  refine mMetOf (T := tb_R_begin) (gl := gl_R) (pl := pl_R) (gs := gs_R) (fe := fe_R) (sm := smC) (ct := ct_R_begin) (sp := sp_R_begin) (rk := 1) (by decide) rfl StR_stable (fun As g r _ h => ⟨by rw [(hd_R_begin h).2.1]; decide, (hd_R_begin h).2.2⟩) ?_
  intro p e s m args below meth c Qc res hx hb hml hown hlk hrt hts hK hS hend
  have ht : ∀ w ∈ mTb, w.before args s = true := fun w hw => hts w (List.mem_cons_of_mem _ hw)
  have hct : ∀ idx q, mlk ct_R_begin idx = some q → mCallOk p l e rm_R_begin s m args below meth c Qc kc_R_begin 1 D clA shR nmR csR cA ad A idx q.1 q.2.1 q.2.2 := by
    unfold ct_R_begin
    exact mlk_none
  have hsp : ∀ idx n, mlk sp_R_begin idx = some n → mSpOk rm_R_begin s args "TriggerBaseModel" idx n := by
    unfold sp_R_begin
    exact mlk_none
  exact ⟨⟨hx, hb, hml, hown, hlk⟩, mTok.to tb_R_begin_ok, ⟨hK, rfl, rfl, _, rfl⟩, shR_ok, mGlB.to uw_ok gl_R_ok ht, mPlB.to uw_ok pl_R_ok.1 pl_R_ok.2 ht, mlk_none, mlk_none, fun _ _ _ _ _ _ _ h => absurd h (Nat.not_lt_zero _), fun _ _ _ _ _ _ _ h => absurd h (Nat.not_lt_zero _), fun _ _ _ _ _ _ h => absurd h (Nat.not_lt_zero _), fun _ _ h => absurd h (Nat.not_lt_zero _), hct, hsp, ⟨(fun h => nomatch h), fun _ => hrt, (fun h => nomatch h), (fun h => nomatch h)⟩, hend⟩
theorem hd_R_emit {As : List mV} {g : mG} {r : mRes} (h : mFres (.inr (.inl f_R_emit)) As g = some r) : mHd (some 0) As = true ∧ As.length = 2 ∧ ∃ k, rn_R_emit k 0 (mL0 As 2) [] g = some r := by
  obtain ⟨h1, h2, h3⟩ := mFun_inv (mFI_inv (t := t_R_emit) h)
  exact ⟨h1, h2, mEv_inv h3⟩
abbrev rm_R_emit : Room := { frames := 0, cells := 0, slots := 0, locals := 0 }
set_option maxRecDepth 100000 in
set_option maxHeartbeats 4000000 in
theorem c_R_emit (l : Launch) (D : va_G) (cA : Nat → ClassId) (ad : Nat → Nat → Nat) (A : Nat → Prop) : mCt l D clA (mTys cA) shR nmR csR cA ad A (fun _ => True) yn_R_emit (mWs yn_R_emit kc_R_emit 2 (some .boolean)) rm_R_emit (.inr (.inl f_R_emit)) := by
  refine mMetOf (T := tb_R_emit) (gl := gl_R) (pl := pl_R) (gs := gs_R) (fe := fe_R) (sm := smC) (ct := ct_R_emit) (sp := sp_R_emit) (rk := 2) (by decide) rfl StR_stable (fun As g r _ h => ⟨by rw [(hd_R_emit h).2.1]; decide, (hd_R_emit h).2.2⟩) ?_
  intro p e s m args below meth c Qc res hx hb hml hown hlk hrt hts hK hS hend
  have ht : ∀ w ∈ mTb, w.before args s = true := fun w hw => hts w (List.mem_cons_of_mem _ hw)
  have hct : ∀ idx q, mlk ct_R_emit idx = some q → mCallOk p l e rm_R_emit s m args below meth c Qc kc_R_emit 2 D clA shR nmR csR cA ad A idx q.1 q.2.1 q.2.2 := by
    unfold ct_R_emit
    exact mlk_none
  have hsp : ∀ idx n, mlk sp_R_emit idx = some n → mSpOk rm_R_emit s args "TriggerBaseModel" idx n := by
    unfold sp_R_emit
    exact mlk_none
  exact ⟨⟨hx, hb, hml, hown, hlk⟩, mTok.to tb_R_emit_ok, ⟨hK, rfl, rfl, _, rfl⟩, shR_ok, mGlB.to uw_ok gl_R_ok ht, mPlB.to uw_ok pl_R_ok.1 pl_R_ok.2 ht, mlk_none, mlk_none, fun _ _ _ _ _ _ _ h => absurd h (Nat.not_lt_zero _), fun _ _ _ _ _ _ _ h => absurd h (Nat.not_lt_zero _), fun _ _ _ _ _ _ h => absurd h (Nat.not_lt_zero _), fun _ _ h => absurd h (Nat.not_lt_zero _), hct, hsp, ⟨(fun h => nomatch h), (fun h => nomatch h), fun _ => hrt, (fun h => nomatch h)⟩, hend⟩
theorem hd_R_operands {As : List mV} {g : mG} {r : mRes} (h : mFres (.inr (.inl f_R_operands)) As g = some r) : mHd none As = true ∧ As.length = 1 ∧ ∃ k, rn_R_operands k 0 (mL0 As 1) [] g = some r := by
  obtain ⟨h1, h2, h3⟩ := mFun_inv (mFI_inv (t := t_R_operands) h)
  exact ⟨h1, h2, mEv_inv h3⟩
abbrev rm_R_operands : Room := { frames := 0, cells := 0, slots := 0, locals := 0 }
set_option maxRecDepth 100000 in
set_option maxHeartbeats 4000000 in
theorem c_R_operands (l : Launch) (D : va_G) (cA : Nat → ClassId) (ad : Nat → Nat → Nat) (A : Nat → Prop) : mCt l D clA (mTys cA) shR nmR csR cA ad A (fun _ => True) yn_R_operands (mWs yn_R_operands kc_R_operands 1 (some .int)) rm_R_operands (.inr (.inl f_R_operands)) := by
  refine mMetOf (T := tb_R_operands) (gl := gl_R) (pl := pl_R) (gs := gs_R) (fe := fe_R) (sm := smC) (ct := ct_R_operands) (sp := sp_R_operands) (rk := 1) (by decide) rfl StR_stable (fun As g r _ h => ⟨by rw [(hd_R_operands h).2.1]; decide, (hd_R_operands h).2.2⟩) ?_
  intro p e s m args below meth c Qc res hx hb hml hown hlk hrt hts hK hS hend
  have ht : ∀ w ∈ mTb, w.before args s = true := fun w hw => hts w (List.mem_cons_of_mem _ hw)
  have hct : ∀ idx q, mlk ct_R_operands idx = some q → mCallOk p l e rm_R_operands s m args below meth c Qc kc_R_operands 1 D clA shR nmR csR cA ad A idx q.1 q.2.1 q.2.2 := by
    unfold ct_R_operands
    exact mlk_none
  have hsp : ∀ idx n, mlk sp_R_operands idx = some n → mSpOk rm_R_operands s args "TriggerBaseModel" idx n := by
    unfold sp_R_operands
    exact mlk_none
  exact ⟨⟨hx, hb, hml, hown, hlk⟩, mTok.to tb_R_operands_ok, ⟨hK, rfl, rfl, _, rfl⟩, shR_ok, mGlB.to uw_ok gl_R_ok ht, mPlB.to uw_ok pl_R_ok.1 pl_R_ok.2 ht, mlk_none, mlk_none, fun _ _ _ _ _ _ _ h => absurd h (Nat.not_lt_zero _), fun _ _ _ _ _ _ _ h => absurd h (Nat.not_lt_zero _), fun _ _ _ _ _ _ h => absurd h (Nat.not_lt_zero _), fun _ _ h => absurd h (Nat.not_lt_zero _), hct, hsp, ⟨(fun h => nomatch h), fun _ => hrt, (fun h => nomatch h), (fun h => nomatch h)⟩, hend⟩
theorem hd_R_takes {As : List mV} {g : mG} {r : mRes} (h : mFres (.inr (.inl f_R_takes)) As g = some r) : mHd none As = true ∧ As.length = 1 ∧ ∃ k, rn_R_takes k 0 (mL0 As 1) [] g = some r := by
  obtain ⟨h1, h2, h3⟩ := mFun_inv (mFI_inv (t := t_R_takes) h)
  exact ⟨h1, h2, mEv_inv h3⟩
abbrev rm_R_takes : Room := { frames := 0, cells := 0, slots := 0, locals := 0 }
set_option maxRecDepth 100000 in
set_option maxHeartbeats 4000000 in
theorem c_R_takes (l : Launch) (D : va_G) (cA : Nat → ClassId) (ad : Nat → Nat → Nat) (A : Nat → Prop) : mCt l D clA (mTys cA) shR nmR csR cA ad A (fun _ => True) yn_R_takes (mWs yn_R_takes kc_R_takes 1 (some .int)) rm_R_takes (.inr (.inl f_R_takes)) := by
  refine mMetOf (T := tb_R_takes) (gl := gl_R) (pl := pl_R) (gs := gs_R) (fe := fe_R) (sm := smC) (ct := ct_R_takes) (sp := sp_R_takes) (rk := 1) (by decide) rfl StR_stable (fun As g r _ h => ⟨by rw [(hd_R_takes h).2.1]; decide, (hd_R_takes h).2.2⟩) ?_
  intro p e s m args below meth c Qc res hx hb hml hown hlk hrt hts hK hS hend
  have ht : ∀ w ∈ mTb, w.before args s = true := fun w hw => hts w (List.mem_cons_of_mem _ hw)
  have hct : ∀ idx q, mlk ct_R_takes idx = some q → mCallOk p l e rm_R_takes s m args below meth c Qc kc_R_takes 1 D clA shR nmR csR cA ad A idx q.1 q.2.1 q.2.2 := by
    unfold ct_R_takes
    exact mlk_none
  have hsp : ∀ idx n, mlk sp_R_takes idx = some n → mSpOk rm_R_takes s args "TriggerBaseModel" idx n := by
    unfold sp_R_takes
    exact mlk_none
  exact ⟨⟨hx, hb, hml, hown, hlk⟩, mTok.to tb_R_takes_ok, ⟨hK, rfl, rfl, _, rfl⟩, shR_ok, mGlB.to uw_ok gl_R_ok ht, mPlB.to uw_ok pl_R_ok.1 pl_R_ok.2 ht, mlk_none, mlk_none, fun _ _ _ _ _ _ _ h => absurd h (Nat.not_lt_zero _), fun _ _ _ _ _ _ _ h => absurd h (Nat.not_lt_zero _), fun _ _ _ _ _ _ h => absurd h (Nat.not_lt_zero _), fun _ _ h => absurd h (Nat.not_lt_zero _), hct, hsp, ⟨(fun h => nomatch h), fun _ => hrt, (fun h => nomatch h), (fun h => nomatch h)⟩, hend⟩
theorem hd_R_gives {As : List mV} {g : mG} {r : mRes} (h : mFres (.inr (.inl f_R_gives)) As g = some r) : mHd none As = true ∧ As.length = 1 ∧ ∃ k, rn_R_gives k 0 (mL0 As 1) [] g = some r := by
  obtain ⟨h1, h2, h3⟩ := mFun_inv (mFI_inv (t := t_R_gives) h)
  exact ⟨h1, h2, mEv_inv h3⟩
abbrev rm_R_gives : Room := { frames := 0, cells := 0, slots := 0, locals := 0 }
set_option maxRecDepth 100000 in
set_option maxHeartbeats 4000000 in
theorem c_R_gives (l : Launch) (D : va_G) (cA : Nat → ClassId) (ad : Nat → Nat → Nat) (A : Nat → Prop) : mCt l D clA (mTys cA) shR nmR csR cA ad A (fun _ => True) yn_R_gives (mWs yn_R_gives kc_R_gives 1 (some .int)) rm_R_gives (.inr (.inl f_R_gives)) := by
  refine mMetOf (T := tb_R_gives) (gl := gl_R) (pl := pl_R) (gs := gs_R) (fe := fe_R) (sm := smC) (ct := ct_R_gives) (sp := sp_R_gives) (rk := 1) (by decide) rfl StR_stable (fun As g r _ h => ⟨by rw [(hd_R_gives h).2.1]; decide, (hd_R_gives h).2.2⟩) ?_
  intro p e s m args below meth c Qc res hx hb hml hown hlk hrt hts hK hS hend
  have ht : ∀ w ∈ mTb, w.before args s = true := fun w hw => hts w (List.mem_cons_of_mem _ hw)
  have hct : ∀ idx q, mlk ct_R_gives idx = some q → mCallOk p l e rm_R_gives s m args below meth c Qc kc_R_gives 1 D clA shR nmR csR cA ad A idx q.1 q.2.1 q.2.2 := by
    unfold ct_R_gives
    exact mlk_none
  have hsp : ∀ idx n, mlk sp_R_gives idx = some n → mSpOk rm_R_gives s args "TriggerBaseModel" idx n := by
    unfold sp_R_gives
    exact mlk_none
  exact ⟨⟨hx, hb, hml, hown, hlk⟩, mTok.to tb_R_gives_ok, ⟨hK, rfl, rfl, _, rfl⟩, shR_ok, mGlB.to uw_ok gl_R_ok ht, mPlB.to uw_ok pl_R_ok.1 pl_R_ok.2 ht, mlk_none, mlk_none, fun _ _ _ _ _ _ _ h => absurd h (Nat.not_lt_zero _), fun _ _ _ _ _ _ _ h => absurd h (Nat.not_lt_zero _), fun _ _ _ _ _ _ h => absurd h (Nat.not_lt_zero _), fun _ _ h => absurd h (Nat.not_lt_zero _), hct, hsp, ⟨(fun h => nomatch h), fun _ => hrt, (fun h => nomatch h), (fun h => nomatch h)⟩, hend⟩
theorem hd_R_word {As : List mV} {g : mG} {r : mRes} (h : mFres (.inr (.inl f_R_word)) As g = some r) : mHd (some 0) As = true ∧ As.length = 2 ∧ ∃ k, rn_R_word k 0 (mL0 As 2) [] g = some r := by
  obtain ⟨h1, h2, h3⟩ := mFun_inv (mFI_inv (t := t_R_word) h)
  exact ⟨h1, h2, mEv_inv h3⟩
abbrev rm_R_word : Room := { frames := 0, cells := 0, slots := 0, locals := 0 }
set_option maxRecDepth 100000 in
set_option maxHeartbeats 4000000 in
theorem c_R_word (l : Launch) (D : va_G) (cA : Nat → ClassId) (ad : Nat → Nat → Nat) (A : Nat → Prop) : mCt l D clA (mTys cA) shR nmR csR cA ad A (fun _ => True) yn_R_word (mWs yn_R_word kc_R_word 2 (some .int)) rm_R_word (.inr (.inl f_R_word)) := by
  refine mMetOf (T := tb_R_word) (gl := gl_R) (pl := pl_R) (gs := gs_R) (fe := fe_R) (sm := smC) (ct := ct_R_word) (sp := sp_R_word) (rk := 1) (by decide) rfl StR_stable (fun As g r _ h => ⟨by rw [(hd_R_word h).2.1]; decide, (hd_R_word h).2.2⟩) ?_
  intro p e s m args below meth c Qc res hx hb hml hown hlk hrt hts hK hS hend
  have ht : ∀ w ∈ mTb, w.before args s = true := fun w hw => hts w (List.mem_cons_of_mem _ hw)
  have hct : ∀ idx q, mlk ct_R_word idx = some q → mCallOk p l e rm_R_word s m args below meth c Qc kc_R_word 2 D clA shR nmR csR cA ad A idx q.1 q.2.1 q.2.2 := by
    unfold ct_R_word
    exact mlk_none
  have hsp : ∀ idx n, mlk sp_R_word idx = some n → mSpOk rm_R_word s args "TriggerBaseModel" idx n := by
    unfold sp_R_word
    exact mlk_none
  exact ⟨⟨hx, hb, hml, hown, hlk⟩, mTok.to tb_R_word_ok, ⟨hK, rfl, rfl, _, rfl⟩, shR_ok, mGlB.to uw_ok gl_R_ok ht, mPlB.to uw_ok pl_R_ok.1 pl_R_ok.2 ht, mlk_none, mlk_none, fun _ _ _ _ _ _ _ h => absurd h (Nat.not_lt_zero _), fun _ _ _ _ _ _ _ h => absurd h (Nat.not_lt_zero _), fun _ _ _ _ _ _ h => absurd h (Nat.not_lt_zero _), fun _ _ h => absurd h (Nat.not_lt_zero _), hct, hsp, ⟨(fun h => nomatch h), fun _ => hrt, (fun h => nomatch h), (fun h => nomatch h)⟩, hend⟩
theorem hd_R_isOutside {As : List mV} {g : mG} {r : mRes} (h : mFres (.inr (.inl f_R_isOutside)) As g = some r) : mHd (some 0) As = true ∧ As.length = 3 ∧ ∃ k, rn_R_isOutside k 0 (mL0 As 5) [] g = some r := by
  obtain ⟨h1, h2, h3⟩ := mFun_inv (mFI_inv (t := t_R_isOutside) h)
  exact ⟨h1, h2, mEv_inv h3⟩
abbrev rm_R_isOutside : Room := { frames := 1, cells := 0, slots := 0, locals := 21 }
set_option maxRecDepth 100000 in
set_option maxHeartbeats 4000000 in
theorem c_R_isOutside (l : Launch) (D : va_G) (cA : Nat → ClassId) (ad : Nat → Nat → Nat) (A : Nat → Prop) : mCt l D clA (mTys cA) shR nmR csR cA ad A (fun _ => True) yn_R_isOutside (mWs yn_R_isOutside kc_R_isOutside 5 (some .boolean)) rm_R_isOutside (.inr (.inl f_R_isOutside)) := by
  refine mMetOf (T := tb_R_isOutside) (gl := gl_R) (pl := pl_R) (gs := gs_R) (fe := fe_R) (sm := smC) (ct := ct_R_isOutside) (sp := sp_R_isOutside) (rk := 2) (by decide) rfl StR_stable (fun As g r _ h => ⟨by rw [(hd_R_isOutside h).2.1]; decide, (hd_R_isOutside h).2.2⟩) ?_
  intro p e s m args below meth c Qc res hx hb hml hown hlk hrt hts hK hS hend
  have ht : ∀ w ∈ mTb, w.before args s = true := fun w hw => hts w (List.mem_cons_of_mem _ hw)
  have hct : ∀ idx q, mlk ct_R_isOutside idx = some q → mCallOk p l e rm_R_isOutside s m args below meth c Qc kc_R_isOutside 5 D clA shR nmR csR cA ad A idx q.1 q.2.1 q.2.2 := by
    unfold ct_R_isOutside
    exact mlk_cons (P := fun (idx : Nat) (q : Nat × Nat × mFn) => mCallOk p l e rm_R_isOutside s m args below meth c Qc kc_R_isOutside 5 D clA shR nmR csR cA ad A idx q.1 q.2.1 q.2.2) (mCV StR_stable ⟨hx, hb, hml, hown, hts⟩ hK hS (mTb_at 635 ⟨by decide +kernel, rfl⟩) mi_R_word ms_R_word mn_R mc_R_word (c_R_word l D cA ad A) ⟨rfl, rfl⟩ ⟨by decide, by decide, by decide +kernel⟩ ⟨by decide, by decide⟩ (mRecvC hK shR_ok (a := 0) rfl rfl fun As g r h => (hd_R_word h).1)) (mlk_cons (P := fun (idx : Nat) (q : Nat × Nat × mFn) => mCallOk p l e rm_R_isOutside s m args below meth c Qc kc_R_isOutside 5 D clA shR nmR csR cA ad A idx q.1 q.2.1 q.2.2) (mCS StR_stable ⟨hx, hb, hml, hown, hts⟩ hK hS (mTb_at 639 ⟨by decide +kernel, rfl⟩) mst_R_operands mn_R mc_R_operands (c_R_operands l D cA ad A) ⟨rfl, rfl⟩ ⟨by decide, by decide, by decide +kernel⟩ ⟨by decide, by decide⟩) (mlk_none))
  have hsp : ∀ idx n, mlk sp_R_isOutside idx = some n → mSpOk rm_R_isOutside s args "TriggerBaseModel" idx n := by
    unfold sp_R_isOutside
    exact mlk_none
  exact ⟨⟨hx, hb, hml, hown, hlk⟩, mTok.to tb_R_isOutside_ok, ⟨hK, rfl, rfl, _, rfl⟩, shR_ok, mGlB.to uw_ok gl_R_ok ht, mPlB.to uw_ok pl_R_ok.1 pl_R_ok.2 ht, mlk_none, mlk_none, fun _ _ _ _ _ _ _ h => absurd h (Nat.not_lt_zero _), fun _ _ _ _ _ _ _ h => absurd h (Nat.not_lt_zero _), fun _ _ _ _ _ _ h => absurd h (Nat.not_lt_zero _), fun _ _ h => absurd h (Nat.not_lt_zero _), hct, hsp, ⟨(fun h => nomatch h), (fun h => nomatch h), fun _ => hrt, (fun h => nomatch h)⟩, hend⟩
theorem hd_R_shape {As : List mV} {g : mG} {r : mRes} (h : mFres (.inr (.inl f_R_shape)) As g = some r) : mHd (some 0) As = true ∧ As.length = 2 ∧ ∃ k, rn_R_shape k 0 (mL0 As 4) [] g = some r := by
  obtain ⟨h1, h2, h3⟩ := mFun_inv (mFI_inv (t := t_R_shape) h)
  exact ⟨h1, h2, mEv_inv h3⟩
abbrev rm_R_shape : Room := { frames := 2, cells := 0, slots := 0, locals := 45 }
set_option maxRecDepth 100000 in
set_option maxHeartbeats 4000000 in
theorem c_R_shape (l : Launch) (D : va_G) (cA : Nat → ClassId) (ad : Nat → Nat → Nat) (A : Nat → Prop) : mCt l D clA (mTys cA) shR nmR csR cA ad A (fun _ => True) yn_R_shape (mWs yn_R_shape kc_R_shape 4 (some .int)) rm_R_shape (.inr (.inl f_R_shape)) := by
  refine mMetOf (T := tb_R_shape) (gl := gl_R) (pl := pl_R) (gs := gs_R) (fe := fe_R) (sm := smC) (ct := ct_R_shape) (sp := sp_R_shape) (rk := 1) (by decide) rfl StR_stable (fun As g r _ h => ⟨by rw [(hd_R_shape h).2.1]; decide, (hd_R_shape h).2.2⟩) ?_
  intro p e s m args below meth c Qc res hx hb hml hown hlk hrt hts hK hS hend
  have ht : ∀ w ∈ mTb, w.before args s = true := fun w hw => hts w (List.mem_cons_of_mem _ hw)
  have hct : ∀ idx q, mlk ct_R_shape idx = some q → mCallOk p l e rm_R_shape s m args below meth c Qc kc_R_shape 4 D clA shR nmR csR cA ad A idx q.1 q.2.1 q.2.2 := by
    unfold ct_R_shape
    exact mlk_cons (P := fun (idx : Nat) (q : Nat × Nat × mFn) => mCallOk p l e rm_R_shape s m args below meth c Qc kc_R_shape 4 D clA shR nmR csR cA ad A idx q.1 q.2.1 q.2.2) (mCV StR_stable ⟨hx, hb, hml, hown, hts⟩ hK hS (mTb_at 635 ⟨by decide +kernel, rfl⟩) mi_R_word ms_R_word mn_R mc_R_word (c_R_word l D cA ad A) ⟨rfl, rfl⟩ ⟨by decide, by decide, by decide +kernel⟩ ⟨by decide, by decide⟩ (mRecvC hK shR_ok (a := 0) rfl rfl fun As g r h => (hd_R_word h).1)) (mlk_cons (P := fun (idx : Nat) (q : Nat × Nat × mFn) => mCallOk p l e rm_R_shape s m args below meth c Qc kc_R_shape 4 D clA shR nmR csR cA ad A idx q.1 q.2.1 q.2.2) (mCS StR_stable ⟨hx, hb, hml, hown, hts⟩ hK hS (mTb_at 639 ⟨by decide +kernel, rfl⟩) mst_R_operands mn_R mc_R_operands (c_R_operands l D cA ad A) ⟨rfl, rfl⟩ ⟨by decide, by decide, by decide +kernel⟩ ⟨by decide, by decide⟩) (mlk_cons (P := fun (idx : Nat) (q : Nat × Nat × mFn) => mCallOk p l e rm_R_shape s m args below meth c Qc kc_R_shape 4 D clA shR nmR csR cA ad A idx q.1 q.2.1 q.2.2) (mCV StR_stable ⟨hx, hb, hml, hown, hts⟩ hK hS (mTb_at 642 ⟨by decide +kernel, rfl⟩) mi_R_isOutside ms_R_isOutside mn_R mc_R_isOutside (c_R_isOutside l D cA ad A) ⟨rfl, rfl⟩ ⟨by decide, by decide, by decide +kernel⟩ ⟨by decide, by decide⟩ (mRecvC hK shR_ok (a := 0) rfl rfl fun As g r h => (hd_R_isOutside h).1)) (mlk_none)))
  have hsp : ∀ idx n, mlk sp_R_shape idx = some n → mSpOk rm_R_shape s args "TriggerBaseModel" idx n := by
    unfold sp_R_shape
    exact mlk_none
  exact ⟨⟨hx, hb, hml, hown, hlk⟩, mTok.to tb_R_shape_ok, ⟨hK, rfl, rfl, _, rfl⟩, shR_ok, mGlB.to uw_ok gl_R_ok ht, mPlB.to uw_ok pl_R_ok.1 pl_R_ok.2 ht, mlk_none, mlk_none, fun _ _ _ _ _ _ _ h => absurd h (Nat.not_lt_zero _), fun _ _ _ _ _ _ _ h => absurd h (Nat.not_lt_zero _), fun _ _ _ _ _ _ h => absurd h (Nat.not_lt_zero _), fun _ _ h => absurd h (Nat.not_lt_zero _), hct, hsp, ⟨(fun h => nomatch h), fun _ => hrt, (fun h => nomatch h), (fun h => nomatch h)⟩, hend⟩
theorem hd_R_jumps {As : List mV} {g : mG} {r : mRes} (h : mFres (.inr (.inl f_R_jumps)) As g = some r) : mHd (some 0) As = true ∧ As.length = 2 ∧ ∃ k, rn_R_jumps k 0 (mL0 As 4) [] g = some r := by
  obtain ⟨h1, h2, h3⟩ := mFun_inv (mFI_inv (t := t_R_jumps) h)
  exact ⟨h1, h2, mEv_inv h3⟩
abbrev rm_R_jumps : Room := { frames := 1, cells := 0, slots := 0, locals := 21 }
set_option maxRecDepth 100000 in
set_option maxHeartbeats 4000000 in
theorem c_R_jumps (l : Launch) (D : va_G) (cA : Nat → ClassId) (ad : Nat → Nat → Nat) (A : Nat → Prop) : mCt l D clA (mTys cA) shR nmR csR cA ad A (fun _ => True) yn_R_jumps (mWs yn_R_jumps kc_R_jumps 4 (some .int)) rm_R_jumps (.inr (.inl f_R_jumps)) := by
  refine mMetOf (T := tb_R_jumps) (gl := gl_R) (pl := pl_R) (gs := gs_R) (fe := fe_R) (sm := smC) (ct := ct_R_jumps) (sp := sp_R_jumps) (rk := 1) (by decide) rfl StR_stable (fun As g r _ h => ⟨by rw [(hd_R_jumps h).2.1]; decide, (hd_R_jumps h).2.2⟩) ?_
  intro p e s m args below meth c Qc res hx hb hml hown hlk hrt hts hK hS hend
  have ht : ∀ w ∈ mTb, w.before args s = true := fun w hw => hts w (List.mem_cons_of_mem _ hw)
  have hct : ∀ idx q, mlk ct_R_jumps idx = some q → mCallOk p l e rm_R_jumps s m args below meth c Qc kc_R_jumps 4 D clA shR nmR csR cA ad A idx q.1 q.2.1 q.2.2 := by
    unfold ct_R_jumps
    exact mlk_cons (P := fun (idx : Nat) (q : Nat × Nat × mFn) => mCallOk p l e rm_R_jumps s m args below meth c Qc kc_R_jumps 4 D clA shR nmR csR cA ad A idx q.1 q.2.1 q.2.2) (mCV StR_stable ⟨hx, hb, hml, hown, hts⟩ hK hS (mTb_at 635 ⟨by decide +kernel, rfl⟩) mi_R_word ms_R_word mn_R mc_R_word (c_R_word l D cA ad A) ⟨rfl, rfl⟩ ⟨by decide, by decide, by decide +kernel⟩ ⟨by decide, by decide⟩ (mRecvC hK shR_ok (a := 0) rfl rfl fun As g r h => (hd_R_word h).1)) (mlk_none)
  have hsp : ∀ idx n, mlk sp_R_jumps idx = some n → mSpOk rm_R_jumps s args "TriggerBaseModel" idx n := by
    unfold sp_R_jumps
    exact mlk_none
  exact ⟨⟨hx, hb, hml, hown, hlk⟩, mTok.to tb_R_jumps_ok, ⟨hK, rfl, rfl, _, rfl⟩, shR_ok, mGlB.to uw_ok gl_R_ok ht, mPlB.to uw_ok pl_R_ok.1 pl_R_ok.2 ht, mlk_none, mlk_none, fun _ _ _ _ _ _ _ h => absurd h (Nat.not_lt_zero _), fun _ _ _ _ _ _ _ h => absurd h (Nat.not_lt_zero _), fun _ _ _ _ _ _ h => absurd h (Nat.not_lt_zero _), fun _ _ h => absurd h (Nat.not_lt_zero _), hct, hsp, ⟨(fun h => nomatch h), fun _ => hrt, (fun h => nomatch h), (fun h => nomatch h)⟩, hend⟩
theorem hd_R_reach {As : List mV} {g : mG} {r : mRes} (h : mFres (.inr (.inl f_R_reach)) As g = some r) : mHd (some 0) As = true ∧ As.length = 4 ∧ ∃ k, rn_R_reach k 0 (mL0 As 4) [] g = some r := by
  obtain ⟨h1, h2, h3⟩ := mFun_inv (mFI_inv (t := t_R_reach) h)
  exact ⟨h1, h2, mEv_inv h3⟩
abbrev rm_R_reach : Room := { frames := 0, cells := 0, slots := 0, locals := 0 }
set_option maxRecDepth 100000 in
set_option maxHeartbeats 4000000 in
theorem c_R_reach (l : Launch) (D : va_G) (cA : Nat → ClassId) (ad : Nat → Nat → Nat) (A : Nat → Prop) : mCt l D clA (mTys cA) shR nmR csR cA ad A (fun _ => True) yn_R_reach (mWs yn_R_reach kc_R_reach 4 (some .int)) rm_R_reach (.inr (.inl f_R_reach)) := by
  refine mMetOf (T := tb_R_reach) (gl := gl_R) (pl := pl_R) (gs := gs_R) (fe := fe_R) (sm := smC) (ct := ct_R_reach) (sp := sp_R_reach) (rk := 1) (by decide) rfl StR_stable (fun As g r _ h => ⟨by rw [(hd_R_reach h).2.1]; decide, (hd_R_reach h).2.2⟩) ?_
  intro p e s m args below meth c Qc res hx hb hml hown hlk hrt hts hK hS hend
  have ht : ∀ w ∈ mTb, w.before args s = true := fun w hw => hts w (List.mem_cons_of_mem _ hw)
  have hct : ∀ idx q, mlk ct_R_reach idx = some q → mCallOk p l e rm_R_reach s m args below meth c Qc kc_R_reach 4 D clA shR nmR csR cA ad A idx q.1 q.2.1 q.2.2 := by
    unfold ct_R_reach
    exact mlk_none
  have hsp : ∀ idx n, mlk sp_R_reach idx = some n → mSpOk rm_R_reach s args "TriggerBaseModel" idx n := by
    unfold sp_R_reach
    exact mlk_none
  exact ⟨⟨hx, hb, hml, hown, hlk⟩, mTok.to tb_R_reach_ok, ⟨hK, rfl, rfl, _, rfl⟩, shR_ok, mGlB.to uw_ok gl_R_ok ht, mPlB.to uw_ok pl_R_ok.1 pl_R_ok.2 ht, mlk_none, mlk_none, fun _ _ _ _ _ _ _ h => absurd h (Nat.not_lt_zero _), fun _ _ _ _ _ _ _ h => absurd h (Nat.not_lt_zero _), fun _ _ _ _ _ _ h => absurd h (Nat.not_lt_zero _), fun _ _ h => absurd h (Nat.not_lt_zero _), hct, hsp, ⟨(fun h => nomatch h), fun _ => hrt, (fun h => nomatch h), (fun h => nomatch h)⟩, hend⟩
theorem hd_R_look {As : List mV} {g : mG} {r : mRes} (h : mFres (.inr (.inl f_R_look)) As g = some r) : mHd (some 0) As = true ∧ As.length = 3 ∧ ∃ k, rn_R_look k 0 (mL0 As 7) [] g = some r := by
  obtain ⟨h1, h2, h3⟩ := mFun_inv (mFI_inv (t := t_R_look) h)
  exact ⟨h1, h2, mEv_inv h3⟩
abbrev rm_R_look : Room := { frames := 1, cells := 0, slots := 0, locals := 23 }
set_option maxRecDepth 100000 in
set_option maxHeartbeats 4000000 in
theorem c_R_look (l : Launch) (D : va_G) (cA : Nat → ClassId) (ad : Nat → Nat → Nat) (A : Nat → Prop) : mCt l D clA (mTys cA) shR nmR csR cA ad A (fun _ => True) yn_R_look (mWs yn_R_look kc_R_look 7 (some .int)) rm_R_look (.inr (.inl f_R_look)) := by
  refine mMetOf (T := tb_R_look) (gl := gl_R) (pl := pl_R) (gs := gs_R) (fe := fe_R) (sm := smC) (ct := ct_R_look) (sp := sp_R_look) (rk := 1) (by decide) rfl StR_stable (fun As g r _ h => ⟨by rw [(hd_R_look h).2.1]; decide, (hd_R_look h).2.2⟩) ?_
  intro p e s m args below meth c Qc res hx hb hml hown hlk hrt hts hK hS hend
  have ht : ∀ w ∈ mTb, w.before args s = true := fun w hw => hts w (List.mem_cons_of_mem _ hw)
  have hct : ∀ idx q, mlk ct_R_look idx = some q → mCallOk p l e rm_R_look s m args below meth c Qc kc_R_look 7 D clA shR nmR csR cA ad A idx q.1 q.2.1 q.2.2 := by
    unfold ct_R_look
    exact mlk_cons (P := fun (idx : Nat) (q : Nat × Nat × mFn) => mCallOk p l e rm_R_look s m args below meth c Qc kc_R_look 7 D clA shR nmR csR cA ad A idx q.1 q.2.1 q.2.2) (mCV StR_stable ⟨hx, hb, hml, hown, hts⟩ hK hS (mTb_at 635 ⟨by decide +kernel, rfl⟩) mi_R_word ms_R_word mn_R mc_R_word (c_R_word l D cA ad A) ⟨rfl, rfl⟩ ⟨by decide, by decide, by decide +kernel⟩ ⟨by decide, by decide⟩ (mRecvC hK shR_ok (a := 0) rfl rfl fun As g r h => (hd_R_word h).1)) (mlk_cons (P := fun (idx : Nat) (q : Nat × Nat × mFn) => mCallOk p l e rm_R_look s m args below meth c Qc kc_R_look 7 D clA shR nmR csR cA ad A idx q.1 q.2.1 q.2.2) (mCS StR_stable ⟨hx, hb, hml, hown, hts⟩ hK hS (mTb_at 654 ⟨by decide +kernel, rfl⟩) mst_R_takes mn_R mc_R_takes (c_R_takes l D cA ad A) ⟨rfl, rfl⟩ ⟨by decide, by decide, by decide +kernel⟩ ⟨by decide, by decide⟩) (mlk_cons (P := fun (idx : Nat) (q : Nat × Nat × mFn) => mCallOk p l e rm_R_look s m args below meth c Qc kc_R_look 7 D clA shR nmR csR cA ad A idx q.1 q.2.1 q.2.2) (mCS StR_stable ⟨hx, hb, hml, hown, hts⟩ hK hS (mTb_at 657 ⟨by decide +kernel, rfl⟩) mst_R_gives mn_R mc_R_gives (c_R_gives l D cA ad A) ⟨rfl, rfl⟩ ⟨by decide, by decide, by decide +kernel⟩ ⟨by decide, by decide⟩) (mlk_cons (P := fun (idx : Nat) (q : Nat × Nat × mFn) => mCallOk p l e rm_R_look s m args below meth c Qc kc_R_look 7 D clA shR nmR csR cA ad A idx q.1 q.2.1 q.2.2) (mCS StR_stable ⟨hx, hb, hml, hown, hts⟩ hK hS (mTb_at 639 ⟨by decide +kernel, rfl⟩) mst_R_operands mn_R mc_R_operands (c_R_operands l D cA ad A) ⟨rfl, rfl⟩ ⟨by decide, by decide, by decide +kernel⟩ ⟨by decide, by decide⟩) (mlk_cons (P := fun (idx : Nat) (q : Nat × Nat × mFn) => mCallOk p l e rm_R_look s m args below meth c Qc kc_R_look 7 D clA shR nmR csR cA ad A idx q.1 q.2.1 q.2.2) (mCV StR_stable ⟨hx, hb, hml, hown, hts⟩ hK hS (mTb_at 660 ⟨by decide +kernel, rfl⟩) mi_R_reach ms_R_reach mn_R mc_R_reach (c_R_reach l D cA ad A) ⟨rfl, rfl⟩ ⟨by decide, by decide, by decide +kernel⟩ ⟨by decide, by decide⟩ (mRecvC hK shR_ok (a := 0) rfl rfl fun As g r h => (hd_R_reach h).1)) (mlk_none)))))
  have hsp : ∀ idx n, mlk sp_R_look idx = some n → mSpOk rm_R_look s args "TriggerBaseModel" idx n := by
    unfold sp_R_look
    exact mlk_none
  exact ⟨⟨hx, hb, hml, hown, hlk⟩, mTok.to tb_R_look_ok, ⟨hK, rfl, rfl, _, rfl⟩, shR_ok, mGlB.to uw_ok gl_R_ok ht, mPlB.to uw_ok pl_R_ok.1 pl_R_ok.2 ht, mlk_none, mlk_none, fun _ _ _ _ _ _ _ h => absurd h (Nat.not_lt_zero _), fun _ _ _ _ _ _ _ h => absurd h (Nat.not_lt_zero _), fun _ _ _ _ _ _ h => absurd h (Nat.not_lt_zero _), fun _ _ h => absurd h (Nat.not_lt_zero _), hct, hsp, ⟨(fun h => nomatch h), fun _ => hrt, (fun h => nomatch h), (fun h => nomatch h)⟩, hend⟩
theorem hd_R_verify {As : List mV} {g : mG} {r : mRes} (h : mFres (.inr (.inl f_R_verify)) As g = some r) : mHd (some 0) As = true ∧ As.length = 1 ∧ ∃ k, rn_R_verify k 0 (mL0 As 5) [] g = some r := by
  obtain ⟨h1, h2, h3⟩ := mFun_inv (mFI_inv (t := t_R_verify) h)
  exact ⟨h1, h2, mEv_inv h3⟩
abbrev rm_R_verify : Room := { frames := 3, cells := 0, slots := 0, locals := 68 }
set_option maxRecDepth 100000 in
set_option maxHeartbeats 4000000 in
theorem c_R_verify (l : Launch) (D : va_G) (cA : Nat → ClassId) (ad : Nat → Nat → Nat) (A : Nat → Prop) : mCt l D clA (mTys cA) shR nmR csR cA ad A (fun _ => True) yn_R_verify (mWs yn_R_verify kc_R_verify 5 (some .int)) rm_R_verify (.inr (.inl f_R_verify)) := by
  refine mMetOf (T := tb_R_verify) (gl := gl_R) (pl := pl_R) (gs := gs_R) (fe := fe_R) (sm := smC) (ct := ct_R_verify) (sp := sp_R_verify) (rk := 1) (by decide) rfl StR_stable (fun As g r _ h => ⟨by rw [(hd_R_verify h).2.1]; decide, (hd_R_verify h).2.2⟩) ?_
  intro p e s m args below meth c Qc res hx hb hml hown hlk hrt hts hK hS hend
  have ht : ∀ w ∈ mTb, w.before args s = true := fun w hw => hts w (List.mem_cons_of_mem _ hw)
  have hct : ∀ idx q, mlk ct_R_verify idx = some q → mCallOk p l e rm_R_verify s m args below meth c Qc kc_R_verify 5 D clA shR nmR csR cA ad A idx q.1 q.2.1 q.2.2 := by
    unfold ct_R_verify
    exact mlk_cons (P := fun (idx : Nat) (q : Nat × Nat × mFn) => mCallOk p l e rm_R_verify s m args below meth c Qc kc_R_verify 5 D clA shR nmR csR cA ad A idx q.1 q.2.1 q.2.2) (mCV StR_stable ⟨hx, hb, hml, hown, hts⟩ hK hS (mTb_at 631 ⟨by decide +kernel, rfl⟩) mi_R_shape ms_R_shape mn_R mc_R_shape (c_R_shape l D cA ad A) ⟨rfl, rfl⟩ ⟨by decide, by decide, by decide +kernel⟩ ⟨by decide, by decide⟩ (mRecvC hK shR_ok (a := 0) rfl rfl fun As g r h => (hd_R_shape h).1)) (mlk_cons (P := fun (idx : Nat) (q : Nat × Nat × mFn) => mCallOk p l e rm_R_verify s m args below meth c Qc kc_R_verify 5 D clA shR nmR csR cA ad A idx q.1 q.2.1 q.2.2) (mCV StR_stable ⟨hx, hb, hml, hown, hts⟩ hK hS (mTb_at 646 ⟨by decide +kernel, rfl⟩) mi_R_jumps ms_R_jumps mn_R mc_R_jumps (c_R_jumps l D cA ad A) ⟨rfl, rfl⟩ ⟨by decide, by decide, by decide +kernel⟩ ⟨by decide, by decide⟩ (mRecvC hK shR_ok (a := 0) rfl rfl fun As g r h => (hd_R_jumps h).1)) (mlk_cons (P := fun (idx : Nat) (q : Nat × Nat × mFn) => mCallOk p l e rm_R_verify s m args below meth c Qc kc_R_verify 5 D clA shR nmR csR cA ad A idx q.1 q.2.1 q.2.2) (mCV StR_stable ⟨hx, hb, hml, hown, hts⟩ hK hS (mTb_at 650 ⟨by decide +kernel, rfl⟩) mi_R_look ms_R_look mn_R mc_R_look (c_R_look l D cA ad A) ⟨rfl, rfl⟩ ⟨by decide, by decide, by decide +kernel⟩ ⟨by decide, by decide⟩ (mRecvC hK shR_ok (a := 0) rfl rfl fun As g r h => (hd_R_look h).1)) (mlk_none)))
  have hsp : ∀ idx n, mlk sp_R_verify idx = some n → mSpOk rm_R_verify s args "TriggerBaseModel" idx n := by
    unfold sp_R_verify
    exact mlk_none
  exact ⟨⟨hx, hb, hml, hown, hlk⟩, mTok.to tb_R_verify_ok, ⟨hK, rfl, rfl, _, rfl⟩, shR_ok, mGlB.to uw_ok gl_R_ok ht, mPlB.to uw_ok pl_R_ok.1 pl_R_ok.2 ht, mlk_none, mlk_none, fun _ _ _ _ _ _ _ h => absurd h (Nat.not_lt_zero _), fun _ _ _ _ _ _ _ h => absurd h (Nat.not_lt_zero _), fun _ _ _ _ _ _ h => absurd h (Nat.not_lt_zero _), fun _ _ h => absurd h (Nat.not_lt_zero _), hct, hsp, ⟨(fun h => nomatch h), fun _ => hrt, (fun h => nomatch h), (fun h => nomatch h)⟩, hend⟩
theorem hd_R_end {As : List mV} {g : mG} {r : mRes} (h : mFres (.inr (.inl f_R_end)) As g = some r) : mHd (some 0) As = true ∧ As.length = 1 ∧ ∃ k, rn_R_end k 0 (mL0 As 2) [] g = some r := by
  obtain ⟨h1, h2, h3⟩ := mFun_inv (mFI_inv (t := t_R_end) h)
  exact ⟨h1, h2, mEv_inv h3⟩
abbrev rm_R_end : Room := { frames := 4, cells := 0, slots := 0, locals := 92 }
set_option maxRecDepth 100000 in
set_option maxHeartbeats 4000000 in
theorem c_R_end (l : Launch) (D : va_G) (cA : Nat → ClassId) (ad : Nat → Nat → Nat) (A : Nat → Prop) : mCt l D clA (mTys cA) shR nmR csR cA ad A (fun _ => True) yn_R_end (mWs yn_R_end kc_R_end 2 (some .int)) rm_R_end (.inr (.inl f_R_end)) := by
  refine mMetOf (T := tb_R_end) (gl := gl_R) (pl := pl_R) (gs := gs_R) (fe := fe_R) (sm := smC) (ct := ct_R_end) (sp := sp_R_end) (rk := 1) (by decide) rfl StR_stable (fun As g r _ h => ⟨by rw [(hd_R_end h).2.1]; decide, (hd_R_end h).2.2⟩) ?_
  intro p e s m args below meth c Qc res hx hb hml hown hlk hrt hts hK hS hend
  have ht : ∀ w ∈ mTb, w.before args s = true := fun w hw => hts w (List.mem_cons_of_mem _ hw)
  have hct : ∀ idx q, mlk ct_R_end idx = some q → mCallOk p l e rm_R_end s m args below meth c Qc kc_R_end 2 D clA shR nmR csR cA ad A idx q.1 q.2.1 q.2.2 := by
    unfold ct_R_end
    exact mlk_cons (P := fun (idx : Nat) (q : Nat × Nat × mFn) => mCallOk p l e rm_R_end s m args below meth c Qc kc_R_end 2 D clA shR nmR csR cA ad A idx q.1 q.2.1 q.2.2) (mCV StR_stable ⟨hx, hb, hml, hown, hts⟩ hK hS (mTb_at 627 ⟨by decide +kernel, rfl⟩) mi_R_verify ms_R_verify mn_R mc_R_verify (c_R_verify l D cA ad A) ⟨rfl, rfl⟩ ⟨by decide, by decide, by decide +kernel⟩ ⟨by decide, by decide⟩ (mRecvC hK shR_ok (a := 0) rfl rfl fun As g r h => (hd_R_verify h).1)) (mlk_none)
  have hsp : ∀ idx n, mlk sp_R_end idx = some n → mSpOk rm_R_end s args "TriggerBaseModel" idx n := by
    unfold sp_R_end
    exact mlk_none
  exact ⟨⟨hx, hb, hml, hown, hlk⟩, mTok.to tb_R_end_ok, ⟨hK, rfl, rfl, _, rfl⟩, shR_ok, mGlB.to uw_ok gl_R_ok ht, mPlB.to uw_ok pl_R_ok.1 pl_R_ok.2 ht, mlk_none, mlk_none, fun _ _ _ _ _ _ _ h => absurd h (Nat.not_lt_zero _), fun _ _ _ _ _ _ _ h => absurd h (Nat.not_lt_zero _), fun _ _ _ _ _ _ h => absurd h (Nat.not_lt_zero _), fun _ _ h => absurd h (Nat.not_lt_zero _), hct, hsp, ⟨(fun h => nomatch h), fun _ => hrt, (fun h => nomatch h), (fun h => nomatch h)⟩, hend⟩
theorem hd_R_procedures {As : List mV} {g : mG} {r : mRes} (h : mFres (.inr (.inl f_R_procedures)) As g = some r) : mHd (some 0) As = true ∧ As.length = 1 ∧ ∃ k, rn_R_procedures k 0 (mL0 As 1) [] g = some r := by
  obtain ⟨h1, h2, h3⟩ := mFun_inv (mFI_inv (t := t_R_procedures) h)
  exact ⟨h1, h2, mEv_inv h3⟩
abbrev rm_R_procedures : Room := { frames := 0, cells := 0, slots := 0, locals := 0 }
set_option maxRecDepth 100000 in
set_option maxHeartbeats 4000000 in
theorem c_R_procedures (l : Launch) (D : va_G) (cA : Nat → ClassId) (ad : Nat → Nat → Nat) (A : Nat → Prop) : mCt l D clA (mTys cA) shR nmR csR cA ad A (fun _ => True) yn_R_procedures (mWs yn_R_procedures kc_R_procedures 1 (some .int)) rm_R_procedures (.inr (.inl f_R_procedures)) := by
  refine mMetOf (T := tb_R_procedures) (gl := gl_R) (pl := pl_R) (gs := gs_R) (fe := fe_R) (sm := smC) (ct := ct_R_procedures) (sp := sp_R_procedures) (rk := 1) (by decide) rfl StR_stable (fun As g r _ h => ⟨by rw [(hd_R_procedures h).2.1]; decide, (hd_R_procedures h).2.2⟩) ?_
  intro p e s m args below meth c Qc res hx hb hml hown hlk hrt hts hK hS hend
  have ht : ∀ w ∈ mTb, w.before args s = true := fun w hw => hts w (List.mem_cons_of_mem _ hw)
  have hct : ∀ idx q, mlk ct_R_procedures idx = some q → mCallOk p l e rm_R_procedures s m args below meth c Qc kc_R_procedures 1 D clA shR nmR csR cA ad A idx q.1 q.2.1 q.2.2 := by
    unfold ct_R_procedures
    exact mlk_none
  have hsp : ∀ idx n, mlk sp_R_procedures idx = some n → mSpOk rm_R_procedures s args "TriggerBaseModel" idx n := by
    unfold sp_R_procedures
    exact mlk_none
  exact ⟨⟨hx, hb, hml, hown, hlk⟩, mTok.to tb_R_procedures_ok, ⟨hK, rfl, rfl, _, rfl⟩, shR_ok, mGlB.to uw_ok gl_R_ok ht, mPlB.to uw_ok pl_R_ok.1 pl_R_ok.2 ht, mlk_none, mlk_none, fun _ _ _ _ _ _ _ h => absurd h (Nat.not_lt_zero _), fun _ _ _ _ _ _ _ h => absurd h (Nat.not_lt_zero _), fun _ _ _ _ _ _ h => absurd h (Nat.not_lt_zero _), fun _ _ h => absurd h (Nat.not_lt_zero _), hct, hsp, ⟨(fun h => nomatch h), fun _ => hrt, (fun h => nomatch h), (fun h => nomatch h)⟩, hend⟩
theorem hd_R_bind {As : List mV} {g : mG} {r : mRes} (h : mFres (.inr (.inl f_R_bind)) As g = some r) : mHd (some 0) As = true ∧ As.length = 4 ∧ ∃ k, rn_R_bind k 0 (mL0 As 4) [] g = some r := by
  obtain ⟨h1, h2, h3⟩ := mFun_inv (mFI_inv (t := t_R_bind) h)
  exact ⟨h1, h2, mEv_inv h3⟩
abbrev rm_R_bind : Room := { frames := 0, cells := 0, slots := 0, locals := 0 }
set_option maxRecDepth 100000 in
set_option maxHeartbeats 4000000 in
theorem c_R_bind (l : Launch) (D : va_G) (cA : Nat → ClassId) (ad : Nat → Nat → Nat) (A : Nat → Prop) : mCt l D clA (mTys cA) shR nmR csR cA ad A (fun _ => True) yn_R_bind (mWs yn_R_bind kc_R_bind 4 (some .int)) rm_R_bind (.inr (.inl f_R_bind)) := by
  refine mMetOf (T := tb_R_bind) (gl := gl_R) (pl := pl_R) (gs := gs_R) (fe := fe_R) (sm := smC) (ct := ct_R_bind) (sp := sp_R_bind) (rk := 1) (by decide) rfl StR_stable (fun As g r _ h => ⟨by rw [(hd_R_bind h).2.1]; decide, (hd_R_bind h).2.2⟩) ?_
  intro p e s m args below meth c Qc res hx hb hml hown hlk hrt hts hK hS hend
  have ht : ∀ w ∈ mTb, w.before args s = true := fun w hw => hts w (List.mem_cons_of_mem _ hw)
  have hct : ∀ idx q, mlk ct_R_bind idx = some q → mCallOk p l e rm_R_bind s m args below meth c Qc kc_R_bind 4 D clA shR nmR csR cA ad A idx q.1 q.2.1 q.2.2 := by
    unfold ct_R_bind
    exact mlk_none
  have hsp : ∀ idx n, mlk sp_R_bind idx = some n → mSpOk rm_R_bind s args "TriggerBaseModel" idx n := by
    unfold sp_R_bind
    exact mlk_none
  exact ⟨⟨hx, hb, hml, hown, hlk⟩, mTok.to tb_R_bind_ok, ⟨hK, rfl, rfl, _, rfl⟩, shR_ok, mGlB.to uw_ok gl_R_ok ht, mPlB.to uw_ok pl_R_ok.1 pl_R_ok.2 ht, mlk_none, mlk_none, fun _ _ _ _ _ _ _ h => absurd h (Nat.not_lt_zero _), fun _ _ _ _ _ _ _ h => absurd h (Nat.not_lt_zero _), fun _ _ _ _ _ _ h => absurd h (Nat.not_lt_zero _), fun _ _ h => absurd h (Nat.not_lt_zero _), hct, hsp, ⟨(fun h => nomatch h), fun _ => hrt, (fun h => nomatch h), (fun h => nomatch h)⟩, hend⟩
theorem hd_R_unbind {As : List mV} {g : mG} {r : mRes} (h : mFres (.inr (.inl f_R_unbind)) As g = some r) : mHd (some 0) As = true ∧ As.length = 3 ∧ ∃ k, rn_R_unbind k 0 (mL0 As 3) [] g = some r := by
  obtain ⟨h1, h2, h3⟩ := mFun_inv (mFI_inv (t := t_R_unbind) h)
  exact ⟨h1, h2, mEv_inv h3⟩
abbrev rm_R_unbind : Room := { frames := 0, cells := 0, slots := 0, locals := 0 }
set_option maxRecDepth 100000 in
set_option maxHeartbeats 4000000 in
theorem c_R_unbind (l : Launch) (D : va_G) (cA : Nat → ClassId) (ad : Nat → Nat → Nat) (A : Nat → Prop) : mCt l D clA (mTys cA) shR nmR csR cA ad A (fun _ => True) yn_R_unbind (mWs yn_R_unbind kc_R_unbind 3 (some .boolean)) rm_R_unbind (.inr (.inl f_R_unbind)) := by
  refine mMetOf (T := tb_R_unbind) (gl := gl_R) (pl := pl_R) (gs := gs_R) (fe := fe_R) (sm := smC) (ct := ct_R_unbind) (sp := sp_R_unbind) (rk := 2) (by decide) rfl StR_stable (fun As g r _ h => ⟨by rw [(hd_R_unbind h).2.1]; decide, (hd_R_unbind h).2.2⟩) ?_
  intro p e s m args below meth c Qc res hx hb hml hown hlk hrt hts hK hS hend
  have ht : ∀ w ∈ mTb, w.before args s = true := fun w hw => hts w (List.mem_cons_of_mem _ hw)
  have hct : ∀ idx q, mlk ct_R_unbind idx = some q → mCallOk p l e rm_R_unbind s m args below meth c Qc kc_R_unbind 3 D clA shR nmR csR cA ad A idx q.1 q.2.1 q.2.2 := by
    unfold ct_R_unbind
    exact mlk_none
  have hsp : ∀ idx n, mlk sp_R_unbind idx = some n → mSpOk rm_R_unbind s args "TriggerBaseModel" idx n := by
    unfold sp_R_unbind
    exact mlk_none
  exact ⟨⟨hx, hb, hml, hown, hlk⟩, mTok.to tb_R_unbind_ok, ⟨hK, rfl, rfl, _, rfl⟩, shR_ok, mGlB.to uw_ok gl_R_ok ht, mPlB.to uw_ok pl_R_ok.1 pl_R_ok.2 ht, mlk_none, mlk_none, fun _ _ _ _ _ _ _ h => absurd h (Nat.not_lt_zero _), fun _ _ _ _ _ _ _ h => absurd h (Nat.not_lt_zero _), fun _ _ _ _ _ _ h => absurd h (Nat.not_lt_zero _), fun _ _ h => absurd h (Nat.not_lt_zero _), hct, hsp, ⟨(fun h => nomatch h), (fun h => nomatch h), fun _ => hrt, (fun h => nomatch h)⟩, hend⟩
theorem hd_R_push {As : List mV} {g : mG} {r : mRes} (h : mFres (.inl f_R_push) As g = some r) : mHd (some 0) As = true ∧ As.length = 2 ∧ ∃ k, rn_R_push k 0 (mL0 As 3) [] g = some r := by
  obtain ⟨h1, h2, h3⟩ := mFun_inv (mFV_inv (t := t_R_push) h)
  exact ⟨h1, h2, mEv_inv h3⟩
abbrev rm_R_push : Room := { frames := 0, cells := 0, slots := 0, locals := 0 }
set_option maxRecDepth 100000 in
set_option maxHeartbeats 4000000 in
theorem c_R_push (l : Launch) (D : va_G) (cA : Nat → ClassId) (ad : Nat → Nat → Nat) (A : Nat → Prop) : mCt l D clA (mTys cA) shR nmR csR cA ad A (fun _ => True) yn_R_push (mWs yn_R_push kc_R_push 3 none) rm_R_push (.inl f_R_push) := by
  refine mMetOf (T := tb_R_push) (gl := gl_R) (pl := pl_R) (gs := gs_R) (fe := fe_R) (sm := smC) (ct := ct_R_push) (sp := sp_R_push) (rk := 0) (by decide) rfl StR_stable (fun As g r _ h => ⟨by rw [(hd_R_push h).2.1]; decide, (hd_R_push h).2.2⟩) ?_
  intro p e s m args below meth c Qc res hx hb hml hown hlk hrt hts hK hS hend
  have ht : ∀ w ∈ mTb, w.before args s = true := fun w hw => hts w (List.mem_cons_of_mem _ hw)
  have hct : ∀ idx q, mlk ct_R_push idx = some q → mCallOk p l e rm_R_push s m args below meth c Qc kc_R_push 3 D clA shR nmR csR cA ad A idx q.1 q.2.1 q.2.2 := by
    unfold ct_R_push
    exact mlk_none
  have hsp : ∀ idx n, mlk sp_R_push idx = some n → mSpOk rm_R_push s args "TriggerBaseModel" idx n := by
    unfold sp_R_push
    exact mlk_none
  exact ⟨⟨hx, hb, hml, hown, hlk⟩, mTok.to tb_R_push_ok, ⟨hK, rfl, rfl, _, rfl⟩, shR_ok, mGlB.to uw_ok gl_R_ok ht, mPlB.to uw_ok pl_R_ok.1 pl_R_ok.2 ht, mlk_none, mlk_none, fun _ _ _ _ _ _ _ h => absurd h (Nat.not_lt_zero _), fun _ _ _ _ _ _ _ h => absurd h (Nat.not_lt_zero _), fun _ _ _ _ _ _ h => absurd h (Nat.not_lt_zero _), fun _ _ h => absurd h (Nat.not_lt_zero _), hct, hsp, ⟨fun _ => hrt, (fun h => nomatch h), (fun h => nomatch h), (fun h => nomatch h)⟩, hend⟩
theorem hd_R_pop {As : List mV} {g : mG} {r : mRes} (h : mFres (.inr (.inl f_R_pop)) As g = some r) : mHd (some 0) As = true ∧ As.length = 1 ∧ ∃ k, rn_R_pop k 0 (mL0 As 2) [] g = some r := by
  obtain ⟨h1, h2, h3⟩ := mFun_inv (mFI_inv (t := t_R_pop) h)
  exact ⟨h1, h2, mEv_inv h3⟩
abbrev rm_R_pop : Room := { frames := 0, cells := 0, slots := 0, locals := 0 }
set_option maxRecDepth 100000 in
set_option maxHeartbeats 4000000 in
theorem c_R_pop (l : Launch) (D : va_G) (cA : Nat → ClassId) (ad : Nat → Nat → Nat) (A : Nat → Prop) : mCt l D clA (mTys cA) shR nmR csR cA ad A (fun _ => True) yn_R_pop (mWs yn_R_pop kc_R_pop 2 (some .int)) rm_R_pop (.inr (.inl f_R_pop)) := by
  refine mMetOf (T := tb_R_pop) (gl := gl_R) (pl := pl_R) (gs := gs_R) (fe := fe_R) (sm := smC) (ct := ct_R_pop) (sp := sp_R_pop) (rk := 1) (by decide) rfl StR_stable (fun As g r _ h => ⟨by rw [(hd_R_pop h).2.1]; decide, (hd_R_pop h).2.2⟩) ?_
  intro p e s m args below meth c Qc res hx hb hml hown hlk hrt hts hK hS hend
  have ht : ∀ w ∈ mTb, w.before args s = true := fun w hw => hts w (List.mem_cons_of_mem _ hw)
  have hct : ∀ idx q, mlk ct_R_pop idx = some q → mCallOk p l e rm_R_pop s m args below meth c Qc kc_R_pop 2 D clA shR nmR csR cA ad A idx q.1 q.2.1 q.2.2 := by
    unfold ct_R_pop
    exact mlk_none
  have hsp : ∀ idx n, mlk sp_R_pop idx = some n → mSpOk rm_R_pop s args "TriggerBaseModel" idx n := by
    unfold sp_R_pop
    exact mlk_none
  exact ⟨⟨hx, hb, hml, hown, hlk⟩, mTok.to tb_R_pop_ok, ⟨hK, rfl, rfl, _, rfl⟩, shR_ok, mGlB.to uw_ok gl_R_ok ht, mPlB.to uw_ok pl_R_ok.1 pl_R_ok.2 ht, mlk_none, mlk_none, fun _ _ _ _ _ _ _ h => absurd h (Nat.not_lt_zero _), fun _ _ _ _ _ _ _ h => absurd h (Nat.not_lt_zero _), fun _ _ _ _ _ _ h => absurd h (Nat.not_lt_zero _), fun _ _ h => absurd h (Nat.not_lt_zero _), hct, hsp, ⟨(fun h => nomatch h), fun _ => hrt, (fun h => nomatch h), (fun h => nomatch h)⟩, hend⟩
theorem hd_R_enter {As : List mV} {g : mG} {r : mRes} (h : mFres (.inr (.inl f_R_enter)) As g = some r) : mHd (some 0) As = true ∧ As.length = 4 ∧ ∃ k, rn_R_enter k 0 (mL0 As 5) [] g = some r := by
  obtain ⟨h1, h2, h3⟩ := mFun_inv (mFI_inv (t := t_R_enter) h)
  exact ⟨h1, h2, mEv_inv h3⟩
abbrev rm_R_enter : Room := { frames := 0, cells := 0, slots := 0, locals := 0 }
set_option maxRecDepth 100000 in
set_option maxHeartbeats 4000000 in
theorem c_R_enter (l : Launch) (D : va_G) (cA : Nat → ClassId) (ad : Nat → Nat → Nat) (A : Nat → Prop) : mCt l D clA (mTys cA) shR nmR csR cA ad A (fun _ => True) yn_R_enter (mWs yn_R_enter kc_R_enter 5 (some .boolean)) rm_R_enter (.inr (.inl f_R_enter)) := by
  refine mMetOf (T := tb_R_enter) (gl := gl_R) (pl := pl_R) (gs := gs_R) (fe := fe_R) (sm := smC) (ct := ct_R_enter) (sp := sp_R_enter) (rk := 2) (by decide) rfl StR_stable (fun As g r _ h => ⟨by rw [(hd_R_enter h).2.1]; decide, (hd_R_enter h).2.2⟩) ?_
  intro p e s m args below meth c Qc res hx hb hml hown hlk hrt hts hK hS hend
  have ht : ∀ w ∈ mTb, w.before args s = true := fun w hw => hts w (List.mem_cons_of_mem _ hw)
  have hct : ∀ idx q, mlk ct_R_enter idx = some q → mCallOk p l e rm_R_enter s m args below meth c Qc kc_R_enter 5 D clA shR nmR csR cA ad A idx q.1 q.2.1 q.2.2 := by
    unfold ct_R_enter
    exact mlk_none
  have hsp : ∀ idx n, mlk sp_R_enter idx = some n → mSpOk rm_R_enter s args "TriggerBaseModel" idx n := by
    unfold sp_R_enter
    exact mlk_none
  exact ⟨⟨hx, hb, hml, hown, hlk⟩, mTok.to tb_R_enter_ok, ⟨hK, rfl, rfl, _, rfl⟩, shR_ok, mGlB.to uw_ok gl_R_ok ht, mPlB.to uw_ok pl_R_ok.1 pl_R_ok.2 ht, mlk_none, mlk_none, fun _ _ _ _ _ _ _ h => absurd h (Nat.not_lt_zero _), fun _ _ _ _ _ _ _ h => absurd h (Nat.not_lt_zero _), fun _ _ _ _ _ _ h => absurd h (Nat.not_lt_zero _), fun _ _ h => absurd h (Nat.not_lt_zero _), hct, hsp, ⟨(fun h => nomatch h), (fun h => nomatch h), fun _ => hrt, (fun h => nomatch h)⟩, hend⟩
theorem hd_R_fire {As : List mV} {g : mG} {r : mRes} (h : mFres (.inl f_R_fire) As g = some r) : mHd (some 0) As = true ∧ As.length = 7 ∧ ∃ k, rn_R_fire k 0 (mL0 As 10) [] g = some r := by
  obtain ⟨h1, h2, h3⟩ := mFun_inv (mFV_inv (t := t_R_fire) h)
  exact ⟨h1, h2, mEv_inv h3⟩
abbrev rm_R_fire : Room := { frames := 1, cells := 0, slots := 0, locals := 24 }
set_option maxRecDepth 100000 in
set_option maxHeartbeats 4000000 in
theorem c_R_fire (l : Launch) (D : va_G) (cA : Nat → ClassId) (ad : Nat → Nat → Nat) (A : Nat → Prop) : mCt l D clA (mTys cA) shR nmR csR cA ad A (fun _ => True) yn_R_fire (mWs yn_R_fire kc_R_fire 10 none) rm_R_fire (.inl f_R_fire) := by
  refine mMetOf (T := tb_R_fire) (gl := gl_R) (pl := pl_R) (gs := gs_R) (fe := fe_R) (sm := smC) (ct := ct_R_fire) (sp := sp_R_fire) (rk := 0) (by decide) rfl StR_stable (fun As g r _ h => ⟨by rw [(hd_R_fire h).2.1]; decide, (hd_R_fire h).2.2⟩) ?_
  intro p e s m args below meth c Qc res hx hb hml hown hlk hrt hts hK hS hend
  have ht : ∀ w ∈ mTb, w.before args s = true := fun w hw => hts w (List.mem_cons_of_mem _ hw)
  have hct : ∀ idx q, mlk ct_R_fire idx = some q → mCallOk p l e rm_R_fire s m args below meth c Qc kc_R_fire 10 D clA shR nmR csR cA ad A idx q.1 q.2.1 q.2.2 := by
    unfold ct_R_fire
    exact mlk_cons (P := fun (idx : Nat) (q : Nat × Nat × mFn) => mCallOk p l e rm_R_fire s m args below meth c Qc kc_R_fire 10 D clA shR nmR csR cA ad A idx q.1 q.2.1 q.2.2) (mCV StR_stable ⟨hx, hb, hml, hown, hts⟩ hK hS (mTb_at 680 ⟨by decide +kernel, rfl⟩) mi_R_enter ms_R_enter mn_R mc_R_enter (c_R_enter l D cA ad A) ⟨rfl, rfl⟩ ⟨by decide, by decide, by decide +kernel⟩ ⟨by decide, by decide⟩ (mRecvC hK shR_ok (a := 0) rfl rfl fun As g r h => (hd_R_enter h).1)) (mlk_none)
  have hsp : ∀ idx n, mlk sp_R_fire idx = some n → mSpOk rm_R_fire s args "TriggerBaseModel" idx n := by
    unfold sp_R_fire
    exact mlk_none
  exact ⟨⟨hx, hb, hml, hown, hlk⟩, mTok.to tb_R_fire_ok, ⟨hK, rfl, rfl, _, rfl⟩, shR_ok, mGlB.to uw_ok gl_R_ok ht, mPlB.to uw_ok pl_R_ok.1 pl_R_ok.2 ht, mlk_none, mlk_none, fun _ _ _ _ _ _ _ h => absurd h (Nat.not_lt_zero _), fun _ _ _ _ _ _ _ h => absurd h (Nat.not_lt_zero _), fun _ _ _ _ _ _ h => absurd h (Nat.not_lt_zero _), fun _ _ h => absurd h (Nat.not_lt_zero _), hct, hsp, ⟨fun _ => hrt, (fun h => nomatch h), (fun h => nomatch h), (fun h => nomatch h)⟩, hend⟩
theorem hd_R_insert {As : List mV} {g : mG} {r : mRes} (h : mFres (.inl f_R_insert) As g = some r) : mHd (some 0) As = true ∧ As.length = 2 ∧ ∃ k, rn_R_insert k 0 (mL0 As 7) [] g = some r := by
  obtain ⟨h1, h2, h3⟩ := mFun_inv (mFV_inv (t := t_R_insert) h)
  exact ⟨h1, h2, mEv_inv h3⟩
abbrev rm_R_insert : Room := { frames := 2, cells := 0, slots := 0, locals := 53 }
set_option maxRecDepth 100000 in
set_option maxHeartbeats 4000000 in
theorem c_R_insert (l : Launch) (D : va_G) (cA : Nat → ClassId) (ad : Nat → Nat → Nat) (A : Nat → Prop) : mCt l D clA (mTys cA) shR nmR csR cA ad A (fun _ => True) yn_R_insert (mWs yn_R_insert kc_R_insert 7 none) rm_R_insert (.inl f_R_insert) := by
  refine mMetOf (T := tb_R_insert) (gl := gl_R) (pl := pl_R) (gs := gs_R) (fe := fe_R) (sm := smC) (ct := ct_R_insert) (sp := sp_R_insert) (rk := 0) (by decide) rfl StR_stable (fun As g r _ h => ⟨by rw [(hd_R_insert h).2.1]; decide, (hd_R_insert h).2.2⟩) ?_
  intro p e s m args below meth c Qc res hx hb hml hown hlk hrt hts hK hS hend
  have ht : ∀ w ∈ mTb, w.before args s = true := fun w hw => hts w (List.mem_cons_of_mem _ hw)
  have hct : ∀ idx q, mlk ct_R_insert idx = some q → mCallOk p l e rm_R_insert s m args below meth c Qc kc_R_insert 7 D clA shR nmR csR cA ad A idx q.1 q.2.1 q.2.2 := by
    unfold ct_R_insert
    exact mlk_cons (P := fun (idx : Nat) (q : Nat × Nat × mFn) => mCallOk p l e rm_R_insert s m args below meth c Qc kc_R_insert 7 D clA shR nmR csR cA ad A idx q.1 q.2.1 q.2.2) (mCV StR_stable ⟨hx, hb, hml, hown, hts⟩ hK hS (mTb_at 696 ⟨by decide +kernel, rfl⟩) mi_R_pop ms_R_pop mn_R mc_R_pop (c_R_pop l D cA ad A) ⟨rfl, rfl⟩ ⟨by decide, by decide, by decide +kernel⟩ ⟨by decide, by decide⟩ (mRecvC hK shR_ok (a := 0) rfl rfl fun As g r h => (hd_R_pop h).1)) (mlk_cons (P := fun (idx : Nat) (q : Nat × Nat × mFn) => mCallOk p l e rm_R_insert s m args below meth c Qc kc_R_insert 7 D clA shR nmR csR cA ad A idx q.1 q.2.1 q.2.2) (mCV StR_stable ⟨hx, hb, hml, hown, hts⟩ hK hS (mTb_at 688 ⟨by decide +kernel, rfl⟩) mi_R_push ms_R_push mn_R mc_R_push (c_R_push l D cA ad A) ⟨rfl, rfl⟩ ⟨by decide, by decide, by decide +kernel⟩ ⟨by decide, by decide⟩ (mRecvC hK shR_ok (a := 0) rfl rfl fun As g r h => (hd_R_push h).1)) (mlk_cons (P := fun (idx : Nat) (q : Nat × Nat × mFn) => mCallOk p l e rm_R_insert s m args below meth c Qc kc_R_insert 7 D clA shR nmR csR cA ad A idx q.1 q.2.1 q.2.2) (mCV StR_stable ⟨hx, hb, hml, hown, hts⟩ hK hS (mTb_at 712 ⟨by decide +kernel, rfl⟩) mi_R_fire ms_R_fire mn_R mc_R_fire (c_R_fire l D cA ad A) ⟨rfl, rfl⟩ ⟨by decide, by decide, by decide +kernel⟩ ⟨by decide, by decide⟩ (mRecvC hK shR_ok (a := 0) rfl rfl fun As g r h => (hd_R_fire h).1)) (mlk_none)))
  have hsp : ∀ idx n, mlk sp_R_insert idx = some n → mSpOk rm_R_insert s args "TriggerBaseModel" idx n := by
    unfold sp_R_insert
    exact mlk_none
  exact ⟨⟨hx, hb, hml, hown, hlk⟩, mTok.to tb_R_insert_ok, ⟨hK, rfl, rfl, _, rfl⟩, shR_ok, mGlB.to uw_ok gl_R_ok ht, mPlB.to uw_ok pl_R_ok.1 pl_R_ok.2 ht, mlk_none, mlk_none, fun _ _ _ _ _ _ _ h => absurd h (Nat.not_lt_zero _), fun _ _ _ _ _ _ _ h => absurd h (Nat.not_lt_zero _), fun _ _ _ _ _ _ h => absurd h (Nat.not_lt_zero _), fun _ _ h => absurd h (Nat.not_lt_zero _), hct, hsp, ⟨fun _ => hrt, (fun h => nomatch h), (fun h => nomatch h), (fun h => nomatch h)⟩, hend⟩
theorem hd_R_isRow {As : List mV} {g : mG} {r : mRes} (h : mFres (.inr (.inl f_R_isRow)) As g = some r) : mHd (some 0) As = true ∧ As.length = 3 ∧ ∃ k, rn_R_isRow k 0 (mL0 As 3) [] g = some r := by
  obtain ⟨h1, h2, h3⟩ := mFun_inv (mFI_inv (t := t_R_isRow) h)
  exact ⟨h1, h2, mEv_inv h3⟩
abbrev rm_R_isRow : Room := { frames := 0, cells := 0, slots := 0, locals := 0 }
set_option maxRecDepth 100000 in
set_option maxHeartbeats 4000000 in
theorem c_R_isRow (l : Launch) (D : va_G) (cA : Nat → ClassId) (ad : Nat → Nat → Nat) (A : Nat → Prop) : mCt l D clA (mTys cA) shR nmR csR cA ad A (fun _ => True) yn_R_isRow (mWs yn_R_isRow kc_R_isRow 3 (some .boolean)) rm_R_isRow (.inr (.inl f_R_isRow)) := by
  refine mMetOf (T := tb_R_isRow) (gl := gl_R) (pl := pl_R) (gs := gs_R) (fe := fe_R) (sm := smC) (ct := ct_R_isRow) (sp := sp_R_isRow) (rk := 2) (by decide) rfl StR_stable (fun As g r _ h => ⟨by rw [(hd_R_isRow h).2.1]; decide, (hd_R_isRow h).2.2⟩) ?_
  intro p e s m args below meth c Qc res hx hb hml hown hlk hrt hts hK hS hend
  have ht : ∀ w ∈ mTb, w.before args s = true := fun w hw => hts w (List.mem_cons_of_mem _ hw)
  have hct : ∀ idx q, mlk ct_R_isRow idx = some q → mCallOk p l e rm_R_isRow s m args below meth c Qc kc_R_isRow 3 D clA shR nmR csR cA ad A idx q.1 q.2.1 q.2.2 := by
    unfold ct_R_isRow
    exact mlk_none
  have hsp : ∀ idx n, mlk sp_R_isRow idx = some n → mSpOk rm_R_isRow s args "TriggerBaseModel" idx n := by
    unfold sp_R_isRow
    exact mlk_none
  exact ⟨⟨hx, hb, hml, hown, hlk⟩, mTok.to tb_R_isRow_ok, ⟨hK, rfl, rfl, _, rfl⟩, shR_ok, mGlB.to uw_ok gl_R_ok ht, mPlB.to uw_ok pl_R_ok.1 pl_R_ok.2 ht, mlk_none, mlk_none, fun _ _ _ _ _ _ _ h => absurd h (Nat.not_lt_zero _), fun _ _ _ _ _ _ _ h => absurd h (Nat.not_lt_zero _), fun _ _ _ _ _ _ h => absurd h (Nat.not_lt_zero _), fun _ _ h => absurd h (Nat.not_lt_zero _), hct, hsp, ⟨(fun h => nomatch h), (fun h => nomatch h), fun _ => hrt, (fun h => nomatch h)⟩, hend⟩
theorem hd_R_delete {As : List mV} {g : mG} {r : mRes} (h : mFres (.inl f_R_delete) As g = some r) : mHd (some 0) As = true ∧ As.length = 2 ∧ ∃ k, rn_R_delete k 0 (mL0 As 8) [] g = some r := by
  obtain ⟨h1, h2, h3⟩ := mFun_inv (mFV_inv (t := t_R_delete) h)
  exact ⟨h1, h2, mEv_inv h3⟩
abbrev rm_R_delete : Room := { frames := 2, cells := 0, slots := 0, locals := 53 }
set_option maxRecDepth 100000 in
set_option maxHeartbeats 4000000 in
theorem c_R_delete (l : Launch) (D : va_G) (cA : Nat → ClassId) (ad : Nat → Nat → Nat) (A : Nat → Prop) : mCt l D clA (mTys cA) shR nmR csR cA ad A (fun _ => True) yn_R_delete (mWs yn_R_delete kc_R_delete 8 none) rm_R_delete (.inl f_R_delete) := by
  refine mMetOf (T := tb_R_delete) (gl := gl_R) (pl := pl_R) (gs := gs_R) (fe := fe_R) (sm := smC) (ct := ct_R_delete) (sp := sp_R_delete) (rk := 0) (by decide) rfl StR_stable (fun As g r _ h => ⟨by rw [(hd_R_delete h).2.1]; decide, (hd_R_delete h).2.2⟩) ?_
  intro p e s m args below meth c Qc res hx hb hml hown hlk hrt hts hK hS hend
  have ht : ∀ w ∈ mTb, w.before args s = true := fun w hw => hts w (List.mem_cons_of_mem _ hw)
  have hct : ∀ idx q, mlk ct_R_delete idx = some q → mCallOk p l e rm_R_delete s m args below meth c Qc kc_R_delete 8 D clA shR nmR csR cA ad A idx q.1 q.2.1 q.2.2 := by
    unfold ct_R_delete
    exact mlk_cons (P := fun (idx : Nat) (q : Nat × Nat × mFn) => mCallOk p l e rm_R_delete s m args below meth c Qc kc_R_delete 8 D clA shR nmR csR cA ad A idx q.1 q.2.1 q.2.2) (mCV StR_stable ⟨hx, hb, hml, hown, hts⟩ hK hS (mTb_at 696 ⟨by decide +kernel, rfl⟩) mi_R_pop ms_R_pop mn_R mc_R_pop (c_R_pop l D cA ad A) ⟨rfl, rfl⟩ ⟨by decide, by decide, by decide +kernel⟩ ⟨by decide, by decide⟩ (mRecvC hK shR_ok (a := 0) rfl rfl fun As g r h => (hd_R_pop h).1)) (mlk_cons (P := fun (idx : Nat) (q : Nat × Nat × mFn) => mCallOk p l e rm_R_delete s m args below meth c Qc kc_R_delete 8 D clA shR nmR csR cA ad A idx q.1 q.2.1 q.2.2) (mCV StR_stable ⟨hx, hb, hml, hown, hts⟩ hK hS (mTb_at 704 ⟨by decide +kernel, rfl⟩) mi_R_isRow ms_R_isRow mn_R mc_R_isRow (c_R_isRow l D cA ad A) ⟨rfl, rfl⟩ ⟨by decide, by decide, by decide +kernel⟩ ⟨by decide, by decide⟩ (mRecvC hK shR_ok (a := 0) rfl rfl fun As g r h => (hd_R_isRow h).1)) (mlk_cons (P := fun (idx : Nat) (q : Nat × Nat × mFn) => mCallOk p l e rm_R_delete s m args below meth c Qc kc_R_delete 8 D clA shR nmR csR cA ad A idx q.1 q.2.1 q.2.2) (mCV StR_stable ⟨hx, hb, hml, hown, hts⟩ hK hS (mTb_at 688 ⟨by decide +kernel, rfl⟩) mi_R_push ms_R_push mn_R mc_R_push (c_R_push l D cA ad A) ⟨rfl, rfl⟩ ⟨by decide, by decide, by decide +kernel⟩ ⟨by decide, by decide⟩ (mRecvC hK shR_ok (a := 0) rfl rfl fun As g r h => (hd_R_push h).1)) (mlk_cons (P := fun (idx : Nat) (q : Nat × Nat × mFn) => mCallOk p l e rm_R_delete s m args below meth c Qc kc_R_delete 8 D clA shR nmR csR cA ad A idx q.1 q.2.1 q.2.2) (mCV StR_stable ⟨hx, hb, hml, hown, hts⟩ hK hS (mTb_at 712 ⟨by decide +kernel, rfl⟩) mi_R_fire ms_R_fire mn_R mc_R_fire (c_R_fire l D cA ad A) ⟨rfl, rfl⟩ ⟨by decide, by decide, by decide +kernel⟩ ⟨by decide, by decide⟩ (mRecvC hK shR_ok (a := 0) rfl rfl fun As g r h => (hd_R_fire h).1)) (mlk_none))))
  have hsp : ∀ idx n, mlk sp_R_delete idx = some n → mSpOk rm_R_delete s args "TriggerBaseModel" idx n := by
    unfold sp_R_delete
    exact mlk_none
  exact ⟨⟨hx, hb, hml, hown, hlk⟩, mTok.to tb_R_delete_ok, ⟨hK, rfl, rfl, _, rfl⟩, shR_ok, mGlB.to uw_ok gl_R_ok ht, mPlB.to uw_ok pl_R_ok.1 pl_R_ok.2 ht, mlk_none, mlk_none, fun _ _ _ _ _ _ _ h => absurd h (Nat.not_lt_zero _), fun _ _ _ _ _ _ _ h => absurd h (Nat.not_lt_zero _), fun _ _ _ _ _ _ h => absurd h (Nat.not_lt_zero _), fun _ _ h => absurd h (Nat.not_lt_zero _), hct, hsp, ⟨fun _ => hrt, (fun h => nomatch h), (fun h => nomatch h), (fun h => nomatch h)⟩, hend⟩
theorem hd_R_update {As : List mV} {g : mG} {r : mRes} (h : mFres (.inl f_R_update) As g = some r) : mHd (some 0) As = true ∧ As.length = 3 ∧ ∃ k, rn_R_update k 0 (mL0 As 9) [] g = some r := by
  obtain ⟨h1, h2, h3⟩ := mFun_inv (mFV_inv (t := t_R_update) h)
  exact ⟨h1, h2, mEv_inv h3⟩
abbrev rm_R_update : Room := { frames := 2, cells := 0, slots := 0, locals := 53 }
set_option maxRecDepth 100000 in
set_option maxHeartbeats 4000000 in
theorem c_R_update (l : Launch) (D : va_G) (cA : Nat → ClassId) (ad : Nat → Nat → Nat) (A : Nat → Prop) : mCt l D clA (mTys cA) shR nmR csR cA ad A (fun _ => True) yn_R_update (mWs yn_R_update kc_R_update 9 none) rm_R_update (.inl f_R_update) := by
  refine mMetOf (T := tb_R_update) (gl := gl_R) (pl := pl_R) (gs := gs_R) (fe := fe_R) (sm := smC) (ct := ct_R_update) (sp := sp_R_update) (rk := 0) (by decide) rfl StR_stable (fun As g r _ h => ⟨by rw [(hd_R_update h).2.1]; decide, (hd_R_update h).2.2⟩) ?_
  intro p e s m args below meth c Qc res hx hb hml hown hlk hrt hts hK hS hend
  have ht : ∀ w ∈ mTb, w.before args s = true := fun w hw => hts w (List.mem_cons_of_mem _ hw)
  have hct : ∀ idx q, mlk ct_R_update idx = some q → mCallOk p l e rm_R_update s m args below meth c Qc kc_R_update 9 D clA shR nmR csR cA ad A idx q.1 q.2.1 q.2.2 := by
    unfold ct_R_update
    exact mlk_cons (P := fun (idx : Nat) (q : Nat × Nat × mFn) => mCallOk p l e rm_R_update s m args below meth c Qc kc_R_update 9 D clA shR nmR csR cA ad A idx q.1 q.2.1 q.2.2) (mCV StR_stable ⟨hx, hb, hml, hown, hts⟩ hK hS (mTb_at 696 ⟨by decide +kernel, rfl⟩) mi_R_pop ms_R_pop mn_R mc_R_pop (c_R_pop l D cA ad A) ⟨rfl, rfl⟩ ⟨by decide, by decide, by decide +kernel⟩ ⟨by decide, by decide⟩ (mRecvC hK shR_ok (a := 0) rfl rfl fun As g r h => (hd_R_pop h).1)) (mlk_cons (P := fun (idx : Nat) (q : Nat × Nat × mFn) => mCallOk p l e rm_R_update s m args below meth c Qc kc_R_update 9 D clA shR nmR csR cA ad A idx q.1 q.2.1 q.2.2) (mCV StR_stable ⟨hx, hb, hml, hown, hts⟩ hK hS (mTb_at 704 ⟨by decide +kernel, rfl⟩) mi_R_isRow ms_R_isRow mn_R mc_R_isRow (c_R_isRow l D cA ad A) ⟨rfl, rfl⟩ ⟨by decide, by decide, by decide +kernel⟩ ⟨by decide, by decide⟩ (mRecvC hK shR_ok (a := 0) rfl rfl fun As g r h => (hd_R_isRow h).1)) (mlk_cons (P := fun (idx : Nat) (q : Nat × Nat × mFn) => mCallOk p l e rm_R_update s m args below meth c Qc kc_R_update 9 D clA shR nmR csR cA ad A idx q.1 q.2.1 q.2.2) (mCV StR_stable ⟨hx, hb, hml, hown, hts⟩ hK hS (mTb_at 688 ⟨by decide +kernel, rfl⟩) mi_R_push ms_R_push mn_R mc_R_push (c_R_push l D cA ad A) ⟨rfl, rfl⟩ ⟨by decide, by decide, by decide +kernel⟩ ⟨by decide, by decide⟩ (mRecvC hK shR_ok (a := 0) rfl rfl fun As g r h => (hd_R_push h).1)) (mlk_cons (P := fun (idx : Nat) (q : Nat × Nat × mFn) => mCallOk p l e rm_R_update s m args below meth c Qc kc_R_update 9 D clA shR nmR csR cA ad A idx q.1 q.2.1 q.2.2) (mCV StR_stable ⟨hx, hb, hml, hown, hts⟩ hK hS (mTb_at 712 ⟨by decide +kernel, rfl⟩) mi_R_fire ms_R_fire mn_R mc_R_fire (c_R_fire l D cA ad A) ⟨rfl, rfl⟩ ⟨by decide, by decide, by decide +kernel⟩ ⟨by decide, by decide⟩ (mRecvC hK shR_ok (a := 0) rfl rfl fun As g r h => (hd_R_fire h).1)) (mlk_none))))
  have hsp : ∀ idx n, mlk sp_R_update idx = some n → mSpOk rm_R_update s args "TriggerBaseModel" idx n := by
    unfold sp_R_update
    exact mlk_none
  exact ⟨⟨hx, hb, hml, hown, hlk⟩, mTok.to tb_R_update_ok, ⟨hK, rfl, rfl, _, rfl⟩, shR_ok, mGlB.to uw_ok gl_R_ok ht, mPlB.to uw_ok pl_R_ok.1 pl_R_ok.2 ht, mlk_none, mlk_none, fun _ _ _ _ _ _ _ h => absurd h (Nat.not_lt_zero _), fun _ _ _ _ _ _ _ h => absurd h (Nat.not_lt_zero _), fun _ _ _ _ _ _ h => absurd h (Nat.not_lt_zero _), fun _ _ h => absurd h (Nat.not_lt_zero _), hct, hsp, ⟨fun _ => hrt, (fun h => nomatch h), (fun h => nomatch h), (fun h => nomatch h)⟩, hend⟩
theorem hd_R_find {As : List mV} {g : mG} {r : mRes} (h : mFres (.inr (.inl f_R_find)) As g = some r) : mHd (some 0) As = true ∧ As.length = 5 ∧ ∃ k, rn_R_find k 0 (mL0 As 6) [] g = some r := by
  obtain ⟨h1, h2, h3⟩ := mFun_inv (mFI_inv (t := t_R_find) h)
  exact ⟨h1, h2, mEv_inv h3⟩
abbrev rm_R_find : Room := { frames := 0, cells := 0, slots := 0, locals := 0 }
set_option maxRecDepth 100000 in
set_option maxHeartbeats 4000000 in
theorem c_R_find (l : Launch) (D : va_G) (cA : Nat → ClassId) (ad : Nat → Nat → Nat) (A : Nat → Prop) : mCt l D clA (mTys cA) shR nmR csR cA ad A (fun _ => True) yn_R_find (mWs yn_R_find kc_R_find 6 (some .int)) rm_R_find (.inr (.inl f_R_find)) := by
  refine mMetOf (T := tb_R_find) (gl := gl_R) (pl := pl_R) (gs := gs_R) (fe := fe_R) (sm := smC) (ct := ct_R_find) (sp := sp_R_find) (rk := 1) (by decide) rfl StR_stable (fun As g r _ h => ⟨by rw [(hd_R_find h).2.1]; decide, (hd_R_find h).2.2⟩) ?_
  intro p e s m args below meth c Qc res hx hb hml hown hlk hrt hts hK hS hend
  have ht : ∀ w ∈ mTb, w.before args s = true := fun w hw => hts w (List.mem_cons_of_mem _ hw)
  have hct : ∀ idx q, mlk ct_R_find idx = some q → mCallOk p l e rm_R_find s m args below meth c Qc kc_R_find 6 D clA shR nmR csR cA ad A idx q.1 q.2.1 q.2.2 := by
    unfold ct_R_find
    exact mlk_none
  have hsp : ∀ idx n, mlk sp_R_find idx = some n → mSpOk rm_R_find s args "TriggerBaseModel" idx n := by
    unfold sp_R_find
    exact mlk_none
  exact ⟨⟨hx, hb, hml, hown, hlk⟩, mTok.to tb_R_find_ok, ⟨hK, rfl, rfl, _, rfl⟩, shR_ok, mGlB.to uw_ok gl_R_ok ht, mPlB.to uw_ok pl_R_ok.1 pl_R_ok.2 ht, mlk_none, mlk_none, fun _ _ _ _ _ _ _ h => absurd h (Nat.not_lt_zero _), fun _ _ _ _ _ _ _ h => absurd h (Nat.not_lt_zero _), fun _ _ _ _ _ _ h => absurd h (Nat.not_lt_zero _), fun _ _ h => absurd h (Nat.not_lt_zero _), hct, hsp, ⟨(fun h => nomatch h), fun _ => hrt, (fun h => nomatch h), (fun h => nomatch h)⟩, hend⟩
theorem hd_R_reckon {As : List mV} {g : mG} {r : mRes} (h : mFres (.inr (.inl f_R_reckon)) As g = some r) : mHd (some 0) As = true ∧ As.length = 4 ∧ ∃ k, rn_R_reckon k 0 (mL0 As 4) [] g = some r := by
  obtain ⟨h1, h2, h3⟩ := mFun_inv (mFI_inv (t := t_R_reckon) h)
  exact ⟨h1, h2, mEv_inv h3⟩
abbrev rm_R_reckon : Room := { frames := 0, cells := 0, slots := 0, locals := 0 }
set_option maxRecDepth 100000 in
set_option maxHeartbeats 4000000 in
theorem c_R_reckon (l : Launch) (D : va_G) (cA : Nat → ClassId) (ad : Nat → Nat → Nat) (A : Nat → Prop) : mCt l D clA (mTys cA) shR nmR csR cA ad A (fun _ => True) yn_R_reckon (mWs yn_R_reckon kc_R_reckon 4 (some .int)) rm_R_reckon (.inr (.inl f_R_reckon)) := by
  refine mMetOf (T := tb_R_reckon) (gl := gl_R) (pl := pl_R) (gs := gs_R) (fe := fe_R) (sm := smC) (ct := ct_R_reckon) (sp := sp_R_reckon) (rk := 1) (by decide) rfl StR_stable (fun As g r _ h => ⟨by rw [(hd_R_reckon h).2.1]; decide, (hd_R_reckon h).2.2⟩) ?_
  intro p e s m args below meth c Qc res hx hb hml hown hlk hrt hts hK hS hend
  have ht : ∀ w ∈ mTb, w.before args s = true := fun w hw => hts w (List.mem_cons_of_mem _ hw)
  have hct : ∀ idx q, mlk ct_R_reckon idx = some q → mCallOk p l e rm_R_reckon s m args below meth c Qc kc_R_reckon 4 D clA shR nmR csR cA ad A idx q.1 q.2.1 q.2.2 := by
    unfold ct_R_reckon
    exact mlk_none
  have hsp : ∀ idx n, mlk sp_R_reckon idx = some n → mSpOk rm_R_reckon s args "TriggerBaseModel" idx n := by
    unfold sp_R_reckon
    exact mlk_none
  exact ⟨⟨hx, hb, hml, hown, hlk⟩, mTok.to tb_R_reckon_ok, ⟨hK, rfl, rfl, _, rfl⟩, shR_ok, mGlB.to uw_ok gl_R_ok ht, mPlB.to uw_ok pl_R_ok.1 pl_R_ok.2 ht, mlk_none, mlk_none, fun _ _ _ _ _ _ _ h => absurd h (Nat.not_lt_zero _), fun _ _ _ _ _ _ _ h => absurd h (Nat.not_lt_zero _), fun _ _ _ _ _ _ h => absurd h (Nat.not_lt_zero _), fun _ _ h => absurd h (Nat.not_lt_zero _), hct, hsp, ⟨(fun h => nomatch h), fun _ => hrt, (fun h => nomatch h), (fun h => nomatch h)⟩, hend⟩
theorem hd_R_comeBack {As : List mV} {g : mG} {r : mRes} (h : mFres (.inl f_R_comeBack) As g = some r) : mHd (some 0) As = true ∧ As.length = 2 ∧ ∃ k, rn_R_comeBack k 0 (mL0 As 3) [] g = some r := by
  obtain ⟨h1, h2, h3⟩ := mFun_inv (mFV_inv (t := t_R_comeBack) h)
  exact ⟨h1, h2, mEv_inv h3⟩
abbrev rm_R_comeBack : Room := { frames := 1, cells := 0, slots := 0, locals := 22 }
set_option maxRecDepth 100000 in
set_option maxHeartbeats 4000000 in
theorem c_R_comeBack (l : Launch) (D : va_G) (cA : Nat → ClassId) (ad : Nat → Nat → Nat) (A : Nat → Prop) : mCt l D clA (mTys cA) shR nmR csR cA ad A (fun _ => True) yn_R_comeBack (mWs yn_R_comeBack kc_R_comeBack 3 none) rm_R_comeBack (.inl f_R_comeBack) := by
  refine mMetOf (T := tb_R_comeBack) (gl := gl_R) (pl := pl_R) (gs := gs_R) (fe := fe_R) (sm := smC) (ct := ct_R_comeBack) (sp := sp_R_comeBack) (rk := 0) (by decide) rfl StR_stable (fun As g r _ h => ⟨by rw [(hd_R_comeBack h).2.1]; decide, (hd_R_comeBack h).2.2⟩) ?_
  intro p e s m args below meth c Qc res hx hb hml hown hlk hrt hts hK hS hend
  have ht : ∀ w ∈ mTb, w.before args s = true := fun w hw => hts w (List.mem_cons_of_mem _ hw)
  have hct : ∀ idx q, mlk ct_R_comeBack idx = some q → mCallOk p l e rm_R_comeBack s m args below meth c Qc kc_R_comeBack 3 D clA shR nmR csR cA ad A idx q.1 q.2.1 q.2.2 := by
    unfold ct_R_comeBack
    exact mlk_cons (P := fun (idx : Nat) (q : Nat × Nat × mFn) => mCallOk p l e rm_R_comeBack s m args below meth c Qc kc_R_comeBack 3 D clA shR nmR csR cA ad A idx q.1 q.2.1 q.2.2) (mCV StR_stable ⟨hx, hb, hml, hown, hts⟩ hK hS (mTb_at 688 ⟨by decide +kernel, rfl⟩) mi_R_push ms_R_push mn_R mc_R_push (c_R_push l D cA ad A) ⟨rfl, rfl⟩ ⟨by decide, by decide, by decide +kernel⟩ ⟨by decide, by decide⟩ (mRecvC hK shR_ok (a := 0) rfl rfl fun As g r h => (hd_R_push h).1)) (mlk_none)
  have hsp : ∀ idx n, mlk sp_R_comeBack idx = some n → mSpOk rm_R_comeBack s args "TriggerBaseModel" idx n := by
    unfold sp_R_comeBack
    exact mlk_none
  exact ⟨⟨hx, hb, hml, hown, hlk⟩, mTok.to tb_R_comeBack_ok, ⟨hK, rfl, rfl, _, rfl⟩, shR_ok, mGlB.to uw_ok gl_R_ok ht, mPlB.to uw_ok pl_R_ok.1 pl_R_ok.2 ht, mlk_none, mlk_none, fun _ _ _ _ _ _ _ h => absurd h (Nat.not_lt_zero _), fun _ _ _ _ _ _ _ h => absurd h (Nat.not_lt_zero _), fun _ _ _ _ _ _ h => absurd h (Nat.not_lt_zero _), fun _ _ h => absurd h (Nat.not_lt_zero _), hct, hsp, ⟨fun _ => hrt, (fun h => nomatch h), (fun h => nomatch h), (fun h => nomatch h)⟩, hend⟩
theorem hd_R_onStack {As : List mV} {g : mG} {r : mRes} (h : mFres (.inl f_R_onStack) As g = some r) : mHd (some 0) As = true ∧ As.length = 2 ∧ ∃ k, rn_R_onStack k 0 (mL0 As 4) [] g = some r := by
  obtain ⟨h1, h2, h3⟩ := mFun_inv (mFV_inv (t := t_R_onStack) h)
  exact ⟨h1, h2, mEv_inv h3⟩
abbrev rm_R_onStack : Room := { frames := 1, cells := 0, slots := 0, locals := 23 }
set_option maxRecDepth 100000 in
set_option maxHeartbeats 4000000 in
theorem c_R_onStack (l : Launch) (D : va_G) (cA : Nat → ClassId) (ad : Nat → Nat → Nat) (A : Nat → Prop) : mCt l D clA (mTys cA) shR nmR csR cA ad A (fun _ => True) yn_R_onStack (mWs yn_R_onStack kc_R_onStack 4 none) rm_R_onStack (.inl f_R_onStack) := by
  refine mMetOf (T := tb_R_onStack) (gl := gl_R) (pl := pl_R) (gs := gs_R) (fe := fe_R) (sm := smC) (ct := ct_R_onStack) (sp := sp_R_onStack) (rk := 0) (by decide) rfl StR_stable (fun As g r _ h => ⟨by rw [(hd_R_onStack h).2.1]; decide, (hd_R_onStack h).2.2⟩) ?_
  intro p e s m args below meth c Qc res hx hb hml hown hlk hrt hts hK hS hend
  have ht : ∀ w ∈ mTb, w.before args s = true := fun w hw => hts w (List.mem_cons_of_mem _ hw)
  have hct : ∀ idx q, mlk ct_R_onStack idx = some q → mCallOk p l e rm_R_onStack s m args below meth c Qc kc_R_onStack 4 D clA shR nmR csR cA ad A idx q.1 q.2.1 q.2.2 := by
    unfold ct_R_onStack
    exact mlk_cons (P := fun (idx : Nat) (q : Nat × Nat × mFn) => mCallOk p l e rm_R_onStack s m args below meth c Qc kc_R_onStack 4 D clA shR nmR csR cA ad A idx q.1 q.2.1 q.2.2) (mCV StR_stable ⟨hx, hb, hml, hown, hts⟩ hK hS (mTb_at 696 ⟨by decide +kernel, rfl⟩) mi_R_pop ms_R_pop mn_R mc_R_pop (c_R_pop l D cA ad A) ⟨rfl, rfl⟩ ⟨by decide, by decide, by decide +kernel⟩ ⟨by decide, by decide⟩ (mRecvC hK shR_ok (a := 0) rfl rfl fun As g r h => (hd_R_pop h).1)) (mlk_cons (P := fun (idx : Nat) (q : Nat × Nat × mFn) => mCallOk p l e rm_R_onStack s m args below meth c Qc kc_R_onStack 4 D clA shR nmR csR cA ad A idx q.1 q.2.1 q.2.2) (mCV StR_stable ⟨hx, hb, hml, hown, hts⟩ hK hS (mTb_at 688 ⟨by decide +kernel, rfl⟩) mi_R_push ms_R_push mn_R mc_R_push (c_R_push l D cA ad A) ⟨rfl, rfl⟩ ⟨by decide, by decide, by decide +kernel⟩ ⟨by decide, by decide⟩ (mRecvC hK shR_ok (a := 0) rfl rfl fun As g r h => (hd_R_push h).1)) (mlk_cons (P := fun (idx : Nat) (q : Nat × Nat × mFn) => mCallOk p l e rm_R_onStack s m args below meth c Qc kc_R_onStack 4 D clA shR nmR csR cA ad A idx q.1 q.2.1 q.2.2) (mCV StR_stable ⟨hx, hb, hml, hown, hts⟩ hK hS (mTb_at 700 ⟨by decide +kernel, rfl⟩) mi_R_reckon ms_R_reckon mn_R mc_R_reckon (c_R_reckon l D cA ad A) ⟨rfl, rfl⟩ ⟨by decide, by decide, by decide +kernel⟩ ⟨by decide, by decide⟩ (mRecvC hK shR_ok (a := 0) rfl rfl fun As g r h => (hd_R_reckon h).1)) (mlk_none)))
  have hsp : ∀ idx n, mlk sp_R_onStack idx = some n → mSpOk rm_R_onStack s args "TriggerBaseModel" idx n := by
    unfold sp_R_onStack
    exact mlk_none
  exact ⟨⟨hx, hb, hml, hown, hlk⟩, mTok.to tb_R_onStack_ok, ⟨hK, rfl, rfl, _, rfl⟩, shR_ok, mGlB.to uw_ok gl_R_ok ht, mPlB.to uw_ok pl_R_ok.1 pl_R_ok.2 ht, mlk_none, mlk_none, fun _ _ _ _ _ _ _ h => absurd h (Nat.not_lt_zero _), fun _ _ _ _ _ _ _ h => absurd h (Nat.not_lt_zero _), fun _ _ _ _ _ _ h => absurd h (Nat.not_lt_zero _), fun _ _ h => absurd h (Nat.not_lt_zero _), hct, hsp, ⟨fun _ => hrt, (fun h => nomatch h), (fun h => nomatch h), (fun h => nomatch h)⟩, hend⟩
theorem hd_R_step {As : List mV} {g : mG} {r : mRes} (h : mFres (.inl f_R_step) As g = some r) : mHd (some 0) As = true ∧ As.length = 1 ∧ ∃ k, rn_R_step k 0 (mL0 As 7) [] g = some r := by
  obtain ⟨h1, h2, h3⟩ := mFun_inv (mFV_inv (t := t_R_step) h)
  exact ⟨h1, h2, mEv_inv h3⟩
abbrev rm_R_step : Room := { frames := 3, cells := 0, slots := 0, locals := 81 }
set_option maxRecDepth 100000 in
set_option maxHeartbeats 4000000 in
theorem c_R_step (l : Launch) (D : va_G) (cA : Nat → ClassId) (ad : Nat → Nat → Nat) (A : Nat → Prop) : mCt l D clA (mTys cA) shR nmR csR cA ad A (fun _ => True) yn_R_step (mWs yn_R_step kc_R_step 7 none) rm_R_step (.inl f_R_step) := by
  refine mMetOf (T := tb_R_step) (gl := gl_R) (pl := pl_R) (gs := gs_R) (fe := fe_R) (sm := smC) (ct := ct_R_step) (sp := sp_R_step) (rk := 0) (by decide) rfl StR_stable (fun As g r _ h => ⟨by rw [(hd_R_step h).2.1]; decide, (hd_R_step h).2.2⟩) ?_
  intro p e s m args below meth c Qc res hx hb hml hown hlk hrt hts hK hS hend
  have ht : ∀ w ∈ mTb, w.before args s = true := fun w hw => hts w (List.mem_cons_of_mem _ hw)
  have hct : ∀ idx q, mlk ct_R_step idx = some q → mCallOk p l e rm_R_step s m args below meth c Qc kc_R_step 7 D clA shR nmR csR cA ad A idx q.1 q.2.1 q.2.2 := by
    unfold ct_R_step
    exact mlk_cons (P := fun (idx : Nat) (q : Nat × Nat × mFn) => mCallOk p l e rm_R_step s m args below meth c Qc kc_R_step 7 D clA shR nmR csR cA ad A idx q.1 q.2.1 q.2.2) (mCS StR_stable ⟨hx, hb, hml, hown, hts⟩ hK hS (mTb_at 639 ⟨by decide +kernel, rfl⟩) mst_R_operands mn_R mc_R_operands (c_R_operands l D cA ad A) ⟨rfl, rfl⟩ ⟨by decide, by decide, by decide +kernel⟩ ⟨by decide, by decide⟩) (mlk_cons (P := fun (idx : Nat) (q : Nat × Nat × mFn) => mCallOk p l e rm_R_step s m args below meth c Qc kc_R_step 7 D clA shR nmR csR cA ad A idx q.1 q.2.1 q.2.2) (mCV StR_stable ⟨hx, hb, hml, hown, hts⟩ hK hS (mTb_at 688 ⟨by decide +kernel, rfl⟩) mi_R_push ms_R_push mn_R mc_R_push (c_R_push l D cA ad A) ⟨rfl, rfl⟩ ⟨by decide, by decide, by decide +kernel⟩ ⟨by decide, by decide⟩ (mRecvC hK shR_ok (a := 0) rfl rfl fun As g r h => (hd_R_push h).1)) (mlk_cons (P := fun (idx : Nat) (q : Nat × Nat × mFn) => mCallOk p l e rm_R_step s m args below meth c Qc kc_R_step 7 D clA shR nmR csR cA ad A idx q.1 q.2.1 q.2.2) (mCV StR_stable ⟨hx, hb, hml, hown, hts⟩ hK hS (mTb_at 692 ⟨by decide +kernel, rfl⟩) mi_R_onStack ms_R_onStack mn_R mc_R_onStack (c_R_onStack l D cA ad A) ⟨rfl, rfl⟩ ⟨by decide, by decide, by decide +kernel⟩ ⟨by decide, by decide⟩ (mRecvC hK shR_ok (a := 0) rfl rfl fun As g r h => (hd_R_onStack h).1)) (mlk_cons (P := fun (idx : Nat) (q : Nat × Nat × mFn) => mCallOk p l e rm_R_step s m args below meth c Qc kc_R_step 7 D clA shR nmR csR cA ad A idx q.1 q.2.1 q.2.2) (mCV StR_stable ⟨hx, hb, hml, hown, hts⟩ hK hS (mTb_at 696 ⟨by decide +kernel, rfl⟩) mi_R_pop ms_R_pop mn_R mc_R_pop (c_R_pop l D cA ad A) ⟨rfl, rfl⟩ ⟨by decide, by decide, by decide +kernel⟩ ⟨by decide, by decide⟩ (mRecvC hK shR_ok (a := 0) rfl rfl fun As g r h => (hd_R_pop h).1)) (mlk_cons (P := fun (idx : Nat) (q : Nat × Nat × mFn) => mCallOk p l e rm_R_step s m args below meth c Qc kc_R_step 7 D clA shR nmR csR cA ad A idx q.1 q.2.1 q.2.2) (mCV StR_stable ⟨hx, hb, hml, hown, hts⟩ hK hS (mTb_at 704 ⟨by decide +kernel, rfl⟩) mi_R_isRow ms_R_isRow mn_R mc_R_isRow (c_R_isRow l D cA ad A) ⟨rfl, rfl⟩ ⟨by decide, by decide, by decide +kernel⟩ ⟨by decide, by decide⟩ (mRecvC hK shR_ok (a := 0) rfl rfl fun As g r h => (hd_R_isRow h).1)) (mlk_cons (P := fun (idx : Nat) (q : Nat × Nat × mFn) => mCallOk p l e rm_R_step s m args below meth c Qc kc_R_step 7 D clA shR nmR csR cA ad A idx q.1 q.2.1 q.2.2) (mCV StR_stable ⟨hx, hb, hml, hown, hts⟩ hK hS (mTb_at 708 ⟨by decide +kernel, rfl⟩) mi_R_insert ms_R_insert mn_R mc_R_insert (c_R_insert l D cA ad A) ⟨rfl, rfl⟩ ⟨by decide, by decide, by decide +kernel⟩ ⟨by decide, by decide⟩ (mRecvC hK shR_ok (a := 0) rfl rfl fun As g r h => (hd_R_insert h).1)) (mlk_cons (P := fun (idx : Nat) (q : Nat × Nat × mFn) => mCallOk p l e rm_R_step s m args below meth c Qc kc_R_step 7 D clA shR nmR csR cA ad A idx q.1 q.2.1 q.2.2) (mCV StR_stable ⟨hx, hb, hml, hown, hts⟩ hK hS (mTb_at 716 ⟨by decide +kernel, rfl⟩) mi_R_delete ms_R_delete mn_R mc_R_delete (c_R_delete l D cA ad A) ⟨rfl, rfl⟩ ⟨by decide, by decide, by decide +kernel⟩ ⟨by decide, by decide⟩ (mRecvC hK shR_ok (a := 0) rfl rfl fun As g r h => (hd_R_delete h).1)) (mlk_cons (P := fun (idx : Nat) (q : Nat × Nat × mFn) => mCallOk p l e rm_R_step s m args below meth c Qc kc_R_step 7 D clA shR nmR csR cA ad A idx q.1 q.2.1 q.2.2) (mCV StR_stable ⟨hx, hb, hml, hown, hts⟩ hK hS (mTb_at 720 ⟨by decide +kernel, rfl⟩) mi_R_update ms_R_update mn_R mc_R_update (c_R_update l D cA ad A) ⟨rfl, rfl⟩ ⟨by decide, by decide, by decide +kernel⟩ ⟨by decide, by decide⟩ (mRecvC hK shR_ok (a := 0) rfl rfl fun As g r h => (hd_R_update h).1)) (mlk_cons (P := fun (idx : Nat) (q : Nat × Nat × mFn) => mCallOk p l e rm_R_step s m args below meth c Qc kc_R_step 7 D clA shR nmR csR cA ad A idx q.1 q.2.1 q.2.2) (mCV StR_stable ⟨hx, hb, hml, hown, hts⟩ hK hS (mTb_at 724 ⟨by decide +kernel, rfl⟩) mi_R_find ms_R_find mn_R mc_R_find (c_R_find l D cA ad A) ⟨rfl, rfl⟩ ⟨by decide, by decide, by decide +kernel⟩ ⟨by decide, by decide⟩ (mRecvC hK shR_ok (a := 0) rfl rfl fun As g r h => (hd_R_find h).1)) (mlk_cons (P := fun (idx : Nat) (q : Nat × Nat × mFn) => mCallOk p l e rm_R_step s m args below meth c Qc kc_R_step 7 D clA shR nmR csR cA ad A idx q.1 q.2.1 q.2.2) (mCV StR_stable ⟨hx, hb, hml, hown, hts⟩ hK hS (mTb_at 680 ⟨by decide +kernel, rfl⟩) mi_R_enter ms_R_enter mn_R mc_R_enter (c_R_enter l D cA ad A) ⟨rfl, rfl⟩ ⟨by decide, by decide, by decide +kernel⟩ ⟨by decide, by decide⟩ (mRecvC hK shR_ok (a := 0) rfl rfl fun As g r h => (hd_R_enter h).1)) (mlk_cons (P := fun (idx : Nat) (q : Nat × Nat × mFn) => mCallOk p l e rm_R_step s m args below meth c Qc kc_R_step 7 D clA shR nmR csR cA ad A idx q.1 q.2.1 q.2.2) (mCV StR_stable ⟨hx, hb, hml, hown, hts⟩ hK hS (mTb_at 728 ⟨by decide +kernel, rfl⟩) mi_R_comeBack ms_R_comeBack mn_R mc_R_comeBack (c_R_comeBack l D cA ad A) ⟨rfl, rfl⟩ ⟨by decide, by decide, by decide +kernel⟩ ⟨by decide, by decide⟩ (mRecvC hK shR_ok (a := 0) rfl rfl fun As g r h => (hd_R_comeBack h).1)) (mlk_none)))))))))))
  have hsp : ∀ idx n, mlk sp_R_step idx = some n → mSpOk rm_R_step s args "TriggerBaseModel" idx n := by
    unfold sp_R_step
    exact mlk_none
  exact ⟨⟨hx, hb, hml, hown, hlk⟩, mTok.to tb_R_step_ok, ⟨hK, rfl, rfl, _, rfl⟩, shR_ok, mGlB.to uw_ok gl_R_ok ht, mPlB.to uw_ok pl_R_ok.1 pl_R_ok.2 ht, mlk_none, mlk_none, fun _ _ _ _ _ _ _ h => absurd h (Nat.not_lt_zero _), fun _ _ _ _ _ _ _ h => absurd h (Nat.not_lt_zero _), fun _ _ _ _ _ _ h => absurd h (Nat.not_lt_zero _), fun _ _ h => absurd h (Nat.not_lt_zero _), hct, hsp, ⟨fun _ => hrt, (fun h => nomatch h), (fun h => nomatch h), (fun h => nomatch h)⟩, hend⟩
theorem hd_R_call {As : List mV} {g : mG} {r : mRes} (h : mFres (.inr (.inl f_R_call)) As g = some r) : mHd (some 0) As = true ∧ As.length = 4 ∧ ∃ k, rn_R_call k 0 (mL0 As 5) [] g = some r := by
  obtain ⟨h1, h2, h3⟩ := mFun_inv (mFI_inv (t := t_R_call) h)
  exact ⟨h1, h2, mEv_inv h3⟩
abbrev rm_R_call : Room := { frames := 4, cells := 0, slots := 0, locals := 107 }
set_option maxRecDepth 100000 in
set_option maxHeartbeats 4000000 in
theorem c_R_call (l : Launch) (D : va_G) (cA : Nat → ClassId) (ad : Nat → Nat → Nat) (A : Nat → Prop) : mCt l D clA (mTys cA) shR nmR csR cA ad A (fun _ => True) yn_R_call (mWs yn_R_call kc_R_call 5 (some .int)) rm_R_call (.inr (.inl f_R_call)) := by
  refine mMetOf (T := tb_R_call) (gl := gl_R) (pl := pl_R) (gs := gs_R) (fe := fe_R) (sm := smC) (ct := ct_R_call) (sp := sp_R_call) (rk := 1) (by decide) rfl StR_stable (fun As g r _ h => ⟨by rw [(hd_R_call h).2.1]; decide, (hd_R_call h).2.2⟩) ?_
  intro p e s m args below meth c Qc res hx hb hml hown hlk hrt hts hK hS hend
  have ht : ∀ w ∈ mTb, w.before args s = true := fun w hw => hts w (List.mem_cons_of_mem _ hw)
  have hct : ∀ idx q, mlk ct_R_call idx = some q → mCallOk p l e rm_R_call s m args below meth c Qc kc_R_call 5 D clA shR nmR csR cA ad A idx q.1 q.2.1 q.2.2 := by
    unfold ct_R_call
    exact mlk_cons (P := fun (idx : Nat) (q : Nat × Nat × mFn) => mCallOk p l e rm_R_call s m args below meth c Qc kc_R_call 5 D clA shR nmR csR cA ad A idx q.1 q.2.1 q.2.2) (mCV StR_stable ⟨hx, hb, hml, hown, hts⟩ hK hS (mTb_at 680 ⟨by decide +kernel, rfl⟩) mi_R_enter ms_R_enter mn_R mc_R_enter (c_R_enter l D cA ad A) ⟨rfl, rfl⟩ ⟨by decide, by decide, by decide +kernel⟩ ⟨by decide, by decide⟩ (mRecvC hK shR_ok (a := 0) rfl rfl fun As g r h => (hd_R_enter h).1)) (mlk_cons (P := fun (idx : Nat) (q : Nat × Nat × mFn) => mCallOk p l e rm_R_call s m args below meth c Qc kc_R_call 5 D clA shR nmR csR cA ad A idx q.1 q.2.1 q.2.2) (mCV StR_stable ⟨hx, hb, hml, hown, hts⟩ hK hS (mTb_at 684 ⟨by decide +kernel, rfl⟩) mi_R_step ms_R_step mn_R mc_R_step (c_R_step l D cA ad A) ⟨rfl, rfl⟩ ⟨by decide, by decide, by decide +kernel⟩ ⟨by decide, by decide⟩ (mRecvC hK shR_ok (a := 0) rfl rfl fun As g r h => (hd_R_step h).1)) (mlk_none))
  have hsp : ∀ idx n, mlk sp_R_call idx = some n → mSpOk rm_R_call s args "TriggerBaseModel" idx n := by
    unfold sp_R_call
    exact mlk_none
  exact ⟨⟨hx, hb, hml, hown, hlk⟩, mTok.to tb_R_call_ok, ⟨hK, rfl, rfl, _, rfl⟩, shR_ok, mGlB.to uw_ok gl_R_ok ht, mPlB.to uw_ok pl_R_ok.1 pl_R_ok.2 ht, mlk_none, mlk_none, fun _ _ _ _ _ _ _ h => absurd h (Nat.not_lt_zero _), fun _ _ _ _ _ _ _ h => absurd h (Nat.not_lt_zero _), fun _ _ _ _ _ _ h => absurd h (Nat.not_lt_zero _), fun _ _ h => absurd h (Nat.not_lt_zero _), hct, hsp, ⟨(fun h => nomatch h), fun _ => hrt, (fun h => nomatch h), (fun h => nomatch h)⟩, hend⟩
theorem hd_R_value {As : List mV} {g : mG} {r : mRes} (h : mFres (.inr (.inl f_R_value)) As g = some r) : mHd (some 0) As = true ∧ As.length = 1 ∧ ∃ k, rn_R_value k 0 (mL0 As 1) [] g = some r := by
  obtain ⟨h1, h2, h3⟩ := mFun_inv (mFI_inv (t := t_R_value) h)
  exact ⟨h1, h2, mEv_inv h3⟩
abbrev rm_R_value : Room := { frames := 0, cells := 0, slots := 0, locals := 0 }
set_option maxRecDepth 100000 in
set_option maxHeartbeats 4000000 in
theorem c_R_value (l : Launch) (D : va_G) (cA : Nat → ClassId) (ad : Nat → Nat → Nat) (A : Nat → Prop) : mCt l D clA (mTys cA) shR nmR csR cA ad A (fun _ => True) yn_R_value (mWs yn_R_value kc_R_value 1 (some .int)) rm_R_value (.inr (.inl f_R_value)) := by
  refine mMetOf (T := tb_R_value) (gl := gl_R) (pl := pl_R) (gs := gs_R) (fe := fe_R) (sm := smC) (ct := ct_R_value) (sp := sp_R_value) (rk := 1) (by decide) rfl StR_stable (fun As g r _ h => ⟨by rw [(hd_R_value h).2.1]; decide, (hd_R_value h).2.2⟩) ?_
  intro p e s m args below meth c Qc res hx hb hml hown hlk hrt hts hK hS hend
  have ht : ∀ w ∈ mTb, w.before args s = true := fun w hw => hts w (List.mem_cons_of_mem _ hw)
  have hct : ∀ idx q, mlk ct_R_value idx = some q → mCallOk p l e rm_R_value s m args below meth c Qc kc_R_value 1 D clA shR nmR csR cA ad A idx q.1 q.2.1 q.2.2 := by
    unfold ct_R_value
    exact mlk_none
  have hsp : ∀ idx n, mlk sp_R_value idx = some n → mSpOk rm_R_value s args "TriggerBaseModel" idx n := by
    unfold sp_R_value
    exact mlk_none
  exact ⟨⟨hx, hb, hml, hown, hlk⟩, mTok.to tb_R_value_ok, ⟨hK, rfl, rfl, _, rfl⟩, shR_ok, mGlB.to uw_ok gl_R_ok ht, mPlB.to uw_ok pl_R_ok.1 pl_R_ok.2 ht, mlk_none, mlk_none, fun _ _ _ _ _ _ _ h => absurd h (Nat.not_lt_zero _), fun _ _ _ _ _ _ _ h => absurd h (Nat.not_lt_zero _), fun _ _ _ _ _ _ h => absurd h (Nat.not_lt_zero _), fun _ _ h => absurd h (Nat.not_lt_zero _), hct, hsp, ⟨(fun h => nomatch h), fun _ => hrt, (fun h => nomatch h), (fun h => nomatch h)⟩, hend⟩
theorem hd_R_count {As : List mV} {g : mG} {r : mRes} (h : mFres (.inr (.inl f_R_count)) As g = some r) : mHd (some 0) As = true ∧ As.length = 2 ∧ ∃ k, rn_R_count k 0 (mL0 As 2) [] g = some r := by
  obtain ⟨h1, h2, h3⟩ := mFun_inv (mFI_inv (t := t_R_count) h)
  exact ⟨h1, h2, mEv_inv h3⟩
abbrev rm_R_count : Room := { frames := 0, cells := 0, slots := 0, locals := 0 }
set_option maxRecDepth 100000 in
set_option maxHeartbeats 4000000 in
theorem c_R_count (l : Launch) (D : va_G) (cA : Nat → ClassId) (ad : Nat → Nat → Nat) (A : Nat → Prop) : mCt l D clA (mTys cA) shR nmR csR cA ad A (fun _ => True) yn_R_count (mWs yn_R_count kc_R_count 2 (some .int)) rm_R_count (.inr (.inl f_R_count)) := by
  refine mMetOf (T := tb_R_count) (gl := gl_R) (pl := pl_R) (gs := gs_R) (fe := fe_R) (sm := smC) (ct := ct_R_count) (sp := sp_R_count) (rk := 1) (by decide) rfl StR_stable (fun As g r _ h => ⟨by rw [(hd_R_count h).2.1]; decide, (hd_R_count h).2.2⟩) ?_
  intro p e s m args below meth c Qc res hx hb hml hown hlk hrt hts hK hS hend
  have ht : ∀ w ∈ mTb, w.before args s = true := fun w hw => hts w (List.mem_cons_of_mem _ hw)
  have hct : ∀ idx q, mlk ct_R_count idx = some q → mCallOk p l e rm_R_count s m args below meth c Qc kc_R_count 2 D clA shR nmR csR cA ad A idx q.1 q.2.1 q.2.2 := by
    unfold ct_R_count
    exact mlk_none
  have hsp : ∀ idx n, mlk sp_R_count idx = some n → mSpOk rm_R_count s args "TriggerBaseModel" idx n := by
    unfold sp_R_count
    exact mlk_none
  exact ⟨⟨hx, hb, hml, hown, hlk⟩, mTok.to tb_R_count_ok, ⟨hK, rfl, rfl, _, rfl⟩, shR_ok, mGlB.to uw_ok gl_R_ok ht, mPlB.to uw_ok pl_R_ok.1 pl_R_ok.2 ht, mlk_none, mlk_none, fun _ _ _ _ _ _ _ h => absurd h (Nat.not_lt_zero _), fun _ _ _ _ _ _ _ h => absurd h (Nat.not_lt_zero _), fun _ _ _ _ _ _ h => absurd h (Nat.not_lt_zero _), fun _ _ h => absurd h (Nat.not_lt_zero _), hct, hsp, ⟨(fun h => nomatch h), fun _ => hrt, (fun h => nomatch h), (fun h => nomatch h)⟩, hend⟩
theorem hd_R_rows {As : List mV} {g : mG} {r : mRes} (h : mFres (.inr (.inl f_R_rows)) As g = some r) : mHd (some 0) As = true ∧ As.length = 2 ∧ ∃ k, rn_R_rows k 0 (mL0 As 2) [] g = some r := by
  obtain ⟨h1, h2, h3⟩ := mFun_inv (mFI_inv (t := t_R_rows) h)
  exact ⟨h1, h2, mEv_inv h3⟩
abbrev rm_R_rows : Room := { frames := 0, cells := 0, slots := 0, locals := 0 }
set_option maxRecDepth 100000 in
set_option maxHeartbeats 4000000 in
theorem c_R_rows (l : Launch) (D : va_G) (cA : Nat → ClassId) (ad : Nat → Nat → Nat) (A : Nat → Prop) : mCt l D clA (mTys cA) shR nmR csR cA ad A (fun _ => True) yn_R_rows (mWs yn_R_rows kc_R_rows 2 (some .int)) rm_R_rows (.inr (.inl f_R_rows)) := by
  refine mMetOf (T := tb_R_rows) (gl := gl_R) (pl := pl_R) (gs := gs_R) (fe := fe_R) (sm := smC) (ct := ct_R_rows) (sp := sp_R_rows) (rk := 1) (by decide) rfl StR_stable (fun As g r _ h => ⟨by rw [(hd_R_rows h).2.1]; decide, (hd_R_rows h).2.2⟩) ?_
  intro p e s m args below meth c Qc res hx hb hml hown hlk hrt hts hK hS hend
  have ht : ∀ w ∈ mTb, w.before args s = true := fun w hw => hts w (List.mem_cons_of_mem _ hw)
  have hct : ∀ idx q, mlk ct_R_rows idx = some q → mCallOk p l e rm_R_rows s m args below meth c Qc kc_R_rows 2 D clA shR nmR csR cA ad A idx q.1 q.2.1 q.2.2 := by
    unfold ct_R_rows
    exact mlk_none
  have hsp : ∀ idx n, mlk sp_R_rows idx = some n → mSpOk rm_R_rows s args "TriggerBaseModel" idx n := by
    unfold sp_R_rows
    exact mlk_none
  exact ⟨⟨hx, hb, hml, hown, hlk⟩, mTok.to tb_R_rows_ok, ⟨hK, rfl, rfl, _, rfl⟩, shR_ok, mGlB.to uw_ok gl_R_ok ht, mPlB.to uw_ok pl_R_ok.1 pl_R_ok.2 ht, mlk_none, mlk_none, fun _ _ _ _ _ _ _ h => absurd h (Nat.not_lt_zero _), fun _ _ _ _ _ _ _ h => absurd h (Nat.not_lt_zero _), fun _ _ _ _ _ _ h => absurd h (Nat.not_lt_zero _), fun _ _ h => absurd h (Nat.not_lt_zero _), hct, hsp, ⟨(fun h => nomatch h), fun _ => hrt, (fun h => nomatch h), (fun h => nomatch h)⟩, hend⟩
theorem hd_R_cell {As : List mV} {g : mG} {r : mRes} (h : mFres (.inr (.inl f_R_cell)) As g = some r) : mHd (some 0) As = true ∧ As.length = 4 ∧ ∃ k, rn_R_cell k 0 (mL0 As 5) [] g = some r := by
  obtain ⟨h1, h2, h3⟩ := mFun_inv (mFI_inv (t := t_R_cell) h)
  exact ⟨h1, h2, mEv_inv h3⟩
abbrev rm_R_cell : Room := { frames := 1, cells := 0, slots := 0, locals := 22 }
set_option maxRecDepth 100000 in
set_option maxHeartbeats 4000000 in
theorem c_R_cell (l : Launch) (D : va_G) (cA : Nat → ClassId) (ad : Nat → Nat → Nat) (A : Nat → Prop) : mCt l D clA (mTys cA) shR nmR csR cA ad A (fun _ => True) yn_R_cell (mWs yn_R_cell kc_R_cell 5 (some .int)) rm_R_cell (.inr (.inl f_R_cell)) := by
  refine mMetOf (T := tb_R_cell) (gl := gl_R) (pl := pl_R) (gs := gs_R) (fe := fe_R) (sm := smC) (ct := ct_R_cell) (sp := sp_R_cell) (rk := 1) (by decide) rfl StR_stable (fun As g r _ h => ⟨by rw [(hd_R_cell h).2.1]; decide, (hd_R_cell h).2.2⟩) ?_
  intro p e s m args below meth c Qc res hx hb hml hown hlk hrt hts hK hS hend
  have ht : ∀ w ∈ mTb, w.before args s = true := fun w hw => hts w (List.mem_cons_of_mem _ hw)
  have hct : ∀ idx q, mlk ct_R_cell idx = some q → mCallOk p l e rm_R_cell s m args below meth c Qc kc_R_cell 5 D clA shR nmR csR cA ad A idx q.1 q.2.1 q.2.2 := by
    unfold ct_R_cell
    exact mlk_cons (P := fun (idx : Nat) (q : Nat × Nat × mFn) => mCallOk p l e rm_R_cell s m args below meth c Qc kc_R_cell 5 D clA shR nmR csR cA ad A idx q.1 q.2.1 q.2.2) (mCV StR_stable ⟨hx, hb, hml, hown, hts⟩ hK hS (mTb_at 704 ⟨by decide +kernel, rfl⟩) mi_R_isRow ms_R_isRow mn_R mc_R_isRow (c_R_isRow l D cA ad A) ⟨rfl, rfl⟩ ⟨by decide, by decide, by decide +kernel⟩ ⟨by decide, by decide⟩ (mRecvC hK shR_ok (a := 0) rfl rfl fun As g r h => (hd_R_isRow h).1)) (mlk_none)
  have hsp : ∀ idx n, mlk sp_R_cell idx = some n → mSpOk rm_R_cell s args "TriggerBaseModel" idx n := by
    unfold sp_R_cell
    exact mlk_none
  exact ⟨⟨hx, hb, hml, hown, hlk⟩, mTok.to tb_R_cell_ok, ⟨hK, rfl, rfl, _, rfl⟩, shR_ok, mGlB.to uw_ok gl_R_ok ht, mPlB.to uw_ok pl_R_ok.1 pl_R_ok.2 ht, mlk_none, mlk_none, fun _ _ _ _ _ _ _ h => absurd h (Nat.not_lt_zero _), fun _ _ _ _ _ _ _ h => absurd h (Nat.not_lt_zero _), fun _ _ _ _ _ _ h => absurd h (Nat.not_lt_zero _), fun _ _ h => absurd h (Nat.not_lt_zero _), hct, hsp, ⟨(fun h => nomatch h), fun _ => hrt, (fun h => nomatch h), (fun h => nomatch h)⟩, hend⟩
