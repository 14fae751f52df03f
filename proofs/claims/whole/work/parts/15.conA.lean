theorem hd_L_openNext {As : List mV} {g : mG} {r : mRes} (h : mFres (.inr (.inl f_L_openNext)) As g = some r) : mHd (some 2) As = true ∧ As.length = 1 ∧ ∃ k, rn_L_openNext k 0 (mL0 As 1) [] g = some r := by
  obtain ⟨h1, h2, h3⟩ := mFun_inv (mFI_inv (t := t_L_openNext) h)
  exact ⟨h1, h2, mEv_inv h3⟩
abbrev rm_L_openNext : Room := { frames := 0, cells := 0, slots := 0, locals := 0 }
set_option maxRecDepth 100000 in
set_option maxHeartbeats 4000000 in
theorem c_L_openNext (l : Launch) (D : va_G) (cA : Nat → ClassId) (ad : Nat → Nat → Nat) (A : Nat → Prop) : mCt l D clA (mTys cA) shC nmC csC cA ad A (StC ad A) yn_L_openNext (mWs yn_L_openNext kc_L_openNext 1 (some .int)) rm_L_openNext (.inr (.inl f_L_openNext)) := by
  refine mMetOf (T := tb_L_openNext) (gl := gl_L) (pl := pl_L) (gs := gs_L) (fe := fe_L) (sm := smC) (ct := ct_L_openNext) (sp := sp_L_openNext) (rk := 1) (by decide) rfl StC_stable (fun As g r _ h => ⟨by rw [(hd_L_openNext h).2.1]; decide, (hd_L_openNext h).2.2⟩) ?_
  intro p e s m args below meth c Qc res hx hb hml hown hlk hrt hts hK hS hend
  have ht : ∀ w ∈ mTb, w.before args s = true := fun w hw => hts w (List.mem_cons_of_mem _ hw)
  have hct : ∀ idx q, mlk ct_L_openNext idx = some q → mCallOk p l e rm_L_openNext s m args below meth c Qc kc_L_openNext 1 D clA shC nmC csC cA ad A idx q.1 q.2.1 q.2.2 := by
    unfold ct_L_openNext
    exact mlk_none
  have hsp : ∀ idx n, mlk sp_L_openNext idx = some n → mSpOk rm_L_openNext s args "TriggerBase$Library" idx n := by
    unfold sp_L_openNext
    exact mlk_none
  exact ⟨⟨hx, hb, hml, hown, hlk⟩, mTok.to tb_L_openNext_ok, ⟨hK, rfl, rfl, _, rfl⟩, shC_ok, mGlB.to uw_ok gl_L_ok ht, mPlB.to uw_ok pl_L_ok.1 pl_L_ok.2 ht, mlk_none, mlk_none, smr hx hb hS, alr hx hb hS, lnr hx hb hS, fun i j hi hj => hS.1.2 i j hi hj, hct, hsp, ⟨(fun h => nomatch h), fun _ => hrt, (fun h => nomatch h), (fun h => nomatch h)⟩, hend⟩
theorem hd_B_begin {As : List mV} {g : mG} {r : mRes} (h : mFres (.inr (.inl f_B_begin)) As g = some r) : mHd (some 0) As = true ∧ As.length = 1 ∧ ∃ k, rn_B_begin k 0 (mL0 As 1) [] g = some r := by
  obtain ⟨h1, h2, h3⟩ := mFun_inv (mFI_inv (t := t_B_begin) h)
  exact ⟨h1, h2, mEv_inv h3⟩
abbrev rm_B_begin : Room := { frames := 1, cells := 0, slots := 0, locals := 20 }
set_option maxRecDepth 100000 in
set_option maxHeartbeats 4000000 in
theorem c_B_begin (l : Launch) (D : va_G) (cA : Nat → ClassId) (ad : Nat → Nat → Nat) (A : Nat → Prop) : mCt l D clA (mTys cA) shC nmC csC cA ad A (StC ad A) yn_B_begin (mWs yn_B_begin kc_B_begin 1 (some .int)) rm_B_begin (.inr (.inl f_B_begin)) := by
  refine mMetOf (T := tb_B_begin) (gl := gl_B) (pl := pl_B) (gs := gs_B) (fe := fe_B) (sm := smC) (ct := ct_B_begin) (sp := sp_B_begin) (rk := 1) (by decide) rfl StC_stable (fun As g r _ h => ⟨by rw [(hd_B_begin h).2.1]; decide, (hd_B_begin h).2.2⟩) ?_
  intro p e s m args below meth c Qc res hx hb hml hown hlk hrt hts hK hS hend
  have ht : ∀ w ∈ mTb, w.before args s = true := fun w hw => hts w (List.mem_cons_of_mem _ hw)
  have hct : ∀ idx q, mlk ct_B_begin idx = some q → mCallOk p l e rm_B_begin s m args below meth c Qc kc_B_begin 1 D clA shC nmC csC cA ad A idx q.1 q.2.1 q.2.2 := by
    unfold ct_B_begin
    exact mlk_cons (P := fun (idx : Nat) (q : Nat × Nat × mFn) => mCallOk p l e rm_B_begin s m args below meth c Qc kc_B_begin 1 D clA shC nmC csC cA ad A idx q.1 q.2.1 q.2.2) (mCV StC_stable ⟨hx, hb, hml, hown, hts⟩ hK hS (mTb_at 231 ⟨by decide +kernel, rfl⟩) mi_L_openNext ms_L_openNext mn_L mc_L_openNext (c_L_openNext l D cA ad A) ⟨rfl, rfl⟩ ⟨by decide, by decide, by decide +kernel⟩ ⟨by decide, by decide⟩ (mRecvC hK shC_ok (a := 2) rfl rfl fun As g r h => (hd_L_openNext h).1)) (mlk_none)
  have hsp : ∀ idx n, mlk sp_B_begin idx = some n → mSpOk rm_B_begin s args "TriggerBase" idx n := by
    unfold sp_B_begin
    exact mlk_none
  exact ⟨⟨hx, hb, hml, hown, hlk⟩, mTok.to tb_B_begin_ok, ⟨hK, rfl, rfl, _, rfl⟩, shC_ok, mGlB.to uw_ok gl_B_ok ht, mPlB.to uw_ok pl_B_ok.1 pl_B_ok.2 ht, mlk_none, mlk_none, smr hx hb hS, alr hx hb hS, lnr hx hb hS, fun i j hi hj => hS.1.2 i j hi hj, hct, hsp, ⟨(fun h => nomatch h), fun _ => hrt, (fun h => nomatch h), (fun h => nomatch h)⟩, hend⟩
theorem hd_B_isBelow {As : List mV} {g : mG} {r : mRes} (h : mFres (.inr (.inl f_B_isBelow)) As g = some r) : mHd none As = true ∧ As.length = 2 ∧ ∃ k, rn_B_isBelow k 0 (mL0 As 2) [] g = some r := by
  obtain ⟨h1, h2, h3⟩ := mFun_inv (mFI_inv (t := t_B_isBelow) h)
  exact ⟨h1, h2, mEv_inv h3⟩
abbrev rm_B_isBelow : Room := { frames := 0, cells := 0, slots := 0, locals := 0 }
set_option maxRecDepth 100000 in
set_option maxHeartbeats 4000000 in
theorem c_B_isBelow (l : Launch) (D : va_G) (cA : Nat → ClassId) (ad : Nat → Nat → Nat) (A : Nat → Prop) : mCt l D clA (mTys cA) shC nmC csC cA ad A (StC ad A) yn_B_isBelow (mWs yn_B_isBelow kc_B_isBelow 2 (some .boolean)) rm_B_isBelow (.inr (.inl f_B_isBelow)) := by
  refine mMetOf (T := tb_B_isBelow) (gl := gl_B) (pl := pl_B) (gs := gs_B) (fe := fe_B) (sm := smC) (ct := ct_B_isBelow) (sp := sp_B_isBelow) (rk := 2) (by decide) rfl StC_stable (fun As g r _ h => ⟨by rw [(hd_B_isBelow h).2.1]; decide, (hd_B_isBelow h).2.2⟩) ?_
  intro p e s m args below meth c Qc res hx hb hml hown hlk hrt hts hK hS hend
  have ht : ∀ w ∈ mTb, w.before args s = true := fun w hw => hts w (List.mem_cons_of_mem _ hw)
  have hct : ∀ idx q, mlk ct_B_isBelow idx = some q → mCallOk p l e rm_B_isBelow s m args below meth c Qc kc_B_isBelow 2 D clA shC nmC csC cA ad A idx q.1 q.2.1 q.2.2 := by
    unfold ct_B_isBelow
    exact mlk_none
  have hsp : ∀ idx n, mlk sp_B_isBelow idx = some n → mSpOk rm_B_isBelow s args "TriggerBase" idx n := by
    unfold sp_B_isBelow
    exact mlk_none
  exact ⟨⟨hx, hb, hml, hown, hlk⟩, mTok.to tb_B_isBelow_ok, ⟨hK, rfl, rfl, _, rfl⟩, shC_ok, mGlB.to uw_ok gl_B_ok ht, mPlB.to uw_ok pl_B_ok.1 pl_B_ok.2 ht, mlk_none, mlk_none, smr hx hb hS, alr hx hb hS, lnr hx hb hS, fun i j hi hj => hS.1.2 i j hi hj, hct, hsp, ⟨(fun h => nomatch h), (fun h => nomatch h), fun _ => hrt, (fun h => nomatch h)⟩, hend⟩
theorem hd_L_length {As : List mV} {g : mG} {r : mRes} (h : mFres (.inr (.inl f_L_length)) As g = some r) : mHd (some 2) As = true ∧ As.length = 2 ∧ ∃ k, rn_L_length k 0 (mL0 As 2) [] g = some r := by
  obtain ⟨h1, h2, h3⟩ := mFun_inv (mFI_inv (t := t_L_length) h)
  exact ⟨h1, h2, mEv_inv h3⟩
abbrev rm_L_length : Room := { frames := 1, cells := 0, slots := 0, locals := 21 }
set_option maxRecDepth 100000 in
set_option maxHeartbeats 4000000 in
theorem c_L_length (l : Launch) (D : va_G) (cA : Nat → ClassId) (ad : Nat → Nat → Nat) (A : Nat → Prop) : mCt l D clA (mTys cA) shC nmC csC cA ad A (StC ad A) yn_L_length (mWs yn_L_length kc_L_length 2 (some .int)) rm_L_length (.inr (.inl f_L_length)) := by
  refine mMetOf (T := tb_L_length) (gl := gl_L) (pl := pl_L) (gs := gs_L) (fe := fe_L) (sm := smC) (ct := ct_L_length) (sp := sp_L_length) (rk := 1) (by decide) rfl StC_stable (fun As g r _ h => ⟨by rw [(hd_L_length h).2.1]; decide, (hd_L_length h).2.2⟩) ?_
  intro p e s m args below meth c Qc res hx hb hml hown hlk hrt hts hK hS hend
  have ht : ∀ w ∈ mTb, w.before args s = true := fun w hw => hts w (List.mem_cons_of_mem _ hw)
  have hct : ∀ idx q, mlk ct_L_length idx = some q → mCallOk p l e rm_L_length s m args below meth c Qc kc_L_length 2 D clA shC nmC csC cA ad A idx q.1 q.2.1 q.2.2 := by
    unfold ct_L_length
    exact mlk_cons (P := fun (idx : Nat) (q : Nat × Nat × mFn) => mCallOk p l e rm_L_length s m args below meth c Qc kc_L_length 2 D clA shC nmC csC cA ad A idx q.1 q.2.1 q.2.2) (mCSN (host := "TriggerBase") StC_stable ⟨hx, hb, hml, hown, hts⟩ hK hS (hS.2.2.2 ("TriggerBase$Library", 33) (by decide)) mst_B_isBelow mn_B mc_B_isBelow (c_B_isBelow l D cA ad A) ⟨rfl, rfl⟩ ⟨by decide, by decide, by decide +kernel⟩ ⟨by decide, by decide⟩) (mlk_none)
  have hsp : ∀ idx n, mlk sp_L_length idx = some n → mSpOk rm_L_length s args "TriggerBase$Library" idx n := by
    unfold sp_L_length
    exact mlk_none
  exact ⟨⟨hx, hb, hml, hown, hlk⟩, mTok.to tb_L_length_ok, ⟨hK, rfl, rfl, _, rfl⟩, shC_ok, mGlB.to uw_ok gl_L_ok ht, mPlB.to uw_ok pl_L_ok.1 pl_L_ok.2 ht, mlk_none, mlk_none, smr hx hb hS, alr hx hb hS, lnr hx hb hS, fun i j hi hj => hS.1.2 i j hi hj, hct, hsp, ⟨(fun h => nomatch h), fun _ => hrt, (fun h => nomatch h), (fun h => nomatch h)⟩, hend⟩
theorem hd_L_append {As : List mV} {g : mG} {r : mRes} (h : mFres (.inr (.inl f_L_append)) As g = some r) : mHd (some 2) As = true ∧ As.length = 2 ∧ ∃ k, rn_L_append k 0 (mL0 As 3) [] g = some r := by
  obtain ⟨h1, h2, h3⟩ := mFun_inv (mFI_inv (t := t_L_append) h)
  exact ⟨h1, h2, mEv_inv h3⟩
abbrev rm_L_append : Room := { frames := 2, cells := 0, slots := 0, locals := 42 }
set_option maxRecDepth 100000 in
set_option maxHeartbeats 4000000 in
theorem c_L_append (l : Launch) (D : va_G) (cA : Nat → ClassId) (ad : Nat → Nat → Nat) (A : Nat → Prop) : mCt l D clA (mTys cA) shC nmC csC cA ad A (StC ad A) yn_L_append (mWs yn_L_append kc_L_append 3 (some .boolean)) rm_L_append (.inr (.inl f_L_append)) := by
  refine mMetOf (T := tb_L_append) (gl := gl_L) (pl := pl_L) (gs := gs_L) (fe := fe_L) (sm := smC) (ct := ct_L_append) (sp := sp_L_append) (rk := 2) (by decide) rfl StC_stable (fun As g r _ h => ⟨by rw [(hd_L_append h).2.1]; decide, (hd_L_append h).2.2⟩) ?_
  intro p e s m args below meth c Qc res hx hb hml hown hlk hrt hts hK hS hend
  have ht : ∀ w ∈ mTb, w.before args s = true := fun w hw => hts w (List.mem_cons_of_mem _ hw)
  have hct : ∀ idx q, mlk ct_L_append idx = some q → mCallOk p l e rm_L_append s m args below meth c Qc kc_L_append 3 D clA shC nmC csC cA ad A idx q.1 q.2.1 q.2.2 := by
    unfold ct_L_append
    exact mlk_cons (P := fun (idx : Nat) (q : Nat × Nat × mFn) => mCallOk p l e rm_L_append s m args below meth c Qc kc_L_append 3 D clA shC nmC csC cA ad A idx q.1 q.2.1 q.2.2) (mCV StC_stable ⟨hx, hb, hml, hown, hts⟩ hK hS (mTb_at 243 ⟨by decide +kernel, rfl⟩) mi_L_length ms_L_length mn_L mc_L_length (c_L_length l D cA ad A) ⟨rfl, rfl⟩ ⟨by decide, by decide, by decide +kernel⟩ ⟨by decide, by decide⟩ (mRecvC hK shC_ok (a := 2) rfl rfl fun As g r h => (hd_L_length h).1)) (mlk_none)
  have hsp : ∀ idx n, mlk sp_L_append idx = some n → mSpOk rm_L_append s args "TriggerBase$Library" idx n := by
    unfold sp_L_append
    exact mlk_none
  exact ⟨⟨hx, hb, hml, hown, hlk⟩, mTok.to tb_L_append_ok, ⟨hK, rfl, rfl, _, rfl⟩, shC_ok, mGlB.to uw_ok gl_L_ok ht, mPlB.to uw_ok pl_L_ok.1 pl_L_ok.2 ht, mlk_none, mlk_none, smr hx hb hS, alr hx hb hS, lnr hx hb hS, fun i j hi hj => hS.1.2 i j hi hj, hct, hsp, ⟨(fun h => nomatch h), (fun h => nomatch h), fun _ => hrt, (fun h => nomatch h)⟩, hend⟩
theorem hd_B_emit {As : List mV} {g : mG} {r : mRes} (h : mFres (.inr (.inl f_B_emit)) As g = some r) : mHd (some 0) As = true ∧ As.length = 2 ∧ ∃ k, rn_B_emit k 0 (mL0 As 2) [] g = some r := by
  obtain ⟨h1, h2, h3⟩ := mFun_inv (mFI_inv (t := t_B_emit) h)
  exact ⟨h1, h2, mEv_inv h3⟩
abbrev rm_B_emit : Room := { frames := 3, cells := 0, slots := 0, locals := 64 }
set_option maxRecDepth 100000 in
set_option maxHeartbeats 4000000 in
theorem c_B_emit (l : Launch) (D : va_G) (cA : Nat → ClassId) (ad : Nat → Nat → Nat) (A : Nat → Prop) : mCt l D clA (mTys cA) shC nmC csC cA ad A (StC ad A) yn_B_emit (mWs yn_B_emit kc_B_emit 2 (some .boolean)) rm_B_emit (.inr (.inl f_B_emit)) := by
  refine mMetOf (T := tb_B_emit) (gl := gl_B) (pl := pl_B) (gs := gs_B) (fe := fe_B) (sm := smC) (ct := ct_B_emit) (sp := sp_B_emit) (rk := 2) (by decide) rfl StC_stable (fun As g r _ h => ⟨by rw [(hd_B_emit h).2.1]; decide, (hd_B_emit h).2.2⟩) ?_
  intro p e s m args below meth c Qc res hx hb hml hown hlk hrt hts hK hS hend
  have ht : ∀ w ∈ mTb, w.before args s = true := fun w hw => hts w (List.mem_cons_of_mem _ hw)
  have hct : ∀ idx q, mlk ct_B_emit idx = some q → mCallOk p l e rm_B_emit s m args below meth c Qc kc_B_emit 2 D clA shC nmC csC cA ad A idx q.1 q.2.1 q.2.2 := by
    unfold ct_B_emit
    exact mlk_cons (P := fun (idx : Nat) (q : Nat × Nat × mFn) => mCallOk p l e rm_B_emit s m args below meth c Qc kc_B_emit 2 D clA shC nmC csC cA ad A idx q.1 q.2.1 q.2.2) (mCV StC_stable ⟨hx, hb, hml, hown, hts⟩ hK hS (mTb_at 239 ⟨by decide +kernel, rfl⟩) mi_L_append ms_L_append mn_L mc_L_append (c_L_append l D cA ad A) ⟨rfl, rfl⟩ ⟨by decide, by decide, by decide +kernel⟩ ⟨by decide, by decide⟩ (mRecvC hK shC_ok (a := 2) rfl rfl fun As g r h => (hd_L_append h).1)) (mlk_none)
  have hsp : ∀ idx n, mlk sp_B_emit idx = some n → mSpOk rm_B_emit s args "TriggerBase" idx n := by
    unfold sp_B_emit
    exact mlk_none
  exact ⟨⟨hx, hb, hml, hown, hlk⟩, mTok.to tb_B_emit_ok, ⟨hK, rfl, rfl, _, rfl⟩, shC_ok, mGlB.to uw_ok gl_B_ok ht, mPlB.to uw_ok pl_B_ok.1 pl_B_ok.2 ht, mlk_none, mlk_none, smr hx hb hS, alr hx hb hS, lnr hx hb hS, fun i j hi hj => hS.1.2 i j hi hj, hct, hsp, ⟨(fun h => nomatch h), (fun h => nomatch h), fun _ => hrt, (fun h => nomatch h)⟩, hend⟩
theorem hd_A_fill {As : List mV} {g : mG} {r : mRes} (h : mFres (.inl f_A_fill) As g = some r) : mHd none As = true ∧ As.length = 2 ∧ ∃ k, rn_A_fill k 0 (mL0 As 4) [] g = some r := by
  obtain ⟨h1, h2, h3⟩ := mFun_inv (mFV_inv (t := t_A_fill) h)
  exact ⟨h1, h2, mEv_inv h3⟩
abbrev rm_A_fill : Room := { frames := 0, cells := 0, slots := 0, locals := 0 }
set_option maxRecDepth 100000 in
set_option maxHeartbeats 4000000 in
theorem c_A_fill (l : Launch) (D : va_G) (cA : Nat → ClassId) (ad : Nat → Nat → Nat) (A : Nat → Prop) : mCt l D clA (mTys cA) shC nmC csC cA ad A (StC ad A) yn_A_fill (mWs yn_A_fill kc_A_fill 4 none) rm_A_fill (.inl f_A_fill) := by
  refine mMetOf (T := tb_A_fill) (gl := gl_A) (pl := pl_A) (gs := gs_A) (fe := fe_A) (sm := smC) (ct := ct_A_fill) (sp := sp_A_fill) (rk := 0) (by decide) rfl StC_stable (fun As g r _ h => ⟨by rw [(hd_A_fill h).2.1]; decide, (hd_A_fill h).2.2⟩) ?_
  intro p e s m args below meth c Qc res hx hb hml hown hlk hrt hts hK hS hend
  have ht : ∀ w ∈ mTb, w.before args s = true := fun w hw => hts w (List.mem_cons_of_mem _ hw)
  have hct : ∀ idx q, mlk ct_A_fill idx = some q → mCallOk p l e rm_A_fill s m args below meth c Qc kc_A_fill 4 D clA shC nmC csC cA ad A idx q.1 q.2.1 q.2.2 := by
    unfold ct_A_fill
    exact mlk_none
  have hsp : ∀ idx n, mlk sp_A_fill idx = some n → mSpOk rm_A_fill s args "java/util/Arrays" idx n := by
    unfold sp_A_fill
    exact mlk_none
  exact ⟨⟨hx, hb, hml, hown, hlk⟩, mTok.to tb_A_fill_ok, ⟨hK, rfl, rfl, _, rfl⟩, shC_ok, mGlB.to uw_ok gl_A_ok ht, mPlB.to uw_ok pl_A_ok.1 pl_A_ok.2 ht, mlk_none, mlk_none, smr hx hb hS, alr hx hb hS, lnr hx hb hS, fun i j hi hj => hS.1.2 i j hi hj, hct, hsp, ⟨fun _ => hrt, (fun h => nomatch h), (fun h => nomatch h), (fun h => nomatch h)⟩, hend⟩
theorem hd_L_word {As : List mV} {g : mG} {r : mRes} (h : mFres (.inr (.inl f_L_word)) As g = some r) : mHd (some 2) As = true ∧ As.length = 3 ∧ ∃ k, rn_L_word k 0 (mL0 As 4) [] g = some r := by
  obtain ⟨h1, h2, h3⟩ := mFun_inv (mFI_inv (t := t_L_word) h)
  exact ⟨h1, h2, mEv_inv h3⟩
abbrev rm_L_word : Room := { frames := 1, cells := 0, slots := 0, locals := 21 }
set_option maxRecDepth 100000 in
set_option maxHeartbeats 4000000 in
theorem c_L_word (l : Launch) (D : va_G) (cA : Nat → ClassId) (ad : Nat → Nat → Nat) (A : Nat → Prop) : mCt l D clA (mTys cA) shC nmC csC cA ad A (StC ad A) yn_L_word (mWs yn_L_word kc_L_word 4 (some .int)) rm_L_word (.inr (.inl f_L_word)) := by
  refine mMetOf (T := tb_L_word) (gl := gl_L) (pl := pl_L) (gs := gs_L) (fe := fe_L) (sm := smC) (ct := ct_L_word) (sp := sp_L_word) (rk := 1) (by decide) rfl StC_stable (fun As g r _ h => ⟨by rw [(hd_L_word h).2.1]; decide, (hd_L_word h).2.2⟩) ?_
  intro p e s m args below meth c Qc res hx hb hml hown hlk hrt hts hK hS hend
  have ht : ∀ w ∈ mTb, w.before args s = true := fun w hw => hts w (List.mem_cons_of_mem _ hw)
  have hct : ∀ idx q, mlk ct_L_word idx = some q → mCallOk p l e rm_L_word s m args below meth c Qc kc_L_word 4 D clA shC nmC csC cA ad A idx q.1 q.2.1 q.2.2 := by
    unfold ct_L_word
    exact mlk_cons (P := fun (idx : Nat) (q : Nat × Nat × mFn) => mCallOk p l e rm_L_word s m args below meth c Qc kc_L_word 4 D clA shC nmC csC cA ad A idx q.1 q.2.1 q.2.2) (mCSN (host := "TriggerBase") StC_stable ⟨hx, hb, hml, hown, hts⟩ hK hS (hS.2.2.2 ("TriggerBase$Library", 33) (by decide)) mst_B_isBelow mn_B mc_B_isBelow (c_B_isBelow l D cA ad A) ⟨rfl, rfl⟩ ⟨by decide, by decide, by decide +kernel⟩ ⟨by decide, by decide⟩) (mlk_none)
  have hsp : ∀ idx n, mlk sp_L_word idx = some n → mSpOk rm_L_word s args "TriggerBase$Library" idx n := by
    unfold sp_L_word
    exact mlk_none
  exact ⟨⟨hx, hb, hml, hown, hlk⟩, mTok.to tb_L_word_ok, ⟨hK, rfl, rfl, _, rfl⟩, shC_ok, mGlB.to uw_ok gl_L_ok ht, mPlB.to uw_ok pl_L_ok.1 pl_L_ok.2 ht, mlk_none, mlk_none, smr hx hb hS, alr hx hb hS, lnr hx hb hS, fun i j hi hj => hS.1.2 i j hi hj, hct, hsp, ⟨(fun h => nomatch h), fun _ => hrt, (fun h => nomatch h), (fun h => nomatch h)⟩, hend⟩
theorem hd_I_of {As : List mV} {g : mG} {r : mRes} (h : mFres (.inr (.inr (100, f_I_of))) As g = some r) : mHd none As = true ∧ As.length = 1 ∧ ∃ k, rn_I_of k 0 (mL0 As 1) [] g = some r := by
  obtain ⟨h1, h2, h3⟩ := mFun_inv (mFR_inv (t := t_I_of) h)
  exact ⟨h1, h2, mEv_inv h3⟩
abbrev rm_I_of : Room := { frames := 1, cells := 0, slots := 0, locals := 21 }
set_option maxRecDepth 100000 in
set_option maxHeartbeats 4000000 in
theorem c_I_of (l : Launch) (D : va_G) (cA : Nat → ClassId) (ad : Nat → Nat → Nat) (A : Nat → Prop) : mCt l D clA (mTys cA) shC nmC csC cA ad A (StC ad A) yn_I_of (mWs yn_I_of kc_I_of 1 (some (.object "TriggerBase$Instruction"))) rm_I_of (.inr (.inr (100, f_I_of))) := by
  refine mMetOf (T := tb_I_of) (gl := gl_I) (pl := pl_I) (gs := gs_I) (fe := fe_I) (sm := smC) (ct := ct_I_of) (sp := sp_I_of) (rk := 3) (by decide) rfl StC_stable (fun As g r _ h => ⟨by rw [(hd_I_of h).2.1]; decide, (hd_I_of h).2.2⟩) ?_
  intro p e s m args below meth c Qc res hx hb hml hown hlk hrt hts hK hS hend
  have ht : ∀ w ∈ mTb, w.before args s = true := fun w hw => hts w (List.mem_cons_of_mem _ hw)
  have hct : ∀ idx q, mlk ct_I_of idx = some q → mCallOk p l e rm_I_of s m args below meth c Qc kc_I_of 1 D clA shC nmC csC cA ad A idx q.1 q.2.1 q.2.2 := by
    unfold ct_I_of
    exact mlk_cons (P := fun (idx : Nat) (q : Nat × Nat × mFn) => mCallOk p l e rm_I_of s m args below meth c Qc kc_I_of 1 D clA shC nmC csC cA ad A idx q.1 q.2.1 q.2.2) (mCSN (host := "TriggerBase") StC_stable ⟨hx, hb, hml, hown, hts⟩ hK hS (hS.2.2.2 ("TriggerBase$Instruction", 128) (by decide)) mst_B_isBelow mn_B mc_B_isBelow (c_B_isBelow l D cA ad A) ⟨rfl, rfl⟩ ⟨by decide, by decide, by decide +kernel⟩ ⟨by decide, by decide⟩) (mlk_none)
  have hsp : ∀ idx n, mlk sp_I_of idx = some n → mSpOk rm_I_of s args "TriggerBase$Instruction" idx n := by
    unfold sp_I_of
    exact mlk_none
  exact ⟨⟨hx, hb, hml, hown, hlk⟩, mTok.to tb_I_of_ok, ⟨hK, rfl, rfl, _, rfl⟩, shC_ok, mGlB.to uw_ok gl_I_ok ht, mPlB.to uw_ok pl_I_ok.1 pl_I_ok.2 ht, gsr_I hx hb hown ht hS, fer_I hx hb hown ht hS, smr hx hb hS, alr hx hb hS, lnr hx hb hS, fun i j hi hj => hS.1.2 i j hi hj, hct, hsp, ⟨(fun h => nomatch h), (fun h => nomatch h), (fun h => nomatch h), fun _ => ⟨_, hrt⟩⟩, hend⟩
theorem hd_L_instructionAt {As : List mV} {g : mG} {r : mRes} (h : mFres (.inr (.inr (100, f_L_instructionAt))) As g = some r) : mHd (some 2) As = true ∧ As.length = 3 ∧ ∃ k, rn_L_instructionAt k 0 (mL0 As 3) [] g = some r := by
  obtain ⟨h1, h2, h3⟩ := mFun_inv (mFR_inv (t := t_L_instructionAt) h)
  exact ⟨h1, h2, mEv_inv h3⟩
abbrev rm_L_instructionAt : Room := { frames := 2, cells := 0, slots := 0, locals := 44 }
set_option maxRecDepth 100000 in
set_option maxHeartbeats 4000000 in
theorem c_L_instructionAt (l : Launch) (D : va_G) (cA : Nat → ClassId) (ad : Nat → Nat → Nat) (A : Nat → Prop) : mCt l D clA (mTys cA) shC nmC csC cA ad A (StC ad A) yn_L_instructionAt (mWs yn_L_instructionAt kc_L_instructionAt 3 (some (.object "TriggerBase$Instruction"))) rm_L_instructionAt (.inr (.inr (100, f_L_instructionAt))) := by
  refine mMetOf (T := tb_L_instructionAt) (gl := gl_L) (pl := pl_L) (gs := gs_L) (fe := fe_L) (sm := smC) (ct := ct_L_instructionAt) (sp := sp_L_instructionAt) (rk := 3) (by decide) rfl StC_stable (fun As g r _ h => ⟨by rw [(hd_L_instructionAt h).2.1]; decide, (hd_L_instructionAt h).2.2⟩) ?_
  intro p e s m args below meth c Qc res hx hb hml hown hlk hrt hts hK hS hend
  have ht : ∀ w ∈ mTb, w.before args s = true := fun w hw => hts w (List.mem_cons_of_mem _ hw)
  have hct : ∀ idx q, mlk ct_L_instructionAt idx = some q → mCallOk p l e rm_L_instructionAt s m args below meth c Qc kc_L_instructionAt 3 D clA shC nmC csC cA ad A idx q.1 q.2.1 q.2.2 := by
    unfold ct_L_instructionAt
    exact mlk_cons (P := fun (idx : Nat) (q : Nat × Nat × mFn) => mCallOk p l e rm_L_instructionAt s m args below meth c Qc kc_L_instructionAt 3 D clA shC nmC csC cA ad A idx q.1 q.2.1 q.2.2) (mCV StC_stable ⟨hx, hb, hml, hown, hts⟩ hK hS (mTb_at 275 ⟨by decide +kernel, rfl⟩) mi_L_word ms_L_word mn_L mc_L_word (c_L_word l D cA ad A) ⟨rfl, rfl⟩ ⟨by decide, by decide, by decide +kernel⟩ ⟨by decide, by decide⟩ (mRecvC hK shC_ok (a := 2) rfl rfl fun As g r h => (hd_L_word h).1)) (mlk_cons (P := fun (idx : Nat) (q : Nat × Nat × mFn) => mCallOk p l e rm_L_instructionAt s m args below meth c Qc kc_L_instructionAt 3 D clA shC nmC csC cA ad A idx q.1 q.2.1 q.2.2) (mCS StC_stable ⟨hx, hb, hml, hown, hts⟩ hK hS (mTb_at 279 ⟨by decide +kernel, rfl⟩) mst_I_of mn_I mc_I_of (c_I_of l D cA ad A) ⟨rfl, rfl⟩ ⟨by decide, by decide, by decide +kernel⟩ ⟨by decide, by decide⟩) (mlk_none))
  have hsp : ∀ idx n, mlk sp_L_instructionAt idx = some n → mSpOk rm_L_instructionAt s args "TriggerBase$Library" idx n := by
    unfold sp_L_instructionAt
    exact mlk_none
  exact ⟨⟨hx, hb, hml, hown, hlk⟩, mTok.to tb_L_instructionAt_ok, ⟨hK, rfl, rfl, _, rfl⟩, shC_ok, mGlB.to uw_ok gl_L_ok ht, mPlB.to uw_ok pl_L_ok.1 pl_L_ok.2 ht, mlk_none, mlk_none, smr hx hb hS, alr hx hb hS, lnr hx hb hS, fun i j hi hj => hS.1.2 i j hi hj, hct, hsp, ⟨(fun h => nomatch h), (fun h => nomatch h), (fun h => nomatch h), fun _ => ⟨_, hrt⟩⟩, hend⟩
theorem hd_V_isInBounds {As : List mV} {g : mG} {r : mRes} (h : mFres (.inr (.inl f_V_isInBounds)) As g = some r) : mHd none As = true ∧ As.length = 3 ∧ ∃ k, rn_V_isInBounds k 0 (mL0 As 3) [] g = some r := by
  obtain ⟨h1, h2, h3⟩ := mFun_inv (mFI_inv (t := t_V_isInBounds) h)
  exact ⟨h1, h2, mEv_inv h3⟩
abbrev rm_V_isInBounds : Room := { frames := 1, cells := 0, slots := 0, locals := 21 }
set_option maxRecDepth 100000 in
set_option maxHeartbeats 4000000 in
theorem c_V_isInBounds (l : Launch) (D : va_G) (cA : Nat → ClassId) (ad : Nat → Nat → Nat) (A : Nat → Prop) : mCt l D clA (mTys cA) shC nmC csC cA ad A (StC ad A) yn_V_isInBounds (mWs yn_V_isInBounds kc_V_isInBounds 3 (some .boolean)) rm_V_isInBounds (.inr (.inl f_V_isInBounds)) := by
  refine mMetOf (T := tb_V_isInBounds) (gl := gl_V) (pl := pl_V) (gs := gs_V) (fe := fe_V) (sm := smC) (ct := ct_V_isInBounds) (sp := sp_V_isInBounds) (rk := 2) (by decide) rfl StC_stable (fun As g r _ h => ⟨by rw [(hd_V_isInBounds h).2.1]; decide, (hd_V_isInBounds h).2.2⟩) ?_
  intro p e s m args below meth c Qc res hx hb hml hown hlk hrt hts hK hS hend
  have ht : ∀ w ∈ mTb, w.before args s = true := fun w hw => hts w (List.mem_cons_of_mem _ hw)
  have hct : ∀ idx q, mlk ct_V_isInBounds idx = some q → mCallOk p l e rm_V_isInBounds s m args below meth c Qc kc_V_isInBounds 3 D clA shC nmC csC cA ad A idx q.1 q.2.1 q.2.2 := by
    unfold ct_V_isInBounds
    exact mlk_cons (P := fun (idx : Nat) (q : Nat × Nat × mFn) => mCallOk p l e rm_V_isInBounds s m args below meth c Qc kc_V_isInBounds 3 D clA shC nmC csC cA ad A idx q.1 q.2.1 q.2.2) (mCSN (host := "TriggerBase") StC_stable ⟨hx, hb, hml, hown, hts⟩ hK hS (hS.2.2.2 ("TriggerBase$Verifier", 81) (by decide)) mst_B_isBelow mn_B mc_B_isBelow (c_B_isBelow l D cA ad A) ⟨rfl, rfl⟩ ⟨by decide, by decide, by decide +kernel⟩ ⟨by decide, by decide⟩) (mlk_none)
  have hsp : ∀ idx n, mlk sp_V_isInBounds idx = some n → mSpOk rm_V_isInBounds s args "TriggerBase$Verifier" idx n := by
    unfold sp_V_isInBounds
    exact mlk_none
  exact ⟨⟨hx, hb, hml, hown, hlk⟩, mTok.to tb_V_isInBounds_ok, ⟨hK, rfl, rfl, _, rfl⟩, shC_ok, mGlB.to uw_ok gl_V_ok ht, mPlB.to uw_ok pl_V_ok.1 pl_V_ok.2 ht, gsr_V hx hb hown ht hS, fer_V hx hb hown ht hS, smr hx hb hS, alr hx hb hS, lnr hx hb hS, fun i j hi hj => hS.1.2 i j hi hj, hct, hsp, ⟨(fun h => nomatch h), (fun h => nomatch h), fun _ => hrt, (fun h => nomatch h)⟩, hend⟩
theorem hd_V_ruleOfWords {As : List mV} {g : mG} {r : mRes} (h : mFres (.inr (.inl f_V_ruleOfWords)) As g = some r) : mHd none As = true ∧ As.length = 4 ∧ ∃ k, rn_V_ruleOfWords k 0 (mL0 As 5) [] g = some r := by
  obtain ⟨h1, h2, h3⟩ := mFun_inv (mFI_inv (t := t_V_ruleOfWords) h)
  exact ⟨h1, h2, mEv_inv h3⟩
abbrev rm_V_ruleOfWords : Room := { frames := 2, cells := 0, slots := 0, locals := 44 }
set_option maxRecDepth 100000 in
set_option maxHeartbeats 4000000 in
theorem c_V_ruleOfWords (l : Launch) (D : va_G) (cA : Nat → ClassId) (ad : Nat → Nat → Nat) (A : Nat → Prop) : mCt l D clA (mTys cA) shC nmC csC cA ad A (StC ad A) yn_V_ruleOfWords (mWs yn_V_ruleOfWords kc_V_ruleOfWords 5 (some .int)) rm_V_ruleOfWords (.inr (.inl f_V_ruleOfWords)) := by
  refine mMetOf (T := tb_V_ruleOfWords) (gl := gl_V) (pl := pl_V) (gs := gs_V) (fe := fe_V) (sm := smC) (ct := ct_V_ruleOfWords) (sp := sp_V_ruleOfWords) (rk := 1) (by decide) rfl StC_stable (fun As g r _ h => ⟨by rw [(hd_V_ruleOfWords h).2.1]; decide, (hd_V_ruleOfWords h).2.2⟩) ?_
  intro p e s m args below meth c Qc res hx hb hml hown hlk hrt hts hK hS hend
  have ht : ∀ w ∈ mTb, w.before args s = true := fun w hw => hts w (List.mem_cons_of_mem _ hw)
  have hct : ∀ idx q, mlk ct_V_ruleOfWords idx = some q → mCallOk p l e rm_V_ruleOfWords s m args below meth c Qc kc_V_ruleOfWords 5 D clA shC nmC csC cA ad A idx q.1 q.2.1 q.2.2 := by
    unfold ct_V_ruleOfWords
    exact mlk_cons (P := fun (idx : Nat) (q : Nat × Nat × mFn) => mCallOk p l e rm_V_ruleOfWords s m args below meth c Qc kc_V_ruleOfWords 5 D clA shC nmC csC cA ad A idx q.1 q.2.1 q.2.2) (mCV StC_stable ⟨hx, hb, hml, hown, hts⟩ hK hS (mTb_at 267 ⟨by decide +kernel, rfl⟩) mi_L_length ms_L_length mn_L mc_L_length (c_L_length l D cA ad A) ⟨rfl, rfl⟩ ⟨by decide, by decide, by decide +kernel⟩ ⟨by decide, by decide⟩ (mRecvC hK shC_ok (a := 2) rfl rfl fun As g r h => (hd_L_length h).1)) (mlk_cons (P := fun (idx : Nat) (q : Nat × Nat × mFn) => mCallOk p l e rm_V_ruleOfWords s m args below meth c Qc kc_V_ruleOfWords 5 D clA shC nmC csC cA ad A idx q.1 q.2.1 q.2.2) (mCV StC_stable ⟨hx, hb, hml, hown, hts⟩ hK hS (mTb_at 291 ⟨by decide +kernel, rfl⟩) mi_L_word ms_L_word mn_L mc_L_word (c_L_word l D cA ad A) ⟨rfl, rfl⟩ ⟨by decide, by decide, by decide +kernel⟩ ⟨by decide, by decide⟩ (mRecvC hK shC_ok (a := 2) rfl rfl fun As g r h => (hd_L_word h).1)) (mlk_cons (P := fun (idx : Nat) (q : Nat × Nat × mFn) => mCallOk p l e rm_V_ruleOfWords s m args below meth c Qc kc_V_ruleOfWords 5 D clA shC nmC csC cA ad A idx q.1 q.2.1 q.2.2) (mCS StC_stable ⟨hx, hb, hml, hown, hts⟩ hK hS (mTb_at 292 ⟨by decide +kernel, rfl⟩) mst_V_isInBounds mn_V mc_V_isInBounds (c_V_isInBounds l D cA ad A) ⟨rfl, rfl⟩ ⟨by decide, by decide, by decide +kernel⟩ ⟨by decide, by decide⟩) (mlk_none)))
  have hsp : ∀ idx n, mlk sp_V_ruleOfWords idx = some n → mSpOk rm_V_ruleOfWords s args "TriggerBase$Verifier" idx n := by
    unfold sp_V_ruleOfWords
    exact mlk_none
  exact ⟨⟨hx, hb, hml, hown, hlk⟩, mTok.to tb_V_ruleOfWords_ok, ⟨hK, rfl, rfl, _, rfl⟩, shC_ok, mGlB.to uw_ok gl_V_ok ht, mPlB.to uw_ok pl_V_ok.1 pl_V_ok.2 ht, gsr_V hx hb hown ht hS, fer_V hx hb hown ht hS, smr hx hb hS, alr hx hb hS, lnr hx hb hS, fun i j hi hj => hS.1.2 i j hi hj, hct, hsp, ⟨(fun h => nomatch h), fun _ => hrt, (fun h => nomatch h), (fun h => nomatch h)⟩, hend⟩
theorem hd_V_fault {As : List mV} {g : mG} {r : mRes} (h : mFres (.inr (.inl f_V_fault)) As g = some r) : mHd none As = true ∧ As.length = 2 ∧ ∃ k, rn_V_fault k 0 (mL0 As 2) [] g = some r := by
  obtain ⟨h1, h2, h3⟩ := mFun_inv (mFI_inv (t := t_V_fault) h)
  exact ⟨h1, h2, mEv_inv h3⟩
abbrev rm_V_fault : Room := { frames := 0, cells := 0, slots := 0, locals := 0 }
set_option maxRecDepth 100000 in
set_option maxHeartbeats 4000000 in
theorem c_V_fault (l : Launch) (D : va_G) (cA : Nat → ClassId) (ad : Nat → Nat → Nat) (A : Nat → Prop) : mCt l D clA (mTys cA) shC nmC csC cA ad A (StC ad A) yn_V_fault (mWs yn_V_fault kc_V_fault 2 (some .int)) rm_V_fault (.inr (.inl f_V_fault)) := by
  refine mMetOf (T := tb_V_fault) (gl := gl_V) (pl := pl_V) (gs := gs_V) (fe := fe_V) (sm := smC) (ct := ct_V_fault) (sp := sp_V_fault) (rk := 1) (by decide) rfl StC_stable (fun As g r _ h => ⟨by rw [(hd_V_fault h).2.1]; decide, (hd_V_fault h).2.2⟩) ?_
  intro p e s m args below meth c Qc res hx hb hml hown hlk hrt hts hK hS hend
  have ht : ∀ w ∈ mTb, w.before args s = true := fun w hw => hts w (List.mem_cons_of_mem _ hw)
  have hct : ∀ idx q, mlk ct_V_fault idx = some q → mCallOk p l e rm_V_fault s m args below meth c Qc kc_V_fault 2 D clA shC nmC csC cA ad A idx q.1 q.2.1 q.2.2 := by
    unfold ct_V_fault
    exact mlk_none
  have hsp : ∀ idx n, mlk sp_V_fault idx = some n → mSpOk rm_V_fault s args "TriggerBase$Verifier" idx n := by
    unfold sp_V_fault
    exact mlk_none
  exact ⟨⟨hx, hb, hml, hown, hlk⟩, mTok.to tb_V_fault_ok, ⟨hK, rfl, rfl, _, rfl⟩, shC_ok, mGlB.to uw_ok gl_V_ok ht, mPlB.to uw_ok pl_V_ok.1 pl_V_ok.2 ht, gsr_V hx hb hown ht hS, fer_V hx hb hown ht hS, smr hx hb hS, alr hx hb hS, lnr hx hb hS, fun i j hi hj => hS.1.2 i j hi hj, hct, hsp, ⟨(fun h => nomatch h), fun _ => hrt, (fun h => nomatch h), (fun h => nomatch h)⟩, hend⟩
theorem hd_V_faultOfWords {As : List mV} {g : mG} {r : mRes} (h : mFres (.inr (.inl f_V_faultOfWords)) As g = some r) : mHd (some 5) As = true ∧ As.length = 3 ∧ ∃ k, rn_V_faultOfWords k 0 (mL0 As 8) [] g = some r := by
  obtain ⟨h1, h2, h3⟩ := mFun_inv (mFI_inv (t := t_V_faultOfWords) h)
  exact ⟨h1, h2, mEv_inv h3⟩
abbrev rm_V_faultOfWords : Room := { frames := 3, cells := 0, slots := 0, locals := 68 }
set_option maxRecDepth 100000 in
set_option maxHeartbeats 4000000 in
theorem c_V_faultOfWords (l : Launch) (D : va_G) (cA : Nat → ClassId) (ad : Nat → Nat → Nat) (A : Nat → Prop) : mCt l D clA (mTys cA) shC nmC csC cA ad A (StC ad A) yn_V_faultOfWords (mWs yn_V_faultOfWords kc_V_faultOfWords 8 (some .int)) rm_V_faultOfWords (.inr (.inl f_V_faultOfWords)) := by
  refine mMetOf (T := tb_V_faultOfWords) (gl := gl_V) (pl := pl_V) (gs := gs_V) (fe := fe_V) (sm := smC) (ct := ct_V_faultOfWords) (sp := sp_V_faultOfWords) (rk := 1) (by decide) rfl StC_stable (fun As g r _ h => ⟨by rw [(hd_V_faultOfWords h).2.1]; decide, (hd_V_faultOfWords h).2.2⟩) ?_
  intro p e s m args below meth c Qc res hx hb hml hown hlk hrt hts hK hS hend
  have ht : ∀ w ∈ mTb, w.before args s = true := fun w hw => hts w (List.mem_cons_of_mem _ hw)
  have hct : ∀ idx q, mlk ct_V_faultOfWords idx = some q → mCallOk p l e rm_V_faultOfWords s m args below meth c Qc kc_V_faultOfWords 8 D clA shC nmC csC cA ad A idx q.1 q.2.1 q.2.2 := by
    unfold ct_V_faultOfWords
    exact mlk_cons (P := fun (idx : Nat) (q : Nat × Nat × mFn) => mCallOk p l e rm_V_faultOfWords s m args below meth c Qc kc_V_faultOfWords 8 D clA shC nmC csC cA ad A idx q.1 q.2.1 q.2.2) (mCS StC_stable ⟨hx, hb, hml, hown, hts⟩ hK hS (mTb_at 266 ⟨by decide +kernel, rfl⟩) mst_A_fill mn_A mc_A_fill (c_A_fill l D cA ad A) ⟨rfl, rfl⟩ ⟨by decide, by decide, by decide +kernel⟩ ⟨by decide, by decide⟩) (mlk_cons (P := fun (idx : Nat) (q : Nat × Nat × mFn) => mCallOk p l e rm_V_faultOfWords s m args below meth c Qc kc_V_faultOfWords 8 D clA shC nmC csC cA ad A idx q.1 q.2.1 q.2.2) (mCV StC_stable ⟨hx, hb, hml, hown, hts⟩ hK hS (mTb_at 267 ⟨by decide +kernel, rfl⟩) mi_L_length ms_L_length mn_L mc_L_length (c_L_length l D cA ad A) ⟨rfl, rfl⟩ ⟨by decide, by decide, by decide +kernel⟩ ⟨by decide, by decide⟩ (mRecvC hK shC_ok (a := 2) rfl rfl fun As g r h => (hd_L_length h).1)) (mlk_cons (P := fun (idx : Nat) (q : Nat × Nat × mFn) => mCallOk p l e rm_V_faultOfWords s m args below meth c Qc kc_V_faultOfWords 8 D clA shC nmC csC cA ad A idx q.1 q.2.1 q.2.2) (mCV StC_stable ⟨hx, hb, hml, hown, hts⟩ hK hS (mTb_at 271 ⟨by decide +kernel, rfl⟩) mi_L_instructionAt ms_L_instructionAt mn_L mc_L_instructionAt (c_L_instructionAt l D cA ad A) ⟨rfl, rfl⟩ ⟨by decide, by decide, by decide +kernel⟩ ⟨by decide, by decide⟩ (mRecvC hK shC_ok (a := 2) rfl rfl fun As g r h => (hd_L_instructionAt h).1)) (mlk_cons (P := fun (idx : Nat) (q : Nat × Nat × mFn) => mCallOk p l e rm_V_faultOfWords s m args below meth c Qc kc_V_faultOfWords 8 D clA shC nmC csC cA ad A idx q.1 q.2.1 q.2.2) (mCS StC_stable ⟨hx, hb, hml, hown, hts⟩ hK hS (mTb_at 287 ⟨by decide +kernel, rfl⟩) mst_V_ruleOfWords mn_V mc_V_ruleOfWords (c_V_ruleOfWords l D cA ad A) ⟨rfl, rfl⟩ ⟨by decide, by decide, by decide +kernel⟩ ⟨by decide, by decide⟩) (mlk_cons (P := fun (idx : Nat) (q : Nat × Nat × mFn) => mCallOk p l e rm_V_faultOfWords s m args below meth c Qc kc_V_faultOfWords 8 D clA shC nmC csC cA ad A idx q.1 q.2.1 q.2.2) (mCS StC_stable ⟨hx, hb, hml, hown, hts⟩ hK hS (mTb_at 296 ⟨by decide +kernel, rfl⟩) mst_V_fault mn_V mc_V_fault (c_V_fault l D cA ad A) ⟨rfl, rfl⟩ ⟨by decide, by decide, by decide +kernel⟩ ⟨by decide, by decide⟩) (mlk_none)))))
  have hsp : ∀ idx n, mlk sp_V_faultOfWords idx = some n → mSpOk rm_V_faultOfWords s args "TriggerBase$Verifier" idx n := by
    unfold sp_V_faultOfWords
    exact mlk_cons (P := fun (idx n : Nat) => mSpOk rm_V_faultOfWords s args "TriggerBase$Verifier" idx n) (⟨(ht _ (mTb_at 268 ⟨by decide +kernel, rfl⟩)), (ht _ (mTb_at 269 ⟨by decide +kernel, rfl⟩)), (ht _ (mTb_at 46 ⟨by decide +kernel, rfl⟩)), (ht _ (mTb_at 270 ⟨by decide +kernel, rfl⟩)), by decide, by decide⟩) (mlk_none)
  exact ⟨⟨hx, hb, hml, hown, hlk⟩, mTok.to tb_V_faultOfWords_ok, ⟨hK, rfl, rfl, _, rfl⟩, shC_ok, mGlB.to uw_ok gl_V_ok ht, mPlB.to uw_ok pl_V_ok.1 pl_V_ok.2 ht, gsr_V hx hb hown ht hS, fer_V hx hb hown ht hS, smr hx hb hS, alr hx hb hS, lnr hx hb hS, fun i j hi hj => hS.1.2 i j hi hj, hct, hsp, ⟨(fun h => nomatch h), fun _ => hrt, (fun h => nomatch h), (fun h => nomatch h)⟩, hend⟩
theorem hd_V_isInstruction {As : List mV} {g : mG} {r : mRes} (h : mFres (.inr (.inl f_V_isInstruction)) As g = some r) : mHd (some 5) As = true ∧ As.length = 2 ∧ ∃ k, rn_V_isInstruction k 0 (mL0 As 2) [] g = some r := by
  obtain ⟨h1, h2, h3⟩ := mFun_inv (mFI_inv (t := t_V_isInstruction) h)
  exact ⟨h1, h2, mEv_inv h3⟩
abbrev rm_V_isInstruction : Room := { frames := 1, cells := 0, slots := 0, locals := 21 }
set_option maxRecDepth 100000 in
set_option maxHeartbeats 4000000 in
theorem c_V_isInstruction (l : Launch) (D : va_G) (cA : Nat → ClassId) (ad : Nat → Nat → Nat) (A : Nat → Prop) : mCt l D clA (mTys cA) shC nmC csC cA ad A (StC ad A) yn_V_isInstruction (mWs yn_V_isInstruction kc_V_isInstruction 2 (some .boolean)) rm_V_isInstruction (.inr (.inl f_V_isInstruction)) := by
  refine mMetOf (T := tb_V_isInstruction) (gl := gl_V) (pl := pl_V) (gs := gs_V) (fe := fe_V) (sm := smC) (ct := ct_V_isInstruction) (sp := sp_V_isInstruction) (rk := 2) (by decide) rfl StC_stable (fun As g r _ h => ⟨by rw [(hd_V_isInstruction h).2.1]; decide, (hd_V_isInstruction h).2.2⟩) ?_
  intro p e s m args below meth c Qc res hx hb hml hown hlk hrt hts hK hS hend
  have ht : ∀ w ∈ mTb, w.before args s = true := fun w hw => hts w (List.mem_cons_of_mem _ hw)
  have hct : ∀ idx q, mlk ct_V_isInstruction idx = some q → mCallOk p l e rm_V_isInstruction s m args below meth c Qc kc_V_isInstruction 2 D clA shC nmC csC cA ad A idx q.1 q.2.1 q.2.2 := by
    unfold ct_V_isInstruction
    exact mlk_cons (P := fun (idx : Nat) (q : Nat × Nat × mFn) => mCallOk p l e rm_V_isInstruction s m args below meth c Qc kc_V_isInstruction 2 D clA shC nmC csC cA ad A idx q.1 q.2.1 q.2.2) (mCSN (host := "TriggerBase") StC_stable ⟨hx, hb, hml, hown, hts⟩ hK hS (hS.2.2.2 ("TriggerBase$Verifier", 81) (by decide)) mst_B_isBelow mn_B mc_B_isBelow (c_B_isBelow l D cA ad A) ⟨rfl, rfl⟩ ⟨by decide, by decide, by decide +kernel⟩ ⟨by decide, by decide⟩) (mlk_none)
  have hsp : ∀ idx n, mlk sp_V_isInstruction idx = some n → mSpOk rm_V_isInstruction s args "TriggerBase$Verifier" idx n := by
    unfold sp_V_isInstruction
    exact mlk_none
  exact ⟨⟨hx, hb, hml, hown, hlk⟩, mTok.to tb_V_isInstruction_ok, ⟨hK, rfl, rfl, _, rfl⟩, shC_ok, mGlB.to uw_ok gl_V_ok ht, mPlB.to uw_ok pl_V_ok.1 pl_V_ok.2 ht, gsr_V hx hb hown ht hS, fer_V hx hb hown ht hS, smr hx hb hS, alr hx hb hS, lnr hx hb hS, fun i j hi hj => hS.1.2 i j hi hj, hct, hsp, ⟨(fun h => nomatch h), (fun h => nomatch h), fun _ => hrt, (fun h => nomatch h)⟩, hend⟩
theorem hd_I_mayJump {As : List mV} {g : mG} {r : mRes} (h : mFres (.inr (.inl f_I_mayJump)) As g = some r) : mHd (some 100) As = true ∧ As.length = 1 ∧ ∃ k, rn_I_mayJump k 0 (mL0 As 1) [] g = some r := by
  obtain ⟨h1, h2, h3⟩ := mFun_inv (mFI_inv (t := t_I_mayJump) h)
  exact ⟨h1, h2, mEv_inv h3⟩
abbrev rm_I_mayJump : Room := { frames := 0, cells := 0, slots := 0, locals := 0 }
set_option maxRecDepth 100000 in
set_option maxHeartbeats 4000000 in
theorem c_I_mayJump (l : Launch) (D : va_G) (cA : Nat → ClassId) (ad : Nat → Nat → Nat) (A : Nat → Prop) : mCt l D clA (mTys cA) shC nmC csC cA ad A (StC ad A) yn_I_mayJump (mWs yn_I_mayJump kc_I_mayJump 1 (some .boolean)) rm_I_mayJump (.inr (.inl f_I_mayJump)) := by
  refine mMetOf (T := tb_I_mayJump) (gl := gl_I) (pl := pl_I) (gs := gs_I) (fe := fe_I) (sm := smC) (ct := ct_I_mayJump) (sp := sp_I_mayJump) (rk := 2) (by decide) rfl StC_stable (fun As g r _ h => ⟨by rw [(hd_I_mayJump h).2.1]; decide, (hd_I_mayJump h).2.2⟩) ?_
  intro p e s m args below meth c Qc res hx hb hml hown hlk hrt hts hK hS hend
  have ht : ∀ w ∈ mTb, w.before args s = true := fun w hw => hts w (List.mem_cons_of_mem _ hw)
  have hct : ∀ idx q, mlk ct_I_mayJump idx = some q → mCallOk p l e rm_I_mayJump s m args below meth c Qc kc_I_mayJump 1 D clA shC nmC csC cA ad A idx q.1 q.2.1 q.2.2 := by
    unfold ct_I_mayJump
    exact mlk_none
  have hsp : ∀ idx n, mlk sp_I_mayJump idx = some n → mSpOk rm_I_mayJump s args "TriggerBase$Instruction" idx n := by
    unfold sp_I_mayJump
    exact mlk_none
  exact ⟨⟨hx, hb, hml, hown, hlk⟩, mTok.to tb_I_mayJump_ok, ⟨hK, rfl, rfl, _, rfl⟩, shC_ok, mGlB.to uw_ok gl_I_ok ht, mPlB.to uw_ok pl_I_ok.1 pl_I_ok.2 ht, gsr_I hx hb hown ht hS, fer_I hx hb hown ht hS, smr hx hb hS, alr hx hb hS, lnr hx hb hS, fun i j hi hj => hS.1.2 i j hi hj, hct, hsp, ⟨(fun h => nomatch h), (fun h => nomatch h), fun _ => hrt, (fun h => nomatch h)⟩, hend⟩
theorem hd_V_faultOfPlaces {As : List mV} {g : mG} {r : mRes} (h : mFres (.inr (.inl f_V_faultOfPlaces)) As g = some r) : mHd (some 5) As = true ∧ As.length = 3 ∧ ∃ k, rn_V_faultOfPlaces k 0 (mL0 As 5) [] g = some r := by
  obtain ⟨h1, h2, h3⟩ := mFun_inv (mFI_inv (t := t_V_faultOfPlaces) h)
  exact ⟨h1, h2, mEv_inv h3⟩
abbrev rm_V_faultOfPlaces : Room := { frames := 3, cells := 0, slots := 0, locals := 66 }
set_option maxRecDepth 100000 in
set_option maxHeartbeats 4000000 in
theorem c_V_faultOfPlaces (l : Launch) (D : va_G) (cA : Nat → ClassId) (ad : Nat → Nat → Nat) (A : Nat → Prop) : mCt l D clA (mTys cA) shC nmC csC cA ad A (StC ad A) yn_V_faultOfPlaces (mWs yn_V_faultOfPlaces kc_V_faultOfPlaces 5 (some .int)) rm_V_faultOfPlaces (.inr (.inl f_V_faultOfPlaces)) := by
  refine mMetOf (T := tb_V_faultOfPlaces) (gl := gl_V) (pl := pl_V) (gs := gs_V) (fe := fe_V) (sm := smC) (ct := ct_V_faultOfPlaces) (sp := sp_V_faultOfPlaces) (rk := 1) (by decide) rfl StC_stable (fun As g r _ h => ⟨by rw [(hd_V_faultOfPlaces h).2.1]; decide, (hd_V_faultOfPlaces h).2.2⟩) ?_
  intro p e s m args below meth c Qc res hx hb hml hown hlk hrt hts hK hS hend
  have ht : ∀ w ∈ mTb, w.before args s = true := fun w hw => hts w (List.mem_cons_of_mem _ hw)
  have hct : ∀ idx q, mlk ct_V_faultOfPlaces idx = some q → mCallOk p l e rm_V_faultOfPlaces s m args below meth c Qc kc_V_faultOfPlaces 5 D clA shC nmC csC cA ad A idx q.1 q.2.1 q.2.2 := by
    unfold ct_V_faultOfPlaces
    exact mlk_cons (P := fun (idx : Nat) (q : Nat × Nat × mFn) => mCallOk p l e rm_V_faultOfPlaces s m args below meth c Qc kc_V_faultOfPlaces 5 D clA shC nmC csC cA ad A idx q.1 q.2.1 q.2.2) (mCV StC_stable ⟨hx, hb, hml, hown, hts⟩ hK hS (mTb_at 267 ⟨by decide +kernel, rfl⟩) mi_L_length ms_L_length mn_L mc_L_length (c_L_length l D cA ad A) ⟨rfl, rfl⟩ ⟨by decide, by decide, by decide +kernel⟩ ⟨by decide, by decide⟩ (mRecvC hK shC_ok (a := 2) rfl rfl fun As g r h => (hd_L_length h).1)) (mlk_cons (P := fun (idx : Nat) (q : Nat × Nat × mFn) => mCallOk p l e rm_V_faultOfPlaces s m args below meth c Qc kc_V_faultOfPlaces 5 D clA shC nmC csC cA ad A idx q.1 q.2.1 q.2.2) (mCV StC_stable ⟨hx, hb, hml, hown, hts⟩ hK hS (mTb_at 303 ⟨by decide +kernel, rfl⟩) mi_V_isInstruction ms_V_isInstruction mn_V mc_V_isInstruction (c_V_isInstruction l D cA ad A) ⟨rfl, rfl⟩ ⟨by decide, by decide, by decide +kernel⟩ ⟨by decide, by decide⟩ (mRecvC hK shC_ok (a := 5) rfl rfl fun As g r h => (hd_V_isInstruction h).1)) (mlk_cons (P := fun (idx : Nat) (q : Nat × Nat × mFn) => mCallOk p l e rm_V_faultOfPlaces s m args below meth c Qc kc_V_faultOfPlaces 5 D clA shC nmC csC cA ad A idx q.1 q.2.1 q.2.2) (mCV StC_stable ⟨hx, hb, hml, hown, hts⟩ hK hS (mTb_at 271 ⟨by decide +kernel, rfl⟩) mi_L_instructionAt ms_L_instructionAt mn_L mc_L_instructionAt (c_L_instructionAt l D cA ad A) ⟨rfl, rfl⟩ ⟨by decide, by decide, by decide +kernel⟩ ⟨by decide, by decide⟩ (mRecvC hK shC_ok (a := 2) rfl rfl fun As g r h => (hd_L_instructionAt h).1)) (mlk_cons (P := fun (idx : Nat) (q : Nat × Nat × mFn) => mCallOk p l e rm_V_faultOfPlaces s m args below meth c Qc kc_V_faultOfPlaces 5 D clA shC nmC csC cA ad A idx q.1 q.2.1 q.2.2) (mCV StC_stable ⟨hx, hb, hml, hown, hts⟩ hK hS (mTb_at 307 ⟨by decide +kernel, rfl⟩) mi_I_mayJump ms_I_mayJump mn_I mc_I_mayJump (c_I_mayJump l D cA ad A) ⟨rfl, rfl⟩ ⟨by decide, by decide, by decide +kernel⟩ ⟨by decide, by decide⟩ (recvI hS fun As g r h => (hd_I_mayJump h).1)) (mlk_cons (P := fun (idx : Nat) (q : Nat × Nat × mFn) => mCallOk p l e rm_V_faultOfPlaces s m args below meth c Qc kc_V_faultOfPlaces 5 D clA shC nmC csC cA ad A idx q.1 q.2.1 q.2.2) (mCV StC_stable ⟨hx, hb, hml, hown, hts⟩ hK hS (mTb_at 291 ⟨by decide +kernel, rfl⟩) mi_L_word ms_L_word mn_L mc_L_word (c_L_word l D cA ad A) ⟨rfl, rfl⟩ ⟨by decide, by decide, by decide +kernel⟩ ⟨by decide, by decide⟩ (mRecvC hK shC_ok (a := 2) rfl rfl fun As g r h => (hd_L_word h).1)) (mlk_cons (P := fun (idx : Nat) (q : Nat × Nat × mFn) => mCallOk p l e rm_V_faultOfPlaces s m args below meth c Qc kc_V_faultOfPlaces 5 D clA shC nmC csC cA ad A idx q.1 q.2.1 q.2.2) (mCS StC_stable ⟨hx, hb, hml, hown, hts⟩ hK hS (mTb_at 296 ⟨by decide +kernel, rfl⟩) mst_V_fault mn_V mc_V_fault (c_V_fault l D cA ad A) ⟨rfl, rfl⟩ ⟨by decide, by decide, by decide +kernel⟩ ⟨by decide, by decide⟩) (mlk_none))))))
  have hsp : ∀ idx n, mlk sp_V_faultOfPlaces idx = some n → mSpOk rm_V_faultOfPlaces s args "TriggerBase$Verifier" idx n := by
    unfold sp_V_faultOfPlaces
    exact mlk_none
  exact ⟨⟨hx, hb, hml, hown, hlk⟩, mTok.to tb_V_faultOfPlaces_ok, ⟨hK, rfl, rfl, _, rfl⟩, shC_ok, mGlB.to uw_ok gl_V_ok ht, mPlB.to uw_ok pl_V_ok.1 pl_V_ok.2 ht, gsr_V hx hb hown ht hS, fer_V hx hb hown ht hS, smr hx hb hS, alr hx hb hS, lnr hx hb hS, fun i j hi hj => hS.1.2 i j hi hj, hct, hsp, ⟨(fun h => nomatch h), fun _ => hrt, (fun h => nomatch h), (fun h => nomatch h)⟩, hend⟩
theorem hd_V_reach {As : List mV} {g : mG} {r : mRes} (h : mFres (.inr (.inl f_V_reach)) As g = some r) : mHd (some 5) As = true ∧ As.length = 3 ∧ ∃ k, rn_V_reach k 0 (mL0 As 3) [] g = some r := by
  obtain ⟨h1, h2, h3⟩ := mFun_inv (mFI_inv (t := t_V_reach) h)
  exact ⟨h1, h2, mEv_inv h3⟩
abbrev rm_V_reach : Room := { frames := 2, cells := 0, slots := 0, locals := 42 }
set_option maxRecDepth 100000 in
set_option maxHeartbeats 4000000 in
theorem c_V_reach (l : Launch) (D : va_G) (cA : Nat → ClassId) (ad : Nat → Nat → Nat) (A : Nat → Prop) : mCt l D clA (mTys cA) shC nmC csC cA ad A (StC ad A) yn_V_reach (mWs yn_V_reach kc_V_reach 3 (some .int)) rm_V_reach (.inr (.inl f_V_reach)) := by
  refine mMetOf (T := tb_V_reach) (gl := gl_V) (pl := pl_V) (gs := gs_V) (fe := fe_V) (sm := smC) (ct := ct_V_reach) (sp := sp_V_reach) (rk := 1) (by decide) rfl StC_stable (fun As g r _ h => ⟨by rw [(hd_V_reach h).2.1]; decide, (hd_V_reach h).2.2⟩) ?_
  intro p e s m args below meth c Qc res hx hb hml hown hlk hrt hts hK hS hend
  have ht : ∀ w ∈ mTb, w.before args s = true := fun w hw => hts w (List.mem_cons_of_mem _ hw)
  have hct : ∀ idx q, mlk ct_V_reach idx = some q → mCallOk p l e rm_V_reach s m args below meth c Qc kc_V_reach 3 D clA shC nmC csC cA ad A idx q.1 q.2.1 q.2.2 := by
    unfold ct_V_reach
    exact mlk_cons (P := fun (idx : Nat) (q : Nat × Nat × mFn) => mCallOk p l e rm_V_reach s m args below meth c Qc kc_V_reach 3 D clA shC nmC csC cA ad A idx q.1 q.2.1 q.2.2) (mCV StC_stable ⟨hx, hb, hml, hown, hts⟩ hK hS (mTb_at 303 ⟨by decide +kernel, rfl⟩) mi_V_isInstruction ms_V_isInstruction mn_V mc_V_isInstruction (c_V_isInstruction l D cA ad A) ⟨rfl, rfl⟩ ⟨by decide, by decide, by decide +kernel⟩ ⟨by decide, by decide⟩ (mRecvC hK shC_ok (a := 5) rfl rfl fun As g r h => (hd_V_isInstruction h).1)) (mlk_none)
  have hsp : ∀ idx n, mlk sp_V_reach idx = some n → mSpOk rm_V_reach s args "TriggerBase$Verifier" idx n := by
    unfold sp_V_reach
    exact mlk_none
  exact ⟨⟨hx, hb, hml, hown, hlk⟩, mTok.to tb_V_reach_ok, ⟨hK, rfl, rfl, _, rfl⟩, shC_ok, mGlB.to uw_ok gl_V_ok ht, mPlB.to uw_ok pl_V_ok.1 pl_V_ok.2 ht, gsr_V hx hb hown ht hS, fer_V hx hb hown ht hS, smr hx hb hS, alr hx hb hS, lnr hx hb hS, fun i j hi hj => hS.1.2 i j hi hj, hct, hsp, ⟨(fun h => nomatch h), fun _ => hrt, (fun h => nomatch h), (fun h => nomatch h)⟩, hend⟩
theorem hd_V_leastToLookAt {As : List mV} {g : mG} {r : mRes} (h : mFres (.inr (.inl f_V_leastToLookAt)) As g = some r) : mHd (some 5) As = true ∧ As.length = 1 ∧ ∃ k, rn_V_leastToLookAt k 0 (mL0 As 2) [] g = some r := by
  obtain ⟨h1, h2, h3⟩ := mFun_inv (mFI_inv (t := t_V_leastToLookAt) h)
  exact ⟨h1, h2, mEv_inv h3⟩
abbrev rm_V_leastToLookAt : Room := { frames := 0, cells := 0, slots := 0, locals := 0 }
set_option maxRecDepth 100000 in
set_option maxHeartbeats 4000000 in
theorem c_V_leastToLookAt (l : Launch) (D : va_G) (cA : Nat → ClassId) (ad : Nat → Nat → Nat) (A : Nat → Prop) : mCt l D clA (mTys cA) shC nmC csC cA ad A (StC ad A) yn_V_leastToLookAt (mWs yn_V_leastToLookAt kc_V_leastToLookAt 2 (some .int)) rm_V_leastToLookAt (.inr (.inl f_V_leastToLookAt)) := by
  refine mMetOf (T := tb_V_leastToLookAt) (gl := gl_V) (pl := pl_V) (gs := gs_V) (fe := fe_V) (sm := smC) (ct := ct_V_leastToLookAt) (sp := sp_V_leastToLookAt) (rk := 1) (by decide) rfl StC_stable (fun As g r _ h => ⟨by rw [(hd_V_leastToLookAt h).2.1]; decide, (hd_V_leastToLookAt h).2.2⟩) ?_
  intro p e s m args below meth c Qc res hx hb hml hown hlk hrt hts hK hS hend
  have ht : ∀ w ∈ mTb, w.before args s = true := fun w hw => hts w (List.mem_cons_of_mem _ hw)
  have hct : ∀ idx q, mlk ct_V_leastToLookAt idx = some q → mCallOk p l e rm_V_leastToLookAt s m args below meth c Qc kc_V_leastToLookAt 2 D clA shC nmC csC cA ad A idx q.1 q.2.1 q.2.2 := by
    unfold ct_V_leastToLookAt
    exact mlk_none
  have hsp : ∀ idx n, mlk sp_V_leastToLookAt idx = some n → mSpOk rm_V_leastToLookAt s args "TriggerBase$Verifier" idx n := by
    unfold sp_V_leastToLookAt
    exact mlk_none
  exact ⟨⟨hx, hb, hml, hown, hlk⟩, mTok.to tb_V_leastToLookAt_ok, ⟨hK, rfl, rfl, _, rfl⟩, shC_ok, mGlB.to uw_ok gl_V_ok ht, mPlB.to uw_ok pl_V_ok.1 pl_V_ok.2 ht, gsr_V hx hb hown ht hS, fer_V hx hb hown ht hS, smr hx hb hS, alr hx hb hS, lnr hx hb hS, fun i j hi hj => hS.1.2 i j hi hj, hct, hsp, ⟨(fun h => nomatch h), fun _ => hrt, (fun h => nomatch h), (fun h => nomatch h)⟩, hend⟩
theorem hd_I_mayGoOnBehind {As : List mV} {g : mG} {r : mRes} (h : mFres (.inr (.inl f_I_mayGoOnBehind)) As g = some r) : mHd (some 100) As = true ∧ As.length = 1 ∧ ∃ k, rn_I_mayGoOnBehind k 0 (mL0 As 1) [] g = some r := by
  obtain ⟨h1, h2, h3⟩ := mFun_inv (mFI_inv (t := t_I_mayGoOnBehind) h)
  exact ⟨h1, h2, mEv_inv h3⟩
abbrev rm_I_mayGoOnBehind : Room := { frames := 0, cells := 0, slots := 0, locals := 0 }
set_option maxRecDepth 100000 in
set_option maxHeartbeats 4000000 in
theorem c_I_mayGoOnBehind (l : Launch) (D : va_G) (cA : Nat → ClassId) (ad : Nat → Nat → Nat) (A : Nat → Prop) : mCt l D clA (mTys cA) shC nmC csC cA ad A (StC ad A) yn_I_mayGoOnBehind (mWs yn_I_mayGoOnBehind kc_I_mayGoOnBehind 1 (some .boolean)) rm_I_mayGoOnBehind (.inr (.inl f_I_mayGoOnBehind)) := by
  refine mMetOf (T := tb_I_mayGoOnBehind) (gl := gl_I) (pl := pl_I) (gs := gs_I) (fe := fe_I) (sm := smC) (ct := ct_I_mayGoOnBehind) (sp := sp_I_mayGoOnBehind) (rk := 2) (by decide) rfl StC_stable (fun As g r _ h => ⟨by rw [(hd_I_mayGoOnBehind h).2.1]; decide, (hd_I_mayGoOnBehind h).2.2⟩) ?_
  intro p e s m args below meth c Qc res hx hb hml hown hlk hrt hts hK hS hend
  have ht : ∀ w ∈ mTb, w.before args s = true := fun w hw => hts w (List.mem_cons_of_mem _ hw)
  have hct : ∀ idx q, mlk ct_I_mayGoOnBehind idx = some q → mCallOk p l e rm_I_mayGoOnBehind s m args below meth c Qc kc_I_mayGoOnBehind 1 D clA shC nmC csC cA ad A idx q.1 q.2.1 q.2.2 := by
    unfold ct_I_mayGoOnBehind
    exact mlk_none
  have hsp : ∀ idx n, mlk sp_I_mayGoOnBehind idx = some n → mSpOk rm_I_mayGoOnBehind s args "TriggerBase$Instruction" idx n := by
    unfold sp_I_mayGoOnBehind
    exact mlk_none
  exact ⟨⟨hx, hb, hml, hown, hlk⟩, mTok.to tb_I_mayGoOnBehind_ok, ⟨hK, rfl, rfl, _, rfl⟩, shC_ok, mGlB.to uw_ok gl_I_ok ht, mPlB.to uw_ok pl_I_ok.1 pl_I_ok.2 ht, gsr_I hx hb hown ht hS, fer_I hx hb hown ht hS, smr hx hb hS, alr hx hb hS, lnr hx hb hS, fun i j hi hj => hS.1.2 i j hi hj, hct, hsp, ⟨(fun h => nomatch h), (fun h => nomatch h), fun _ => hrt, (fun h => nomatch h)⟩, hend⟩
theorem hd_V_ruleOfHeights {As : List mV} {g : mG} {r : mRes} (h : mFres (.inr (.inl f_V_ruleOfHeights)) As g = some r) : mHd (some 5) As = true ∧ As.length = 4 ∧ ∃ k, rn_V_ruleOfHeights k 0 (mL0 As 8) [] g = some r := by
  obtain ⟨h1, h2, h3⟩ := mFun_inv (mFI_inv (t := t_V_ruleOfHeights) h)
  exact ⟨h1, h2, mEv_inv h3⟩
abbrev rm_V_ruleOfHeights : Room := { frames := 3, cells := 0, slots := 0, locals := 66 }
set_option maxRecDepth 100000 in
set_option maxHeartbeats 4000000 in
theorem c_V_ruleOfHeights (l : Launch) (D : va_G) (cA : Nat → ClassId) (ad : Nat → Nat → Nat) (A : Nat → Prop) : mCt l D clA (mTys cA) shC nmC csC cA ad A (StC ad A) yn_V_ruleOfHeights (mWs yn_V_ruleOfHeights kc_V_ruleOfHeights 8 (some .int)) rm_V_ruleOfHeights (.inr (.inl f_V_ruleOfHeights)) := by
  refine mMetOf (T := tb_V_ruleOfHeights) (gl := gl_V) (pl := pl_V) (gs := gs_V) (fe := fe_V) (sm := smC) (ct := ct_V_ruleOfHeights) (sp := sp_V_ruleOfHeights) (rk := 1) (by decide) rfl StC_stable (fun As g r _ h => ⟨by rw [(hd_V_ruleOfHeights h).2.1]; decide, (hd_V_ruleOfHeights h).2.2⟩) ?_
  intro p e s m args below meth c Qc res hx hb hml hown hlk hrt hts hK hS hend
  have ht : ∀ w ∈ mTb, w.before args s = true := fun w hw => hts w (List.mem_cons_of_mem _ hw)
  have hct : ∀ idx q, mlk ct_V_ruleOfHeights idx = some q → mCallOk p l e rm_V_ruleOfHeights s m args below meth c Qc kc_V_ruleOfHeights 8 D clA shC nmC csC cA ad A idx q.1 q.2.1 q.2.2 := by
    unfold ct_V_ruleOfHeights
    exact mlk_cons (P := fun (idx : Nat) (q : Nat × Nat × mFn) => mCallOk p l e rm_V_ruleOfHeights s m args below meth c Qc kc_V_ruleOfHeights 8 D clA shC nmC csC cA ad A idx q.1 q.2.1 q.2.2) (mCV StC_stable ⟨hx, hb, hml, hown, hts⟩ hK hS (mTb_at 271 ⟨by decide +kernel, rfl⟩) mi_L_instructionAt ms_L_instructionAt mn_L mc_L_instructionAt (c_L_instructionAt l D cA ad A) ⟨rfl, rfl⟩ ⟨by decide, by decide, by decide +kernel⟩ ⟨by decide, by decide⟩ (mRecvC hK shC_ok (a := 2) rfl rfl fun As g r h => (hd_L_instructionAt h).1)) (mlk_cons (P := fun (idx : Nat) (q : Nat × Nat × mFn) => mCallOk p l e rm_V_ruleOfHeights s m args below meth c Qc kc_V_ruleOfHeights 8 D clA shC nmC csC cA ad A idx q.1 q.2.1 q.2.2) (mCV StC_stable ⟨hx, hb, hml, hown, hts⟩ hK hS (mTb_at 327 ⟨by decide +kernel, rfl⟩) mi_I_mayGoOnBehind ms_I_mayGoOnBehind mn_I mc_I_mayGoOnBehind (c_I_mayGoOnBehind l D cA ad A) ⟨rfl, rfl⟩ ⟨by decide, by decide, by decide +kernel⟩ ⟨by decide, by decide⟩ (recvI hS fun As g r h => (hd_I_mayGoOnBehind h).1)) (mlk_cons (P := fun (idx : Nat) (q : Nat × Nat × mFn) => mCallOk p l e rm_V_ruleOfHeights s m args below meth c Qc kc_V_ruleOfHeights 8 D clA shC nmC csC cA ad A idx q.1 q.2.1 q.2.2) (mCV StC_stable ⟨hx, hb, hml, hown, hts⟩ hK hS (mTb_at 315 ⟨by decide +kernel, rfl⟩) mi_V_reach ms_V_reach mn_V mc_V_reach (c_V_reach l D cA ad A) ⟨rfl, rfl⟩ ⟨by decide, by decide, by decide +kernel⟩ ⟨by decide, by decide⟩ (mRecvC hK shC_ok (a := 5) rfl rfl fun As g r h => (hd_V_reach h).1)) (mlk_cons (P := fun (idx : Nat) (q : Nat × Nat × mFn) => mCallOk p l e rm_V_ruleOfHeights s m args below meth c Qc kc_V_ruleOfHeights 8 D clA shC nmC csC cA ad A idx q.1 q.2.1 q.2.2) (mCV StC_stable ⟨hx, hb, hml, hown, hts⟩ hK hS (mTb_at 307 ⟨by decide +kernel, rfl⟩) mi_I_mayJump ms_I_mayJump mn_I mc_I_mayJump (c_I_mayJump l D cA ad A) ⟨rfl, rfl⟩ ⟨by decide, by decide, by decide +kernel⟩ ⟨by decide, by decide⟩ (recvI hS fun As g r h => (hd_I_mayJump h).1)) (mlk_cons (P := fun (idx : Nat) (q : Nat × Nat × mFn) => mCallOk p l e rm_V_ruleOfHeights s m args below meth c Qc kc_V_ruleOfHeights 8 D clA shC nmC csC cA ad A idx q.1 q.2.1 q.2.2) (mCV StC_stable ⟨hx, hb, hml, hown, hts⟩ hK hS (mTb_at 291 ⟨by decide +kernel, rfl⟩) mi_L_word ms_L_word mn_L mc_L_word (c_L_word l D cA ad A) ⟨rfl, rfl⟩ ⟨by decide, by decide, by decide +kernel⟩ ⟨by decide, by decide⟩ (mRecvC hK shC_ok (a := 2) rfl rfl fun As g r h => (hd_L_word h).1)) (mlk_none)))))
  have hsp : ∀ idx n, mlk sp_V_ruleOfHeights idx = some n → mSpOk rm_V_ruleOfHeights s args "TriggerBase$Verifier" idx n := by
    unfold sp_V_ruleOfHeights
    exact mlk_none
  exact ⟨⟨hx, hb, hml, hown, hlk⟩, mTok.to tb_V_ruleOfHeights_ok, ⟨hK, rfl, rfl, _, rfl⟩, shC_ok, mGlB.to uw_ok gl_V_ok ht, mPlB.to uw_ok pl_V_ok.1 pl_V_ok.2 ht, gsr_V hx hb hown ht hS, fer_V hx hb hown ht hS, smr hx hb hS, alr hx hb hS, lnr hx hb hS, fun i j hi hj => hS.1.2 i j hi hj, hct, hsp, ⟨(fun h => nomatch h), fun _ => hrt, (fun h => nomatch h), (fun h => nomatch h)⟩, hend⟩
theorem hd_V_faultOfHeights {As : List mV} {g : mG} {r : mRes} (h : mFres (.inr (.inl f_V_faultOfHeights)) As g = some r) : mHd (some 5) As = true ∧ As.length = 3 ∧ ∃ k, rn_V_faultOfHeights k 0 (mL0 As 7) [] g = some r := by
  obtain ⟨h1, h2, h3⟩ := mFun_inv (mFI_inv (t := t_V_faultOfHeights) h)
  exact ⟨h1, h2, mEv_inv h3⟩
abbrev rm_V_faultOfHeights : Room := { frames := 4, cells := 0, slots := 0, locals := 93 }
set_option maxRecDepth 100000 in
set_option maxHeartbeats 4000000 in
theorem c_V_faultOfHeights (l : Launch) (D : va_G) (cA : Nat → ClassId) (ad : Nat → Nat → Nat) (A : Nat → Prop) : mCt l D clA (mTys cA) shC nmC csC cA ad A (StC ad A) yn_V_faultOfHeights (mWs yn_V_faultOfHeights kc_V_faultOfHeights 7 (some .int)) rm_V_faultOfHeights (.inr (.inl f_V_faultOfHeights)) := by
  refine mMetOf (T := tb_V_faultOfHeights) (gl := gl_V) (pl := pl_V) (gs := gs_V) (fe := fe_V) (sm := smC) (ct := ct_V_faultOfHeights) (sp := sp_V_faultOfHeights) (rk := 1) (by decide) rfl StC_stable (fun As g r _ h => ⟨by rw [(hd_V_faultOfHeights h).2.1]; decide, (hd_V_faultOfHeights h).2.2⟩) ?_
  intro p e s m args below meth c Qc res hx hb hml hown hlk hrt hts hK hS hend
  have ht : ∀ w ∈ mTb, w.before args s = true := fun w hw => hts w (List.mem_cons_of_mem _ hw)
  have hct : ∀ idx q, mlk ct_V_faultOfHeights idx = some q → mCallOk p l e rm_V_faultOfHeights s m args below meth c Qc kc_V_faultOfHeights 7 D clA shC nmC csC cA ad A idx q.1 q.2.1 q.2.2 := by
    unfold ct_V_faultOfHeights
    exact mlk_cons (P := fun (idx : Nat) (q : Nat × Nat × mFn) => mCallOk p l e rm_V_faultOfHeights s m args below meth c Qc kc_V_faultOfHeights 7 D clA shC nmC csC cA ad A idx q.1 q.2.1 q.2.2) (mCV StC_stable ⟨hx, hb, hml, hown, hts⟩ hK hS (mTb_at 315 ⟨by decide +kernel, rfl⟩) mi_V_reach ms_V_reach mn_V mc_V_reach (c_V_reach l D cA ad A) ⟨rfl, rfl⟩ ⟨by decide, by decide, by decide +kernel⟩ ⟨by decide, by decide⟩ (mRecvC hK shC_ok (a := 5) rfl rfl fun As g r h => (hd_V_reach h).1)) (mlk_cons (P := fun (idx : Nat) (q : Nat × Nat × mFn) => mCallOk p l e rm_V_faultOfHeights s m args below meth c Qc kc_V_faultOfHeights 7 D clA shC nmC csC cA ad A idx q.1 q.2.1 q.2.2) (mCV StC_stable ⟨hx, hb, hml, hown, hts⟩ hK hS (mTb_at 319 ⟨by decide +kernel, rfl⟩) mi_V_leastToLookAt ms_V_leastToLookAt mn_V mc_V_leastToLookAt (c_V_leastToLookAt l D cA ad A) ⟨rfl, rfl⟩ ⟨by decide, by decide, by decide +kernel⟩ ⟨by decide, by decide⟩ (mRecvC hK shC_ok (a := 5) rfl rfl fun As g r h => (hd_V_leastToLookAt h).1)) (mlk_cons (P := fun (idx : Nat) (q : Nat × Nat × mFn) => mCallOk p l e rm_V_faultOfHeights s m args below meth c Qc kc_V_faultOfHeights 7 D clA shC nmC csC cA ad A idx q.1 q.2.1 q.2.2) (mCV StC_stable ⟨hx, hb, hml, hown, hts⟩ hK hS (mTb_at 323 ⟨by decide +kernel, rfl⟩) mi_V_ruleOfHeights ms_V_ruleOfHeights mn_V mc_V_ruleOfHeights (c_V_ruleOfHeights l D cA ad A) ⟨rfl, rfl⟩ ⟨by decide, by decide, by decide +kernel⟩ ⟨by decide, by decide⟩ (mRecvC hK shC_ok (a := 5) rfl rfl fun As g r h => (hd_V_ruleOfHeights h).1)) (mlk_cons (P := fun (idx : Nat) (q : Nat × Nat × mFn) => mCallOk p l e rm_V_faultOfHeights s m args below meth c Qc kc_V_faultOfHeights 7 D clA shC nmC csC cA ad A idx q.1 q.2.1 q.2.2) (mCS StC_stable ⟨hx, hb, hml, hown, hts⟩ hK hS (mTb_at 296 ⟨by decide +kernel, rfl⟩) mst_V_fault mn_V mc_V_fault (c_V_fault l D cA ad A) ⟨rfl, rfl⟩ ⟨by decide, by decide, by decide +kernel⟩ ⟨by decide, by decide⟩) (mlk_none))))
  have hsp : ∀ idx n, mlk sp_V_faultOfHeights idx = some n → mSpOk rm_V_faultOfHeights s args "TriggerBase$Verifier" idx n := by
    unfold sp_V_faultOfHeights
    exact mlk_none
  exact ⟨⟨hx, hb, hml, hown, hlk⟩, mTok.to tb_V_faultOfHeights_ok, ⟨hK, rfl, rfl, _, rfl⟩, shC_ok, mGlB.to uw_ok gl_V_ok ht, mPlB.to uw_ok pl_V_ok.1 pl_V_ok.2 ht, gsr_V hx hb hown ht hS, fer_V hx hb hown ht hS, smr hx hb hS, alr hx hb hS, lnr hx hb hS, fun i j hi hj => hS.1.2 i j hi hj, hct, hsp, ⟨(fun h => nomatch h), fun _ => hrt, (fun h => nomatch h), (fun h => nomatch h)⟩, hend⟩
