/-! contracts in the small machine's words -/
def mU (D : va_G) (cl : List vw_C) (tys : List (ClassId × FieldType)) (sh : mSh) (cs : List (Nat × Nat)) (cA : Nat → ClassId) (ad : Nat → Nat → Nat) (A : Nat → Prop) (St : State → Prop) (g : mG) (U : State) : Prop :=
  va_P D cl (mWd sh cA ad cs g) U.heap ∧ va_D A (mWd sh cA ad cs g) ∧ va_K D cl tys U ∧ St U
def mPc (D : va_G) (cl : List vw_C) (tys : List (ClassId × FieldType)) (sh : mSh) (cs : List (Nat × Nat)) (cA : Nat → ClassId) (ad : Nat → Nat → Nat) (A : Nat → Prop) (St : State → Prop) (As : List mV) (g : mG) : Array Value → State → Prop := fun v U => v = (As.map (mcv ad)).toArray ∧ mU D cl tys sh cs cA ad A St g U
def mQc (D : va_G) (cl : List vw_C) (sh : mSh) (nm : Nat → Nat) (cs : List (Nat × Nat)) (cA : Nat → ClassId) (ad : Nat → Nat → Nat) (A : Nat → Prop) (r : Option mV) (g' : mG) : Array Value → State → Outcome → State → Prop := fun _ st oc t => oc = .returned (r.map (mcv ad)) ∧ (∀ v, r = some v → mokV nm v) ∧ va_P D cl (mWd sh cA ad cs g') t.heap ∧ va_F A st t
def mCt (l : Launch) (D : va_G) (cl : List vw_C) (tys : List (ClassId × FieldType)) (sh : mSh) (nm : Nat → Nat) (cs : List (Nat × Nat)) (cA : Nat → ClassId) (ad : Nat → Nat → Nat) (A : Nat → Prop) (St : State → Prop) (y : MethodName) (ws : List Cond) (rm : Room) (F : mFn) : Prop :=
  ∀ (As : List mV) (g g' : mG) (r : Option mV), mokS nm As → mFres F As g = some (r, g') → Met l y ws rm (mPc D cl tys sh cs cA ad A St As g) (mQc D cl sh nm cs cA ad A r g') 0 0 A
/-- what stands outside the world stays true -/
def mStable (A : Nat → Prop) (St : State → Prop) : Prop := ∀ u U : State, (u.WarmedH U.vm ∨ u.vm = U.vm) → u.heap.size ≤ U.heap.size → (∀ q : Nat, q < u.heap.size → ¬ A q → U.heap[q]? = u.heap[q]?) → St u → St U
section MCT
variable {p : Program} {l : Launch} {e : Env} {R : Room} {s : State} {m : MethodId} {args : Array Value} {below : List Frame} {meth : Method} {c : Code}
variable {Qc : Array Value → State → Outcome → State → Prop}
variable {cc : ByteArray} {nL : Nat} {own : String} {D : va_G} {cl : List vw_C} {tys : List (ClassId × FieldType)} {sh : mSh} {nm : Nat → Nat} {cs : List (Nat × Nat)} {cA : Nat → ClassId} {ad : Nat → Nat → Nat} {A : Nat → Prop} {St : State → Prop}
variable {T : List (Nat × mIn)} {gl pl : List (Nat × Nat × Nat)} {gs : List (Nat × mV)} {fe : List (Nat × List Int32)} {sm : List Int32} {ct : List (Nat × Nat × Nat × mFn)} {sp : List (Nat × Nat)} {rk : Nat} {res : mRes}
theorem mPc.blind (hSt : mStable A St) {As : List mV} {g : mG} : FrameBlind (mPc D cl tys sh cs cA ad A St As g) := by
  rintro a U gf mk ⟨h1, h2, h3, h4, h5⟩
  exact ⟨h1, h2, h3, va_K.moved (u := U) (U := U.calling gf mk a) (Vm.Alike.refl U.vm) h4, hSt U (U.calling gf mk a) (Or.inr rfl) (Nat.le_refl _) (fun _ _ _ => rfl) h5⟩
theorem mPc.pre (hSt : mStable A St) (hK : va_K D cl tys s) (hS : St s) {As : List mV} {g : mG} {H : Heap} {locs : List Loc} (hH : mHp D cl sh cA ad cs A s.heap g H locs) : ∀ U : State, U.heap = H → s.WarmedH U.vm → mPc D cl tys sh cs cA ad A St As g (As.map (mcv ad)).toArray U := by
  intro U hU hW
  refine ⟨rfl, by rw [hU]; exact hH.1, hH.2.1, va_K.moved hW.alike hK, hSt s U (Or.inl hW) (by rw [hU]; exact hH.2.2.1) (fun q h1 h2 => by rw [hU]; exact hH.2.2.2.1 q h1 h2) hS⟩
theorem mRunGo {H : Heap} {locs : List Loc} {g g' : mG} {r : Option mV} {pc : Nat} {ls : Array Slot} {st0 rest : List Value} {av : Array Value}
    (hr : va_Run p l e R s m args below meth c H locs 0 0 0 0 (F0 m pc ls st0) rest (mQc D cl sh nm cs cA ad A r g' av) A) (hH : mHp D cl sh cA ad cs A s.heap g H locs)
    (kk : ∀ (H1 : Heap) (locs1 : List Loc), mHp D cl sh cA ad cs A s.heap g' H1 locs1 → (∀ v, r = some v → mokV nm v) → mWk p l e R s m args below meth c Qc A H1 locs1 (pc + 3) ls ((r.map (mcv ad)).toList ++ rest)) : mWk p l e R s m args below meth c Qc A H locs pc ls st0 := by
  intro T hT X
  obtain ⟨v, st₀, t, T', L, h0, X', hL, e1, e2, ⟨hv, hok, hP, hz, hkp⟩, st⟩ := hr T hT X
  cases hv
  rw [h0] at hz hkp
  obtain ⟨t2, a1, b1⟩ := kk T'.heap (locs ++ L) ⟨by rw [e1]; exact hP, mWd_D hH.2.1, Nat.le_trans hH.2.2.1 (by rw [e1]; exact hz), fun q h1 h2 => by rw [e1, hkp q (Nat.lt_of_lt_of_le h1 hH.2.2.1) h2]; exact hH.2.2.2.1 q h1 h2, fun q hq => by
      rcases List.mem_append.mp hq with h | h
      · exact hH.2.2.2.2 q h
      · exact hL q h⟩ hok T' rfl X'
  exact ⟨t2, st t2 a1, b1⟩
theorem mapR {r : Option mV} {rest : List mV} : (r.map (mcv ad)).toList ++ rest.map (mcv ad) = (r.toList ++ rest).map (mcv ad) := by
  cases r <;> rfl
theorem mapRev {As rest : List mV} : (As.map (mcv ad)).reverse ++ rest.map (mcv ad) = (As.reverse ++ rest).map (mcv ad) := by
  rw [List.map_append, List.map_reverse]
theorem lvroomM {pc : Nat} {ls : Array Slot} {st : List Value} {rest : List mV} (h : rest.length ≤ 8) : 2 * (F0 m pc ls st).monitorRoom + ((rest.map (mcv ad)).map fun v => v.category).sum ≤ 8 := lv_room (by rw [mcat_sum]; exact h)
variable {y : MethodName} {ws ws' Ts : List Cond} {rm : Room} {F : mFn} {bytes : ByteArray} {maxL n idx : Nat} {ret : Option FieldType} {C host : String}
/-- the receiver of a call -/
def mRecv (s : State) (D : va_G) (cl : List vw_C) (sh : mSh) (nm : Nat → Nat) (cs : List (Nat × Nat)) (cA : Nat → ClassId) (ad : Nat → Nat → Nat) (A : Nat → Prop) (C : String) (F : mFn) : Prop := ∀ (As : List mV) (g : mG) (H : Heap) (locs : List Loc) (r : mRes), mHp D cl sh cA ad cs A s.heap g H locs → mokS nm As → mFres F As g = some r → ∃ (b : Nat × Nat) (As' : List mV), As = .inr b :: As' ∧ ∃ cellB : Cell, H[ad b.1 b.2]? = some cellB ∧ cellB.vm.isStatics = false ∧ s.vm.findClass C = some cellB.cls
theorem mCallV (hSt : mStable A St) (S : CallFix p m c cc nL s args Ts own) (hK : va_K D cl tys s) (hS : St s) (hM : mCt l D cl tys sh nm cs cA ad A St y ws rm F) (cw : CallW R s args own C idx y bytes maxL ret ws rm 0 0 n) (hre : mRecv s D cl sh nm cs cA ad A C F) : mCallOk p l e R s m args below meth c Qc cc nL D cl sh nm cs cA ad A idx 0 (n + 1) F := by
  intro pc ls H locs g g' As rest r hd hsz hlen hok hrest hH hF kk
  obtain ⟨b, As', rfl, hcell⟩ := hre As g H locs _ hH hok hF
  rw [← mapRev]
  refine mRunGo (va_runV (As := As'.map (mcv ad)) (rest := rest.map (mcv ad)) (b := ad b.1 b.2) S (hM _ g g' r hok hF) cw ⟨mPc.blind hSt, hcell, mPc.pre hSt hK hS hH⟩ rfl (by rw [List.length_map]; exact Nat.succ.inj hlen) hsz (by show ((_ :: _ : List Value).reverse ++ _) = _; rw [List.reverse_cons, List.append_assoc]; rfl) (lvroomM hrest) hd ⟨Nat.zero_le _, Nat.zero_le _⟩) hH (fun H1 locs1 h1 h2 => ?_)
  rw [mapR]
  exact kk H1 locs1 h1 h2
theorem mCallVN (hSt : mStable A St) (S : CallFix p m c cc nL s args Ts own) (hK : va_K D cl tys s) (hS : St s) (hM : mCt l D cl tys sh nm cs cA ad A St y ws rm F) (cw : va_CN R s args own idx y host bytes maxL ret ws rm 0 0 n ∧ (Cond.instanceMethod y).before args s = true ∧ (Cond.selects C y y).before args s = true) (hre : mRecv s D cl sh nm cs cA ad A C F) : mCallOk p l e R s m args below meth c Qc cc nL D cl sh nm cs cA ad A idx 0 (n + 1) F := by
  intro pc ls H locs g g' As rest r hd hsz hlen hok hrest hH hF kk
  obtain ⟨b, As', rfl, hcell⟩ := hre As g H locs _ hH hok hF
  rw [← mapRev]
  refine mRunGo (va_runVN (As := As'.map (mcv ad)) (rest := rest.map (mcv ad)) (b := ad b.1 b.2) S (hM _ g g' r hok hF) cw ⟨mPc.blind hSt, hcell, mPc.pre hSt hK hS hH⟩ rfl (by rw [List.length_map]; exact Nat.succ.inj hlen) hsz (by show ((_ :: _ : List Value).reverse ++ _) = _; rw [List.reverse_cons, List.append_assoc]; rfl) (lvroomM hrest) hd ⟨Nat.zero_le _, Nat.zero_le _⟩) hH (fun H1 locs1 h1 h2 => ?_)
  rw [mapR]
  exact kk H1 locs1 h1 h2
theorem mCallS (hSt : mStable A St) (S : CallFix p m c cc nL s args Ts own) (hK : va_K D cl tys s) (hS : St s) (hM : mCt l D cl tys sh nm cs cA ad A St y ws rm F) (cw : CallB R s args own idx y bytes maxL ret ws rm 0 0 n ∧ (Cond.static y).before args s = true) : mCallOk p l e R s m args below meth c Qc cc nL D cl sh nm cs cA ad A idx 2 n F := by
  intro pc ls H locs g g' As rest r hd hsz hlen hok hrest hH hF kk
  rw [← mapRev]
  refine mRunGo (va_runS (As := As.map (mcv ad)) (rest := rest.map (mcv ad)) S (hM _ g g' r hok hF) cw ⟨mPc.blind hSt, mPc.pre hSt hK hS hH⟩ rfl (by rw [List.length_map]; exact hlen) hsz rfl (lvroomM hrest) hd ⟨Nat.zero_le _, Nat.zero_le _⟩) hH (fun H1 locs1 h1 h2 => ?_)
  rw [mapR]
  exact kk H1 locs1 h1 h2
theorem mCallSN (hSt : mStable A St) (S : CallFix p m c cc nL s args Ts own) (hK : va_K D cl tys s) (hS : St s) (hM : mCt l D cl tys sh nm cs cA ad A St y ws rm F) (cw : va_CN R s args own idx y host bytes maxL ret ws rm 0 0 n ∧ (Cond.static y).before args s = true ∧ True) : mCallOk p l e R s m args below meth c Qc cc nL D cl sh nm cs cA ad A idx 2 n F := by
  intro pc ls H locs g g' As rest r hd hsz hlen hok hrest hH hF kk
  rw [← mapRev]
  refine mRunGo (va_runSN (As := As.map (mcv ad)) (rest := rest.map (mcv ad)) S (hM _ g g' r hok hF) cw ⟨mPc.blind hSt, mPc.pre hSt hK hS hH⟩ rfl (by rw [List.length_map]; exact hlen) hsz rfl (lvroomM hrest) hd ⟨Nat.zero_le _, Nat.zero_le _⟩) hH (fun H1 locs1 h1 h2 => ?_)
  rw [mapR]
  exact kk H1 locs1 h1 h2
theorem mArgs_mem (ad : Nat → Nat → Nat) : ∀ (As : List mV) (k i : Nat) (v : mV), As[i]? = some v → (k + i, mcv ad v) ∈ lv_args k (As.map (mcv ad))
  | [], k, i, v, h => by simp at h
  | x :: xs, k, i, v, h => by
    have e1 : lv_args k ((x :: xs).map (mcv ad)) = (k, mcv ad x) :: lv_args (k + 1) (xs.map (mcv ad)) := by
      show (k, mcv ad x) :: lv_args (if (mcv ad x).category = 2 then k + 2 else k + 1) (xs.map (mcv ad)) = _
      rw [mcv_cat, if_neg (by decide)]
    rw [e1]
    cases i with
    | zero =>
      rw [List.getElem?_cons_zero] at h
      cases h
      exact List.mem_cons_self
    | succ i =>
      rw [List.getElem?_cons_succ] at h
      have := mArgs_mem ad xs (k + 1) i v h
      rw [show k + 1 + i = k + (i + 1) by omega] at this
      exact List.mem_cons_of_mem _ this
theorem mSl_len (ad : Nat → Nat → Nat) (As : List mV) : (lg_sl (As.map (mcv ad))).length = As.length := by
  induction As with
  | nil => rfl
  | cons v As ih =>
    have e1 : lg_sl ((v :: As).map (mcv ad)) = Slot.val (mcv ad v) :: lg_sl (As.map (mcv ad)) := by
      unfold lg_sl
      rw [List.map_cons, List.flatMap_cons, mcv_cat, if_neg (by decide)]
      rfl
    rw [e1, List.length_cons, List.length_cons, ih]
/-- the locals at a method's start -/
def mL0 (As : List mV) (nL : Nat) : mL := As.map some ++ List.replicate (nL - As.length) none
theorem mL0_at {As : List mV} {nL i : Nat} {v : mV} (h : (mL0 As nL)[i]? = some (some v)) : As[i]? = some v := by
  unfold mL0 at h
  by_cases hi : i < As.length
  · rw [List.getElem?_append_left (by rw [List.length_map]; exact hi), List.getElem?_map] at h
    cases ha : As[i]? with
    | none => rw [ha] at h; cases h
    | some w =>
      rw [ha] at h
      have h2 : some (some w) = some (some v) := h
      rw [Option.some.inj h2]
  · rw [List.getElem?_append_right (by rw [List.length_map]; omega), List.getElem?_replicate] at h
    split at h
    · cases h
    · cases h
/-- a contract out of runs of the small machine -/
theorem mMetOf (hy : plainName y.cls = true) (hw : ws = Cond.code y cc nL ret :: ws') (hSt : mStable A St)
    (hbody : ∀ (As : List mV) (g : mG) (r : mRes), mokS nm As → mFres F As g = some r → As.length ≤ nL ∧ ∃ k, px T sh nm gl pl gs fe sm ct sp rk k 0 (mL0 As nL) [] g = some r)
    (hctx : ∀ (p : Program) (e : Env) (s : State) (m : MethodId) (args : Array Value) (below : List Frame) (meth : Method) (c : Code) (Qc : Array Value → State → Outcome → State → Prop) (res : mRes),
      p.tables.exec = Jvm.exec → c.code = cc → c.maxLocals = nL → s.vm.findClass y.cls = some m.cls → meth.locks = false → meth.sig.returnType = ret → (∀ w ∈ ws, w.before args s = true) → va_K D cl tys s → St s →
      (∀ (H : Heap) (locs : List Loc), mHp D cl sh cA ad cs A s.heap res.2 H locs → (∀ v, res.1 = some v → mokV nm v) → ∀ t : State, t.heap = H → s.WarmedH t.vm → Qc args s (.returned (res.1.map (mcv ad))) t) →
      mCtx p l e rm s m args below meth c Qc cc nL y.cls D cl tys sh nm cs cA ad A T gl pl gs fe sm ct sp rk res) :
    mCt l D cl tys sh nm cs cA ad A St y ws rm F := by
  intro As g g' r hok hF
  refine Met.ofW (cc := cc) (maxL := nL) (ret := ret) hy hw ?_
  rintro p e s m args below meth c s₁ B hml ⟨rfl, hP, hD, hK, hS⟩
  obtain ⟨hlen, k, hpx⟩ := hbody As g (r, g') hok hF
  have X := hctx p e s m (As.map (mcv ad)).toArray below meth c (mQc D cl sh nm cs cA ad A r g') (r, g') B.exec B.bytes hml (findClass_of_methodNamed B.named) B.notSynchronized B.returns (atoms_spec (ws := ws) B.pre) hK hS
    (fun H locs hH hv t ht hW => ⟨rfl, hv, by rw [ht]; exact hH.1, hH.2.2.F ht⟩)
  have hl := lv_entry (As.map (mcv ad)) (n := nL) (by rw [mSl_len]; exact hlen)
  rw [lg_entry_eq]
  generalize (lg_sl (As.map (mcv ad)) ++ List.replicate (nL - (lg_sl (As.map (mcv ad))).length) Slot.unset).toArray = ls at hl ⊢
  refine mSim X k 0 (mL0 As nL) [] g hpx ls s.heap [] ⟨hl.1, hl.2.1, fun i v hi => ?_⟩ (fun i v hi => hok v (List.mem_of_getElem? (mL0_at hi))) (fun v hv => by cases hv) ⟨hP, hD, va_S.rf⟩
  have h1 := hl.2.2 (i, mcv ad v) (by
    have := mArgs_mem ad As 0 i v (mL0_at hi)
    rw [Nat.zero_add] at this
    exact this)
  exact h1
theorem mlk_mem {α : Type} : ∀ {t : List (Nat × α)} {n : Nat} {x : α}, mlk t n = some x → (n, x) ∈ t
  | [], n, x, h => by cases h
  | q :: t, n, x, h => by
    unfold mlk at h
    cases hb : Nat.beq q.1 n with
    | true =>
      rw [hb] at h
      have e1 := beq_inv hb
      have e2 : q.2 = x := Option.some.inj h
      rw [← e1, ← e2]
      exact List.mem_cons_self
    | false =>
      rw [hb] at h
      exact List.mem_cons_of_mem _ (mlk_mem h)
/-- the table is checked by a program -/
def mTok (cc : ByteArray) (nL : Nat) (T : List (Nat × mIn)) : Bool := T.all fun q => decide (decode cc q.1 = .ok (q.2.1, q.2.2.1)) && (decide (q.2.2.2.1 = q.1 + q.2.2.1) && mOk nL q.1 q.2)
theorem mTok.to (h : mTok cc nL T = true) : ∀ pc i, mlk T pc = some i → decode cc pc = .ok (i.1, i.2.1) ∧ i.2.2.1 = pc + i.2.1 ∧ mOk nL pc i = true := by
  intro pc i hi
  have h1 := List.all_eq_true.mp h (pc, i) (mlk_mem hi)
  rw [Bool.and_eq_true, Bool.and_eq_true] at h1
  exact ⟨of_decide_eq_true h1.1, of_decide_eq_true h1.2.1, h1.2.2⟩
end MCT
