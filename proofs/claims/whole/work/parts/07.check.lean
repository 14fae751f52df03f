/-! tables checked by program, and what they give -/
def mTb : List Cond := lw_tbl.filter goodWord
theorem mTb_in {w : Cond} (h : w ∈ lw_tbl) (hg : goodWord w = true) : w ∈ mTb := List.mem_filter.mpr ⟨h, hg⟩
theorem mTb_at {w : Cond} (i : Nat) (h : (lw_tbl[i]? = some w) ∧ goodWord w = true) : w ∈ mTb := mTb_in (List.mem_of_getElem? h.1) h.2
theorem mTb_lw {w : Cond} (h : w ∈ mTb) : w ∈ lw_tbl := (List.mem_filter.mp h).1
abbrev mWs (y : MethodName) (cc : ByteArray) (nL : Nat) (ret : Option FieldType) : List Cond := Cond.code y cc nL ret :: mTb
theorem mGoodT {c0 : Cond} {ws : List Cond} (h : ∀ w ∈ ws, w ∈ mTb) : GoodIn (c0 :: mTb) ws := fun w hw => ⟨List.mem_cons_of_mem _ (h w hw), good_of_word (List.mem_filter.mp (h w hw)).2⟩
theorem mGoodW {c0 c1 : Cond} (h : c1 ∈ mTb) : GoodIn (c0 :: mTb) (c1 :: mTb) := mGoodT fun w hw => by
  rcases List.mem_cons.mp hw with e | e
  · rw [e]; exact h
  · exact e
theorem goodIn_two {big a b : List Cond} (ha : GoodIn big a) (hb : GoodIn big b) : GoodIn big (a ++ b) := fun w h => (List.mem_append.mp h).elim (ha w) (hb w)
abbrev mTys (cA : Nat → ClassId) : List (ClassId × FieldType) := [(cA 0, .int), (cA 1, .boolean), (cA 2, .object "TriggerBase$Frame")]
def rAll (n : Nat) (f : Nat → Bool) : Bool := (List.range n).all f
theorem rAll.to {n : Nat} {f : Nat → Bool} (h : rAll n f = true) {k : Nat} (hk : k < n) : f k = true := List.all_eq_true.mp h k (List.mem_range.mpr hk)
def mKsB (ks : List Nat) (ty : Nat → FieldType) : Bool := rAll ks.length fun k => match ks[k]? with
  | some 0 => decide (ty k = .int)
  | some 1 => decide (ty k = .boolean)
  | some 2 => (match ty k with
    | .object _ => true
    | _ => false)
  | _ => true
theorem mKsB.to {ks : List Nat} {ty : Nat → FieldType} (h : mKsB ks ty = true) (k : Nat) : (ks[k]? = some 0 → ty k = .int) ∧ (ks[k]? = some 1 → ty k = .boolean) ∧ (ks[k]? = some 2 → ∃ o, ty k = .object o) := by
  have key : ∀ x, ks[k]? = some x → k < ks.length := fun x hx => (List.getElem?_eq_some_iff.mp hx).1
  refine ⟨fun e => ?_, fun e => ?_, fun e => ?_⟩
  · have h1 := rAll.to h (key _ e)
    rw [e] at h1
    exact of_decide_eq_true h1
  · have h1 := rAll.to h (key _ e)
    rw [e] at h1
    exact of_decide_eq_true h1
  · have h1 : (match ty k with
      | .object _ => true
      | _ => false) = true := by
      have h0 := rAll.to h (key _ e)
      rw [e] at h0
      exact h0
    cases hty : ty k with
    | object o => exact ⟨o, rfl⟩
    | _ => rw [hty] at h1; cases h1
abbrev mShL : Type := List (Nat × ((Nat × List Nat) ⊕ (Nat × Nat)))
def mClB (cl : List vw_C) (tyL : List (Nat → FieldType)) (shL : mShL) : Bool := shL.all fun q => match q.2 with
  | .inr x => Nat.ble x.2 2
  | .inl x => match cl[x.1]? with
    | some r => match tyL[x.1]? with
      | some ty => decide (x.2.length = r.2.2) && (rAll r.2.2 (fun k => decide (parseFieldDescriptor (r.2.1 k).2.2.1 = some (ty k))) && (rAll r.2.2 (fun a => rAll r.2.2 fun b => decide (a = b) || decide ((r.2.1 a).2.1 ≠ (r.2.1 b).2.1)) && mKsB x.2 ty))
      | none => false
    | none => false
theorem mClB.to {cl : List vw_C} {tyL : List (Nat → FieldType)} {shL : mShL} (h : mClB cl tyL shL = true) : mClOk cl (mlk shL) := by
  intro a ci ks hs
  have h1 := List.all_eq_true.mp h _ (mlk_mem hs)
  dsimp only at h1
  split at h1
  · next r hr =>
    split at h1
    · next ty hty =>
      simp only [Bool.and_eq_true, decide_eq_true_eq] at h1
      obtain ⟨a1, a2, a3, a4⟩ := h1
      refine ⟨r.1, r.2.1, r.2.2, ty, hr, a1, fun k hk => of_decide_eq_true (rAll.to a2 hk), fun x hx y hy hxy => ?_, fun k => mKsB.to a4 k⟩
      have h5 := rAll.to (rAll.to a3 hx) hy
      rw [Bool.or_eq_true] at h5
      rcases h5 with h5 | h5
      · exact absurd (of_decide_eq_true h5) hxy
      · exact of_decide_eq_true h5
    · cases h1
  · cases h1
theorem mClB.ar {cl : List vw_C} {tyL : List (Nat → FieldType)} {shL : mShL} (h : mClB cl tyL shL = true) : ∀ (a len t : Nat), mlk shL a = some (.inr (len, t)) → t ≤ 2 := by
  intro a len t hs
  have h1 := List.all_eq_true.mp h _ (mlk_mem hs)
  exact Nat.le_of_ble_eq_true h1
def mCsB (shL : mShL) (nm : Nat → Nat) (cs : List (Nat × Nat)) : Bool := mnd cs && (shL.all (fun q => rAll (nm q.1) fun j => decide ((q.1, j) ∈ cs)) && (Nat.blt (nm 10) 1000 && shL.all (fun q => match q.2 with
  | .inr _ => true
  | .inl x => x.2.all fun kd => Nat.blt kd 3 || Nat.ble (nm q.1) (nm (kd - 3)))))
theorem mShOk.of {cl : List vw_C} {tyL : List (Nat → FieldType)} {shL : mShL} {nm : Nat → Nat} {cs : List (Nat × Nat)} (h1 : mClB cl tyL shL = true) (h2 : mCsB shL nm cs = true) : mShOk cl (mlk shL) nm cs := by
  unfold mCsB at h2
  simp only [Bool.and_eq_true] at h2
  obtain ⟨a1, a2, a3, a4⟩ := h2
  refine ⟨a1, fun a j q hs hj => ?_, mClB.to h1, ?_, fun a ci ks k b hs hk => ?_, mClB.ar h1⟩
  · exact of_decide_eq_true (rAll.to (List.all_eq_true.mp a2 _ (mlk_mem hs)) hj)
  · have h3 : nm 10 < 1000 := Nat.le_of_ble_eq_true a3
    omega
  · have h3 := List.all_eq_true.mp a4 _ (mlk_mem hs)
    have h4 := List.all_eq_true.mp h3 _ (List.mem_of_getElem? hk)
    rw [Bool.or_eq_true] at h4
    rcases h4 with h4 | h4
    · have h5 : b + 3 < 3 := Nat.le_of_ble_eq_true h4
      omega
    · have h5 := Nat.le_of_ble_eq_true h4
      rw [Nat.add_sub_cancel] at h5
      exact h5
def mUwB (cl : List vw_C) : Bool := cl.all fun r => (u_ws r.1 r.2.1 r.2.2).all fun w => (decide (w ∈ lw_tbl) && goodWord w)
def mGlB (cl : List vw_C) (own : String) (gl : List (Nat × Nat × Nat)) : Bool := gl.all fun q => match cl[q.2.1]? with
  | some r => decide (q.2.2 < r.2.2) && decide (Cond.fieldLink own q.1 (r.2.1 q.2.2).1 (r.2.1 q.2.2).2.1 (r.2.1 q.2.2).2.2.1 ∈ lw_tbl)
  | none => false
def mPlB (cl : List vw_C) (pl : List (Nat × Nat × Nat)) : Bool := pl.all fun q => match cl[q.2.1]? with
  | some r => decide ((r.2.1 q.2.2).2.2.2 = false)
  | none => false
theorem mGlB.to {cl : List vw_C} {own : String} {gl : List (Nat × Nat × Nat)} {args : Array Value} {s : State} (hu : mUwB cl = true) (h : mGlB cl own gl = true) (ht : ∀ w ∈ mTb, w.before args s = true) : ∀ idx ci k, mlk gl idx = some (ci, k) → mFldOk own cl args s idx ci k := by
  intro idx ci k hl
  have h1 := List.all_eq_true.mp h _ (mlk_mem hl)
  dsimp only at h1
  split at h1
  · next r hr =>
    rw [Bool.and_eq_true] at h1
    refine ⟨r.1, r.2.1, r.2.2, (r.2.1 k).1, hr, of_decide_eq_true h1.1, fun w hw => ht w ?_, Or.inl (ht _ (mTb_in (of_decide_eq_true h1.2) rfl)), fun x hx => hx⟩
    have h2 := List.all_eq_true.mp (List.all_eq_true.mp hu r (List.mem_of_getElem? hr)) w hw
    rw [Bool.and_eq_true] at h2
    exact mTb_in (of_decide_eq_true h2.1) h2.2
  · cases h1
theorem mPlB.to {cl : List vw_C} {own : String} {pl : List (Nat × Nat × Nat)} {args : Array Value} {s : State} (hu : mUwB cl = true) (h : mGlB cl own pl = true) (h2 : mPlB cl pl = true) (ht : ∀ w ∈ mTb, w.before args s = true) : ∀ idx ci k, mlk pl idx = some (ci, k) → mPutOk own cl args s idx ci k := by
  intro idx ci k hl
  refine ⟨mGlB.to hu h ht idx ci k hl, ?_⟩
  have h1 := List.all_eq_true.mp h2 _ (mlk_mem hl)
  dsimp only at h1
  split at h1
  · next r hr => exact ⟨r.1, r.2.1, r.2.2, hr, of_decide_eq_true h1⟩
  · cases h1
/-- functions of a method, by its run; the receiver's kind and the number of arguments are asked first -/
def mHd (hd : Option Nat) (As : List mV) : Bool := match hd with
  | none => true
  | some a => match As with
    | .inr q :: _ => Nat.beq q.1 a
    | _ => false
def mFun (hd : Option Nat) (n : Nat) (run : List mV → mG → Option mRes) (As : List mV) (g : mG) : Option mRes := bif mHd hd As && Nat.beq As.length n then run As g else none
def mexV (q : mRes) : Option mG := match q.1 with
  | none => some q.2
  | some _ => none
def mexI (q : mRes) : Option (Int32 × mG) := match q.1 with
  | some (.inl x) => some (x, q.2)
  | _ => none
def mexR (kd : Nat) (q : mRes) : Option (Nat × mG) := match q.1 with
  | some (.inr c) => bif Nat.beq c.1 kd then some (c.2, q.2) else none
  | _ => none
theorem mFV_inv {t : List mV → mG → Option mRes} {As : List mV} {g : mG} {r : mRes} (h : mFres (.inl fun As g => (t As g).bind mexV) As g = some r) : t As g = some r := by
  have h0 : (((t As g).bind mexV).bind fun g' => some ((none, g') : mRes)) = some r := h
  cases ht : t As g with
  | none => rw [ht] at h0; cases h0
  | some q =>
    rw [ht] at h0
    obtain ⟨a, b⟩ := q
    cases a with
    | none => exact h0
    | some v => cases h0
theorem mFI_inv {t : List mV → mG → Option mRes} {As : List mV} {g : mG} {r : mRes} (h : mFres (.inr (.inl fun As g => (t As g).bind mexI)) As g = some r) : t As g = some r := by
  have h0 : (((t As g).bind mexI).bind fun q => some ((some (.inl q.1), q.2) : mRes)) = some r := h
  cases ht : t As g with
  | none => rw [ht] at h0; cases h0
  | some q =>
    rw [ht] at h0
    obtain ⟨a, b⟩ := q
    cases a with
    | none => cases h0
    | some v =>
      cases v with
      | inl x => exact h0
      | inr c => cases h0
theorem mFR_inv {kd : Nat} {t : List mV → mG → Option mRes} {As : List mV} {g : mG} {r : mRes} (h : mFres (.inr (.inr (kd, fun As g => (t As g).bind (mexR kd)))) As g = some r) : t As g = some r := by
  have h0 : (((t As g).bind (mexR kd)).bind fun q => some ((some (.inr (kd, q.1)), q.2) : mRes)) = some r := h
  cases ht : t As g with
  | none => rw [ht] at h0; cases h0
  | some q =>
    rw [ht] at h0
    obtain ⟨a, b⟩ := q
    cases a with
    | none => cases h0
    | some v =>
      cases v with
      | inl x => cases h0
      | inr c =>
        have h2 : ((bif Nat.beq c.1 kd then some (c.2, b) else none).bind fun q => some ((some (.inr (kd, q.1)), q.2) : mRes)) = some r := h0
        cases hb : Nat.beq c.1 kd with
        | false => rw [hb] at h2; cases h2
        | true =>
          rw [hb] at h2
          have e := beq_inv hb
          rw [← e] at h2
          exact h2
theorem mFun_inv {hd : Option Nat} {n : Nat} {run : List mV → mG → Option mRes} {As : List mV} {g : mG} {r : mRes} (h : mFun hd n run As g = some r) : mHd hd As = true ∧ As.length = n ∧ run As g = some r := by
  obtain ⟨h1, h2⟩ := bif_inv (show (bif mHd hd As && Nat.beq As.length n then run As g else none) = some r from h)
  rw [Bool.and_eq_true] at h1
  exact ⟨h1.1, beq_inv h1.2, h2⟩
theorem mHd_inv {a : Nat} {As : List mV} (h : mHd (some a) As = true) : ∃ j rest, As = .inr (a, j) :: rest := by
  unfold mHd at h
  dsimp only at h
  split at h
  · next q rest =>
    obtain ⟨x, j⟩ := q
    have e := beq_inv h
    dsimp only at e
    subst e
    exact ⟨j, rest, rfl⟩
  · cases h
theorem mFun_of {hd : Option Nat} {n : Nat} {run : List mV → mG → Option mRes} {As : List mV} {g : mG} {r : mRes} (h1 : (mHd hd As && Nat.beq As.length n) = true) (h2 : run As g = some r) : mFun hd n run As g = some r := by
  unfold mFun
  rw [h1]
  exact h2
section MEF
variable {T : List (Nat × mIn)} {sh : mSh} {nm : Nat → Nat} {gl pl : List (Nat × Nat × Nat)} {gs : List (Nat × mV)} {fe : List (Nat × List Int32)} {sm : List Int32} {ct : List (Nat × Nat × Nat × mFn)} {sp : List (Nat × Nat)} {rk : Nat} {hd : Option Nat} {na nL n : Nat} {As : List mV} {g g' : mG} {x : Int32} {kd c : Nat}
theorem mE_V (h1 : (mHd hd As && Nat.beq As.length na) = true) (h : px T sh nm gl pl gs fe sm ct sp rk n 0 (mL0 As nL) [] g = some (none, g')) : ((mFun hd na (fun As g => mEv fun n => px T sh nm gl pl gs fe sm ct sp rk n 0 (mL0 As nL) [] g) As g).bind mexV) = some g' := by
  rw [mFun_of (run := fun As g => mEv fun n => px T sh nm gl pl gs fe sm ct sp rk n 0 (mL0 As nL) [] g) h1 (mEv_of (f := fun n => px T sh nm gl pl gs fe sm ct sp rk n 0 (mL0 As nL) [] g) h fun _ _ _ _ a b => px_det a b)]
  rfl
theorem mE_I (h1 : (mHd hd As && Nat.beq As.length na) = true) (h : px T sh nm gl pl gs fe sm ct sp rk n 0 (mL0 As nL) [] g = some (some (.inl x), g')) : ((mFun hd na (fun As g => mEv fun n => px T sh nm gl pl gs fe sm ct sp rk n 0 (mL0 As nL) [] g) As g).bind mexI) = some (x, g') := by
  rw [mFun_of (run := fun As g => mEv fun n => px T sh nm gl pl gs fe sm ct sp rk n 0 (mL0 As nL) [] g) h1 (mEv_of (f := fun n => px T sh nm gl pl gs fe sm ct sp rk n 0 (mL0 As nL) [] g) h fun _ _ _ _ a b => px_det a b)]
  rfl
theorem mE_R (h1 : (mHd hd As && Nat.beq As.length na) = true) (h : px T sh nm gl pl gs fe sm ct sp rk n 0 (mL0 As nL) [] g = some (some (.inr (kd, c)), g')) : ((mFun hd na (fun As g => mEv fun n => px T sh nm gl pl gs fe sm ct sp rk n 0 (mL0 As nL) [] g) As g).bind (mexR kd)) = some (c, g') := by
  rw [mFun_of (run := fun As g => mEv fun n => px T sh nm gl pl gs fe sm ct sp rk n 0 (mL0 As nL) [] g) h1 (mEv_of (f := fun n => px T sh nm gl pl gs fe sm ct sp rk n 0 (mL0 As nL) [] g) h fun _ _ _ _ a b => px_det a b)]
  show (bif Nat.beq kd kd then some (c, g') else none) = some (c, g')
  rw [Nat.beq_refl]
  rfl
end MEF
section MCC
variable {p : Program} {l : Launch} {e : Env} {R : Room} {s : State} {m : MethodId} {args : Array Value} {below : List Frame} {meth : Method} {c : Code}
variable {Qc : Array Value → State → Outcome → State → Prop}
variable {cc : ByteArray} {nL : Nat} {own : String} {D : va_G} {cl : List vw_C} {tys : List (ClassId × FieldType)} {sh : mSh} {nm : Nat → Nat} {cs : List (Nat × Nat)} {cA : Nat → ClassId} {ad : Nat → Nat → Nat} {A : Nat → Prop} {St : State → Prop}
variable {y x0 : MethodName} {rm : Room} {F : mFn} {bytes : ByteArray} {maxL n idx : Nat} {ret : Option FieldType} {host : String} {c0 : Cond}
theorem mRecvC {a ci N : Nat} {ks : List Nat} {C : String} {Tt : u_T} (hK : va_K D cl tys s) (hS : mShOk cl sh nm cs) (hsh : sh a = some (.inl (ci, ks))) (hc : cl[ci]? = some (C, Tt, N)) (hF : ∀ As g r, mFres F As g = some r → mHd (some a) As = true) : mRecv s D cl sh nm cs cA ad A C F := by
  intro As g H locs r hH hok hFr
  obtain ⟨j, rest, rfl⟩ := mHd_inv (hF As g r hFr)
  obtain ⟨q0, h0, w0⟩ := hH.at (hS.2.1 a j _ hsh hok.hd)
  rw [mEn_obj hsh] at w0
  exact ⟨(a, j), rest, rfl, va_recv hK hH.1 hc w0⟩
/-- a call of a virtual method of the receiver's own -/
theorem mCV (hSt : mStable A St) (S : CallFix p m c cc nL s args (c0 :: mTb) own) (hK : va_K D cl tys s) (hS : St s) (m1 : Cond.methodLink own idx y ∈ mTb) (m2 : Cond.instanceMethod y ∈ mTb) (m3 : Cond.selects y.cls y y ∈ mTb) (m4 : Cond.initialized y.cls ∈ mTb) (m5 : Cond.code y bytes maxL ret ∈ mTb)
    (hM : mCt l D cl tys sh nm cs cA ad A St y (mWs y bytes maxL ret) rm F) (hrm : rm.cells = 0 ∧ rm.slots = 0) (hd : y.cls ≠ "java/lang/invoke/MethodHandle" ∧ y.cls ≠ "java/lang/invoke/VarHandle" ∧ (parseMethodDescriptor y.desc).map (fun d => d.parameters.length) = some n) (hR : rm.frames + 1 ≤ R.frames ∧ 8 + (maxL + 11) + rm.locals ≤ R.locals)
    (hre : mRecv s D cl sh nm cs cA ad A y.cls F) : mCallOk p l e R s m args below meth c Qc cc nL D cl sh nm cs cA ad A idx 0 (n + 1) F :=
  mCallV hSt S hK hS hM (cwV n S.2.2.2.2 (goodIn_two (mGoodT (List.forall_mem_cons.mpr ⟨m1, List.forall_mem_cons.mpr ⟨m2, List.forall_mem_cons.mpr ⟨m3, List.forall_mem_cons.mpr ⟨m4, fun _ h => absurd h List.not_mem_nil⟩⟩⟩⟩)) (mGoodW m5)) rfl hrm.1 hrm.2 ⟨rfl, hd⟩ hR) hre
/-- an inherited one -/
theorem mCU (hSt : mStable A St) (S : CallFix p m c cc nL s args (c0 :: mTb) own) (hK : va_K D cl tys s) (hS : St s) (hyx : y = ⟨y.cls, x0.name, x0.desc⟩) (m1 : Cond.methodLink own idx x0 ∈ mTb) (m2 : Cond.sameMethod x0.cls y.cls x0.name x0.desc ∈ mTb) (m3 : Cond.selects x0.cls x0 y ∈ mTb) (m6 : Cond.instanceMethod y ∈ mTb) (m4 : Cond.initialized y.cls ∈ mTb) (m5 : Cond.code y bytes maxL ret ∈ mTb)
    (hM : mCt l D cl tys sh nm cs cA ad A St y (mWs y bytes maxL ret) rm F) (hrm : rm.cells = 0 ∧ rm.slots = 0) (hd : y.cls ≠ "java/lang/invoke/MethodHandle" ∧ y.cls ≠ "java/lang/invoke/VarHandle" ∧ (parseMethodDescriptor x0.desc).map (fun d => d.parameters.length) = some n) (hR : rm.frames + 1 ≤ R.frames ∧ 8 + (maxL + 11) + rm.locals ≤ R.locals)
    (hre : mRecv s D cl sh nm cs cA ad A x0.cls F) : mCallOk p l e R s m args below meth c Qc cc nL D cl sh nm cs cA ad A idx 0 (n + 1) F := by
  have cw : va_CU R s args own x0.cls y.cls idx x0 y bytes maxL ret (mWs y bytes maxL ret) rm 0 0 n := va_cwU n S.2.2.2.2 (goodIn_two (mGoodT (List.forall_mem_cons.mpr ⟨m1, List.forall_mem_cons.mpr ⟨m2, List.forall_mem_cons.mpr ⟨m3, List.forall_mem_cons.mpr ⟨m6, List.forall_mem_cons.mpr ⟨m4, fun _ h => absurd h List.not_mem_nil⟩⟩⟩⟩⟩)) (mGoodW m5)) rfl hrm.1 hrm.2 hyx hd hR
  intro pc ls H locs g g' As rest r hd hsz hlen hok hrest hH hF kk
  obtain ⟨b, As', rfl, hcell⟩ := hre As g H locs _ hH hok hF
  rw [← mapRev]
  refine mRunGo (va_runU (As := As'.map (mcv ad)) (rest := rest.map (mcv ad)) (b := ad b.1 b.2) S (hM _ g g' r hok hF) cw ⟨mPc.blind hSt, hcell, mPc.pre hSt hK hS hH⟩ rfl (by rw [List.length_map]; exact Nat.succ.inj hlen) hsz (by show ((_ :: _ : List Value).reverse ++ _) = _; rw [List.reverse_cons, List.append_assoc]; rfl) (lvroomM hrest) hd ⟨Nat.zero_le _, Nat.zero_le _⟩) hH (fun H1 locs1 h1 h2 => ?_)
  rw [mapR]
  exact kk H1 locs1 h1 h2
/-- a static one -/
theorem mCS (hSt : mStable A St) (S : CallFix p m c cc nL s args (c0 :: mTb) own) (hK : va_K D cl tys s) (hS : St s) (m1 : Cond.methodLink own idx y ∈ mTb) (m2 : Cond.static y ∈ mTb) (m4 : Cond.initialized y.cls ∈ mTb) (m5 : Cond.code y bytes maxL ret ∈ mTb)
    (hM : mCt l D cl tys sh nm cs cA ad A St y (mWs y bytes maxL ret) rm F) (hrm : rm.cells = 0 ∧ rm.slots = 0) (hd : y.cls ≠ "java/lang/invoke/MethodHandle" ∧ y.cls ≠ "java/lang/invoke/VarHandle" ∧ (parseMethodDescriptor y.desc).map (fun d => d.parameters.length) = some n) (hR : rm.frames + 1 ≤ R.frames ∧ 8 + (maxL + 11) + rm.locals ≤ R.locals) :
    mCallOk p l e R s m args below meth c Qc cc nL D cl sh nm cs cA ad A idx 2 n F :=
  mCallS hSt S hK hS hM (va_cwS n S.2.2.2.2 (goodIn_two (mGoodT (List.forall_mem_cons.mpr ⟨m1, List.forall_mem_cons.mpr ⟨m2, List.forall_mem_cons.mpr ⟨m4, fun _ h => absurd h List.not_mem_nil⟩⟩⟩)) (mGoodW m5)) rfl hrm.1 hrm.2 hd hR)
/-- a static one of a nest mate -/
theorem mCSN (hSt : mStable A St) (S : CallFix p m c cc nL s args (c0 :: mTb) own) (hK : va_K D cl tys s) (hS : St s) (m1 : va_Nw (.methodLinkNest own idx y host) s) (m2 : Cond.static y ∈ mTb) (m4 : Cond.initialized y.cls ∈ mTb) (m5 : Cond.code y bytes maxL ret ∈ mTb)
    (hM : mCt l D cl tys sh nm cs cA ad A St y (mWs y bytes maxL ret) rm F) (hrm : rm.cells = 0 ∧ rm.slots = 0) (hd : y.cls ≠ "java/lang/invoke/MethodHandle" ∧ y.cls ≠ "java/lang/invoke/VarHandle" ∧ (parseMethodDescriptor y.desc).map (fun d => d.parameters.length) = some n) (hR : rm.frames + 1 ≤ R.frames ∧ 8 + (maxL + 11) + rm.locals ≤ R.locals) :
    mCallOk p l e R s m args below meth c Qc cc nL D cl sh nm cs cA ad A idx 2 n F :=
  mCallSN hSt S hK hS hM ⟨va_cnB n S.2.2.2.2 (mGoodW m5) rfl hrm.1 hrm.2 m1 (S.2.2.2.2 _ (List.mem_cons_of_mem _ m4)) hd hR, S.2.2.2.2 _ (List.mem_cons_of_mem _ m2), trivial⟩
/-- no call: an empty list -/
theorem mlk_nil {α : Type} {idx : Nat} {q : α} (h : mlk ([] : List (Nat × α)) idx = some q) : False := by cases h
theorem mlk_cons {α : Type} {P : Nat → α → Prop} {k : Nat} {v : α} {t : List (Nat × α)} (h1 : P k v) (h2 : ∀ idx q, mlk t idx = some q → P idx q) : ∀ idx q, mlk ((k, v) :: t) idx = some q → P idx q := by
  intro idx q h
  unfold mlk at h
  cases hb : Nat.beq k idx with
  | true =>
    rw [hb] at h
    have e1 := beq_inv hb
    have e2 : v = q := Option.some.inj h
    rw [← e1, ← e2]
    exact h1
  | false =>
    rw [hb] at h
    exact h2 idx q h
theorem mlk_none {α : Type} {P : Nat → α → Prop} : ∀ idx q, mlk ([] : List (Nat × α)) idx = some q → P idx q := fun _ _ h => by cases h
end MCC
