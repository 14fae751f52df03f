/-! what a method's walk may lean on -/
def mFldOk (own : String) (cl : List vw_C) (args : Array Value) (s : State) (idx ci k : Nat) : Prop := ∃ (C : String) (T : u_T) (N : Nat) (ref : String), cl[ci]? = some (C, T, N) ∧ k < N ∧ (∀ w ∈ u_ws C T N, w.before args s = true) ∧ ((Cond.fieldLink own idx ref (T k).2.1 (T k).2.2.1).before args s = true ∨ ∃ host : String, (Cond.fieldLinkNest own idx ref (T k).2.1 (T k).2.2.1 host).before args s = true) ∧ (∀ x, s.fieldFound? (T k).1 (T k).2.1 (T k).2.2.1 = some x → s.fieldFound? ref (T k).2.1 (T k).2.2.1 = some x)
def mPutOk (own : String) (cl : List vw_C) (args : Array Value) (s : State) (idx ci k : Nat) : Prop := mFldOk own cl args s idx ci k ∧ ∃ (C : String) (T : u_T) (N : Nat), cl[ci]? = some (C, T, N) ∧ (T k).2.2.2 = false
def mClOk (cl : List vw_C) (sh : mSh) : Prop := ∀ (a ci : Nat) (ks : List Nat), sh a = some (.inl (ci, ks)) → ∃ (C : String) (T : u_T) (N : Nat) (ty : Nat → FieldType), cl[ci]? = some (C, T, N) ∧ ks.length = N ∧ (∀ k, k < N → parseFieldDescriptor (T k).2.2.1 = some (ty k)) ∧ (∀ a, a < N → ∀ b, b < N → a ≠ b → (T a).2.1 ≠ (T b).2.1) ∧ ∀ k : Nat, (ks[k]? = some 0 → ty k = .int) ∧ (ks[k]? = some 1 → ty k = .boolean) ∧ (ks[k]? = some 2 → ∃ o, ty k = .object o)
/-- the shapes: cells stand in the list, references stay among them -/
def mShOk (cl : List vw_C) (sh : mSh) (nm : Nat → Nat) (cs : List (Nat × Nat)) : Prop := mnd cs = true ∧ (∀ a j q, sh a = some q → j < nm a → (a, j) ∈ cs) ∧ mClOk cl sh ∧ nm 10 < 2 ^ 31 ∧ (∀ (a ci : Nat) (ks : List Nat) (k b : Nat), sh a = some (.inl (ci, ks)) → ks[k]? = some (b + 3) → nm a ≤ nm b) ∧ ∀ (a len t : Nat), sh a = some (.inr (len, t)) → t ≤ 2
theorem mcat_sum (ad : Nat → Nat → Nat) (S : List mV) : ((S.map (mcv ad)).map fun v => v.category).sum = S.length := by
  induction S with
  | nil => rfl
  | cons v S ih =>
    simp only [List.map_cons, List.sum_cons, List.length_cons, ih, mcv_cat]
    omega
theorem inB_in {x : Int32} {n : Nat} (h : inB x n) : vp_in x n := vp_in_iff.mpr h
theorem inB_lt {x : Int32} {n : Nat} (h : inB x n) : x.toNatClampNeg < n := by
  have hc : x.toNatClampNeg = x.toInt.toNat := rfl
  have h1 := h.1
  have h2 := h.2
  omega
theorem i32_ge {x y : Int32} : y ≤ x ↔ ¬ x < y := Int32.not_lt.symm
section MSIM
variable {p : Program} {l : Launch} {e : Env} {R : Room} {s : State} {m : MethodId} {args : Array Value} {below : List Frame} {meth : Method} {c : Code}
variable {Qc : Array Value → State → Outcome → State → Prop}
variable {cc : ByteArray} {nL : Nat} {own : String} {D : va_G} {cl : List vw_C} {tys : List (ClassId × FieldType)} {sh : mSh} {nm : Nat → Nat} {cs : List (Nat × Nat)} {cA : Nat → ClassId} {ad : Nat → Nat → Nat} {A : Nat → Prop}
variable {T : List (Nat × mIn)} {gl pl : List (Nat × Nat × Nat)} {gs : List (Nat × mV)} {fe : List (Nat × List Int32)} {sm : List Int32} {ct : List (Nat × Nat × Nat × mFn)} {sp : List (Nat × Nat)} {rk : Nat} {res : mRes}
/-- the walk's judgement, at heap, writes, place, locals, stack -/
abbrev mWk (p : Program) (l : Launch) (e : Env) (R : Room) (s : State) (m : MethodId) (args : Array Value) (below : List Frame) (meth : Method) (c : Code) (Qc : Array Value → State → Outcome → State → Prop) (A : Nat → Prop) (H : Heap) (locs : List Loc) (pc : Nat) (ls : Array Slot) (st : List Value) : Prop :=
  W p l e R s m args below meth c H locs 0 0 (MQ below Qc args s 0 0 A) (F0 m pc ls st)
def mCallOk (p : Program) (l : Launch) (e : Env) (R : Room) (s : State) (m : MethodId) (args : Array Value) (below : List Frame) (meth : Method) (c : Code) (Qc : Array Value → State → Outcome → State → Prop) (cc : ByteArray) (nL : Nat) (D : va_G) (cl : List vw_C) (sh : mSh) (nm : Nat → Nat) (cs : List (Nat × Nat)) (cA : Nat → ClassId) (ad : Nat → Nat → Nat) (A : Nat → Prop) (idx kd n : Nat) (F : mFn) : Prop :=
  ∀ (pc : Nat) (ls : Array Slot) (H : Heap) (locs : List Loc) (g g' : mG) (As rest : List mV) (r : Option mV), decode cc pc = .ok (mInv kd idx, 3) → ls.size = nL → As.length = n → mokS nm As → rest.length ≤ 8 → mHp D cl sh cA ad cs A s.heap g H locs → mFres F As g = some (r, g') →
    (∀ (H1 : Heap) (locs1 : List Loc), mHp D cl sh cA ad cs A s.heap g' H1 locs1 → (∀ v, r = some v → mokV nm v) → mWk p l e R s m args below meth c Qc A H1 locs1 (pc + 3) ls ((r.toList ++ rest).map (mcv ad))) → mWk p l e R s m args below meth c Qc A H locs pc ls ((As.reverse ++ rest).map (mcv ad))
def mSpOk (R : Room) (s : State) (args : Array Value) (own : String) (idx n : Nat) : Prop := match n with
  | 0 => (Cond.methodLink own idx arraycopyName).before args s = true ∧ (Cond.native arraycopyName).before args s = true ∧ (Cond.static arraycopyName).before args s = true ∧ (Cond.initialized "java/lang/System").before args s = true ∧ 1 ≤ R.frames ∧ 8 + (nativeFrameWords "java/lang/System" "arraycopy" 5 + 11) ≤ R.locals
  | 1 => (Cond.methodLink own idx Lib.Math.max.name).before args s = true ∧ (Cond.static Lib.Math.max.name).before args s = true ∧ (Cond.initialized "java/lang/Math").before args s = true ∧ (Cond.code Lib.Math.max.name Lib.Math.max.code 2 (some .int)).before args s = true ∧ 1 ≤ R.frames ∧ 21 ≤ R.locals
  | 2 => (Cond.methodLink own idx Lib.Math.min.name).before args s = true ∧ (Cond.static Lib.Math.min.name).before args s = true ∧ (Cond.initialized "java/lang/Math").before args s = true ∧ (Cond.code Lib.Math.min.name Lib.Math.min.code 2 (some .int)).before args s = true ∧ 1 ≤ R.frames ∧ 21 ≤ R.locals
  | _ => False
def mRtOk (meth : Method) (rk : Nat) : Prop := (rk = 0 → meth.sig.returnType = none) ∧ (rk = 1 → meth.sig.returnType = some .int) ∧ (rk = 2 → meth.sig.returnType = some .boolean) ∧ (rk = 3 → ∃ o, meth.sig.returnType = some (.object o))
/-- what the walk leans on, all of it -/
def mCtx (p : Program) (l : Launch) (e : Env) (R : Room) (s : State) (m : MethodId) (args : Array Value) (below : List Frame) (meth : Method) (c : Code) (Qc : Array Value → State → Outcome → State → Prop) (cc : ByteArray) (nL : Nat) (own : String) (D : va_G) (cl : List vw_C) (tys : List (ClassId × FieldType)) (sh : mSh) (nm : Nat → Nat) (cs : List (Nat × Nat)) (cA : Nat → ClassId) (ad : Nat → Nat → Nat) (A : Nat → Prop)
    (T : List (Nat × mIn)) (gl pl : List (Nat × Nat × Nat)) (gs : List (Nat × mV)) (fe : List (Nat × List Int32)) (sm : List Int32) (ct : List (Nat × Nat × Nat × mFn)) (sp : List (Nat × Nat)) (rk : Nat) (res : mRes) : Prop :=
  (p.tables.exec = Jvm.exec ∧ c.code = cc ∧ c.maxLocals = nL ∧ s.vm.findClass own = some m.cls ∧ meth.locks = false) ∧
  (∀ pc i, mlk T pc = some i → decode cc pc = .ok (i.1, i.2.1) ∧ i.2.2.1 = pc + i.2.1 ∧ mOk nL pc i = true) ∧
  (va_K D cl tys s ∧ tys[0]? = some (cA 0, .int) ∧ tys[1]? = some (cA 1, .boolean) ∧ ∃ FC, tys[2]? = some (cA 2, .object FC)) ∧
  mShOk cl sh nm cs ∧
  (∀ idx ci k, mlk gl idx = some (ci, k) → mFldOk own cl args s idx ci k) ∧
  (∀ idx ci k, mlk pl idx = some (ci, k) → mPutOk own cl args s idx ci k) ∧
  (∀ idx v, mlk gs idx = some v → mokV nm v ∧ ∀ pc ls H locs rest, decode cc pc = .ok (.getstatic idx, 3) → va_S A s.heap H locs → mWk p l e R s m args below meth c Qc A H locs (pc + 3) ls (mcv ad v :: rest) → mWk p l e R s m args below meth c Qc A H locs pc ls rest) ∧
  (∀ idx vs, mlk fe idx = some vs → ∀ j pc ls H locs rest, j < nm 100 → decode cc pc = .ok (.getfield idx, 3) → va_S A s.heap H locs → mWk p l e R s m args below meth c Qc A H locs (pc + 3) ls (.int (vs.getD j 0) :: rest) → mWk p l e R s m args below meth c Qc A H locs pc ls (.ref (ad 100 j) :: rest)) ∧
  (∀ x j pc ls H locs rest, j < nm 102 → inB x sm.length → decode cc pc = .ok (.iaload, 1) → va_S A s.heap H locs → mWk p l e R s m args below meth c Qc A H locs (pc + 1) ls (.int (sm.getD x.toNatClampNeg 0) :: rest) → mWk p l e R s m args below meth c Qc A H locs pc ls (.int x :: .ref (ad 102 j) :: rest)) ∧
  (∀ x j pc ls H locs rest, j < nm 101 → inB x (nm 100) → decode cc pc = .ok (.aaload, 1) → va_S A s.heap H locs → mWk p l e R s m args below meth c Qc A H locs (pc + 1) ls (.ref (ad 100 x.toNatClampNeg) :: rest) → mWk p l e R s m args below meth c Qc A H locs pc ls (.int x :: .ref (ad 101 j) :: rest)) ∧
  (∀ j pc ls H locs rest, j < nm 101 → decode cc pc = .ok (.arraylength, 1) → va_S A s.heap H locs → mWk p l e R s m args below meth c Qc A H locs (pc + 1) ls (.int (nI (nm 100)) :: rest) → mWk p l e R s m args below meth c Qc A H locs pc ls (.ref (ad 101 j) :: rest)) ∧
  (∀ i j, i < nm 100 → j < nm 100 → ad 100 i = ad 100 j → i = j) ∧
  (∀ idx q, mlk ct idx = some q → mCallOk p l e R s m args below meth c Qc cc nL D cl sh nm cs cA ad A idx q.1 q.2.1 q.2.2) ∧
  (∀ idx n, mlk sp idx = some n → mSpOk R s args own idx n) ∧
  mRtOk meth rk ∧
  (∀ (H : Heap) (locs : List Loc), mHp D cl sh cA ad cs A s.heap res.2 H locs → (∀ v, res.1 = some v → mokV nm v) → ∀ t : State, t.heap = H → s.WarmedH t.vm → Qc args s (.returned (res.1.map (mcv ad))) t)
/-- a place of the memory's world, read and written -/
theorem mHp.at {H : Heap} {locs : List Loc} {g : mG} {a j : Nat} (_h : mHp D cl sh cA ad cs A s.heap g H locs) (hm : (a, j) ∈ cs) : ∃ q0 : Nat, cs[q0]? = some (a, j) ∧ (mWd sh cA ad cs g)[q0]? = some (ad a j, mEn sh cA ad g a j) := by
  obtain ⟨q0, h0⟩ := List.getElem?_of_mem hm
  exact ⟨q0, h0, mWd_get h0⟩
theorem mHp.wr {H1 : Heap} {locs1 : List Loc} {g g' : mG} {a j q0 : Nat} {x : va_E} (hnd : mnd cs = true) (h0 : cs[q0]? = some (a, j)) (hg : ∀ a' j', ¬ (a' = a ∧ j' = j) → g' a' j' = g a' j') (hx : x = mEn sh cA ad g' a j)
    (hP : va_P D cl ((mWd sh cA ad cs g).set q0 (ad a j, x)) H1) (hD : va_D A ((mWd sh cA ad cs g).set q0 (ad a j, x))) (hS : va_S A s.heap H1 locs1) : mHp D cl sh cA ad cs A s.heap g' H1 locs1 := by
  rw [mWd_set hnd h0 hg hx] at hP hD
  exact ⟨hP, hD, hS⟩
theorem mSw_in {β : Type} {f : Nat → Option β} {d pc : Nat} {x : Int32} {r : β} : ∀ (sw : List (Int32 × Nat)) (offs : List Int) (lo : Int), mSwOk pc offs lo sw = true → swK x f d sw = some r →
    ((x.toInt < lo ∨ lo + (sw.length : Int) - 1 < x.toInt) ∧ f d = some r) ∨ (¬ x.toInt < lo ∧ ¬ lo + (sw.length : Int) - 1 < x.toInt ∧ ∃ off tgt, offs[(x.toInt - lo).toNat]? = some off ∧ (pc : Int) + off = ((tgt : Nat) : Int) ∧ f tgt = some r)
  | [], offs, lo, _, h => by
    left
    refine ⟨?_, h⟩
    simp only [List.length_nil]
    omega
  | q :: t, [], lo, hk, h => by
    simp [mSwOk] at hk
  | q :: t, o :: os, lo, hk, h => by
    simp only [mSwOk, Bool.and_eq_true, decide_eq_true_eq] at hk
    obtain ⟨h1, h2, h3⟩ := hk
    unfold swK at h
    by_cases hx : x = q.1
    · rw [if_pos hx] at h
      right
      have hlo : x.toInt = lo := by rw [hx]; exact h1
      refine ⟨by omega, by simp only [List.length_cons]; omega, o, q.2, ?_, h2, h⟩
      rw [hlo, Int.sub_self]
      rfl
    · rw [if_neg hx] at h
      have hne : ¬ x.toInt = lo := fun z => hx (Int32.toInt_inj.mp (by rw [h1]; exact z))
      rcases mSw_in t os (lo + 1) h3 h with ⟨h4, h5⟩ | ⟨h4, h5, off, tgt, h6, h7, h8⟩
      · left
        refine ⟨?_, h5⟩
        simp only [List.length_cons]
        omega
      · right
        refine ⟨by omega, by simp only [List.length_cons]; omega, off, tgt, ?_, h7, h8⟩
        rw [show (x.toInt - lo).toNat = (x.toInt - (lo + 1)).toNat + 1 by omega, List.getElem?_cons_succ]
        exact h6
theorem mLk_in {β : Type} {f : Nat → Option β} {d pc : Nat} {dflt : Int} {x : Int32} {r : β} (hd : (pc : Int) + dflt = (d : Int)) : ∀ (sw : List (Int32 × Nat)) (ps : List (Int × Int)), mLkOk pc ps sw = true → swK x f d sw = some r →
    ∃ tgt : Nat, (pc : Int) + Op.lookupswitch.offset ps dflt x.toInt = (tgt : Int) ∧ f tgt = some r
  | [], [], _, h => ⟨d, by simpa [Op.lookupswitch.offset] using hd, h⟩
  | [], o :: os, hk, _ => by simp [mLkOk] at hk
  | q :: t, [], hk, _ => by simp [mLkOk] at hk
  | q :: t, o :: os, hk, h => by
    simp only [mLkOk, Bool.and_eq_true, decide_eq_true_eq] at hk
    obtain ⟨h1, h2, h3⟩ := hk
    obtain ⟨o1, o2⟩ := o
    dsimp only at h1 h2
    unfold swK at h
    by_cases hx : x = q.1
    · rw [if_pos hx] at h
      refine ⟨q.2, ?_, h⟩
      rw [Op.lookupswitch.offset_cons, if_pos (by rw [hx]; exact h1.symm)]
      exact h2
    · rw [if_neg hx] at h
      obtain ⟨tgt, h4, h5⟩ := mLk_in hd t os h3 h
      refine ⟨tgt, ?_, h5⟩
      rw [lv_osw hx h1]
      exact h4
end MSIM
