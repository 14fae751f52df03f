/-! calls out of the law: two worlds side by side -/
section LAW
variable {p : Program} {l : Launch} {e : Env} {R : Room} {s : State} {m : MethodId} {args : Array Value} {below : List Frame} {meth : Method} {c : Code} {H : Heap} {locs : List Loc} {cells slots : Nat} {Q : State → Prop}
variable {cc : ByteArray} {pc nL : Nat} {ls : Array Slot} {rest : List Value} {D : va_G} {cA : Nat → ClassId} {ad : Nat → Nat → Nat} {A1 : Nat → Prop} {sh : mSh} {nm : Nat → Nat} {cs : List (Nat × Nat)} {St : State → Prop} {own : String} {c0 : Cond}
theorem lawGo {g' : mG} {v : Int32} {st0 : List Value} {av : Array Value} (hr : va_Run p l e R s m args below meth c H locs cells slots 0 0 (F0 m pc ls st0) rest (mQc D clA sh nm cs cA ad A1 (some (.inl v)) g' av) A1)
    (kk : ∀ (H1 : Heap) (locs1 : List Loc), va_P D clA (mWd sh cA ad cs g') H1 → H.size ≤ H1.size → (∀ q : Nat, q < H.size → ¬ A1 q → H1[q]? = H[q]?) → (∀ x ∈ locs1, x ∈ locs ∨ A1 x.base) → W p l e R s m args below meth c H1 locs1 cells slots Q (F0 m (pc + 3) ls (.int v :: rest))) : W p l e R s m args below meth c H locs cells slots Q (F0 m pc ls st0) := by
  intro T hT X
  obtain ⟨v', st₀, t, T', L, h0, X', hL, e1, e2, ⟨hv, hok, hP, hz, hkp⟩, st⟩ := hr T hT X
  cases hv
  rw [h0] at hz hkp
  obtain ⟨t2, a1, b1⟩ := kk T'.heap (locs ++ L) (by rw [e1]; exact hP) (by rw [e1]; exact hz) (fun q h1 h2 => by rw [e1]; exact hkp q h1 h2) (fun q hq => by
      rcases List.mem_append.mp hq with h | h
      · exact Or.inl h
      · exact Or.inr (hL q h)) T' rfl X'
  exact ⟨t2, st t2 a1, b1⟩
theorem lawCall {y : MethodName} {rm : Room} {F : mFn} {bytes : ByteArray} {maxL n idx : Nat} {ret : Option FieldType} {g g' : mG} {v : Int32} {As : List Int32}
    (hSt : mStable A1 St) (S : CallFix p m c cc nL s args (c0 :: mTb) own) (hK : va_K D clA (mTys cA) s) (hS : St s)
    (m1 : Cond.methodLink own idx y ∈ mTb) (m2 : Cond.instanceMethod y ∈ mTb) (m3 : Cond.selects y.cls y y ∈ mTb) (m4 : Cond.initialized y.cls ∈ mTb) (m5 : Cond.code y bytes maxL ret ∈ mTb)
    (hM : mCt l D clA (mTys cA) sh nm cs cA ad A1 St y (mWs y bytes maxL ret) rm F) (hrm : rm.cells = 0 ∧ rm.slots = 0) (hd : y.cls ≠ "java/lang/invoke/MethodHandle" ∧ y.cls ≠ "java/lang/invoke/VarHandle" ∧ (parseMethodDescriptor y.desc).map (fun d => d.parameters.length) = some n) (hR : rm.frames + 1 ≤ R.frames ∧ 8 + (maxL + 11) + rm.locals ≤ R.locals)
    (hre : mRecv s D clA sh nm cs cA ad A1 y.cls F)
    (hP : va_P D clA (mWd sh cA ad cs g) H) (hD : va_D A1 (mWd sh cA ad cs g)) (hz : s.heap.size ≤ H.size) (hq : ∀ q : Nat, q < s.heap.size → H[q]? = s.heap[q]?)
    (hF : mFres F (.inr (0, 0) :: As.map .inl) g = some (some (.inl v), g')) (hn : As.length = n) (h0 : 0 < nm 0) (hsz : ls.size = nL) (hrest : (rest.map fun v => v.category).sum ≤ 8) (hdg : decode cc pc = .ok (.invokevirtual idx, 3)) (hf : cells ≤ R.cells ∧ slots ≤ R.slots)
    (kk : ∀ (H1 : Heap) (locs1 : List Loc), va_P D clA (mWd sh cA ad cs g') H1 → H.size ≤ H1.size → (∀ q : Nat, q < H.size → ¬ A1 q → H1[q]? = H[q]?) → (∀ x ∈ locs1, x ∈ locs ∨ A1 x.base) → W p l e R s m args below meth c H1 locs1 cells slots Q (F0 m (pc + 3) ls (.int v :: rest))) :
    W p l e R s m args below meth c H locs cells slots Q (F0 m pc ls (((As.map (Sum.inl : Int32 → mV)).map (mcv ad)).reverse ++ .ref (ad 0 0) :: rest)) := by
  have hH : mHp D clA sh cA ad cs A1 s.heap g H [] := ⟨hP, hD, hz, fun q h1 _ => hq q h1, fun _ h => absurd h List.not_mem_nil⟩
  have hok : mokS nm (.inr (0, 0) :: As.map (Sum.inl : Int32 → mV)) := mokS.cons h0 (fun w hw => by
    obtain ⟨x, -, rfl⟩ := List.mem_map.mp hw
    trivial)
  obtain ⟨b, As', hAs, hcell⟩ := hre _ g H [] _ hH hok hF
  obtain ⟨h1, rfl⟩ := List.cons.inj hAs
  obtain rfl := Sum.inr.inj h1
  exact lawGo (va_runV (As := (As.map (Sum.inl : Int32 → mV)).map (mcv ad)) (rest := rest) (b := ad 0 0) S (hM _ g g' _ hok hF) (cwV n S.2.2.2.2 (goodIn_two (mGoodT (List.forall_mem_cons.mpr ⟨m1, List.forall_mem_cons.mpr ⟨m2, List.forall_mem_cons.mpr ⟨m3, List.forall_mem_cons.mpr ⟨m4, fun _ h => absurd h List.not_mem_nil⟩⟩⟩⟩)) (mGoodW m5)) rfl hrm.1 hrm.2 ⟨rfl, hd⟩ hR) ⟨mPc.blind hSt, hcell, mPc.pre hSt hK hS hH⟩ rfl (by rw [List.length_map, List.length_map]; exact hn) hsz rfl (lv_room hrest) hdg hf) kk
end LAW
/-- the addresses of a world -/
def aOf (sh : mSh) (cA : Nat → ClassId) (ad : Nat → Nat → Nat) (cs : List (Nat × Nat)) : Nat → Prop := fun q => ∃ c, c ∈ cs ∧ ad c.1 c.2 = q
theorem mWd_ad {sh : mSh} {cA : Nat → ClassId} {ad : Nat → Nat → Nat} {cs : List (Nat × Nat)} {g : mG} {k : Nat} {q : Nat × va_E} (h : (mWd sh cA ad cs g)[k]? = some q) : ∃ c, cs[k]? = some c ∧ ad c.1 c.2 = q.1 := by
  unfold mWd at h
  rw [List.getElem?_map] at h
  cases hc : cs[k]? with
  | none => rw [hc] at h; cases h
  | some c => rw [hc] at h; cases h; exact ⟨c, rfl, rfl⟩
theorem mWd_at {sh : mSh} {cA : Nat → ClassId} {ad : Nat → Nat → Nat} {cs : List (Nat × Nat)} {g : mG} {k : Nat} {c : Nat × Nat} (h : cs[k]? = some c) : ∃ x, (mWd sh cA ad cs g)[k]? = some (ad c.1 c.2, x) := by
  unfold mWd
  rw [List.getElem?_map, h]
  exact ⟨_, rfl⟩
/-- two worlds that lie apart, in A -/
def Ap (ad adr : Nat → Nat → Nat) (A : Nat → Prop) : Prop := (∀ (i j : Nat) (c d : Nat × Nat), csC[i]? = some c → csC[j]? = some d → ad c.1 c.2 = ad d.1 d.2 → i = j) ∧ (∀ (i j : Nat) (c d : Nat × Nat), csR[i]? = some c → csR[j]? = some d → adr c.1 c.2 = adr d.1 d.2 → i = j) ∧ (∀ c d, c ∈ csC → d ∈ csR → ad c.1 c.2 ≠ adr d.1 d.2) ∧ (∀ c, c ∈ csC → A (ad c.1 c.2)) ∧ (∀ c, c ∈ csR → A (adr c.1 c.2))
theorem Ap.of {ad adr : Nat → Nat → Nat} {A : Nat → Prop} {cA : Nat → ClassId} {g r : mG} (h : va_D A (mWd shC cA ad csC g ++ mWd shR cA adr csR r)) : Ap ad adr A := by
  have hl : (mWd shC cA ad csC g).length = csC.length := by unfold mWd; rw [List.length_map]
  have hC : ∀ {k : Nat} {c : Nat × Nat}, csC[k]? = some c → ∃ x, (mWd shC cA ad csC g ++ mWd shR cA adr csR r)[k]? = some (ad c.1 c.2, x) := by
    intro k c hk
    obtain ⟨x, hx⟩ := mWd_at (sh := shC) (cA := cA) (ad := ad) (g := g) hk
    exact ⟨x, by rw [List.getElem?_append_left (List.getElem?_eq_some_iff.mp hx).1]; exact hx⟩
  have hR : ∀ {k : Nat} {c : Nat × Nat}, csR[k]? = some c → ∃ x, (mWd shC cA ad csC g ++ mWd shR cA adr csR r)[csC.length + k]? = some (adr c.1 c.2, x) := by
    intro k c hk
    obtain ⟨x, hx⟩ := mWd_at (sh := shR) (cA := cA) (ad := adr) (g := r) hk
    exact ⟨x, by rw [List.getElem?_append_right (by omega), hl, Nat.add_sub_cancel_left]; exact hx⟩
  refine ⟨fun i j c d hi hj e => ?_, fun i j c d hi hj e => ?_, fun c d hc hd e => ?_, fun c hc => ?_, fun c hc => ?_⟩
  · obtain ⟨x, hx⟩ := hC hi
    obtain ⟨y, hy⟩ := hC hj
    exact h.1 i j _ _ hx hy e
  · obtain ⟨x, hx⟩ := hR hi
    obtain ⟨y, hy⟩ := hR hj
    have := h.1 _ _ _ _ hx hy e
    omega
  · obtain ⟨i, hi⟩ := List.getElem?_of_mem hc
    obtain ⟨j, hj⟩ := List.getElem?_of_mem hd
    obtain ⟨x, hx⟩ := hC hi
    obtain ⟨y, hy⟩ := hR hj
    have h1 := h.1 _ _ _ _ hx hy e
    have h2 := (List.getElem?_eq_some_iff.mp hi).1
    omega
  · obtain ⟨i, hi⟩ := List.getElem?_of_mem hc
    obtain ⟨x, hx⟩ := hC hi
    exact h.2 _ _ hx
  · obtain ⟨i, hi⟩ := List.getElem?_of_mem hc
    obtain ⟨x, hx⟩ := hR hi
    exact h.2 _ _ hx
theorem Ap.C {ad adr : Nat → Nat → Nat} {A : Nat → Prop} {cA : Nat → ClassId} {g : mG} (h : Ap ad adr A) : va_D (aOf shC cA ad csC) (mWd shC cA ad csC g) := by
  refine ⟨fun i j p q hi hj e => ?_, fun k q hk => ?_⟩
  · obtain ⟨c, hc, e1⟩ := mWd_ad hi
    obtain ⟨d, hd, e2⟩ := mWd_ad hj
    exact h.1 i j c d hc hd (by rw [e1, e2]; exact e)
  · obtain ⟨c, hc, e1⟩ := mWd_ad hk
    exact ⟨c, List.mem_of_getElem? hc, e1⟩
theorem Ap.R {ad adr : Nat → Nat → Nat} {A : Nat → Prop} {cA : Nat → ClassId} {g : mG} (h : Ap ad adr A) : va_D (aOf shR cA adr csR) (mWd shR cA adr csR g) := by
  refine ⟨fun i j p q hi hj e => ?_, fun k q hk => ?_⟩
  · obtain ⟨c, hc, e1⟩ := mWd_ad hi
    obtain ⟨d, hd, e2⟩ := mWd_ad hj
    exact h.2.1 i j c d hc hd (by rw [e1, e2]; exact e)
  · obtain ⟨c, hc, e1⟩ := mWd_ad hk
    exact ⟨c, List.mem_of_getElem? hc, e1⟩
/-- the law's state between two calls -/
def LI (D : va_G) (cA : Nat → ClassId) (ad adr : Nat → Nat → Nat) (A : Nat → Prop) (H0 : Heap) (g r : mG) (H : Heap) (locs : List Loc) : Prop := va_P D clA (mWd shC cA ad csC g) H ∧ va_P D clA (mWd shR cA adr csR r) H ∧ va_S A H0 H locs
section LW
variable {p : Program} {l : Launch} {e : Env} {R : Room} {s : State} {m : MethodId} {args : Array Value} {below : List Frame} {meth : Method} {c : Code} {H : Heap} {locs : List Loc} {cells slots : Nat} {Q : State → Prop}
variable {cc : ByteArray} {pc nL : Nat} {ls : Array Slot} {rest : List Value} {D : va_G} {cA : Nat → ClassId} {ad adr : Nat → Nat → Nat} {A : Nat → Prop} {own : String} {c0 : Cond}
theorem LI.C {g r g' : mG} {H1 : Heap} {locs1 : List Loc} (h : LI D cA ad adr A s.heap g r H locs) (hA : Ap ad adr A) (h1 : va_P D clA (mWd shC cA ad csC g') H1) (h2 : H.size ≤ H1.size) (h3 : ∀ q : Nat, q < H.size → ¬ aOf shC cA ad csC q → H1[q]? = H[q]?) (h4 : ∀ x ∈ locs1, x ∈ locs ∨ aOf shC cA ad csC x.base) : LI D cA ad adr A s.heap g' r H1 locs1 := by
  refine ⟨h1, h.2.1.kept (fun k x hx => h3 x.1 (h.2.1 k x hx).lt (fun z => ?_)), Nat.le_trans h.2.2.1 h2, fun q hq hn => ?_, fun x hx => ?_⟩
  · obtain ⟨d, hd, e1⟩ := mWd_ad hx
    obtain ⟨c, hc, e2⟩ := z
    exact hA.2.2.1 c d hc (List.mem_of_getElem? hd) (by rw [e1, e2])
  · rw [h3 q (Nat.lt_of_lt_of_le hq h.2.2.1) (fun z => hn (by obtain ⟨c, hc, e2⟩ := z; rw [← e2]; exact hA.2.2.2.1 c hc))]
    exact h.2.2.2.1 q hq hn
  · rcases h4 x hx with z | ⟨c, hc, e2⟩
    · exact h.2.2.2.2 x z
    · rw [← e2]; exact hA.2.2.2.1 c hc
theorem LI.rf {g r r' : mG} {H1 : Heap} {locs1 : List Loc} (h : LI D cA ad adr A s.heap g r H locs) (hA : Ap ad adr A) (h1 : va_P D clA (mWd shR cA adr csR r') H1) (h2 : H.size ≤ H1.size) (h3 : ∀ q : Nat, q < H.size → ¬ aOf shR cA adr csR q → H1[q]? = H[q]?) (h4 : ∀ x ∈ locs1, x ∈ locs ∨ aOf shR cA adr csR x.base) : LI D cA ad adr A s.heap g r' H1 locs1 := by
  refine ⟨h.1.kept (fun k x hx => h3 x.1 (h.1 k x hx).lt (fun z => ?_)), h1, Nat.le_trans h.2.2.1 h2, fun q hq hn => ?_, fun x hx => ?_⟩
  · obtain ⟨d, hd, e1⟩ := mWd_ad hx
    obtain ⟨c, hc, e2⟩ := z
    exact hA.2.2.1 d c (List.mem_of_getElem? hd) hc (by rw [e1, e2])
  · rw [h3 q (Nat.lt_of_lt_of_le hq h.2.2.1) (fun z => hn (by obtain ⟨c, hc, e2⟩ := z; rw [← e2]; exact hA.2.2.2.2 c hc))]
    exact h.2.2.2.1 q hq hn
  · rcases h4 x hx with z | ⟨c, hc, e2⟩
    · exact h.2.2.2.2 x z
    · rw [← e2]; exact hA.2.2.2.2 c hc
end LW
