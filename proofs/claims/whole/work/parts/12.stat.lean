/-! the statics: the instructions' constants, their array, the switch's array -/
def nestC : List (String × Nat) := [("TriggerBase$Library", 33), ("TriggerBase$Instruction", 128), ("TriggerBase$Verifier", 81), ("TriggerBase$Triggers", 21), ("TriggerBase$Tables", 24), ("TriggerBase$Frame", 53)]
def StC (ad : Nat → Nat → Nat) (A : Nat → Prop) (U : State) : Prop := va_En "TriggerBase$Instruction" "LTriggerBase$Instruction;" enC efC (ad 100) A U U.heap ∧
  (va_Z "TriggerBase$Instruction" "ALL" "[LTriggerBase$Instruction;" (.ref (ad 101 0)) A U U.heap ∧ va_T (.object "TriggerBase$Instruction") (ad 101 0) 28 (fun j => .ref (ad 100 j)) A U U.heap) ∧
  (va_Z "TriggerBase$1" "$SwitchMap$TriggerBase$Instruction" "[I" (.ref (ad 102 0)) A U U.heap ∧ va_T .int (ad 102 0) 28 (fun j => .int (smC.getD j 0)) A U U.heap) ∧
  ∀ q ∈ nestC, va_Nw (.methodLinkNest q.1 q.2 yn_B_isBelow "TriggerBase") U
theorem StC_stable {ad : Nat → Nat → Nat} {A : Nat → Prop} : mStable A (StC ad A) := by
  rintro u U hh hsz hq ⟨h1, ⟨h2, h3⟩, ⟨h4, h5⟩, h6⟩
  have hvm : u.vm.Alike U.vm := by
    rcases hh with h | h
    · exact h.alike
    · rw [h]; exact Vm.Alike.refl _
  refine ⟨(va_En.moved hvm h1).kept hq, ⟨(va_Z.moved hvm h2).kept hq, (va_T.moved hvm h3).kept hq⟩, ⟨(va_Z.moved hvm h4).kept hq, (va_T.moved hvm h5).kept hq⟩, fun q h9 => ?_⟩
  rcases hh with h | h
  · exact va_Nw.warmM h (h6 q h9)
  · exact va_Nw.same rfl h (h6 q h9)
theorem StR_stable {A : Nat → Prop} : mStable A (fun _ => True) := fun _ _ _ _ _ _ => trivial
section STAT
variable {p : Program} {l : Launch} {e : Env} {R : Room} {s : State} {m : MethodId} {args : Array Value} {below : List Frame} {meth : Method} {c : Code} {Qc : Array Value → State → Outcome → State → Prop} {cc : ByteArray} {ad : Nat → Nat → Nat} {A : Nat → Prop}
variable {D : va_G} {cl : List vw_C} {sh : mSh} {cs : List (Nat × Nat)} {cA : Nat → ClassId} {F : mFn}
theorem smr (hx : p.tables.exec = Jvm.exec) (hb : c.code = cc) (hS : StC ad A s) : ∀ x j pc ls H locs rest, j < nmC 102 → inB x smC.length → decode cc pc = .ok (.iaload, 1) → va_S A s.heap H locs → mWk p l e R s m args below meth c Qc A H locs (pc + 1) ls (.int (smC.getD x.toNatClampNeg 0) :: rest) → mWk p l e R s m args below meth c Qc A H locs pc ls (.int x :: .ref (ad 102 j) :: rest) := by
  intro x j pc ls H locs rest hj hB hd hV kk
  have e : j = 0 := Nat.lt_one_iff.mp hj
  subst e
  exact va_ti hx hb hS.2.2.1.2 hV (inB_in hB) rfl hd kk
theorem alr (hx : p.tables.exec = Jvm.exec) (hb : c.code = cc) (hS : StC ad A s) : ∀ x j pc ls H locs rest, j < nmC 101 → inB x (nmC 100) → decode cc pc = .ok (.aaload, 1) → va_S A s.heap H locs → mWk p l e R s m args below meth c Qc A H locs (pc + 1) ls (.ref (ad 100 x.toNatClampNeg) :: rest) → mWk p l e R s m args below meth c Qc A H locs pc ls (.int x :: .ref (ad 101 j) :: rest) := by
  intro x j pc ls H locs rest hj hB hd hV kk
  have e : j = 0 := Nat.lt_one_iff.mp hj
  subst e
  exact vb_tq hx hb hS.2.1.2 hV (inB_in hB) rfl hd kk
theorem lnr (hx : p.tables.exec = Jvm.exec) (hb : c.code = cc) (hS : StC ad A s) : ∀ j pc ls H locs rest, j < nmC 101 → decode cc pc = .ok (.arraylength, 1) → va_S A s.heap H locs → mWk p l e R s m args below meth c Qc A H locs (pc + 1) ls (.int (nI (nmC 100)) :: rest) → mWk p l e R s m args below meth c Qc A H locs pc ls (.ref (ad 101 j) :: rest) := by
  intro j pc ls H locs rest hj hd hV kk
  have e : j = 0 := Nat.lt_one_iff.mp hj
  subst e
  exact va_tlen hx hb hS.2.1.2 hV rfl hd kk
theorem recvI (hS : StC ad A s) (hF : ∀ As g r, mFres F As g = some r → mHd (some 100) As = true) : mRecv s D cl sh nmC cs cA ad A "TriggerBase$Instruction" F := by
  intro As g H locs r hH hok hFr
  obtain ⟨j, rest, rfl⟩ := mHd_inv (hF As g r hFr)
  exact ⟨(100, j), rest, rfl, va_recvE hS.1 hok.hd hH.2.2⟩
end STAT
