/-! the world that a memory stands for -/
def mcv (ad : Nat → Nat → Nat) (v : mV) : Value := match v with
  | .inl x => .int x
  | .inr q => .ref (ad q.1 q.2)
theorem mcv_cat (ad : Nat → Nat → Nat) (v : mV) : (mcv ad v).category = 1 := by
  cases v <;> rfl
def mokV (nm : Nat → Nat) (v : mV) : Prop := match v with
  | .inl _ => True
  | .inr q => q.2 < nm q.1
def mokS (nm : Nat → Nat) (S : List mV) : Prop := ∀ v, v ∈ S → mokV nm v
def mokL (nm : Nat → Nat) (L : mL) : Prop := ∀ (i : Nat) (v : mV), L[i]? = some (some v) → mokV nm v
theorem mokS.cons {nm : Nat → Nat} {S : List mV} {v : mV} (hv : mokV nm v) (h : mokS nm S) : mokS nm (v :: S) := by
  intro w hw
  rcases List.mem_cons.mp hw with e | e
  · rw [e]; exact hv
  · exact h w e
theorem mokS.int {nm : Nat → Nat} {S : List mV} (x : Int32) (h : mokS nm S) : mokS nm (.inl x :: S) := mokS.cons trivial h
theorem mokS.tl {nm : Nat → Nat} {S : List mV} {v : mV} (h : mokS nm (v :: S)) : mokS nm S := fun w hw => h w (List.mem_cons_of_mem _ hw)
theorem mokS.hd {nm : Nat → Nat} {S : List mV} {v : mV} (h : mokS nm (v :: S)) : mokV nm v := h v List.mem_cons_self
theorem mokL.set {nm : Nat → Nat} {L : mL} {j : Nat} {v : mV} (hv : mokV nm v) (h : mokL nm L) : mokL nm (L.set j (some v)) := by
  intro i w hw
  rw [List.getElem?_set] at hw
  split at hw
  · split at hw
    · cases hw; exact hv
    · cases hw
  · exact h i w hw
def mHL (ad : Nat → Nat → Nat) (ls : Array Slot) (nL : Nat) (L : mL) : Prop := ls.size = nL ∧ lv_wf ls ∧ ∀ (i : Nat) (v : mV), L[i]? = some (some v) → ls[i]? = some (.val (mcv ad v))
def mlvs (ad : Nat → Nat → Nat) (L : mL) : List (Nat × Value) := (List.range L.length).filterMap fun i => match L[i]? with
  | some (some v) => some (i, mcv ad v)
  | _ => none
theorem mlvs_mem {ad : Nat → Nat → Nat} {L : mL} {q : Nat × Value} : q ∈ mlvs ad L ↔ ∃ v, L[q.1]? = some (some v) ∧ q.2 = mcv ad v := by
  obtain ⟨i, x⟩ := q
  unfold mlvs
  rw [List.mem_filterMap]
  constructor
  · rintro ⟨j, -, h⟩
    split at h
    · next v hv =>
      cases h
      exact ⟨v, hv, rfl⟩
    · cases h
  · rintro ⟨v, hv, e⟩
    refine ⟨i, List.mem_range.mpr (List.getElem?_eq_some_iff.mp hv).1, ?_⟩
    dsimp only at hv e
    rw [hv, e]
theorem mHL.to {ad : Nat → Nat → Nat} {ls : Array Slot} {nL : Nat} {L : mL} (h : mHL ad ls nL L) : lv_has ls nL (mlvs ad L) := by
  refine ⟨h.1, h.2.1, fun q hq => ?_⟩
  obtain ⟨v, h1, h2⟩ := mlvs_mem.mp hq
  rw [h2]
  exact h.2.2 q.1 v h1
theorem mHL.set {ad : Nat → Nat → Nat} {ls : Array Slot} {nL j : Nat} {L : mL} {v : mV} (h : lv_has ls nL ((j, mcv ad v) :: (mlvs ad L).filter (fun q => !(q.1 == j) && !(q.1 + 1 == j && q.2.category == 2)))) : mHL ad ls nL (L.set j (some v)) := by
  refine ⟨h.1, h.2.1, fun i w hw => ?_⟩
  rw [List.getElem?_set] at hw
  split at hw
  · next e =>
    subst e
    split at hw
    · cases hw
      exact h.2.2 (j, mcv ad v) List.mem_cons_self
    · cases hw
  · next e =>
    refine h.2.2 (i, mcv ad w) (List.mem_cons_of_mem _ (List.mem_filter.mpr ⟨mlvs_mem.mpr ⟨w, hw, rfl⟩, ?_⟩))
    have h1 : ¬ i = j := fun q => e q.symm
    simp [h1, mcv_cat]
/-- a slot's value, a cell, the world -/
def mEl (ad : Nat → Nat → Nat) (g : mG) (a j k kd : Nat) : Value := match kd with
  | 0 => .int (g a j k)
  | 1 => .int (g a j k)
  | 2 => .ref (ad 10 (g a j k).toNatClampNeg)
  | b + 3 => .ref (ad b j)
def mEn (sh : mSh) (cA : Nat → ClassId) (ad : Nat → Nat → Nat) (g : mG) (a j : Nat) : va_E := match sh a with
  | some (.inl q) => .inr (q.1, q.2.mapIdx (fun k kd => mEl ad g a j k kd))
  | some (.inr q) => if q.2 = 2 then .inl (cA 2, q.1, .inr (.inr (.inr (.inr (fun k => some (ad 10 (g a j k).toNatClampNeg)))))) else .inl (cA q.2, q.1, .inl (g a j))
  | none => .inr (0, [])
def mWd (sh : mSh) (cA : Nat → ClassId) (ad : Nat → Nat → Nat) (cs : List (Nat × Nat)) (g : mG) : va_W := cs.map fun c => (ad c.1 c.2, mEn sh cA ad g c.1 c.2)
def mnd : List (Nat × Nat) → Bool
  | [] => true
  | a :: l => decide (a ∉ l) && mnd l
theorem mnd_inj : ∀ (l : List (Nat × Nat)), mnd l = true → ∀ (i j : Nat) (a : Nat × Nat), l[i]? = some a → l[j]? = some a → i = j
  | [], _, i, j, a, h, _ => by simp at h
  | b :: l, hn, i, j, a, h1, h2 => by
    simp only [mnd, Bool.and_eq_true, decide_eq_true_eq] at hn
    cases i with
    | zero =>
      cases j with
      | zero => rfl
      | succ j =>
        rw [List.getElem?_cons_zero] at h1
        rw [List.getElem?_cons_succ] at h2
        cases h1
        exact absurd (List.mem_of_getElem? h2) hn.1
    | succ i =>
      rw [List.getElem?_cons_succ] at h1
      cases j with
      | zero =>
        rw [List.getElem?_cons_zero] at h2
        cases h2
        exact absurd (List.mem_of_getElem? h1) hn.1
      | succ j =>
        rw [List.getElem?_cons_succ] at h2
        rw [mnd_inj l hn.2 i j a h1 h2]
theorem mEl_congr {ad : Nat → Nat → Nat} {g g' : mG} {a j k kd : Nat} (h : g' a j k = g a j k) : mEl ad g' a j k kd = mEl ad g a j k kd := by
  unfold mEl
  split <;> simp only [h]
theorem mEn_congr {sh : mSh} {cA : Nat → ClassId} {ad : Nat → Nat → Nat} {g g' : mG} {a j : Nat} (h : g' a j = g a j) : mEn sh cA ad g' a j = mEn sh cA ad g a j := by
  unfold mEn
  split
  · congr 3
    funext k kd
    exact mEl_congr (congrFun h k)
  · simp only [h]
  · rfl
section MW
variable {sh : mSh} {cA : Nat → ClassId} {ad : Nat → Nat → Nat} {cs : List (Nat × Nat)} {g g' : mG} {a j q0 : Nat}
theorem mWd_get (h : cs[q0]? = some (a, j)) : (mWd sh cA ad cs g)[q0]? = some (ad a j, mEn sh cA ad g a j) := by
  unfold mWd
  rw [List.getElem?_map, h]
  rfl
theorem mWd_set (hnd : mnd cs = true) (h : cs[q0]? = some (a, j)) (hg : ∀ a' j', ¬ (a' = a ∧ j' = j) → g' a' j' = g a' j') {x : va_E} (hx : x = mEn sh cA ad g' a j) :
    (mWd sh cA ad cs g).set q0 (ad a j, x) = mWd sh cA ad cs g' := by
  apply List.ext_getElem?
  intro n
  by_cases hn : n = q0
  · subst hn
    have hl : n < (mWd sh cA ad cs g).length := by
      unfold mWd
      rw [List.length_map]
      exact (List.getElem?_eq_some_iff.mp h).1
    rw [List.getElem?_set_self hl, mWd_get h, hx]
  · rw [List.getElem?_set_ne (Ne.symm hn)]
    unfold mWd
    rw [List.getElem?_map, List.getElem?_map]
    cases hc : cs[n]? with
    | none => rfl
    | some q =>
      obtain ⟨a', j'⟩ := q
      have hne : ¬ (a' = a ∧ j' = j) := by
        rintro ⟨rfl, rfl⟩
        exact hn (mnd_inj cs hnd n q0 _ hc h)
      show some (ad a' j', mEn sh cA ad g a' j') = some (ad a' j', mEn sh cA ad g' a' j')
      rw [mEn_congr (hg a' j' hne)]
theorem mEn_obj {ci : Nat} {ks : List Nat} (h : sh a = some (.inl (ci, ks))) : mEn sh cA ad g a j = .inr (ci, ks.mapIdx (fun k kd => mEl ad g a j k kd)) := by
  unfold mEn
  rw [h]
theorem mEn_arr {len t : Nat} (h : sh a = some (.inr (len, t))) (ht : t ≠ 2) : mEn sh cA ad g a j = .inl (cA t, len, .inl (g a j)) := by
  unfold mEn
  rw [h]
  exact if_neg ht
theorem mEn_ref {len : Nat} (h : sh a = some (.inr (len, 2))) : mEn sh cA ad g a j = .inl (cA 2, len, .inr (.inr (.inr (.inr (fun k => some (ad 10 (g a j k).toNatClampNeg)))))) := by
  unfold mEn
  rw [h]
  exact if_pos rfl
theorem mEn_slot {ks : List Nat} {k kd : Nat} (h : ks[k]? = some kd) : (ks.mapIdx (fun k kd => mEl ad g a j k kd))[k]? = some (mEl ad g a j k kd) := by
  rw [List.getElem?_mapIdx, h]
  rfl
theorem st3_ne {a' j' k : Nat} {x : Int32} (h : ¬ (a' = a ∧ j' = j)) : st3 g a j k x a' j' = g a' j' := by
  funext k'
  unfold st3
  exact if_neg fun q => h ⟨q.1, q.2.2⟩
theorem st3_row {k : Nat} {x : Int32} : st3 g a j k x a j = upd (g a j) k x := by
  funext k'
  unfold st3 upd
  by_cases h : k' = k
  · rw [if_pos ⟨rfl, h, rfl⟩, if_pos h]
  · rw [if_neg (fun q => h q.2.1), if_neg h]
theorem stR_ne {a' j' : Nat} {f : Nat → Int32} (h : ¬ (a' = a ∧ j' = j)) : stR g a j f a' j' = g a' j' := by
  unfold stR
  exact if_neg h
theorem stR_row {f : Nat → Int32} : stR g a j f a j = f := by
  unfold stR
  exact if_pos ⟨rfl, rfl⟩
/-- a written slot -/
theorem mEn_put {ci : Nat} {ks : List Nat} {k kd : Nat} {x : Int32} {v : Value} (h : sh a = some (.inl (ci, ks))) (hk : ks[k]? = some kd) (hv : mEl ad (st3 g a j k x) a j k kd = v) :
    (.inr (ci, (ks.mapIdx (fun k kd => mEl ad g a j k kd)).set k v) : va_E) = mEn sh cA ad (st3 g a j k x) a j := by
  rw [mEn_obj h]
  congr 2
  apply List.ext_getElem?
  intro n
  by_cases hn : n = k
  · subst hn
    rw [List.getElem?_set_self (by rw [List.length_mapIdx]; exact (List.getElem?_eq_some_iff.mp hk).1), List.getElem?_mapIdx, hk, ← hv]
    rfl
  · rw [List.getElem?_set_ne (Ne.symm hn), List.getElem?_mapIdx, List.getElem?_mapIdx]
    cases hc : ks[n]? with
    | none => rfl
    | some kd' =>
      show some (mEl ad g a j n kd') = some (mEl ad (st3 g a j k x) a j n kd')
      rw [mEl_congr (g := g) (g' := st3 g a j k x) (show (if a = a ∧ n = k ∧ j = j then x else g a j n) = g a j n from if_neg fun (q : a = a ∧ n = k ∧ j = j) => hn q.2.1)]
end MW
/-- the heap holds the memory; nothing outside has changed -/
def mHp (D : va_G) (cl : List vw_C) (sh : mSh) (cA : Nat → ClassId) (ad : Nat → Nat → Nat) (cs : List (Nat × Nat)) (A : Nat → Prop) (H0 : Heap) (g : mG) (H : Heap) (locs : List Loc) : Prop :=
  va_P D cl (mWd sh cA ad cs g) H ∧ va_D A (mWd sh cA ad cs g) ∧ va_S A H0 H locs
/-- the addresses are the same for every memory -/
theorem mWd_D {sh : mSh} {cA : Nat → ClassId} {ad : Nat → Nat → Nat} {cs : List (Nat × Nat)} {A : Nat → Prop} {g g' : mG} (h : va_D A (mWd sh cA ad cs g)) : va_D A (mWd sh cA ad cs g') := by
  have key : ∀ (k : Nat) (q : Nat × va_E), (mWd sh cA ad cs g')[k]? = some q → ∃ x, (mWd sh cA ad cs g)[k]? = some (q.1, x) := by
    intro k q hq
    unfold mWd at hq ⊢
    rw [List.getElem?_map] at hq ⊢
    cases hc : cs[k]? with
    | none => rw [hc] at hq; cases hq
    | some c =>
      rw [hc] at hq
      cases hq
      exact ⟨_, rfl⟩
  refine ⟨fun i j p q hi hj e => ?_, fun k q hk => ?_⟩
  · obtain ⟨x, hx⟩ := key i p hi
    obtain ⟨y, hy⟩ := key j q hj
    exact h.1 i j _ _ hx hy e
  · obtain ⟨x, hx⟩ := key k q hk
    exact h.2 k (q.1, x) hx
