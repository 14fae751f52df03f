/-! more fuel gives the same; a run without a bound on its fuel -/
abbrev mMo (k k' : mK) (r : mRes) : Prop := ∀ (pc : Nat) (L : mL) (S : List mV) (g : mG), k pc L S g = some r → k' pc L S g = some r
theorem pI_mo {β : Type} {S : List mV} {f f' : Int32 → List mV → Option β} {r : β} (h : ∀ x S', f x S' = some r → f' x S' = some r) (h0 : pI S f = some r) : pI S f' = some r := by
  obtain ⟨x, S', rfl, h1⟩ := pI_inv h0
  exact h x S' h1
theorem pR_mo {β : Type} {S : List mV} {f f' : Nat → Nat → List mV → Option β} {r : β} (h : ∀ a j S', f a j S' = some r → f' a j S' = some r) (h0 : pR S f = some r) : pR S f' = some r := by
  obtain ⟨a, j, S', rfl, h1⟩ := pR_inv h0
  exact h a j S' h1
theorem pA_mo {β : Type} {S : List mV} {f f' : mV → List mV → Option β} {r : β} (h : ∀ x S', f x S' = some r → f' x S' = some r) (h0 : pA S f = some r) : pA S f' = some r := by
  obtain ⟨x, S', rfl, h1⟩ := pA_inv h0
  exact h x S' h1
theorem lI_mo {β : Type} {L : mL} {i : Nat} {f f' : Int32 → Option β} {r : β} (h : ∀ x, f x = some r → f' x = some r) (h0 : lI L i f = some r) : lI L i f' = some r := by
  obtain ⟨x, h1, h2⟩ := lI_inv h0
  unfold lI
  rw [h1]
  exact h x h2
theorem lR_mo {β : Type} {L : mL} {i : Nat} {f f' : Nat → Nat → Option β} {r : β} (h : ∀ a j, f a j = some r → f' a j = some r) (h0 : lR L i f = some r) : lR L i f' = some r := by
  obtain ⟨a, j, h1, h2⟩ := lR_inv h0
  unfold lR
  rw [h1]
  exact h a j h2
theorem bif_mo {β : Type} {b : Bool} {x x' y y' : Option β} {r : β} (h1 : x = some r → x' = some r) (h2 : y = some r → y' = some r) (h0 : (bif b then x else y) = some r) : (bif b then x' else y') = some r := by
  cases b with
  | true => exact h1 h0
  | false => exact h2 h0
theorem ite_mo {β : Type} {c : Prop} [Decidable c] {x x' y y' : Option β} {r : β} (h1 : x = some r → x' = some r) (h2 : y = some r → y' = some r) (h0 : (if c then x else y) = some r) : (if c then x' else y') = some r := by
  by_cases hc : c
  · rw [if_pos hc] at h0 ⊢; exact h1 h0
  · rw [if_neg hc] at h0 ⊢; exact h2 h0
theorem none_mo {β : Type} {r : β} {x : Option β} (h : (none : Option β) = some r) : x = some r := by cases h
theorem mArr_mo {β : Type} {sh : mSh} {a t : Nat} {f f' : Nat → Option β} {r : β} (h : ∀ n, f n = some r → f' n = some r) (h0 : mArr sh a t f = some r) : mArr sh a t f' = some r := by
  unfold mArr at h0 ⊢
  split at h0
  · exact bif_mo (h _) id h0
  · cases h0
theorem mFld_mo {β : Type} {sh : mSh} {fl : List (Nat × Nat × Nat)} {idx a : Nat} {f f' : Nat → Nat → Option β} {r : β} (h : ∀ k kd, f k kd = some r → f' k kd = some r) (h0 : mFld sh fl idx a f = some r) : mFld sh fl idx a f' = some r := by
  unfold mFld at h0 ⊢
  split at h0
  · split at h0
    · refine bif_mo (fun h1 => ?_) id h0
      split at h1
      · exact h _ _ h1
      · cases h1
    · cases h0
  · cases h0
theorem mRd_mo {β : Type} {nm : Nat → Nat} {g : mG} {a j k kd : Nat} {f f' : mV → Option β} {r : β} (h : ∀ v, f v = some r → f' v = some r) (h0 : mRd nm g a j k kd f = some r) : mRd nm g a j k kd f' = some r := by
  unfold mRd at h0 ⊢
  split at h0
  · exact h _ h0
  · exact h _ h0
  · exact ite_mo (h _) id h0
  · exact h _ h0
theorem swK_mo {β : Type} {x : Int32} {f f' : Nat → Option β} {d : Nat} {r : β} (h : ∀ t, f t = some r → f' t = some r) : ∀ sw, swK x f d sw = some r → swK x f' d sw = some r
  | [], h0 => h _ h0
  | q :: t, h0 => by
    unfold swK at h0 ⊢
    exact ite_mo (h _) (swK_mo h t) h0
theorem mIf_mo {β : Type} {c : Jvm.ClassFile.Cond} {x y : Int32} {t f t' f' : Option β} {r : β} (h1 : t = some r → t' = some r) (h2 : f = some r → f' = some r) (h0 : mIf c x y t f = some r) : mIf c x y t' f' = some r := by
  cases c <;> dsimp only [mIf] at h0 ⊢ <;> first | exact ite_mo h1 h2 h0 | exact ite_mo h2 h1 h0
theorem mGo_mo {F : mFn} {As : List mV} {g : mG} {nx : Nat} {L : mL} {rest : List mV} {k k' : mK} {r : mRes} (h : mMo k k' r) (h0 : mGo F As g nx L rest k = some r) : mGo F As g nx L rest k' = some r := by
  match F, h0 with
  | .inl f, h0 =>
    obtain ⟨g', h1, h2⟩ := Option.bind_eq_some_iff.mp (show ((f As g).bind fun g' => k nx L rest g') = some r from h0)
    show ((f As g).bind fun g' => k' nx L rest g') = some r
    rw [h1]
    exact h _ _ _ _ h2
  | .inr (.inl f), h0 =>
    obtain ⟨q, h1, h2⟩ := Option.bind_eq_some_iff.mp (show ((f As g).bind fun q => k nx L (.inl q.1 :: rest) q.2) = some r from h0)
    show ((f As g).bind fun q => k' nx L (.inl q.1 :: rest) q.2) = some r
    rw [h1]
    exact h _ _ _ _ h2
  | .inr (.inr f), h0 =>
    obtain ⟨q, h1, h2⟩ := Option.bind_eq_some_iff.mp (show ((f.2 As g).bind fun q => k nx L (.inr (f.1, q.1) :: rest) q.2) = some r from h0)
    show ((f.2 As g).bind fun q => k' nx L (.inr (f.1, q.1) :: rest) q.2) = some r
    rw [h1]
    exact h _ _ _ _ h2
theorem mCall_mo {sh : mSh} {ct : List (Nat × Nat × Nat × mFn)} {sp : List (Nat × Nat)} {kd idx nx : Nat} {L : mL} {S : List mV} {g : mG} {k k' : mK} {r : mRes} (h : mMo k k' r) (h0 : mCall sh ct sp kd idx nx L S g k = some r) : mCall sh ct sp kd idx nx L S g k' = some r := by
  unfold mCall at h0 ⊢
  split at h0
  · exact bif_mo (pI_mo fun _ _ => pI_mo fun _ _ => pR_mo fun _ _ _ => pI_mo fun _ _ => pR_mo fun _ _ _ => bif_mo (mArr_mo fun _ => mArr_mo fun _ => ite_mo (h _ _ _ _) id) id) id h0
  · exact bif_mo (pI_mo fun _ _ => pI_mo fun _ _ => bif_mo (h _ _ _ _) id) id h0
  · exact bif_mo (pI_mo fun _ _ => pI_mo fun _ _ => bif_mo (h _ _ _ _) id) id h0
  · cases h0
  · split at h0
    · exact bif_mo (mGo_mo h) id h0
    · cases h0
theorem mStep_mo {sh : mSh} {nm : Nat → Nat} {gl pl : List (Nat × Nat × Nat)} {gs : List (Nat × mV)} {fe : List (Nat × List Int32)} {sm : List Int32} {ct : List (Nat × Nat × Nat × mFn)} {sp : List (Nat × Nat)} {rk : Nat} {i : mIn} {L : mL} {S : List mV} {g : mG} {k k' : mK} {r : mRes} (h : mMo k k' r)
    (h0 : mStep sh nm gl pl gs fe sm ct sp rk i L S g k = some r) : mStep sh nm gl pl gs fe sm ct sp rk i L S g k' = some r := by
  obtain ⟨ins, len, nx, tg, sw⟩ := i
  cases ins
  all_goals (try dsimp only [mStep] at h0 ⊢)
  all_goals first
    | exact h _ _ _ _ h0
    | exact h0
    | exact none_mo h0
    | exact lI_mo (fun _ => h _ _ _ _) h0
    | exact lR_mo (fun _ _ => h _ _ _ _) h0
    | exact pI_mo (fun _ _ => h _ _ _ _) h0
    | exact pR_mo (fun _ _ _ => h _ _ _ _) h0
    | exact pI_mo (fun _ _ => pI_mo fun _ _ => h _ _ _ _) h0
    | exact pI_mo (fun _ _ => pI_mo fun _ _ => ite_mo id (h _ _ _ _)) h0
    | exact pA_mo (fun _ _ => h _ _ _ _) h0
    | exact pA_mo (fun _ _ => pA_mo fun _ _ => h _ _ _ _) h0
    | exact pA_mo (fun _ _ => pA_mo fun _ _ => pA_mo fun _ _ => h _ _ _ _) h0
    | exact pI_mo (fun _ _ => mIf_mo (h _ _ _ _) (h _ _ _ _)) h0
    | exact pI_mo (fun _ _ => pI_mo fun _ _ => mIf_mo (h _ _ _ _) (h _ _ _ _)) h0
    | exact pI_mo (fun _ _ => swK_mo (fun _ => h _ _ _ _) _) h0
    | exact mCall_mo h h0
    | exact pI_mo (fun _ _ => pR_mo fun _ _ _ => mArr_mo fun _ => ite_mo (h _ _ _ _) id) h0
    | exact pI_mo (fun _ _ => pI_mo fun _ _ => pR_mo fun _ _ _ => mArr_mo fun _ => ite_mo (h _ _ _ _) id) h0
    | exact pI_mo (fun _ _ => pI_mo fun _ _ => pR_mo fun _ _ _ => mArr_mo fun _ => ite_mo (ite_mo (h _ _ _ _) id) id) h0
    | exact pI_mo (fun _ _ => pR_mo fun _ _ _ => bif_mo (ite_mo (h _ _ _ _) id) (mArr_mo fun _ => ite_mo (h _ _ _ _) id)) h0
    | exact pI_mo (fun _ _ => pR_mo fun _ _ _ => bif_mo (ite_mo (h _ _ _ _) id) (mArr_mo fun _ => ite_mo (ite_mo (h _ _ _ _) id) id)) h0
    | skip
  case if_acmp cnd off =>
    cases cnd
    all_goals dsimp only at h0 ⊢
    all_goals exact pR_mo (fun _ _ _ => pR_mo fun _ _ _ => bif_mo (ite_mo (h _ _ _ _) (h _ _ _ _)) id) h0
  case getfield idx =>
    refine pR_mo (fun _ _ _ => bif_mo (fun h1 => ?_) (mFld_mo fun _ _ => mRd_mo fun _ => h _ _ _ _)) h0
    split at h1
    · exact h _ _ _ _ h1
    · cases h1
  case putfield idx =>
    refine pA_mo (fun v _ => pR_mo fun _ _ _ => mFld_mo fun _ _ h1 => ?_) h0
    cases v with
    | inl x => exact bif_mo (h _ _ _ _) (bif_mo (ite_mo (h _ _ _ _) id) id) h1
    | inr q => exact bif_mo (h _ _ _ _) id h1
  case arraylength =>
    refine pR_mo (fun _ _ _ => bif_mo (h _ _ _ _) (fun h1 => ?_)) h0
    split at h1
    · exact h _ _ _ _ h1
    · cases h1
  case getstatic idx =>
    split at h0
    · exact h _ _ _ _ h0
    · cases h0
section MPX
variable {T : List (Nat × mIn)} {sh : mSh} {nm : Nat → Nat} {gl pl : List (Nat × Nat × Nat)} {gs : List (Nat × mV)} {fe : List (Nat × List Int32)} {sm : List Int32} {ct : List (Nat × Nat × Nat × mFn)} {sp : List (Nat × Nat)} {rk : Nat} {r : mRes}
theorem px_s : ∀ (n pc : Nat) (L : mL) (S : List mV) (g : mG), px T sh nm gl pl gs fe sm ct sp rk n pc L S g = some r → px T sh nm gl pl gs fe sm ct sp rk (n + 1) pc L S g = some r
  | 0, _, _, _, _, h => none_mo h
  | n + 1, pc, L, S, g, h => by
    have h : (match mlk T pc with
      | some i => mStep sh nm gl pl gs fe sm ct sp rk i L S g (px T sh nm gl pl gs fe sm ct sp rk n)
      | none => none) = some r := h
    show (match mlk T pc with
      | some i => mStep sh nm gl pl gs fe sm ct sp rk i L S g (px T sh nm gl pl gs fe sm ct sp rk (n + 1))
      | none => none) = some r
    cases hi : mlk T pc with
    | none => rw [hi] at h; cases h
    | some i =>
      rw [hi] at h
      exact mStep_mo (fun pc L S g => px_s n pc L S g) h
theorem px_mo {n k pc : Nat} {L : mL} {S : List mV} {g : mG} (h : px T sh nm gl pl gs fe sm ct sp rk n pc L S g = some r) : px T sh nm gl pl gs fe sm ct sp rk (n + k) pc L S g = some r := by
  induction k with
  | zero => exact h
  | succ k ih => exact px_s _ _ _ _ _ ih
theorem px_le {n k pc : Nat} {L : mL} {S : List mV} {g : mG} (h : px T sh nm gl pl gs fe sm ct sp rk n pc L S g = some r) (hk : n ≤ k) : px T sh nm gl pl gs fe sm ct sp rk k pc L S g = some r := by
  rw [show k = n + (k - n) by omega]
  exact px_mo h
theorem px_det {n k pc : Nat} {L : mL} {S : List mV} {g : mG} {r' : mRes} (h : px T sh nm gl pl gs fe sm ct sp rk n pc L S g = some r) (h' : px T sh nm gl pl gs fe sm ct sp rk k pc L S g = some r') : r = r' := by
  have h1 := px_mo (k := k) h
  have h2 := px_mo (k := n) h'
  rw [Nat.add_comm k n, h1] at h2
  exact Option.some.inj h2
end MPX
/-- the run, as long as it takes -/
noncomputable def mEv (f : Nat → Option mRes) : Option mRes := @dite _ (∃ r n, f n = some r) (Classical.propDecidable _) (fun h => some (Classical.choose h)) (fun _ => none)
-- ∃ r n, f n = some r then some (Classical.choose h) else none
theorem mEv_inv {f : Nat → Option mRes} {r : mRes} (h : mEv f = some r) : ∃ n, f n = some r := by
  unfold mEv at h
  split at h
  · next hh =>
    have e := Option.some.inj h
    rw [← e]
    exact Classical.choose_spec hh
  · cases h
theorem mEv_of {f : Nat → Option mRes} {r : mRes} {n : Nat} (h : f n = some r) (hd : ∀ n k r r', f n = some r → f k = some r' → r = r') : mEv f = some r := by
  unfold mEv
  have hh : ∃ r n, f n = some r := ⟨r, n, h⟩
  rw [dif_pos hh]
  obtain ⟨k, hk⟩ := Classical.choose_spec hh
  rw [hd k n _ r hk h]
