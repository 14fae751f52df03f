/-! a small machine beside the large one: memory by kind, number and slot; values are ints or (kind, number) -/
abbrev mG : Type := Nat → Nat → Nat → Int32
abbrev mV : Type := Int32 ⊕ (Nat × Nat)
abbrev mL : Type := List (Option mV)
abbrev mSh : Type := Nat → Option ((Nat × List Nat) ⊕ (Nat × Nat))
abbrev mRes : Type := Option mV × mG
abbrev mFn : Type := (List mV → mG → Option mG) ⊕ ((List mV → mG → Option (Int32 × mG)) ⊕ (Nat × (List mV → mG → Option (Nat × mG))))
/-- an instruction, its length, the next place, where it jumps, a switch's keys and places -/
abbrev mIn : Type := Instr × Nat × Nat × Nat × List (Int32 × Nat)
abbrev mK : Type := Nat → mL → List mV → mG → Option mRes
def st3 (g : mG) (a j k : Nat) (x : Int32) : mG := fun a' j' k' => if a' = a ∧ k' = k ∧ j' = j then x else g a' j' k'
def stR (g : mG) (a j : Nat) (f : Nat → Int32) : mG := fun a' j' => if a' = a ∧ j' = j then f else g a' j'
def mlk {α : Type} : List (Nat × α) → Nat → Option α
  | [], _ => none
  | q :: t, n => bif Nat.beq q.1 n then some q.2 else mlk t n
abbrev inB (i : Int32) (n : Nat) : Prop := 0 ≤ i.toInt ∧ i.toInt < (n : Int)
abbrev isB (x : Int32) : Prop := x = 0 ∨ x = 1
def pI {β : Type} (S : List mV) (f : Int32 → List mV → Option β) : Option β := match S with
  | .inl x :: S' => f x S'
  | _ => none
def pR {β : Type} (S : List mV) (f : Nat → Nat → List mV → Option β) : Option β := match S with
  | .inr q :: S' => f q.1 q.2 S'
  | _ => none
def pA {β : Type} (S : List mV) (f : mV → List mV → Option β) : Option β := match S with
  | v :: S' => f v S'
  | _ => none
def lI {β : Type} (L : mL) (i : Nat) (f : Int32 → Option β) : Option β := match L[i]? with
  | some (some (.inl x)) => f x
  | _ => none
def lR {β : Type} (L : mL) (i : Nat) (f : Nat → Nat → Option β) : Option β := match L[i]? with
  | some (some (.inr q)) => f q.1 q.2
  | _ => none
def swK {β : Type} (x : Int32) (f : Nat → Option β) (d : Nat) : List (Int32 × Nat) → Option β
  | [] => f d
  | q :: t => if x = q.1 then f q.2 else swK x f d t
def mArr {β : Type} (sh : mSh) (a t : Nat) (f : Nat → Option β) : Option β := match sh a with
  | some (.inr q) => bif Nat.beq q.2 t then f q.1 else none
  | _ => none
def mFld {β : Type} (sh : mSh) (fl : List (Nat × Nat × Nat)) (idx a : Nat) (f : Nat → Nat → Option β) : Option β := match sh a with
  | some (.inl q) => match mlk fl idx with
    | some r => bif Nat.beq r.1 q.1 then (match q.2[r.2]? with
      | some kd => f r.2 kd
      | none => none) else none
    | none => none
  | _ => none
/-- what a slot of a kind is read as -/
def mRd {β : Type} (nm : Nat → Nat) (g : mG) (a j k kd : Nat) (f : mV → Option β) : Option β := match kd with
  | 0 => f (.inl (g a j k))
  | 1 => f (.inl (g a j k))
  | 2 => if (g a j k).toNatClampNeg < nm 10 then f (.inr (10, (g a j k).toNatClampNeg)) else none
  | b + 3 => f (.inr (b, j))
def mInv (kd idx : Nat) : Instr := match kd with
  | 0 => .invokevirtual idx
  | 1 => .invokespecial idx
  | _ => .invokestatic idx
def mFres (F : mFn) (As : List mV) (g : mG) : Option mRes := match F with
  | .inl f => (f As g).bind fun g' => some (none, g')
  | .inr (.inl f) => (f As g).bind fun q => some (some (.inl q.1), q.2)
  | .inr (.inr f) => (f.2 As g).bind fun q => some (some (.inr (f.1, q.1)), q.2)
def mGo (F : mFn) (As : List mV) (g : mG) (nx : Nat) (L : mL) (rest : List mV) (k : mK) : Option mRes := match F with
  | .inl f => (f As g).bind fun g' => k nx L rest g'
  | .inr (.inl f) => (f As g).bind fun q => k nx L (.inl q.1 :: rest) q.2
  | .inr (.inr f) => (f.2 As g).bind fun q => k nx L (.inr (f.1, q.1) :: rest) q.2
def mCall (sh : mSh) (ct : List (Nat × Nat × Nat × mFn)) (sp : List (Nat × Nat)) (kd idx nx : Nat) (L : mL) (S : List mV) (g : mG) (k : mK) : Option mRes := match mlk sp idx with
  | some 0 => bif Nat.beq kd 2 then pI S fun n S => pI S fun d S => pR S fun a j S => pI S fun o S => pR S fun a0 j0 S => bif Nat.ble S.length 8 then mArr sh a 0 fun len => mArr sh a0 0 fun len0 =>
      if (0 ≤ n.toInt ∧ 0 ≤ o.toInt ∧ 0 ≤ d.toInt) ∧ o.toInt + n.toInt ≤ (len0 : Int) ∧ d.toInt + n.toInt ≤ (len : Int) then k nx L S (stR g a j (va_cpy (g a0 j0) (g a j) o.toNatClampNeg d.toNatClampNeg n.toNatClampNeg)) else none else none else none
  | some 1 => bif Nat.beq kd 2 then pI S fun y S => pI S fun x S => bif Nat.ble S.length 8 then k nx L (.inl (if x < y then y else x) :: S) g else none else none
  | some 2 => bif Nat.beq kd 2 then pI S fun y S => pI S fun x S => bif Nat.ble S.length 8 then k nx L (.inl (if y < x then y else x) :: S) g else none else none
  | some _ => none
  | none => match mlk ct idx with
    | some q => bif Nat.beq q.1 kd && (Nat.ble q.2.1 S.length && Nat.ble S.length (q.2.1 + 8)) then mGo q.2.2 (S.take q.2.1).reverse g nx L (S.drop q.2.1) k else none
    | none => none
def mRetV (rk : Nat) (S : List mV) (g : mG) : Option mRes := match S with
  | [] => bif Nat.beq rk 0 then some (none, g) else none
  | _ => none
def mRetI (rk : Nat) (S : List mV) (g : mG) : Option mRes := match S with
  | [.inl x] => bif Nat.beq rk 1 then some (some (.inl x), g) else bif Nat.beq rk 2 then (if isB x then some (some (.inl x), g) else none) else none
  | _ => none
def mRetA (rk : Nat) (S : List mV) (g : mG) : Option mRes := match S with
  | [.inr q] => bif Nat.beq rk 3 then some (some (.inr q), g) else none
  | _ => none
def mIf {β : Type} (c : Jvm.ClassFile.Cond) (x y : Int32) (t f : Option β) : Option β := match c with
  | .eq => if x = y then t else f
  | .ne => if x = y then f else t
  | .lt => if x < y then t else f
  | .ge => if x < y then f else t
  | .gt => if y < x then t else f
  | .le => if y < x then f else t
def mStep (sh : mSh) (nm : Nat → Nat) (gl pl : List (Nat × Nat × Nat)) (gs : List (Nat × mV)) (fe : List (Nat × List Int32)) (sm : List Int32) (ct : List (Nat × Nat × Nat × mFn)) (sp : List (Nat × Nat)) (rk : Nat) (i : mIn) (L : mL) (S : List mV) (g : mG) (k : mK) : Option mRes :=
  match i.1 with
  | .iconst n => k i.2.2.1 L (.inl (Int32.ofInt n) :: S) g
  | .bipush n => k i.2.2.1 L (.inl (Int32.ofInt n) :: S) g
  | .sipush n => k i.2.2.1 L (.inl (Int32.ofInt n) :: S) g
  | .iload j => lI L j fun x => k i.2.2.1 L (.inl x :: S) g
  | .iload_n j => lI L j.val fun x => k i.2.2.1 L (.inl x :: S) g
  | .aload j => lR L j fun a b => k i.2.2.1 L (.inr (a, b) :: S) g
  | .aload_n j => lR L j.val fun a b => k i.2.2.1 L (.inr (a, b) :: S) g
  | .istore j => pI S fun x S => k i.2.2.1 (L.set j (some (.inl x))) S g
  | .istore_n j => pI S fun x S => k i.2.2.1 (L.set j.val (some (.inl x))) S g
  | .astore j => pR S fun a b S => k i.2.2.1 (L.set j (some (.inr (a, b)))) S g
  | .astore_n j => pR S fun a b S => k i.2.2.1 (L.set j.val (some (.inr (a, b)))) S g
  | .iinc j n => lI L j fun x => k i.2.2.1 (L.set j (some (.inl (x + Int32.ofInt n)))) S g
  | .iadd => pI S fun y S => pI S fun x S => k i.2.2.1 L (.inl (x + y) :: S) g
  | .isub => pI S fun y S => pI S fun x S => k i.2.2.1 L (.inl (x - y) :: S) g
  | .imul => pI S fun y S => pI S fun x S => k i.2.2.1 L (.inl (x * y) :: S) g
  | .idiv => pI S fun y S => pI S fun x S => if y = 0 then none else k i.2.2.1 L (.inl (x / y) :: S) g
  | .irem => pI S fun y S => pI S fun x S => if y = 0 then none else k i.2.2.1 L (.inl (x - x / y * y) :: S) g
  | .dup => pA S fun v S => k i.2.2.1 L (v :: v :: S) g
  | .pop => pA S fun _ S => k i.2.2.1 L S g
  | .dup_x1 => pA S fun v S => pA S fun w S => k i.2.2.1 L (v :: w :: v :: S) g
  | .dup_x2 => pA S fun v S => pA S fun w S => pA S fun u S => k i.2.2.1 L (v :: w :: u :: v :: S) g
  | .dup2 => pA S fun v S => pA S fun w S => k i.2.2.1 L (v :: w :: v :: w :: S) g
  | .ifCond c _ => pI S fun x S => mIf c x 0 (k i.2.2.2.1 L S g) (k i.2.2.1 L S g)
  | .if_icmp c _ => pI S fun y S => pI S fun x S => mIf c x y (k i.2.2.2.1 L S g) (k i.2.2.1 L S g)
  | .if_acmp .eq _ => pR S fun b j' S => pR S fun a j S => bif Nat.beq a 100 && Nat.beq b 100 then (if j = j' then k i.2.2.2.1 L S g else k i.2.2.1 L S g) else none
  | .if_acmp .ne _ => pR S fun b j' S => pR S fun a j S => bif Nat.beq a 100 && Nat.beq b 100 then (if j = j' then k i.2.2.1 L S g else k i.2.2.2.1 L S g) else none
  | .goto _ => k i.2.2.2.1 L S g
  | .tableswitch _ _ _ _ => pI S fun x S => swK x (fun t => k t L S g) i.2.2.2.1 i.2.2.2.2
  | .lookupswitch _ _ => pI S fun x S => swK x (fun t => k t L S g) i.2.2.2.1 i.2.2.2.2
  | .getfield idx => pR S fun a j S => bif Nat.beq a 100 then (match mlk fe idx with
      | some vs => k i.2.2.1 L (.inl (vs.getD j 0) :: S) g
      | none => none) else mFld sh gl idx a fun f kd => mRd nm g a j f kd fun v => k i.2.2.1 L (v :: S) g
  | .putfield idx => pA S fun v S => pR S fun a j S => mFld sh pl idx a fun f kd => match v with
      | .inl x => bif Nat.beq kd 0 then k i.2.2.1 L S (st3 g a j f x) else bif Nat.beq kd 1 then (if isB x then k i.2.2.1 L S (st3 g a j f x) else none) else none
      | .inr q => bif Nat.beq kd 2 && Nat.beq q.1 10 then k i.2.2.1 L S (st3 g a j f (nI q.2)) else none
  | .iaload => pI S fun x S => pR S fun a j S => bif Nat.beq a 102 then (if inB x sm.length then k i.2.2.1 L (.inl (sm.getD x.toNatClampNeg 0) :: S) g else none)
      else mArr sh a 0 fun len => if inB x len then k i.2.2.1 L (.inl (g a j x.toNatClampNeg) :: S) g else none
  | .baload => pI S fun x S => pR S fun a j S => mArr sh a 1 fun len => if inB x len then k i.2.2.1 L (.inl (g a j x.toNatClampNeg) :: S) g else none
  | .aaload => pI S fun x S => pR S fun a j S => bif Nat.beq a 101 then (if inB x (nm 100) then k i.2.2.1 L (.inr (100, x.toNatClampNeg) :: S) g else none)
      else mArr sh a 2 fun len => if inB x len then (if (g a j x.toNatClampNeg).toNatClampNeg < nm 10 then k i.2.2.1 L (.inr (10, (g a j x.toNatClampNeg).toNatClampNeg) :: S) g else none) else none
  | .iastore => pI S fun v S => pI S fun x S => pR S fun a j S => mArr sh a 0 fun len => if inB x len then k i.2.2.1 L S (st3 g a j x.toNatClampNeg v) else none
  | .bastore => pI S fun v S => pI S fun x S => pR S fun a j S => mArr sh a 1 fun len => if inB x len then (if isB v then k i.2.2.1 L S (st3 g a j x.toNatClampNeg v) else none) else none
  | .arraylength => pR S fun a _ S => bif Nat.beq a 101 then k i.2.2.1 L (.inl (nI (nm 100)) :: S) g else match sh a with
      | some (.inr q) => k i.2.2.1 L (.inl (nI q.1) :: S) g
      | _ => none
  | .getstatic idx => match mlk gs idx with
      | some v => k i.2.2.1 L (v :: S) g
      | none => none
  | .invokevirtual idx => mCall sh ct sp 0 idx i.2.2.1 L S g k
  | .invokespecial idx => mCall sh ct sp 1 idx i.2.2.1 L S g k
  | .invokestatic idx => mCall sh ct sp 2 idx i.2.2.1 L S g k
  | .ireturn => mRetI rk S g
  | .areturn => mRetA rk S g
  | .return_ => mRetV rk S g
  | _ => none
def px (T : List (Nat × mIn)) (sh : mSh) (nm : Nat → Nat) (gl pl : List (Nat × Nat × Nat)) (gs : List (Nat × mV)) (fe : List (Nat × List Int32)) (sm : List Int32) (ct : List (Nat × Nat × Nat × mFn)) (sp : List (Nat × Nat)) (rk : Nat) : Nat → mK
  | 0 => fun _ _ _ _ => none
  | n + 1 => fun pc L S g => match mlk T pc with
    | some i => mStep sh nm gl pl gs fe sm ct sp rk i L S g (px T sh nm gl pl gs fe sm ct sp rk n)
    | none => none
/-- the table tells the code: lengths, places to jump to, keys -/
def mSwOk (pc : Nat) (offs : List Int) : Int → List (Int32 × Nat) → Bool
  | lo, q :: t => match offs with
    | o :: os => decide (q.1.toInt = lo) && (decide ((pc : Int) + o = (q.2 : Int)) && mSwOk pc os (lo + 1) t)
    | [] => false
  | _, [] => match offs with
    | [] => true
    | _ => false
def mLkOk (pc : Nat) : List (Int × Int) → List (Int32 × Nat) → Bool
  | [], [] => true
  | o :: os, q :: t => decide (q.1.toInt = o.1) && (decide ((pc : Int) + o.2 = (q.2 : Int)) && mLkOk pc os t)
  | _, _ => false
def mOk (nL pc : Nat) (i : mIn) : Bool := match i.1 with
  | .iconst _ | .iload_n _ | .aload_n _ | .iadd | .isub | .imul | .idiv | .irem | .dup | .pop | .dup_x1 | .dup_x2 | .dup2 | .iaload | .baload | .aaload | .iastore | .bastore | .arraylength | .ireturn | .areturn | .return_ => decide (i.2.1 = 1)
  | .bipush n => decide (i.2.1 = 2) && decide ((Int8.ofInt n).toInt32 = Int32.ofInt n)
  | .sipush n => decide (i.2.1 = 3) && decide ((Int16.ofInt n).toInt32 = Int32.ofInt n)
  | .iload _ | .aload _ => decide (i.2.1 = 2)
  | .istore j | .astore j => decide (i.2.1 = 2) && decide (j < nL)
  | .istore_n j | .astore_n j => decide (i.2.1 = 1) && decide (j.val < nL)
  | .iinc j _ => decide (i.2.1 = 3) && decide (j < nL)
  | .ifCond _ off | .if_icmp _ off | .if_acmp _ off | .goto off => decide (i.2.1 = 3) && decide ((pc : Int) + off = (i.2.2.2.1 : Int))
  | .tableswitch d lo hi offs => decide ((pc : Int) + d = (i.2.2.2.1 : Int)) && (decide (hi = lo + (i.2.2.2.2.length : Int) - 1) && mSwOk pc offs.toList lo i.2.2.2.2)
  | .lookupswitch d ps => decide ((pc : Int) + d = (i.2.2.2.1 : Int)) && ((ps.toList.zip (ps.toList.drop 1)).all (fun (a, next) => a.1 < next.1) && mLkOk pc ps.toList i.2.2.2.2)
  | .getfield _ | .putfield _ | .getstatic _ | .invokevirtual _ | .invokespecial _ | .invokestatic _ => decide (i.2.1 = 3)
  | _ => false
/-- inversions -/
theorem pI_inv {β : Type} {S : List mV} {f : Int32 → List mV → Option β} {r : β} (h : pI S f = some r) : ∃ x S', S = .inl x :: S' ∧ f x S' = some r := by
  unfold pI at h
  split at h
  · exact ⟨_, _, rfl, h⟩
  · cases h
theorem pR_inv {β : Type} {S : List mV} {f : Nat → Nat → List mV → Option β} {r : β} (h : pR S f = some r) : ∃ a j S', S = .inr (a, j) :: S' ∧ f a j S' = some r := by
  unfold pR at h
  split at h
  · exact ⟨_, _, _, rfl, h⟩
  · cases h
theorem pA_inv {β : Type} {S : List mV} {f : mV → List mV → Option β} {r : β} (h : pA S f = some r) : ∃ v S', S = v :: S' ∧ f v S' = some r := by
  unfold pA at h
  split at h
  · exact ⟨_, _, rfl, h⟩
  · cases h
theorem lI_inv {β : Type} {L : mL} {i : Nat} {f : Int32 → Option β} {r : β} (h : lI L i f = some r) : ∃ x, L[i]? = some (some (.inl x)) ∧ f x = some r := by
  unfold lI at h
  split at h
  · exact ⟨_, by assumption, h⟩
  · cases h
theorem lR_inv {β : Type} {L : mL} {i : Nat} {f : Nat → Nat → Option β} {r : β} (h : lR L i f = some r) : ∃ a j, L[i]? = some (some (.inr (a, j))) ∧ f a j = some r := by
  unfold lR at h
  split at h
  · exact ⟨_, _, by assumption, h⟩
  · cases h
theorem mArr_inv {β : Type} {sh : mSh} {a t : Nat} {f : Nat → Option β} {r : β} (h : mArr sh a t f = some r) : ∃ len, sh a = some (.inr (len, t)) ∧ f len = some r := by
  unfold mArr at h
  split at h
  · next q hq =>
    cases hb : Nat.beq q.2 t with
    | false => rw [hb] at h; cases h
    | true =>
      rw [hb] at h
      have e := Nat.eq_of_beq_eq_true hb
      subst e
      exact ⟨q.1, hq, h⟩
  · cases h
theorem mFld_inv {β : Type} {sh : mSh} {fl : List (Nat × Nat × Nat)} {idx a : Nat} {f : Nat → Nat → Option β} {r : β} (h : mFld sh fl idx a f = some r) :
    ∃ ci ks k kd, sh a = some (.inl (ci, ks)) ∧ mlk fl idx = some (ci, k) ∧ ks[k]? = some kd ∧ f k kd = some r := by
  unfold mFld at h
  split at h
  · next q hq =>
    split at h
    · next x hx =>
      cases hb : Nat.beq x.1 q.1 with
      | false => rw [hb] at h; cases h
      | true =>
        rw [hb] at h
        have e := Nat.eq_of_beq_eq_true hb
        dsimp only [cond] at h
        split at h
        · next kd hkd => exact ⟨q.1, q.2, x.2, kd, hq, by rw [hx, ← e], hkd, h⟩
        · cases h
    · cases h
  · cases h
theorem bif_inv {β : Type} {b : Bool} {x : Option β} {r : β} (h : (bif b then x else none) = some r) : b = true ∧ x = some r := by
  cases b with
  | false => cases h
  | true => exact ⟨rfl, h⟩
theorem ite_inv {β : Type} {c : Prop} [Decidable c] {x : Option β} {r : β} (h : (if c then x else none) = some r) : c ∧ x = some r := by
  split at h
  · next hc => exact ⟨hc, h⟩
  · cases h
theorem beq_inv {a b : Nat} (h : Nat.beq a b = true) : a = b := Nat.eq_of_beq_eq_true h
theorem mGo_inv {F : mFn} {As : List mV} {g : mG} {nx : Nat} {L : mL} {rest : List mV} {k : mK} {res : mRes} (h : mGo F As g nx L rest k = some res) : ∃ r g', mFres F As g = some (r, g') ∧ k nx L (r.toList ++ rest) g' = some res := by
  match F, h with
  | .inl f, h =>
    obtain ⟨g', h1, h2⟩ := Option.bind_eq_some_iff.mp (show ((f As g).bind fun g' => k nx L rest g') = some res from h)
    exact ⟨none, g', by show ((f As g).bind _) = _; rw [h1]; rfl, h2⟩
  | .inr (.inl f), h =>
    obtain ⟨q, h1, h2⟩ := Option.bind_eq_some_iff.mp (show ((f As g).bind fun q => k nx L (.inl q.1 :: rest) q.2) = some res from h)
    exact ⟨some (.inl q.1), q.2, by show ((f As g).bind _) = _; rw [h1]; rfl, h2⟩
  | .inr (.inr f), h =>
    obtain ⟨q, h1, h2⟩ := Option.bind_eq_some_iff.mp (show ((f.2 As g).bind fun q => k nx L (.inr (f.1, q.1) :: rest) q.2) = some res from h)
    exact ⟨some (.inr (f.1, q.1)), q.2, by show ((f.2 As g).bind _) = _; rw [h1]; rfl, h2⟩
