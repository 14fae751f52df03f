/-! a stretch of a run: from a place to the next of some marked places, and then on by k -/
def mmem : List Nat → Nat → Bool
  | [], _ => false
  | a :: t, n => bif Nat.beq a n then true else mmem t n
def pxs (T : List (Nat × mIn)) (sh : mSh) (nm : Nat → Nat) (gl pl : List (Nat × Nat × Nat)) (gs : List (Nat × mV)) (fe : List (Nat × List Int32)) (sm : List Int32) (ct : List (Nat × Nat × Nat × mFn)) (sp : List (Nat × Nat)) (rk : Nat) (st : List Nat) (k : mK) : Nat → mK
  | 0 => fun _ _ _ _ => none
  | n + 1 => fun pc L S g => match mlk T pc with
    | some i => mStep sh nm gl pl gs fe sm ct sp rk i L S g (fun pc' L' S' g' => bif mmem st pc' then k pc' L' S' g' else pxs T sh nm gl pl gs fe sm ct sp rk st k n pc' L' S' g')
    | none => none
section PXS
variable {T : List (Nat × mIn)} {sh : mSh} {nm : Nat → Nat} {gl pl : List (Nat × Nat × Nat)} {gs : List (Nat × mV)} {fe : List (Nat × List Int32)} {sm : List Int32} {ct : List (Nat × Nat × Nat × mFn)} {sp : List (Nat × Nat)} {rk : Nat} {r : mRes} {st : List Nat} {n : Nat}
theorem pxs_px : ∀ (m pc : Nat) (L : mL) (S : List mV) (g : mG), pxs T sh nm gl pl gs fe sm ct sp rk st (px T sh nm gl pl gs fe sm ct sp rk n) m pc L S g = some r → px T sh nm gl pl gs fe sm ct sp rk (n + m) pc L S g = some r
  | 0, _, _, _, _, h => none_mo h
  | m + 1, pc, L, S, g, h => by
    have h : (match mlk T pc with
      | some i => mStep sh nm gl pl gs fe sm ct sp rk i L S g (fun pc' L' S' g' => bif mmem st pc' then px T sh nm gl pl gs fe sm ct sp rk n pc' L' S' g' else pxs T sh nm gl pl gs fe sm ct sp rk st (px T sh nm gl pl gs fe sm ct sp rk n) m pc' L' S' g')
      | none => none) = some r := h
    show (match mlk T pc with
      | some i => mStep sh nm gl pl gs fe sm ct sp rk i L S g (px T sh nm gl pl gs fe sm ct sp rk (n + m))
      | none => none) = some r
    cases hi : mlk T pc with
    | none => rw [hi] at h; cases h
    | some i =>
      rw [hi] at h
      refine mStep_mo (fun pc' L' S' g' h1 => ?_) h
      cases hb : mmem st pc' with
      | true =>
        rw [hb] at h1
        exact px_mo h1
      | false =>
        rw [hb] at h1
        exact pxs_px m pc' L' S' g' h1
end PXS
