/-! a step's head on both sides -/
theorem s_E_ordinal (q : Nat) (g : mG) : f_E_ordinal [.inr (100, q)] g = some (([0, 1, 2, 3, 4, 5, 6, 7, 8, 9, 10, 11, 12, 13, 14, 15, 16, 17, 18, 19, 20, 21, 22, 23, 24, 25, 26, 27] : List Int32).getD q 0, g) := e_E_ordinal (n := 3) rfl (x_E_ordinal q g)
def smL : List Nat := [11, 12, 13, 21, 22, 23, 24, 1, 2, 25, 26, 14, 15, 16, 3, 4, 17, 18, 5, 6, 7, 27, 19, 20, 8, 9, 10, 0]
theorem smV : ∀ op, op < 27 → inB (([0, 1, 2, 3, 4, 5, 6, 7, 8, 9, 10, 11, 12, 13, 14, 15, 16, 17, 18, 19, 20, 21, 22, 23, 24, 25, 26, 27] : List Int32).getD op 0) smC.length ∧ smC.getD (([0, 1, 2, 3, 4, 5, 6, 7, 8, 9, 10, 11, 12, 13, 14, 15, 16, 17, 18, 19, 20, 21, 22, 23, 24, 25, 26, 27] : List Int32).getD op 0).toNatClampNeg 0 = nI (smL.getD op 0) := by decide +kernel
noncomputable def tS (c : Int32) (op d : Nat) (A B : Int32) (G : mG) : Option mRes :=
  (if c = (1 : Int32) then
   ((f_M_divide [.inr (10, d), .inr (100, op)] G).bind fun p14 =>
    some (some (.inl p14.1), p14.2))
   else
   (if c = (2 : Int32) then
    ((f_M_divide [.inr (10, d), .inr (100, op)] G).bind fun p14 =>
     some (some (.inl p14.1), p14.2))
   else
    (if c = (3 : Int32) then
     some (some (.inl (Int32.ofInt (-1))), (st3 G 10 d 6 A))
    else
     (if c = (4 : Int32) then
      ((f_F_pop [.inr (10, d)] G).bind fun p13 =>
       (if p13.1 = 0 then
        some (some (.inl (Int32.ofInt (-1))), (st3 p13.2 10 d 6 A))
       else
        some (some (.inl (Int32.ofInt (-1))), (st3 p13.2 10 d 6 (p13.2 10 d 6)))))
     else
      (if c = (5 : Int32) then
       ((f_M_insert [.inr (1, 0), .inr (10, d), .inl A] G).bind fun p12 =>
        some (some (.inl p12.1), p12.2))
      else
       (if c = (6 : Int32) then
        ((f_M_delete [.inr (1, 0), .inr (10, d), .inl A] G).bind fun p11 =>
         some (some (.inl p11.1), p11.2))
       else
        (if c = (7 : Int32) then
         ((f_M_update [.inr (1, 0), .inr (10, d), .inl A, .inl B] G).bind fun p10 =>
          some (some (.inl p10.1), p10.2))
        else
         (if c = (8 : Int32) then
          ((f_F_pop [.inr (10, d)] G).bind fun p8 =>
           ((f_M_open [.inr (1, 0), .inl A, .inl p8.1] p8.2).bind fun p9 =>
            some (some (.inl p9.1), p9.2)))
         else
          (if c = (9 : Int32) then
           ((f_F_pop [.inr (10, d)] G).bind fun p7 =>
            some (some (.inl (Int32.ofInt 1)), (st3 p7.2 1 0 4 p7.1)))
          else
           (if c = (10 : Int32) then
            ((f_M_giveBack [.inr (1, 0), .inr (10, d)] G).bind fun p6 =>
             some (some (.inl p6.1), p6.2))
           else
            ((f_M_compute [.inr (1, 0), .inr (10, d), .inr (100, op), .inl A, .inl B] G).bind fun p5 =>
             some (some (.inl (Int32.ofInt (-1))), p5))))))))))))
theorem headC {d P k n op : Nat} {g : mG} (hd : d < 8) (d9 : g 1 0 9 = nI d) (f1 : g 10 d 5 = nI P) (f2 : g 10 d 6 = nI k) (hP : P < 12) (hn : g 25 0 P = nI n) (hn2 : n ≤ 60) (hk : k < n) (hop : op < 27) (hw : g 24 0 (60 * P + k) = nI op) :
    rn_M_step 52 0 (mL0 [.inr (1, 0)] 5) [] g = tS (nI (smL.getD op 0)) op d (if k + 1 < n then g 24 0 (60 * P + (k + 1)) else Int32.ofInt (-1)) (if k + 2 < n then g 24 0 (60 * P + (k + 2)) else Int32.ofInt (-1)) (st3 g 10 d 6 (nI (k + (1 + opL.getD op 0)))) := by
  have sv := smV op hop
  have ek1 : nI k + Int32.ofInt 1 = nI (k + 1) := by rw [on1, nI_add]
  have ek2 : nI k + Int32.ofInt 2 = nI (k + 2) := by rw [on2, nI_add]
  have ek3 : nI k + nI (1 + opL.getD op 0) = nI (k + (1 + opL.getD op 0)) := by rw [nI_add]
  have hdn : d < nmC 10 := hd
  rw [x_M_step]
  simp only [d9, nI_clamp (show d < 2 ^ 31 by omega), if_pos hdn, f1, f2, s_L_insN P k n g hP hk hn hn2, hw, iOf_op (show op < 28 by omega), Option.bind_some, ek1, ek2, s_L_wordN P (k + 1) n g hP (by omega) hn hn2, s_L_wordN P (k + 2) n g hP (by omega) hn hn2, s_E_ordinal, (wdL op hop).1, ek3, if_pos sv.1, sv.2]
  rfl
noncomputable def tR (op d : Nat) (A B : Int32) (r R : mG) : Option mRes :=
  (if (nI op) = 0 then
   ((f_R_push [.inr (0, 0), .inl A] R).bind fun p103 =>
    some (none, p103))
   else
   (if (nI op) < (Int32.ofInt 12) then
    ((f_R_onStack [.inr (0, 0), .inl (nI op)] R).bind fun p102 =>
     some (none, p102))
   else
    (if (nI op) = (Int32.ofInt 12) then
     (if inB (((Int32.ofInt 8) * (nI d)) + A) 64 then
      ((f_R_push [.inr (0, 0), .inl (r 16 0 ((((Int32.ofInt 8) * (nI d)) + A).toNatClampNeg))] R).bind fun p101 =>
       some (none, p101))
     else
      none)
    else
     (if (nI op) = (Int32.ofInt 13) then
      ((f_R_pop [.inr (0, 0)] R).bind fun p100 =>
       (if inB (((Int32.ofInt 8) * (nI d)) + A) 64 then
        some (none, (st3 p100.2 16 0 ((((Int32.ofInt 8) * (nI d)) + A).toNatClampNeg) p100.1))
       else
        none))
     else
      (if (nI op) = (Int32.ofInt 14) then
       (if inB (nI d) 8 then
        some (none, (st3 R 13 0 d A))
       else
        none)
      else
       (if (nI op) = (Int32.ofInt 15) then
        ((f_R_pop [.inr (0, 0)] R).bind fun p99 =>
         (if p99.1 = 0 then
          (if inB (nI d) 8 then
           some (none, (st3 p99.2 13 0 d A))
          else
           none)
         else
          (if inB (nI d) 8 then
           (if inB (nI d) 8 then
            some (none, (st3 p99.2 13 0 d (p99.2 13 0 d)))
           else
            none)
          else
           none)))
       else
        (if (nI op) = (Int32.ofInt 16) then
         (if inB A 4 then
          ((f_R_push [.inr (0, 0), .inl (r 1 0 (A.toNatClampNeg))] R).bind fun p98 =>
           some (none, p98))
         else
          none)
        else
         (if (nI op) = (Int32.ofInt 17) then
          ((f_R_pop [.inr (0, 0)] R).bind fun p94 =>
           ((f_R_isRow [.inr (0, 0), .inl A, .inl p94.1] p94.2).bind fun p95 =>
            (if p95.1 = 0 then
             ((f_R_push [.inr (0, 0), .inl (Int32.ofInt 0)] p95.2).bind fun p96 =>
              some (none, p96))
            else
             (if inB ((((Int32.ofInt 48) * A) + ((Int32.ofInt 3) * p94.1)) + B) 192 then
              ((f_R_push [.inr (0, 0), .inl (p95.2 2 0 (((((Int32.ofInt 48) * A) + ((Int32.ofInt 3) * p94.1)) + B).toNatClampNeg))] p95.2).bind fun p97 =>
               some (none, p97))
             else
              none))))
         else
          (if (nI op) = (Int32.ofInt 18) then
           ((f_R_insert [.inr (0, 0), .inl A] R).bind fun p93 =>
            some (none, p93))
          else
           (if (nI op) = (Int32.ofInt 19) then
            ((f_R_delete [.inr (0, 0), .inl A] R).bind fun p92 =>
             some (none, p92))
           else
            (if (nI op) = (Int32.ofInt 20) then
             ((f_R_update [.inr (0, 0), .inl A, .inl B] R).bind fun p91 =>
              some (none, p91))
            else
             (if (nI op) = (Int32.ofInt 21) then
              ((f_R_pop [.inr (0, 0)] R).bind fun p87 =>
               ((f_R_pop [.inr (0, 0)] p87.2).bind fun p88 =>
                ((f_R_find [.inr (0, 0), .inl A, .inl B, .inl p88.1, .inl p87.1] p88.2).bind fun p89 =>
                 ((f_R_push [.inr (0, 0), .inl p89.1] p89.2).bind fun p90 =>
                  some (none, p90)))))
             else
              (if (nI op) = (Int32.ofInt 22) then
               (if inB (((Int32.ofInt 3) * (nI d)) + A) 24 then
                ((f_R_push [.inr (0, 0), .inl (r 17 0 ((((Int32.ofInt 3) * (nI d)) + A).toNatClampNeg))] R).bind fun p86 =>
                 some (none, p86))
               else
                none)
              else
               (if (nI op) = (Int32.ofInt 23) then
                (if inB (((Int32.ofInt 3) * (nI d)) + A) 24 then
                 ((f_R_push [.inr (0, 0), .inl (r 18 0 ((((Int32.ofInt 3) * (nI d)) + A).toNatClampNeg))] R).bind fun p85 =>
                  some (none, p85))
                else
                 none)
               else
                (if (nI op) = (Int32.ofInt 24) then
                 ((f_R_pop [.inr (0, 0)] R).bind fun p83 =>
                  ((f_R_enter [.inr (0, 0), .inl A, .inl p83.1, .inl (Int32.ofInt 0)] p83.2).bind fun p84 =>
                   some (none, p84.2)))
                else
                 (if (nI op) = (Int32.ofInt 25) then
                  ((f_R_pop [.inr (0, 0)] R).bind fun p82 =>
                   some (none, (st3 (st3 p82.2 0 0 22 p82.1) 0 0 21 (Int32.ofInt 1))))
                 else
                  ((f_R_pop [.inr (0, 0)] R).bind fun p80 =>
                   ((f_R_comeBack [.inr (0, 0), .inl p80.1] p80.2).bind fun p81 =>
                    some (none, p81)))))))))))))))))))
theorem headR {d P k op : Nat} {A B : Int32} {r : mG} (hd : d < 8) (d3 : r 0 0 12 = nI (d + 1)) (f1 : r 12 0 d = nI P) (f2 : r 13 0 d = nI k) (hP : P < 12) (hop : op < 27) (hw : r 6 0 (60 * P + k) = nI op) (hk : k + opL.getD op 0 < 60)
    (hA : 0 < opL.getD op 0 → r 6 0 (60 * P + k + 1) = A) (hA' : opL.getD op 0 = 0 → Int32.ofInt 0 = A) (hB : 1 < opL.getD op 0 → r 6 0 (60 * P + k + 2) = B) (hB' : opL.getD op 0 ≤ 1 → Int32.ofInt 0 = B) :
    rn_R_step 118 0 (mL0 [.inr (0, 0)] 7) [] r = tR op d A B r (st3 (st3 r 13 0 d (nI (k + (1 + opL.getD op 0)))) 0 0 24 (r 0 0 24 + Int32.ofInt 1)) := by
  have e : r 0 0 12 - Int32.ofInt 1 = nI d := by rw [d3, on1, nS (by omega)]
  have b8 : inB (nI d) 8 := by rw [nI_inB (by omega)]; exact hd
  have ea : Int32.ofInt 60 * nI P + nI k = nI (60 * P + k) := by rw [on60, pk_mul, nI_add]
  have ba : inB (nI (60 * P + k)) 720 := by rw [nI_inB (by omega)]; omega
  have ea1 : nI (60 * P + k) + Int32.ofInt 1 = nI (60 * P + k + 1) := by rw [on1, nI_add]
  have ea2 : nI (60 * P + k) + Int32.ofInt 2 = nI (60 * P + k + 2) := by rw [on2, nI_add]
  have eo : v_R_operands (nI op) = nI (opL.getD op 0) := (v_op op hop).1
  have ek : nI k + (Int32.ofInt 1 + nI (opL.getD op 0)) = nI (k + (1 + opL.getD op 0)) := by rw [on1, nI_add, nI_add]
  have ho := (opL_le op hop).2
  rw [x_R_step]
  unfold tR
  simp only [e, nI_clamp (show d < 2 ^ 31 by omega), if_pos b8, f1, f2, ea, if_pos ba, nI_clamp (show 60 * P + k < 2 ^ 31 by omega), hw, s_R_operands, Option.bind_some, eo, ea1, ea2, nI_clamp (show 60 * P + k + 1 < 2 ^ 31 by omega), nI_clamp (show 60 * P + k + 2 < 2 ^ 31 by omega), ek]
  generalize opL.getD op 0 = m at *
  have hm : m = 0 ∨ m = 1 ∨ m = 2 := by omega
  rcases hm with rfl | rfl | rfl
  · rw [if_neg (show ¬ (0 : Int32) < nI 0 by decide), if_neg (show ¬ Int32.ofInt 1 < nI 0 by decide), ← hA' rfl, ← hB' (by omega)]
  · rw [if_pos (show (0 : Int32) < nI 1 by decide), if_pos (show inB (nI (60 * P + k + 1)) 720 by rw [nI_inB (by omega)]; omega), if_neg (show ¬ Int32.ofInt 1 < nI 1 by decide), hA (by omega), ← hB' (by omega)]
  · rw [if_pos (show (0 : Int32) < nI 2 by decide), if_pos (show inB (nI (60 * P + k + 1)) 720 by rw [nI_inB (by omega)]; omega), if_pos (show Int32.ofInt 1 < nI 2 by decide), if_pos (show inB (nI (60 * P + k + 2)) 720 by rw [nI_inB (by omega)]; omega), hA (by omega), hB (by omega)]
