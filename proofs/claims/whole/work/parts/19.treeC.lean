set_option maxRecDepth 100000 in
set_option maxHeartbeats 4000000 in
theorem x_L_openNext (g : mG) : rn_L_openNext 19 0 (mL0 [.inr (2, 0)] 1) [] g =
  (if (g 2 0 4) = 0 then
   (if (g 2 0 3) < (Int32.ofInt 12) then
    (if isB (Int32.ofInt 1) then
     (if inB (g 2 0 3) 12 then
      some (some (.inl (g 2 0 3)), (st3 (st3 g 2 0 4 (Int32.ofInt 1)) 25 0 ((g 2 0 3).toNatClampNeg) (Int32.ofInt 0)))
     else
      none)
    else
     none)
   else
    some (some (.inl (Int32.ofInt (-2))), g))
  else
   some (some (.inl (Int32.ofInt (-1))), g)) := rfl
set_option maxRecDepth 100000 in
set_option maxHeartbeats 4000000 in
theorem x_B_begin (g : mG) : rn_B_begin 4 0 (mL0 [.inr (0, 0)] 1) [] g =
  ((f_L_openNext [.inr (2, 0)] g).bind fun p1 =>
   some (some (.inl p1.1), p1.2)) := rfl
set_option maxRecDepth 100000 in
set_option maxHeartbeats 4000000 in
theorem x_B_isBelow (a : Int32) (b : Int32) (g : mG) : rn_B_isBelow 8 0 (mL0 [.inl a, .inl b] 2) [] g =
  (if a < 0 then
   (if isB (Int32.ofInt 0) then
    some (some (.inl (Int32.ofInt 0)), g)
   else
    none)
  else
   (if a < b then
    (if isB (Int32.ofInt 1) then
     some (some (.inl (Int32.ofInt 1)), g)
    else
     none)
   else
    (if isB (Int32.ofInt 0) then
     some (some (.inl (Int32.ofInt 0)), g)
    else
     none))) := rfl
set_option maxRecDepth 100000 in
set_option maxHeartbeats 4000000 in
theorem x_L_length (a : Int32) (g : mG) : rn_L_length 10 0 (mL0 [.inr (2, 0), .inl a] 2) [] g =
  ((f_B_isBelow [.inl a, .inl (Int32.ofInt 12)] g).bind fun p1 =>
   (if p1.1 = 0 then
    some (some (.inl (Int32.ofInt 0)), p1.2)
   else
    (if inB a 12 then
     some (some (.inl (p1.2 25 0 a.toNatClampNeg)), p1.2)
    else
     none))) := rfl
set_option maxRecDepth 100000 in
set_option maxHeartbeats 4000000 in
theorem x_L_append (a : Int32) (g : mG) : rn_L_append 31 0 (mL0 [.inr (2, 0), .inl a] 3) [] g =
  ((f_L_length [.inr (2, 0), .inl (g 2 0 3)] g).bind fun p1 =>
   (if (p1.2 2 0 4) = 0 then
    (if isB (Int32.ofInt 0) then
     some (some (.inl (Int32.ofInt 0)), p1.2)
    else
     none)
   else
    (if p1.1 < (Int32.ofInt 60) then
     (if inB (((p1.2 2 0 3) * (Int32.ofInt 60)) + p1.1) 720 then
      (if inB (p1.2 2 0 3) 12 then
       (if isB (Int32.ofInt 1) then
        some (some (.inl (Int32.ofInt 1)), (st3 (st3 p1.2 24 0 ((((p1.2 2 0 3) * (Int32.ofInt 60)) + p1.1).toNatClampNeg) a) 25 0 ((p1.2 2 0 3).toNatClampNeg) (p1.1 + (Int32.ofInt 1))))
       else
        none)
      else
       none)
     else
      none)
    else
     (if isB (Int32.ofInt 0) then
      some (some (.inl (Int32.ofInt 0)), p1.2)
     else
      none)))) := rfl
set_option maxRecDepth 100000 in
set_option maxHeartbeats 4000000 in
theorem x_B_emit (a : Int32) (g : mG) : rn_B_emit 5 0 (mL0 [.inr (0, 0), .inl a] 2) [] g =
  ((f_L_append [.inr (2, 0), .inl a] g).bind fun p1 =>
   (if isB p1.1 then
    some (some (.inl p1.1), p1.2)
   else
    none)) := rfl
set_option maxRecDepth 100000 in
set_option maxHeartbeats 4000000 in
theorem x_L_word (a : Int32) (b : Int32) (g : mG) : rn_L_word 26 0 (mL0 [.inr (2, 0), .inl a, .inl b] 4) [] g =
  ((f_B_isBelow [.inl a, .inl (Int32.ofInt 12)] g).bind fun p1 =>
   (if p1.1 = 0 then
    (if (Int32.ofInt 0) = 0 then
     some (some (.inl (Int32.ofInt (-1))), p1.2)
    else
     (if inB ((a * (Int32.ofInt 60)) + b) 720 then
      some (some (.inl (p1.2 24 0 (((a * (Int32.ofInt 60)) + b).toNatClampNeg))), p1.2)
     else
      none))
   else
    (if inB a 12 then
     ((f_B_isBelow [.inl b, .inl (p1.2 25 0 a.toNatClampNeg)] p1.2).bind fun p2 =>
      (if p2.1 = 0 then
       (if (Int32.ofInt 0) = 0 then
        some (some (.inl (Int32.ofInt (-1))), p2.2)
       else
        (if inB ((a * (Int32.ofInt 60)) + b) 720 then
         some (some (.inl (p2.2 24 0 (((a * (Int32.ofInt 60)) + b).toNatClampNeg))), p2.2)
        else
         none))
      else
       (if (Int32.ofInt 1) = 0 then
        some (some (.inl (Int32.ofInt (-1))), p2.2)
       else
        (if inB ((a * (Int32.ofInt 60)) + b) 720 then
         some (some (.inl (p2.2 24 0 (((a * (Int32.ofInt 60)) + b).toNatClampNeg))), p2.2)
        else
         none))))
    else
     none))) := rfl
set_option maxRecDepth 100000 in
set_option maxHeartbeats 4000000 in
theorem x_I_of (a : Int32) (g : mG) : rn_I_of 10 0 (mL0 [.inl a] 1) [] g =
  ((f_B_isBelow [.inl a, .inl (nI (nmC 100))] g).bind fun p1 =>
   (if p1.1 = 0 then
    some (some (.inr (100, 27)), p1.2)
   else
    (if inB a (nmC 100) then
     some (some (.inr (100, a.toNatClampNeg)), p1.2)
    else
     none))) := rfl
set_option maxRecDepth 100000 in
set_option maxHeartbeats 4000000 in
theorem x_L_instructionAt (a : Int32) (b : Int32) (g : mG) : rn_L_instructionAt 6 0 (mL0 [.inr (2, 0), .inl a, .inl b] 3) [] g =
  ((f_L_word [.inr (2, 0), .inl a, .inl b] g).bind fun p1 =>
   ((f_I_of [.inl p1.1] p1.2).bind fun p2 =>
    some (some (.inr (100, p2.1)), p2.2))) := rfl
set_option maxRecDepth 100000 in
set_option maxHeartbeats 4000000 in
theorem x_V_isInBounds (a : Int32) (b : Int32) (g : mG) : rn_V_isInBounds 7 0 (mL0 [.inr (2, 0), .inl a, .inl b] 3) [] g =
  (if a = (2 : Int32) then
   ((f_B_isBelow [.inl b, .inl (Int32.ofInt 8)] g).bind fun p4 =>
    (if isB p4.1 then
     some (some (.inl p4.1), p4.2)
    else
     none))
  else
   (if a = (3 : Int32) then
    (if isB (Int32.ofInt 1) then
     some (some (.inl (Int32.ofInt 1)), g)
    else
     none)
   else
    (if a = (4 : Int32) then
     ((f_B_isBelow [.inl b, .inl (Int32.ofInt 4)] g).bind fun p3 =>
      (if isB p3.1 then
       some (some (.inl p3.1), p3.2)
      else
       none))
    else
     (if a = (5 : Int32) then
      ((f_B_isBelow [.inl b, .inl (Int32.ofInt 3)] g).bind fun p2 =>
       (if isB p2.1 then
        some (some (.inl p2.1), p2.2)
       else
        none))
     else
      (if a = (6 : Int32) then
       ((f_B_isBelow [.inl b, .inl (g 2 0 3)] g).bind fun p1 =>
        (if isB p1.1 then
         some (some (.inl p1.1), p1.2)
        else
         none))
      else
       (if isB (Int32.ofInt 1) then
        some (some (.inl (Int32.ofInt 1)), g)
       else
        none)))))) := rfl
set_option maxRecDepth 100000 in
set_option maxHeartbeats 4000000 in
theorem x_V_ruleOfWords (a : Int32) (b : Int32) (q : Nat) (g : mG) : rn_V_ruleOfWords 41 0 (mL0 [.inr (2, 0), .inl a, .inl b, .inr (100, q)] 5) [] g =
  (if q = 27 then
   some (some (.inl (Int32.ofInt 1)), g)
  else
   ((f_L_length [.inr (2, 0), .inl a] g).bind fun p1 =>
    (if p1.1 < (b + (([2, 1, 1, 1, 1, 1, 1, 1, 1, 1, 1, 1, 2, 2, 2, 2, 2, 3, 2, 2, 3, 3, 2, 2, 2, 1, 1, 1] : List Int32).getD q 0)) then
     some (some (.inl (Int32.ofInt 2)), p1.2)
    else
     ((f_L_word [.inr (2, 0), .inl a, .inl (b + (Int32.ofInt 1))] p1.2).bind fun p2 =>
      ((f_V_isInBounds [.inr (2, 0), .inl (([1, 0, 0, 0, 0, 0, 0, 0, 0, 0, 0, 0, 2, 2, 3, 3, 4, 4, 4, 4, 4, 4, 5, 5, 6, 0, 0, 0] : List Int32).getD q 0), .inl p2.1] p2.2).bind fun p3 =>
       (if p3.1 = 0 then
        (if (Int32.ofInt 0) = 0 then
         some (some (.inl (Int32.ofInt 3)), p3.2)
        else
         some (some (.inl (Int32.ofInt 0)), p3.2))
       else
        ((f_L_word [.inr (2, 0), .inl a, .inl (b + (Int32.ofInt 2))] p3.2).bind fun p4 =>
         ((f_V_isInBounds [.inr (2, 0), .inl (([0, 0, 0, 0, 0, 0, 0, 0, 0, 0, 0, 0, 0, 0, 0, 0, 0, 5, 0, 0, 5, 5, 0, 0, 0, 0, 0, 0] : List Int32).getD q 0), .inl p4.1] p4.2).bind fun p5 =>
          (if p5.1 = 0 then
           (if (Int32.ofInt 0) = 0 then
            some (some (.inl (Int32.ofInt 3)), p5.2)
           else
            some (some (.inl (Int32.ofInt 0)), p5.2))
          else
           (if (Int32.ofInt 1) = 0 then
            some (some (.inl (Int32.ofInt 3)), p5.2)
           else
            some (some (.inl (Int32.ofInt 0)), p5.2))))))))))) := rfl
set_option maxRecDepth 100000 in
set_option maxHeartbeats 4000000 in
theorem x_V_fault (a : Int32) (b : Int32) (g : mG) : rn_V_fault 6 0 (mL0 [.inl a, .inl b] 2) [] g =
  some (some (.inl (((Int32.ofInt 16) * a) + b)), g) := rfl
set_option maxRecDepth 100000 in
set_option maxHeartbeats 4000000 in
theorem x_V_isInstruction (a : Int32) (g : mG) : rn_V_isInstruction 13 0 (mL0 [.inr (5, 0), .inl a] 2) [] g =
  ((f_B_isBelow [.inl a, .inl (Int32.ofInt 60)] g).bind fun p1 =>
   (if p1.1 = 0 then
    (if isB (Int32.ofInt 0) then
     some (some (.inl (Int32.ofInt 0)), p1.2)
    else
     none)
   else
    (if inB a 60 then
     (if (p1.2 31 0 a.toNatClampNeg) = (Int32.ofInt (-2)) then
      (if isB (Int32.ofInt 0) then
       some (some (.inl (Int32.ofInt 0)), p1.2)
      else
       none)
     else
      (if isB (Int32.ofInt 1) then
       some (some (.inl (Int32.ofInt 1)), p1.2)
      else
       none))
    else
     none))) := rfl
set_option maxRecDepth 100000 in
set_option maxHeartbeats 4000000 in
theorem x_I_mayJump (j : Nat) (g : mG) : rn_I_mayJump 7 0 (mL0 [.inr (100, j)] 1) [] g =
  (if (([1, 0, 0, 0, 0, 0, 0, 0, 0, 0, 0, 0, 2, 2, 3, 3, 4, 4, 4, 4, 4, 4, 5, 5, 6, 0, 0, 0] : List Int32).getD j 0) = (Int32.ofInt 3) then
   (if isB (Int32.ofInt 1) then
    some (some (.inl (Int32.ofInt 1)), g)
   else
    none)
  else
   (if isB (Int32.ofInt 0) then
    some (some (.inl (Int32.ofInt 0)), g)
   else
    none)) := rfl
set_option maxRecDepth 100000 in
set_option maxHeartbeats 4000000 in
theorem x_V_reach (a : Int32) (b : Int32) (g : mG) : rn_V_reach 24 0 (mL0 [.inr (5, 0), .inl a, .inl b] 3) [] g =
  ((f_V_isInstruction [.inr (5, 0), .inl a] g).bind fun p1 =>
   (if p1.1 = 0 then
    some (some (.inl (Int32.ofInt 8)), p1.2)
   else
    (if inB a 60 then
     (if (p1.2 31 0 a.toNatClampNeg) = (Int32.ofInt (-1)) then
      (if inB a 60 then
       (if inB a 60 then
        (if ((st3 p1.2 31 0 a.toNatClampNeg b) 31 0 a.toNatClampNeg) = b then
         some (some (.inl (Int32.ofInt 0)), (st3 p1.2 31 0 a.toNatClampNeg b))
        else
         some (some (.inl (Int32.ofInt 7)), (st3 p1.2 31 0 a.toNatClampNeg b)))
       else
        none)
      else
       none)
     else
      (if inB a 60 then
       (if (p1.2 31 0 a.toNatClampNeg) = b then
        some (some (.inl (Int32.ofInt 0)), p1.2)
       else
        some (some (.inl (Int32.ofInt 7)), p1.2))
      else
       none))
    else
     none))) := rfl
set_option maxRecDepth 100000 in
set_option maxHeartbeats 4000000 in
theorem x_I_mayGoOnBehind (j : Nat) (g : mG) : rn_I_mayGoOnBehind 12 0 (mL0 [.inr (100, j)] 1) [] g =
  (if j = 14 then
   (if isB (Int32.ofInt 0) then
    some (some (.inl (Int32.ofInt 0)), g)
   else
    none)
  else
   (if j = 25 then
    (if isB (Int32.ofInt 0) then
     some (some (.inl (Int32.ofInt 0)), g)
    else
     none)
   else
    (if j = 26 then
     (if isB (Int32.ofInt 0) then
      some (some (.inl (Int32.ofInt 0)), g)
     else
      none)
    else
     (if isB (Int32.ofInt 1) then
      some (some (.inl (Int32.ofInt 1)), g)
     else
      none)))) := rfl
set_option maxRecDepth 100000 in
set_option maxHeartbeats 4000000 in
theorem x_V_ruleOfHeights (a : Int32) (b : Int32) (g : mG) : rn_V_ruleOfHeights 55 0 (mL0 [.inr (5, 0), .inr (2, 0), .inl a, .inl b] 8) [] g =
  ((f_L_instructionAt [.inr (2, 0), .inl a, .inl b] g).bind fun p1 =>
   (if inB b 60 then
    (if (p1.2 31 0 b.toNatClampNeg) < (([0, 1, 1, 2, 2, 2, 2, 2, 2, 2, 2, 1, 0, 1, 0, 1, 0, 1, 3, 1, 2, 2, 0, 0, 1, 1, 1, 0] : List Int32).getD p1.1 0) then
     some (some (.inl (Int32.ofInt 5)), p1.2)
    else
     (if (Int32.ofInt 12) < (((p1.2 31 0 b.toNatClampNeg) - (([0, 1, 1, 2, 2, 2, 2, 2, 2, 2, 2, 1, 0, 1, 0, 1, 0, 1, 3, 1, 2, 2, 0, 0, 1, 1, 1, 0] : List Int32).getD p1.1 0)) + (([1, 0, 2, 2, 1, 1, 1, 1, 1, 1, 1, 1, 1, 0, 0, 0, 1, 1, 1, 1, 1, 1, 1, 1, 1, 0, 0, 0] : List Int32).getD p1.1 0)) then
      some (some (.inl (Int32.ofInt 6)), p1.2)
     else
      ((f_I_mayGoOnBehind [.inr (100, p1.1)] p1.2).bind fun p2 =>
       (if p2.1 = 0 then
        (if (Int32.ofInt 0) = 0 then
         ((f_I_mayJump [.inr (100, p1.1)] p2.2).bind fun p3 =>
          (if p3.1 = 0 then
           some (some (.inl (Int32.ofInt 0)), p3.2)
          else
           ((f_L_word [.inr (2, 0), .inl a, .inl (b + (Int32.ofInt 1))] p3.2).bind fun p4 =>
            ((f_V_reach [.inr (5, 0), .inl p4.1, .inl (((p1.2 31 0 b.toNatClampNeg) - (([0, 1, 1, 2, 2, 2, 2, 2, 2, 2, 2, 1, 0, 1, 0, 1, 0, 1, 3, 1, 2, 2, 0, 0, 1, 1, 1, 0] : List Int32).getD p1.1 0)) + (([1, 0, 2, 2, 1, 1, 1, 1, 1, 1, 1, 1, 1, 0, 0, 0, 1, 1, 1, 1, 1, 1, 1, 1, 1, 0, 0, 0] : List Int32).getD p1.1 0))] p4.2).bind fun p5 =>
             some (some (.inl p5.1), p5.2)))))
        else
         some (some (.inl (Int32.ofInt 0)), p2.2))
       else
        ((f_V_reach [.inr (5, 0), .inl (b + (([2, 1, 1, 1, 1, 1, 1, 1, 1, 1, 1, 1, 2, 2, 2, 2, 2, 3, 2, 2, 3, 3, 2, 2, 2, 1, 1, 1] : List Int32).getD p1.1 0)), .inl (((p1.2 31 0 b.toNatClampNeg) - (([0, 1, 1, 2, 2, 2, 2, 2, 2, 2, 2, 1, 0, 1, 0, 1, 0, 1, 3, 1, 2, 2, 0, 0, 1, 1, 1, 0] : List Int32).getD p1.1 0)) + (([1, 0, 2, 2, 1, 1, 1, 1, 1, 1, 1, 1, 1, 0, 0, 0, 1, 1, 1, 1, 1, 1, 1, 1, 1, 0, 0, 0] : List Int32).getD p1.1 0))] p2.2).bind fun p6 =>
         (if p6.1 = 0 then
          ((f_I_mayJump [.inr (100, p1.1)] p6.2).bind fun p7 =>
           (if p7.1 = 0 then
            some (some (.inl p6.1), p7.2)
           else
            ((f_L_word [.inr (2, 0), .inl a, .inl (b + (Int32.ofInt 1))] p7.2).bind fun p8 =>
             ((f_V_reach [.inr (5, 0), .inl p8.1, .inl (((p1.2 31 0 b.toNatClampNeg) - (([0, 1, 1, 2, 2, 2, 2, 2, 2, 2, 2, 1, 0, 1, 0, 1, 0, 1, 3, 1, 2, 2, 0, 0, 1, 1, 1, 0] : List Int32).getD p1.1 0)) + (([1, 0, 2, 2, 1, 1, 1, 1, 1, 1, 1, 1, 1, 0, 0, 0, 1, 1, 1, 1, 1, 1, 1, 1, 1, 0, 0, 0] : List Int32).getD p1.1 0))] p8.2).bind fun p9 =>
              some (some (.inl p9.1), p9.2)))))
         else
          some (some (.inl p6.1), p6.2)))))))
   else
    none)) := rfl
set_option maxRecDepth 100000 in
set_option maxHeartbeats 4000000 in
theorem x_V_firstFault (a : Int32) (g : mG) : rn_V_firstFault 21 0 (mL0 [.inr (5, 0), .inr (2, 0), .inl a] 4) [] g =
  ((f_V_faultOfWords [.inr (5, 0), .inr (2, 0), .inl a] g).bind fun p1 =>
   (if p1.1 = 0 then
    ((f_V_faultOfPlaces [.inr (5, 0), .inr (2, 0), .inl a] p1.2).bind fun p3 =>
     (if p3.1 = 0 then
      ((f_V_faultOfHeights [.inr (5, 0), .inr (2, 0), .inl a] p3.2).bind fun p4 =>
       some (some (.inl p4.1), p4.2))
     else
      some (some (.inl p3.1), p3.2)))
   else
    (if p1.1 = 0 then
     ((f_V_faultOfHeights [.inr (5, 0), .inr (2, 0), .inl a] p1.2).bind fun p2 =>
      some (some (.inl p2.1), p2.2))
    else
     some (some (.inl p1.1), p1.2)))) := rfl
set_option maxRecDepth 100000 in
set_option maxHeartbeats 4000000 in
theorem x_L_closeOpen (g : mG) : rn_L_closeOpen 23 0 (mL0 [.inr (2, 0)] 2) [] g =
  (if (g 2 0 4) = 0 then
   some (some (.inl (Int32.ofInt (-1))), g)
  else
   (if isB (Int32.ofInt 0) then
    ((f_V_firstFault [.inr (5, 0), .inr (2, 0), .inl (g 2 0 3)] (st3 g 2 0 4 (Int32.ofInt 0))).bind fun p1 =>
     (if p1.1 = 0 then
      some (some (.inl p1.1), (st3 p1.2 2 0 3 ((p1.2 2 0 3) + (Int32.ofInt 1))))
     else
      some (some (.inl p1.1), p1.2)))
   else
    none)) := rfl
set_option maxRecDepth 100000 in
set_option maxHeartbeats 4000000 in
theorem x_B_end (g : mG) : rn_B_end 4 0 (mL0 [.inr (0, 0)] 1) [] g =
  ((f_L_closeOpen [.inr (2, 0)] g).bind fun p1 =>
   some (some (.inl p1.1), p1.2)) := rfl
set_option maxRecDepth 100000 in
set_option maxHeartbeats 4000000 in
theorem x_B_procedures (g : mG) : rn_B_procedures 4 0 (mL0 [.inr (0, 0)] 1) [] g =
  some (some (.inl (g 2 0 3)), g) := rfl
set_option maxRecDepth 100000 in
set_option maxHeartbeats 4000000 in
theorem x_L_has (a : Int32) (g : mG) : rn_L_has 5 0 (mL0 [.inr (2, 0), .inl a] 2) [] g =
  ((f_B_isBelow [.inl a, .inl (g 2 0 3)] g).bind fun p1 =>
   (if isB p1.1 then
    some (some (.inl p1.1), p1.2)
   else
    none)) := rfl
set_option maxRecDepth 100000 in
set_option maxHeartbeats 4000000 in
theorem x_G_put (a : Int32) (b : Int32) (c : Int32) (g : mG) : rn_G_put 18 0 (mL0 [.inr (4, 0), .inl a, .inl b, .inl c] 4) [] g =
  ((f_B_isBelow [.inl a, .inl (Int32.ofInt 4)] g).bind fun p1 =>
   (if p1.1 = 0 then
    some (none, p1.2)
   else
    ((f_B_isBelow [.inl b, .inl (Int32.ofInt 3)] p1.2).bind fun p2 =>
     (if p2.1 = 0 then
      some (none, p2.2)
     else
      (if inB ((a * (Int32.ofInt 3)) + b) 12 then
       some (none, (st3 p2.2 30 0 (((a * (Int32.ofInt 3)) + b).toNatClampNeg) c))
      else
       none))))) := rfl
set_option maxRecDepth 100000 in
set_option maxHeartbeats 4000000 in
theorem x_B_bind (a : Int32) (b : Int32) (c : Int32) (g : mG) : rn_B_bind 21 0 (mL0 [.inr (0, 0), .inl a, .inl b, .inl c] 4) [] g =
  ((f_B_isBelow [.inl a, .inl (Int32.ofInt 4)] g).bind fun p1 =>
   (if p1.1 = 0 then
    some (some (.inl (Int32.ofInt 1)), p1.2)
   else
    ((f_B_isBelow [.inl b, .inl (Int32.ofInt 3)] p1.2).bind fun p2 =>
     (if p2.1 = 0 then
      some (some (.inl (Int32.ofInt 2)), p2.2)
     else
      ((f_L_has [.inr (2, 0), .inl c] p2.2).bind fun p3 =>
       (if p3.1 = 0 then
        some (some (.inl (Int32.ofInt 3)), p3.2)
       else
        ((f_G_put [.inr (4, 0), .inl a, .inl b, .inl c] p3.2).bind fun p4 =>
         some (some (.inl (Int32.ofInt 0)), p4)))))))) := rfl
set_option maxRecDepth 100000 in
set_option maxHeartbeats 4000000 in
theorem x_G_find (a : Int32) (b : Int32) (g : mG) : rn_G_find 23 0 (mL0 [.inr (4, 0), .inl a, .inl b] 4) [] g =
  ((f_B_isBelow [.inl a, .inl (Int32.ofInt 4)] g).bind fun p1 =>
   (if p1.1 = 0 then
    (if (Int32.ofInt 0) = 0 then
     some (some (.inl (Int32.ofInt (-1))), p1.2)
    else
     (if inB ((a * (Int32.ofInt 3)) + b) 12 then
      some (some (.inl (p1.2 30 0 (((a * (Int32.ofInt 3)) + b).toNatClampNeg))), p1.2)
     else
      none))
   else
    ((f_B_isBelow [.inl b, .inl (Int32.ofInt 3)] p1.2).bind fun p2 =>
     (if p2.1 = 0 then
      (if (Int32.ofInt 0) = 0 then
       some (some (.inl (Int32.ofInt (-1))), p2.2)
      else
       (if inB ((a * (Int32.ofInt 3)) + b) 12 then
        some (some (.inl (p2.2 30 0 (((a * (Int32.ofInt 3)) + b).toNatClampNeg))), p2.2)
       else
        none))
     else
      (if (Int32.ofInt 1) = 0 then
       some (some (.inl (Int32.ofInt (-1))), p2.2)
      else
       (if inB ((a * (Int32.ofInt 3)) + b) 12 then
        some (some (.inl (p2.2 30 0 (((a * (Int32.ofInt 3)) + b).toNatClampNeg))), p2.2)
       else
        none)))))) := rfl
set_option maxRecDepth 100000 in
set_option maxHeartbeats 4000000 in
theorem x_B_unbind (a : Int32) (b : Int32) (g : mG) : rn_B_unbind 18 0 (mL0 [.inr (0, 0), .inl a, .inl b] 4) [] g =
  ((f_G_find [.inr (4, 0), .inl a, .inl b] g).bind fun p1 =>
   (if p1.1 = (Int32.ofInt (-1)) then
    ((f_G_put [.inr (4, 0), .inl a, .inl b, .inl (Int32.ofInt (-1))] p1.2).bind fun p2 =>
     (if isB (Int32.ofInt 0) then
      some (some (.inl (Int32.ofInt 0)), p2)
     else
      none))
   else
    ((f_G_put [.inr (4, 0), .inl a, .inl b, .inl (Int32.ofInt (-1))] p1.2).bind fun p3 =>
     (if isB (Int32.ofInt 1) then
      some (some (.inl (Int32.ofInt 1)), p3)
     else
      none)))) := rfl
set_option maxRecDepth 100000 in
set_option maxHeartbeats 4000000 in
theorem x_T_keep (g : mG) : rn_T_keep 21 0 (mL0 [.inr (3, 0)] 1) [] g =
  (if (0 ≤ (nI 192).toInt ∧ 0 ≤ (Int32.ofInt 0).toInt ∧ 0 ≤ (Int32.ofInt 0).toInt) ∧ (Int32.ofInt 0).toInt + (nI 192).toInt ≤ ((192 : Nat) : Int) ∧ (Int32.ofInt 0).toInt + (nI 192).toInt ≤ ((192 : Nat) : Int) then
   (if (0 ≤ (nI 4).toInt ∧ 0 ≤ (Int32.ofInt 0).toInt ∧ 0 ≤ (Int32.ofInt 0).toInt) ∧ (Int32.ofInt 0).toInt + (nI 4).toInt ≤ ((4 : Nat) : Int) ∧ (Int32.ofInt 0).toInt + (nI 4).toInt ≤ ((4 : Nat) : Int) then
    some (none, (stR (stR g 28 0 (va_cpy (g 26 0) (g 28 0) (Int32.ofInt 0).toNatClampNeg (Int32.ofInt 0).toNatClampNeg (nI 192).toNatClampNeg)) 29 0 (va_cpy (g 27 0) (g 29 0) (Int32.ofInt 0).toNatClampNeg (Int32.ofInt 0).toNatClampNeg (nI 4).toNatClampNeg)))
   else
    none)
  else
   none) := rfl
set_option maxRecDepth 100000 in
set_option maxHeartbeats 4000000 in
theorem x_F_start (j : Nat) (a : Int32) (b : Int32) (g : mG) : rn_F_start 30 0 (mL0 [.inr (10, j), .inl a, .inl b] 3) [] g =
  (if isB (Int32.ofInt 0) then
   ((f_A_fill [.inr (12, j), .inl (Int32.ofInt 0)] (st3 (st3 (st3 (st3 g 10 j 1 (Int32.ofInt 0)) 10 j 5 a) 10 j 6 (Int32.ofInt 0)) 10 j 7 (Int32.ofInt 0))).bind fun p1 =>
    ((f_A_fill [.inr (13, j), .inl (Int32.ofInt 0)] p1).bind fun p2 =>
     ((f_A_fill [.inr (14, j), .inl (Int32.ofInt 0)] p2).bind fun p3 =>
      (if inB (Int32.ofInt 0) 8 then
       some (none, (st3 p3 12 j ((Int32.ofInt 0).toNatClampNeg) b))
      else
       none))))
  else
   none) := rfl
set_option maxRecDepth 100000 in
set_option maxHeartbeats 4000000 in
theorem x_M_open (a : Int32) (b : Int32) (g : mG) : rn_M_open 35 0 (mL0 [.inr (1, 0), .inl a, .inl b] 3) [] g =
  (if (g 1 0 8) < (Int32.ofInt 8) then
   (if inB (g 1 0 8) 8 then
    (if (g 21 0 ((g 1 0 8).toNatClampNeg)).toNatClampNeg < nmC 10 then
     (if (nI ((g 21 0 ((g 1 0 8).toNatClampNeg)).toNatClampNeg)).toNatClampNeg < nmC 10 then
      ((f_F_start [.inr (10, (nI ((g 21 0 ((g 1 0 8).toNatClampNeg)).toNatClampNeg)).toNatClampNeg), .inl a, .inl b] (st3 (st3 g 1 0 9 (nI ((g 21 0 ((g 1 0 8).toNatClampNeg)).toNatClampNeg))) 1 0 8 ((g 1 0 8) + (Int32.ofInt 1)))).bind fun p1 =>
       (if inB (Int32.ofInt 1) 4 then
        (if inB (Int32.ofInt 1) 4 then
         some (some (.inl (Int32.ofInt (-1))), (st3 p1 20 0 ((Int32.ofInt 1).toNatClampNeg) (if (p1 20 0 ((Int32.ofInt 1).toNatClampNeg)) < (p1 1 0 8) then (p1 1 0 8) else (p1 20 0 ((Int32.ofInt 1).toNatClampNeg)))))
        else
         none)
       else
        none))
     else
      none)
    else
     none)
   else
    none)
  else
   some (some (.inl (Int32.ofInt 4)), g)) := rfl
set_option maxRecDepth 100000 in
set_option maxHeartbeats 4000000 in
theorem x_E_ordinal (j : Nat) (g : mG) : rn_E_ordinal 3 0 (mL0 [.inr (100, j)] 1) [] g =
  some (some (.inl (([0, 1, 2, 3, 4, 5, 6, 7, 8, 9, 10, 11, 12, 13, 14, 15, 16, 17, 18, 19, 20, 21, 22, 23, 24, 25, 26, 27] : List Int32).getD j 0)), g) := rfl
set_option maxRecDepth 100000 in
set_option maxHeartbeats 4000000 in
theorem x_F_pop (j : Nat) (g : mG) : rn_F_pop 15 0 (mL0 [.inr (10, j)] 1) [] g =
  (if 0 < (g 10 j 1) then
   (if inB ((st3 g 10 j 1 ((g 10 j 1) - (Int32.ofInt 1))) 10 j 1) 12 then
    some (some (.inl (g 11 j (((st3 g 10 j 1 ((g 10 j 1) - (Int32.ofInt 1))) 10 j 1).toNatClampNeg))), (st3 g 10 j 1 ((g 10 j 1) - (Int32.ofInt 1))))
   else
    none)
  else
   some (some (.inl (Int32.ofInt 0)), g)) := rfl
set_option maxRecDepth 100000 in
set_option maxHeartbeats 4000000 in
theorem x_F_push (j : Nat) (a : Int32) (g : mG) : rn_F_push 17 0 (mL0 [.inr (10, j), .inl a] 2) [] g =
  (if (g 10 j 1) < (Int32.ofInt 12) then
   (if inB (g 10 j 1) 12 then
    some (none, (st3 (st3 g 11 j ((g 10 j 1).toNatClampNeg) a) 10 j 1 ((g 10 j 1) + (Int32.ofInt 1))))
   else
    none)
  else
   some (none, g)) := rfl
set_option maxRecDepth 100000 in
set_option maxHeartbeats 4000000 in
theorem x_M_divide (j : Nat) (q : Nat) (g : mG) : rn_M_divide 19 0 (mL0 [.inr (10, j), .inr (100, q)] 4) [] g =
  ((f_F_pop [.inr (10, j)] g).bind fun p1 =>
   ((f_F_pop [.inr (10, j)] p1.2).bind fun p2 =>
    (if p1.1 = 0 then
     some (some (.inl (Int32.ofInt 2)), p2.2)
    else
     (if q = 7 then
      (if p1.1 = 0 then
       none
      else
       ((f_F_push [.inr (10, j), .inl (p2.1 / p1.1)] p2.2).bind fun p4 =>
        some (some (.inl (Int32.ofInt (-1))), p4)))
     else
      (if p1.1 = 0 then
       none
      else
       ((f_F_push [.inr (10, j), .inl (p2.1 - p2.1 / p1.1 * p1.1)] p2.2).bind fun p3 =>
        some (some (.inl (Int32.ofInt (-1))), p3))))))) := rfl
set_option maxRecDepth 100000 in
set_option maxHeartbeats 4000000 in
theorem x_T_addRow (a : Int32) (g : mG) : rn_T_addRow 25 0 (mL0 [.inr (3, 0), .inl a] 2) [] g =
  ((f_B_isBelow [.inl a, .inl (Int32.ofInt 4)] g).bind fun p1 =>
   (if p1.1 = 0 then
    some (some (.inl (Int32.ofInt (-1))), p1.2)
   else
    (if inB a 4 then
     (if (p1.2 27 0 a.toNatClampNeg) < (Int32.ofInt 16) then
      (if inB a 4 then
       (if inB a 4 then
        (if inB a 4 then
         some (some (.inl (((st3 p1.2 27 0 a.toNatClampNeg ((p1.2 27 0 a.toNatClampNeg) + (Int32.ofInt 1))) 27 0 a.toNatClampNeg) - (Int32.ofInt 1))), (st3 p1.2 27 0 a.toNatClampNeg ((p1.2 27 0 a.toNatClampNeg) + (Int32.ofInt 1))))
        else
         none)
       else
        none)
      else
       none)
     else
      some (some (.inl (Int32.ofInt (-1))), p1.2))
    else
     none))) := rfl
set_option maxRecDepth 100000 in
set_option maxHeartbeats 4000000 in
theorem x_T_has (a : Int32) (b : Int32) (g : mG) : rn_T_has 14 0 (mL0 [.inr (3, 0), .inl a, .inl b] 3) [] g =
  ((f_B_isBelow [.inl a, .inl (Int32.ofInt 4)] g).bind fun p1 =>
   (if p1.1 = 0 then
    (if isB (Int32.ofInt 0) then
     some (some (.inl (Int32.ofInt 0)), p1.2)
    else
     none)
   else
    (if inB a 4 then
     ((f_B_isBelow [.inl b, .inl (p1.2 27 0 a.toNatClampNeg)] p1.2).bind fun p2 =>
      (if p2.1 = 0 then
       (if isB (Int32.ofInt 0) then
        some (some (.inl (Int32.ofInt 0)), p2.2)
       else
        none)
      else
       (if isB (Int32.ofInt 1) then
        some (some (.inl (Int32.ofInt 1)), p2.2)
       else
        none)))
    else
     none))) := rfl
set_option maxRecDepth 100000 in
set_option maxHeartbeats 4000000 in
theorem x_T_index (a : Int32) (b : Int32) (c : Int32) (g : mG) : rn_T_index 10 0 (mL0 [.inl a, .inl b, .inl c] 3) [] g =
  some (some (.inl ((((a * (Int32.ofInt 16)) + b) * (Int32.ofInt 3)) + c)), g) := rfl
set_option maxRecDepth 100000 in
set_option maxHeartbeats 4000000 in
theorem x_T_write (a : Int32) (b : Int32) (c : Int32) (d : Int32) (g : mG) : rn_T_write 18 0 (mL0 [.inr (3, 0), .inl a, .inl b, .inl c, .inl d] 5) [] g =
  ((f_T_has [.inr (3, 0), .inl a, .inl b] g).bind fun p1 =>
   (if p1.1 = 0 then
    some (none, p1.2)
   else
    ((f_B_isBelow [.inl c, .inl (Int32.ofInt 3)] p1.2).bind fun p2 =>
     (if p2.1 = 0 then
      some (none, p2.2)
     else
      ((f_T_index [.inl a, .inl b, .inl c] p2.2).bind fun p3 =>
       (if inB p3.1 192 then
        some (none, (st3 p3.2 26 0 p3.1.toNatClampNeg d))
       else
        none)))))) := rfl
set_option maxRecDepth 100000 in
set_option maxHeartbeats 4000000 in
theorem x_T_read (a : Int32) (b : Int32) (c : Int32) (g : mG) : rn_T_read 18 0 (mL0 [.inr (3, 0), .inl a, .inl b, .inl c] 4) [] g =
  ((f_T_has [.inr (3, 0), .inl a, .inl b] g).bind fun p1 =>
   (if p1.1 = 0 then
    some (some (.inl (Int32.ofInt 0)), p1.2)
   else
    ((f_B_isBelow [.inl c, .inl (Int32.ofInt 3)] p1.2).bind fun p2 =>
     (if p2.1 = 0 then
      some (some (.inl (Int32.ofInt 0)), p2.2)
     else
      ((f_T_index [.inl a, .inl b, .inl c] p2.2).bind fun p3 =>
       (if inB p3.1 192 then
        some (some (.inl (p3.2 26 0 p3.1.toNatClampNeg)), p3.2)
       else
        none)))))) := rfl
set_option maxRecDepth 100000 in
set_option maxHeartbeats 4000000 in
theorem x_F_becomeTrigger (j : Nat) (a : Int32) (g : mG) : rn_F_becomeTrigger 21 0 (mL0 [.inr (10, j), .inr (22, 0), .inr (23, 0), .inl a] 4) [] g =
  (if isB (Int32.ofInt 1) then
   (if (0 ≤ (Int32.ofInt 3).toInt ∧ 0 ≤ (Int32.ofInt 0).toInt ∧ 0 ≤ (Int32.ofInt 0).toInt) ∧ (Int32.ofInt 0).toInt + (Int32.ofInt 3).toInt ≤ ((3 : Nat) : Int) ∧ (Int32.ofInt 0).toInt + (Int32.ofInt 3).toInt ≤ ((3 : Nat) : Int) then
    (if (0 ≤ (Int32.ofInt 3).toInt ∧ 0 ≤ (Int32.ofInt 0).toInt ∧ 0 ≤ (Int32.ofInt 0).toInt) ∧ (Int32.ofInt 0).toInt + (Int32.ofInt 3).toInt ≤ ((3 : Nat) : Int) ∧ (Int32.ofInt 0).toInt + (Int32.ofInt 3).toInt ≤ ((3 : Nat) : Int) then
     some (none, (stR (stR (st3 (st3 g 10 j 7 (Int32.ofInt 1)) 10 j 8 a) 13 j (va_cpy (g 22 0) (g 13 j) (Int32.ofInt 0).toNatClampNeg (Int32.ofInt 0).toNatClampNeg (Int32.ofInt 3).toNatClampNeg)) 14 j (va_cpy (g 23 0) (g 14 j) (Int32.ofInt 0).toNatClampNeg (Int32.ofInt 0).toNatClampNeg (Int32.ofInt 3).toNatClampNeg)))
    else
     none)
   else
    none)
  else
   none) := rfl
set_option maxRecDepth 100000 in
set_option maxHeartbeats 4000000 in
theorem x_M_fire (a : Int32) (b : Int32) (c : Int32) (d : Int32) (g : mG) : rn_M_fire 43 0 (mL0 [.inr (1, 0), .inl a, .inl b, .inl c, .inl d] 7) [] g =
  (if inB (Int32.ofInt 3) 4 then
   (if inB (Int32.ofInt 3) 4 then
    ((f_G_find [.inr (4, 0), .inl a, .inl b] (st3 g 20 0 ((Int32.ofInt 3).toNatClampNeg) ((g 20 0 ((Int32.ofInt 3).toNatClampNeg)) + (Int32.ofInt 1)))).bind fun p1 =>
     (if p1.1 = (Int32.ofInt (-1)) then
      (if (p1.2 1 0 9).toNatClampNeg < nmC 10 then
       ((f_F_push [.inr (10, (p1.2 1 0 9).toNatClampNeg), .inl d] p1.2).bind fun p4 =>
        some (some (.inl (Int32.ofInt (-1))), p4))
      else
       none)
     else
      ((f_M_open [.inr (1, 0), .inl p1.1, .inl c] p1.2).bind fun p2 =>
       (if p2.1 = (Int32.ofInt (-1)) then
        (if inB (Int32.ofInt 2) 4 then
         (if inB (Int32.ofInt 2) 4 then
          (if (p2.2 1 0 9).toNatClampNeg < nmC 10 then
           ((f_F_becomeTrigger [.inr (10, (p2.2 1 0 9).toNatClampNeg), .inr (22, 0), .inr (23, 0), .inl d] (st3 p2.2 20 0 ((Int32.ofInt 2).toNatClampNeg) ((p2.2 20 0 ((Int32.ofInt 2).toNatClampNeg)) + (Int32.ofInt 1)))).bind fun p3 =>
            some (some (.inl p2.1), p3))
          else
           none)
         else
          none)
        else
         none)
       else
        some (some (.inl p2.1), p2.2)))))
   else
    none)
  else
   none) := rfl
set_option maxRecDepth 100000 in
set_option maxHeartbeats 4000000 in
theorem x_T_removeRow (a : Int32) (b : Int32) (g : mG) : rn_T_removeRow 41 0 (mL0 [.inr (3, 0), .inl a, .inl b] 4) [] g =
  ((f_T_has [.inr (3, 0), .inl a, .inl b] g).bind fun p1 =>
   (if p1.1 = 0 then
    some (none, p1.2)
   else
    (if inB a 4 then
     ((f_T_index [.inl a, .inl (b + (Int32.ofInt 1)), .inl (Int32.ofInt 0)] p1.2).bind fun p2 =>
      ((f_T_index [.inl a, .inl b, .inl (Int32.ofInt 0)] p2.2).bind fun p3 =>
       (if (0 ≤ ((((p1.2 27 0 a.toNatClampNeg) - b) - (Int32.ofInt 1)) * (Int32.ofInt 3)).toInt ∧ 0 ≤ p2.1.toInt ∧ 0 ≤ p3.1.toInt) ∧ p2.1.toInt + ((((p1.2 27 0 a.toNatClampNeg) - b) - (Int32.ofInt 1)) * (Int32.ofInt 3)).toInt ≤ ((192 : Nat) : Int) ∧ p3.1.toInt + ((((p1.2 27 0 a.toNatClampNeg) - b) - (Int32.ofInt 1)) * (Int32.ofInt 3)).toInt ≤ ((192 : Nat) : Int) then
        (if inB a 4 then
         (if inB a 4 then
          some (none, (st3 (stR p3.2 26 0 (va_cpy (p3.2 26 0) (p3.2 26 0) p2.1.toNatClampNeg p3.1.toNatClampNeg ((((p1.2 27 0 a.toNatClampNeg) - b) - (Int32.ofInt 1)) * (Int32.ofInt 3)).toNatClampNeg)) 27 0 a.toNatClampNeg ((p3.2 27 0 a.toNatClampNeg) - (Int32.ofInt 1))))
         else
          none)
        else
         none)
       else
        none)))
    else
     none))) := rfl
set_option maxRecDepth 100000 in
set_option maxHeartbeats 4000000 in
theorem x_M_delete (j : Nat) (a : Int32) (g : mG) : rn_M_delete 32 0 (mL0 [.inr (1, 0), .inr (10, j), .inl a] 4) [] g =
  ((f_F_pop [.inr (10, j)] g).bind fun p1 =>
   ((f_T_has [.inr (3, 0), .inl a, .inl p1.1] p1.2).bind fun p2 =>
    (if p2.1 = 0 then
     ((f_F_push [.inr (10, j), .inl (Int32.ofInt 0)] p2.2).bind fun p7 =>
      some (some (.inl (Int32.ofInt (-1))), p7))
    else
     ((f_T_copyRow [.inr (3, 0), .inl a, .inl p1.1, .inr (22, 0)] p2.2).bind fun p3 =>
      ((f_T_removeRow [.inr (3, 0), .inl a, .inl p1.1] p3).bind fun p4 =>
       ((f_A_fill [.inr (23, 0), .inl (Int32.ofInt 0)] p4).bind fun p5 =>
        ((f_M_fire [.inr (1, 0), .inl a, .inl (Int32.ofInt 1), .inl p1.1, .inl (Int32.ofInt 1)] p5).bind fun p6 =>
         some (some (.inl p6.1), p6.2)))))))) := rfl
set_option maxRecDepth 100000 in
set_option maxHeartbeats 4000000 in
theorem x_M_update (j : Nat) (a : Int32) (b : Int32) (g : mG) : rn_M_update 40 0 (mL0 [.inr (1, 0), .inr (10, j), .inl a, .inl b] 6) [] g =
  ((f_F_pop [.inr (10, j)] g).bind fun p1 =>
   ((f_F_pop [.inr (10, j)] p1.2).bind fun p2 =>
    ((f_T_has [.inr (3, 0), .inl a, .inl p2.1] p2.2).bind fun p3 =>
     (if p3.1 = 0 then
      ((f_F_push [.inr (10, j), .inl (Int32.ofInt 0)] p3.2).bind fun p8 =>
       some (some (.inl (Int32.ofInt (-1))), p8))
     else
      ((f_T_copyRow [.inr (3, 0), .inl a, .inl p2.1, .inr (22, 0)] p3.2).bind fun p4 =>
       ((f_T_write [.inr (3, 0), .inl a, .inl p2.1, .inl b, .inl p1.1] p4).bind fun p5 =>
        ((f_T_copyRow [.inr (3, 0), .inl a, .inl p2.1, .inr (23, 0)] p5).bind fun p6 =>
         ((f_M_fire [.inr (1, 0), .inl a, .inl (Int32.ofInt 2), .inl p2.1, .inl (Int32.ofInt 1)] p6).bind fun p7 =>
          some (some (.inl p7.1), p7.2))))))))) := rfl
set_option maxRecDepth 100000 in
set_option maxHeartbeats 4000000 in
theorem x_M_giveBack (j : Nat) (g : mG) : rn_M_giveBack 32 0 (mL0 [.inr (1, 0), .inr (10, j)] 3) [] g =
  ((f_F_pop [.inr (10, j)] g).bind fun p1 =>
   (if 0 < ((p1.2 1 0 8) - (Int32.ofInt 1)) then
    (if inB (((p1.2 1 0 8) - (Int32.ofInt 1)) - (Int32.ofInt 1)) 8 then
     (if (p1.2 21 0 ((((p1.2 1 0 8) - (Int32.ofInt 1)) - (Int32.ofInt 1)).toNatClampNeg)).toNatClampNeg < nmC 10 then
      (if (nI ((p1.2 21 0 ((((p1.2 1 0 8) - (Int32.ofInt 1)) - (Int32.ofInt 1)).toNatClampNeg)).toNatClampNeg)).toNatClampNeg < nmC 10 then
       (if (p1.2 10 j 7) = 0 then
        ((f_F_push [.inr (10, (nI ((p1.2 21 0 ((((p1.2 1 0 8) - (Int32.ofInt 1)) - (Int32.ofInt 1)).toNatClampNeg)).toNatClampNeg)).toNatClampNeg), .inl p1.1] (st3 (st3 p1.2 1 0 8 ((p1.2 1 0 8) - (Int32.ofInt 1))) 1 0 9 (nI ((p1.2 21 0 ((((p1.2 1 0 8) - (Int32.ofInt 1)) - (Int32.ofInt 1)).toNatClampNeg)).toNatClampNeg)))).bind fun p2 =>
         some (some (.inl (Int32.ofInt (-1))), p2))
       else
        ((f_F_push [.inr (10, (nI ((p1.2 21 0 ((((p1.2 1 0 8) - (Int32.ofInt 1)) - (Int32.ofInt 1)).toNatClampNeg)).toNatClampNeg)).toNatClampNeg), .inl (p1.2 10 j 8)] (st3 (st3 p1.2 1 0 8 ((p1.2 1 0 8) - (Int32.ofInt 1))) 1 0 9 (nI ((p1.2 21 0 ((((p1.2 1 0 8) - (Int32.ofInt 1)) - (Int32.ofInt 1)).toNatClampNeg)).toNatClampNeg)))).bind fun p3 =>
         some (some (.inl (Int32.ofInt (-1))), p3)))
      else
       none)
     else
      none)
    else
     none)
   else
    some (some (.inl (Int32.ofInt 0)), (st3 (st3 p1.2 1 0 8 ((p1.2 1 0 8) - (Int32.ofInt 1))) 1 0 4 p1.1)))) := rfl
set_option maxRecDepth 100000 in
set_option maxHeartbeats 4000000 in
theorem x_F_at_12 (j : Nat) (a : Int32) (g : mG) : rn_F_at 10 0 (mL0 [.inr (12, j), .inl a] 2) [] g =
  ((f_B_isBelow [.inl a, .inl (nI 8)] g).bind fun p1 =>
   (if p1.1 = 0 then
    some (some (.inl (Int32.ofInt 0)), p1.2)
   else
    (if inB a 8 then
     some (some (.inl (p1.2 12 j a.toNatClampNeg)), p1.2)
    else
     none))) := rfl
set_option maxRecDepth 100000 in
set_option maxHeartbeats 4000000 in
theorem x_F_at_13 (j : Nat) (a : Int32) (g : mG) : rn_F_at 10 0 (mL0 [.inr (13, j), .inl a] 2) [] g =
  ((f_B_isBelow [.inl a, .inl (nI 3)] g).bind fun p1 =>
   (if p1.1 = 0 then
    some (some (.inl (Int32.ofInt 0)), p1.2)
   else
    (if inB a 3 then
     some (some (.inl (p1.2 13 j a.toNatClampNeg)), p1.2)
    else
     none))) := rfl
set_option maxRecDepth 100000 in
set_option maxHeartbeats 4000000 in
theorem x_F_at_14 (j : Nat) (a : Int32) (g : mG) : rn_F_at 10 0 (mL0 [.inr (14, j), .inl a] 2) [] g =
  ((f_B_isBelow [.inl a, .inl (nI 3)] g).bind fun p1 =>
   (if p1.1 = 0 then
    some (some (.inl (Int32.ofInt 0)), p1.2)
   else
    (if inB a 3 then
     some (some (.inl (p1.2 14 j a.toNatClampNeg)), p1.2)
    else
     none))) := rfl
set_option maxRecDepth 100000 in
set_option maxHeartbeats 4000000 in
theorem x_F_store (j : Nat) (a : Int32) (b : Int32) (g : mG) : rn_F_store 10 0 (mL0 [.inr (10, j), .inl a, .inl b] 3) [] g =
  ((f_B_isBelow [.inl a, .inl (Int32.ofInt 8)] g).bind fun p1 =>
   (if p1.1 = 0 then
    some (none, p1.2)
   else
    (if inB a 8 then
     some (none, (st3 p1.2 12 j a.toNatClampNeg b))
    else
     none))) := rfl
set_option maxRecDepth 100000 in
set_option maxHeartbeats 4000000 in
theorem x_T_size (a : Int32) (g : mG) : rn_T_size 10 0 (mL0 [.inr (3, 0), .inl a] 2) [] g =
  ((f_B_isBelow [.inl a, .inl (Int32.ofInt 4)] g).bind fun p1 =>
   (if p1.1 = 0 then
    some (some (.inl (Int32.ofInt (-1))), p1.2)
   else
    (if inB a 4 then
     some (some (.inl (p1.2 27 0 a.toNatClampNeg)), p1.2)
    else
     none))) := rfl
set_option maxRecDepth 100000 in
set_option maxHeartbeats 4000000 in
theorem x_M_computeOfTwo (j : Nat) (q : Nat) (a : Int32) (b : Int32) (g : mG) : rn_M_computeOfTwo 22 0 (mL0 [.inr (1, 0), .inr (10, j), .inr (100, q), .inl a, .inl b] 7) [] g =
  ((f_F_pop [.inr (10, j)] g).bind fun p1 =>
   ((f_F_pop [.inr (10, j)] p1.2).bind fun p2 =>
    ((f_E_ordinal [.inr (100, q)] p2.2).bind fun p3 =>
     (if inB p3.1 smC.length then
      (if (smC.getD p3.1.toNatClampNeg 0) = (21 : Int32) then
       ((f_F_push [.inr (10, j), .inl p1.1] p3.2).bind fun p13 =>
        ((f_F_push [.inr (10, j), .inl p2.1] p13).bind fun p14 =>
         some (none, p14)))
      else
       (if (smC.getD p3.1.toNatClampNeg 0) = (22 : Int32) then
        ((f_F_push [.inr (10, j), .inl (p2.1 + p1.1)] p3.2).bind fun p12 =>
         some (none, p12))
       else
        (if (smC.getD p3.1.toNatClampNeg 0) = (23 : Int32) then
         ((f_F_push [.inr (10, j), .inl (p2.1 - p1.1)] p3.2).bind fun p11 =>
          some (none, p11))
        else
         (if (smC.getD p3.1.toNatClampNeg 0) = (24 : Int32) then
          ((f_F_push [.inr (10, j), .inl (p2.1 * p1.1)] p3.2).bind fun p10 =>
           some (none, p10))
         else
          (if (smC.getD p3.1.toNatClampNeg 0) = (25 : Int32) then
           (if p2.1 < p1.1 then
            ((f_F_push [.inr (10, j), .inl (Int32.ofInt 1)] p3.2).bind fun p9 =>
             some (none, p9))
           else
            ((f_F_push [.inr (10, j), .inl (Int32.ofInt 0)] p3.2).bind fun p8 =>
             some (none, p8)))
          else
           (if (smC.getD p3.1.toNatClampNeg 0) = (26 : Int32) then
            (if p2.1 = p1.1 then
             ((f_F_push [.inr (10, j), .inl (Int32.ofInt 1)] p3.2).bind fun p7 =>
              some (none, p7))
            else
             ((f_F_push [.inr (10, j), .inl (Int32.ofInt 0)] p3.2).bind fun p6 =>
              some (none, p6)))
           else
            (if (smC.getD p3.1.toNatClampNeg 0) = (27 : Int32) then
             ((f_T_find [.inr (3, 0), .inl a, .inl p2.1, .inl b, .inl p1.1] p3.2).bind fun p4 =>
              ((f_F_push [.inr (10, j), .inl p4.1] p4.2).bind fun p5 =>
               some (none, p5)))
            else
             some (none, p3.2))))))))
     else
      none)))) := rfl
set_option maxRecDepth 100000 in
set_option maxHeartbeats 4000000 in
theorem x_M_compute (j : Nat) (q : Nat) (a : Int32) (b : Int32) (g : mG) : rn_M_compute 16 0 (mL0 [.inr (1, 0), .inr (10, j), .inr (100, q), .inl a, .inl b] 6) [] g =
  ((f_E_ordinal [.inr (100, q)] g).bind fun p1 =>
   (if inB p1.1 smC.length then
    (if (smC.getD p1.1.toNatClampNeg 0) = (11 : Int32) then
     ((f_F_push [.inr (10, j), .inl a] p1.2).bind fun p23 =>
      some (none, p23))
    else
     (if (smC.getD p1.1.toNatClampNeg 0) = (12 : Int32) then
      ((f_F_pop [.inr (10, j)] p1.2).bind fun p22 =>
       some (none, p22.2))
     else
      (if (smC.getD p1.1.toNatClampNeg 0) = (13 : Int32) then
       ((f_F_pop [.inr (10, j)] p1.2).bind fun p19 =>
        ((f_F_push [.inr (10, j), .inl p19.1] p19.2).bind fun p20 =>
         ((f_F_push [.inr (10, j), .inl p19.1] p20).bind fun p21 =>
          some (none, p21))))
      else
       (if (smC.getD p1.1.toNatClampNeg 0) = (14 : Int32) then
        ((f_F_pop [.inr (10, j)] p1.2).bind fun p16 =>
         (if p16.1 = 0 then
          ((f_F_push [.inr (10, j), .inl (Int32.ofInt 1)] p16.2).bind fun p18 =>
           some (none, p18))
         else
          ((f_F_push [.inr (10, j), .inl (Int32.ofInt 0)] p16.2).bind fun p17 =>
           some (none, p17))))
       else
        (if (smC.getD p1.1.toNatClampNeg 0) = (15 : Int32) then
         ((f_F_at [.inr (12, j), .inl a] p1.2).bind fun p14 =>
          ((f_F_push [.inr (10, j), .inl p14.1] p14.2).bind fun p15 =>
           some (none, p15)))
        else
         (if (smC.getD p1.1.toNatClampNeg 0) = (16 : Int32) then
          ((f_F_pop [.inr (10, j)] p1.2).bind fun p12 =>
           ((f_F_store [.inr (10, j), .inl a, .inl p12.1] p12.2).bind fun p13 =>
            some (none, p13)))
         else
          (if (smC.getD p1.1.toNatClampNeg 0) = (17 : Int32) then
           ((f_T_size [.inr (3, 0), .inl a] p1.2).bind fun p10 =>
            ((f_F_push [.inr (10, j), .inl p10.1] p10.2).bind fun p11 =>
             some (none, p11)))
          else
           (if (smC.getD p1.1.toNatClampNeg 0) = (18 : Int32) then
            ((f_F_pop [.inr (10, j)] p1.2).bind fun p7 =>
             ((f_T_read [.inr (3, 0), .inl a, .inl p7.1, .inl b] p7.2).bind fun p8 =>
              ((f_F_push [.inr (10, j), .inl p8.1] p8.2).bind fun p9 =>
               some (none, p9))))
           else
            (if (smC.getD p1.1.toNatClampNeg 0) = (19 : Int32) then
             ((f_F_at [.inr (13, j), .inl a] p1.2).bind fun p5 =>
              ((f_F_push [.inr (10, j), .inl p5.1] p5.2).bind fun p6 =>
               some (none, p6)))
            else
             (if (smC.getD p1.1.toNatClampNeg 0) = (20 : Int32) then
              ((f_F_at [.inr (14, j), .inl a] p1.2).bind fun p3 =>
               ((f_F_push [.inr (10, j), .inl p3.1] p3.2).bind fun p4 =>
                some (none, p4)))
             else
              ((f_M_computeOfTwo [.inr (1, 0), .inr (10, j), .inr (100, q), .inl a, .inl b] p1.2).bind fun p2 =>
               some (none, p2))))))))))))
   else
    none)) := rfl
set_option maxRecDepth 100000 in
set_option maxHeartbeats 4000000 in
theorem x_M_step (g : mG) : rn_M_step 52 0 (mL0 [.inr (1, 0)] 5) [] g =
  (if (g 1 0 9).toNatClampNeg < nmC 10 then
   ((f_L_instructionAt [.inr (2, 0), .inl (g 10 ((g 1 0 9).toNatClampNeg) 5), .inl (g 10 ((g 1 0 9).toNatClampNeg) 6)] g).bind fun p1 =>
    ((f_L_word [.inr (2, 0), .inl (p1.2 10 ((g 1 0 9).toNatClampNeg) 5), .inl ((p1.2 10 ((g 1 0 9).toNatClampNeg) 6) + (Int32.ofInt 1))] p1.2).bind fun p2 =>
     ((f_L_word [.inr (2, 0), .inl (p2.2 10 ((g 1 0 9).toNatClampNeg) 5), .inl ((p2.2 10 ((g 1 0 9).toNatClampNeg) 6) + (Int32.ofInt 2))] p2.2).bind fun p3 =>
      ((f_E_ordinal [.inr (100, p1.1)] (st3 p3.2 10 ((g 1 0 9).toNatClampNeg) 6 ((p3.2 10 ((g 1 0 9).toNatClampNeg) 6) + (([2, 1, 1, 1, 1, 1, 1, 1, 1, 1, 1, 1, 2, 2, 2, 2, 2, 3, 2, 2, 3, 3, 2, 2, 2, 1, 1, 1] : List Int32).getD p1.1 0)))).bind fun p4 =>
       (if inB p4.1 smC.length then
        (if (smC.getD p4.1.toNatClampNeg 0) = (1 : Int32) then
         ((f_M_divide [.inr (10, (g 1 0 9).toNatClampNeg), .inr (100, p1.1)] p4.2).bind fun p14 =>
          some (some (.inl p14.1), p14.2))
        else
         (if (smC.getD p4.1.toNatClampNeg 0) = (2 : Int32) then
          ((f_M_divide [.inr (10, (g 1 0 9).toNatClampNeg), .inr (100, p1.1)] p4.2).bind fun p14 =>
           some (some (.inl p14.1), p14.2))
         else
          (if (smC.getD p4.1.toNatClampNeg 0) = (3 : Int32) then
           some (some (.inl (Int32.ofInt (-1))), (st3 p4.2 10 ((g 1 0 9).toNatClampNeg) 6 p2.1))
          else
           (if (smC.getD p4.1.toNatClampNeg 0) = (4 : Int32) then
            ((f_F_pop [.inr (10, (g 1 0 9).toNatClampNeg)] p4.2).bind fun p13 =>
             (if p13.1 = 0 then
              some (some (.inl (Int32.ofInt (-1))), (st3 p13.2 10 ((g 1 0 9).toNatClampNeg) 6 p2.1))
             else
              some (some (.inl (Int32.ofInt (-1))), (st3 p13.2 10 ((g 1 0 9).toNatClampNeg) 6 (p13.2 10 ((g 1 0 9).toNatClampNeg) 6)))))
           else
            (if (smC.getD p4.1.toNatClampNeg 0) = (5 : Int32) then
             ((f_M_insert [.inr (1, 0), .inr (10, (g 1 0 9).toNatClampNeg), .inl p2.1] p4.2).bind fun p12 =>
              some (some (.inl p12.1), p12.2))
            else
             (if (smC.getD p4.1.toNatClampNeg 0) = (6 : Int32) then
              ((f_M_delete [.inr (1, 0), .inr (10, (g 1 0 9).toNatClampNeg), .inl p2.1] p4.2).bind fun p11 =>
               some (some (.inl p11.1), p11.2))
             else
              (if (smC.getD p4.1.toNatClampNeg 0) = (7 : Int32) then
               ((f_M_update [.inr (1, 0), .inr (10, (g 1 0 9).toNatClampNeg), .inl p2.1, .inl p3.1] p4.2).bind fun p10 =>
                some (some (.inl p10.1), p10.2))
              else
               (if (smC.getD p4.1.toNatClampNeg 0) = (8 : Int32) then
                ((f_F_pop [.inr (10, (g 1 0 9).toNatClampNeg)] p4.2).bind fun p8 =>
                 ((f_M_open [.inr (1, 0), .inl p2.1, .inl p8.1] p8.2).bind fun p9 =>
                  some (some (.inl p9.1), p9.2)))
               else
                (if (smC.getD p4.1.toNatClampNeg 0) = (9 : Int32) then
                 ((f_F_pop [.inr (10, (g 1 0 9).toNatClampNeg)] p4.2).bind fun p7 =>
                  some (some (.inl (Int32.ofInt 1)), (st3 p7.2 1 0 4 p7.1)))
                else
                 (if (smC.getD p4.1.toNatClampNeg 0) = (10 : Int32) then
                  ((f_M_giveBack [.inr (1, 0), .inr (10, (g 1 0 9).toNatClampNeg)] p4.2).bind fun p6 =>
                   some (some (.inl p6.1), p6.2))
                 else
                  ((f_M_compute [.inr (1, 0), .inr (10, (g 1 0 9).toNatClampNeg), .inr (100, p1.1), .inl p2.1, .inl p3.1] p4.2).bind fun p5 =>
                   some (some (.inl (Int32.ofInt (-1))), p5))))))))))))
       else
        none)))))
  else
   none) := rfl
set_option maxRecDepth 100000 in
set_option maxHeartbeats 4000000 in
theorem x_T_takeBack (g : mG) : rn_T_takeBack 21 0 (mL0 [.inr (3, 0)] 1) [] g =
  (if (0 ≤ (nI 192).toInt ∧ 0 ≤ (Int32.ofInt 0).toInt ∧ 0 ≤ (Int32.ofInt 0).toInt) ∧ (Int32.ofInt 0).toInt + (nI 192).toInt ≤ ((192 : Nat) : Int) ∧ (Int32.ofInt 0).toInt + (nI 192).toInt ≤ ((192 : Nat) : Int) then
   (if (0 ≤ (nI 4).toInt ∧ 0 ≤ (Int32.ofInt 0).toInt ∧ 0 ≤ (Int32.ofInt 0).toInt) ∧ (Int32.ofInt 0).toInt + (nI 4).toInt ≤ ((4 : Nat) : Int) ∧ (Int32.ofInt 0).toInt + (nI 4).toInt ≤ ((4 : Nat) : Int) then
    some (none, (stR (stR g 26 0 (va_cpy (g 28 0) (g 26 0) (Int32.ofInt 0).toNatClampNeg (Int32.ofInt 0).toNatClampNeg (nI 192).toNatClampNeg)) 27 0 (va_cpy (g 29 0) (g 27 0) (Int32.ofInt 0).toNatClampNeg (Int32.ofInt 0).toNatClampNeg (nI 4).toNatClampNeg)))
   else
    none)
  else
   none) := rfl
set_option maxRecDepth 100000 in
set_option maxHeartbeats 4000000 in
theorem x_B_call (a : Int32) (b : Int32) (c : Int32) (g : mG) : rn_B_call 11 0 (mL0 [.inr (0, 0), .inl a, .inl b, .inl c] 4) [] g =
  ((f_M_perform [.inr (1, 0), .inl a, .inl b, .inl (if (Int32.ofInt 0) < (if (Int32.ofInt 2000) < c then (Int32.ofInt 2000) else c) then (if (Int32.ofInt 2000) < c then (Int32.ofInt 2000) else c) else (Int32.ofInt 0))] g).bind fun p1 =>
   some (some (.inl p1.1), p1.2)) := rfl
set_option maxRecDepth 100000 in
set_option maxHeartbeats 4000000 in
theorem x_B_value (g : mG) : rn_B_value 4 0 (mL0 [.inr (0, 0)] 1) [] g =
  some (some (.inl (g 1 0 4)), g) := rfl
set_option maxRecDepth 100000 in
set_option maxHeartbeats 4000000 in
theorem x_B_count (a : Int32) (g : mG) : rn_B_count 11 0 (mL0 [.inr (0, 0), .inl a] 2) [] g =
  ((f_B_isBelow [.inl a, .inl (Int32.ofInt 4)] g).bind fun p1 =>
   (if p1.1 = 0 then
    some (some (.inl (Int32.ofInt (-1))), p1.2)
   else
    (if inB a 4 then
     some (some (.inl (p1.2 20 0 a.toNatClampNeg)), p1.2)
    else
     none))) := rfl
set_option maxRecDepth 100000 in
set_option maxHeartbeats 4000000 in
theorem x_B_rows (a : Int32) (g : mG) : rn_B_rows 5 0 (mL0 [.inr (0, 0), .inl a] 2) [] g =
  ((f_T_size [.inr (3, 0), .inl a] g).bind fun p1 =>
   some (some (.inl p1.1), p1.2)) := rfl
set_option maxRecDepth 100000 in
set_option maxHeartbeats 4000000 in
theorem x_B_cell (a : Int32) (b : Int32) (c : Int32) (g : mG) : rn_B_cell 7 0 (mL0 [.inr (0, 0), .inl a, .inl b, .inl c] 4) [] g =
  ((f_T_read [.inr (3, 0), .inl a, .inl b, .inl c] g).bind fun p1 =>
   some (some (.inl p1.1), p1.2)) := rfl
