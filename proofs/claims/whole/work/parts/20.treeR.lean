set_option maxRecDepth 100000 in
set_option maxHeartbeats 4000000 in
theorem x_R_begin (g : mG) : rn_R_begin 19 0 (mL0 [.inr (0, 0)] 1) [] g =
  (if (g 0 0 8) = 0 then
   (if (g 0 0 7) = (Int32.ofInt 12) then
    some (some (.inl (Int32.ofInt (-2))), g)
   else
    (if isB (Int32.ofInt 1) then
     (if inB (g 0 0 7) 12 then
      some (some (.inl (g 0 0 7)), (st3 (st3 g 0 0 8 (Int32.ofInt 1)) 7 0 ((g 0 0 7).toNatClampNeg) (Int32.ofInt 0)))
     else
      none)
    else
     none))
  else
   some (some (.inl (Int32.ofInt (-1))), g)) := rfl
set_option maxRecDepth 100000 in
set_option maxHeartbeats 4000000 in
theorem x_R_emit (a : Int32) (g : mG) : rn_R_emit 35 0 (mL0 [.inr (0, 0), .inl a] 2) [] g =
  (if (g 0 0 8) = 0 then
   (if isB (Int32.ofInt 0) then
    some (some (.inl (Int32.ofInt 0)), g)
   else
    none)
  else
   (if inB (g 0 0 7) 12 then
    (if (g 7 0 ((g 0 0 7).toNatClampNeg)) = (Int32.ofInt 60) then
     (if isB (Int32.ofInt 0) then
      some (some (.inl (Int32.ofInt 0)), g)
     else
      none)
    else
     (if inB (g 0 0 7) 12 then
      (if inB (((Int32.ofInt 60) * (g 0 0 7)) + (g 7 0 ((g 0 0 7).toNatClampNeg))) 720 then
       (if inB (g 0 0 7) 12 then
        (if inB (g 0 0 7) 12 then
         (if isB (Int32.ofInt 1) then
          some (some (.inl (Int32.ofInt 1)), (st3 (st3 g 6 0 ((((Int32.ofInt 60) * (g 0 0 7)) + (g 7 0 ((g 0 0 7).toNatClampNeg))).toNatClampNeg) a) 7 0 ((g 0 0 7).toNatClampNeg) ((g 7 0 ((g 0 0 7).toNatClampNeg)) + (Int32.ofInt 1))))
         else
          none)
        else
         none)
       else
        none)
      else
       none)
     else
      none))
   else
    none)) := rfl
set_option maxRecDepth 100000 in
set_option maxHeartbeats 4000000 in
theorem x_R_operands (a : Int32) (g : mG) : rn_R_operands 20 0 (mL0 [.inl a] 1) [] g =
  (if a = (Int32.ofInt 17) then
   some (some (.inl (Int32.ofInt 2)), g)
  else
   (if a = (Int32.ofInt 20) then
    some (some (.inl (Int32.ofInt 2)), g)
   else
    (if a = (Int32.ofInt 21) then
     some (some (.inl (Int32.ofInt 2)), g)
    else
     (if a = 0 then
      some (some (.inl (Int32.ofInt 1)), g)
     else
      (if (Int32.ofInt 11) < a then
       (if a < (Int32.ofInt 25) then
        some (some (.inl (Int32.ofInt 1)), g)
       else
        some (some (.inl (Int32.ofInt 0)), g))
      else
       some (some (.inl (Int32.ofInt 0)), g)))))) := rfl
set_option maxRecDepth 100000 in
set_option maxHeartbeats 4000000 in
theorem x_R_takes (a : Int32) (g : mG) : rn_R_takes 38 0 (mL0 [.inl a] 1) [] g =
  (if a = (Int32.ofInt 18) then
   some (some (.inl (Int32.ofInt 3)), g)
  else
   (if a = (Int32.ofInt 3) then
    some (some (.inl (Int32.ofInt 2)), g)
   else
    (if (Int32.ofInt 3) < a then
     (if a < (Int32.ofInt 11) then
      some (some (.inl (Int32.ofInt 2)), g)
     else
      (if a = (Int32.ofInt 20) then
       some (some (.inl (Int32.ofInt 2)), g)
      else
       (if a = (Int32.ofInt 21) then
        some (some (.inl (Int32.ofInt 2)), g)
       else
        (if a = 0 then
         some (some (.inl (Int32.ofInt 0)), g)
        else
         (if a = (Int32.ofInt 12) then
          some (some (.inl (Int32.ofInt 0)), g)
         else
          (if a = (Int32.ofInt 14) then
           some (some (.inl (Int32.ofInt 0)), g)
          else
           (if a = (Int32.ofInt 16) then
            some (some (.inl (Int32.ofInt 0)), g)
           else
            (if a = (Int32.ofInt 22) then
             some (some (.inl (Int32.ofInt 0)), g)
            else
             (if a = (Int32.ofInt 23) then
              some (some (.inl (Int32.ofInt 0)), g)
             else
              some (some (.inl (Int32.ofInt 1)), g))))))))))
    else
     (if a = (Int32.ofInt 20) then
      some (some (.inl (Int32.ofInt 2)), g)
     else
      (if a = (Int32.ofInt 21) then
       some (some (.inl (Int32.ofInt 2)), g)
      else
       (if a = 0 then
        some (some (.inl (Int32.ofInt 0)), g)
       else
        (if a = (Int32.ofInt 12) then
         some (some (.inl (Int32.ofInt 0)), g)
        else
         (if a = (Int32.ofInt 14) then
          some (some (.inl (Int32.ofInt 0)), g)
         else
          (if a = (Int32.ofInt 16) then
           some (some (.inl (Int32.ofInt 0)), g)
          else
           (if a = (Int32.ofInt 22) then
            some (some (.inl (Int32.ofInt 0)), g)
           else
            (if a = (Int32.ofInt 23) then
             some (some (.inl (Int32.ofInt 0)), g)
            else
             some (some (.inl (Int32.ofInt 1)), g)))))))))))) := rfl
set_option maxRecDepth 100000 in
set_option maxHeartbeats 4000000 in
theorem x_R_gives (a : Int32) (g : mG) : rn_R_gives 21 0 (mL0 [.inl a] 1) [] g =
  (if a = (Int32.ofInt 2) then
   some (some (.inl (Int32.ofInt 2)), g)
  else
   (if a = (Int32.ofInt 3) then
    some (some (.inl (Int32.ofInt 2)), g)
   else
    (if a = (Int32.ofInt 1) then
     some (some (.inl (Int32.ofInt 0)), g)
    else
     (if (Int32.ofInt 12) < a then
      (if a < (Int32.ofInt 16) then
       some (some (.inl (Int32.ofInt 0)), g)
      else
       (if (Int32.ofInt 24) < a then
        some (some (.inl (Int32.ofInt 0)), g)
       else
        some (some (.inl (Int32.ofInt 1)), g)))
     else
      (if (Int32.ofInt 24) < a then
       some (some (.inl (Int32.ofInt 0)), g)
      else
       some (some (.inl (Int32.ofInt 1)), g)))))) := rfl
set_option maxRecDepth 100000 in
set_option maxHeartbeats 4000000 in
theorem x_R_word (a : Int32) (g : mG) : rn_R_word 10 0 (mL0 [.inr (0, 0), .inl a] 2) [] g =
  (if inB (((Int32.ofInt 60) * (g 0 0 7)) + a) 720 then
   some (some (.inl (g 6 0 ((((Int32.ofInt 60) * (g 0 0 7)) + a).toNatClampNeg))), g)
  else
   none) := rfl
set_option maxRecDepth 100000 in
set_option maxHeartbeats 4000000 in
theorem x_R_reach (a : Int32) (b : Int32) (c : Int32) (g : mG) : rn_R_reach 21 0 (mL0 [.inr (0, 0), .inl a, .inl b, .inl c] 4) [] g =
  (if a < c then
   (if inB a 61 then
    (if (g 8 0 a.toNatClampNeg) < 0 then
     (if inB a 61 then
      some (some (.inl (Int32.ofInt 0)), (st3 g 8 0 a.toNatClampNeg b))
     else
      none)
    else
     (if inB a 61 then
      (if (g 8 0 a.toNatClampNeg) = b then
       (if inB a 61 then
        some (some (.inl (Int32.ofInt 0)), (st3 g 8 0 a.toNatClampNeg b))
       else
        none)
      else
       some (some (.inl (Int32.ofInt 7)), g))
     else
      none))
   else
    none)
  else
   some (some (.inl (Int32.ofInt 8)), g)) := rfl
set_option maxRecDepth 100000 in
set_option maxHeartbeats 4000000 in
theorem x_R_look (a : Int32) (b : Int32) (g : mG) : rn_R_look 65 0 (mL0 [.inr (0, 0), .inl a, .inl b] 7) [] g =
  ((f_R_word [.inr (0, 0), .inl a] g).bind fun p1 =>
   (if inB a 61 then
    (if inB a 61 then
     (if isB (Int32.ofInt 1) then
      ((f_R_takes [.inl p1.1] (st3 p1.2 11 0 a.toNatClampNeg (Int32.ofInt 1))).bind fun p2 =>
       (if (p1.2 8 0 a.toNatClampNeg) < p2.1 then
        some (some (.inl (Int32.ofInt 5)), p2.2)
       else
        ((f_R_takes [.inl p1.1] p2.2).bind fun p3 =>
         ((f_R_gives [.inl p1.1] p3.2).bind fun p4 =>
          (if (Int32.ofInt 12) < (((p1.2 8 0 a.toNatClampNeg) - p3.1) + p4.1) then
           some (some (.inl (Int32.ofInt 6)), p4.2)
          else
           (if p1.1 = (Int32.ofInt 14) then
            (if 0 < (Int32.ofInt 0) then
             some (some (.inl (Int32.ofInt 0)), p4.2)
            else
             (if p1.1 = (Int32.ofInt 14) then
              ((f_R_word [.inr (0, 0), .inl (a + (Int32.ofInt 1))] p4.2).bind fun p5 =>
               ((f_R_reach [.inr (0, 0), .inl p5.1, .inl (((p1.2 8 0 a.toNatClampNeg) - p3.1) + p4.1), .inl b] p5.2).bind fun p6 =>
                some (some (.inl p6.1), p6.2)))
             else
              (if p1.1 = (Int32.ofInt 15) then
               ((f_R_word [.inr (0, 0), .inl (a + (Int32.ofInt 1))] p4.2).bind fun p7 =>
                ((f_R_reach [.inr (0, 0), .inl p7.1, .inl (((p1.2 8 0 a.toNatClampNeg) - p3.1) + p4.1), .inl b] p7.2).bind fun p8 =>
                 some (some (.inl p8.1), p8.2)))
              else
               some (some (.inl (Int32.ofInt 0)), p4.2))))
           else
            (if (Int32.ofInt 24) < p1.1 then
             (if 0 < (Int32.ofInt 0) then
              some (some (.inl (Int32.ofInt 0)), p4.2)
             else
              (if p1.1 = (Int32.ofInt 14) then
               ((f_R_word [.inr (0, 0), .inl (a + (Int32.ofInt 1))] p4.2).bind fun p15 =>
                ((f_R_reach [.inr (0, 0), .inl p15.1, .inl (((p1.2 8 0 a.toNatClampNeg) - p3.1) + p4.1), .inl b] p15.2).bind fun p16 =>
                 some (some (.inl p16.1), p16.2)))
              else
               (if p1.1 = (Int32.ofInt 15) then
                ((f_R_word [.inr (0, 0), .inl (a + (Int32.ofInt 1))] p4.2).bind fun p17 =>
                 ((f_R_reach [.inr (0, 0), .inl p17.1, .inl (((p1.2 8 0 a.toNatClampNeg) - p3.1) + p4.1), .inl b] p17.2).bind fun p18 =>
                  some (some (.inl p18.1), p18.2)))
               else
                some (some (.inl (Int32.ofInt 0)), p4.2))))
            else
             ((f_R_operands [.inl p1.1] p4.2).bind fun p9 =>
              ((f_R_reach [.inr (0, 0), .inl ((a + (Int32.ofInt 1)) + p9.1), .inl (((p1.2 8 0 a.toNatClampNeg) - p3.1) + p4.1), .inl b] p9.2).bind fun p10 =>
               (if 0 < p10.1 then
                some (some (.inl p10.1), p10.2)
               else
                (if p1.1 = (Int32.ofInt 14) then
                 ((f_R_word [.inr (0, 0), .inl (a + (Int32.ofInt 1))] p10.2).bind fun p11 =>
                  ((f_R_reach [.inr (0, 0), .inl p11.1, .inl (((p1.2 8 0 a.toNatClampNeg) - p3.1) + p4.1), .inl b] p11.2).bind fun p12 =>
                   some (some (.inl p12.1), p12.2)))
                else
                 (if p1.1 = (Int32.ofInt 15) then
                  ((f_R_word [.inr (0, 0), .inl (a + (Int32.ofInt 1))] p10.2).bind fun p13 =>
                   ((f_R_reach [.inr (0, 0), .inl p13.1, .inl (((p1.2 8 0 a.toNatClampNeg) - p3.1) + p4.1), .inl b] p13.2).bind fun p14 =>
                    some (some (.inl p14.1), p14.2)))
                 else
                  some (some (.inl (Int32.ofInt 0)), p10.2)))))))))))))
     else
      none)
    else
     none)
   else
    none)) := rfl
set_option maxRecDepth 100000 in
set_option maxHeartbeats 4000000 in
theorem x_R_end (g : mG) : rn_R_end 19 0 (mL0 [.inr (0, 0)] 2) [] g =
  (if (g 0 0 8) = 0 then
   some (some (.inl (Int32.ofInt (-1))), g)
  else
   (if isB (Int32.ofInt 0) then
    ((f_R_verify [.inr (0, 0)] (st3 g 0 0 8 (Int32.ofInt 0))).bind fun p1 =>
     (if p1.1 = 0 then
      some (some (.inl p1.1), (st3 p1.2 0 0 7 ((p1.2 0 0 7) + (Int32.ofInt 1))))
     else
      some (some (.inl p1.1), p1.2)))
   else
    none)) := rfl
set_option maxRecDepth 100000 in
set_option maxHeartbeats 4000000 in
theorem x_R_procedures (g : mG) : rn_R_procedures 3 0 (mL0 [.inr (0, 0)] 1) [] g =
  some (some (.inl (g 0 0 7)), g) := rfl
set_option maxRecDepth 100000 in
set_option maxHeartbeats 4000000 in
theorem x_R_bind (a : Int32) (b : Int32) (c : Int32) (g : mG) : rn_R_bind 27 0 (mL0 [.inr (0, 0), .inl a, .inl b, .inl c] 4) [] g =
  (if a < 0 then
   some (some (.inl (Int32.ofInt 1)), g)
  else
   (if (Int32.ofInt 3) < a then
    some (some (.inl (Int32.ofInt 1)), g)
   else
    (if b < 0 then
     some (some (.inl (Int32.ofInt 2)), g)
    else
     (if (Int32.ofInt 2) < b then
      some (some (.inl (Int32.ofInt 2)), g)
     else
      (if c < 0 then
       some (some (.inl (Int32.ofInt 3)), g)
      else
       (if c < (g 0 0 7) then
        (if inB (((Int32.ofInt 3) * a) + b) 12 then
         some (some (.inl (Int32.ofInt 0)), (st3 g 5 0 ((((Int32.ofInt 3) * a) + b).toNatClampNeg) c))
        else
         none)
       else
        some (some (.inl (Int32.ofInt 3)), g))))))) := rfl
set_option maxRecDepth 100000 in
set_option maxHeartbeats 4000000 in
theorem x_R_unbind (a : Int32) (b : Int32) (g : mG) : rn_R_unbind 30 0 (mL0 [.inr (0, 0), .inl a, .inl b] 3) [] g =
  (if a < 0 then
   (if isB (Int32.ofInt 0) then
    some (some (.inl (Int32.ofInt 0)), g)
   else
    none)
  else
   (if (Int32.ofInt 3) < a then
    (if isB (Int32.ofInt 0) then
     some (some (.inl (Int32.ofInt 0)), g)
    else
     none)
   else
    (if b < 0 then
     (if isB (Int32.ofInt 0) then
      some (some (.inl (Int32.ofInt 0)), g)
     else
      none)
    else
     (if (Int32.ofInt 2) < b then
      (if isB (Int32.ofInt 0) then
       some (some (.inl (Int32.ofInt 0)), g)
      else
       none)
     else
      (if inB (((Int32.ofInt 3) * a) + b) 12 then
       (if (g 5 0 ((((Int32.ofInt 3) * a) + b).toNatClampNeg)) < 0 then
        (if isB (Int32.ofInt 0) then
         some (some (.inl (Int32.ofInt 0)), g)
        else
         none)
       else
        (if inB (((Int32.ofInt 3) * a) + b) 12 then
         (if isB (Int32.ofInt 1) then
          some (some (.inl (Int32.ofInt 1)), (st3 g 5 0 ((((Int32.ofInt 3) * a) + b).toNatClampNeg) (Int32.ofInt (-1))))
         else
          none)
        else
         none))
      else
       none))))) := rfl
set_option maxRecDepth 100000 in
set_option maxHeartbeats 4000000 in
theorem x_R_push (a : Int32) (g : mG) : rn_R_push 26 0 (mL0 [.inr (0, 0), .inl a] 3) [] g =
  (if inB ((g 0 0 12) - (Int32.ofInt 1)) 8 then
   (if inB (((Int32.ofInt 13) * ((g 0 0 12) - (Int32.ofInt 1))) + (g 14 0 (((g 0 0 12) - (Int32.ofInt 1)).toNatClampNeg))) 104 then
    (if inB ((g 0 0 12) - (Int32.ofInt 1)) 8 then
     (if inB ((g 0 0 12) - (Int32.ofInt 1)) 8 then
      some (none, (st3 (st3 g 15 0 ((((Int32.ofInt 13) * ((g 0 0 12) - (Int32.ofInt 1))) + (g 14 0 (((g 0 0 12) - (Int32.ofInt 1)).toNatClampNeg))).toNatClampNeg) a) 14 0 (((g 0 0 12) - (Int32.ofInt 1)).toNatClampNeg) ((g 14 0 (((g 0 0 12) - (Int32.ofInt 1)).toNatClampNeg)) + (Int32.ofInt 1))))
     else
      none)
    else
     none)
   else
    none)
  else
   none) := rfl
set_option maxRecDepth 100000 in
set_option maxHeartbeats 4000000 in
theorem x_R_pop (g : mG) : rn_R_pop 25 0 (mL0 [.inr (0, 0)] 2) [] g =
  (if inB ((g 0 0 12) - (Int32.ofInt 1)) 8 then
   (if inB ((g 0 0 12) - (Int32.ofInt 1)) 8 then
    (if inB ((g 0 0 12) - (Int32.ofInt 1)) 8 then
     (if inB (((Int32.ofInt 13) * ((g 0 0 12) - (Int32.ofInt 1))) + ((st3 g 14 0 (((g 0 0 12) - (Int32.ofInt 1)).toNatClampNeg) ((g 14 0 (((g 0 0 12) - (Int32.ofInt 1)).toNatClampNeg)) - (Int32.ofInt 1))) 14 0 (((g 0 0 12) - (Int32.ofInt 1)).toNatClampNeg))) 104 then
      some (some (.inl (g 15 0 ((((Int32.ofInt 13) * ((g 0 0 12) - (Int32.ofInt 1))) + ((st3 g 14 0 (((g 0 0 12) - (Int32.ofInt 1)).toNatClampNeg) ((g 14 0 (((g 0 0 12) - (Int32.ofInt 1)).toNatClampNeg)) - (Int32.ofInt 1))) 14 0 (((g 0 0 12) - (Int32.ofInt 1)).toNatClampNeg))).toNatClampNeg))), (st3 g 14 0 (((g 0 0 12) - (Int32.ofInt 1)).toNatClampNeg) ((g 14 0 (((g 0 0 12) - (Int32.ofInt 1)).toNatClampNeg)) - (Int32.ofInt 1))))
     else
      none)
    else
     none)
   else
    none)
  else
   none) := rfl
set_option maxRecDepth 100000 in
set_option maxHeartbeats 4000000 in
theorem x_R_insert (a : Int32) (g : mG) : rn_R_insert 64 0 (mL0 [.inr (0, 0), .inl a] 7) [] g =
  ((f_R_pop [.inr (0, 0)] g).bind fun p1 =>
   ((f_R_pop [.inr (0, 0)] p1.2).bind fun p2 =>
    ((f_R_pop [.inr (0, 0)] p2.2).bind fun p3 =>
     (if inB a 4 then
      (if (p3.2 1 0 a.toNatClampNeg) = (Int32.ofInt 16) then
       some (none, (st3 p3.2 0 0 21 (Int32.ofInt 5)))
      else
       (if inB (((Int32.ofInt 48) * a) + ((Int32.ofInt 3) * (p3.2 1 0 a.toNatClampNeg))) 192 then
        (if inB ((((Int32.ofInt 48) * a) + ((Int32.ofInt 3) * (p3.2 1 0 a.toNatClampNeg))) + (Int32.ofInt 1)) 192 then
         (if inB ((((Int32.ofInt 48) * a) + ((Int32.ofInt 3) * (p3.2 1 0 a.toNatClampNeg))) + (Int32.ofInt 2)) 192 then
          (if inB a 4 then
           (if inB a 4 then
            ((f_R_push [.inr (0, 0), .inl (p3.2 1 0 a.toNatClampNeg)] (st3 (st3 (st3 (st3 p3.2 2 0 ((((Int32.ofInt 48) * a) + ((Int32.ofInt 3) * (p3.2 1 0 a.toNatClampNeg))).toNatClampNeg) p3.1) 2 0 (((((Int32.ofInt 48) * a) + ((Int32.ofInt 3) * (p3.2 1 0 a.toNatClampNeg))) + (Int32.ofInt 1)).toNatClampNeg) p2.1) 2 0 (((((Int32.ofInt 48) * a) + ((Int32.ofInt 3) * (p3.2 1 0 a.toNatClampNeg))) + (Int32.ofInt 2)).toNatClampNeg) p1.1) 1 0 a.toNatClampNeg ((p3.2 1 0 a.toNatClampNeg) + (Int32.ofInt 1)))).bind fun p4 =>
             ((f_R_fire [.inr (0, 0), .inl a, .inl (Int32.ofInt 0), .inl (p3.2 1 0 a.toNatClampNeg), .inl (Int32.ofInt 0), .inl (Int32.ofInt 0), .inl (Int32.ofInt 0)] p4).bind fun p5 =>
              some (none, p5)))
           else
            none)
          else
           none)
         else
          none)
        else
         none)
       else
        none))
     else
      none)))) := rfl
set_option maxRecDepth 100000 in
set_option maxHeartbeats 4000000 in
theorem x_R_isRow (a : Int32) (b : Int32) (g : mG) : rn_R_isRow 11 0 (mL0 [.inr (0, 0), .inl a, .inl b] 3) [] g =
  (if b < 0 then
   (if isB (Int32.ofInt 0) then
    some (some (.inl (Int32.ofInt 0)), g)
   else
    none)
  else
   (if inB a 4 then
    (if b < (g 1 0 a.toNatClampNeg) then
     (if isB (Int32.ofInt 1) then
      some (some (.inl (Int32.ofInt 1)), g)
     else
      none)
    else
     (if isB (Int32.ofInt 0) then
      some (some (.inl (Int32.ofInt 0)), g)
     else
      none))
   else
    none)) := rfl
set_option maxRecDepth 100000 in
set_option maxHeartbeats 4000000 in
theorem x_R_update (a : Int32) (b : Int32) (g : mG) : rn_R_update 63 0 (mL0 [.inr (0, 0), .inl a, .inl b] 9) [] g =
  ((f_R_pop [.inr (0, 0)] g).bind fun p1 =>
   ((f_R_pop [.inr (0, 0)] p1.2).bind fun p2 =>
    ((f_R_isRow [.inr (0, 0), .inl a, .inl p2.1] p2.2).bind fun p3 =>
     (if p3.1 = 0 then
      ((f_R_push [.inr (0, 0), .inl (Int32.ofInt 0)] p3.2).bind fun p4 =>
       ((f_R_isRow [.inr (0, 0), .inl a, .inl p2.1] p4).bind fun p5 =>
        (if p5.1 = 0 then
         some (none, p5.2)
        else
         (if inB (((Int32.ofInt 48) * a) + ((Int32.ofInt 3) * p2.1)) 192 then
          (if inB ((((Int32.ofInt 48) * a) + ((Int32.ofInt 3) * p2.1)) + (Int32.ofInt 1)) 192 then
           (if inB ((((Int32.ofInt 48) * a) + ((Int32.ofInt 3) * p2.1)) + (Int32.ofInt 2)) 192 then
            (if inB ((((Int32.ofInt 48) * a) + ((Int32.ofInt 3) * p2.1)) + b) 192 then
             ((f_R_fire [.inr (0, 0), .inl a, .inl (Int32.ofInt 2), .inl p2.1, .inl (p5.2 2 0 ((((Int32.ofInt 48) * a) + ((Int32.ofInt 3) * p2.1)).toNatClampNeg)), .inl (p5.2 2 0 (((((Int32.ofInt 48) * a) + ((Int32.ofInt 3) * p2.1)) + (Int32.ofInt 1)).toNatClampNeg)), .inl (p5.2 2 0 (((((Int32.ofInt 48) * a) + ((Int32.ofInt 3) * p2.1)) + (Int32.ofInt 2)).toNatClampNeg))] (st3 p5.2 2 0 (((((Int32.ofInt 48) * a) + ((Int32.ofInt 3) * p2.1)) + b).toNatClampNeg) p1.1)).bind fun p6 =>
              some (none, p6))
            else
             none)
           else
            none)
          else
           none)
         else
          none))))
     else
      ((f_R_push [.inr (0, 0), .inl (Int32.ofInt 1)] p3.2).bind fun p7 =>
       ((f_R_isRow [.inr (0, 0), .inl a, .inl p2.1] p7).bind fun p8 =>
        (if p8.1 = 0 then
         some (none, p8.2)
        else
         (if inB (((Int32.ofInt 48) * a) + ((Int32.ofInt 3) * p2.1)) 192 then
          (if inB ((((Int32.ofInt 48) * a) + ((Int32.ofInt 3) * p2.1)) + (Int32.ofInt 1)) 192 then
           (if inB ((((Int32.ofInt 48) * a) + ((Int32.ofInt 3) * p2.1)) + (Int32.ofInt 2)) 192 then
            (if inB ((((Int32.ofInt 48) * a) + ((Int32.ofInt 3) * p2.1)) + b) 192 then
             ((f_R_fire [.inr (0, 0), .inl a, .inl (Int32.ofInt 2), .inl p2.1, .inl (p8.2 2 0 ((((Int32.ofInt 48) * a) + ((Int32.ofInt 3) * p2.1)).toNatClampNeg)), .inl (p8.2 2 0 (((((Int32.ofInt 48) * a) + ((Int32.ofInt 3) * p2.1)) + (Int32.ofInt 1)).toNatClampNeg)), .inl (p8.2 2 0 (((((Int32.ofInt 48) * a) + ((Int32.ofInt 3) * p2.1)) + (Int32.ofInt 2)).toNatClampNeg))] (st3 p8.2 2 0 (((((Int32.ofInt 48) * a) + ((Int32.ofInt 3) * p2.1)) + b).toNatClampNeg) p1.1)).bind fun p9 =>
              some (none, p9))
            else
             none)
           else
            none)
          else
           none)
         else
          none)))))))) := rfl
set_option maxRecDepth 100000 in
set_option maxHeartbeats 4000000 in
theorem x_R_reckon (a : Int32) (b : Int32) (c : Int32) (g : mG) : rn_R_reckon 16 0 (mL0 [.inr (0, 0), .inl a, .inl b, .inl c] 4) [] g =
  (if a = (Int32.ofInt 7) then
   (if c = 0 then
    some (some (.inl (Int32.ofInt 0)), (st3 g 0 0 21 (Int32.ofInt 2)))
   else
    (if a = (4 : Int32) then
     some (some (.inl (b + c)), g)
    else
     (if a = (5 : Int32) then
      some (some (.inl (b - c)), g)
     else
      (if a = (6 : Int32) then
       some (some (.inl (b * c)), g)
      else
       (if a = (7 : Int32) then
        (if c = 0 then
         none
        else
         some (some (.inl (b / c)), g))
       else
        (if a = (8 : Int32) then
         (if c = 0 then
          none
         else
          some (some (.inl (b - b / c * c)), g))
        else
         (if a = (9 : Int32) then
          (if b < c then
           some (some (.inl (Int32.ofInt 1)), g)
          else
           some (some (.inl (Int32.ofInt 0)), g))
         else
          (if b = c then
           some (some (.inl (Int32.ofInt 1)), g)
          else
           some (some (.inl (Int32.ofInt 0)), g)))))))))
  else
   (if a = (Int32.ofInt 8) then
    (if c = 0 then
     some (some (.inl (Int32.ofInt 0)), (st3 g 0 0 21 (Int32.ofInt 2)))
    else
     (if a = (4 : Int32) then
      some (some (.inl (b + c)), g)
     else
      (if a = (5 : Int32) then
       some (some (.inl (b - c)), g)
      else
       (if a = (6 : Int32) then
        some (some (.inl (b * c)), g)
       else
        (if a = (7 : Int32) then
         (if c = 0 then
          none
         else
          some (some (.inl (b / c)), g))
        else
         (if a = (8 : Int32) then
          (if c = 0 then
           none
          else
           some (some (.inl (b - b / c * c)), g))
         else
          (if a = (9 : Int32) then
           (if b < c then
            some (some (.inl (Int32.ofInt 1)), g)
           else
            some (some (.inl (Int32.ofInt 0)), g))
          else
           (if b = c then
            some (some (.inl (Int32.ofInt 1)), g)
           else
            some (some (.inl (Int32.ofInt 0)), g)))))))))
   else
    (if a = (4 : Int32) then
     some (some (.inl (b + c)), g)
    else
     (if a = (5 : Int32) then
      some (some (.inl (b - c)), g)
     else
      (if a = (6 : Int32) then
       some (some (.inl (b * c)), g)
      else
       (if a = (7 : Int32) then
        (if c = 0 then
         none
        else
         some (some (.inl (b / c)), g))
       else
        (if a = (8 : Int32) then
         (if c = 0 then
          none
         else
          some (some (.inl (b - b / c * c)), g))
        else
         (if a = (9 : Int32) then
          (if b < c then
           some (some (.inl (Int32.ofInt 1)), g)
          else
           some (some (.inl (Int32.ofInt 0)), g))
         else
          (if b = c then
           some (some (.inl (Int32.ofInt 1)), g)
          else
           some (some (.inl (Int32.ofInt 0)), g)))))))))) := rfl
set_option maxRecDepth 100000 in
set_option maxHeartbeats 4000000 in
theorem x_R_comeBack (a : Int32) (g : mG) : rn_R_comeBack 25 0 (mL0 [.inr (0, 0), .inl a] 3) [] g =
  (if inB ((g 0 0 12) - (Int32.ofInt 1)) 8 then
   (if ((g 0 0 12) - (Int32.ofInt 1)) = 0 then
    some (none, (st3 (st3 (st3 g 0 0 12 ((g 0 0 12) - (Int32.ofInt 1))) 0 0 22 a) 0 0 21 (Int32.ofInt 0)))
   else
    (if (g 19 0 (((g 0 0 12) - (Int32.ofInt 1)).toNatClampNeg)) = 0 then
     ((f_R_push [.inr (0, 0), .inl a] (st3 g 0 0 12 ((g 0 0 12) - (Int32.ofInt 1)))).bind fun p1 =>
      some (none, p1))
    else
     some (none, (st3 g 0 0 12 ((g 0 0 12) - (Int32.ofInt 1))))))
  else
   none) := rfl
set_option maxRecDepth 100000 in
set_option maxHeartbeats 4000000 in
theorem x_R_onStack (a : Int32) (g : mG) : rn_R_onStack 26 0 (mL0 [.inr (0, 0), .inl a] 4) [] g =
  (if a = (Int32.ofInt 1) then
   ((f_R_pop [.inr (0, 0)] g).bind fun p15 =>
    some (none, p15.2))
  else
   (if a = (Int32.ofInt 2) then
    ((f_R_pop [.inr (0, 0)] g).bind fun p12 =>
     ((f_R_push [.inr (0, 0), .inl p12.1] p12.2).bind fun p13 =>
      ((f_R_push [.inr (0, 0), .inl p12.1] p13).bind fun p14 =>
       some (none, p14))))
   else
    (if a = (Int32.ofInt 3) then
     ((f_R_pop [.inr (0, 0)] g).bind fun p8 =>
      ((f_R_pop [.inr (0, 0)] p8.2).bind fun p9 =>
       ((f_R_push [.inr (0, 0), .inl p8.1] p9.2).bind fun p10 =>
        ((f_R_push [.inr (0, 0), .inl p9.1] p10).bind fun p11 =>
         some (none, p11)))))
    else
     (if a = (Int32.ofInt 11) then
      ((f_R_pop [.inr (0, 0)] g).bind fun p5 =>
       (if p5.1 = 0 then
        ((f_R_push [.inr (0, 0), .inl (Int32.ofInt 1)] p5.2).bind fun p7 =>
         some (none, p7))
       else
        ((f_R_push [.inr (0, 0), .inl (Int32.ofInt 0)] p5.2).bind fun p6 =>
         some (none, p6))))
     else
      ((f_R_pop [.inr (0, 0)] g).bind fun p1 =>
       ((f_R_pop [.inr (0, 0)] p1.2).bind fun p2 =>
        ((f_R_reckon [.inr (0, 0), .inl a, .inl p2.1, .inl p1.1] p2.2).bind fun p3 =>
         ((f_R_push [.inr (0, 0), .inl p3.1] p3.2).bind fun p4 =>
          some (none, p4))))))))) := rfl
set_option maxRecDepth 100000 in
set_option maxHeartbeats 4000000 in
theorem x_R_step (g : mG) : rn_R_step 118 0 (mL0 [.inr (0, 0)] 7) [] g =
  (if inB ((g 0 0 12) - (Int32.ofInt 1)) 8 then
   (if inB ((g 0 0 12) - (Int32.ofInt 1)) 8 then
    (if inB (((Int32.ofInt 60) * (g 12 0 (((g 0 0 12) - (Int32.ofInt 1)).toNatClampNeg))) + (g 13 0 (((g 0 0 12) - (Int32.ofInt 1)).toNatClampNeg))) 720 then
     ((f_R_operands [.inl (g 6 0 ((((Int32.ofInt 60) * (g 12 0 (((g 0 0 12) - (Int32.ofInt 1)).toNatClampNeg))) + (g 13 0 (((g 0 0 12) - (Int32.ofInt 1)).toNatClampNeg))).toNatClampNeg))] g).bind fun p1 =>
      (if 0 < p1.1 then
       (if inB ((((Int32.ofInt 60) * (g 12 0 (((g 0 0 12) - (Int32.ofInt 1)).toNatClampNeg))) + (g 13 0 (((g 0 0 12) - (Int32.ofInt 1)).toNatClampNeg))) + (Int32.ofInt 1)) 720 then
        ((f_R_operands [.inl (g 6 0 ((((Int32.ofInt 60) * (g 12 0 (((g 0 0 12) - (Int32.ofInt 1)).toNatClampNeg))) + (g 13 0 (((g 0 0 12) - (Int32.ofInt 1)).toNatClampNeg))).toNatClampNeg))] p1.2).bind fun p53 =>
         (if (Int32.ofInt 1) < p53.1 then
          (if inB ((((Int32.ofInt 60) * (g 12 0 (((g 0 0 12) - (Int32.ofInt 1)).toNatClampNeg))) + (g 13 0 (((g 0 0 12) - (Int32.ofInt 1)).toNatClampNeg))) + (Int32.ofInt 2)) 720 then
           (if inB ((g 0 0 12) - (Int32.ofInt 1)) 8 then
            ((f_R_operands [.inl (g 6 0 ((((Int32.ofInt 60) * (g 12 0 (((g 0 0 12) - (Int32.ofInt 1)).toNatClampNeg))) + (g 13 0 (((g 0 0 12) - (Int32.ofInt 1)).toNatClampNeg))).toNatClampNeg))] p53.2).bind fun p79 =>
             (if inB ((g 0 0 12) - (Int32.ofInt 1)) 8 then
              (if (g 6 0 ((((Int32.ofInt 60) * (g 12 0 (((g 0 0 12) - (Int32.ofInt 1)).toNatClampNeg))) + (g 13 0 (((g 0 0 12) - (Int32.ofInt 1)).toNatClampNeg))).toNatClampNeg)) = 0 then
               ((f_R_push [.inr (0, 0), .inl (p1.2 6 0 (((((Int32.ofInt 60) * (g 12 0 (((g 0 0 12) - (Int32.ofInt 1)).toNatClampNeg))) + (g 13 0 (((g 0 0 12) - (Int32.ofInt 1)).toNatClampNeg))) + (Int32.ofInt 1)).toNatClampNeg))] (st3 (st3 p79.2 13 0 (((g 0 0 12) - (Int32.ofInt 1)).toNatClampNeg) ((p53.2 13 0 (((g 0 0 12) - (Int32.ofInt 1)).toNatClampNeg)) + ((Int32.ofInt 1) + p79.1))) 0 0 24 ((p79.2 0 0 24) + (Int32.ofInt 1)))).bind fun p103 =>
                some (none, p103))
              else
               (if (g 6 0 ((((Int32.ofInt 60) * (g 12 0 (((g 0 0 12) - (Int32.ofInt 1)).toNatClampNeg))) + (g 13 0 (((g 0 0 12) - (Int32.ofInt 1)).toNatClampNeg))).toNatClampNeg)) < (Int32.ofInt 12) then
                ((f_R_onStack [.inr (0, 0), .inl (g 6 0 ((((Int32.ofInt 60) * (g 12 0 (((g 0 0 12) - (Int32.ofInt 1)).toNatClampNeg))) + (g 13 0 (((g 0 0 12) - (Int32.ofInt 1)).toNatClampNeg))).toNatClampNeg))] (st3 (st3 p79.2 13 0 (((g 0 0 12) - (Int32.ofInt 1)).toNatClampNeg) ((p53.2 13 0 (((g 0 0 12) - (Int32.ofInt 1)).toNatClampNeg)) + ((Int32.ofInt 1) + p79.1))) 0 0 24 ((p79.2 0 0 24) + (Int32.ofInt 1)))).bind fun p102 =>
                 some (none, p102))
               else
                (if (g 6 0 ((((Int32.ofInt 60) * (g 12 0 (((g 0 0 12) - (Int32.ofInt 1)).toNatClampNeg))) + (g 13 0 (((g 0 0 12) - (Int32.ofInt 1)).toNatClampNeg))).toNatClampNeg)) = (Int32.ofInt 12) then
                 (if inB (((Int32.ofInt 8) * ((g 0 0 12) - (Int32.ofInt 1))) + (p1.2 6 0 (((((Int32.ofInt 60) * (g 12 0 (((g 0 0 12) - (Int32.ofInt 1)).toNatClampNeg))) + (g 13 0 (((g 0 0 12) - (Int32.ofInt 1)).toNatClampNeg))) + (Int32.ofInt 1)).toNatClampNeg))) 64 then
                  ((f_R_push [.inr (0, 0), .inl (p79.2 16 0 ((((Int32.ofInt 8) * ((g 0 0 12) - (Int32.ofInt 1))) + (p1.2 6 0 (((((Int32.ofInt 60) * (g 12 0 (((g 0 0 12) - (Int32.ofInt 1)).toNatClampNeg))) + (g 13 0 (((g 0 0 12) - (Int32.ofInt 1)).toNatClampNeg))) + (Int32.ofInt 1)).toNatClampNeg))).toNatClampNeg))] (st3 (st3 p79.2 13 0 (((g 0 0 12) - (Int32.ofInt 1)).toNatClampNeg) ((p53.2 13 0 (((g 0 0 12) - (Int32.ofInt 1)).toNatClampNeg)) + ((Int32.ofInt 1) + p79.1))) 0 0 24 ((p79.2 0 0 24) + (Int32.ofInt 1)))).bind fun p101 =>
                   some (none, p101))
                 else
                  none)
                else
                 (if (g 6 0 ((((Int32.ofInt 60) * (g 12 0 (((g 0 0 12) - (Int32.ofInt 1)).toNatClampNeg))) + (g 13 0 (((g 0 0 12) - (Int32.ofInt 1)).toNatClampNeg))).toNatClampNeg)) = (Int32.ofInt 13) then
                  ((f_R_pop [.inr (0, 0)] (st3 (st3 p79.2 13 0 (((g 0 0 12) - (Int32.ofInt 1)).toNatClampNeg) ((p53.2 13 0 (((g 0 0 12) - (Int32.ofInt 1)).toNatClampNeg)) + ((Int32.ofInt 1) + p79.1))) 0 0 24 ((p79.2 0 0 24) + (Int32.ofInt 1)))).bind fun p100 =>
                   (if inB (((Int32.ofInt 8) * ((g 0 0 12) - (Int32.ofInt 1))) + (p1.2 6 0 (((((Int32.ofInt 60) * (g 12 0 (((g 0 0 12) - (Int32.ofInt 1)).toNatClampNeg))) + (g 13 0 (((g 0 0 12) - (Int32.ofInt 1)).toNatClampNeg))) + (Int32.ofInt 1)).toNatClampNeg))) 64 then
                    some (none, (st3 p100.2 16 0 ((((Int32.ofInt 8) * ((g 0 0 12) - (Int32.ofInt 1))) + (p1.2 6 0 (((((Int32.ofInt 60) * (g 12 0 (((g 0 0 12) - (Int32.ofInt 1)).toNatClampNeg))) + (g 13 0 (((g 0 0 12) - (Int32.ofInt 1)).toNatClampNeg))) + (Int32.ofInt 1)).toNatClampNeg))).toNatClampNeg) p100.1))
                   else
                    none))
                 else
                  (if (g 6 0 ((((Int32.ofInt 60) * (g 12 0 (((g 0 0 12) - (Int32.ofInt 1)).toNatClampNeg))) + (g 13 0 (((g 0 0 12) - (Int32.ofInt 1)).toNatClampNeg))).toNatClampNeg)) = (Int32.ofInt 14) then
                   (if inB ((g 0 0 12) - (Int32.ofInt 1)) 8 then
                    some (none, (st3 (st3 (st3 p79.2 13 0 (((g 0 0 12) - (Int32.ofInt 1)).toNatClampNeg) ((p53.2 13 0 (((g 0 0 12) - (Int32.ofInt 1)).toNatClampNeg)) + ((Int32.ofInt 1) + p79.1))) 0 0 24 ((p79.2 0 0 24) + (Int32.ofInt 1))) 13 0 (((g 0 0 12) - (Int32.ofInt 1)).toNatClampNeg) (p1.2 6 0 (((((Int32.ofInt 60) * (g 12 0 (((g 0 0 12) - (Int32.ofInt 1)).toNatClampNeg))) + (g 13 0 (((g 0 0 12) - (Int32.ofInt 1)).toNatClampNeg))) + (Int32.ofInt 1)).toNatClampNeg))))
                   else
                    none)
                  else
                   (if (g 6 0 ((((Int32.ofInt 60) * (g 12 0 (((g 0 0 12) - (Int32.ofInt 1)).toNatClampNeg))) + (g 13 0 (((g 0 0 12) - (Int32.ofInt 1)).toNatClampNeg))).toNatClampNeg)) = (Int32.ofInt 15) then
                    ((f_R_pop [.inr (0, 0)] (st3 (st3 p79.2 13 0 (((g 0 0 12) - (Int32.ofInt 1)).toNatClampNeg) ((p53.2 13 0 (((g 0 0 12) - (Int32.ofInt 1)).toNatClampNeg)) + ((Int32.ofInt 1) + p79.1))) 0 0 24 ((p79.2 0 0 24) + (Int32.ofInt 1)))).bind fun p99 =>
                     (if p99.1 = 0 then
                      (if inB ((g 0 0 12) - (Int32.ofInt 1)) 8 then
                       some (none, (st3 p99.2 13 0 (((g 0 0 12) - (Int32.ofInt 1)).toNatClampNeg) (p1.2 6 0 (((((Int32.ofInt 60) * (g 12 0 (((g 0 0 12) - (Int32.ofInt 1)).toNatClampNeg))) + (g 13 0 (((g 0 0 12) - (Int32.ofInt 1)).toNatClampNeg))) + (Int32.ofInt 1)).toNatClampNeg))))
                      else
                       none)
                     else
                      (if inB ((g 0 0 12) - (Int32.ofInt 1)) 8 then
                       (if inB ((g 0 0 12) - (Int32.ofInt 1)) 8 then
                        some (none, (st3 p99.2 13 0 (((g 0 0 12) - (Int32.ofInt 1)).toNatClampNeg) (p99.2 13 0 (((g 0 0 12) - (Int32.ofInt 1)).toNatClampNeg))))
                       else
                        none)
                      else
                       none)))
                   else
                    (if (g 6 0 ((((Int32.ofInt 60) * (g 12 0 (((g 0 0 12) - (Int32.ofInt 1)).toNatClampNeg))) + (g 13 0 (((g 0 0 12) - (Int32.ofInt 1)).toNatClampNeg))).toNatClampNeg)) = (Int32.ofInt 16) then
                     (if inB (p1.2 6 0 (((((Int32.ofInt 60) * (g 12 0 (((g 0 0 12) - (Int32.ofInt 1)).toNatClampNeg))) + (g 13 0 (((g 0 0 12) - (Int32.ofInt 1)).toNatClampNeg))) + (Int32.ofInt 1)).toNatClampNeg)) 4 then
                      ((f_R_push [.inr (0, 0), .inl (p79.2 1 0 ((p1.2 6 0 (((((Int32.ofInt 60) * (g 12 0 (((g 0 0 12) - (Int32.ofInt 1)).toNatClampNeg))) + (g 13 0 (((g 0 0 12) - (Int32.ofInt 1)).toNatClampNeg))) + (Int32.ofInt 1)).toNatClampNeg)).toNatClampNeg))] (st3 (st3 p79.2 13 0 (((g 0 0 12) - (Int32.ofInt 1)).toNatClampNeg) ((p53.2 13 0 (((g 0 0 12) - (Int32.ofInt 1)).toNatClampNeg)) + ((Int32.ofInt 1) + p79.1))) 0 0 24 ((p79.2 0 0 24) + (Int32.ofInt 1)))).bind fun p98 =>
                       some (none, p98))
                     else
                      none)
                    else
                     (if (g 6 0 ((((Int32.ofInt 60) * (g 12 0 (((g 0 0 12) - (Int32.ofInt 1)).toNatClampNeg))) + (g 13 0 (((g 0 0 12) - (Int32.ofInt 1)).toNatClampNeg))).toNatClampNeg)) = (Int32.ofInt 17) then
                      ((f_R_pop [.inr (0, 0)] (st3 (st3 p79.2 13 0 (((g 0 0 12) - (Int32.ofInt 1)).toNatClampNeg) ((p53.2 13 0 (((g 0 0 12) - (Int32.ofInt 1)).toNatClampNeg)) + ((Int32.ofInt 1) + p79.1))) 0 0 24 ((p79.2 0 0 24) + (Int32.ofInt 1)))).bind fun p94 =>
                       ((f_R_isRow [.inr (0, 0), .inl (p1.2 6 0 (((((Int32.ofInt 60) * (g 12 0 (((g 0 0 12) - (Int32.ofInt 1)).toNatClampNeg))) + (g 13 0 (((g 0 0 12) - (Int32.ofInt 1)).toNatClampNeg))) + (Int32.ofInt 1)).toNatClampNeg)), .inl p94.1] p94.2).bind fun p95 =>
                        (if p95.1 = 0 then
                         ((f_R_push [.inr (0, 0), .inl (Int32.ofInt 0)] p95.2).bind fun p96 =>
                          some (none, p96))
                        else
                         (if inB ((((Int32.ofInt 48) * (p1.2 6 0 (((((Int32.ofInt 60) * (g 12 0 (((g 0 0 12) - (Int32.ofInt 1)).toNatClampNeg))) + (g 13 0 (((g 0 0 12) - (Int32.ofInt 1)).toNatClampNeg))) + (Int32.ofInt 1)).toNatClampNeg))) + ((Int32.ofInt 3) * p94.1)) + (p53.2 6 0 (((((Int32.ofInt 60) * (g 12 0 (((g 0 0 12) - (Int32.ofInt 1)).toNatClampNeg))) + (g 13 0 (((g 0 0 12) - (Int32.ofInt 1)).toNatClampNeg))) + (Int32.ofInt 2)).toNatClampNeg))) 192 then
                          ((f_R_push [.inr (0, 0), .inl (p95.2 2 0 (((((Int32.ofInt 48) * (p1.2 6 0 (((((Int32.ofInt 60) * (g 12 0 (((g 0 0 12) - (Int32.ofInt 1)).toNatClampNeg))) + (g 13 0 (((g 0 0 12) - (Int32.ofInt 1)).toNatClampNeg))) + (Int32.ofInt 1)).toNatClampNeg))) + ((Int32.ofInt 3) * p94.1)) + (p53.2 6 0 (((((Int32.ofInt 60) * (g 12 0 (((g 0 0 12) - (Int32.ofInt 1)).toNatClampNeg))) + (g 13 0 (((g 0 0 12) - (Int32.ofInt 1)).toNatClampNeg))) + (Int32.ofInt 2)).toNatClampNeg))).toNatClampNeg))] p95.2).bind fun p97 =>
                           some (none, p97))
                         else
                          none))))
                     else
                      (if (g 6 0 ((((Int32.ofInt 60) * (g 12 0 (((g 0 0 12) - (Int32.ofInt 1)).toNatClampNeg))) + (g 13 0 (((g 0 0 12) - (Int32.ofInt 1)).toNatClampNeg))).toNatClampNeg)) = (Int32.ofInt 18) then
                       ((f_R_insert [.inr (0, 0), .inl (p1.2 6 0 (((((Int32.ofInt 60) * (g 12 0 (((g 0 0 12) - (Int32.ofInt 1)).toNatClampNeg))) + (g 13 0 (((g 0 0 12) - (Int32.ofInt 1)).toNatClampNeg))) + (Int32.ofInt 1)).toNatClampNeg))] (st3 (st3 p79.2 13 0 (((g 0 0 12) - (Int32.ofInt 1)).toNatClampNeg) ((p53.2 13 0 (((g 0 0 12) - (Int32.ofInt 1)).toNatClampNeg)) + ((Int32.ofInt 1) + p79.1))) 0 0 24 ((p79.2 0 0 24) + (Int32.ofInt 1)))).bind fun p93 =>
                        some (none, p93))
                      else
                       (if (g 6 0 ((((Int32.ofInt 60) * (g 12 0 (((g 0 0 12) - (Int32.ofInt 1)).toNatClampNeg))) + (g 13 0 (((g 0 0 12) - (Int32.ofInt 1)).toNatClampNeg))).toNatClampNeg)) = (Int32.ofInt 19) then
                        ((f_R_delete [.inr (0, 0), .inl (p1.2 6 0 (((((Int32.ofInt 60) * (g 12 0 (((g 0 0 12) - (Int32.ofInt 1)).toNatClampNeg))) + (g 13 0 (((g 0 0 12) - (Int32.ofInt 1)).toNatClampNeg))) + (Int32.ofInt 1)).toNatClampNeg))] (st3 (st3 p79.2 13 0 (((g 0 0 12) - (Int32.ofInt 1)).toNatClampNeg) ((p53.2 13 0 (((g 0 0 12) - (Int32.ofInt 1)).toNatClampNeg)) + ((Int32.ofInt 1) + p79.1))) 0 0 24 ((p79.2 0 0 24) + (Int32.ofInt 1)))).bind fun p92 =>
                         some (none, p92))
                       else
                        (if (g 6 0 ((((Int32.ofInt 60) * (g 12 0 (((g 0 0 12) - (Int32.ofInt 1)).toNatClampNeg))) + (g 13 0 (((g 0 0 12) - (Int32.ofInt 1)).toNatClampNeg))).toNatClampNeg)) = (Int32.ofInt 20) then
                         ((f_R_update [.inr (0, 0), .inl (p1.2 6 0 (((((Int32.ofInt 60) * (g 12 0 (((g 0 0 12) - (Int32.ofInt 1)).toNatClampNeg))) + (g 13 0 (((g 0 0 12) - (Int32.ofInt 1)).toNatClampNeg))) + (Int32.ofInt 1)).toNatClampNeg)), .inl (p53.2 6 0 (((((Int32.ofInt 60) * (g 12 0 (((g 0 0 12) - (Int32.ofInt 1)).toNatClampNeg))) + (g 13 0 (((g 0 0 12) - (Int32.ofInt 1)).toNatClampNeg))) + (Int32.ofInt 2)).toNatClampNeg))] (st3 (st3 p79.2 13 0 (((g 0 0 12) - (Int32.ofInt 1)).toNatClampNeg) ((p53.2 13 0 (((g 0 0 12) - (Int32.ofInt 1)).toNatClampNeg)) + ((Int32.ofInt 1) + p79.1))) 0 0 24 ((p79.2 0 0 24) + (Int32.ofInt 1)))).bind fun p91 =>
                          some (none, p91))
                        else
                         (if (g 6 0 ((((Int32.ofInt 60) * (g 12 0 (((g 0 0 12) - (Int32.ofInt 1)).toNatClampNeg))) + (g 13 0 (((g 0 0 12) - (Int32.ofInt 1)).toNatClampNeg))).toNatClampNeg)) = (Int32.ofInt 21) then
                          ((f_R_pop [.inr (0, 0)] (st3 (st3 p79.2 13 0 (((g 0 0 12) - (Int32.ofInt 1)).toNatClampNeg) ((p53.2 13 0 (((g 0 0 12) - (Int32.ofInt 1)).toNatClampNeg)) + ((Int32.ofInt 1) + p79.1))) 0 0 24 ((p79.2 0 0 24) + (Int32.ofInt 1)))).bind fun p87 =>
                           ((f_R_pop [.inr (0, 0)] p87.2).bind fun p88 =>
                            ((f_R_find [.inr (0, 0), .inl (p1.2 6 0 (((((Int32.ofInt 60) * (g 12 0 (((g 0 0 12) - (Int32.ofInt 1)).toNatClampNeg))) + (g 13 0 (((g 0 0 12) - (Int32.ofInt 1)).toNatClampNeg))) + (Int32.ofInt 1)).toNatClampNeg)), .inl (p53.2 6 0 (((((Int32.ofInt 60) * (g 12 0 (((g 0 0 12) - (Int32.ofInt 1)).toNatClampNeg))) + (g 13 0 (((g 0 0 12) - (Int32.ofInt 1)).toNatClampNeg))) + (Int32.ofInt 2)).toNatClampNeg)), .inl p88.1, .inl p87.1] p88.2).bind fun p89 =>
                             ((f_R_push [.inr (0, 0), .inl p89.1] p89.2).bind fun p90 =>
                              some (none, p90)))))
                         else
                          (if (g 6 0 ((((Int32.ofInt 60) * (g 12 0 (((g 0 0 12) - (Int32.ofInt 1)).toNatClampNeg))) + (g 13 0 (((g 0 0 12) - (Int32.ofInt 1)).toNatClampNeg))).toNatClampNeg)) = (Int32.ofInt 22) then
                           (if inB (((Int32.ofInt 3) * ((g 0 0 12) - (Int32.ofInt 1))) + (p1.2 6 0 (((((Int32.ofInt 60) * (g 12 0 (((g 0 0 12) - (Int32.ofInt 1)).toNatClampNeg))) + (g 13 0 (((g 0 0 12) - (Int32.ofInt 1)).toNatClampNeg))) + (Int32.ofInt 1)).toNatClampNeg))) 24 then
                            ((f_R_push [.inr (0, 0), .inl (p79.2 17 0 ((((Int32.ofInt 3) * ((g 0 0 12) - (Int32.ofInt 1))) + (p1.2 6 0 (((((Int32.ofInt 60) * (g 12 0 (((g 0 0 12) - (Int32.ofInt 1)).toNatClampNeg))) + (g 13 0 (((g 0 0 12) - (Int32.ofInt 1)).toNatClampNeg))) + (Int32.ofInt 1)).toNatClampNeg))).toNatClampNeg))] (st3 (st3 p79.2 13 0 (((g 0 0 12) - (Int32.ofInt 1)).toNatClampNeg) ((p53.2 13 0 (((g 0 0 12) - (Int32.ofInt 1)).toNatClampNeg)) + ((Int32.ofInt 1) + p79.1))) 0 0 24 ((p79.2 0 0 24) + (Int32.ofInt 1)))).bind fun p86 =>
                             some (none, p86))
                           else
                            none)
                          else
                           (if (g 6 0 ((((Int32.ofInt 60) * (g 12 0 (((g 0 0 12) - (Int32.ofInt 1)).toNatClampNeg))) + (g 13 0 (((g 0 0 12) - (Int32.ofInt 1)).toNatClampNeg))).toNatClampNeg)) = (Int32.ofInt 23) then
                            (if inB (((Int32.ofInt 3) * ((g 0 0 12) - (Int32.ofInt 1))) + (p1.2 6 0 (((((Int32.ofInt 60) * (g 12 0 (((g 0 0 12) - (Int32.ofInt 1)).toNatClampNeg))) + (g 13 0 (((g 0 0 12) - (Int32.ofInt 1)).toNatClampNeg))) + (Int32.ofInt 1)).toNatClampNeg))) 24 then
                             ((f_R_push [.inr (0, 0), .inl (p79.2 18 0 ((((Int32.ofInt 3) * ((g 0 0 12) - (Int32.ofInt 1))) + (p1.2 6 0 (((((Int32.ofInt 60) * (g 12 0 (((g 0 0 12) - (Int32.ofInt 1)).toNatClampNeg))) + (g 13 0 (((g 0 0 12) - (Int32.ofInt 1)).toNatClampNeg))) + (Int32.ofInt 1)).toNatClampNeg))).toNatClampNeg))] (st3 (st3 p79.2 13 0 (((g 0 0 12) - (Int32.ofInt 1)).toNatClampNeg) ((p53.2 13 0 (((g 0 0 12) - (Int32.ofInt 1)).toNatClampNeg)) + ((Int32.ofInt 1) + p79.1))) 0 0 24 ((p79.2 0 0 24) + (Int32.ofInt 1)))).bind fun p85 =>
                              some (none, p85))
                            else
                             none)
                           else
                            (if (g 6 0 ((((Int32.ofInt 60) * (g 12 0 (((g 0 0 12) - (Int32.ofInt 1)).toNatClampNeg))) + (g 13 0 (((g 0 0 12) - (Int32.ofInt 1)).toNatClampNeg))).toNatClampNeg)) = (Int32.ofInt 24) then
                             ((f_R_pop [.inr (0, 0)] (st3 (st3 p79.2 13 0 (((g 0 0 12) - (Int32.ofInt 1)).toNatClampNeg) ((p53.2 13 0 (((g 0 0 12) - (Int32.ofInt 1)).toNatClampNeg)) + ((Int32.ofInt 1) + p79.1))) 0 0 24 ((p79.2 0 0 24) + (Int32.ofInt 1)))).bind fun p83 =>
                              ((f_R_enter [.inr (0, 0), .inl (p1.2 6 0 (((((Int32.ofInt 60) * (g 12 0 (((g 0 0 12) - (Int32.ofInt 1)).toNatClampNeg))) + (g 13 0 (((g 0 0 12) - (Int32.ofInt 1)).toNatClampNeg))) + (Int32.ofInt 1)).toNatClampNeg)), .inl p83.1, .inl (Int32.ofInt 0)] p83.2).bind fun p84 =>
                               some (none, p84.2)))
                            else
                             (if (g 6 0 ((((Int32.ofInt 60) * (g 12 0 (((g 0 0 12) - (Int32.ofInt 1)).toNatClampNeg))) + (g 13 0 (((g 0 0 12) - (Int32.ofInt 1)).toNatClampNeg))).toNatClampNeg)) = (Int32.ofInt 25) then
                              ((f_R_pop [.inr (0, 0)] (st3 (st3 p79.2 13 0 (((g 0 0 12) - (Int32.ofInt 1)).toNatClampNeg) ((p53.2 13 0 (((g 0 0 12) - (Int32.ofInt 1)).toNatClampNeg)) + ((Int32.ofInt 1) + p79.1))) 0 0 24 ((p79.2 0 0 24) + (Int32.ofInt 1)))).bind fun p82 =>
                               some (none, (st3 (st3 p82.2 0 0 22 p82.1) 0 0 21 (Int32.ofInt 1))))
                             else
                              ((f_R_pop [.inr (0, 0)] (st3 (st3 p79.2 13 0 (((g 0 0 12) - (Int32.ofInt 1)).toNatClampNeg) ((p53.2 13 0 (((g 0 0 12) - (Int32.ofInt 1)).toNatClampNeg)) + ((Int32.ofInt 1) + p79.1))) 0 0 24 ((p79.2 0 0 24) + (Int32.ofInt 1)))).bind fun p80 =>
                               ((f_R_comeBack [.inr (0, 0), .inl p80.1] p80.2).bind fun p81 =>
                                some (none, p81)))))))))))))))))))
             else
              none))
           else
            none)
          else
           none)
         else
          (if inB ((g 0 0 12) - (Int32.ofInt 1)) 8 then
           ((f_R_operands [.inl (g 6 0 ((((Int32.ofInt 60) * (g 12 0 (((g 0 0 12) - (Int32.ofInt 1)).toNatClampNeg))) + (g 13 0 (((g 0 0 12) - (Int32.ofInt 1)).toNatClampNeg))).toNatClampNeg))] p53.2).bind fun p54 =>
            (if inB ((g 0 0 12) - (Int32.ofInt 1)) 8 then
             (if (g 6 0 ((((Int32.ofInt 60) * (g 12 0 (((g 0 0 12) - (Int32.ofInt 1)).toNatClampNeg))) + (g 13 0 (((g 0 0 12) - (Int32.ofInt 1)).toNatClampNeg))).toNatClampNeg)) = 0 then
              ((f_R_push [.inr (0, 0), .inl (p1.2 6 0 (((((Int32.ofInt 60) * (g 12 0 (((g 0 0 12) - (Int32.ofInt 1)).toNatClampNeg))) + (g 13 0 (((g 0 0 12) - (Int32.ofInt 1)).toNatClampNeg))) + (Int32.ofInt 1)).toNatClampNeg))] (st3 (st3 p54.2 13 0 (((g 0 0 12) - (Int32.ofInt 1)).toNatClampNeg) ((p53.2 13 0 (((g 0 0 12) - (Int32.ofInt 1)).toNatClampNeg)) + ((Int32.ofInt 1) + p54.1))) 0 0 24 ((p54.2 0 0 24) + (Int32.ofInt 1)))).bind fun p78 =>
               some (none, p78))
             else
              (if (g 6 0 ((((Int32.ofInt 60) * (g 12 0 (((g 0 0 12) - (Int32.ofInt 1)).toNatClampNeg))) + (g 13 0 (((g 0 0 12) - (Int32.ofInt 1)).toNatClampNeg))).toNatClampNeg)) < (Int32.ofInt 12) then
               ((f_R_onStack [.inr (0, 0), .inl (g 6 0 ((((Int32.ofInt 60) * (g 12 0 (((g 0 0 12) - (Int32.ofInt 1)).toNatClampNeg))) + (g 13 0 (((g 0 0 12) - (Int32.ofInt 1)).toNatClampNeg))).toNatClampNeg))] (st3 (st3 p54.2 13 0 (((g 0 0 12) - (Int32.ofInt 1)).toNatClampNeg) ((p53.2 13 0 (((g 0 0 12) - (Int32.ofInt 1)).toNatClampNeg)) + ((Int32.ofInt 1) + p54.1))) 0 0 24 ((p54.2 0 0 24) + (Int32.ofInt 1)))).bind fun p77 =>
                some (none, p77))
              else
               (if (g 6 0 ((((Int32.ofInt 60) * (g 12 0 (((g 0 0 12) - (Int32.ofInt 1)).toNatClampNeg))) + (g 13 0 (((g 0 0 12) - (Int32.ofInt 1)).toNatClampNeg))).toNatClampNeg)) = (Int32.ofInt 12) then
                (if inB (((Int32.ofInt 8) * ((g 0 0 12) - (Int32.ofInt 1))) + (p1.2 6 0 (((((Int32.ofInt 60) * (g 12 0 (((g 0 0 12) - (Int32.ofInt 1)).toNatClampNeg))) + (g 13 0 (((g 0 0 12) - (Int32.ofInt 1)).toNatClampNeg))) + (Int32.ofInt 1)).toNatClampNeg))) 64 then
                 ((f_R_push [.inr (0, 0), .inl (p54.2 16 0 ((((Int32.ofInt 8) * ((g 0 0 12) - (Int32.ofInt 1))) + (p1.2 6 0 (((((Int32.ofInt 60) * (g 12 0 (((g 0 0 12) - (Int32.ofInt 1)).toNatClampNeg))) + (g 13 0 (((g 0 0 12) - (Int32.ofInt 1)).toNatClampNeg))) + (Int32.ofInt 1)).toNatClampNeg))).toNatClampNeg))] (st3 (st3 p54.2 13 0 (((g 0 0 12) - (Int32.ofInt 1)).toNatClampNeg) ((p53.2 13 0 (((g 0 0 12) - (Int32.ofInt 1)).toNatClampNeg)) + ((Int32.ofInt 1) + p54.1))) 0 0 24 ((p54.2 0 0 24) + (Int32.ofInt 1)))).bind fun p76 =>
                  some (none, p76))
                else
                 none)
               else
                (if (g 6 0 ((((Int32.ofInt 60) * (g 12 0 (((g 0 0 12) - (Int32.ofInt 1)).toNatClampNeg))) + (g 13 0 (((g 0 0 12) - (Int32.ofInt 1)).toNatClampNeg))).toNatClampNeg)) = (Int32.ofInt 13) then
                 ((f_R_pop [.inr (0, 0)] (st3 (st3 p54.2 13 0 (((g 0 0 12) - (Int32.ofInt 1)).toNatClampNeg) ((p53.2 13 0 (((g 0 0 12) - (Int32.ofInt 1)).toNatClampNeg)) + ((Int32.ofInt 1) + p54.1))) 0 0 24 ((p54.2 0 0 24) + (Int32.ofInt 1)))).bind fun p75 =>
                  (if inB (((Int32.ofInt 8) * ((g 0 0 12) - (Int32.ofInt 1))) + (p1.2 6 0 (((((Int32.ofInt 60) * (g 12 0 (((g 0 0 12) - (Int32.ofInt 1)).toNatClampNeg))) + (g 13 0 (((g 0 0 12) - (Int32.ofInt 1)).toNatClampNeg))) + (Int32.ofInt 1)).toNatClampNeg))) 64 then
                   some (none, (st3 p75.2 16 0 ((((Int32.ofInt 8) * ((g 0 0 12) - (Int32.ofInt 1))) + (p1.2 6 0 (((((Int32.ofInt 60) * (g 12 0 (((g 0 0 12) - (Int32.ofInt 1)).toNatClampNeg))) + (g 13 0 (((g 0 0 12) - (Int32.ofInt 1)).toNatClampNeg))) + (Int32.ofInt 1)).toNatClampNeg))).toNatClampNeg) p75.1))
                  else
                   none))
                else
                 (if (g 6 0 ((((Int32.ofInt 60) * (g 12 0 (((g 0 0 12) - (Int32.ofInt 1)).toNatClampNeg))) + (g 13 0 (((g 0 0 12) - (Int32.ofInt 1)).toNatClampNeg))).toNatClampNeg)) = (Int32.ofInt 14) then
                  (if inB ((g 0 0 12) - (Int32.ofInt 1)) 8 then
                   some (none, (st3 (st3 (st3 p54.2 13 0 (((g 0 0 12) - (Int32.ofInt 1)).toNatClampNeg) ((p53.2 13 0 (((g 0 0 12) - (Int32.ofInt 1)).toNatClampNeg)) + ((Int32.ofInt 1) + p54.1))) 0 0 24 ((p54.2 0 0 24) + (Int32.ofInt 1))) 13 0 (((g 0 0 12) - (Int32.ofInt 1)).toNatClampNeg) (p1.2 6 0 (((((Int32.ofInt 60) * (g 12 0 (((g 0 0 12) - (Int32.ofInt 1)).toNatClampNeg))) + (g 13 0 (((g 0 0 12) - (Int32.ofInt 1)).toNatClampNeg))) + (Int32.ofInt 1)).toNatClampNeg))))
                  else
                   none)
                 else
                  (if (g 6 0 ((((Int32.ofInt 60) * (g 12 0 (((g 0 0 12) - (Int32.ofInt 1)).toNatClampNeg))) + (g 13 0 (((g 0 0 12) - (Int32.ofInt 1)).toNatClampNeg))).toNatClampNeg)) = (Int32.ofInt 15) then
                   ((f_R_pop [.inr (0, 0)] (st3 (st3 p54.2 13 0 (((g 0 0 12) - (Int32.ofInt 1)).toNatClampNeg) ((p53.2 13 0 (((g 0 0 12) - (Int32.ofInt 1)).toNatClampNeg)) + ((Int32.ofInt 1) + p54.1))) 0 0 24 ((p54.2 0 0 24) + (Int32.ofInt 1)))).bind fun p74 =>
                    (if p74.1 = 0 then
                     (if inB ((g 0 0 12) - (Int32.ofInt 1)) 8 then
                      some (none, (st3 p74.2 13 0 (((g 0 0 12) - (Int32.ofInt 1)).toNatClampNeg) (p1.2 6 0 (((((Int32.ofInt 60) * (g 12 0 (((g 0 0 12) - (Int32.ofInt 1)).toNatClampNeg))) + (g 13 0 (((g 0 0 12) - (Int32.ofInt 1)).toNatClampNeg))) + (Int32.ofInt 1)).toNatClampNeg))))
                     else
                      none)
                    else
                     (if inB ((g 0 0 12) - (Int32.ofInt 1)) 8 then
                      (if inB ((g 0 0 12) - (Int32.ofInt 1)) 8 then
                       some (none, (st3 p74.2 13 0 (((g 0 0 12) - (Int32.ofInt 1)).toNatClampNeg) (p74.2 13 0 (((g 0 0 12) - (Int32.ofInt 1)).toNatClampNeg))))
                      else
                       none)
                     else
                      none)))
                  else
                   (if (g 6 0 ((((Int32.ofInt 60) * (g 12 0 (((g 0 0 12) - (Int32.ofInt 1)).toNatClampNeg))) + (g 13 0 (((g 0 0 12) - (Int32.ofInt 1)).toNatClampNeg))).toNatClampNeg)) = (Int32.ofInt 16) then
                    (if inB (p1.2 6 0 (((((Int32.ofInt 60) * (g 12 0 (((g 0 0 12) - (Int32.ofInt 1)).toNatClampNeg))) + (g 13 0 (((g 0 0 12) - (Int32.ofInt 1)).toNatClampNeg))) + (Int32.ofInt 1)).toNatClampNeg)) 4 then
                     ((f_R_push [.inr (0, 0), .inl (p54.2 1 0 ((p1.2 6 0 (((((Int32.ofInt 60) * (g 12 0 (((g 0 0 12) - (Int32.ofInt 1)).toNatClampNeg))) + (g 13 0 (((g 0 0 12) - (Int32.ofInt 1)).toNatClampNeg))) + (Int32.ofInt 1)).toNatClampNeg)).toNatClampNeg))] (st3 (st3 p54.2 13 0 (((g 0 0 12) - (Int32.ofInt 1)).toNatClampNeg) ((p53.2 13 0 (((g 0 0 12) - (Int32.ofInt 1)).toNatClampNeg)) + ((Int32.ofInt 1) + p54.1))) 0 0 24 ((p54.2 0 0 24) + (Int32.ofInt 1)))).bind fun p73 =>
                      some (none, p73))
                    else
                     none)
                   else
                    (if (g 6 0 ((((Int32.ofInt 60) * (g 12 0 (((g 0 0 12) - (Int32.ofInt 1)).toNatClampNeg))) + (g 13 0 (((g 0 0 12) - (Int32.ofInt 1)).toNatClampNeg))).toNatClampNeg)) = (Int32.ofInt 17) then
                     ((f_R_pop [.inr (0, 0)] (st3 (st3 p54.2 13 0 (((g 0 0 12) - (Int32.ofInt 1)).toNatClampNeg) ((p53.2 13 0 (((g 0 0 12) - (Int32.ofInt 1)).toNatClampNeg)) + ((Int32.ofInt 1) + p54.1))) 0 0 24 ((p54.2 0 0 24) + (Int32.ofInt 1)))).bind fun p69 =>
                      ((f_R_isRow [.inr (0, 0), .inl (p1.2 6 0 (((((Int32.ofInt 60) * (g 12 0 (((g 0 0 12) - (Int32.ofInt 1)).toNatClampNeg))) + (g 13 0 (((g 0 0 12) - (Int32.ofInt 1)).toNatClampNeg))) + (Int32.ofInt 1)).toNatClampNeg)), .inl p69.1] p69.2).bind fun p70 =>
                       (if p70.1 = 0 then
                        ((f_R_push [.inr (0, 0), .inl (Int32.ofInt 0)] p70.2).bind fun p71 =>
                         some (none, p71))
                       else
                        (if inB ((((Int32.ofInt 48) * (p1.2 6 0 (((((Int32.ofInt 60) * (g 12 0 (((g 0 0 12) - (Int32.ofInt 1)).toNatClampNeg))) + (g 13 0 (((g 0 0 12) - (Int32.ofInt 1)).toNatClampNeg))) + (Int32.ofInt 1)).toNatClampNeg))) + ((Int32.ofInt 3) * p69.1)) + (Int32.ofInt 0)) 192 then
                         ((f_R_push [.inr (0, 0), .inl (p70.2 2 0 (((((Int32.ofInt 48) * (p1.2 6 0 (((((Int32.ofInt 60) * (g 12 0 (((g 0 0 12) - (Int32.ofInt 1)).toNatClampNeg))) + (g 13 0 (((g 0 0 12) - (Int32.ofInt 1)).toNatClampNeg))) + (Int32.ofInt 1)).toNatClampNeg))) + ((Int32.ofInt 3) * p69.1)) + (Int32.ofInt 0)).toNatClampNeg))] p70.2).bind fun p72 =>
                          some (none, p72))
                        else
                         none))))
                    else
                     (if (g 6 0 ((((Int32.ofInt 60) * (g 12 0 (((g 0 0 12) - (Int32.ofInt 1)).toNatClampNeg))) + (g 13 0 (((g 0 0 12) - (Int32.ofInt 1)).toNatClampNeg))).toNatClampNeg)) = (Int32.ofInt 18) then
                      ((f_R_insert [.inr (0, 0), .inl (p1.2 6 0 (((((Int32.ofInt 60) * (g 12 0 (((g 0 0 12) - (Int32.ofInt 1)).toNatClampNeg))) + (g 13 0 (((g 0 0 12) - (Int32.ofInt 1)).toNatClampNeg))) + (Int32.ofInt 1)).toNatClampNeg))] (st3 (st3 p54.2 13 0 (((g 0 0 12) - (Int32.ofInt 1)).toNatClampNeg) ((p53.2 13 0 (((g 0 0 12) - (Int32.ofInt 1)).toNatClampNeg)) + ((Int32.ofInt 1) + p54.1))) 0 0 24 ((p54.2 0 0 24) + (Int32.ofInt 1)))).bind fun p68 =>
                       some (none, p68))
                     else
                      (if (g 6 0 ((((Int32.ofInt 60) * (g 12 0 (((g 0 0 12) - (Int32.ofInt 1)).toNatClampNeg))) + (g 13 0 (((g 0 0 12) - (Int32.ofInt 1)).toNatClampNeg))).toNatClampNeg)) = (Int32.ofInt 19) then
                       ((f_R_delete [.inr (0, 0), .inl (p1.2 6 0 (((((Int32.ofInt 60) * (g 12 0 (((g 0 0 12) - (Int32.ofInt 1)).toNatClampNeg))) + (g 13 0 (((g 0 0 12) - (Int32.ofInt 1)).toNatClampNeg))) + (Int32.ofInt 1)).toNatClampNeg))] (st3 (st3 p54.2 13 0 (((g 0 0 12) - (Int32.ofInt 1)).toNatClampNeg) ((p53.2 13 0 (((g 0 0 12) - (Int32.ofInt 1)).toNatClampNeg)) + ((Int32.ofInt 1) + p54.1))) 0 0 24 ((p54.2 0 0 24) + (Int32.ofInt 1)))).bind fun p67 =>
                        some (none, p67))
                      else
                       (if (g 6 0 ((((Int32.ofInt 60) * (g 12 0 (((g 0 0 12) - (Int32.ofInt 1)).toNatClampNeg))) + (g 13 0 (((g 0 0 12) - (Int32.ofInt 1)).toNatClampNeg))).toNatClampNeg)) = (Int32.ofInt 20) then
                        ((f_R_update [.inr (0, 0), .inl (p1.2 6 0 (((((Int32.ofInt 60) * (g 12 0 (((g 0 0 12) - (Int32.ofInt 1)).toNatClampNeg))) + (g 13 0 (((g 0 0 12) - (Int32.ofInt 1)).toNatClampNeg))) + (Int32.ofInt 1)).toNatClampNeg)), .inl (Int32.ofInt 0)] (st3 (st3 p54.2 13 0 (((g 0 0 12) - (Int32.ofInt 1)).toNatClampNeg) ((p53.2 13 0 (((g 0 0 12) - (Int32.ofInt 1)).toNatClampNeg)) + ((Int32.ofInt 1) + p54.1))) 0 0 24 ((p54.2 0 0 24) + (Int32.ofInt 1)))).bind fun p66 =>
                         some (none, p66))
                       else
                        (if (g 6 0 ((((Int32.ofInt 60) * (g 12 0 (((g 0 0 12) - (Int32.ofInt 1)).toNatClampNeg))) + (g 13 0 (((g 0 0 12) - (Int32.ofInt 1)).toNatClampNeg))).toNatClampNeg)) = (Int32.ofInt 21) then
                         ((f_R_pop [.inr (0, 0)] (st3 (st3 p54.2 13 0 (((g 0 0 12) - (Int32.ofInt 1)).toNatClampNeg) ((p53.2 13 0 (((g 0 0 12) - (Int32.ofInt 1)).toNatClampNeg)) + ((Int32.ofInt 1) + p54.1))) 0 0 24 ((p54.2 0 0 24) + (Int32.ofInt 1)))).bind fun p62 =>
                          ((f_R_pop [.inr (0, 0)] p62.2).bind fun p63 =>
                           ((f_R_find [.inr (0, 0), .inl (p1.2 6 0 (((((Int32.ofInt 60) * (g 12 0 (((g 0 0 12) - (Int32.ofInt 1)).toNatClampNeg))) + (g 13 0 (((g 0 0 12) - (Int32.ofInt 1)).toNatClampNeg))) + (Int32.ofInt 1)).toNatClampNeg)), .inl (Int32.ofInt 0), .inl p63.1, .inl p62.1] p63.2).bind fun p64 =>
                            ((f_R_push [.inr (0, 0), .inl p64.1] p64.2).bind fun p65 =>
                             some (none, p65)))))
                        else
                         (if (g 6 0 ((((Int32.ofInt 60) * (g 12 0 (((g 0 0 12) - (Int32.ofInt 1)).toNatClampNeg))) + (g 13 0 (((g 0 0 12) - (Int32.ofInt 1)).toNatClampNeg))).toNatClampNeg)) = (Int32.ofInt 22) then
                          (if inB (((Int32.ofInt 3) * ((g 0 0 12) - (Int32.ofInt 1))) + (p1.2 6 0 (((((Int32.ofInt 60) * (g 12 0 (((g 0 0 12) - (Int32.ofInt 1)).toNatClampNeg))) + (g 13 0 (((g 0 0 12) - (Int32.ofInt 1)).toNatClampNeg))) + (Int32.ofInt 1)).toNatClampNeg))) 24 then
                           ((f_R_push [.inr (0, 0), .inl (p54.2 17 0 ((((Int32.ofInt 3) * ((g 0 0 12) - (Int32.ofInt 1))) + (p1.2 6 0 (((((Int32.ofInt 60) * (g 12 0 (((g 0 0 12) - (Int32.ofInt 1)).toNatClampNeg))) + (g 13 0 (((g 0 0 12) - (Int32.ofInt 1)).toNatClampNeg))) + (Int32.ofInt 1)).toNatClampNeg))).toNatClampNeg))] (st3 (st3 p54.2 13 0 (((g 0 0 12) - (Int32.ofInt 1)).toNatClampNeg) ((p53.2 13 0 (((g 0 0 12) - (Int32.ofInt 1)).toNatClampNeg)) + ((Int32.ofInt 1) + p54.1))) 0 0 24 ((p54.2 0 0 24) + (Int32.ofInt 1)))).bind fun p61 =>
                            some (none, p61))
                          else
                           none)
                         else
                          (if (g 6 0 ((((Int32.ofInt 60) * (g 12 0 (((g 0 0 12) - (Int32.ofInt 1)).toNatClampNeg))) + (g 13 0 (((g 0 0 12) - (Int32.ofInt 1)).toNatClampNeg))).toNatClampNeg)) = (Int32.ofInt 23) then
                           (if inB (((Int32.ofInt 3) * ((g 0 0 12) - (Int32.ofInt 1))) + (p1.2 6 0 (((((Int32.ofInt 60) * (g 12 0 (((g 0 0 12) - (Int32.ofInt 1)).toNatClampNeg))) + (g 13 0 (((g 0 0 12) - (Int32.ofInt 1)).toNatClampNeg))) + (Int32.ofInt 1)).toNatClampNeg))) 24 then
                            ((f_R_push [.inr (0, 0), .inl (p54.2 18 0 ((((Int32.ofInt 3) * ((g 0 0 12) - (Int32.ofInt 1))) + (p1.2 6 0 (((((Int32.ofInt 60) * (g 12 0 (((g 0 0 12) - (Int32.ofInt 1)).toNatClampNeg))) + (g 13 0 (((g 0 0 12) - (Int32.ofInt 1)).toNatClampNeg))) + (Int32.ofInt 1)).toNatClampNeg))).toNatClampNeg))] (st3 (st3 p54.2 13 0 (((g 0 0 12) - (Int32.ofInt 1)).toNatClampNeg) ((p53.2 13 0 (((g 0 0 12) - (Int32.ofInt 1)).toNatClampNeg)) + ((Int32.ofInt 1) + p54.1))) 0 0 24 ((p54.2 0 0 24) + (Int32.ofInt 1)))).bind fun p60 =>
                             some (none, p60))
                           else
                            none)
                          else
                           (if (g 6 0 ((((Int32.ofInt 60) * (g 12 0 (((g 0 0 12) - (Int32.ofInt 1)).toNatClampNeg))) + (g 13 0 (((g 0 0 12) - (Int32.ofInt 1)).toNatClampNeg))).toNatClampNeg)) = (Int32.ofInt 24) then
                            ((f_R_pop [.inr (0, 0)] (st3 (st3 p54.2 13 0 (((g 0 0 12) - (Int32.ofInt 1)).toNatClampNeg) ((p53.2 13 0 (((g 0 0 12) - (Int32.ofInt 1)).toNatClampNeg)) + ((Int32.ofInt 1) + p54.1))) 0 0 24 ((p54.2 0 0 24) + (Int32.ofInt 1)))).bind fun p58 =>
                             ((f_R_enter [.inr (0, 0), .inl (p1.2 6 0 (((((Int32.ofInt 60) * (g 12 0 (((g 0 0 12) - (Int32.ofInt 1)).toNatClampNeg))) + (g 13 0 (((g 0 0 12) - (Int32.ofInt 1)).toNatClampNeg))) + (Int32.ofInt 1)).toNatClampNeg)), .inl p58.1, .inl (Int32.ofInt 0)] p58.2).bind fun p59 =>
                              some (none, p59.2)))
                           else
                            (if (g 6 0 ((((Int32.ofInt 60) * (g 12 0 (((g 0 0 12) - (Int32.ofInt 1)).toNatClampNeg))) + (g 13 0 (((g 0 0 12) - (Int32.ofInt 1)).toNatClampNeg))).toNatClampNeg)) = (Int32.ofInt 25) then
                             ((f_R_pop [.inr (0, 0)] (st3 (st3 p54.2 13 0 (((g 0 0 12) - (Int32.ofInt 1)).toNatClampNeg) ((p53.2 13 0 (((g 0 0 12) - (Int32.ofInt 1)).toNatClampNeg)) + ((Int32.ofInt 1) + p54.1))) 0 0 24 ((p54.2 0 0 24) + (Int32.ofInt 1)))).bind fun p57 =>
                              some (none, (st3 (st3 p57.2 0 0 22 p57.1) 0 0 21 (Int32.ofInt 1))))
                            else
                             ((f_R_pop [.inr (0, 0)] (st3 (st3 p54.2 13 0 (((g 0 0 12) - (Int32.ofInt 1)).toNatClampNeg) ((p53.2 13 0 (((g 0 0 12) - (Int32.ofInt 1)).toNatClampNeg)) + ((Int32.ofInt 1) + p54.1))) 0 0 24 ((p54.2 0 0 24) + (Int32.ofInt 1)))).bind fun p55 =>
                              ((f_R_comeBack [.inr (0, 0), .inl p55.1] p55.2).bind fun p56 =>
                               some (none, p56)))))))))))))))))))
            else
             none))
          else
           none)))
       else
        none)
      else
       ((f_R_operands [.inl (g 6 0 ((((Int32.ofInt 60) * (g 12 0 (((g 0 0 12) - (Int32.ofInt 1)).toNatClampNeg))) + (g 13 0 (((g 0 0 12) - (Int32.ofInt 1)).toNatClampNeg))).toNatClampNeg))] p1.2).bind fun p2 =>
        (if (Int32.ofInt 1) < p2.1 then
         (if inB ((((Int32.ofInt 60) * (g 12 0 (((g 0 0 12) - (Int32.ofInt 1)).toNatClampNeg))) + (g 13 0 (((g 0 0 12) - (Int32.ofInt 1)).toNatClampNeg))) + (Int32.ofInt 2)) 720 then
          (if inB ((g 0 0 12) - (Int32.ofInt 1)) 8 then
           ((f_R_operands [.inl (g 6 0 ((((Int32.ofInt 60) * (g 12 0 (((g 0 0 12) - (Int32.ofInt 1)).toNatClampNeg))) + (g 13 0 (((g 0 0 12) - (Int32.ofInt 1)).toNatClampNeg))).toNatClampNeg))] p2.2).bind fun p28 =>
            (if inB ((g 0 0 12) - (Int32.ofInt 1)) 8 then
             (if (g 6 0 ((((Int32.ofInt 60) * (g 12 0 (((g 0 0 12) - (Int32.ofInt 1)).toNatClampNeg))) + (g 13 0 (((g 0 0 12) - (Int32.ofInt 1)).toNatClampNeg))).toNatClampNeg)) = 0 then
              ((f_R_push [.inr (0, 0), .inl (Int32.ofInt 0)] (st3 (st3 p28.2 13 0 (((g 0 0 12) - (Int32.ofInt 1)).toNatClampNeg) ((p2.2 13 0 (((g 0 0 12) - (Int32.ofInt 1)).toNatClampNeg)) + ((Int32.ofInt 1) + p28.1))) 0 0 24 ((p28.2 0 0 24) + (Int32.ofInt 1)))).bind fun p52 =>
               some (none, p52))
             else
              (if (g 6 0 ((((Int32.ofInt 60) * (g 12 0 (((g 0 0 12) - (Int32.ofInt 1)).toNatClampNeg))) + (g 13 0 (((g 0 0 12) - (Int32.ofInt 1)).toNatClampNeg))).toNatClampNeg)) < (Int32.ofInt 12) then
               ((f_R_onStack [.inr (0, 0), .inl (g 6 0 ((((Int32.ofInt 60) * (g 12 0 (((g 0 0 12) - (Int32.ofInt 1)).toNatClampNeg))) + (g 13 0 (((g 0 0 12) - (Int32.ofInt 1)).toNatClampNeg))).toNatClampNeg))] (st3 (st3 p28.2 13 0 (((g 0 0 12) - (Int32.ofInt 1)).toNatClampNeg) ((p2.2 13 0 (((g 0 0 12) - (Int32.ofInt 1)).toNatClampNeg)) + ((Int32.ofInt 1) + p28.1))) 0 0 24 ((p28.2 0 0 24) + (Int32.ofInt 1)))).bind fun p51 =>
                some (none, p51))
              else
               (if (g 6 0 ((((Int32.ofInt 60) * (g 12 0 (((g 0 0 12) - (Int32.ofInt 1)).toNatClampNeg))) + (g 13 0 (((g 0 0 12) - (Int32.ofInt 1)).toNatClampNeg))).toNatClampNeg)) = (Int32.ofInt 12) then
                (if inB (((Int32.ofInt 8) * ((g 0 0 12) - (Int32.ofInt 1))) + (Int32.ofInt 0)) 64 then
                 ((f_R_push [.inr (0, 0), .inl (p28.2 16 0 ((((Int32.ofInt 8) * ((g 0 0 12) - (Int32.ofInt 1))) + (Int32.ofInt 0)).toNatClampNeg))] (st3 (st3 p28.2 13 0 (((g 0 0 12) - (Int32.ofInt 1)).toNatClampNeg) ((p2.2 13 0 (((g 0 0 12) - (Int32.ofInt 1)).toNatClampNeg)) + ((Int32.ofInt 1) + p28.1))) 0 0 24 ((p28.2 0 0 24) + (Int32.ofInt 1)))).bind fun p50 =>
                  some (none, p50))
                else
                 none)
               else
                (if (g 6 0 ((((Int32.ofInt 60) * (g 12 0 (((g 0 0 12) - (Int32.ofInt 1)).toNatClampNeg))) + (g 13 0 (((g 0 0 12) - (Int32.ofInt 1)).toNatClampNeg))).toNatClampNeg)) = (Int32.ofInt 13) then
                 ((f_R_pop [.inr (0, 0)] (st3 (st3 p28.2 13 0 (((g 0 0 12) - (Int32.ofInt 1)).toNatClampNeg) ((p2.2 13 0 (((g 0 0 12) - (Int32.ofInt 1)).toNatClampNeg)) + ((Int32.ofInt 1) + p28.1))) 0 0 24 ((p28.2 0 0 24) + (Int32.ofInt 1)))).bind fun p49 =>
                  (if inB (((Int32.ofInt 8) * ((g 0 0 12) - (Int32.ofInt 1))) + (Int32.ofInt 0)) 64 then
                   some (none, (st3 p49.2 16 0 ((((Int32.ofInt 8) * ((g 0 0 12) - (Int32.ofInt 1))) + (Int32.ofInt 0)).toNatClampNeg) p49.1))
                  else
                   none))
                else
                 (if (g 6 0 ((((Int32.ofInt 60) * (g 12 0 (((g 0 0 12) - (Int32.ofInt 1)).toNatClampNeg))) + (g 13 0 (((g 0 0 12) - (Int32.ofInt 1)).toNatClampNeg))).toNatClampNeg)) = (Int32.ofInt 14) then
                  (if inB ((g 0 0 12) - (Int32.ofInt 1)) 8 then
                   some (none, (st3 (st3 (st3 p28.2 13 0 (((g 0 0 12) - (Int32.ofInt 1)).toNatClampNeg) ((p2.2 13 0 (((g 0 0 12) - (Int32.ofInt 1)).toNatClampNeg)) + ((Int32.ofInt 1) + p28.1))) 0 0 24 ((p28.2 0 0 24) + (Int32.ofInt 1))) 13 0 (((g 0 0 12) - (Int32.ofInt 1)).toNatClampNeg) (Int32.ofInt 0)))
                  else
                   none)
                 else
                  (if (g 6 0 ((((Int32.ofInt 60) * (g 12 0 (((g 0 0 12) - (Int32.ofInt 1)).toNatClampNeg))) + (g 13 0 (((g 0 0 12) - (Int32.ofInt 1)).toNatClampNeg))).toNatClampNeg)) = (Int32.ofInt 15) then
                   ((f_R_pop [.inr (0, 0)] (st3 (st3 p28.2 13 0 (((g 0 0 12) - (Int32.ofInt 1)).toNatClampNeg) ((p2.2 13 0 (((g 0 0 12) - (Int32.ofInt 1)).toNatClampNeg)) + ((Int32.ofInt 1) + p28.1))) 0 0 24 ((p28.2 0 0 24) + (Int32.ofInt 1)))).bind fun p48 =>
                    (if p48.1 = 0 then
                     (if inB ((g 0 0 12) - (Int32.ofInt 1)) 8 then
                      some (none, (st3 p48.2 13 0 (((g 0 0 12) - (Int32.ofInt 1)).toNatClampNeg) (Int32.ofInt 0)))
                     else
                      none)
                    else
                     (if inB ((g 0 0 12) - (Int32.ofInt 1)) 8 then
                      (if inB ((g 0 0 12) - (Int32.ofInt 1)) 8 then
                       some (none, (st3 p48.2 13 0 (((g 0 0 12) - (Int32.ofInt 1)).toNatClampNeg) (p48.2 13 0 (((g 0 0 12) - (Int32.ofInt 1)).toNatClampNeg))))
                      else
                       none)
                     else
                      none)))
                  else
                   (if (g 6 0 ((((Int32.ofInt 60) * (g 12 0 (((g 0 0 12) - (Int32.ofInt 1)).toNatClampNeg))) + (g 13 0 (((g 0 0 12) - (Int32.ofInt 1)).toNatClampNeg))).toNatClampNeg)) = (Int32.ofInt 16) then
                    (if inB (Int32.ofInt 0) 4 then
                     ((f_R_push [.inr (0, 0), .inl (p28.2 1 0 ((Int32.ofInt 0).toNatClampNeg))] (st3 (st3 p28.2 13 0 (((g 0 0 12) - (Int32.ofInt 1)).toNatClampNeg) ((p2.2 13 0 (((g 0 0 12) - (Int32.ofInt 1)).toNatClampNeg)) + ((Int32.ofInt 1) + p28.1))) 0 0 24 ((p28.2 0 0 24) + (Int32.ofInt 1)))).bind fun p47 =>
                      some (none, p47))
                    else
                     none)
                   else
                    (if (g 6 0 ((((Int32.ofInt 60) * (g 12 0 (((g 0 0 12) - (Int32.ofInt 1)).toNatClampNeg))) + (g 13 0 (((g 0 0 12) - (Int32.ofInt 1)).toNatClampNeg))).toNatClampNeg)) = (Int32.ofInt 17) then
                     ((f_R_pop [.inr (0, 0)] (st3 (st3 p28.2 13 0 (((g 0 0 12) - (Int32.ofInt 1)).toNatClampNeg) ((p2.2 13 0 (((g 0 0 12) - (Int32.ofInt 1)).toNatClampNeg)) + ((Int32.ofInt 1) + p28.1))) 0 0 24 ((p28.2 0 0 24) + (Int32.ofInt 1)))).bind fun p43 =>
                      ((f_R_isRow [.inr (0, 0), .inl (Int32.ofInt 0), .inl p43.1] p43.2).bind fun p44 =>
                       (if p44.1 = 0 then
                        ((f_R_push [.inr (0, 0), .inl (Int32.ofInt 0)] p44.2).bind fun p45 =>
                         some (none, p45))
                       else
                        (if inB ((((Int32.ofInt 48) * (Int32.ofInt 0)) + ((Int32.ofInt 3) * p43.1)) + (p2.2 6 0 (((((Int32.ofInt 60) * (g 12 0 (((g 0 0 12) - (Int32.ofInt 1)).toNatClampNeg))) + (g 13 0 (((g 0 0 12) - (Int32.ofInt 1)).toNatClampNeg))) + (Int32.ofInt 2)).toNatClampNeg))) 192 then
                         ((f_R_push [.inr (0, 0), .inl (p44.2 2 0 (((((Int32.ofInt 48) * (Int32.ofInt 0)) + ((Int32.ofInt 3) * p43.1)) + (p2.2 6 0 (((((Int32.ofInt 60) * (g 12 0 (((g 0 0 12) - (Int32.ofInt 1)).toNatClampNeg))) + (g 13 0 (((g 0 0 12) - (Int32.ofInt 1)).toNatClampNeg))) + (Int32.ofInt 2)).toNatClampNeg))).toNatClampNeg))] p44.2).bind fun p46 =>
                          some (none, p46))
                        else
                         none))))
                    else
                     (if (g 6 0 ((((Int32.ofInt 60) * (g 12 0 (((g 0 0 12) - (Int32.ofInt 1)).toNatClampNeg))) + (g 13 0 (((g 0 0 12) - (Int32.ofInt 1)).toNatClampNeg))).toNatClampNeg)) = (Int32.ofInt 18) then
                      ((f_R_insert [.inr (0, 0), .inl (Int32.ofInt 0)] (st3 (st3 p28.2 13 0 (((g 0 0 12) - (Int32.ofInt 1)).toNatClampNeg) ((p2.2 13 0 (((g 0 0 12) - (Int32.ofInt 1)).toNatClampNeg)) + ((Int32.ofInt 1) + p28.1))) 0 0 24 ((p28.2 0 0 24) + (Int32.ofInt 1)))).bind fun p42 =>
                       some (none, p42))
                     else
                      (if (g 6 0 ((((Int32.ofInt 60) * (g 12 0 (((g 0 0 12) - (Int32.ofInt 1)).toNatClampNeg))) + (g 13 0 (((g 0 0 12) - (Int32.ofInt 1)).toNatClampNeg))).toNatClampNeg)) = (Int32.ofInt 19) then
                       ((f_R_delete [.inr (0, 0), .inl (Int32.ofInt 0)] (st3 (st3 p28.2 13 0 (((g 0 0 12) - (Int32.ofInt 1)).toNatClampNeg) ((p2.2 13 0 (((g 0 0 12) - (Int32.ofInt 1)).toNatClampNeg)) + ((Int32.ofInt 1) + p28.1))) 0 0 24 ((p28.2 0 0 24) + (Int32.ofInt 1)))).bind fun p41 =>
                        some (none, p41))
                      else
                       (if (g 6 0 ((((Int32.ofInt 60) * (g 12 0 (((g 0 0 12) - (Int32.ofInt 1)).toNatClampNeg))) + (g 13 0 (((g 0 0 12) - (Int32.ofInt 1)).toNatClampNeg))).toNatClampNeg)) = (Int32.ofInt 20) then
                        ((f_R_update [.inr (0, 0), .inl (Int32.ofInt 0), .inl (p2.2 6 0 (((((Int32.ofInt 60) * (g 12 0 (((g 0 0 12) - (Int32.ofInt 1)).toNatClampNeg))) + (g 13 0 (((g 0 0 12) - (Int32.ofInt 1)).toNatClampNeg))) + (Int32.ofInt 2)).toNatClampNeg))] (st3 (st3 p28.2 13 0 (((g 0 0 12) - (Int32.ofInt 1)).toNatClampNeg) ((p2.2 13 0 (((g 0 0 12) - (Int32.ofInt 1)).toNatClampNeg)) + ((Int32.ofInt 1) + p28.1))) 0 0 24 ((p28.2 0 0 24) + (Int32.ofInt 1)))).bind fun p40 =>
                         some (none, p40))
                       else
                        (if (g 6 0 ((((Int32.ofInt 60) * (g 12 0 (((g 0 0 12) - (Int32.ofInt 1)).toNatClampNeg))) + (g 13 0 (((g 0 0 12) - (Int32.ofInt 1)).toNatClampNeg))).toNatClampNeg)) = (Int32.ofInt 21) then
                         ((f_R_pop [.inr (0, 0)] (st3 (st3 p28.2 13 0 (((g 0 0 12) - (Int32.ofInt 1)).toNatClampNeg) ((p2.2 13 0 (((g 0 0 12) - (Int32.ofInt 1)).toNatClampNeg)) + ((Int32.ofInt 1) + p28.1))) 0 0 24 ((p28.2 0 0 24) + (Int32.ofInt 1)))).bind fun p36 =>
                          ((f_R_pop [.inr (0, 0)] p36.2).bind fun p37 =>
                           ((f_R_find [.inr (0, 0), .inl (Int32.ofInt 0), .inl (p2.2 6 0 (((((Int32.ofInt 60) * (g 12 0 (((g 0 0 12) - (Int32.ofInt 1)).toNatClampNeg))) + (g 13 0 (((g 0 0 12) - (Int32.ofInt 1)).toNatClampNeg))) + (Int32.ofInt 2)).toNatClampNeg)), .inl p37.1, .inl p36.1] p37.2).bind fun p38 =>
                            ((f_R_push [.inr (0, 0), .inl p38.1] p38.2).bind fun p39 =>
                             some (none, p39)))))
                        else
                         (if (g 6 0 ((((Int32.ofInt 60) * (g 12 0 (((g 0 0 12) - (Int32.ofInt 1)).toNatClampNeg))) + (g 13 0 (((g 0 0 12) - (Int32.ofInt 1)).toNatClampNeg))).toNatClampNeg)) = (Int32.ofInt 22) then
                          (if inB (((Int32.ofInt 3) * ((g 0 0 12) - (Int32.ofInt 1))) + (Int32.ofInt 0)) 24 then
                           ((f_R_push [.inr (0, 0), .inl (p28.2 17 0 ((((Int32.ofInt 3) * ((g 0 0 12) - (Int32.ofInt 1))) + (Int32.ofInt 0)).toNatClampNeg))] (st3 (st3 p28.2 13 0 (((g 0 0 12) - (Int32.ofInt 1)).toNatClampNeg) ((p2.2 13 0 (((g 0 0 12) - (Int32.ofInt 1)).toNatClampNeg)) + ((Int32.ofInt 1) + p28.1))) 0 0 24 ((p28.2 0 0 24) + (Int32.ofInt 1)))).bind fun p35 =>
                            some (none, p35))
                          else
                           none)
                         else
                          (if (g 6 0 ((((Int32.ofInt 60) * (g 12 0 (((g 0 0 12) - (Int32.ofInt 1)).toNatClampNeg))) + (g 13 0 (((g 0 0 12) - (Int32.ofInt 1)).toNatClampNeg))).toNatClampNeg)) = (Int32.ofInt 23) then
                           (if inB (((Int32.ofInt 3) * ((g 0 0 12) - (Int32.ofInt 1))) + (Int32.ofInt 0)) 24 then
                            ((f_R_push [.inr (0, 0), .inl (p28.2 18 0 ((((Int32.ofInt 3) * ((g 0 0 12) - (Int32.ofInt 1))) + (Int32.ofInt 0)).toNatClampNeg))] (st3 (st3 p28.2 13 0 (((g 0 0 12) - (Int32.ofInt 1)).toNatClampNeg) ((p2.2 13 0 (((g 0 0 12) - (Int32.ofInt 1)).toNatClampNeg)) + ((Int32.ofInt 1) + p28.1))) 0 0 24 ((p28.2 0 0 24) + (Int32.ofInt 1)))).bind fun p34 =>
                             some (none, p34))
                           else
                            none)
                          else
                           (if (g 6 0 ((((Int32.ofInt 60) * (g 12 0 (((g 0 0 12) - (Int32.ofInt 1)).toNatClampNeg))) + (g 13 0 (((g 0 0 12) - (Int32.ofInt 1)).toNatClampNeg))).toNatClampNeg)) = (Int32.ofInt 24) then
                            ((f_R_pop [.inr (0, 0)] (st3 (st3 p28.2 13 0 (((g 0 0 12) - (Int32.ofInt 1)).toNatClampNeg) ((p2.2 13 0 (((g 0 0 12) - (Int32.ofInt 1)).toNatClampNeg)) + ((Int32.ofInt 1) + p28.1))) 0 0 24 ((p28.2 0 0 24) + (Int32.ofInt 1)))).bind fun p32 =>
                             ((f_R_enter [.inr (0, 0), .inl (Int32.ofInt 0), .inl p32.1, .inl (Int32.ofInt 0)] p32.2).bind fun p33 =>
                              some (none, p33.2)))
                           else
                            (if (g 6 0 ((((Int32.ofInt 60) * (g 12 0 (((g 0 0 12) - (Int32.ofInt 1)).toNatClampNeg))) + (g 13 0 (((g 0 0 12) - (Int32.ofInt 1)).toNatClampNeg))).toNatClampNeg)) = (Int32.ofInt 25) then
                             ((f_R_pop [.inr (0, 0)] (st3 (st3 p28.2 13 0 (((g 0 0 12) - (Int32.ofInt 1)).toNatClampNeg) ((p2.2 13 0 (((g 0 0 12) - (Int32.ofInt 1)).toNatClampNeg)) + ((Int32.ofInt 1) + p28.1))) 0 0 24 ((p28.2 0 0 24) + (Int32.ofInt 1)))).bind fun p31 =>
                              some (none, (st3 (st3 p31.2 0 0 22 p31.1) 0 0 21 (Int32.ofInt 1))))
                            else
                             ((f_R_pop [.inr (0, 0)] (st3 (st3 p28.2 13 0 (((g 0 0 12) - (Int32.ofInt 1)).toNatClampNeg) ((p2.2 13 0 (((g 0 0 12) - (Int32.ofInt 1)).toNatClampNeg)) + ((Int32.ofInt 1) + p28.1))) 0 0 24 ((p28.2 0 0 24) + (Int32.ofInt 1)))).bind fun p29 =>
                              ((f_R_comeBack [.inr (0, 0), .inl p29.1] p29.2).bind fun p30 =>
                               some (none, p30)))))))))))))))))))
            else
             none))
          else
           none)
         else
          none)
        else
         (if inB ((g 0 0 12) - (Int32.ofInt 1)) 8 then
          ((f_R_operands [.inl (g 6 0 ((((Int32.ofInt 60) * (g 12 0 (((g 0 0 12) - (Int32.ofInt 1)).toNatClampNeg))) + (g 13 0 (((g 0 0 12) - (Int32.ofInt 1)).toNatClampNeg))).toNatClampNeg))] p2.2).bind fun p3 =>
           (if inB ((g 0 0 12) - (Int32.ofInt 1)) 8 then
            (if (g 6 0 ((((Int32.ofInt 60) * (g 12 0 (((g 0 0 12) - (Int32.ofInt 1)).toNatClampNeg))) + (g 13 0 (((g 0 0 12) - (Int32.ofInt 1)).toNatClampNeg))).toNatClampNeg)) = 0 then
             ((f_R_push [.inr (0, 0), .inl (Int32.ofInt 0)] (st3 (st3 p3.2 13 0 (((g 0 0 12) - (Int32.ofInt 1)).toNatClampNeg) ((p2.2 13 0 (((g 0 0 12) - (Int32.ofInt 1)).toNatClampNeg)) + ((Int32.ofInt 1) + p3.1))) 0 0 24 ((p3.2 0 0 24) + (Int32.ofInt 1)))).bind fun p27 =>
              some (none, p27))
            else
             (if (g 6 0 ((((Int32.ofInt 60) * (g 12 0 (((g 0 0 12) - (Int32.ofInt 1)).toNatClampNeg))) + (g 13 0 (((g 0 0 12) - (Int32.ofInt 1)).toNatClampNeg))).toNatClampNeg)) < (Int32.ofInt 12) then
              ((f_R_onStack [.inr (0, 0), .inl (g 6 0 ((((Int32.ofInt 60) * (g 12 0 (((g 0 0 12) - (Int32.ofInt 1)).toNatClampNeg))) + (g 13 0 (((g 0 0 12) - (Int32.ofInt 1)).toNatClampNeg))).toNatClampNeg))] (st3 (st3 p3.2 13 0 (((g 0 0 12) - (Int32.ofInt 1)).toNatClampNeg) ((p2.2 13 0 (((g 0 0 12) - (Int32.ofInt 1)).toNatClampNeg)) + ((Int32.ofInt 1) + p3.1))) 0 0 24 ((p3.2 0 0 24) + (Int32.ofInt 1)))).bind fun p26 =>
               some (none, p26))
             else
              (if (g 6 0 ((((Int32.ofInt 60) * (g 12 0 (((g 0 0 12) - (Int32.ofInt 1)).toNatClampNeg))) + (g 13 0 (((g 0 0 12) - (Int32.ofInt 1)).toNatClampNeg))).toNatClampNeg)) = (Int32.ofInt 12) then
               (if inB (((Int32.ofInt 8) * ((g 0 0 12) - (Int32.ofInt 1))) + (Int32.ofInt 0)) 64 then
                ((f_R_push [.inr (0, 0), .inl (p3.2 16 0 ((((Int32.ofInt 8) * ((g 0 0 12) - (Int32.ofInt 1))) + (Int32.ofInt 0)).toNatClampNeg))] (st3 (st3 p3.2 13 0 (((g 0 0 12) - (Int32.ofInt 1)).toNatClampNeg) ((p2.2 13 0 (((g 0 0 12) - (Int32.ofInt 1)).toNatClampNeg)) + ((Int32.ofInt 1) + p3.1))) 0 0 24 ((p3.2 0 0 24) + (Int32.ofInt 1)))).bind fun p25 =>
                 some (none, p25))
               else
                none)
              else
               (if (g 6 0 ((((Int32.ofInt 60) * (g 12 0 (((g 0 0 12) - (Int32.ofInt 1)).toNatClampNeg))) + (g 13 0 (((g 0 0 12) - (Int32.ofInt 1)).toNatClampNeg))).toNatClampNeg)) = (Int32.ofInt 13) then
                ((f_R_pop [.inr (0, 0)] (st3 (st3 p3.2 13 0 (((g 0 0 12) - (Int32.ofInt 1)).toNatClampNeg) ((p2.2 13 0 (((g 0 0 12) - (Int32.ofInt 1)).toNatClampNeg)) + ((Int32.ofInt 1) + p3.1))) 0 0 24 ((p3.2 0 0 24) + (Int32.ofInt 1)))).bind fun p24 =>
                 (if inB (((Int32.ofInt 8) * ((g 0 0 12) - (Int32.ofInt 1))) + (Int32.ofInt 0)) 64 then
                  some (none, (st3 p24.2 16 0 ((((Int32.ofInt 8) * ((g 0 0 12) - (Int32.ofInt 1))) + (Int32.ofInt 0)).toNatClampNeg) p24.1))
                 else
                  none))
               else
                (if (g 6 0 ((((Int32.ofInt 60) * (g 12 0 (((g 0 0 12) - (Int32.ofInt 1)).toNatClampNeg))) + (g 13 0 (((g 0 0 12) - (Int32.ofInt 1)).toNatClampNeg))).toNatClampNeg)) = (Int32.ofInt 14) then
                 (if inB ((g 0 0 12) - (Int32.ofInt 1)) 8 then
                  some (none, (st3 (st3 (st3 p3.2 13 0 (((g 0 0 12) - (Int32.ofInt 1)).toNatClampNeg) ((p2.2 13 0 (((g 0 0 12) - (Int32.ofInt 1)).toNatClampNeg)) + ((Int32.ofInt 1) + p3.1))) 0 0 24 ((p3.2 0 0 24) + (Int32.ofInt 1))) 13 0 (((g 0 0 12) - (Int32.ofInt 1)).toNatClampNeg) (Int32.ofInt 0)))
                 else
                  none)
                else
                 (if (g 6 0 ((((Int32.ofInt 60) * (g 12 0 (((g 0 0 12) - (Int32.ofInt 1)).toNatClampNeg))) + (g 13 0 (((g 0 0 12) - (Int32.ofInt 1)).toNatClampNeg))).toNatClampNeg)) = (Int32.ofInt 15) then
                  ((f_R_pop [.inr (0, 0)] (st3 (st3 p3.2 13 0 (((g 0 0 12) - (Int32.ofInt 1)).toNatClampNeg) ((p2.2 13 0 (((g 0 0 12) - (Int32.ofInt 1)).toNatClampNeg)) + ((Int32.ofInt 1) + p3.1))) 0 0 24 ((p3.2 0 0 24) + (Int32.ofInt 1)))).bind fun p23 =>
                   (if p23.1 = 0 then
                    (if inB ((g 0 0 12) - (Int32.ofInt 1)) 8 then
                     some (none, (st3 p23.2 13 0 (((g 0 0 12) - (Int32.ofInt 1)).toNatClampNeg) (Int32.ofInt 0)))
                    else
                     none)
                   else
                    (if inB ((g 0 0 12) - (Int32.ofInt 1)) 8 then
                     (if inB ((g 0 0 12) - (Int32.ofInt 1)) 8 then
                      some (none, (st3 p23.2 13 0 (((g 0 0 12) - (Int32.ofInt 1)).toNatClampNeg) (p23.2 13 0 (((g 0 0 12) - (Int32.ofInt 1)).toNatClampNeg))))
                     else
                      none)
                    else
                     none)))
                 else
                  (if (g 6 0 ((((Int32.ofInt 60) * (g 12 0 (((g 0 0 12) - (Int32.ofInt 1)).toNatClampNeg))) + (g 13 0 (((g 0 0 12) - (Int32.ofInt 1)).toNatClampNeg))).toNatClampNeg)) = (Int32.ofInt 16) then
                   (if inB (Int32.ofInt 0) 4 then
                    ((f_R_push [.inr (0, 0), .inl (p3.2 1 0 ((Int32.ofInt 0).toNatClampNeg))] (st3 (st3 p3.2 13 0 (((g 0 0 12) - (Int32.ofInt 1)).toNatClampNeg) ((p2.2 13 0 (((g 0 0 12) - (Int32.ofInt 1)).toNatClampNeg)) + ((Int32.ofInt 1) + p3.1))) 0 0 24 ((p3.2 0 0 24) + (Int32.ofInt 1)))).bind fun p22 =>
                     some (none, p22))
                   else
                    none)
                  else
                   (if (g 6 0 ((((Int32.ofInt 60) * (g 12 0 (((g 0 0 12) - (Int32.ofInt 1)).toNatClampNeg))) + (g 13 0 (((g 0 0 12) - (Int32.ofInt 1)).toNatClampNeg))).toNatClampNeg)) = (Int32.ofInt 17) then
                    ((f_R_pop [.inr (0, 0)] (st3 (st3 p3.2 13 0 (((g 0 0 12) - (Int32.ofInt 1)).toNatClampNeg) ((p2.2 13 0 (((g 0 0 12) - (Int32.ofInt 1)).toNatClampNeg)) + ((Int32.ofInt 1) + p3.1))) 0 0 24 ((p3.2 0 0 24) + (Int32.ofInt 1)))).bind fun p18 =>
                     ((f_R_isRow [.inr (0, 0), .inl (Int32.ofInt 0), .inl p18.1] p18.2).bind fun p19 =>
                      (if p19.1 = 0 then
                       ((f_R_push [.inr (0, 0), .inl (Int32.ofInt 0)] p19.2).bind fun p20 =>
                        some (none, p20))
                      else
                       (if inB ((((Int32.ofInt 48) * (Int32.ofInt 0)) + ((Int32.ofInt 3) * p18.1)) + (Int32.ofInt 0)) 192 then
                        ((f_R_push [.inr (0, 0), .inl (p19.2 2 0 (((((Int32.ofInt 48) * (Int32.ofInt 0)) + ((Int32.ofInt 3) * p18.1)) + (Int32.ofInt 0)).toNatClampNeg))] p19.2).bind fun p21 =>
                         some (none, p21))
                       else
                        none))))
                   else
                    (if (g 6 0 ((((Int32.ofInt 60) * (g 12 0 (((g 0 0 12) - (Int32.ofInt 1)).toNatClampNeg))) + (g 13 0 (((g 0 0 12) - (Int32.ofInt 1)).toNatClampNeg))).toNatClampNeg)) = (Int32.ofInt 18) then
                     ((f_R_insert [.inr (0, 0), .inl (Int32.ofInt 0)] (st3 (st3 p3.2 13 0 (((g 0 0 12) - (Int32.ofInt 1)).toNatClampNeg) ((p2.2 13 0 (((g 0 0 12) - (Int32.ofInt 1)).toNatClampNeg)) + ((Int32.ofInt 1) + p3.1))) 0 0 24 ((p3.2 0 0 24) + (Int32.ofInt 1)))).bind fun p17 =>
                      some (none, p17))
                    else
                     (if (g 6 0 ((((Int32.ofInt 60) * (g 12 0 (((g 0 0 12) - (Int32.ofInt 1)).toNatClampNeg))) + (g 13 0 (((g 0 0 12) - (Int32.ofInt 1)).toNatClampNeg))).toNatClampNeg)) = (Int32.ofInt 19) then
                      ((f_R_delete [.inr (0, 0), .inl (Int32.ofInt 0)] (st3 (st3 p3.2 13 0 (((g 0 0 12) - (Int32.ofInt 1)).toNatClampNeg) ((p2.2 13 0 (((g 0 0 12) - (Int32.ofInt 1)).toNatClampNeg)) + ((Int32.ofInt 1) + p3.1))) 0 0 24 ((p3.2 0 0 24) + (Int32.ofInt 1)))).bind fun p16 =>
                       some (none, p16))
                     else
                      (if (g 6 0 ((((Int32.ofInt 60) * (g 12 0 (((g 0 0 12) - (Int32.ofInt 1)).toNatClampNeg))) + (g 13 0 (((g 0 0 12) - (Int32.ofInt 1)).toNatClampNeg))).toNatClampNeg)) = (Int32.ofInt 20) then
                       ((f_R_update [.inr (0, 0), .inl (Int32.ofInt 0), .inl (Int32.ofInt 0)] (st3 (st3 p3.2 13 0 (((g 0 0 12) - (Int32.ofInt 1)).toNatClampNeg) ((p2.2 13 0 (((g 0 0 12) - (Int32.ofInt 1)).toNatClampNeg)) + ((Int32.ofInt 1) + p3.1))) 0 0 24 ((p3.2 0 0 24) + (Int32.ofInt 1)))).bind fun p15 =>
                        some (none, p15))
                      else
                       (if (g 6 0 ((((Int32.ofInt 60) * (g 12 0 (((g 0 0 12) - (Int32.ofInt 1)).toNatClampNeg))) + (g 13 0 (((g 0 0 12) - (Int32.ofInt 1)).toNatClampNeg))).toNatClampNeg)) = (Int32.ofInt 21) then
                        ((f_R_pop [.inr (0, 0)] (st3 (st3 p3.2 13 0 (((g 0 0 12) - (Int32.ofInt 1)).toNatClampNeg) ((p2.2 13 0 (((g 0 0 12) - (Int32.ofInt 1)).toNatClampNeg)) + ((Int32.ofInt 1) + p3.1))) 0 0 24 ((p3.2 0 0 24) + (Int32.ofInt 1)))).bind fun p11 =>
                         ((f_R_pop [.inr (0, 0)] p11.2).bind fun p12 =>
                          ((f_R_find [.inr (0, 0), .inl (Int32.ofInt 0), .inl (Int32.ofInt 0), .inl p12.1, .inl p11.1] p12.2).bind fun p13 =>
                           ((f_R_push [.inr (0, 0), .inl p13.1] p13.2).bind fun p14 =>
                            some (none, p14)))))
                       else
                        (if (g 6 0 ((((Int32.ofInt 60) * (g 12 0 (((g 0 0 12) - (Int32.ofInt 1)).toNatClampNeg))) + (g 13 0 (((g 0 0 12) - (Int32.ofInt 1)).toNatClampNeg))).toNatClampNeg)) = (Int32.ofInt 22) then
                         (if inB (((Int32.ofInt 3) * ((g 0 0 12) - (Int32.ofInt 1))) + (Int32.ofInt 0)) 24 then
                          ((f_R_push [.inr (0, 0), .inl (p3.2 17 0 ((((Int32.ofInt 3) * ((g 0 0 12) - (Int32.ofInt 1))) + (Int32.ofInt 0)).toNatClampNeg))] (st3 (st3 p3.2 13 0 (((g 0 0 12) - (Int32.ofInt 1)).toNatClampNeg) ((p2.2 13 0 (((g 0 0 12) - (Int32.ofInt 1)).toNatClampNeg)) + ((Int32.ofInt 1) + p3.1))) 0 0 24 ((p3.2 0 0 24) + (Int32.ofInt 1)))).bind fun p10 =>
                           some (none, p10))
                         else
                          none)
                        else
                         (if (g 6 0 ((((Int32.ofInt 60) * (g 12 0 (((g 0 0 12) - (Int32.ofInt 1)).toNatClampNeg))) + (g 13 0 (((g 0 0 12) - (Int32.ofInt 1)).toNatClampNeg))).toNatClampNeg)) = (Int32.ofInt 23) then
                          (if inB (((Int32.ofInt 3) * ((g 0 0 12) - (Int32.ofInt 1))) + (Int32.ofInt 0)) 24 then
                           ((f_R_push [.inr (0, 0), .inl (p3.2 18 0 ((((Int32.ofInt 3) * ((g 0 0 12) - (Int32.ofInt 1))) + (Int32.ofInt 0)).toNatClampNeg))] (st3 (st3 p3.2 13 0 (((g 0 0 12) - (Int32.ofInt 1)).toNatClampNeg) ((p2.2 13 0 (((g 0 0 12) - (Int32.ofInt 1)).toNatClampNeg)) + ((Int32.ofInt 1) + p3.1))) 0 0 24 ((p3.2 0 0 24) + (Int32.ofInt 1)))).bind fun p9 =>
                            some (none, p9))
                          else
                           none)
                         else
                          (if (g 6 0 ((((Int32.ofInt 60) * (g 12 0 (((g 0 0 12) - (Int32.ofInt 1)).toNatClampNeg))) + (g 13 0 (((g 0 0 12) - (Int32.ofInt 1)).toNatClampNeg))).toNatClampNeg)) = (Int32.ofInt 24) then
                           ((f_R_pop [.inr (0, 0)] (st3 (st3 p3.2 13 0 (((g 0 0 12) - (Int32.ofInt 1)).toNatClampNeg) ((p2.2 13 0 (((g 0 0 12) - (Int32.ofInt 1)).toNatClampNeg)) + ((Int32.ofInt 1) + p3.1))) 0 0 24 ((p3.2 0 0 24) + (Int32.ofInt 1)))).bind fun p7 =>
                            ((f_R_enter [.inr (0, 0), .inl (Int32.ofInt 0), .inl p7.1, .inl (Int32.ofInt 0)] p7.2).bind fun p8 =>
                             some (none, p8.2)))
                          else
                           (if (g 6 0 ((((Int32.ofInt 60) * (g 12 0 (((g 0 0 12) - (Int32.ofInt 1)).toNatClampNeg))) + (g 13 0 (((g 0 0 12) - (Int32.ofInt 1)).toNatClampNeg))).toNatClampNeg)) = (Int32.ofInt 25) then
                            ((f_R_pop [.inr (0, 0)] (st3 (st3 p3.2 13 0 (((g 0 0 12) - (Int32.ofInt 1)).toNatClampNeg) ((p2.2 13 0 (((g 0 0 12) - (Int32.ofInt 1)).toNatClampNeg)) + ((Int32.ofInt 1) + p3.1))) 0 0 24 ((p3.2 0 0 24) + (Int32.ofInt 1)))).bind fun p6 =>
                             some (none, (st3 (st3 p6.2 0 0 22 p6.1) 0 0 21 (Int32.ofInt 1))))
                           else
                            ((f_R_pop [.inr (0, 0)] (st3 (st3 p3.2 13 0 (((g 0 0 12) - (Int32.ofInt 1)).toNatClampNeg) ((p2.2 13 0 (((g 0 0 12) - (Int32.ofInt 1)).toNatClampNeg)) + ((Int32.ofInt 1) + p3.1))) 0 0 24 ((p3.2 0 0 24) + (Int32.ofInt 1)))).bind fun p4 =>
                             ((f_R_comeBack [.inr (0, 0), .inl p4.1] p4.2).bind fun p5 =>
                              some (none, p5)))))))))))))))))))
           else
            none))
         else
          none)))))
    else
     none)
   else
    none)
  else
   none) := rfl
set_option maxRecDepth 100000 in
set_option maxHeartbeats 4000000 in
theorem x_R_value (g : mG) : rn_R_value 3 0 (mL0 [.inr (0, 0)] 1) [] g =
  some (some (.inl (g 0 0 22)), g) := rfl
set_option maxRecDepth 100000 in
set_option maxHeartbeats 4000000 in
theorem x_R_count (a : Int32) (g : mG) : rn_R_count 15 0 (mL0 [.inr (0, 0), .inl a] 2) [] g =
  (if a = 0 then
   some (some (.inl (g 0 0 24)), g)
  else
   (if a = (Int32.ofInt 1) then
    some (some (.inl (g 0 0 25)), g)
   else
    (if a = (Int32.ofInt 2) then
     some (some (.inl (g 0 0 26)), g)
    else
     (if a = (Int32.ofInt 3) then
      some (some (.inl (g 0 0 27)), g)
     else
      some (some (.inl (Int32.ofInt (-1))), g))))) := rfl
set_option maxRecDepth 100000 in
set_option maxHeartbeats 4000000 in
theorem x_R_rows (a : Int32) (g : mG) : rn_R_rows 10 0 (mL0 [.inr (0, 0), .inl a] 2) [] g =
  (if a < 0 then
   some (some (.inl (Int32.ofInt (-1))), g)
  else
   (if (Int32.ofInt 3) < a then
    some (some (.inl (Int32.ofInt (-1))), g)
   else
    (if inB a 4 then
     some (some (.inl (g 1 0 a.toNatClampNeg)), g)
    else
     none))) := rfl
set_option maxRecDepth 100000 in
set_option maxHeartbeats 4000000 in
theorem x_R_cell (a : Int32) (b : Int32) (c : Int32) (g : mG) : rn_R_cell 34 0 (mL0 [.inr (0, 0), .inl a, .inl b, .inl c] 5) [] g =
  (if a < 0 then
   (if (Int32.ofInt 0) = 0 then
    some (some (.inl (Int32.ofInt 0)), g)
   else
    (if inB ((((Int32.ofInt 48) * a) + ((Int32.ofInt 3) * b)) + c) 192 then
     some (some (.inl (g 2 0 (((((Int32.ofInt 48) * a) + ((Int32.ofInt 3) * b)) + c).toNatClampNeg))), g)
    else
     none))
  else
   (if (Int32.ofInt 3) < a then
    (if (Int32.ofInt 0) = 0 then
     some (some (.inl (Int32.ofInt 0)), g)
    else
     (if inB ((((Int32.ofInt 48) * a) + ((Int32.ofInt 3) * b)) + c) 192 then
      some (some (.inl (g 2 0 (((((Int32.ofInt 48) * a) + ((Int32.ofInt 3) * b)) + c).toNatClampNeg))), g)
     else
      none))
   else
    (if c < 0 then
     (if (Int32.ofInt 0) = 0 then
      some (some (.inl (Int32.ofInt 0)), g)
     else
      (if inB ((((Int32.ofInt 48) * a) + ((Int32.ofInt 3) * b)) + c) 192 then
       some (some (.inl (g 2 0 (((((Int32.ofInt 48) * a) + ((Int32.ofInt 3) * b)) + c).toNatClampNeg))), g)
      else
       none))
    else
     (if (Int32.ofInt 2) < c then
      (if (Int32.ofInt 0) = 0 then
       some (some (.inl (Int32.ofInt 0)), g)
      else
       (if inB ((((Int32.ofInt 48) * a) + ((Int32.ofInt 3) * b)) + c) 192 then
        some (some (.inl (g 2 0 (((((Int32.ofInt 48) * a) + ((Int32.ofInt 3) * b)) + c).toNatClampNeg))), g)
       else
        none))
     else
      ((f_R_isRow [.inr (0, 0), .inl a, .inl b] g).bind fun p1 =>
       (if p1.1 = 0 then
        (if (Int32.ofInt 0) = 0 then
         some (some (.inl (Int32.ofInt 0)), p1.2)
        else
         (if inB ((((Int32.ofInt 48) * a) + ((Int32.ofInt 3) * b)) + c) 192 then
          some (some (.inl (p1.2 2 0 (((((Int32.ofInt 48) * a) + ((Int32.ofInt 3) * b)) + c).toNatClampNeg))), p1.2)
         else
          none))
       else
        (if (Int32.ofInt 1) = 0 then
         some (some (.inl (Int32.ofInt 0)), p1.2)
        else
         (if inB ((((Int32.ofInt 48) * a) + ((Int32.ofInt 3) * b)) + c) 192 then
          some (some (.inl (p1.2 2 0 (((((Int32.ofInt 48) * a) + ((Int32.ofInt 3) * b)) + c).toNatClampNeg))), p1.2)
         else
          none)))))))) := rfl
