noncomputable abbrev rs_A_fill (st : List Nat) (z : mK) (n : Nat) : mK := pxs tb_A_fill shC nmC gl_A pl_A gs_A fe_A smC ct_A_fill sp_A_fill 0 st z n
noncomputable abbrev rs_V_faultOfWords (st : List Nat) (z : mK) (n : Nat) : mK := pxs tb_V_faultOfWords shC nmC gl_V pl_V gs_V fe_V smC ct_V_faultOfWords sp_V_faultOfWords 1 st z n
noncomputable abbrev rs_V_faultOfPlaces (st : List Nat) (z : mK) (n : Nat) : mK := pxs tb_V_faultOfPlaces shC nmC gl_V pl_V gs_V fe_V smC ct_V_faultOfPlaces sp_V_faultOfPlaces 1 st z n
noncomputable abbrev rs_V_leastToLookAt (st : List Nat) (z : mK) (n : Nat) : mK := pxs tb_V_leastToLookAt shC nmC gl_V pl_V gs_V fe_V smC ct_V_leastToLookAt sp_V_leastToLookAt 1 st z n
noncomputable abbrev rs_V_faultOfHeights (st : List Nat) (z : mK) (n : Nat) : mK := pxs tb_V_faultOfHeights shC nmC gl_V pl_V gs_V fe_V smC ct_V_faultOfHeights sp_V_faultOfHeights 1 st z n
noncomputable abbrev rs_T_copyRow (st : List Nat) (z : mK) (n : Nat) : mK := pxs tb_T_copyRow shC nmC gl_T pl_T gs_T fe_T smC ct_T_copyRow sp_T_copyRow 0 st z n
noncomputable abbrev rs_M_insert (st : List Nat) (z : mK) (n : Nat) : mK := pxs tb_M_insert shC nmC gl_M pl_M gs_M fe_M smC ct_M_insert sp_M_insert 1 st z n
noncomputable abbrev rs_T_find (st : List Nat) (z : mK) (n : Nat) : mK := pxs tb_T_find shC nmC gl_T pl_T gs_T fe_T smC ct_T_find sp_T_find 1 st z n
noncomputable abbrev rs_M_perform (st : List Nat) (z : mK) (n : Nat) : mK := pxs tb_M_perform shC nmC gl_M pl_M gs_M fe_M smC ct_M_perform sp_M_perform 1 st z n
noncomputable abbrev rs_R_isOutside (st : List Nat) (z : mK) (n : Nat) : mK := pxs tb_R_isOutside shR nmR gl_R pl_R gs_R fe_R smC ct_R_isOutside sp_R_isOutside 2 st z n
noncomputable abbrev rs_R_shape (st : List Nat) (z : mK) (n : Nat) : mK := pxs tb_R_shape shR nmR gl_R pl_R gs_R fe_R smC ct_R_shape sp_R_shape 1 st z n
noncomputable abbrev rs_R_jumps (st : List Nat) (z : mK) (n : Nat) : mK := pxs tb_R_jumps shR nmR gl_R pl_R gs_R fe_R smC ct_R_jumps sp_R_jumps 1 st z n
noncomputable abbrev rs_R_verify (st : List Nat) (z : mK) (n : Nat) : mK := pxs tb_R_verify shR nmR gl_R pl_R gs_R fe_R smC ct_R_verify sp_R_verify 1 st z n
noncomputable abbrev rs_R_enter (st : List Nat) (z : mK) (n : Nat) : mK := pxs tb_R_enter shR nmR gl_R pl_R gs_R fe_R smC ct_R_enter sp_R_enter 2 st z n
noncomputable abbrev rs_R_fire (st : List Nat) (z : mK) (n : Nat) : mK := pxs tb_R_fire shR nmR gl_R pl_R gs_R fe_R smC ct_R_fire sp_R_fire 0 st z n
noncomputable abbrev rs_R_delete (st : List Nat) (z : mK) (n : Nat) : mK := pxs tb_R_delete shR nmR gl_R pl_R gs_R fe_R smC ct_R_delete sp_R_delete 0 st z n
noncomputable abbrev rs_R_find (st : List Nat) (z : mK) (n : Nat) : mK := pxs tb_R_find shR nmR gl_R pl_R gs_R fe_R smC ct_R_find sp_R_find 1 st z n
noncomputable abbrev rs_R_call (st : List Nat) (z : mK) (n : Nat) : mK := pxs tb_R_call shR nmR gl_R pl_R gs_R fe_R smC ct_R_call sp_R_call 1 st z n
set_option maxRecDepth 100000 in
set_option maxHeartbeats 4000000 in
theorem y_A_fill_31_0 (z : mK) (x : Int32) (g : mG) : rs_A_fill [5] z 6 0 [some (.inr (31, 0)), some (.inl x), none, none] [] g =
  z 5 [some (.inr (31, 0)), some (.inl x), some (.inl (Int32.ofInt 0)), some (.inl (nI 60))] [] g := rfl
set_option maxRecDepth 100000 in
set_option maxHeartbeats 4000000 in
theorem y_A_fill_31_5 (z : mK) (x i m : Int32) (g : mG) : rs_A_fill [5] z 10 5 [some (.inr (31, 0)), some (.inl x), some (.inl i), some (.inl m)] [] g =
  (if i < m then
   (if inB i 60 then
    z 5 [some (.inr (31, 0)), some (.inl x), some (.inl (i + (Int32.ofInt 1))), some (.inl m)] [] (st3 g 31 0 i.toNatClampNeg x)
   else
    none)
  else
   some (none, g)) := rfl
set_option maxRecDepth 100000 in
set_option maxHeartbeats 4000000 in
theorem y_A_fill_12_0 (z : mK) (j : Nat) (x : Int32) (g : mG) : rs_A_fill [5] z 6 0 [some (.inr (12, j)), some (.inl x), none, none] [] g =
  z 5 [some (.inr (12, j)), some (.inl x), some (.inl (Int32.ofInt 0)), some (.inl (nI 8))] [] g := rfl
set_option maxRecDepth 100000 in
set_option maxHeartbeats 4000000 in
theorem y_A_fill_12_5 (z : mK) (j : Nat) (x i m : Int32) (g : mG) : rs_A_fill [5] z 10 5 [some (.inr (12, j)), some (.inl x), some (.inl i), some (.inl m)] [] g =
  (if i < m then
   (if inB i 8 then
    z 5 [some (.inr (12, j)), some (.inl x), some (.inl (i + (Int32.ofInt 1))), some (.inl m)] [] (st3 g 12 j i.toNatClampNeg x)
   else
    none)
  else
   some (none, g)) := rfl
set_option maxRecDepth 100000 in
set_option maxHeartbeats 4000000 in
theorem y_A_fill_13_0 (z : mK) (j : Nat) (x : Int32) (g : mG) : rs_A_fill [5] z 6 0 [some (.inr (13, j)), some (.inl x), none, none] [] g =
  z 5 [some (.inr (13, j)), some (.inl x), some (.inl (Int32.ofInt 0)), some (.inl (nI 3))] [] g := rfl
set_option maxRecDepth 100000 in
set_option maxHeartbeats 4000000 in
theorem y_A_fill_13_5 (z : mK) (j : Nat) (x i m : Int32) (g : mG) : rs_A_fill [5] z 10 5 [some (.inr (13, j)), some (.inl x), some (.inl i), some (.inl m)] [] g =
  (if i < m then
   (if inB i 3 then
    z 5 [some (.inr (13, j)), some (.inl x), some (.inl (i + (Int32.ofInt 1))), some (.inl m)] [] (st3 g 13 j i.toNatClampNeg x)
   else
    none)
  else
   some (none, g)) := rfl
set_option maxRecDepth 100000 in
set_option maxHeartbeats 4000000 in
theorem y_A_fill_14_0 (z : mK) (j : Nat) (x : Int32) (g : mG) : rs_A_fill [5] z 6 0 [some (.inr (14, j)), some (.inl x), none, none] [] g =
  z 5 [some (.inr (14, j)), some (.inl x), some (.inl (Int32.ofInt 0)), some (.inl (nI 3))] [] g := rfl
set_option maxRecDepth 100000 in
set_option maxHeartbeats 4000000 in
theorem y_A_fill_14_5 (z : mK) (j : Nat) (x i m : Int32) (g : mG) : rs_A_fill [5] z 10 5 [some (.inr (14, j)), some (.inl x), some (.inl i), some (.inl m)] [] g =
  (if i < m then
   (if inB i 3 then
    z 5 [some (.inr (14, j)), some (.inl x), some (.inl (i + (Int32.ofInt 1))), some (.inl m)] [] (st3 g 14 j i.toNatClampNeg x)
   else
    none)
  else
   some (none, g)) := rfl
set_option maxRecDepth 100000 in
set_option maxHeartbeats 4000000 in
theorem y_A_fill_20_0 (z : mK) (x : Int32) (g : mG) : rs_A_fill [5] z 6 0 [some (.inr (20, 0)), some (.inl x), none, none] [] g =
  z 5 [some (.inr (20, 0)), some (.inl x), some (.inl (Int32.ofInt 0)), some (.inl (nI 4))] [] g := rfl
set_option maxRecDepth 100000 in
set_option maxHeartbeats 4000000 in
theorem y_A_fill_20_5 (z : mK) (x i m : Int32) (g : mG) : rs_A_fill [5] z 10 5 [some (.inr (20, 0)), some (.inl x), some (.inl i), some (.inl m)] [] g =
  (if i < m then
   (if inB i 4 then
    z 5 [some (.inr (20, 0)), some (.inl x), some (.inl (i + (Int32.ofInt 1))), some (.inl m)] [] (st3 g 20 0 i.toNatClampNeg x)
   else
    none)
  else
   some (none, g)) := rfl
set_option maxRecDepth 100000 in
set_option maxHeartbeats 4000000 in
theorem y_A_fill_22_0 (z : mK) (x : Int32) (g : mG) : rs_A_fill [5] z 6 0 [some (.inr (22, 0)), some (.inl x), none, none] [] g =
  z 5 [some (.inr (22, 0)), some (.inl x), some (.inl (Int32.ofInt 0)), some (.inl (nI 3))] [] g := rfl
set_option maxRecDepth 100000 in
set_option maxHeartbeats 4000000 in
theorem y_A_fill_22_5 (z : mK) (x i m : Int32) (g : mG) : rs_A_fill [5] z 10 5 [some (.inr (22, 0)), some (.inl x), some (.inl i), some (.inl m)] [] g =
  (if i < m then
   (if inB i 3 then
    z 5 [some (.inr (22, 0)), some (.inl x), some (.inl (i + (Int32.ofInt 1))), some (.inl m)] [] (st3 g 22 0 i.toNatClampNeg x)
   else
    none)
  else
   some (none, g)) := rfl
set_option maxRecDepth 100000 in
set_option maxHeartbeats 4000000 in
theorem y_A_fill_23_0 (z : mK) (x : Int32) (g : mG) : rs_A_fill [5] z 6 0 [some (.inr (23, 0)), some (.inl x), none, none] [] g =
  z 5 [some (.inr (23, 0)), some (.inl x), some (.inl (Int32.ofInt 0)), some (.inl (nI 3))] [] g := rfl
set_option maxRecDepth 100000 in
set_option maxHeartbeats 4000000 in
theorem y_A_fill_23_5 (z : mK) (x i m : Int32) (g : mG) : rs_A_fill [5] z 10 5 [some (.inr (23, 0)), some (.inl x), some (.inl i), some (.inl m)] [] g =
  (if i < m then
   (if inB i 3 then
    z 5 [some (.inr (23, 0)), some (.inl x), some (.inl (i + (Int32.ofInt 1))), some (.inl m)] [] (st3 g 23 0 i.toNatClampNeg x)
   else
    none)
  else
   some (none, g)) := rfl
set_option maxRecDepth 100000 in
set_option maxHeartbeats 4000000 in
theorem y_V_faultOfWords_0 (z : mK) (a : Int32) (g : mG) : rs_V_faultOfWords [26] z 15 0 [some (.inr (5, 0)), some (.inr (2, 0)), some (.inl a), none, none, none, none, none] [] g =
  ((f_A_fill [.inr (31, 0), .inl (Int32.ofInt (-2))] g).bind fun p1 =>
   ((f_L_length [.inr (2, 0), .inl a] p1).bind fun p2 =>
    z 26 [some (.inr (5, 0)), some (.inr (2, 0)), some (.inl a), some (.inl (if (Int32.ofInt 60) < p2.1 then (Int32.ofInt 60) else p2.1)), some (.inl (Int32.ofInt 0)), some (.inl (Int32.ofInt 0)), none, none] [] p2.2)) := rfl
set_option maxRecDepth 100000 in
set_option maxHeartbeats 4000000 in
theorem y_V_faultOfWords_26 (z : mK) (a b c d : Int32) (u v : Option mV) (g : mG) : rs_V_faultOfWords [26] z 37 26 [some (.inr (5, 0)), some (.inr (2, 0)), some (.inl a), some (.inl b), some (.inl c), some (.inl d), u, v] [] g =
  (if d < b then
   (if c < b then
    ((f_L_instructionAt [.inr (2, 0), .inl a, .inl c] g).bind fun p1 =>
     ((f_V_ruleOfWords [.inr (2, 0), .inl a, .inl c, .inr (100, p1.1)] p1.2).bind fun p2 =>
      (if p2.1 = 0 then
       (if inB c 60 then
        (if inB c 60 then
         (if isB (Int32.ofInt 0) then
          z 26 [some (.inr (5, 0)), some (.inr (2, 0)), some (.inl a), some (.inl b), some (.inl (c + (([2, 1, 1, 1, 1, 1, 1, 1, 1, 1, 1, 1, 2, 2, 2, 2, 2, 3, 2, 2, 3, 3, 2, 2, 2, 1, 1, 1] : List Int32).getD p1.1 0))), some (.inl (d + (Int32.ofInt 1))), some (.inr (100, p1.1)), some (.inl p2.1)] [] (st3 (st3 p2.2 31 0 c.toNatClampNeg (Int32.ofInt (-1))) 32 0 c.toNatClampNeg (Int32.ofInt 0))
         else
          none)
        else
         none)
       else
        none)
      else
       ((f_V_fault [.inl c, .inl p2.1] p2.2).bind fun p3 =>
        some (some (.inl p3.1), p3.2)))))
   else
    some (some (.inl (Int32.ofInt 0)), g))
  else
   some (some (.inl (Int32.ofInt 0)), g)) := rfl
set_option maxRecDepth 100000 in
set_option maxHeartbeats 4000000 in
theorem y_V_faultOfPlaces_0 (z : mK) (a : Int32) (g : mG) : rs_V_faultOfPlaces [2] z 3 0 [some (.inr (5, 0)), some (.inr (2, 0)), some (.inl a), none, none] [] g =
  z 2 [some (.inr (5, 0)), some (.inr (2, 0)), some (.inl a), some (.inl (Int32.ofInt 0)), none] [] g := rfl
set_option maxRecDepth 100000 in
set_option maxHeartbeats 4000000 in
theorem y_V_faultOfPlaces_2 (z : mK) (a c : Int32) (u : Option mV) (g : mG) : rs_V_faultOfPlaces [2] z 34 2 [some (.inr (5, 0)), some (.inr (2, 0)), some (.inl a), some (.inl c), u] [] g =
  ((f_L_length [.inr (2, 0), .inl a] g).bind fun p1 =>
   (if c < p1.1 then
    ((f_V_isInstruction [.inr (5, 0), .inl c] p1.2).bind fun p2 =>
     (if p2.1 = 0 then
      (if (Int32.ofInt 0) = 0 then
       z 2 [some (.inr (5, 0)), some (.inr (2, 0)), some (.inl a), some (.inl (c + (Int32.ofInt 1))), some (.inl (Int32.ofInt 0))] [] p2.2
      else
       ((f_L_word [.inr (2, 0), .inl a, .inl (c + (Int32.ofInt 1))] p2.2).bind fun p3 =>
        ((f_V_isInstruction [.inr (5, 0), .inl p3.1] p3.2).bind fun p4 =>
         (if p4.1 = 0 then
          ((f_V_fault [.inl c, .inl (Int32.ofInt 4)] p4.2).bind fun p5 =>
           some (some (.inl p5.1), p5.2))
         else
          z 2 [some (.inr (5, 0)), some (.inr (2, 0)), some (.inl a), some (.inl (c + (Int32.ofInt 1))), some (.inl (Int32.ofInt 0))] [] p4.2))))
     else
      ((f_L_instructionAt [.inr (2, 0), .inl a, .inl c] p2.2).bind fun p6 =>
       ((f_I_mayJump [.inr (100, p6.1)] p6.2).bind fun p7 =>
        (if p7.1 = 0 then
         (if (Int32.ofInt 0) = 0 then
          z 2 [some (.inr (5, 0)), some (.inr (2, 0)), some (.inl a), some (.inl (c + (Int32.ofInt 1))), some (.inl (Int32.ofInt 0))] [] p7.2
         else
          ((f_L_word [.inr (2, 0), .inl a, .inl (c + (Int32.ofInt 1))] p7.2).bind fun p8 =>
           ((f_V_isInstruction [.inr (5, 0), .inl p8.1] p8.2).bind fun p9 =>
            (if p9.1 = 0 then
             ((f_V_fault [.inl c, .inl (Int32.ofInt 4)] p9.2).bind fun p10 =>
              some (some (.inl p10.1), p10.2))
            else
             z 2 [some (.inr (5, 0)), some (.inr (2, 0)), some (.inl a), some (.inl (c + (Int32.ofInt 1))), some (.inl (Int32.ofInt 0))] [] p9.2))))
        else
         (if (Int32.ofInt 1) = 0 then
          z 2 [some (.inr (5, 0)), some (.inr (2, 0)), some (.inl a), some (.inl (c + (Int32.ofInt 1))), some (.inl (Int32.ofInt 1))] [] p7.2
         else
          ((f_L_word [.inr (2, 0), .inl a, .inl (c + (Int32.ofInt 1))] p7.2).bind fun p11 =>
           ((f_V_isInstruction [.inr (5, 0), .inl p11.1] p11.2).bind fun p12 =>
            (if p12.1 = 0 then
             ((f_V_fault [.inl c, .inl (Int32.ofInt 4)] p12.2).bind fun p13 =>
              some (some (.inl p13.1), p13.2))
            else
             z 2 [some (.inr (5, 0)), some (.inr (2, 0)), some (.inl a), some (.inl (c + (Int32.ofInt 1))), some (.inl (Int32.ofInt 1))] [] p12.2)))))))))
   else
    some (some (.inl (Int32.ofInt 0)), p1.2))) := rfl
set_option maxRecDepth 100000 in
set_option maxHeartbeats 4000000 in
theorem y_V_leastToLookAt_0 (z : mK) (g : mG) : rs_V_leastToLookAt [2] z 3 0 [some (.inr (5, 0)), none] [] g =
  z 2 [some (.inr (5, 0)), some (.inl (Int32.ofInt 0))] [] g := rfl
set_option maxRecDepth 100000 in
set_option maxHeartbeats 4000000 in
theorem y_V_leastToLookAt_2 (z : mK) (c : Int32) (g : mG) : rs_V_leastToLookAt [2] z 16 2 [some (.inr (5, 0)), some (.inl c)] [] g =
  (if c < (Int32.ofInt 60) then
   (if inB c 60 then
    (if (g 31 0 c.toNatClampNeg) < 0 then
     z 2 [some (.inr (5, 0)), some (.inl (c + (Int32.ofInt 1)))] [] g
    else
     (if inB c 60 then
      (if (g 32 0 c.toNatClampNeg) = 0 then
       some (some (.inl c), g)
      else
       z 2 [some (.inr (5, 0)), some (.inl (c + (Int32.ofInt 1)))] [] g)
     else
      none))
   else
    none)
  else
   some (some (.inl (Int32.ofInt (-1))), g)) := rfl
set_option maxRecDepth 100000 in
set_option maxHeartbeats 4000000 in
theorem y_V_faultOfHeights_0 (z : mK) (a : Int32) (g : mG) : rs_V_faultOfHeights [13] z 10 0 [some (.inr (5, 0)), some (.inr (2, 0)), some (.inl a), none, none, none, none] [] g =
  ((f_V_reach [.inr (5, 0), .inl (Int32.ofInt 0), .inl (Int32.ofInt 0)] g).bind fun p1 =>
   z 13 [some (.inr (5, 0)), some (.inr (2, 0)), some (.inl a), some (.inl p1.1), some (.inl (Int32.ofInt 0)), some (.inl (Int32.ofInt 0)), none] [] p1.2) := rfl
set_option maxRecDepth 100000 in
set_option maxHeartbeats 4000000 in
theorem y_V_faultOfHeights_13 (z : mK) (a b c d : Int32) (u : Option mV) (g : mG) : rs_V_faultOfHeights [13] z 27 13 [some (.inr (5, 0)), some (.inr (2, 0)), some (.inl a), some (.inl b), some (.inl c), some (.inl d), u] [] g =
  (if d < (Int32.ofInt 60) then
   (if b = 0 then
    ((f_V_leastToLookAt [.inr (5, 0)] g).bind fun p3 =>
     (if p3.1 = (Int32.ofInt (-1)) then
      some (some (.inl (Int32.ofInt 0)), p3.2)
     else
      (if inB p3.1 60 then
       (if isB (Int32.ofInt 1) then
        ((f_V_ruleOfHeights [.inr (5, 0), .inr (2, 0), .inl a, .inl p3.1] (st3 p3.2 32 0 p3.1.toNatClampNeg (Int32.ofInt 1))).bind fun p4 =>
         z 13 [some (.inr (5, 0)), some (.inr (2, 0)), some (.inl a), some (.inl p4.1), some (.inl p3.1), some (.inl (d + (Int32.ofInt 1))), some (.inl p3.1)] [] p4.2)
       else
        none)
      else
       none)))
   else
    (if b = 0 then
     some (some (.inl (Int32.ofInt 0)), g)
    else
     ((f_V_fault [.inl c, .inl b] g).bind fun p2 =>
      some (some (.inl p2.1), p2.2))))
  else
   (if b = 0 then
    some (some (.inl (Int32.ofInt 0)), g)
   else
    ((f_V_fault [.inl c, .inl b] g).bind fun p1 =>
     some (some (.inl p1.1), p1.2)))) := rfl
set_option maxRecDepth 100000 in
set_option maxHeartbeats 4000000 in
theorem y_T_copyRow_22_0 (z : mK) (a b : Int32) (g : mG) : rs_T_copyRow [3] z 3 0 [some (.inr (3, 0)), some (.inl a), some (.inl b), some (.inr (22, 0)), none] [] g =
  z 3 [some (.inr (3, 0)), some (.inl a), some (.inl b), some (.inr (22, 0)), some (.inl (Int32.ofInt 0))] [] g := rfl
set_option maxRecDepth 100000 in
set_option maxHeartbeats 4000000 in
theorem y_T_copyRow_22_3 (z : mK) (a b c : Int32) (g : mG) : rs_T_copyRow [3] z 15 3 [some (.inr (3, 0)), some (.inl a), some (.inl b), some (.inr (22, 0)), some (.inl c)] [] g =
  (if c < (nI 3) then
   ((f_T_read [.inr (3, 0), .inl a, .inl b, .inl c] g).bind fun p1 =>
    (if inB c 3 then
     z 3 [some (.inr (3, 0)), some (.inl a), some (.inl b), some (.inr (22, 0)), some (.inl (c + (Int32.ofInt 1)))] [] (st3 p1.2 22 0 c.toNatClampNeg p1.1)
    else
     none))
  else
   some (none, g)) := rfl
set_option maxRecDepth 100000 in
set_option maxHeartbeats 4000000 in
theorem y_T_copyRow_23_0 (z : mK) (a b : Int32) (g : mG) : rs_T_copyRow [3] z 3 0 [some (.inr (3, 0)), some (.inl a), some (.inl b), some (.inr (23, 0)), none] [] g =
  z 3 [some (.inr (3, 0)), some (.inl a), some (.inl b), some (.inr (23, 0)), some (.inl (Int32.ofInt 0))] [] g := rfl
set_option maxRecDepth 100000 in
set_option maxHeartbeats 4000000 in
theorem y_T_copyRow_23_3 (z : mK) (a b c : Int32) (g : mG) : rs_T_copyRow [3] z 15 3 [some (.inr (3, 0)), some (.inl a), some (.inl b), some (.inr (23, 0)), some (.inl c)] [] g =
  (if c < (nI 3) then
   ((f_T_read [.inr (3, 0), .inl a, .inl b, .inl c] g).bind fun p1 =>
    (if inB c 3 then
     z 3 [some (.inr (3, 0)), some (.inl a), some (.inl b), some (.inr (23, 0)), some (.inl (c + (Int32.ofInt 1)))] [] (st3 p1.2 23 0 c.toNatClampNeg p1.1)
    else
     none))
  else
   some (none, g)) := rfl
set_option maxRecDepth 100000 in
set_option maxHeartbeats 4000000 in
theorem y_M_insert_0 (z : mK) (j : Nat) (a : Int32) (g : mG) : rs_M_insert [19] z 11 0 [some (.inr (1, 0)), some (.inr (10, j)), some (.inl a), none, none] [] g =
  ((f_T_addRow [.inr (3, 0), .inl a] g).bind fun p1 =>
   (if p1.1 = (Int32.ofInt (-1)) then
    some (some (.inl (Int32.ofInt 5)), p1.2)
   else
    z 19 [some (.inr (1, 0)), some (.inr (10, j)), some (.inl a), some (.inl p1.1), some (.inl (Int32.ofInt 2))] [] p1.2)) := rfl
set_option maxRecDepth 100000 in
set_option maxHeartbeats 4000000 in
theorem y_M_insert_19 (z : mK) (j : Nat) (a b c : Int32) (g : mG) : rs_M_insert [19] z 21 19 [some (.inr (1, 0)), some (.inr (10, j)), some (.inl a), some (.inl b), some (.inl c)] [] g =
  (if c < 0 then
   ((f_A_fill [.inr (22, 0), .inl (Int32.ofInt 0)] g).bind fun p1 =>
    ((f_T_copyRow [.inr (3, 0), .inl a, .inl b, .inr (23, 0)] p1).bind fun p2 =>
     ((f_M_fire [.inr (1, 0), .inl a, .inl (Int32.ofInt 0), .inl b, .inl b] p2).bind fun p3 =>
      some (some (.inl p3.1), p3.2))))
  else
   ((f_F_pop [.inr (10, j)] g).bind fun p4 =>
    ((f_T_write [.inr (3, 0), .inl a, .inl b, .inl c, .inl p4.1] p4.2).bind fun p5 =>
     z 19 [some (.inr (1, 0)), some (.inr (10, j)), some (.inl a), some (.inl b), some (.inl (c + (Int32.ofInt (-1))))] [] p5))) := rfl
set_option maxRecDepth 100000 in
set_option maxHeartbeats 4000000 in
theorem y_T_find_0 (z : mK) (a b c d : Int32) (g : mG) : rs_T_find [25] z 13 0 [some (.inr (3, 0)), some (.inl a), some (.inl b), some (.inl c), some (.inl d), none] [] g =
  ((f_B_isBelow [.inl a, .inl (Int32.ofInt 4)] g).bind fun p1 =>
   (if p1.1 = 0 then
    some (some (.inl (Int32.ofInt (-1))), p1.2)
   else
    ((f_B_isBelow [.inl c, .inl (Int32.ofInt 3)] p1.2).bind fun p2 =>
     (if p2.1 = 0 then
      some (some (.inl (Int32.ofInt (-1))), p2.2)
     else
      z 25 [some (.inr (3, 0)), some (.inl a), some (.inl b), some (.inl c), some (.inl d), some (.inl (if b < (Int32.ofInt 0) then (Int32.ofInt 0) else b))] [] p2.2)))) := rfl
set_option maxRecDepth 100000 in
set_option maxHeartbeats 4000000 in
theorem y_T_find_25 (z : mK) (a b c d e : Int32) (g : mG) : rs_T_find [25] z 18 25 [some (.inr (3, 0)), some (.inl a), some (.inl b), some (.inl c), some (.inl d), some (.inl e)] [] g =
  (if inB a 4 then
   (if e < (g 27 0 a.toNatClampNeg) then
    ((f_T_index [.inl a, .inl e, .inl c] g).bind fun p1 =>
     (if inB p1.1 192 then
      (if (p1.2 26 0 p1.1.toNatClampNeg) = d then
       some (some (.inl e), p1.2)
      else
       z 25 [some (.inr (3, 0)), some (.inl a), some (.inl b), some (.inl c), some (.inl d), some (.inl (e + (Int32.ofInt 1)))] [] p1.2)
     else
      none))
   else
    some (some (.inl (Int32.ofInt (-1))), g))
  else
   none) := rfl
set_option maxRecDepth 100000 in
set_option maxHeartbeats 4000000 in
theorem y_M_perform_0 (z : mK) (a b c : Int32) (g : mG) : rs_M_perform [50] z 26 0 [some (.inr (1, 0)), some (.inl a), some (.inl b), some (.inl c), none, none] [] g =
  ((f_A_fill [.inr (20, 0), .inl (Int32.ofInt 0)] (st3 (st3 g 1 0 4 (Int32.ofInt 0)) 1 0 8 (Int32.ofInt 0))).bind fun p1 =>
   ((f_L_has [.inr (2, 0), .inl a] p1).bind fun p2 =>
    (if p2.1 = 0 then
     some (some (.inl (Int32.ofInt 6)), p2.2)
    else
     ((f_T_keep [.inr (3, 0)] p2.2).bind fun p3 =>
      ((f_M_open [.inr (1, 0), .inl a, .inl b] p3).bind fun p4 =>
       z 50 [some (.inr (1, 0)), some (.inl a), some (.inl b), some (.inl c), some (.inl p4.1), some (.inl c)] [] p4.2))))) := rfl
set_option maxRecDepth 100000 in
set_option maxHeartbeats 4000000 in
theorem y_M_perform_50 (z : mK) (a b c d e : Int32) (g : mG) : rs_M_perform [50] z 19 50 [some (.inr (1, 0)), some (.inl a), some (.inl b), some (.inl c), some (.inl d), some (.inl e)] [] g =
  (if 0 < e then
   (if d = (Int32.ofInt (-1)) then
    (if inB (Int32.ofInt 0) 4 then
     (if inB (Int32.ofInt 0) 4 then
      ((f_M_step [.inr (1, 0)] (st3 g 20 0 ((Int32.ofInt 0).toNatClampNeg) ((g 20 0 ((Int32.ofInt 0).toNatClampNeg)) + (Int32.ofInt 1)))).bind fun p5 =>
       z 50 [some (.inr (1, 0)), some (.inl a), some (.inl b), some (.inl c), some (.inl p5.1), some (.inl (e + (Int32.ofInt (-1))))] [] p5.2)
     else
      none)
    else
     none)
   else
    (if d = (Int32.ofInt (-1)) then
     (if (Int32.ofInt 3) = 0 then
      some (some (.inl (Int32.ofInt 3)), g)
     else
      ((f_T_takeBack [.inr (3, 0)] g).bind fun p4 =>
       some (some (.inl (Int32.ofInt 3)), p4)))
    else
     (if d = 0 then
      some (some (.inl d), g)
     else
      ((f_T_takeBack [.inr (3, 0)] g).bind fun p3 =>
       some (some (.inl d), p3)))))
  else
   (if d = (Int32.ofInt (-1)) then
    (if (Int32.ofInt 3) = 0 then
     some (some (.inl (Int32.ofInt 3)), g)
    else
     ((f_T_takeBack [.inr (3, 0)] g).bind fun p2 =>
      some (some (.inl (Int32.ofInt 3)), p2)))
   else
    (if d = 0 then
     some (some (.inl d), g)
    else
     ((f_T_takeBack [.inr (3, 0)] g).bind fun p1 =>
      some (some (.inl d), p1))))) := rfl
set_option maxRecDepth 100000 in
set_option maxHeartbeats 4000000 in
theorem y_R_isOutside_0 (z : mK) (a b : Int32) (g : mG) : rs_R_isOutside [40, 68, 96, 121] z 23 0 [some (.inr (0, 0)), some (.inl a), some (.inl b), none, none] [] g =
  ((f_R_word [.inr (0, 0), .inl (b + (Int32.ofInt 1))] g).bind fun p1 =>
   (if a = (Int32.ofInt 12) then
    (if p1.1 < 0 then
     z 40 [some (.inr (0, 0)), some (.inl a), some (.inl b), some (.inl p1.1), some (.inl (Int32.ofInt 1))] [] p1.2
    else
     (if (Int32.ofInt 7) < p1.1 then
      z 40 [some (.inr (0, 0)), some (.inl a), some (.inl b), some (.inl p1.1), some (.inl (Int32.ofInt 1))] [] p1.2
     else
      z 40 [some (.inr (0, 0)), some (.inl a), some (.inl b), some (.inl p1.1), some (.inl (Int32.ofInt 0))] [] p1.2))
   else
    (if a = (Int32.ofInt 13) then
     (if p1.1 < 0 then
      z 40 [some (.inr (0, 0)), some (.inl a), some (.inl b), some (.inl p1.1), some (.inl (Int32.ofInt 1))] [] p1.2
     else
      (if (Int32.ofInt 7) < p1.1 then
       z 40 [some (.inr (0, 0)), some (.inl a), some (.inl b), some (.inl p1.1), some (.inl (Int32.ofInt 1))] [] p1.2
      else
       z 40 [some (.inr (0, 0)), some (.inl a), some (.inl b), some (.inl p1.1), some (.inl (Int32.ofInt 0))] [] p1.2))
    else
     z 40 [some (.inr (0, 0)), some (.inl a), some (.inl b), some (.inl p1.1), some (.inl (Int32.ofInt 0))] [] p1.2))) := rfl
set_option maxRecDepth 100000 in
set_option maxHeartbeats 4000000 in
theorem y_R_isOutside_40 (z : mK) (a b c d : Int32) (g : mG) : rs_R_isOutside [40, 68, 96, 121] z 15 40 [some (.inr (0, 0)), some (.inl a), some (.inl b), some (.inl c), some (.inl d)] [] g =
  (if (Int32.ofInt 15) < a then
   (if a < (Int32.ofInt 22) then
    (if c < 0 then
     z 68 [some (.inr (0, 0)), some (.inl a), some (.inl b), some (.inl c), some (.inl (Int32.ofInt 1))] [] g
    else
     (if (Int32.ofInt 3) < c then
      z 68 [some (.inr (0, 0)), some (.inl a), some (.inl b), some (.inl c), some (.inl (Int32.ofInt 1))] [] g
     else
      z 68 [some (.inr (0, 0)), some (.inl a), some (.inl b), some (.inl c), some (.inl (Int32.ofInt 0))] [] g))
   else
    z 68 [some (.inr (0, 0)), some (.inl a), some (.inl b), some (.inl c), some (.inl d)] [] g)
  else
   z 68 [some (.inr (0, 0)), some (.inl a), some (.inl b), some (.inl c), some (.inl d)] [] g) := rfl
set_option maxRecDepth 100000 in
set_option maxHeartbeats 4000000 in
theorem y_R_isOutside_68 (z : mK) (a b c d : Int32) (g : mG) : rs_R_isOutside [40, 68, 96, 121] z 15 68 [some (.inr (0, 0)), some (.inl a), some (.inl b), some (.inl c), some (.inl d)] [] g =
  (if a = (Int32.ofInt 22) then
   (if c < 0 then
    z 96 [some (.inr (0, 0)), some (.inl a), some (.inl b), some (.inl c), some (.inl (Int32.ofInt 1))] [] g
   else
    (if (Int32.ofInt 2) < c then
     z 96 [some (.inr (0, 0)), some (.inl a), some (.inl b), some (.inl c), some (.inl (Int32.ofInt 1))] [] g
    else
     z 96 [some (.inr (0, 0)), some (.inl a), some (.inl b), some (.inl c), some (.inl (Int32.ofInt 0))] [] g))
  else
   (if a = (Int32.ofInt 23) then
    (if c < 0 then
     z 96 [some (.inr (0, 0)), some (.inl a), some (.inl b), some (.inl c), some (.inl (Int32.ofInt 1))] [] g
    else
     (if (Int32.ofInt 2) < c then
      z 96 [some (.inr (0, 0)), some (.inl a), some (.inl b), some (.inl c), some (.inl (Int32.ofInt 1))] [] g
     else
      z 96 [some (.inr (0, 0)), some (.inl a), some (.inl b), some (.inl c), some (.inl (Int32.ofInt 0))] [] g))
   else
    z 96 [some (.inr (0, 0)), some (.inl a), some (.inl b), some (.inl c), some (.inl d)] [] g)) := rfl
set_option maxRecDepth 100000 in
set_option maxHeartbeats 4000000 in
theorem y_R_isOutside_96 (z : mK) (a b c d : Int32) (g : mG) : rs_R_isOutside [40, 68, 96, 121] z 13 96 [some (.inr (0, 0)), some (.inl a), some (.inl b), some (.inl c), some (.inl d)] [] g =
  (if a = (Int32.ofInt 24) then
   (if c < 0 then
    z 121 [some (.inr (0, 0)), some (.inl a), some (.inl b), some (.inl c), some (.inl (Int32.ofInt 1))] [] g
   else
    (if c < (g 0 0 7) then
     z 121 [some (.inr (0, 0)), some (.inl a), some (.inl b), some (.inl c), some (.inl (Int32.ofInt 0))] [] g
    else
     z 121 [some (.inr (0, 0)), some (.inl a), some (.inl b), some (.inl c), some (.inl (Int32.ofInt 1))] [] g))
  else
   z 121 [some (.inr (0, 0)), some (.inl a), some (.inl b), some (.inl c), some (.inl d)] [] g) := rfl
set_option maxRecDepth 100000 in
set_option maxHeartbeats 4000000 in
theorem y_R_isOutside_121 (z : mK) (a b c d : Int32) (g : mG) : rs_R_isOutside [40, 68, 96, 121] z 25 121 [some (.inr (0, 0)), some (.inl a), some (.inl b), some (.inl c), some (.inl d)] [] g =
  ((f_R_operands [.inl a] g).bind fun p1 =>
   (if p1.1 = (Int32.ofInt 2) then
    (if d = 0 then
     ((f_R_word [.inr (0, 0), .inl (b + (Int32.ofInt 2))] p1.2).bind fun p2 =>
      (if p2.1 < 0 then
       (if isB (Int32.ofInt 1) then
        some (some (.inl (Int32.ofInt 1)), p2.2)
       else
        none)
      else
       ((f_R_word [.inr (0, 0), .inl (b + (Int32.ofInt 2))] p2.2).bind fun p3 =>
        (if (Int32.ofInt 2) < p3.1 then
         (if isB (Int32.ofInt 1) then
          some (some (.inl (Int32.ofInt 1)), p3.2)
         else
          none)
        else
         (if isB (Int32.ofInt 0) then
          some (some (.inl (Int32.ofInt 0)), p3.2)
         else
          none)))))
    else
     (if isB (Int32.ofInt 1) then
      some (some (.inl (Int32.ofInt 1)), p1.2)
     else
      none))
   else
    (if isB d then
     some (some (.inl d), p1.2)
    else
     none))) := rfl
set_option maxRecDepth 100000 in
set_option maxHeartbeats 4000000 in
theorem y_R_shape_0 (z : mK) (a : Int32) (g : mG) : rs_R_shape [2] z 3 0 [some (.inr (0, 0)), some (.inl a), none, none] [] g =
  z 2 [some (.inr (0, 0)), some (.inl a), some (.inl (Int32.ofInt 0)), none] [] g := rfl
set_option maxRecDepth 100000 in
set_option maxHeartbeats 4000000 in
theorem y_R_shape_2 (z : mK) (a b : Int32) (u : Option mV) (g : mG) : rs_R_shape [2] z 40 2 [some (.inr (0, 0)), some (.inl a), some (.inl b), u] [] g =
  (if b < a then
   ((f_R_word [.inr (0, 0), .inl b] g).bind fun p1 =>
    (if p1.1 < 0 then
     some (some (.inl (((Int32.ofInt 16) * b) + (Int32.ofInt 1))), p1.2)
    else
     (if (Int32.ofInt 26) < p1.1 then
      some (some (.inl (((Int32.ofInt 16) * b) + (Int32.ofInt 1))), p1.2)
     else
      ((f_R_operands [.inl p1.1] p1.2).bind fun p2 =>
       (if (b + p2.1) < a then
        ((f_R_operands [.inl p1.1] p2.2).bind fun p3 =>
         (if 0 < p3.1 then
          ((f_R_isOutside [.inr (0, 0), .inl p1.1, .inl b] p3.2).bind fun p5 =>
           (if p5.1 = 0 then
            (if inB b 61 then
             (if isB (Int32.ofInt 1) then
              ((f_R_operands [.inl p1.1] (st3 p5.2 9 0 b.toNatClampNeg (Int32.ofInt 1))).bind fun p6 =>
               z 2 [some (.inr (0, 0)), some (.inl a), some (.inl (b + ((Int32.ofInt 1) + p6.1))), some (.inl p1.1)] [] p6.2)
             else
              none)
            else
             none)
           else
            some (some (.inl (((Int32.ofInt 16) * b) + (Int32.ofInt 3))), p5.2)))
         else
          (if inB b 61 then
           (if isB (Int32.ofInt 1) then
            ((f_R_operands [.inl p1.1] (st3 p3.2 9 0 b.toNatClampNeg (Int32.ofInt 1))).bind fun p4 =>
             z 2 [some (.inr (0, 0)), some (.inl a), some (.inl (b + ((Int32.ofInt 1) + p4.1))), some (.inl p1.1)] [] p4.2)
           else
            none)
          else
           none)))
       else
        some (some (.inl (((Int32.ofInt 16) * b) + (Int32.ofInt 2))), p2.2))))))
  else
   some (some (.inl (Int32.ofInt 0)), g)) := rfl
set_option maxRecDepth 100000 in
set_option maxHeartbeats 4000000 in
theorem y_R_jumps_0 (z : mK) (a : Int32) (g : mG) : rs_R_jumps [2] z 3 0 [some (.inr (0, 0)), some (.inl a), none, none] [] g =
  z 2 [some (.inr (0, 0)), some (.inl a), some (.inl (Int32.ofInt 0)), none] [] g := rfl
set_option maxRecDepth 100000 in
set_option maxHeartbeats 4000000 in
theorem y_R_jumps_2 (z : mK) (a b : Int32) (u : Option mV) (g : mG) : rs_R_jumps [2] z 41 2 [some (.inr (0, 0)), some (.inl a), some (.inl b), u] [] g =
  (if b < a then
   (if inB b 61 then
    (if (g 9 0 b.toNatClampNeg) = 0 then
     z 2 [some (.inr (0, 0)), some (.inl a), some (.inl (b + (Int32.ofInt 1))), u] [] g
    else
     ((f_R_word [.inr (0, 0), .inl b] g).bind fun p1 =>
      (if p1.1 = (Int32.ofInt 14) then
       ((f_R_word [.inr (0, 0), .inl (b + (Int32.ofInt 1))] p1.2).bind fun p2 =>
        (if p2.1 < 0 then
         some (some (.inl (((Int32.ofInt 16) * b) + (Int32.ofInt 4))), p2.2)
        else
         (if p2.1 < a then
          (if inB p2.1 61 then
           (if (p2.2 9 0 p2.1.toNatClampNeg) = 0 then
            some (some (.inl (((Int32.ofInt 16) * b) + (Int32.ofInt 4))), p2.2)
           else
            z 2 [some (.inr (0, 0)), some (.inl a), some (.inl (b + (Int32.ofInt 1))), some (.inl p2.1)] [] p2.2)
          else
           none)
         else
          some (some (.inl (((Int32.ofInt 16) * b) + (Int32.ofInt 4))), p2.2))))
      else
       ((f_R_word [.inr (0, 0), .inl b] p1.2).bind fun p3 =>
        (if p3.1 = (Int32.ofInt 15) then
         ((f_R_word [.inr (0, 0), .inl (b + (Int32.ofInt 1))] p3.2).bind fun p4 =>
          (if p4.1 < 0 then
           some (some (.inl (((Int32.ofInt 16) * b) + (Int32.ofInt 4))), p4.2)
          else
           (if p4.1 < a then
            (if inB p4.1 61 then
             (if (p4.2 9 0 p4.1.toNatClampNeg) = 0 then
              some (some (.inl (((Int32.ofInt 16) * b) + (Int32.ofInt 4))), p4.2)
             else
              z 2 [some (.inr (0, 0)), some (.inl a), some (.inl (b + (Int32.ofInt 1))), some (.inl p4.1)] [] p4.2)
            else
             none)
           else
            some (some (.inl (((Int32.ofInt 16) * b) + (Int32.ofInt 4))), p4.2))))
        else
         z 2 [some (.inr (0, 0)), some (.inl a), some (.inl (b + (Int32.ofInt 1))), u] [] p3.2)))))
   else
    none)
  else
   some (some (.inl (Int32.ofInt 0)), g)) := rfl
set_option maxRecDepth 100000 in
set_option maxHeartbeats 4000000 in
theorem y_R_verify_0 (z : mK) (g : mG) : rs_R_verify [12, 87] z 9 0 [some (.inr (0, 0)), none, none, none, none] [] g =
  (if inB (g 0 0 7) 12 then
   z 12 [some (.inr (0, 0)), some (.inl (g 7 0 ((g 0 0 7).toNatClampNeg))), some (.inl (Int32.ofInt 0)), none, none] [] g
  else
   none) := rfl
set_option maxRecDepth 100000 in
set_option maxHeartbeats 4000000 in
theorem y_R_verify_12 (z : mK) (a b : Int32) (g : mG) : rs_R_verify [12, 87] z 25 12 [some (.inr (0, 0)), some (.inl a), some (.inl b), none, none] [] g =
  (if b < (Int32.ofInt 61) then
   (if inB b 61 then
    (if inB b 61 then
     (if isB (Int32.ofInt 0) then
      (if inB b 61 then
       (if isB (Int32.ofInt 0) then
        z 12 [some (.inr (0, 0)), some (.inl a), some (.inl (b + (Int32.ofInt 1))), none, none] [] (st3 (st3 (st3 g 8 0 b.toNatClampNeg (Int32.ofInt (-1))) 9 0 b.toNatClampNeg (Int32.ofInt 0)) 11 0 b.toNatClampNeg (Int32.ofInt 0))
       else
        none)
      else
       none)
     else
      none)
    else
     none)
   else
    none)
  else
   ((f_R_shape [.inr (0, 0), .inl a] g).bind fun p1 =>
    (if 0 < p1.1 then
     (if 0 < p1.1 then
      some (some (.inl p1.1), p1.2)
     else
      (if a = 0 then
       some (some (.inl (Int32.ofInt 8)), p1.2)
      else
       (if inB (Int32.ofInt 0) 61 then
        z 87 [some (.inr (0, 0)), some (.inl a), some (.inl p1.1), some (.inl (Int32.ofInt 0)), none] [] (st3 p1.2 8 0 ((Int32.ofInt 0).toNatClampNeg) (Int32.ofInt 0))
       else
        none)))
    else
     ((f_R_jumps [.inr (0, 0), .inl a] p1.2).bind fun p2 =>
      (if 0 < p2.1 then
       some (some (.inl p2.1), p2.2)
      else
       (if a = 0 then
        some (some (.inl (Int32.ofInt 8)), p2.2)
       else
        (if inB (Int32.ofInt 0) 61 then
         z 87 [some (.inr (0, 0)), some (.inl a), some (.inl p2.1), some (.inl (Int32.ofInt 0)), none] [] (st3 p2.2 8 0 ((Int32.ofInt 0).toNatClampNeg) (Int32.ofInt 0))
        else
         none))))))) := rfl
set_option maxRecDepth 100000 in
set_option maxHeartbeats 4000000 in
theorem y_R_verify_87 (z : mK) (a b c : Int32) (u : Option mV) (g : mG) : rs_R_verify [12, 87] z 27 87 [some (.inr (0, 0)), some (.inl a), some (.inl b), some (.inl c), u] [] g =
  (if c < a then
   (if inB c 61 then
    (if (g 8 0 c.toNatClampNeg) < 0 then
     z 87 [some (.inr (0, 0)), some (.inl a), some (.inl b), some (.inl (c + (Int32.ofInt 1))), u] [] g
    else
     (if inB c 61 then
      (if (g 11 0 c.toNatClampNeg) = 0 then
       ((f_R_look [.inr (0, 0), .inl c, .inl a] g).bind fun p1 =>
        (if 0 < p1.1 then
         some (some (.inl (((Int32.ofInt 16) * c) + p1.1)), p1.2)
        else
         z 87 [some (.inr (0, 0)), some (.inl a), some (.inl b), some (.inl (Int32.ofInt 0)), some (.inl p1.1)] [] p1.2))
      else
       z 87 [some (.inr (0, 0)), some (.inl a), some (.inl b), some (.inl (c + (Int32.ofInt 1))), u] [] g)
     else
      none))
   else
    none)
  else
   some (some (.inl (Int32.ofInt 0)), g)) := rfl
set_option maxRecDepth 100000 in
set_option maxHeartbeats 4000000 in
theorem y_R_enter_0 (z : mK) (a b c : Int32) (g : mG) : rs_R_enter [59, 104] z 31 0 [some (.inr (0, 0)), some (.inl a), some (.inl b), some (.inl c), none] [] g =
  (if (g 0 0 12) = (Int32.ofInt 8) then
   (if isB (Int32.ofInt 0) then
    some (some (.inl (Int32.ofInt 0)), (st3 g 0 0 21 (Int32.ofInt 4)))
   else
    none)
  else
   (if inB (g 0 0 12) 8 then
    (if inB (g 0 0 12) 8 then
     (if inB (g 0 0 12) 8 then
      (if inB (g 0 0 12) 8 then
       (if isB c then
        z 59 [some (.inr (0, 0)), some (.inl a), some (.inl b), some (.inl c), some (.inl (Int32.ofInt 0))] [] (st3 (st3 (st3 (st3 g 12 0 ((g 0 0 12).toNatClampNeg) a) 13 0 ((g 0 0 12).toNatClampNeg) (Int32.ofInt 0)) 14 0 ((g 0 0 12).toNatClampNeg) (Int32.ofInt 0)) 19 0 ((g 0 0 12).toNatClampNeg) c)
       else
        none)
      else
       none)
     else
      none)
    else
     none)
   else
    none)) := rfl
set_option maxRecDepth 100000 in
set_option maxHeartbeats 4000000 in
theorem y_R_enter_59 (z : mK) (a b c d : Int32) (g : mG) : rs_R_enter [59, 104] z 16 59 [some (.inr (0, 0)), some (.inl a), some (.inl b), some (.inl c), some (.inl d)] [] g =
  (if d < (Int32.ofInt 8) then
   (if inB (((Int32.ofInt 8) * (g 0 0 12)) + d) 64 then
    z 59 [some (.inr (0, 0)), some (.inl a), some (.inl b), some (.inl c), some (.inl (d + (Int32.ofInt 1)))] [] (st3 g 16 0 ((((Int32.ofInt 8) * (g 0 0 12)) + d).toNatClampNeg) (Int32.ofInt 0))
   else
    none)
  else
   (if inB ((Int32.ofInt 8) * (g 0 0 12)) 64 then
    z 104 [some (.inr (0, 0)), some (.inl a), some (.inl b), some (.inl c), some (.inl (Int32.ofInt 0))] [] (st3 g 16 0 (((Int32.ofInt 8) * (g 0 0 12)).toNatClampNeg) b)
   else
    none)) := rfl
set_option maxRecDepth 100000 in
set_option maxHeartbeats 4000000 in
theorem y_R_enter_104 (z : mK) (a b c d : Int32) (g : mG) : rs_R_enter [59, 104] z 26 104 [some (.inr (0, 0)), some (.inl a), some (.inl b), some (.inl c), some (.inl d)] [] g =
  (if d < (Int32.ofInt 3) then
   (if inB (((Int32.ofInt 3) * (g 0 0 12)) + d) 24 then
    (if inB (((Int32.ofInt 3) * (g 0 0 12)) + d) 24 then
     z 104 [some (.inr (0, 0)), some (.inl a), some (.inl b), some (.inl c), some (.inl (d + (Int32.ofInt 1)))] [] (st3 (st3 g 17 0 ((((Int32.ofInt 3) * (g 0 0 12)) + d).toNatClampNeg) (Int32.ofInt 0)) 18 0 ((((Int32.ofInt 3) * (g 0 0 12)) + d).toNatClampNeg) (Int32.ofInt 0))
    else
     none)
   else
    none)
  else
   (if (g 0 0 25) < ((g 0 0 12) + (Int32.ofInt 1)) then
    (if isB (Int32.ofInt 1) then
     some (some (.inl (Int32.ofInt 1)), (st3 (st3 g 0 0 12 ((g 0 0 12) + (Int32.ofInt 1))) 0 0 25 ((g 0 0 12) + (Int32.ofInt 1))))
    else
     none)
   else
    (if isB (Int32.ofInt 1) then
     some (some (.inl (Int32.ofInt 1)), (st3 (st3 g 0 0 12 ((g 0 0 12) + (Int32.ofInt 1))) 0 0 25 (g 0 0 25)))
    else
     none))) := rfl
set_option maxRecDepth 100000 in
set_option maxHeartbeats 4000000 in
theorem y_R_fire_0 (z : mK) (a b c d e f : Int32) (g : mG) : rs_R_fire [97] z 60 0 [some (.inr (0, 0)), some (.inl a), some (.inl b), some (.inl c), some (.inl d), some (.inl e), some (.inl f), none, none, none] [] g =
  (if inB (((Int32.ofInt 3) * a) + b) 12 then
   (if (g 5 0 ((((Int32.ofInt 3) * a) + b).toNatClampNeg)) < 0 then
    some (none, (st3 g 0 0 27 ((g 0 0 27) + (Int32.ofInt 1))))
   else
    ((f_R_enter [.inr (0, 0), .inl (g 5 0 ((((Int32.ofInt 3) * a) + b).toNatClampNeg)), .inl c, .inl (Int32.ofInt 1)] (st3 g 0 0 27 ((g 0 0 27) + (Int32.ofInt 1)))).bind fun p1 =>
     (if p1.1 = 0 then
      some (none, p1.2)
     else
      (if 0 < b then
       (if inB ((Int32.ofInt 3) * ((p1.2 0 0 12) - (Int32.ofInt 1))) 24 then
        (if inB (((Int32.ofInt 3) * ((p1.2 0 0 12) - (Int32.ofInt 1))) + (Int32.ofInt 1)) 24 then
         (if inB (((Int32.ofInt 3) * ((p1.2 0 0 12) - (Int32.ofInt 1))) + (Int32.ofInt 2)) 24 then
          z 97 [some (.inr (0, 0)), some (.inl a), some (.inl b), some (.inl c), some (.inl d), some (.inl e), some (.inl f), some (.inl (g 5 0 ((((Int32.ofInt 3) * a) + b).toNatClampNeg))), some (.inl ((Int32.ofInt 3) * ((p1.2 0 0 12) - (Int32.ofInt 1)))), some (.inl (Int32.ofInt 0))] [] (st3 (st3 (st3 (st3 p1.2 0 0 26 ((p1.2 0 0 26) + (Int32.ofInt 1))) 17 0 (((Int32.ofInt 3) * ((p1.2 0 0 12) - (Int32.ofInt 1))).toNatClampNeg) d) 17 0 ((((Int32.ofInt 3) * ((p1.2 0 0 12) - (Int32.ofInt 1))) + (Int32.ofInt 1)).toNatClampNeg) e) 17 0 ((((Int32.ofInt 3) * ((p1.2 0 0 12) - (Int32.ofInt 1))) + (Int32.ofInt 2)).toNatClampNeg) f)
         else
          none)
        else
         none)
       else
        none)
      else
       z 97 [some (.inr (0, 0)), some (.inl a), some (.inl b), some (.inl c), some (.inl d), some (.inl e), some (.inl f), some (.inl (g 5 0 ((((Int32.ofInt 3) * a) + b).toNatClampNeg))), some (.inl ((Int32.ofInt 3) * ((p1.2 0 0 12) - (Int32.ofInt 1)))), some (.inl (Int32.ofInt 0))] [] (st3 p1.2 0 0 26 ((p1.2 0 0 26) + (Int32.ofInt 1)))))))
  else
   none) := rfl
set_option maxRecDepth 100000 in
set_option maxHeartbeats 4000000 in
theorem y_R_fire_97 (z : mK) (a b c d e f h i k : Int32) (g : mG) : rs_R_fire [97] z 27 97 [some (.inr (0, 0)), some (.inl a), some (.inl b), some (.inl c), some (.inl d), some (.inl e), some (.inl f), some (.inl h), some (.inl i), some (.inl k)] [] g =
  (if k < (Int32.ofInt 3) then
   (if b = (Int32.ofInt 1) then
    some (none, g)
   else
    (if inB ((((Int32.ofInt 48) * a) + ((Int32.ofInt 3) * c)) + k) 192 then
     (if inB (i + k) 24 then
      z 97 [some (.inr (0, 0)), some (.inl a), some (.inl b), some (.inl c), some (.inl d), some (.inl e), some (.inl f), some (.inl h), some (.inl i), some (.inl (k + (Int32.ofInt 1)))] [] (st3 g 18 0 ((i + k).toNatClampNeg) (g 2 0 (((((Int32.ofInt 48) * a) + ((Int32.ofInt 3) * c)) + k).toNatClampNeg)))
     else
      none)
    else
     none))
  else
   some (none, g)) := rfl
set_option maxRecDepth 100000 in
set_option maxHeartbeats 4000000 in
theorem y_R_delete_0 (z : mK) (a : Int32) (g : mG) : rs_R_delete [83] z 55 0 [some (.inr (0, 0)), some (.inl a), none, none, none, none, none, none] [] g =
  ((f_R_pop [.inr (0, 0)] g).bind fun p1 =>
   ((f_R_isRow [.inr (0, 0), .inl a, .inl p1.1] p1.2).bind fun p2 =>
    (if p2.1 = 0 then
     ((f_R_push [.inr (0, 0), .inl (Int32.ofInt 0)] p2.2).bind fun p3 =>
      ((f_R_isRow [.inr (0, 0), .inl a, .inl p1.1] p3).bind fun p4 =>
       (if p4.1 = 0 then
        some (none, p4.2)
       else
        (if inB (((Int32.ofInt 48) * a) + ((Int32.ofInt 3) * p1.1)) 192 then
         (if inB ((((Int32.ofInt 48) * a) + ((Int32.ofInt 3) * p1.1)) + (Int32.ofInt 1)) 192 then
          (if inB ((((Int32.ofInt 48) * a) + ((Int32.ofInt 3) * p1.1)) + (Int32.ofInt 2)) 192 then
           (if inB a 4 then
            (if inB a 4 then
             z 83 [some (.inr (0, 0)), some (.inl a), some (.inl p1.1), some (.inl (((Int32.ofInt 48) * a) + ((Int32.ofInt 3) * p1.1))), some (.inl (p4.2 2 0 ((((Int32.ofInt 48) * a) + ((Int32.ofInt 3) * p1.1)).toNatClampNeg))), some (.inl (p4.2 2 0 (((((Int32.ofInt 48) * a) + ((Int32.ofInt 3) * p1.1)) + (Int32.ofInt 1)).toNatClampNeg))), some (.inl (p4.2 2 0 (((((Int32.ofInt 48) * a) + ((Int32.ofInt 3) * p1.1)) + (Int32.ofInt 2)).toNatClampNeg))), some (.inl (((Int32.ofInt 48) * a) + ((Int32.ofInt 3) * p1.1)))] [] (st3 p4.2 1 0 a.toNatClampNeg ((p4.2 1 0 a.toNatClampNeg) - (Int32.ofInt 1)))
            else
             none)
           else
            none)
          else
           none)
         else
          none)
        else
         none))))
    else
     ((f_R_push [.inr (0, 0), .inl (Int32.ofInt 1)] p2.2).bind fun p5 =>
      ((f_R_isRow [.inr (0, 0), .inl a, .inl p1.1] p5).bind fun p6 =>
       (if p6.1 = 0 then
        some (none, p6.2)
       else
        (if inB (((Int32.ofInt 48) * a) + ((Int32.ofInt 3) * p1.1)) 192 then
         (if inB ((((Int32.ofInt 48) * a) + ((Int32.ofInt 3) * p1.1)) + (Int32.ofInt 1)) 192 then
          (if inB ((((Int32.ofInt 48) * a) + ((Int32.ofInt 3) * p1.1)) + (Int32.ofInt 2)) 192 then
           (if inB a 4 then
            (if inB a 4 then
             z 83 [some (.inr (0, 0)), some (.inl a), some (.inl p1.1), some (.inl (((Int32.ofInt 48) * a) + ((Int32.ofInt 3) * p1.1))), some (.inl (p6.2 2 0 ((((Int32.ofInt 48) * a) + ((Int32.ofInt 3) * p1.1)).toNatClampNeg))), some (.inl (p6.2 2 0 (((((Int32.ofInt 48) * a) + ((Int32.ofInt 3) * p1.1)) + (Int32.ofInt 1)).toNatClampNeg))), some (.inl (p6.2 2 0 (((((Int32.ofInt 48) * a) + ((Int32.ofInt 3) * p1.1)) + (Int32.ofInt 2)).toNatClampNeg))), some (.inl (((Int32.ofInt 48) * a) + ((Int32.ofInt 3) * p1.1)))] [] (st3 p6.2 1 0 a.toNatClampNeg ((p6.2 1 0 a.toNatClampNeg) - (Int32.ofInt 1)))
            else
             none)
           else
            none)
          else
           none)
         else
          none)
        else
         none))))))) := rfl
set_option maxRecDepth 100000 in
set_option maxHeartbeats 4000000 in
theorem y_R_delete_83 (z : mK) (a b c d e f h : Int32) (g : mG) : rs_R_delete [83] z 25 83 [some (.inr (0, 0)), some (.inl a), some (.inl b), some (.inl c), some (.inl d), some (.inl e), some (.inl f), some (.inl h)] [] g =
  (if inB a 4 then
   (if h < (((Int32.ofInt 48) * a) + ((Int32.ofInt 3) * (g 1 0 a.toNatClampNeg))) then
    (if inB (h + (Int32.ofInt 3)) 192 then
     (if inB h 192 then
      z 83 [some (.inr (0, 0)), some (.inl a), some (.inl b), some (.inl c), some (.inl d), some (.inl e), some (.inl f), some (.inl (h + (Int32.ofInt 1)))] [] (st3 g 2 0 h.toNatClampNeg (g 2 0 ((h + (Int32.ofInt 3)).toNatClampNeg)))
     else
      none)
    else
     none)
   else
    ((f_R_fire [.inr (0, 0), .inl a, .inl (Int32.ofInt 1), .inl b, .inl d, .inl e, .inl f] g).bind fun p1 =>
     some (none, p1)))
  else
   none) := rfl
set_option maxRecDepth 100000 in
set_option maxHeartbeats 4000000 in
theorem y_R_find_0 (z : mK) (a b c d : Int32) (g : mG) : rs_R_find [11] z 6 0 [some (.inr (0, 0)), some (.inl a), some (.inl b), some (.inl c), some (.inl d), none] [] g =
  (if c < 0 then
   z 11 [some (.inr (0, 0)), some (.inl a), some (.inl b), some (.inl c), some (.inl d), some (.inl (Int32.ofInt 0))] [] g
  else
   z 11 [some (.inr (0, 0)), some (.inl a), some (.inl b), some (.inl c), some (.inl d), some (.inl c)] [] g) := rfl
set_option maxRecDepth 100000 in
set_option maxHeartbeats 4000000 in
theorem y_R_find_11 (z : mK) (a b c d e : Int32) (g : mG) : rs_R_find [11] z 30 11 [some (.inr (0, 0)), some (.inl a), some (.inl b), some (.inl c), some (.inl d), some (.inl e)] [] g =
  (if inB a 4 then
   (if e < (g 1 0 a.toNatClampNeg) then
    (if inB ((((Int32.ofInt 48) * a) + ((Int32.ofInt 3) * e)) + b) 192 then
     (if (g 2 0 (((((Int32.ofInt 48) * a) + ((Int32.ofInt 3) * e)) + b).toNatClampNeg)) = d then
      (if inB a 4 then
       (if e < (g 1 0 a.toNatClampNeg) then
        some (some (.inl e), g)
       else
        some (some (.inl (Int32.ofInt (-1))), g))
      else
       none)
     else
      z 11 [some (.inr (0, 0)), some (.inl a), some (.inl b), some (.inl c), some (.inl d), some (.inl (e + (Int32.ofInt 1)))] [] g)
    else
     none)
   else
    (if inB a 4 then
     (if e < (g 1 0 a.toNatClampNeg) then
      some (some (.inl e), g)
     else
      some (some (.inl (Int32.ofInt (-1))), g))
    else
     none))
  else
   none) := rfl
set_option maxRecDepth 100000 in
set_option maxHeartbeats 4000000 in
theorem y_R_call_0 (z : mK) (a b c : Int32) (g : mG) : rs_R_call [69, 98, 145, 192, 221] z 33 0 [some (.inr (0, 0)), some (.inl a), some (.inl b), some (.inl c), none] [] g =
  (if a < 0 then
   some (some (.inl (Int32.ofInt 6)), (st3 (st3 (st3 (st3 (st3 g 0 0 22 (Int32.ofInt 0)) 0 0 24 (Int32.ofInt 0)) 0 0 25 (Int32.ofInt 0)) 0 0 26 (Int32.ofInt 0)) 0 0 27 (Int32.ofInt 0)))
  else
   (if a < (g 0 0 7) then
    (if c < 0 then
     z 69 [some (.inr (0, 0)), some (.inl a), some (.inl b), some (.inl c), some (.inl (Int32.ofInt 0))] [] (st3 (st3 (st3 (st3 (st3 (st3 g 0 0 22 (Int32.ofInt 0)) 0 0 24 (Int32.ofInt 0)) 0 0 25 (Int32.ofInt 0)) 0 0 26 (Int32.ofInt 0)) 0 0 27 (Int32.ofInt 0)) 0 0 23 (Int32.ofInt 0))
    else
     (if (Int32.ofInt 2000) < c then
      z 69 [some (.inr (0, 0)), some (.inl a), some (.inl b), some (.inl c), some (.inl (Int32.ofInt 0))] [] (st3 (st3 (st3 (st3 (st3 (st3 g 0 0 22 (Int32.ofInt 0)) 0 0 24 (Int32.ofInt 0)) 0 0 25 (Int32.ofInt 0)) 0 0 26 (Int32.ofInt 0)) 0 0 27 (Int32.ofInt 0)) 0 0 23 (Int32.ofInt 2000))
     else
      z 69 [some (.inr (0, 0)), some (.inl a), some (.inl b), some (.inl c), some (.inl (Int32.ofInt 0))] [] (st3 (st3 (st3 (st3 (st3 (st3 g 0 0 22 (Int32.ofInt 0)) 0 0 24 (Int32.ofInt 0)) 0 0 25 (Int32.ofInt 0)) 0 0 26 (Int32.ofInt 0)) 0 0 27 (Int32.ofInt 0)) 0 0 23 c)))
   else
    some (some (.inl (Int32.ofInt 6)), (st3 (st3 (st3 (st3 (st3 g 0 0 22 (Int32.ofInt 0)) 0 0 24 (Int32.ofInt 0)) 0 0 25 (Int32.ofInt 0)) 0 0 26 (Int32.ofInt 0)) 0 0 27 (Int32.ofInt 0))))) := rfl
set_option maxRecDepth 100000 in
set_option maxHeartbeats 4000000 in
theorem y_R_call_69 (z : mK) (a b c d : Int32) (g : mG) : rs_R_call [69, 98, 145, 192, 221] z 14 69 [some (.inr (0, 0)), some (.inl a), some (.inl b), some (.inl c), some (.inl d)] [] g =
  (if d < (Int32.ofInt 4) then
   (if inB d 4 then
    (if inB d 4 then
     z 69 [some (.inr (0, 0)), some (.inl a), some (.inl b), some (.inl c), some (.inl (d + (Int32.ofInt 1)))] [] (st3 g 3 0 d.toNatClampNeg (g 1 0 d.toNatClampNeg))
    else
     none)
   else
    none)
  else
   z 98 [some (.inr (0, 0)), some (.inl a), some (.inl b), some (.inl c), some (.inl (Int32.ofInt 0))] [] g) := rfl
set_option maxRecDepth 100000 in
set_option maxHeartbeats 4000000 in
theorem y_R_call_98 (z : mK) (a b c d : Int32) (g : mG) : rs_R_call [69, 98, 145, 192, 221] z 16 98 [some (.inr (0, 0)), some (.inl a), some (.inl b), some (.inl c), some (.inl d)] [] g =
  (if d < (Int32.ofInt 192) then
   (if inB d 192 then
    (if inB d 192 then
     z 98 [some (.inr (0, 0)), some (.inl a), some (.inl b), some (.inl c), some (.inl (d + (Int32.ofInt 1)))] [] (st3 g 4 0 d.toNatClampNeg (g 2 0 d.toNatClampNeg))
    else
     none)
   else
    none)
  else
   ((f_R_enter [.inr (0, 0), .inl a, .inl b, .inl (Int32.ofInt 0)] (st3 (st3 g 0 0 12 (Int32.ofInt 0)) 0 0 21 (Int32.ofInt 7))).bind fun p1 =>
    z 145 [some (.inr (0, 0)), some (.inl a), some (.inl b), some (.inl c), some (.inl d)] [] p1.2)) := rfl
set_option maxRecDepth 100000 in
set_option maxHeartbeats 4000000 in
theorem y_R_call_145 (z : mK) (a b c : Int32) (u : Option mV) (g : mG) : rs_R_call [69, 98, 145, 192, 221] z 14 145 [some (.inr (0, 0)), some (.inl a), some (.inl b), some (.inl c), u] [] g =
  (if (g 0 0 21) = (Int32.ofInt 7) then
   (if (g 0 0 24) = (g 0 0 23) then
    z 145 [some (.inr (0, 0)), some (.inl a), some (.inl b), some (.inl c), u] [] (st3 g 0 0 21 (Int32.ofInt 3))
   else
    ((f_R_step [.inr (0, 0)] g).bind fun p1 =>
     z 145 [some (.inr (0, 0)), some (.inl a), some (.inl b), some (.inl c), u] [] p1))
  else
   (if (g 0 0 21) = 0 then
    some (some (.inl (Int32.ofInt 0)), g)
   else
    z 192 [some (.inr (0, 0)), some (.inl a), some (.inl b), some (.inl c), some (.inl (Int32.ofInt 0))] [] g)) := rfl
set_option maxRecDepth 100000 in
set_option maxHeartbeats 4000000 in
theorem y_R_call_192 (z : mK) (a b c d : Int32) (g : mG) : rs_R_call [69, 98, 145, 192, 221] z 14 192 [some (.inr (0, 0)), some (.inl a), some (.inl b), some (.inl c), some (.inl d)] [] g =
  (if d < (Int32.ofInt 4) then
   (if inB d 4 then
    (if inB d 4 then
     z 192 [some (.inr (0, 0)), some (.inl a), some (.inl b), some (.inl c), some (.inl (d + (Int32.ofInt 1)))] [] (st3 g 1 0 d.toNatClampNeg (g 3 0 d.toNatClampNeg))
    else
     none)
   else
    none)
  else
   z 221 [some (.inr (0, 0)), some (.inl a), some (.inl b), some (.inl c), some (.inl (Int32.ofInt 0))] [] g) := rfl
set_option maxRecDepth 100000 in
set_option maxHeartbeats 4000000 in
theorem y_R_call_221 (z : mK) (a b c d : Int32) (g : mG) : rs_R_call [69, 98, 145, 192, 221] z 14 221 [some (.inr (0, 0)), some (.inl a), some (.inl b), some (.inl c), some (.inl d)] [] g =
  (if d < (Int32.ofInt 192) then
   (if inB d 192 then
    (if inB d 192 then
     z 221 [some (.inr (0, 0)), some (.inl a), some (.inl b), some (.inl c), some (.inl (d + (Int32.ofInt 1)))] [] (st3 g 2 0 d.toNatClampNeg (g 4 0 d.toNatClampNeg))
    else
     none)
   else
    none)
  else
   some (some (.inl (g 0 0 21)), g)) := rfl
