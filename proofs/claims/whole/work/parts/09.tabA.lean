/-! TriggerBase$Library.openNext()I -/
abbrev kc_L_openNext : ByteArray := prog_5_method_6_code
abbrev yn_L_openNext : MethodName := ⟨"TriggerBase$Library", "openNext", "()I"⟩
def tb_L_openNext : List (Nat × mIn) := [(0, .aload_n 0, 1, 1, 0, []), (1, .getfield 29, 3, 4, 0, []), (4, .ifCond .eq 5, 3, 7, 9, []), (7, .iconst (-1), 1, 8, 0, []), (8, .ireturn, 1, 9, 0, []), (9, .aload_n 0, 1, 10, 0, []), (10, .getfield 25, 3, 13, 0, []), (13, .bipush 12, 2, 15, 0, []), (15, .if_icmp .lt 6, 3, 18, 21, []), (18, .bipush (-2), 2, 20, 0, []), (20, .ireturn, 1, 21, 0, []), (21, .aload_n 0, 1, 22, 0, []), (22, .iconst 1, 1, 23, 0, []), (23, .putfield 29, 3, 26, 0, []), (26, .aload_n 0, 1, 27, 0, []), (27, .getfield 15, 3, 30, 0, []), (30, .aload_n 0, 1, 31, 0, []), (31, .getfield 25, 3, 34, 0, []), (34, .iconst 0, 1, 35, 0, []), (35, .iastore, 1, 36, 0, []), (36, .aload_n 0, 1, 37, 0, []), (37, .getfield 25, 3, 40, 0, []), (40, .ireturn, 1, 41, 0, [])]
theorem tb_L_openNext_ok : mTok kc_L_openNext 1 tb_L_openNext = true := by decide +kernel
noncomputable def ct_L_openNext : List (Nat × Nat × Nat × mFn) := []
def sp_L_openNext : List (Nat × Nat) := []
noncomputable abbrev rn_L_openNext (n : Nat) : mK := px tb_L_openNext shC nmC gl_L pl_L gs_L fe_L smC ct_L_openNext sp_L_openNext 1 n
noncomputable def t_L_openNext : List mV → mG → Option mRes := mFun (some 2) 1 fun As g => mEv fun n => rn_L_openNext n 0 (mL0 As 1) [] g
noncomputable def f_L_openNext : List mV → mG → Option (Int32 × mG) := fun As g => (t_L_openNext As g).bind mexI
theorem e_L_openNext {As : List mV} {g g' : mG} {n : Nat} {x : Int32} (hh : (mHd (some 2) As && Nat.beq As.length 1) = true) (h : rn_L_openNext n 0 (mL0 As 1) [] g = some (some (.inl x), g')) : f_L_openNext As g = some (x, g') := mE_I hh h
/-! TriggerBase.begin()I -/
abbrev kc_B_begin : ByteArray := prog_1_method_2_code
abbrev yn_B_begin : MethodName := ⟨"TriggerBase", "begin", "()I"⟩
def tb_B_begin : List (Nat × mIn) := [(0, .aload_n 0, 1, 1, 0, []), (1, .getfield 20, 3, 4, 0, []), (4, .invokevirtual 31, 3, 7, 0, []), (7, .ireturn, 1, 8, 0, [])]
theorem tb_B_begin_ok : mTok kc_B_begin 1 tb_B_begin = true := by decide +kernel
noncomputable def ct_B_begin : List (Nat × Nat × Nat × mFn) := [(31, 0, 1, .inr (.inl f_L_openNext))]
def sp_B_begin : List (Nat × Nat) := []
noncomputable abbrev rn_B_begin (n : Nat) : mK := px tb_B_begin shC nmC gl_B pl_B gs_B fe_B smC ct_B_begin sp_B_begin 1 n
noncomputable def t_B_begin : List mV → mG → Option mRes := mFun (some 0) 1 fun As g => mEv fun n => rn_B_begin n 0 (mL0 As 1) [] g
noncomputable def f_B_begin : List mV → mG → Option (Int32 × mG) := fun As g => (t_B_begin As g).bind mexI
theorem e_B_begin {As : List mV} {g g' : mG} {n : Nat} {x : Int32} (hh : (mHd (some 0) As && Nat.beq As.length 1) = true) (h : rn_B_begin n 0 (mL0 As 1) [] g = some (some (.inl x), g')) : f_B_begin As g = some (x, g') := mE_I hh h
/-! TriggerBase.isBelow(II)Z -/
abbrev kc_B_isBelow : ByteArray := prog_1_method_13_code
abbrev yn_B_isBelow : MethodName := ⟨"TriggerBase", "isBelow", "(II)Z"⟩
def tb_B_isBelow : List (Nat × mIn) := [(0, .iload_n 0, 1, 1, 0, []), (1, .ifCond .lt 12, 3, 4, 13, []), (4, .iload_n 0, 1, 5, 0, []), (5, .iload_n 1, 1, 6, 0, []), (6, .if_icmp .ge 7, 3, 9, 13, []), (9, .iconst 1, 1, 10, 0, []), (10, .goto 4, 3, 13, 14, []), (13, .iconst 0, 1, 14, 0, []), (14, .ireturn, 1, 15, 0, [])]
theorem tb_B_isBelow_ok : mTok kc_B_isBelow 2 tb_B_isBelow = true := by decide +kernel
noncomputable def ct_B_isBelow : List (Nat × Nat × Nat × mFn) := []
def sp_B_isBelow : List (Nat × Nat) := []
noncomputable abbrev rn_B_isBelow (n : Nat) : mK := px tb_B_isBelow shC nmC gl_B pl_B gs_B fe_B smC ct_B_isBelow sp_B_isBelow 2 n
noncomputable def t_B_isBelow : List mV → mG → Option mRes := mFun none 2 fun As g => mEv fun n => rn_B_isBelow n 0 (mL0 As 2) [] g
noncomputable def f_B_isBelow : List mV → mG → Option (Int32 × mG) := fun As g => (t_B_isBelow As g).bind mexI
theorem e_B_isBelow {As : List mV} {g g' : mG} {n : Nat} {x : Int32} (hh : (mHd none As && Nat.beq As.length 2) = true) (h : rn_B_isBelow n 0 (mL0 As 2) [] g = some (some (.inl x), g')) : f_B_isBelow As g = some (x, g') := mE_I hh h
/-! TriggerBase$Library.length(I)I -/
abbrev kc_L_length : ByteArray := prog_5_method_3_code
abbrev yn_L_length : MethodName := ⟨"TriggerBase$Library", "length", "(I)I"⟩
def tb_L_length : List (Nat × mIn) := [(0, .iload_n 1, 1, 1, 0, []), (1, .bipush 12, 2, 3, 0, []), (3, .invokestatic 33, 3, 6, 0, []), (6, .ifCond .eq 12, 3, 9, 18, []), (9, .aload_n 0, 1, 10, 0, []), (10, .getfield 15, 3, 13, 0, []), (13, .iload_n 1, 1, 14, 0, []), (14, .iaload, 1, 15, 0, []), (15, .goto 4, 3, 18, 19, []), (18, .iconst 0, 1, 19, 0, []), (19, .ireturn, 1, 20, 0, [])]
theorem tb_L_length_ok : mTok kc_L_length 2 tb_L_length = true := by decide +kernel
noncomputable def ct_L_length : List (Nat × Nat × Nat × mFn) := [(33, 2, 2, .inr (.inl f_B_isBelow))]
def sp_L_length : List (Nat × Nat) := []
noncomputable abbrev rn_L_length (n : Nat) : mK := px tb_L_length shC nmC gl_L pl_L gs_L fe_L smC ct_L_length sp_L_length 1 n
noncomputable def t_L_length : List mV → mG → Option mRes := mFun (some 2) 2 fun As g => mEv fun n => rn_L_length n 0 (mL0 As 2) [] g
noncomputable def f_L_length : List mV → mG → Option (Int32 × mG) := fun As g => (t_L_length As g).bind mexI
theorem e_L_length {As : List mV} {g g' : mG} {n : Nat} {x : Int32} (hh : (mHd (some 2) As && Nat.beq As.length 2) = true) (h : rn_L_length n 0 (mL0 As 2) [] g = some (some (.inl x), g')) : f_L_length As g = some (x, g') := mE_I hh h
/-! TriggerBase$Library.append(I)Z -/
abbrev kc_L_append : ByteArray := prog_5_method_7_code
abbrev yn_L_append : MethodName := ⟨"TriggerBase$Library", "append", "(I)Z"⟩
def tb_L_append : List (Nat × mIn) := [(0, .aload_n 0, 1, 1, 0, []), (1, .aload_n 0, 1, 2, 0, []), (2, .getfield 25, 3, 5, 0, []), (5, .invokevirtual 47, 3, 8, 0, []), (8, .istore_n 2, 1, 9, 0, []), (9, .aload_n 0, 1, 10, 0, []), (10, .getfield 29, 3, 13, 0, []), (13, .ifCond .eq 9, 3, 16, 22, []), (16, .iload_n 2, 1, 17, 0, []), (17, .bipush 60, 2, 19, 0, []), (19, .if_icmp .lt 5, 3, 22, 24, []), (22, .iconst 0, 1, 23, 0, []), (23, .ireturn, 1, 24, 0, []), (24, .aload_n 0, 1, 25, 0, []), (25, .getfield 9, 3, 28, 0, []), (28, .aload_n 0, 1, 29, 0, []), (29, .getfield 25, 3, 32, 0, []), (32, .bipush 60, 2, 34, 0, []), (34, .imul, 1, 35, 0, []), (35, .iload_n 2, 1, 36, 0, []), (36, .iadd, 1, 37, 0, []), (37, .iload_n 1, 1, 38, 0, []), (38, .iastore, 1, 39, 0, []), (39, .aload_n 0, 1, 40, 0, []), (40, .getfield 15, 3, 43, 0, []), (43, .aload_n 0, 1, 44, 0, []), (44, .getfield 25, 3, 47, 0, []), (47, .iload_n 2, 1, 48, 0, []), (48, .iconst 1, 1, 49, 0, []), (49, .iadd, 1, 50, 0, []), (50, .iastore, 1, 51, 0, []), (51, .iconst 1, 1, 52, 0, []), (52, .ireturn, 1, 53, 0, [])]
theorem tb_L_append_ok : mTok kc_L_append 3 tb_L_append = true := by decide +kernel
noncomputable def ct_L_append : List (Nat × Nat × Nat × mFn) := [(47, 0, 2, .inr (.inl f_L_length))]
def sp_L_append : List (Nat × Nat) := []
noncomputable abbrev rn_L_append (n : Nat) : mK := px tb_L_append shC nmC gl_L pl_L gs_L fe_L smC ct_L_append sp_L_append 2 n
noncomputable def t_L_append : List mV → mG → Option mRes := mFun (some 2) 2 fun As g => mEv fun n => rn_L_append n 0 (mL0 As 3) [] g
noncomputable def f_L_append : List mV → mG → Option (Int32 × mG) := fun As g => (t_L_append As g).bind mexI
theorem e_L_append {As : List mV} {g g' : mG} {n : Nat} {x : Int32} (hh : (mHd (some 2) As && Nat.beq As.length 2) = true) (h : rn_L_append n 0 (mL0 As 3) [] g = some (some (.inl x), g')) : f_L_append As g = some (x, g') := mE_I hh h
/-! TriggerBase.emit(I)Z -/
abbrev kc_B_emit : ByteArray := prog_1_method_3_code
abbrev yn_B_emit : MethodName := ⟨"TriggerBase", "emit", "(I)Z"⟩
def tb_B_emit : List (Nat × mIn) := [(0, .aload_n 0, 1, 1, 0, []), (1, .getfield 20, 3, 4, 0, []), (4, .iload_n 1, 1, 5, 0, []), (5, .invokevirtual 37, 3, 8, 0, []), (8, .ireturn, 1, 9, 0, [])]
theorem tb_B_emit_ok : mTok kc_B_emit 2 tb_B_emit = true := by decide +kernel
noncomputable def ct_B_emit : List (Nat × Nat × Nat × mFn) := [(37, 0, 2, .inr (.inl f_L_append))]
def sp_B_emit : List (Nat × Nat) := []
noncomputable abbrev rn_B_emit (n : Nat) : mK := px tb_B_emit shC nmC gl_B pl_B gs_B fe_B smC ct_B_emit sp_B_emit 2 n
noncomputable def t_B_emit : List mV → mG → Option mRes := mFun (some 0) 2 fun As g => mEv fun n => rn_B_emit n 0 (mL0 As 2) [] g
noncomputable def f_B_emit : List mV → mG → Option (Int32 × mG) := fun As g => (t_B_emit As g).bind mexI
theorem e_B_emit {As : List mV} {g g' : mG} {n : Nat} {x : Int32} (hh : (mHd (some 0) As && Nat.beq As.length 2) = true) (h : rn_B_emit n 0 (mL0 As 2) [] g = some (some (.inl x), g')) : f_B_emit As g = some (x, g') := mE_I hh h
/-! java/util/Arrays.fill([II)V -/
abbrev kc_A_fill : ByteArray := prog_15_method_103_code
abbrev yn_A_fill : MethodName := ⟨"java/util/Arrays", "fill", "([II)V"⟩
def tb_A_fill : List (Nat × mIn) := [(0, .iconst 0, 1, 1, 0, []), (1, .istore_n 2, 1, 2, 0, []), (2, .aload_n 0, 1, 3, 0, []), (3, .arraylength, 1, 4, 0, []), (4, .istore_n 3, 1, 5, 0, []), (5, .iload_n 2, 1, 6, 0, []), (6, .iload_n 3, 1, 7, 0, []), (7, .if_icmp .ge 13, 3, 10, 20, []), (10, .aload_n 0, 1, 11, 0, []), (11, .iload_n 2, 1, 12, 0, []), (12, .iload_n 1, 1, 13, 0, []), (13, .iastore, 1, 14, 0, []), (14, .iinc 2 1, 3, 17, 0, []), (17, .goto (-12), 3, 20, 5, []), (20, .return_, 1, 21, 0, [])]
theorem tb_A_fill_ok : mTok kc_A_fill 4 tb_A_fill = true := by decide +kernel
noncomputable def ct_A_fill : List (Nat × Nat × Nat × mFn) := []
def sp_A_fill : List (Nat × Nat) := []
noncomputable abbrev rn_A_fill (n : Nat) : mK := px tb_A_fill shC nmC gl_A pl_A gs_A fe_A smC ct_A_fill sp_A_fill 0 n
noncomputable def t_A_fill : List mV → mG → Option mRes := mFun none 2 fun As g => mEv fun n => rn_A_fill n 0 (mL0 As 4) [] g
noncomputable def f_A_fill : List mV → mG → Option mG := fun As g => (t_A_fill As g).bind mexV
theorem e_A_fill {As : List mV} {g g' : mG} {n : Nat} (hh : (mHd none As && Nat.beq As.length 2) = true) (h : rn_A_fill n 0 (mL0 As 4) [] g = some (none, g')) : f_A_fill As g = some g' := mE_V hh h
/-! TriggerBase$Library.word(II)I -/
abbrev kc_L_word : ByteArray := prog_5_method_4_code
abbrev yn_L_word : MethodName := ⟨"TriggerBase$Library", "word", "(II)I"⟩
def tb_L_word : List (Nat × mIn) := [(0, .iload_n 1, 1, 1, 0, []), (1, .bipush 12, 2, 3, 0, []), (3, .invokestatic 33, 3, 6, 0, []), (6, .ifCond .eq 20, 3, 9, 26, []), (9, .iload_n 2, 1, 10, 0, []), (10, .aload_n 0, 1, 11, 0, []), (11, .getfield 15, 3, 14, 0, []), (14, .iload_n 1, 1, 15, 0, []), (15, .iaload, 1, 16, 0, []), (16, .invokestatic 33, 3, 19, 0, []), (19, .ifCond .eq 7, 3, 22, 26, []), (22, .iconst 1, 1, 23, 0, []), (23, .goto 4, 3, 26, 27, []), (26, .iconst 0, 1, 27, 0, []), (27, .istore_n 3, 1, 28, 0, []), (28, .iload_n 3, 1, 29, 0, []), (29, .ifCond .eq 17, 3, 32, 46, []), (32, .aload_n 0, 1, 33, 0, []), (33, .getfield 9, 3, 36, 0, []), (36, .iload_n 1, 1, 37, 0, []), (37, .bipush 60, 2, 39, 0, []), (39, .imul, 1, 40, 0, []), (40, .iload_n 2, 1, 41, 0, []), (41, .iadd, 1, 42, 0, []), (42, .iaload, 1, 43, 0, []), (43, .goto 4, 3, 46, 47, []), (46, .iconst (-1), 1, 47, 0, []), (47, .ireturn, 1, 48, 0, [])]
theorem tb_L_word_ok : mTok kc_L_word 4 tb_L_word = true := by decide +kernel
noncomputable def ct_L_word : List (Nat × Nat × Nat × mFn) := [(33, 2, 2, .inr (.inl f_B_isBelow))]
def sp_L_word : List (Nat × Nat) := []
noncomputable abbrev rn_L_word (n : Nat) : mK := px tb_L_word shC nmC gl_L pl_L gs_L fe_L smC ct_L_word sp_L_word 1 n
noncomputable def t_L_word : List mV → mG → Option mRes := mFun (some 2) 3 fun As g => mEv fun n => rn_L_word n 0 (mL0 As 4) [] g
noncomputable def f_L_word : List mV → mG → Option (Int32 × mG) := fun As g => (t_L_word As g).bind mexI
theorem e_L_word {As : List mV} {g g' : mG} {n : Nat} {x : Int32} (hh : (mHd (some 2) As && Nat.beq As.length 3) = true) (h : rn_L_word n 0 (mL0 As 4) [] g = some (some (.inl x), g')) : f_L_word As g = some (x, g') := mE_I hh h
/-! TriggerBase$Instruction.of(I)LTriggerBase$Instruction; -/
abbrev kc_I_of : ByteArray := prog_4_method_4_code
abbrev yn_I_of : MethodName := ⟨"TriggerBase$Instruction", "of", "(I)LTriggerBase$Instruction;"⟩
def tb_I_of : List (Nat × mIn) := [(0, .iload_n 0, 1, 1, 0, []), (1, .getstatic 125, 3, 4, 0, []), (4, .arraylength, 1, 5, 0, []), (5, .invokestatic 128, 3, 8, 0, []), (8, .ifCond .eq 11, 3, 11, 19, []), (11, .getstatic 125, 3, 14, 0, []), (14, .iload_n 0, 1, 15, 0, []), (15, .aaload, 1, 16, 0, []), (16, .goto 6, 3, 19, 22, []), (19, .getstatic 87, 3, 22, 0, []), (22, .areturn, 1, 23, 0, [])]
theorem tb_I_of_ok : mTok kc_I_of 1 tb_I_of = true := by decide +kernel
noncomputable def ct_I_of : List (Nat × Nat × Nat × mFn) := [(128, 2, 2, .inr (.inl f_B_isBelow))]
def sp_I_of : List (Nat × Nat) := []
noncomputable abbrev rn_I_of (n : Nat) : mK := px tb_I_of shC nmC gl_I pl_I gs_I fe_I smC ct_I_of sp_I_of 3 n
noncomputable def t_I_of : List mV → mG → Option mRes := mFun none 1 fun As g => mEv fun n => rn_I_of n 0 (mL0 As 1) [] g
noncomputable def f_I_of : List mV → mG → Option (Nat × mG) := fun As g => (t_I_of As g).bind (mexR 100)
theorem e_I_of {As : List mV} {g g' : mG} {n : Nat} {x : Nat} (hh : (mHd none As && Nat.beq As.length 1) = true) (h : rn_I_of n 0 (mL0 As 1) [] g = some (some (.inr (100, x)), g')) : f_I_of As g = some (x, g') := mE_R hh h
/-! TriggerBase$Library.instructionAt(II)LTriggerBase$Instruction; -/
abbrev kc_L_instructionAt : ByteArray := prog_5_method_5_code
abbrev yn_L_instructionAt : MethodName := ⟨"TriggerBase$Library", "instructionAt", "(II)LTriggerBase$Instruction;"⟩
def tb_L_instructionAt : List (Nat × mIn) := [(0, .aload_n 0, 1, 1, 0, []), (1, .iload_n 1, 1, 2, 0, []), (2, .iload_n 2, 1, 3, 0, []), (3, .invokevirtual 37, 3, 6, 0, []), (6, .invokestatic 41, 3, 9, 0, []), (9, .areturn, 1, 10, 0, [])]
theorem tb_L_instructionAt_ok : mTok kc_L_instructionAt 3 tb_L_instructionAt = true := by decide +kernel
noncomputable def ct_L_instructionAt : List (Nat × Nat × Nat × mFn) := [(37, 0, 3, .inr (.inl f_L_word)), (41, 2, 1, .inr (.inr (100, f_I_of)))]
def sp_L_instructionAt : List (Nat × Nat) := []
noncomputable abbrev rn_L_instructionAt (n : Nat) : mK := px tb_L_instructionAt shC nmC gl_L pl_L gs_L fe_L smC ct_L_instructionAt sp_L_instructionAt 3 n
noncomputable def t_L_instructionAt : List mV → mG → Option mRes := mFun (some 2) 3 fun As g => mEv fun n => rn_L_instructionAt n 0 (mL0 As 3) [] g
noncomputable def f_L_instructionAt : List mV → mG → Option (Nat × mG) := fun As g => (t_L_instructionAt As g).bind (mexR 100)
theorem e_L_instructionAt {As : List mV} {g g' : mG} {n : Nat} {x : Nat} (hh : (mHd (some 2) As && Nat.beq As.length 3) = true) (h : rn_L_instructionAt n 0 (mL0 As 3) [] g = some (some (.inr (100, x)), g')) : f_L_instructionAt As g = some (x, g') := mE_R hh h
/-! TriggerBase$Verifier.isInBounds(LTriggerBase$Library;II)Z -/
abbrev kc_V_isInBounds : ByteArray := prog_9_method_6_code
abbrev yn_V_isInBounds : MethodName := ⟨"TriggerBase$Verifier", "isInBounds", "(LTriggerBase$Library;II)Z"⟩
def tb_V_isInBounds : List (Nat × mIn) := [(0, .iload_n 1, 1, 1, 0, []), (1, .tableswitch 63 2 6 #[35, 63, 42, 48, 54], 35, 36, 64, [(2, 36), (3, 64), (4, 43), (5, 49), (6, 55)]), (36, .iload_n 2, 1, 37, 0, []), (37, .bipush 8, 2, 39, 0, []), (39, .invokestatic 81, 3, 42, 0, []), (42, .ireturn, 1, 43, 0, []), (43, .iload_n 2, 1, 44, 0, []), (44, .iconst 4, 1, 45, 0, []), (45, .invokestatic 81, 3, 48, 0, []), (48, .ireturn, 1, 49, 0, []), (49, .iload_n 2, 1, 50, 0, []), (50, .iconst 3, 1, 51, 0, []), (51, .invokestatic 81, 3, 54, 0, []), (54, .ireturn, 1, 55, 0, []), (55, .iload_n 2, 1, 56, 0, []), (56, .aload_n 0, 1, 57, 0, []), (57, .getfield 85, 3, 60, 0, []), (60, .invokestatic 81, 3, 63, 0, []), (63, .ireturn, 1, 64, 0, []), (64, .iconst 1, 1, 65, 0, []), (65, .ireturn, 1, 66, 0, [])]
theorem tb_V_isInBounds_ok : mTok kc_V_isInBounds 3 tb_V_isInBounds = true := by decide +kernel
noncomputable def ct_V_isInBounds : List (Nat × Nat × Nat × mFn) := [(81, 2, 2, .inr (.inl f_B_isBelow))]
def sp_V_isInBounds : List (Nat × Nat) := []
noncomputable abbrev rn_V_isInBounds (n : Nat) : mK := px tb_V_isInBounds shC nmC gl_V pl_V gs_V fe_V smC ct_V_isInBounds sp_V_isInBounds 2 n
noncomputable def t_V_isInBounds : List mV → mG → Option mRes := mFun none 3 fun As g => mEv fun n => rn_V_isInBounds n 0 (mL0 As 3) [] g
noncomputable def f_V_isInBounds : List mV → mG → Option (Int32 × mG) := fun As g => (t_V_isInBounds As g).bind mexI
theorem e_V_isInBounds {As : List mV} {g g' : mG} {n : Nat} {x : Int32} (hh : (mHd none As && Nat.beq As.length 3) = true) (h : rn_V_isInBounds n 0 (mL0 As 3) [] g = some (some (.inl x), g')) : f_V_isInBounds As g = some (x, g') := mE_I hh h
/-! TriggerBase$Verifier.ruleOfWords(LTriggerBase$Library;IILTriggerBase$Instruction;)I -/
abbrev kc_V_ruleOfWords : ByteArray := prog_9_method_5_code
abbrev yn_V_ruleOfWords : MethodName := ⟨"TriggerBase$Verifier", "ruleOfWords", "(LTriggerBase$Library;IILTriggerBase$Instruction;)I"⟩
def tb_V_ruleOfWords : List (Nat × mIn) := [(0, .aload_n 3, 1, 1, 0, []), (1, .getstatic 64, 3, 4, 0, []), (4, .if_acmp .ne 5, 3, 7, 9, []), (7, .iconst 1, 1, 8, 0, []), (8, .ireturn, 1, 9, 0, []), (9, .iload_n 2, 1, 10, 0, []), (10, .aload_n 3, 1, 11, 0, []), (11, .getfield 58, 3, 14, 0, []), (14, .iadd, 1, 15, 0, []), (15, .aload_n 0, 1, 16, 0, []), (16, .iload_n 1, 1, 17, 0, []), (17, .invokevirtual 35, 3, 20, 0, []), (20, .if_icmp .le 5, 3, 23, 25, []), (23, .iconst 2, 1, 24, 0, []), (24, .ireturn, 1, 25, 0, []), (25, .aload_n 0, 1, 26, 0, []), (26, .aload_n 3, 1, 27, 0, []), (27, .getfield 68, 3, 30, 0, []), (30, .aload_n 0, 1, 31, 0, []), (31, .iload_n 1, 1, 32, 0, []), (32, .iload_n 2, 1, 33, 0, []), (33, .iconst 1, 1, 34, 0, []), (34, .iadd, 1, 35, 0, []), (35, .invokevirtual 71, 3, 38, 0, []), (38, .invokestatic 74, 3, 41, 0, []), (41, .ifCond .eq 26, 3, 44, 67, []), (44, .aload_n 0, 1, 45, 0, []), (45, .aload_n 3, 1, 46, 0, []), (46, .getfield 78, 3, 49, 0, []), (49, .aload_n 0, 1, 50, 0, []), (50, .iload_n 1, 1, 51, 0, []), (51, .iload_n 2, 1, 52, 0, []), (52, .iconst 2, 1, 53, 0, []), (53, .iadd, 1, 54, 0, []), (54, .invokevirtual 71, 3, 57, 0, []), (57, .invokestatic 74, 3, 60, 0, []), (60, .ifCond .eq 7, 3, 63, 67, []), (63, .iconst 1, 1, 64, 0, []), (64, .goto 4, 3, 67, 68, []), (67, .iconst 0, 1, 68, 0, []), (68, .istore 4, 2, 70, 0, []), (70, .iload 4, 2, 72, 0, []), (72, .ifCond .eq 7, 3, 75, 79, []), (75, .iconst 0, 1, 76, 0, []), (76, .goto 4, 3, 79, 80, []), (79, .iconst 3, 1, 80, 0, []), (80, .ireturn, 1, 81, 0, [])]
theorem tb_V_ruleOfWords_ok : mTok kc_V_ruleOfWords 5 tb_V_ruleOfWords = true := by decide +kernel
noncomputable def ct_V_ruleOfWords : List (Nat × Nat × Nat × mFn) := [(35, 0, 2, .inr (.inl f_L_length)), (71, 0, 3, .inr (.inl f_L_word)), (74, 2, 3, .inr (.inl f_V_isInBounds))]
def sp_V_ruleOfWords : List (Nat × Nat) := []
noncomputable abbrev rn_V_ruleOfWords (n : Nat) : mK := px tb_V_ruleOfWords shC nmC gl_V pl_V gs_V fe_V smC ct_V_ruleOfWords sp_V_ruleOfWords 1 n
noncomputable def t_V_ruleOfWords : List mV → mG → Option mRes := mFun none 4 fun As g => mEv fun n => rn_V_ruleOfWords n 0 (mL0 As 5) [] g
noncomputable def f_V_ruleOfWords : List mV → mG → Option (Int32 × mG) := fun As g => (t_V_ruleOfWords As g).bind mexI
theorem e_V_ruleOfWords {As : List mV} {g g' : mG} {n : Nat} {x : Int32} (hh : (mHd none As && Nat.beq As.length 4) = true) (h : rn_V_ruleOfWords n 0 (mL0 As 5) [] g = some (some (.inl x), g')) : f_V_ruleOfWords As g = some (x, g') := mE_I hh h
/-! TriggerBase$Verifier.fault(II)I -/
abbrev kc_V_fault : ByteArray := prog_9_method_3_code
abbrev yn_V_fault : MethodName := ⟨"TriggerBase$Verifier", "fault", "(II)I"⟩
def tb_V_fault : List (Nat × mIn) := [(0, .bipush 16, 2, 2, 0, []), (2, .iload_n 0, 1, 3, 0, []), (3, .imul, 1, 4, 0, []), (4, .iload_n 1, 1, 5, 0, []), (5, .iadd, 1, 6, 0, []), (6, .ireturn, 1, 7, 0, [])]
theorem tb_V_fault_ok : mTok kc_V_fault 2 tb_V_fault = true := by decide +kernel
noncomputable def ct_V_fault : List (Nat × Nat × Nat × mFn) := []
def sp_V_fault : List (Nat × Nat) := []
noncomputable abbrev rn_V_fault (n : Nat) : mK := px tb_V_fault shC nmC gl_V pl_V gs_V fe_V smC ct_V_fault sp_V_fault 1 n
noncomputable def t_V_fault : List mV → mG → Option mRes := mFun none 2 fun As g => mEv fun n => rn_V_fault n 0 (mL0 As 2) [] g
noncomputable def f_V_fault : List mV → mG → Option (Int32 × mG) := fun As g => (t_V_fault As g).bind mexI
theorem e_V_fault {As : List mV} {g g' : mG} {n : Nat} {x : Int32} (hh : (mHd none As && Nat.beq As.length 2) = true) (h : rn_V_fault n 0 (mL0 As 2) [] g = some (some (.inl x), g')) : f_V_fault As g = some (x, g') := mE_I hh h
/-! TriggerBase$Verifier.faultOfWords(LTriggerBase$Library;I)I -/
abbrev kc_V_faultOfWords : ByteArray := prog_9_method_4_code
abbrev yn_V_faultOfWords : MethodName := ⟨"TriggerBase$Verifier", "faultOfWords", "(LTriggerBase$Library;I)I"⟩
def tb_V_faultOfWords : List (Nat × mIn) := [(0, .aload_n 0, 1, 1, 0, []), (1, .getfield 9, 3, 4, 0, []), (4, .bipush (-2), 2, 6, 0, []), (6, .invokestatic 29, 3, 9, 0, []), (9, .aload_n 1, 1, 10, 0, []), (10, .iload_n 2, 1, 11, 0, []), (11, .invokevirtual 35, 3, 14, 0, []), (14, .bipush 60, 2, 16, 0, []), (16, .invokestatic 41, 3, 19, 0, []), (19, .istore_n 3, 1, 20, 0, []), (20, .iconst 0, 1, 21, 0, []), (21, .istore 4, 2, 23, 0, []), (23, .iconst 0, 1, 24, 0, []), (24, .istore 5, 2, 26, 0, []), (26, .iload 5, 2, 28, 0, []), (28, .iload_n 3, 1, 29, 0, []), (29, .if_icmp .ge 74, 3, 32, 103, []), (32, .iload 4, 2, 34, 0, []), (34, .iload_n 3, 1, 35, 0, []), (35, .if_icmp .ge 68, 3, 38, 103, []), (38, .aload_n 1, 1, 39, 0, []), (39, .iload_n 2, 1, 40, 0, []), (40, .iload 4, 2, 42, 0, []), (42, .invokevirtual 47, 3, 45, 0, []), (45, .astore 6, 2, 47, 0, []), (47, .aload_n 1, 1, 48, 0, []), (48, .iload_n 2, 1, 49, 0, []), (49, .iload 4, 2, 51, 0, []), (51, .aload 6, 2, 53, 0, []), (53, .invokestatic 51, 3, 56, 0, []), (56, .istore 7, 2, 58, 0, []), (58, .iload 7, 2, 60, 0, []), (60, .ifCond .eq 11, 3, 63, 71, []), (63, .iload 4, 2, 65, 0, []), (65, .iload 7, 2, 67, 0, []), (67, .invokestatic 55, 3, 70, 0, []), (70, .ireturn, 1, 71, 0, []), (71, .aload_n 0, 1, 72, 0, []), (72, .getfield 9, 3, 75, 0, []), (75, .iload 4, 2, 77, 0, []), (77, .iconst (-1), 1, 78, 0, []), (78, .iastore, 1, 79, 0, []), (79, .aload_n 0, 1, 80, 0, []), (80, .getfield 15, 3, 83, 0, []), (83, .iload 4, 2, 85, 0, []), (85, .iconst 0, 1, 86, 0, []), (86, .bastore, 1, 87, 0, []), (87, .iload 4, 2, 89, 0, []), (89, .aload 6, 2, 91, 0, []), (91, .getfield 58, 3, 94, 0, []), (94, .iadd, 1, 95, 0, []), (95, .istore 4, 2, 97, 0, []), (97, .iinc 5 1, 3, 100, 0, []), (100, .goto (-74), 3, 103, 26, []), (103, .iconst 0, 1, 104, 0, []), (104, .ireturn, 1, 105, 0, [])]
theorem tb_V_faultOfWords_ok : mTok kc_V_faultOfWords 8 tb_V_faultOfWords = true := by decide +kernel
noncomputable def ct_V_faultOfWords : List (Nat × Nat × Nat × mFn) := [(29, 2, 2, .inl f_A_fill), (35, 0, 2, .inr (.inl f_L_length)), (47, 0, 3, .inr (.inr (100, f_L_instructionAt))), (51, 2, 4, .inr (.inl f_V_ruleOfWords)), (55, 2, 2, .inr (.inl f_V_fault))]
def sp_V_faultOfWords : List (Nat × Nat) := [(41, 2)]
noncomputable abbrev rn_V_faultOfWords (n : Nat) : mK := px tb_V_faultOfWords shC nmC gl_V pl_V gs_V fe_V smC ct_V_faultOfWords sp_V_faultOfWords 1 n
noncomputable def t_V_faultOfWords : List mV → mG → Option mRes := mFun (some 5) 3 fun As g => mEv fun n => rn_V_faultOfWords n 0 (mL0 As 8) [] g
noncomputable def f_V_faultOfWords : List mV → mG → Option (Int32 × mG) := fun As g => (t_V_faultOfWords As g).bind mexI
theorem e_V_faultOfWords {As : List mV} {g g' : mG} {n : Nat} {x : Int32} (hh : (mHd (some 5) As && Nat.beq As.length 3) = true) (h : rn_V_faultOfWords n 0 (mL0 As 8) [] g = some (some (.inl x), g')) : f_V_faultOfWords As g = some (x, g') := mE_I hh h
/-! TriggerBase$Verifier.isInstruction(I)Z -/
abbrev kc_V_isInstruction : ByteArray := prog_9_method_8_code
abbrev yn_V_isInstruction : MethodName := ⟨"TriggerBase$Verifier", "isInstruction", "(I)Z"⟩
def tb_V_isInstruction : List (Nat × mIn) := [(0, .iload_n 1, 1, 1, 0, []), (1, .bipush 60, 2, 3, 0, []), (3, .invokestatic 81, 3, 6, 0, []), (6, .ifCond .eq 18, 3, 9, 24, []), (9, .aload_n 0, 1, 10, 0, []), (10, .getfield 9, 3, 13, 0, []), (13, .iload_n 1, 1, 14, 0, []), (14, .iaload, 1, 15, 0, []), (15, .bipush (-2), 2, 17, 0, []), (17, .if_icmp .eq 7, 3, 20, 24, []), (20, .iconst 1, 1, 21, 0, []), (21, .goto 4, 3, 24, 25, []), (24, .iconst 0, 1, 25, 0, []), (25, .ireturn, 1, 26, 0, [])]
theorem tb_V_isInstruction_ok : mTok kc_V_isInstruction 2 tb_V_isInstruction = true := by decide +kernel
noncomputable def ct_V_isInstruction : List (Nat × Nat × Nat × mFn) := [(81, 2, 2, .inr (.inl f_B_isBelow))]
def sp_V_isInstruction : List (Nat × Nat) := []
noncomputable abbrev rn_V_isInstruction (n : Nat) : mK := px tb_V_isInstruction shC nmC gl_V pl_V gs_V fe_V smC ct_V_isInstruction sp_V_isInstruction 2 n
noncomputable def t_V_isInstruction : List mV → mG → Option mRes := mFun (some 5) 2 fun As g => mEv fun n => rn_V_isInstruction n 0 (mL0 As 2) [] g
noncomputable def f_V_isInstruction : List mV → mG → Option (Int32 × mG) := fun As g => (t_V_isInstruction As g).bind mexI
theorem e_V_isInstruction {As : List mV} {g g' : mG} {n : Nat} {x : Int32} (hh : (mHd (some 5) As && Nat.beq As.length 2) = true) (h : rn_V_isInstruction n 0 (mL0 As 2) [] g = some (some (.inl x), g')) : f_V_isInstruction As g = some (x, g') := mE_I hh h
/-! TriggerBase$Instruction.mayJump()Z -/
abbrev kc_I_mayJump : ByteArray := prog_4_method_5_code
abbrev yn_I_mayJump : MethodName := ⟨"TriggerBase$Instruction", "mayJump", "()Z"⟩
def tb_I_mayJump : List (Nat × mIn) := [(0, .aload_n 0, 1, 1, 0, []), (1, .getfield 116, 3, 4, 0, []), (4, .iconst 3, 1, 5, 0, []), (5, .if_icmp .ne 7, 3, 8, 12, []), (8, .iconst 1, 1, 9, 0, []), (9, .goto 4, 3, 12, 13, []), (12, .iconst 0, 1, 13, 0, []), (13, .ireturn, 1, 14, 0, [])]
theorem tb_I_mayJump_ok : mTok kc_I_mayJump 1 tb_I_mayJump = true := by decide +kernel
noncomputable def ct_I_mayJump : List (Nat × Nat × Nat × mFn) := []
def sp_I_mayJump : List (Nat × Nat) := []
noncomputable abbrev rn_I_mayJump (n : Nat) : mK := px tb_I_mayJump shC nmC gl_I pl_I gs_I fe_I smC ct_I_mayJump sp_I_mayJump 2 n
noncomputable def t_I_mayJump : List mV → mG → Option mRes := mFun (some 100) 1 fun As g => mEv fun n => rn_I_mayJump n 0 (mL0 As 1) [] g
noncomputable def f_I_mayJump : List mV → mG → Option (Int32 × mG) := fun As g => (t_I_mayJump As g).bind mexI
theorem e_I_mayJump {As : List mV} {g g' : mG} {n : Nat} {x : Int32} (hh : (mHd (some 100) As && Nat.beq As.length 1) = true) (h : rn_I_mayJump n 0 (mL0 As 1) [] g = some (some (.inl x), g')) : f_I_mayJump As g = some (x, g') := mE_I hh h
/-! TriggerBase$Verifier.faultOfPlaces(LTriggerBase$Library;I)I -/
abbrev kc_V_faultOfPlaces : ByteArray := prog_9_method_7_code
abbrev yn_V_faultOfPlaces : MethodName := ⟨"TriggerBase$Verifier", "faultOfPlaces", "(LTriggerBase$Library;I)I"⟩
def tb_V_faultOfPlaces : List (Nat × mIn) := [(0, .iconst 0, 1, 1, 0, []), (1, .istore_n 3, 1, 2, 0, []), (2, .iload_n 3, 1, 3, 0, []), (3, .aload_n 1, 1, 4, 0, []), (4, .iload_n 2, 1, 5, 0, []), (5, .invokevirtual 35, 3, 8, 0, []), (8, .if_icmp .ge 62, 3, 11, 70, []), (11, .aload_n 0, 1, 12, 0, []), (12, .iload_n 3, 1, 13, 0, []), (13, .invokevirtual 88, 3, 16, 0, []), (16, .ifCond .eq 19, 3, 19, 35, []), (19, .aload_n 1, 1, 20, 0, []), (20, .iload_n 2, 1, 21, 0, []), (21, .iload_n 3, 1, 22, 0, []), (22, .invokevirtual 47, 3, 25, 0, []), (25, .invokevirtual 92, 3, 28, 0, []), (28, .ifCond .eq 7, 3, 31, 35, []), (31, .iconst 1, 1, 32, 0, []), (32, .goto 4, 3, 35, 36, []), (35, .iconst 0, 1, 36, 0, []), (36, .istore 4, 2, 38, 0, []), (38, .iload 4, 2, 40, 0, []), (40, .ifCond .eq 24, 3, 43, 64, []), (43, .aload_n 0, 1, 44, 0, []), (44, .aload_n 1, 1, 45, 0, []), (45, .iload_n 2, 1, 46, 0, []), (46, .iload_n 3, 1, 47, 0, []), (47, .iconst 1, 1, 48, 0, []), (48, .iadd, 1, 49, 0, []), (49, .invokevirtual 71, 3, 52, 0, []), (52, .invokevirtual 88, 3, 55, 0, []), (55, .ifCond .ne 9, 3, 58, 64, []), (58, .iload_n 3, 1, 59, 0, []), (59, .iconst 4, 1, 60, 0, []), (60, .invokestatic 55, 3, 63, 0, []), (63, .ireturn, 1, 64, 0, []), (64, .iinc 3 1, 3, 67, 0, []), (67, .goto (-65), 3, 70, 2, []), (70, .iconst 0, 1, 71, 0, []), (71, .ireturn, 1, 72, 0, [])]
theorem tb_V_faultOfPlaces_ok : mTok kc_V_faultOfPlaces 5 tb_V_faultOfPlaces = true := by decide +kernel
noncomputable def ct_V_faultOfPlaces : List (Nat × Nat × Nat × mFn) := [(35, 0, 2, .inr (.inl f_L_length)), (88, 0, 2, .inr (.inl f_V_isInstruction)), (47, 0, 3, .inr (.inr (100, f_L_instructionAt))), (92, 0, 1, .inr (.inl f_I_mayJump)), (71, 0, 3, .inr (.inl f_L_word)), (55, 2, 2, .inr (.inl f_V_fault))]
def sp_V_faultOfPlaces : List (Nat × Nat) := []
noncomputable abbrev rn_V_faultOfPlaces (n : Nat) : mK := px tb_V_faultOfPlaces shC nmC gl_V pl_V gs_V fe_V smC ct_V_faultOfPlaces sp_V_faultOfPlaces 1 n
noncomputable def t_V_faultOfPlaces : List mV → mG → Option mRes := mFun (some 5) 3 fun As g => mEv fun n => rn_V_faultOfPlaces n 0 (mL0 As 5) [] g
noncomputable def f_V_faultOfPlaces : List mV → mG → Option (Int32 × mG) := fun As g => (t_V_faultOfPlaces As g).bind mexI
theorem e_V_faultOfPlaces {As : List mV} {g g' : mG} {n : Nat} {x : Int32} (hh : (mHd (some 5) As && Nat.beq As.length 3) = true) (h : rn_V_faultOfPlaces n 0 (mL0 As 5) [] g = some (some (.inl x), g')) : f_V_faultOfPlaces As g = some (x, g') := mE_I hh h
/-! TriggerBase$Verifier.reach(II)I -/
abbrev kc_V_reach : ByteArray := prog_9_method_12_code
abbrev yn_V_reach : MethodName := ⟨"TriggerBase$Verifier", "reach", "(II)I"⟩
def tb_V_reach : List (Nat × mIn) := [(0, .aload_n 0, 1, 1, 0, []), (1, .iload_n 1, 1, 2, 0, []), (2, .invokevirtual 88, 3, 5, 0, []), (5, .ifCond .ne 6, 3, 8, 11, []), (8, .bipush 8, 2, 10, 0, []), (10, .ireturn, 1, 11, 0, []), (11, .aload_n 0, 1, 12, 0, []), (12, .getfield 9, 3, 15, 0, []), (15, .iload_n 1, 1, 16, 0, []), (16, .iaload, 1, 17, 0, []), (17, .iconst (-1), 1, 18, 0, []), (18, .if_icmp .ne 10, 3, 21, 28, []), (21, .aload_n 0, 1, 22, 0, []), (22, .getfield 9, 3, 25, 0, []), (25, .iload_n 1, 1, 26, 0, []), (26, .iload_n 2, 1, 27, 0, []), (27, .iastore, 1, 28, 0, []), (28, .aload_n 0, 1, 29, 0, []), (29, .getfield 9, 3, 32, 0, []), (32, .iload_n 1, 1, 33, 0, []), (33, .iaload, 1, 34, 0, []), (34, .iload_n 2, 1, 35, 0, []), (35, .if_icmp .ne 7, 3, 38, 42, []), (38, .iconst 0, 1, 39, 0, []), (39, .goto 5, 3, 42, 44, []), (42, .bipush 7, 2, 44, 0, []), (44, .ireturn, 1, 45, 0, [])]
theorem tb_V_reach_ok : mTok kc_V_reach 3 tb_V_reach = true := by decide +kernel
noncomputable def ct_V_reach : List (Nat × Nat × Nat × mFn) := [(88, 0, 2, .inr (.inl f_V_isInstruction))]
def sp_V_reach : List (Nat × Nat) := []
noncomputable abbrev rn_V_reach (n : Nat) : mK := px tb_V_reach shC nmC gl_V pl_V gs_V fe_V smC ct_V_reach sp_V_reach 1 n
noncomputable def t_V_reach : List mV → mG → Option mRes := mFun (some 5) 3 fun As g => mEv fun n => rn_V_reach n 0 (mL0 As 3) [] g
noncomputable def f_V_reach : List mV → mG → Option (Int32 × mG) := fun As g => (t_V_reach As g).bind mexI
theorem e_V_reach {As : List mV} {g g' : mG} {n : Nat} {x : Int32} (hh : (mHd (some 5) As && Nat.beq As.length 3) = true) (h : rn_V_reach n 0 (mL0 As 3) [] g = some (some (.inl x), g')) : f_V_reach As g = some (x, g') := mE_I hh h
/-! TriggerBase$Verifier.leastToLookAt()I -/
abbrev kc_V_leastToLookAt : ByteArray := prog_9_method_10_code
abbrev yn_V_leastToLookAt : MethodName := ⟨"TriggerBase$Verifier", "leastToLookAt", "()I"⟩
def tb_V_leastToLookAt : List (Nat × mIn) := [(0, .iconst 0, 1, 1, 0, []), (1, .istore_n 1, 1, 2, 0, []), (2, .iload_n 1, 1, 3, 0, []), (3, .bipush 60, 2, 5, 0, []), (5, .if_icmp .ge 29, 3, 8, 34, []), (8, .aload_n 0, 1, 9, 0, []), (9, .getfield 9, 3, 12, 0, []), (12, .iload_n 1, 1, 13, 0, []), (13, .iaload, 1, 14, 0, []), (14, .ifCond .lt 14, 3, 17, 28, []), (17, .aload_n 0, 1, 18, 0, []), (18, .getfield 15, 3, 21, 0, []), (21, .iload_n 1, 1, 22, 0, []), (22, .baload, 1, 23, 0, []), (23, .ifCond .ne 5, 3, 26, 28, []), (26, .iload_n 1, 1, 27, 0, []), (27, .ireturn, 1, 28, 0, []), (28, .iinc 1 1, 3, 31, 0, []), (31, .goto (-29), 3, 34, 2, []), (34, .iconst (-1), 1, 35, 0, []), (35, .ireturn, 1, 36, 0, [])]
theorem tb_V_leastToLookAt_ok : mTok kc_V_leastToLookAt 2 tb_V_leastToLookAt = true := by decide +kernel
noncomputable def ct_V_leastToLookAt : List (Nat × Nat × Nat × mFn) := []
def sp_V_leastToLookAt : List (Nat × Nat) := []
noncomputable abbrev rn_V_leastToLookAt (n : Nat) : mK := px tb_V_leastToLookAt shC nmC gl_V pl_V gs_V fe_V smC ct_V_leastToLookAt sp_V_leastToLookAt 1 n
noncomputable def t_V_leastToLookAt : List mV → mG → Option mRes := mFun (some 5) 1 fun As g => mEv fun n => rn_V_leastToLookAt n 0 (mL0 As 2) [] g
noncomputable def f_V_leastToLookAt : List mV → mG → Option (Int32 × mG) := fun As g => (t_V_leastToLookAt As g).bind mexI
theorem e_V_leastToLookAt {As : List mV} {g g' : mG} {n : Nat} {x : Int32} (hh : (mHd (some 5) As && Nat.beq As.length 1) = true) (h : rn_V_leastToLookAt n 0 (mL0 As 2) [] g = some (some (.inl x), g')) : f_V_leastToLookAt As g = some (x, g') := mE_I hh h
/-! TriggerBase$Instruction.mayGoOnBehind()Z -/
abbrev kc_I_mayGoOnBehind : ByteArray := prog_4_method_6_code
abbrev yn_I_mayGoOnBehind : MethodName := ⟨"TriggerBase$Instruction", "mayGoOnBehind", "()Z"⟩
def tb_I_mayGoOnBehind : List (Nat × mIn) := [(0, .aload_n 0, 1, 1, 0, []), (1, .getstatic 48, 3, 4, 0, []), (4, .if_acmp .eq 21, 3, 7, 25, []), (7, .aload_n 0, 1, 8, 0, []), (8, .getstatic 81, 3, 11, 0, []), (11, .if_acmp .eq 14, 3, 14, 25, []), (14, .aload_n 0, 1, 15, 0, []), (15, .getstatic 84, 3, 18, 0, []), (18, .if_acmp .eq 7, 3, 21, 25, []), (21, .iconst 1, 1, 22, 0, []), (22, .goto 4, 3, 25, 26, []), (25, .iconst 0, 1, 26, 0, []), (26, .ireturn, 1, 27, 0, [])]
theorem tb_I_mayGoOnBehind_ok : mTok kc_I_mayGoOnBehind 1 tb_I_mayGoOnBehind = true := by decide +kernel
noncomputable def ct_I_mayGoOnBehind : List (Nat × Nat × Nat × mFn) := []
def sp_I_mayGoOnBehind : List (Nat × Nat) := []
noncomputable abbrev rn_I_mayGoOnBehind (n : Nat) : mK := px tb_I_mayGoOnBehind shC nmC gl_I pl_I gs_I fe_I smC ct_I_mayGoOnBehind sp_I_mayGoOnBehind 2 n
noncomputable def t_I_mayGoOnBehind : List mV → mG → Option mRes := mFun (some 100) 1 fun As g => mEv fun n => rn_I_mayGoOnBehind n 0 (mL0 As 1) [] g
noncomputable def f_I_mayGoOnBehind : List mV → mG → Option (Int32 × mG) := fun As g => (t_I_mayGoOnBehind As g).bind mexI
theorem e_I_mayGoOnBehind {As : List mV} {g g' : mG} {n : Nat} {x : Int32} (hh : (mHd (some 100) As && Nat.beq As.length 1) = true) (h : rn_I_mayGoOnBehind n 0 (mL0 As 1) [] g = some (some (.inl x), g')) : f_I_mayGoOnBehind As g = some (x, g') := mE_I hh h
/-! TriggerBase$Verifier.ruleOfHeights(LTriggerBase$Library;II)I -/
abbrev kc_V_ruleOfHeights : ByteArray := prog_9_method_11_code
abbrev yn_V_ruleOfHeights : MethodName := ⟨"TriggerBase$Verifier", "ruleOfHeights", "(LTriggerBase$Library;II)I"⟩
def tb_V_ruleOfHeights : List (Nat × mIn) := [(0, .aload_n 1, 1, 1, 0, []), (1, .iload_n 2, 1, 2, 0, []), (2, .iload_n 3, 1, 3, 0, []), (3, .invokevirtual 47, 3, 6, 0, []), (6, .astore 4, 2, 8, 0, []), (8, .aload_n 0, 1, 9, 0, []), (9, .getfield 9, 3, 12, 0, []), (12, .iload_n 3, 1, 13, 0, []), (13, .iaload, 1, 14, 0, []), (14, .istore 5, 2, 16, 0, []), (16, .aload 4, 2, 18, 0, []), (18, .getfield 107, 3, 21, 0, []), (21, .iload 5, 2, 23, 0, []), (23, .if_icmp .le 5, 3, 26, 28, []), (26, .iconst 5, 1, 27, 0, []), (27, .ireturn, 1, 28, 0, []), (28, .iload 5, 2, 30, 0, []), (30, .aload 4, 2, 32, 0, []), (32, .getfield 107, 3, 35, 0, []), (35, .isub, 1, 36, 0, []), (36, .aload 4, 2, 38, 0, []), (38, .getfield 110, 3, 41, 0, []), (41, .iadd, 1, 42, 0, []), (42, .istore 6, 2, 44, 0, []), (44, .iload 6, 2, 46, 0, []), (46, .bipush 12, 2, 48, 0, []), (48, .if_icmp .le 6, 3, 51, 54, []), (51, .bipush 6, 2, 53, 0, []), (53, .ireturn, 1, 54, 0, []), (54, .iconst 0, 1, 55, 0, []), (55, .istore 7, 2, 57, 0, []), (57, .aload 4, 2, 59, 0, []), (59, .invokevirtual 113, 3, 62, 0, []), (62, .ifCond .eq 18, 3, 65, 80, []), (65, .aload_n 0, 1, 66, 0, []), (66, .iload_n 3, 1, 67, 0, []), (67, .aload 4, 2, 69, 0, []), (69, .getfield 58, 3, 72, 0, []), (72, .iadd, 1, 73, 0, []), (73, .iload 6, 2, 75, 0, []), (75, .invokevirtual 96, 3, 78, 0, []), (78, .istore 7, 2, 80, 0, []), (80, .iload 7, 2, 82, 0, []), (82, .ifCond .ne 27, 3, 85, 109, []), (85, .aload 4, 2, 87, 0, []), (87, .invokevirtual 92, 3, 90, 0, []), (90, .ifCond .eq 19, 3, 93, 109, []), (93, .aload_n 0, 1, 94, 0, []), (94, .aload_n 1, 1, 95, 0, []), (95, .iload_n 2, 1, 96, 0, []), (96, .iload_n 3, 1, 97, 0, []), (97, .iconst 1, 1, 98, 0, []), (98, .iadd, 1, 99, 0, []), (99, .invokevirtual 71, 3, 102, 0, []), (102, .iload 6, 2, 104, 0, []), (104, .invokevirtual 96, 3, 107, 0, []), (107, .istore 7, 2, 109, 0, []), (109, .iload 7, 2, 111, 0, []), (111, .ireturn, 1, 112, 0, [])]
theorem tb_V_ruleOfHeights_ok : mTok kc_V_ruleOfHeights 8 tb_V_ruleOfHeights = true := by decide +kernel
noncomputable def ct_V_ruleOfHeights : List (Nat × Nat × Nat × mFn) := [(47, 0, 3, .inr (.inr (100, f_L_instructionAt))), (113, 0, 1, .inr (.inl f_I_mayGoOnBehind)), (96, 0, 3, .inr (.inl f_V_reach)), (92, 0, 1, .inr (.inl f_I_mayJump)), (71, 0, 3, .inr (.inl f_L_word))]
def sp_V_ruleOfHeights : List (Nat × Nat) := []
noncomputable abbrev rn_V_ruleOfHeights (n : Nat) : mK := px tb_V_ruleOfHeights shC nmC gl_V pl_V gs_V fe_V smC ct_V_ruleOfHeights sp_V_ruleOfHeights 1 n
noncomputable def t_V_ruleOfHeights : List mV → mG → Option mRes := mFun (some 5) 4 fun As g => mEv fun n => rn_V_ruleOfHeights n 0 (mL0 As 8) [] g
noncomputable def f_V_ruleOfHeights : List mV → mG → Option (Int32 × mG) := fun As g => (t_V_ruleOfHeights As g).bind mexI
theorem e_V_ruleOfHeights {As : List mV} {g g' : mG} {n : Nat} {x : Int32} (hh : (mHd (some 5) As && Nat.beq As.length 4) = true) (h : rn_V_ruleOfHeights n 0 (mL0 As 8) [] g = some (some (.inl x), g')) : f_V_ruleOfHeights As g = some (x, g') := mE_I hh h
/-! TriggerBase$Verifier.faultOfHeights(LTriggerBase$Library;I)I -/
abbrev kc_V_faultOfHeights : ByteArray := prog_9_method_9_code
abbrev yn_V_faultOfHeights : MethodName := ⟨"TriggerBase$Verifier", "faultOfHeights", "(LTriggerBase$Library;I)I"⟩
def tb_V_faultOfHeights : List (Nat × mIn) := [(0, .aload_n 0, 1, 1, 0, []), (1, .iconst 0, 1, 2, 0, []), (2, .iconst 0, 1, 3, 0, []), (3, .invokevirtual 96, 3, 6, 0, []), (6, .istore_n 3, 1, 7, 0, []), (7, .iconst 0, 1, 8, 0, []), (8, .istore 4, 2, 10, 0, []), (10, .iconst 0, 1, 11, 0, []), (11, .istore 5, 2, 13, 0, []), (13, .iload 5, 2, 15, 0, []), (15, .bipush 60, 2, 17, 0, []), (17, .if_icmp .ge 48, 3, 20, 65, []), (20, .iload_n 3, 1, 21, 0, []), (21, .ifCond .ne 44, 3, 24, 65, []), (24, .aload_n 0, 1, 25, 0, []), (25, .invokevirtual 99, 3, 28, 0, []), (28, .istore 6, 2, 30, 0, []), (30, .iload 6, 2, 32, 0, []), (32, .iconst (-1), 1, 33, 0, []), (33, .if_icmp .ne 5, 3, 36, 38, []), (36, .iconst 0, 1, 37, 0, []), (37, .ireturn, 1, 38, 0, []), (38, .iload 6, 2, 40, 0, []), (40, .istore 4, 2, 42, 0, []), (42, .aload_n 0, 1, 43, 0, []), (43, .getfield 15, 3, 46, 0, []), (46, .iload 4, 2, 48, 0, []), (48, .iconst 1, 1, 49, 0, []), (49, .bastore, 1, 50, 0, []), (50, .aload_n 0, 1, 51, 0, []), (51, .aload_n 1, 1, 52, 0, []), (52, .iload_n 2, 1, 53, 0, []), (53, .iload 4, 2, 55, 0, []), (55, .invokevirtual 103, 3, 58, 0, []), (58, .istore_n 3, 1, 59, 0, []), (59, .iinc 5 1, 3, 62, 0, []), (62, .goto (-49), 3, 65, 13, []), (65, .iload_n 3, 1, 66, 0, []), (66, .ifCond .ne 7, 3, 69, 73, []), (69, .iconst 0, 1, 70, 0, []), (70, .goto 9, 3, 73, 79, []), (73, .iload 4, 2, 75, 0, []), (75, .iload_n 3, 1, 76, 0, []), (76, .invokestatic 55, 3, 79, 0, []), (79, .ireturn, 1, 80, 0, [])]
theorem tb_V_faultOfHeights_ok : mTok kc_V_faultOfHeights 7 tb_V_faultOfHeights = true := by decide +kernel
noncomputable def ct_V_faultOfHeights : List (Nat × Nat × Nat × mFn) := [(96, 0, 3, .inr (.inl f_V_reach)), (99, 0, 1, .inr (.inl f_V_leastToLookAt)), (103, 0, 4, .inr (.inl f_V_ruleOfHeights)), (55, 2, 2, .inr (.inl f_V_fault))]
def sp_V_faultOfHeights : List (Nat × Nat) := []
noncomputable abbrev rn_V_faultOfHeights (n : Nat) : mK := px tb_V_faultOfHeights shC nmC gl_V pl_V gs_V fe_V smC ct_V_faultOfHeights sp_V_faultOfHeights 1 n
noncomputable def t_V_faultOfHeights : List mV → mG → Option mRes := mFun (some 5) 3 fun As g => mEv fun n => rn_V_faultOfHeights n 0 (mL0 As 7) [] g
noncomputable def f_V_faultOfHeights : List mV → mG → Option (Int32 × mG) := fun As g => (t_V_faultOfHeights As g).bind mexI
theorem e_V_faultOfHeights {As : List mV} {g g' : mG} {n : Nat} {x : Int32} (hh : (mHd (some 5) As && Nat.beq As.length 3) = true) (h : rn_V_faultOfHeights n 0 (mL0 As 7) [] g = some (some (.inl x), g')) : f_V_faultOfHeights As g = some (x, g') := mE_I hh h
/-! TriggerBase$Verifier.firstFault(LTriggerBase$Library;I)I -/
abbrev kc_V_firstFault : ByteArray := prog_9_method_2_code
abbrev yn_V_firstFault : MethodName := ⟨"TriggerBase$Verifier", "firstFault", "(LTriggerBase$Library;I)I"⟩
def tb_V_firstFault : List (Nat × mIn) := [(0, .aload_n 0, 1, 1, 0, []), (1, .aload_n 1, 1, 2, 0, []), (2, .iload_n 2, 1, 3, 0, []), (3, .invokevirtual 19, 3, 6, 0, []), (6, .istore_n 3, 1, 7, 0, []), (7, .iload_n 3, 1, 8, 0, []), (8, .ifCond .ne 10, 3, 11, 18, []), (11, .aload_n 0, 1, 12, 0, []), (12, .aload_n 1, 1, 13, 0, []), (13, .iload_n 2, 1, 14, 0, []), (14, .invokevirtual 23, 3, 17, 0, []), (17, .istore_n 3, 1, 18, 0, []), (18, .iload_n 3, 1, 19, 0, []), (19, .ifCond .ne 10, 3, 22, 29, []), (22, .aload_n 0, 1, 23, 0, []), (23, .aload_n 1, 1, 24, 0, []), (24, .iload_n 2, 1, 25, 0, []), (25, .invokevirtual 26, 3, 28, 0, []), (28, .istore_n 3, 1, 29, 0, []), (29, .iload_n 3, 1, 30, 0, []), (30, .ireturn, 1, 31, 0, [])]
theorem tb_V_firstFault_ok : mTok kc_V_firstFault 4 tb_V_firstFault = true := by decide +kernel
noncomputable def ct_V_firstFault : List (Nat × Nat × Nat × mFn) := [(19, 0, 3, .inr (.inl f_V_faultOfWords)), (23, 0, 3, .inr (.inl f_V_faultOfPlaces)), (26, 0, 3, .inr (.inl f_V_faultOfHeights))]
def sp_V_firstFault : List (Nat × Nat) := []
noncomputable abbrev rn_V_firstFault (n : Nat) : mK := px tb_V_firstFault shC nmC gl_V pl_V gs_V fe_V smC ct_V_firstFault sp_V_firstFault 1 n
noncomputable def t_V_firstFault : List mV → mG → Option mRes := mFun (some 5) 3 fun As g => mEv fun n => rn_V_firstFault n 0 (mL0 As 4) [] g
noncomputable def f_V_firstFault : List mV → mG → Option (Int32 × mG) := fun As g => (t_V_firstFault As g).bind mexI
theorem e_V_firstFault {As : List mV} {g g' : mG} {n : Nat} {x : Int32} (hh : (mHd (some 5) As && Nat.beq As.length 3) = true) (h : rn_V_firstFault n 0 (mL0 As 4) [] g = some (some (.inl x), g')) : f_V_firstFault As g = some (x, g') := mE_I hh h
/-! TriggerBase$Library.closeOpen()I -/
abbrev kc_L_closeOpen : ByteArray := prog_5_method_8_code
abbrev yn_L_closeOpen : MethodName := ⟨"TriggerBase$Library", "closeOpen", "()I"⟩
def tb_L_closeOpen : List (Nat × mIn) := [(0, .aload_n 0, 1, 1, 0, []), (1, .getfield 29, 3, 4, 0, []), (4, .ifCond .ne 5, 3, 7, 9, []), (7, .iconst (-1), 1, 8, 0, []), (8, .ireturn, 1, 9, 0, []), (9, .aload_n 0, 1, 10, 0, []), (10, .iconst 0, 1, 11, 0, []), (11, .putfield 29, 3, 14, 0, []), (14, .aload_n 0, 1, 15, 0, []), (15, .getfield 21, 3, 18, 0, []), (18, .aload_n 0, 1, 19, 0, []), (19, .aload_n 0, 1, 20, 0, []), (20, .getfield 25, 3, 23, 0, []), (23, .invokevirtual 51, 3, 26, 0, []), (26, .istore_n 1, 1, 27, 0, []), (27, .iload_n 1, 1, 28, 0, []), (28, .ifCond .ne 13, 3, 31, 41, []), (31, .aload_n 0, 1, 32, 0, []), (32, .dup, 1, 33, 0, []), (33, .getfield 25, 3, 36, 0, []), (36, .iconst 1, 1, 37, 0, []), (37, .iadd, 1, 38, 0, []), (38, .putfield 25, 3, 41, 0, []), (41, .iload_n 1, 1, 42, 0, []), (42, .ireturn, 1, 43, 0, [])]
theorem tb_L_closeOpen_ok : mTok kc_L_closeOpen 2 tb_L_closeOpen = true := by decide +kernel
noncomputable def ct_L_closeOpen : List (Nat × Nat × Nat × mFn) := [(51, 0, 3, .inr (.inl f_V_firstFault))]
def sp_L_closeOpen : List (Nat × Nat) := []
noncomputable abbrev rn_L_closeOpen (n : Nat) : mK := px tb_L_closeOpen shC nmC gl_L pl_L gs_L fe_L smC ct_L_closeOpen sp_L_closeOpen 1 n
noncomputable def t_L_closeOpen : List mV → mG → Option mRes := mFun (some 2) 1 fun As g => mEv fun n => rn_L_closeOpen n 0 (mL0 As 2) [] g
noncomputable def f_L_closeOpen : List mV → mG → Option (Int32 × mG) := fun As g => (t_L_closeOpen As g).bind mexI
theorem e_L_closeOpen {As : List mV} {g g' : mG} {n : Nat} {x : Int32} (hh : (mHd (some 2) As && Nat.beq As.length 1) = true) (h : rn_L_closeOpen n 0 (mL0 As 2) [] g = some (some (.inl x), g')) : f_L_closeOpen As g = some (x, g') := mE_I hh h
/-! TriggerBase.end()I -/
abbrev kc_B_end : ByteArray := prog_1_method_4_code
abbrev yn_B_end : MethodName := ⟨"TriggerBase", "end", "()I"⟩
def tb_B_end : List (Nat × mIn) := [(0, .aload_n 0, 1, 1, 0, []), (1, .getfield 20, 3, 4, 0, []), (4, .invokevirtual 41, 3, 7, 0, []), (7, .ireturn, 1, 8, 0, [])]
theorem tb_B_end_ok : mTok kc_B_end 1 tb_B_end = true := by decide +kernel
noncomputable def ct_B_end : List (Nat × Nat × Nat × mFn) := [(41, 0, 1, .inr (.inl f_L_closeOpen))]
def sp_B_end : List (Nat × Nat) := []
noncomputable abbrev rn_B_end (n : Nat) : mK := px tb_B_end shC nmC gl_B pl_B gs_B fe_B smC ct_B_end sp_B_end 1 n
noncomputable def t_B_end : List mV → mG → Option mRes := mFun (some 0) 1 fun As g => mEv fun n => rn_B_end n 0 (mL0 As 1) [] g
noncomputable def f_B_end : List mV → mG → Option (Int32 × mG) := fun As g => (t_B_end As g).bind mexI
theorem e_B_end {As : List mV} {g g' : mG} {n : Nat} {x : Int32} (hh : (mHd (some 0) As && Nat.beq As.length 1) = true) (h : rn_B_end n 0 (mL0 As 1) [] g = some (some (.inl x), g')) : f_B_end As g = some (x, g') := mE_I hh h
/-! TriggerBase.procedures()I -/
abbrev kc_B_procedures : ByteArray := prog_1_method_5_code
abbrev yn_B_procedures : MethodName := ⟨"TriggerBase", "procedures", "()I"⟩
def tb_B_procedures : List (Nat × mIn) := [(0, .aload_n 0, 1, 1, 0, []), (1, .getfield 20, 3, 4, 0, []), (4, .getfield 44, 3, 7, 0, []), (7, .ireturn, 1, 8, 0, [])]
theorem tb_B_procedures_ok : mTok kc_B_procedures 1 tb_B_procedures = true := by decide +kernel
noncomputable def ct_B_procedures : List (Nat × Nat × Nat × mFn) := []
def sp_B_procedures : List (Nat × Nat) := []
noncomputable abbrev rn_B_procedures (n : Nat) : mK := px tb_B_procedures shC nmC gl_B pl_B gs_B fe_B smC ct_B_procedures sp_B_procedures 1 n
noncomputable def t_B_procedures : List mV → mG → Option mRes := mFun (some 0) 1 fun As g => mEv fun n => rn_B_procedures n 0 (mL0 As 1) [] g
noncomputable def f_B_procedures : List mV → mG → Option (Int32 × mG) := fun As g => (t_B_procedures As g).bind mexI
theorem e_B_procedures {As : List mV} {g g' : mG} {n : Nat} {x : Int32} (hh : (mHd (some 0) As && Nat.beq As.length 1) = true) (h : rn_B_procedures n 0 (mL0 As 1) [] g = some (some (.inl x), g')) : f_B_procedures As g = some (x, g') := mE_I hh h
/-! TriggerBase$Library.has(I)Z -/
abbrev kc_L_has : ByteArray := prog_5_method_2_code
abbrev yn_L_has : MethodName := ⟨"TriggerBase$Library", "has", "(I)Z"⟩
def tb_L_has : List (Nat × mIn) := [(0, .iload_n 1, 1, 1, 0, []), (1, .aload_n 0, 1, 2, 0, []), (2, .getfield 25, 3, 5, 0, []), (5, .invokestatic 33, 3, 8, 0, []), (8, .ireturn, 1, 9, 0, [])]
theorem tb_L_has_ok : mTok kc_L_has 2 tb_L_has = true := by decide +kernel
noncomputable def ct_L_has : List (Nat × Nat × Nat × mFn) := [(33, 2, 2, .inr (.inl f_B_isBelow))]
def sp_L_has : List (Nat × Nat) := []
noncomputable abbrev rn_L_has (n : Nat) : mK := px tb_L_has shC nmC gl_L pl_L gs_L fe_L smC ct_L_has sp_L_has 2 n
noncomputable def t_L_has : List mV → mG → Option mRes := mFun (some 2) 2 fun As g => mEv fun n => rn_L_has n 0 (mL0 As 2) [] g
noncomputable def f_L_has : List mV → mG → Option (Int32 × mG) := fun As g => (t_L_has As g).bind mexI
theorem e_L_has {As : List mV} {g g' : mG} {n : Nat} {x : Int32} (hh : (mHd (some 2) As && Nat.beq As.length 2) = true) (h : rn_L_has n 0 (mL0 As 2) [] g = some (some (.inl x), g')) : f_L_has As g = some (x, g') := mE_I hh h
/-! TriggerBase$Triggers.put(III)V -/
abbrev kc_G_put : ByteArray := prog_8_method_2_code
abbrev yn_G_put : MethodName := ⟨"TriggerBase$Triggers", "put", "(III)V"⟩
def tb_G_put : List (Nat × mIn) := [(0, .iload_n 1, 1, 1, 0, []), (1, .iconst 4, 1, 2, 0, []), (2, .invokestatic 21, 3, 5, 0, []), (5, .ifCond .eq 22, 3, 8, 27, []), (8, .iload_n 2, 1, 9, 0, []), (9, .iconst 3, 1, 10, 0, []), (10, .invokestatic 21, 3, 13, 0, []), (13, .ifCond .eq 14, 3, 16, 27, []), (16, .aload_n 0, 1, 17, 0, []), (17, .getfield 9, 3, 20, 0, []), (20, .iload_n 1, 1, 21, 0, []), (21, .iconst 3, 1, 22, 0, []), (22, .imul, 1, 23, 0, []), (23, .iload_n 2, 1, 24, 0, []), (24, .iadd, 1, 25, 0, []), (25, .iload_n 3, 1, 26, 0, []), (26, .iastore, 1, 27, 0, []), (27, .return_, 1, 28, 0, [])]
theorem tb_G_put_ok : mTok kc_G_put 4 tb_G_put = true := by decide +kernel
noncomputable def ct_G_put : List (Nat × Nat × Nat × mFn) := [(21, 2, 2, .inr (.inl f_B_isBelow))]
def sp_G_put : List (Nat × Nat) := []
noncomputable abbrev rn_G_put (n : Nat) : mK := px tb_G_put shC nmC gl_G pl_G gs_G fe_G smC ct_G_put sp_G_put 0 n
noncomputable def t_G_put : List mV → mG → Option mRes := mFun (some 4) 4 fun As g => mEv fun n => rn_G_put n 0 (mL0 As 4) [] g
noncomputable def f_G_put : List mV → mG → Option mG := fun As g => (t_G_put As g).bind mexV
theorem e_G_put {As : List mV} {g g' : mG} {n : Nat} (hh : (mHd (some 4) As && Nat.beq As.length 4) = true) (h : rn_G_put n 0 (mL0 As 4) [] g = some (none, g')) : f_G_put As g = some g' := mE_V hh h
/-! TriggerBase.bind(III)I -/
abbrev kc_B_bind : ByteArray := prog_1_method_6_code
abbrev yn_B_bind : MethodName := ⟨"TriggerBase", "bind", "(III)I"⟩
def tb_B_bind : List (Nat × mIn) := [(0, .iload_n 1, 1, 1, 0, []), (1, .iconst 4, 1, 2, 0, []), (2, .invokestatic 48, 3, 5, 0, []), (5, .ifCond .ne 5, 3, 8, 10, []), (8, .iconst 1, 1, 9, 0, []), (9, .ireturn, 1, 10, 0, []), (10, .iload_n 2, 1, 11, 0, []), (11, .iconst 3, 1, 12, 0, []), (12, .invokestatic 48, 3, 15, 0, []), (15, .ifCond .ne 5, 3, 18, 20, []), (18, .iconst 2, 1, 19, 0, []), (19, .ireturn, 1, 20, 0, []), (20, .aload_n 0, 1, 21, 0, []), (21, .getfield 20, 3, 24, 0, []), (24, .iload_n 3, 1, 25, 0, []), (25, .invokevirtual 52, 3, 28, 0, []), (28, .ifCond .ne 5, 3, 31, 33, []), (31, .iconst 3, 1, 32, 0, []), (32, .ireturn, 1, 33, 0, []), (33, .aload_n 0, 1, 34, 0, []), (34, .getfield 30, 3, 37, 0, []), (37, .iload_n 1, 1, 38, 0, []), (38, .iload_n 2, 1, 39, 0, []), (39, .iload_n 3, 1, 40, 0, []), (40, .invokevirtual 55, 3, 43, 0, []), (43, .iconst 0, 1, 44, 0, []), (44, .ireturn, 1, 45, 0, [])]
theorem tb_B_bind_ok : mTok kc_B_bind 4 tb_B_bind = true := by decide +kernel
noncomputable def ct_B_bind : List (Nat × Nat × Nat × mFn) := [(48, 2, 2, .inr (.inl f_B_isBelow)), (52, 0, 2, .inr (.inl f_L_has)), (55, 0, 4, .inl f_G_put)]
def sp_B_bind : List (Nat × Nat) := []
noncomputable abbrev rn_B_bind (n : Nat) : mK := px tb_B_bind shC nmC gl_B pl_B gs_B fe_B smC ct_B_bind sp_B_bind 1 n
noncomputable def t_B_bind : List mV → mG → Option mRes := mFun (some 0) 4 fun As g => mEv fun n => rn_B_bind n 0 (mL0 As 4) [] g
noncomputable def f_B_bind : List mV → mG → Option (Int32 × mG) := fun As g => (t_B_bind As g).bind mexI
theorem e_B_bind {As : List mV} {g g' : mG} {n : Nat} {x : Int32} (hh : (mHd (some 0) As && Nat.beq As.length 4) = true) (h : rn_B_bind n 0 (mL0 As 4) [] g = some (some (.inl x), g')) : f_B_bind As g = some (x, g') := mE_I hh h
/-! TriggerBase$Triggers.find(II)I -/
abbrev kc_G_find : ByteArray := prog_8_method_3_code
abbrev yn_G_find : MethodName := ⟨"TriggerBase$Triggers", "find", "(II)I"⟩
def tb_G_find : List (Nat × mIn) := [(0, .iload_n 1, 1, 1, 0, []), (1, .iconst 4, 1, 2, 0, []), (2, .invokestatic 21, 3, 5, 0, []), (5, .ifCond .eq 15, 3, 8, 20, []), (8, .iload_n 2, 1, 9, 0, []), (9, .iconst 3, 1, 10, 0, []), (10, .invokestatic 21, 3, 13, 0, []), (13, .ifCond .eq 7, 3, 16, 20, []), (16, .iconst 1, 1, 17, 0, []), (17, .goto 4, 3, 20, 21, []), (20, .iconst 0, 1, 21, 0, []), (21, .istore_n 3, 1, 22, 0, []), (22, .iload_n 3, 1, 23, 0, []), (23, .ifCond .eq 16, 3, 26, 39, []), (26, .aload_n 0, 1, 27, 0, []), (27, .getfield 9, 3, 30, 0, []), (30, .iload_n 1, 1, 31, 0, []), (31, .iconst 3, 1, 32, 0, []), (32, .imul, 1, 33, 0, []), (33, .iload_n 2, 1, 34, 0, []), (34, .iadd, 1, 35, 0, []), (35, .iaload, 1, 36, 0, []), (36, .goto 4, 3, 39, 40, []), (39, .iconst (-1), 1, 40, 0, []), (40, .ireturn, 1, 41, 0, [])]
theorem tb_G_find_ok : mTok kc_G_find 4 tb_G_find = true := by decide +kernel
noncomputable def ct_G_find : List (Nat × Nat × Nat × mFn) := [(21, 2, 2, .inr (.inl f_B_isBelow))]
def sp_G_find : List (Nat × Nat) := []
noncomputable abbrev rn_G_find (n : Nat) : mK := px tb_G_find shC nmC gl_G pl_G gs_G fe_G smC ct_G_find sp_G_find 1 n
noncomputable def t_G_find : List mV → mG → Option mRes := mFun (some 4) 3 fun As g => mEv fun n => rn_G_find n 0 (mL0 As 4) [] g
noncomputable def f_G_find : List mV → mG → Option (Int32 × mG) := fun As g => (t_G_find As g).bind mexI
theorem e_G_find {As : List mV} {g g' : mG} {n : Nat} {x : Int32} (hh : (mHd (some 4) As && Nat.beq As.length 3) = true) (h : rn_G_find n 0 (mL0 As 4) [] g = some (some (.inl x), g')) : f_G_find As g = some (x, g') := mE_I hh h
/-! TriggerBase.unbind(II)Z -/
abbrev kc_B_unbind : ByteArray := prog_1_method_7_code
abbrev yn_B_unbind : MethodName := ⟨"TriggerBase", "unbind", "(II)Z"⟩
def tb_B_unbind : List (Nat × mIn) := [(0, .aload_n 0, 1, 1, 0, []), (1, .getfield 30, 3, 4, 0, []), (4, .iload_n 1, 1, 5, 0, []), (5, .iload_n 2, 1, 6, 0, []), (6, .invokevirtual 61, 3, 9, 0, []), (9, .iconst (-1), 1, 10, 0, []), (10, .if_icmp .eq 7, 3, 13, 17, []), (13, .iconst 1, 1, 14, 0, []), (14, .goto 4, 3, 17, 18, []), (17, .iconst 0, 1, 18, 0, []), (18, .istore_n 3, 1, 19, 0, []), (19, .aload_n 0, 1, 20, 0, []), (20, .getfield 30, 3, 23, 0, []), (23, .iload_n 1, 1, 24, 0, []), (24, .iload_n 2, 1, 25, 0, []), (25, .iconst (-1), 1, 26, 0, []), (26, .invokevirtual 55, 3, 29, 0, []), (29, .iload_n 3, 1, 30, 0, []), (30, .ireturn, 1, 31, 0, [])]
theorem tb_B_unbind_ok : mTok kc_B_unbind 4 tb_B_unbind = true := by decide +kernel
noncomputable def ct_B_unbind : List (Nat × Nat × Nat × mFn) := [(61, 0, 3, .inr (.inl f_G_find)), (55, 0, 4, .inl f_G_put)]
def sp_B_unbind : List (Nat × Nat) := []
noncomputable abbrev rn_B_unbind (n : Nat) : mK := px tb_B_unbind shC nmC gl_B pl_B gs_B fe_B smC ct_B_unbind sp_B_unbind 2 n
noncomputable def t_B_unbind : List mV → mG → Option mRes := mFun (some 0) 3 fun As g => mEv fun n => rn_B_unbind n 0 (mL0 As 4) [] g
noncomputable def f_B_unbind : List mV → mG → Option (Int32 × mG) := fun As g => (t_B_unbind As g).bind mexI
theorem e_B_unbind {As : List mV} {g g' : mG} {n : Nat} {x : Int32} (hh : (mHd (some 0) As && Nat.beq As.length 3) = true) (h : rn_B_unbind n 0 (mL0 As 4) [] g = some (some (.inl x), g')) : f_B_unbind As g = some (x, g') := mE_I hh h
/-! TriggerBase$Tables.keep()V -/
abbrev kc_T_keep : ByteArray := prog_7_method_11_code
abbrev yn_T_keep : MethodName := ⟨"TriggerBase$Tables", "keep", "()V"⟩
def tb_T_keep : List (Nat × mIn) := [(0, .aload_n 0, 1, 1, 0, []), (1, .getfield 9, 3, 4, 0, []), (4, .iconst 0, 1, 5, 0, []), (5, .aload_n 0, 1, 6, 0, []), (6, .getfield 18, 3, 9, 0, []), (9, .iconst 0, 1, 10, 0, []), (10, .aload_n 0, 1, 11, 0, []), (11, .getfield 9, 3, 14, 0, []), (14, .arraylength, 1, 15, 0, []), (15, .invokestatic 35, 3, 18, 0, []), (18, .aload_n 0, 1, 19, 0, []), (19, .getfield 15, 3, 22, 0, []), (22, .iconst 0, 1, 23, 0, []), (23, .aload_n 0, 1, 24, 0, []), (24, .getfield 21, 3, 27, 0, []), (27, .iconst 0, 1, 28, 0, []), (28, .aload_n 0, 1, 29, 0, []), (29, .getfield 15, 3, 32, 0, []), (32, .arraylength, 1, 33, 0, []), (33, .invokestatic 35, 3, 36, 0, []), (36, .return_, 1, 37, 0, [])]
theorem tb_T_keep_ok : mTok kc_T_keep 1 tb_T_keep = true := by decide +kernel
noncomputable def ct_T_keep : List (Nat × Nat × Nat × mFn) := []
def sp_T_keep : List (Nat × Nat) := [(35, 0)]
noncomputable abbrev rn_T_keep (n : Nat) : mK := px tb_T_keep shC nmC gl_T pl_T gs_T fe_T smC ct_T_keep sp_T_keep 0 n
noncomputable def t_T_keep : List mV → mG → Option mRes := mFun (some 3) 1 fun As g => mEv fun n => rn_T_keep n 0 (mL0 As 1) [] g
noncomputable def f_T_keep : List mV → mG → Option mG := fun As g => (t_T_keep As g).bind mexV
theorem e_T_keep {As : List mV} {g g' : mG} {n : Nat} (hh : (mHd (some 3) As && Nat.beq As.length 1) = true) (h : rn_T_keep n 0 (mL0 As 1) [] g = some (none, g')) : f_T_keep As g = some g' := mE_V hh h
/-! TriggerBase$Frame.start(II)V -/
abbrev kc_F_start : ByteArray := prog_3_method_2_code
abbrev yn_F_start : MethodName := ⟨"TriggerBase$Frame", "start", "(II)V"⟩
def tb_F_start : List (Nat × mIn) := [(0, .aload_n 0, 1, 1, 0, []), (1, .iconst 0, 1, 2, 0, []), (2, .putfield 15, 3, 5, 0, []), (5, .aload_n 0, 1, 6, 0, []), (6, .iload_n 1, 1, 7, 0, []), (7, .putfield 28, 3, 10, 0, []), (10, .aload_n 0, 1, 11, 0, []), (11, .iconst 0, 1, 12, 0, []), (12, .putfield 31, 3, 15, 0, []), (15, .aload_n 0, 1, 16, 0, []), (16, .iconst 0, 1, 17, 0, []), (17, .putfield 34, 3, 20, 0, []), (20, .aload_n 0, 1, 21, 0, []), (21, .getfield 19, 3, 24, 0, []), (24, .iconst 0, 1, 25, 0, []), (25, .invokestatic 41, 3, 28, 0, []), (28, .aload_n 0, 1, 29, 0, []), (29, .getfield 22, 3, 32, 0, []), (32, .iconst 0, 1, 33, 0, []), (33, .invokestatic 41, 3, 36, 0, []), (36, .aload_n 0, 1, 37, 0, []), (37, .getfield 25, 3, 40, 0, []), (40, .iconst 0, 1, 41, 0, []), (41, .invokestatic 41, 3, 44, 0, []), (44, .aload_n 0, 1, 45, 0, []), (45, .getfield 19, 3, 48, 0, []), (48, .iconst 0, 1, 49, 0, []), (49, .iload_n 2, 1, 50, 0, []), (50, .iastore, 1, 51, 0, []), (51, .return_, 1, 52, 0, [])]
theorem tb_F_start_ok : mTok kc_F_start 3 tb_F_start = true := by decide +kernel
noncomputable def ct_F_start : List (Nat × Nat × Nat × mFn) := [(41, 2, 2, .inl f_A_fill)]
def sp_F_start : List (Nat × Nat) := []
noncomputable abbrev rn_F_start (n : Nat) : mK := px tb_F_start shC nmC gl_F pl_F gs_F fe_F smC ct_F_start sp_F_start 0 n
noncomputable def t_F_start : List mV → mG → Option mRes := mFun (some 10) 3 fun As g => mEv fun n => rn_F_start n 0 (mL0 As 3) [] g
noncomputable def f_F_start : List mV → mG → Option mG := fun As g => (t_F_start As g).bind mexV
theorem e_F_start {As : List mV} {g g' : mG} {n : Nat} (hh : (mHd (some 10) As && Nat.beq As.length 3) = true) (h : rn_F_start n 0 (mL0 As 3) [] g = some (none, g')) : f_F_start As g = some g' := mE_V hh h
