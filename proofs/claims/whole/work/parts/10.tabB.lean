/-! TriggerBase$Machine.open(II)I -/
abbrev kc_M_open : ByteArray := prog_6_method_3_code
abbrev yn_M_open : MethodName := ⟨"TriggerBase$Machine", "open", "(II)I"⟩
def tb_M_open : List (Nat × mIn) := [(0, .aload_n 0, 1, 1, 0, []), (1, .getfield 52, 3, 4, 0, []), (4, .bipush 8, 2, 6, 0, []), (6, .if_icmp .lt 5, 3, 9, 11, []), (9, .iconst 4, 1, 10, 0, []), (10, .ireturn, 1, 11, 0, []), (11, .aload_n 0, 1, 12, 0, []), (12, .aload_n 0, 1, 13, 0, []), (13, .getfield 42, 3, 16, 0, []), (16, .aload_n 0, 1, 17, 0, []), (17, .getfield 52, 3, 20, 0, []), (20, .aaload, 1, 21, 0, []), (21, .putfield 56, 3, 24, 0, []), (24, .aload_n 0, 1, 25, 0, []), (25, .dup, 1, 26, 0, []), (26, .getfield 52, 3, 29, 0, []), (29, .iconst 1, 1, 30, 0, []), (30, .iadd, 1, 31, 0, []), (31, .putfield 52, 3, 34, 0, []), (34, .aload_n 0, 1, 35, 0, []), (35, .getfield 56, 3, 38, 0, []), (38, .iload_n 1, 1, 39, 0, []), (39, .iload_n 2, 1, 40, 0, []), (40, .invokevirtual 84, 3, 43, 0, []), (43, .aload_n 0, 1, 44, 0, []), (44, .getfield 32, 3, 47, 0, []), (47, .iconst 1, 1, 48, 0, []), (48, .aload_n 0, 1, 49, 0, []), (49, .getfield 32, 3, 52, 0, []), (52, .iconst 1, 1, 53, 0, []), (53, .iaload, 1, 54, 0, []), (54, .aload_n 0, 1, 55, 0, []), (55, .getfield 52, 3, 58, 0, []), (58, .invokestatic 88, 3, 61, 0, []), (61, .iastore, 1, 62, 0, []), (62, .iconst (-1), 1, 63, 0, []), (63, .ireturn, 1, 64, 0, [])]
theorem tb_M_open_ok : mTok kc_M_open 3 tb_M_open = true := by decide +kernel
noncomputable def ct_M_open : List (Nat × Nat × Nat × mFn) := [(84, 0, 3, .inl f_F_start)]
def sp_M_open : List (Nat × Nat) := [(88, 1)]
noncomputable abbrev rn_M_open (n : Nat) : mK := px tb_M_open shC nmC gl_M pl_M gs_M fe_M smC ct_M_open sp_M_open 1 n
noncomputable def t_M_open : List mV → mG → Option mRes := mFun (some 1) 3 fun As g => mEv fun n => rn_M_open n 0 (mL0 As 3) [] g
noncomputable def f_M_open : List mV → mG → Option (Int32 × mG) := fun As g => (t_M_open As g).bind mexI
theorem e_M_open {As : List mV} {g g' : mG} {n : Nat} {x : Int32} (hh : (mHd (some 1) As && Nat.beq As.length 3) = true) (h : rn_M_open n 0 (mL0 As 3) [] g = some (some (.inl x), g')) : f_M_open As g = some (x, g') := mE_I hh h
/-! java/lang/Enum.ordinal()I -/
abbrev kc_E_ordinal : ByteArray := prog_12_method_2_code
abbrev yn_E_ordinal : MethodName := ⟨"java/lang/Enum", "ordinal", "()I"⟩
def tb_E_ordinal : List (Nat × mIn) := [(0, .aload_n 0, 1, 1, 0, []), (1, .getfield 7, 3, 4, 0, []), (4, .ireturn, 1, 5, 0, [])]
theorem tb_E_ordinal_ok : mTok kc_E_ordinal 1 tb_E_ordinal = true := by decide +kernel
noncomputable def ct_E_ordinal : List (Nat × Nat × Nat × mFn) := []
def sp_E_ordinal : List (Nat × Nat) := []
noncomputable abbrev rn_E_ordinal (n : Nat) : mK := px tb_E_ordinal shC nmC gl_E pl_E gs_E fe_E smC ct_E_ordinal sp_E_ordinal 1 n
noncomputable def t_E_ordinal : List mV → mG → Option mRes := mFun (some 100) 1 fun As g => mEv fun n => rn_E_ordinal n 0 (mL0 As 1) [] g
noncomputable def f_E_ordinal : List mV → mG → Option (Int32 × mG) := fun As g => (t_E_ordinal As g).bind mexI
theorem e_E_ordinal {As : List mV} {g g' : mG} {n : Nat} {x : Int32} (hh : (mHd (some 100) As && Nat.beq As.length 1) = true) (h : rn_E_ordinal n 0 (mL0 As 1) [] g = some (some (.inl x), g')) : f_E_ordinal As g = some (x, g') := mE_I hh h
/-! TriggerBase$Frame.pop()I -/
abbrev kc_F_pop : ByteArray := prog_3_method_5_code
abbrev yn_F_pop : MethodName := ⟨"TriggerBase$Frame", "pop", "()I"⟩
def tb_F_pop : List (Nat × mIn) := [(0, .aload_n 0, 1, 1, 0, []), (1, .getfield 15, 3, 4, 0, []), (4, .ifCond .gt 5, 3, 7, 9, []), (7, .iconst 0, 1, 8, 0, []), (8, .ireturn, 1, 9, 0, []), (9, .aload_n 0, 1, 10, 0, []), (10, .dup, 1, 11, 0, []), (11, .getfield 15, 3, 14, 0, []), (14, .iconst 1, 1, 15, 0, []), (15, .isub, 1, 16, 0, []), (16, .putfield 15, 3, 19, 0, []), (19, .aload_n 0, 1, 20, 0, []), (20, .getfield 9, 3, 23, 0, []), (23, .aload_n 0, 1, 24, 0, []), (24, .getfield 15, 3, 27, 0, []), (27, .iaload, 1, 28, 0, []), (28, .ireturn, 1, 29, 0, [])]
theorem tb_F_pop_ok : mTok kc_F_pop 1 tb_F_pop = true := by decide +kernel
noncomputable def ct_F_pop : List (Nat × Nat × Nat × mFn) := []
def sp_F_pop : List (Nat × Nat) := []
noncomputable abbrev rn_F_pop (n : Nat) : mK := px tb_F_pop shC nmC gl_F pl_F gs_F fe_F smC ct_F_pop sp_F_pop 1 n
noncomputable def t_F_pop : List mV → mG → Option mRes := mFun (some 10) 1 fun As g => mEv fun n => rn_F_pop n 0 (mL0 As 1) [] g
noncomputable def f_F_pop : List mV → mG → Option (Int32 × mG) := fun As g => (t_F_pop As g).bind mexI
theorem e_F_pop {As : List mV} {g g' : mG} {n : Nat} {x : Int32} (hh : (mHd (some 10) As && Nat.beq As.length 1) = true) (h : rn_F_pop n 0 (mL0 As 1) [] g = some (some (.inl x), g')) : f_F_pop As g = some (x, g') := mE_I hh h
/-! TriggerBase$Frame.push(I)V -/
abbrev kc_F_push : ByteArray := prog_3_method_4_code
abbrev yn_F_push : MethodName := ⟨"TriggerBase$Frame", "push", "(I)V"⟩
def tb_F_push : List (Nat × mIn) := [(0, .aload_n 0, 1, 1, 0, []), (1, .getfield 15, 3, 4, 0, []), (4, .bipush 12, 2, 6, 0, []), (6, .if_icmp .ge 23, 3, 9, 29, []), (9, .aload_n 0, 1, 10, 0, []), (10, .getfield 9, 3, 13, 0, []), (13, .aload_n 0, 1, 14, 0, []), (14, .getfield 15, 3, 17, 0, []), (17, .iload_n 1, 1, 18, 0, []), (18, .iastore, 1, 19, 0, []), (19, .aload_n 0, 1, 20, 0, []), (20, .dup, 1, 21, 0, []), (21, .getfield 15, 3, 24, 0, []), (24, .iconst 1, 1, 25, 0, []), (25, .iadd, 1, 26, 0, []), (26, .putfield 15, 3, 29, 0, []), (29, .return_, 1, 30, 0, [])]
theorem tb_F_push_ok : mTok kc_F_push 2 tb_F_push = true := by decide +kernel
noncomputable def ct_F_push : List (Nat × Nat × Nat × mFn) := []
def sp_F_push : List (Nat × Nat) := []
noncomputable abbrev rn_F_push (n : Nat) : mK := px tb_F_push shC nmC gl_F pl_F gs_F fe_F smC ct_F_push sp_F_push 0 n
noncomputable def t_F_push : List mV → mG → Option mRes := mFun (some 10) 2 fun As g => mEv fun n => rn_F_push n 0 (mL0 As 2) [] g
noncomputable def f_F_push : List mV → mG → Option mG := fun As g => (t_F_push As g).bind mexV
theorem e_F_push {As : List mV} {g g' : mG} {n : Nat} (hh : (mHd (some 10) As && Nat.beq As.length 2) = true) (h : rn_F_push n 0 (mL0 As 2) [] g = some (none, g')) : f_F_push As g = some g' := mE_V hh h
/-! TriggerBase$Machine.divide(LTriggerBase$Frame;LTriggerBase$Instruction;)I -/
abbrev kc_M_divide : ByteArray := prog_6_method_7_code
abbrev yn_M_divide : MethodName := ⟨"TriggerBase$Machine", "divide", "(LTriggerBase$Frame;LTriggerBase$Instruction;)I"⟩
def tb_M_divide : List (Nat × mIn) := [(0, .aload_n 0, 1, 1, 0, []), (1, .invokevirtual 123, 3, 4, 0, []), (4, .istore_n 2, 1, 5, 0, []), (5, .aload_n 0, 1, 6, 0, []), (6, .invokevirtual 123, 3, 9, 0, []), (9, .istore_n 3, 1, 10, 0, []), (10, .iload_n 2, 1, 11, 0, []), (11, .ifCond .ne 5, 3, 14, 16, []), (14, .iconst 2, 1, 15, 0, []), (15, .ireturn, 1, 16, 0, []), (16, .aload_n 0, 1, 17, 0, []), (17, .aload_n 1, 1, 18, 0, []), (18, .getstatic 180, 3, 21, 0, []), (21, .if_acmp .ne 9, 3, 24, 30, []), (24, .iload_n 3, 1, 25, 0, []), (25, .iload_n 2, 1, 26, 0, []), (26, .idiv, 1, 27, 0, []), (27, .goto 6, 3, 30, 33, []), (30, .iload_n 3, 1, 31, 0, []), (31, .iload_n 2, 1, 32, 0, []), (32, .irem, 1, 33, 0, []), (33, .invokevirtual 145, 3, 36, 0, []), (36, .iconst (-1), 1, 37, 0, []), (37, .ireturn, 1, 38, 0, [])]
theorem tb_M_divide_ok : mTok kc_M_divide 4 tb_M_divide = true := by decide +kernel
noncomputable def ct_M_divide : List (Nat × Nat × Nat × mFn) := [(123, 0, 1, .inr (.inl f_F_pop)), (145, 0, 2, .inl f_F_push)]
def sp_M_divide : List (Nat × Nat) := []
noncomputable abbrev rn_M_divide (n : Nat) : mK := px tb_M_divide shC nmC gl_M pl_M gs_M fe_M smC ct_M_divide sp_M_divide 1 n
noncomputable def t_M_divide : List mV → mG → Option mRes := mFun none 2 fun As g => mEv fun n => rn_M_divide n 0 (mL0 As 4) [] g
noncomputable def f_M_divide : List mV → mG → Option (Int32 × mG) := fun As g => (t_M_divide As g).bind mexI
theorem e_M_divide {As : List mV} {g g' : mG} {n : Nat} {x : Int32} (hh : (mHd none As && Nat.beq As.length 2) = true) (h : rn_M_divide n 0 (mL0 As 4) [] g = some (some (.inl x), g')) : f_M_divide As g = some (x, g') := mE_I hh h
/-! TriggerBase$Tables.addRow(I)I -/
abbrev kc_T_addRow : ByteArray := prog_7_method_7_code
abbrev yn_T_addRow : MethodName := ⟨"TriggerBase$Tables", "addRow", "(I)I"⟩
def tb_T_addRow : List (Nat × mIn) := [(0, .iload_n 1, 1, 1, 0, []), (1, .iconst 4, 1, 2, 0, []), (2, .invokestatic 24, 3, 5, 0, []), (5, .ifCond .eq 14, 3, 8, 19, []), (8, .aload_n 0, 1, 9, 0, []), (9, .getfield 15, 3, 12, 0, []), (12, .iload_n 1, 1, 13, 0, []), (13, .iaload, 1, 14, 0, []), (14, .bipush 16, 2, 16, 0, []), (16, .if_icmp .lt 5, 3, 19, 21, []), (19, .iconst (-1), 1, 20, 0, []), (20, .ireturn, 1, 21, 0, []), (21, .aload_n 0, 1, 22, 0, []), (22, .getfield 15, 3, 25, 0, []), (25, .iload_n 1, 1, 26, 0, []), (26, .dup2, 1, 27, 0, []), (27, .iaload, 1, 28, 0, []), (28, .iconst 1, 1, 29, 0, []), (29, .iadd, 1, 30, 0, []), (30, .iastore, 1, 31, 0, []), (31, .aload_n 0, 1, 32, 0, []), (32, .getfield 15, 3, 35, 0, []), (35, .iload_n 1, 1, 36, 0, []), (36, .iaload, 1, 37, 0, []), (37, .iconst 1, 1, 38, 0, []), (38, .isub, 1, 39, 0, []), (39, .ireturn, 1, 40, 0, [])]
theorem tb_T_addRow_ok : mTok kc_T_addRow 2 tb_T_addRow = true := by decide +kernel
noncomputable def ct_T_addRow : List (Nat × Nat × Nat × mFn) := [(24, 2, 2, .inr (.inl f_B_isBelow))]
def sp_T_addRow : List (Nat × Nat) := []
noncomputable abbrev rn_T_addRow (n : Nat) : mK := px tb_T_addRow shC nmC gl_T pl_T gs_T fe_T smC ct_T_addRow sp_T_addRow 1 n
noncomputable def t_T_addRow : List mV → mG → Option mRes := mFun (some 3) 2 fun As g => mEv fun n => rn_T_addRow n 0 (mL0 As 2) [] g
noncomputable def f_T_addRow : List mV → mG → Option (Int32 × mG) := fun As g => (t_T_addRow As g).bind mexI
theorem e_T_addRow {As : List mV} {g g' : mG} {n : Nat} {x : Int32} (hh : (mHd (some 3) As && Nat.beq As.length 2) = true) (h : rn_T_addRow n 0 (mL0 As 2) [] g = some (some (.inl x), g')) : f_T_addRow As g = some (x, g') := mE_I hh h
/-! TriggerBase$Tables.has(II)Z -/
abbrev kc_T_has : ByteArray := prog_7_method_4_code
abbrev yn_T_has : MethodName := ⟨"TriggerBase$Tables", "has", "(II)Z"⟩
def tb_T_has : List (Nat × mIn) := [(0, .iload_n 1, 1, 1, 0, []), (1, .iconst 4, 1, 2, 0, []), (2, .invokestatic 24, 3, 5, 0, []), (5, .ifCond .eq 20, 3, 8, 25, []), (8, .iload_n 2, 1, 9, 0, []), (9, .aload_n 0, 1, 10, 0, []), (10, .getfield 15, 3, 13, 0, []), (13, .iload_n 1, 1, 14, 0, []), (14, .iaload, 1, 15, 0, []), (15, .invokestatic 24, 3, 18, 0, []), (18, .ifCond .eq 7, 3, 21, 25, []), (21, .iconst 1, 1, 22, 0, []), (22, .goto 4, 3, 25, 26, []), (25, .iconst 0, 1, 26, 0, []), (26, .ireturn, 1, 27, 0, [])]
theorem tb_T_has_ok : mTok kc_T_has 3 tb_T_has = true := by decide +kernel
noncomputable def ct_T_has : List (Nat × Nat × Nat × mFn) := [(24, 2, 2, .inr (.inl f_B_isBelow))]
def sp_T_has : List (Nat × Nat) := []
noncomputable abbrev rn_T_has (n : Nat) : mK := px tb_T_has shC nmC gl_T pl_T gs_T fe_T smC ct_T_has sp_T_has 2 n
noncomputable def t_T_has : List mV → mG → Option mRes := mFun (some 3) 3 fun As g => mEv fun n => rn_T_has n 0 (mL0 As 3) [] g
noncomputable def f_T_has : List mV → mG → Option (Int32 × mG) := fun As g => (t_T_has As g).bind mexI
theorem e_T_has {As : List mV} {g g' : mG} {n : Nat} {x : Int32} (hh : (mHd (some 3) As && Nat.beq As.length 3) = true) (h : rn_T_has n 0 (mL0 As 3) [] g = some (some (.inl x), g')) : f_T_has As g = some (x, g') := mE_I hh h
/-! TriggerBase$Tables.index(III)I -/
abbrev kc_T_index : ByteArray := prog_7_method_2_code
abbrev yn_T_index : MethodName := ⟨"TriggerBase$Tables", "index", "(III)I"⟩
def tb_T_index : List (Nat × mIn) := [(0, .iload_n 0, 1, 1, 0, []), (1, .bipush 16, 2, 3, 0, []), (3, .imul, 1, 4, 0, []), (4, .iload_n 1, 1, 5, 0, []), (5, .iadd, 1, 6, 0, []), (6, .iconst 3, 1, 7, 0, []), (7, .imul, 1, 8, 0, []), (8, .iload_n 2, 1, 9, 0, []), (9, .iadd, 1, 10, 0, []), (10, .ireturn, 1, 11, 0, [])]
theorem tb_T_index_ok : mTok kc_T_index 3 tb_T_index = true := by decide +kernel
noncomputable def ct_T_index : List (Nat × Nat × Nat × mFn) := []
def sp_T_index : List (Nat × Nat) := []
noncomputable abbrev rn_T_index (n : Nat) : mK := px tb_T_index shC nmC gl_T pl_T gs_T fe_T smC ct_T_index sp_T_index 1 n
noncomputable def t_T_index : List mV → mG → Option mRes := mFun none 3 fun As g => mEv fun n => rn_T_index n 0 (mL0 As 3) [] g
noncomputable def f_T_index : List mV → mG → Option (Int32 × mG) := fun As g => (t_T_index As g).bind mexI
theorem e_T_index {As : List mV} {g g' : mG} {n : Nat} {x : Int32} (hh : (mHd none As && Nat.beq As.length 3) = true) (h : rn_T_index n 0 (mL0 As 3) [] g = some (some (.inl x), g')) : f_T_index As g = some (x, g') := mE_I hh h
/-! TriggerBase$Tables.write(IIII)V -/
abbrev kc_T_write : ByteArray := prog_7_method_6_code
abbrev yn_T_write : MethodName := ⟨"TriggerBase$Tables", "write", "(IIII)V"⟩
def tb_T_write : List (Nat × mIn) := [(0, .aload_n 0, 1, 1, 0, []), (1, .iload_n 1, 1, 2, 0, []), (2, .iload_n 2, 1, 3, 0, []), (3, .invokevirtual 28, 3, 6, 0, []), (6, .ifCond .eq 24, 3, 9, 30, []), (9, .iload_n 3, 1, 10, 0, []), (10, .iconst 3, 1, 11, 0, []), (11, .invokestatic 24, 3, 14, 0, []), (14, .ifCond .eq 16, 3, 17, 30, []), (17, .aload_n 0, 1, 18, 0, []), (18, .getfield 9, 3, 21, 0, []), (21, .iload_n 1, 1, 22, 0, []), (22, .iload_n 2, 1, 23, 0, []), (23, .iload_n 3, 1, 24, 0, []), (24, .invokestatic 31, 3, 27, 0, []), (27, .iload 4, 2, 29, 0, []), (29, .iastore, 1, 30, 0, []), (30, .return_, 1, 31, 0, [])]
theorem tb_T_write_ok : mTok kc_T_write 5 tb_T_write = true := by decide +kernel
noncomputable def ct_T_write : List (Nat × Nat × Nat × mFn) := [(28, 0, 3, .inr (.inl f_T_has)), (24, 2, 2, .inr (.inl f_B_isBelow)), (31, 2, 3, .inr (.inl f_T_index))]
def sp_T_write : List (Nat × Nat) := []
noncomputable abbrev rn_T_write (n : Nat) : mK := px tb_T_write shC nmC gl_T pl_T gs_T fe_T smC ct_T_write sp_T_write 0 n
noncomputable def t_T_write : List mV → mG → Option mRes := mFun (some 3) 5 fun As g => mEv fun n => rn_T_write n 0 (mL0 As 5) [] g
noncomputable def f_T_write : List mV → mG → Option mG := fun As g => (t_T_write As g).bind mexV
theorem e_T_write {As : List mV} {g g' : mG} {n : Nat} (hh : (mHd (some 3) As && Nat.beq As.length 5) = true) (h : rn_T_write n 0 (mL0 As 5) [] g = some (none, g')) : f_T_write As g = some g' := mE_V hh h
/-! TriggerBase$Tables.read(III)I -/
abbrev kc_T_read : ByteArray := prog_7_method_5_code
abbrev yn_T_read : MethodName := ⟨"TriggerBase$Tables", "read", "(III)I"⟩
def tb_T_read : List (Nat × mIn) := [(0, .aload_n 0, 1, 1, 0, []), (1, .iload_n 1, 1, 2, 0, []), (2, .iload_n 2, 1, 3, 0, []), (3, .invokevirtual 28, 3, 6, 0, []), (6, .ifCond .eq 25, 3, 9, 31, []), (9, .iload_n 3, 1, 10, 0, []), (10, .iconst 3, 1, 11, 0, []), (11, .invokestatic 24, 3, 14, 0, []), (14, .ifCond .eq 17, 3, 17, 31, []), (17, .aload_n 0, 1, 18, 0, []), (18, .getfield 9, 3, 21, 0, []), (21, .iload_n 1, 1, 22, 0, []), (22, .iload_n 2, 1, 23, 0, []), (23, .iload_n 3, 1, 24, 0, []), (24, .invokestatic 31, 3, 27, 0, []), (27, .iaload, 1, 28, 0, []), (28, .goto 4, 3, 31, 32, []), (31, .iconst 0, 1, 32, 0, []), (32, .ireturn, 1, 33, 0, [])]
theorem tb_T_read_ok : mTok kc_T_read 4 tb_T_read = true := by decide +kernel
noncomputable def ct_T_read : List (Nat × Nat × Nat × mFn) := [(28, 0, 3, .inr (.inl f_T_has)), (24, 2, 2, .inr (.inl f_B_isBelow)), (31, 2, 3, .inr (.inl f_T_index))]
def sp_T_read : List (Nat × Nat) := []
noncomputable abbrev rn_T_read (n : Nat) : mK := px tb_T_read shC nmC gl_T pl_T gs_T fe_T smC ct_T_read sp_T_read 1 n
noncomputable def t_T_read : List mV → mG → Option mRes := mFun (some 3) 4 fun As g => mEv fun n => rn_T_read n 0 (mL0 As 4) [] g
noncomputable def f_T_read : List mV → mG → Option (Int32 × mG) := fun As g => (t_T_read As g).bind mexI
theorem e_T_read {As : List mV} {g g' : mG} {n : Nat} {x : Int32} (hh : (mHd (some 3) As && Nat.beq As.length 4) = true) (h : rn_T_read n 0 (mL0 As 4) [] g = some (some (.inl x), g')) : f_T_read As g = some (x, g') := mE_I hh h
/-! TriggerBase$Tables.copyRow(II[I)V -/
abbrev kc_T_copyRow : ByteArray := prog_7_method_10_code
abbrev yn_T_copyRow : MethodName := ⟨"TriggerBase$Tables", "copyRow", "(II[I)V"⟩
def tb_T_copyRow : List (Nat × mIn) := [(0, .iconst 0, 1, 1, 0, []), (1, .istore 4, 2, 3, 0, []), (3, .iload 4, 2, 5, 0, []), (5, .aload_n 3, 1, 6, 0, []), (6, .arraylength, 1, 7, 0, []), (7, .if_icmp .ge 21, 3, 10, 28, []), (10, .aload_n 3, 1, 11, 0, []), (11, .iload 4, 2, 13, 0, []), (13, .aload_n 0, 1, 14, 0, []), (14, .iload_n 1, 1, 15, 0, []), (15, .iload_n 2, 1, 16, 0, []), (16, .iload 4, 2, 18, 0, []), (18, .invokevirtual 47, 3, 21, 0, []), (21, .iastore, 1, 22, 0, []), (22, .iinc 4 1, 3, 25, 0, []), (25, .goto (-22), 3, 28, 3, []), (28, .return_, 1, 29, 0, [])]
theorem tb_T_copyRow_ok : mTok kc_T_copyRow 5 tb_T_copyRow = true := by decide +kernel
noncomputable def ct_T_copyRow : List (Nat × Nat × Nat × mFn) := [(47, 0, 4, .inr (.inl f_T_read))]
def sp_T_copyRow : List (Nat × Nat) := []
noncomputable abbrev rn_T_copyRow (n : Nat) : mK := px tb_T_copyRow shC nmC gl_T pl_T gs_T fe_T smC ct_T_copyRow sp_T_copyRow 0 n
noncomputable def t_T_copyRow : List mV → mG → Option mRes := mFun (some 3) 4 fun As g => mEv fun n => rn_T_copyRow n 0 (mL0 As 5) [] g
noncomputable def f_T_copyRow : List mV → mG → Option mG := fun As g => (t_T_copyRow As g).bind mexV
theorem e_T_copyRow {As : List mV} {g g' : mG} {n : Nat} (hh : (mHd (some 3) As && Nat.beq As.length 4) = true) (h : rn_T_copyRow n 0 (mL0 As 5) [] g = some (none, g')) : f_T_copyRow As g = some g' := mE_V hh h
/-! TriggerBase$Frame.becomeTrigger([I[II)V -/
abbrev kc_F_becomeTrigger : ByteArray := prog_3_method_3_code
abbrev yn_F_becomeTrigger : MethodName := ⟨"TriggerBase$Frame", "becomeTrigger", "([I[II)V"⟩
def tb_F_becomeTrigger : List (Nat × mIn) := [(0, .aload_n 0, 1, 1, 0, []), (1, .iconst 1, 1, 2, 0, []), (2, .putfield 34, 3, 5, 0, []), (5, .aload_n 0, 1, 6, 0, []), (6, .iload_n 3, 1, 7, 0, []), (7, .putfield 38, 3, 10, 0, []), (10, .aload_n 1, 1, 11, 0, []), (11, .iconst 0, 1, 12, 0, []), (12, .aload_n 0, 1, 13, 0, []), (13, .getfield 22, 3, 16, 0, []), (16, .iconst 0, 1, 17, 0, []), (17, .iconst 3, 1, 18, 0, []), (18, .invokestatic 47, 3, 21, 0, []), (21, .aload_n 2, 1, 22, 0, []), (22, .iconst 0, 1, 23, 0, []), (23, .aload_n 0, 1, 24, 0, []), (24, .getfield 25, 3, 27, 0, []), (27, .iconst 0, 1, 28, 0, []), (28, .iconst 3, 1, 29, 0, []), (29, .invokestatic 47, 3, 32, 0, []), (32, .return_, 1, 33, 0, [])]
theorem tb_F_becomeTrigger_ok : mTok kc_F_becomeTrigger 4 tb_F_becomeTrigger = true := by decide +kernel
noncomputable def ct_F_becomeTrigger : List (Nat × Nat × Nat × mFn) := []
def sp_F_becomeTrigger : List (Nat × Nat) := [(47, 0)]
noncomputable abbrev rn_F_becomeTrigger (n : Nat) : mK := px tb_F_becomeTrigger shC nmC gl_F pl_F gs_F fe_F smC ct_F_becomeTrigger sp_F_becomeTrigger 0 n
noncomputable def t_F_becomeTrigger : List mV → mG → Option mRes := mFun (some 10) 4 fun As g => mEv fun n => rn_F_becomeTrigger n 0 (mL0 As 4) [] g
noncomputable def f_F_becomeTrigger : List mV → mG → Option mG := fun As g => (t_F_becomeTrigger As g).bind mexV
theorem e_F_becomeTrigger {As : List mV} {g g' : mG} {n : Nat} (hh : (mHd (some 10) As && Nat.beq As.length 4) = true) (h : rn_F_becomeTrigger n 0 (mL0 As 4) [] g = some (none, g')) : f_F_becomeTrigger As g = some g' := mE_V hh h
/-! TriggerBase$Machine.fire(IIII)I -/
abbrev kc_M_fire : ByteArray := prog_6_method_11_code
abbrev yn_M_fire : MethodName := ⟨"TriggerBase$Machine", "fire", "(IIII)I"⟩
def tb_M_fire : List (Nat × mIn) := [(0, .aload_n 0, 1, 1, 0, []), (1, .getfield 32, 3, 4, 0, []), (4, .iconst 3, 1, 5, 0, []), (5, .dup2, 1, 6, 0, []), (6, .iaload, 1, 7, 0, []), (7, .iconst 1, 1, 8, 0, []), (8, .iadd, 1, 9, 0, []), (9, .iastore, 1, 10, 0, []), (10, .aload_n 0, 1, 11, 0, []), (11, .getfield 28, 3, 14, 0, []), (14, .iload_n 1, 1, 15, 0, []), (15, .iload_n 2, 1, 16, 0, []), (16, .invokevirtual 204, 3, 19, 0, []), (19, .istore 5, 2, 21, 0, []), (21, .iload 5, 2, 23, 0, []), (23, .iconst (-1), 1, 24, 0, []), (24, .if_icmp .ne 14, 3, 27, 38, []), (27, .aload_n 0, 1, 28, 0, []), (28, .getfield 56, 3, 31, 0, []), (31, .iload 4, 2, 33, 0, []), (33, .invokevirtual 145, 3, 36, 0, []), (36, .iconst (-1), 1, 37, 0, []), (37, .ireturn, 1, 38, 0, []), (38, .aload_n 0, 1, 39, 0, []), (39, .iload 5, 2, 41, 0, []), (41, .iload_n 3, 1, 42, 0, []), (42, .invokevirtual 73, 3, 45, 0, []), (45, .istore 6, 2, 47, 0, []), (47, .iload 6, 2, 49, 0, []), (49, .iconst (-1), 1, 50, 0, []), (50, .if_icmp .ne 30, 3, 53, 80, []), (53, .aload_n 0, 1, 54, 0, []), (54, .getfield 32, 3, 57, 0, []), (57, .iconst 2, 1, 58, 0, []), (58, .dup2, 1, 59, 0, []), (59, .iaload, 1, 60, 0, []), (60, .iconst 1, 1, 61, 0, []), (61, .iadd, 1, 62, 0, []), (62, .iastore, 1, 63, 0, []), (63, .aload_n 0, 1, 64, 0, []), (64, .getfield 56, 3, 67, 0, []), (67, .aload_n 0, 1, 68, 0, []), (68, .getfield 46, 3, 71, 0, []), (71, .aload_n 0, 1, 72, 0, []), (72, .getfield 49, 3, 75, 0, []), (75, .iload 4, 2, 77, 0, []), (77, .invokevirtual 206, 3, 80, 0, []), (80, .iload 6, 2, 82, 0, []), (82, .ireturn, 1, 83, 0, [])]
theorem tb_M_fire_ok : mTok kc_M_fire 7 tb_M_fire = true := by decide +kernel
noncomputable def ct_M_fire : List (Nat × Nat × Nat × mFn) := [(204, 0, 3, .inr (.inl f_G_find)), (145, 0, 2, .inl f_F_push), (73, 0, 3, .inr (.inl f_M_open)), (206, 0, 4, .inl f_F_becomeTrigger)]
def sp_M_fire : List (Nat × Nat) := []
noncomputable abbrev rn_M_fire (n : Nat) : mK := px tb_M_fire shC nmC gl_M pl_M gs_M fe_M smC ct_M_fire sp_M_fire 1 n
noncomputable def t_M_fire : List mV → mG → Option mRes := mFun (some 1) 5 fun As g => mEv fun n => rn_M_fire n 0 (mL0 As 7) [] g
noncomputable def f_M_fire : List mV → mG → Option (Int32 × mG) := fun As g => (t_M_fire As g).bind mexI
theorem e_M_fire {As : List mV} {g g' : mG} {n : Nat} {x : Int32} (hh : (mHd (some 1) As && Nat.beq As.length 5) = true) (h : rn_M_fire n 0 (mL0 As 7) [] g = some (some (.inl x), g')) : f_M_fire As g = some (x, g') := mE_I hh h
/-! TriggerBase$Machine.insert(LTriggerBase$Frame;I)I -/
abbrev kc_M_insert : ByteArray := prog_6_method_8_code
abbrev yn_M_insert : MethodName := ⟨"TriggerBase$Machine", "insert", "(LTriggerBase$Frame;I)I"⟩
def tb_M_insert : List (Nat × mIn) := [(0, .aload_n 0, 1, 1, 0, []), (1, .getfield 21, 3, 4, 0, []), (4, .iload_n 2, 1, 5, 0, []), (5, .invokevirtual 184, 3, 8, 0, []), (8, .istore_n 3, 1, 9, 0, []), (9, .iload_n 3, 1, 10, 0, []), (10, .iconst (-1), 1, 11, 0, []), (11, .if_icmp .ne 5, 3, 14, 16, []), (14, .iconst 5, 1, 15, 0, []), (15, .ireturn, 1, 16, 0, []), (16, .iconst 2, 1, 17, 0, []), (17, .istore 4, 2, 19, 0, []), (19, .iload 4, 2, 21, 0, []), (21, .ifCond .lt 24, 3, 24, 45, []), (24, .aload_n 0, 1, 25, 0, []), (25, .getfield 21, 3, 28, 0, []), (28, .iload_n 2, 1, 29, 0, []), (29, .iload_n 3, 1, 30, 0, []), (30, .iload 4, 2, 32, 0, []), (32, .aload_n 1, 1, 33, 0, []), (33, .invokevirtual 123, 3, 36, 0, []), (36, .invokevirtual 187, 3, 39, 0, []), (39, .iinc 4 (-1), 3, 42, 0, []), (42, .goto (-23), 3, 45, 19, []), (45, .aload_n 0, 1, 46, 0, []), (46, .getfield 46, 3, 49, 0, []), (49, .iconst 0, 1, 50, 0, []), (50, .invokestatic 60, 3, 53, 0, []), (53, .aload_n 0, 1, 54, 0, []), (54, .getfield 21, 3, 57, 0, []), (57, .iload_n 2, 1, 58, 0, []), (58, .iload_n 3, 1, 59, 0, []), (59, .aload_n 0, 1, 60, 0, []), (60, .getfield 49, 3, 63, 0, []), (63, .invokevirtual 191, 3, 66, 0, []), (66, .aload_n 0, 1, 67, 0, []), (67, .iload_n 2, 1, 68, 0, []), (68, .iconst 0, 1, 69, 0, []), (69, .iload_n 3, 1, 70, 0, []), (70, .iload_n 3, 1, 71, 0, []), (71, .invokevirtual 195, 3, 74, 0, []), (74, .ireturn, 1, 75, 0, [])]
theorem tb_M_insert_ok : mTok kc_M_insert 5 tb_M_insert = true := by decide +kernel
noncomputable def ct_M_insert : List (Nat × Nat × Nat × mFn) := [(184, 0, 2, .inr (.inl f_T_addRow)), (123, 0, 1, .inr (.inl f_F_pop)), (187, 0, 5, .inl f_T_write), (60, 2, 2, .inl f_A_fill), (191, 0, 4, .inl f_T_copyRow), (195, 0, 5, .inr (.inl f_M_fire))]
def sp_M_insert : List (Nat × Nat) := []
noncomputable abbrev rn_M_insert (n : Nat) : mK := px tb_M_insert shC nmC gl_M pl_M gs_M fe_M smC ct_M_insert sp_M_insert 1 n
noncomputable def t_M_insert : List mV → mG → Option mRes := mFun (some 1) 3 fun As g => mEv fun n => rn_M_insert n 0 (mL0 As 5) [] g
noncomputable def f_M_insert : List mV → mG → Option (Int32 × mG) := fun As g => (t_M_insert As g).bind mexI
theorem e_M_insert {As : List mV} {g g' : mG} {n : Nat} {x : Int32} (hh : (mHd (some 1) As && Nat.beq As.length 3) = true) (h : rn_M_insert n 0 (mL0 As 5) [] g = some (some (.inl x), g')) : f_M_insert As g = some (x, g') := mE_I hh h
/-! TriggerBase$Tables.removeRow(II)V -/
abbrev kc_T_removeRow : ByteArray := prog_7_method_8_code
abbrev yn_T_removeRow : MethodName := ⟨"TriggerBase$Tables", "removeRow", "(II)V"⟩
def tb_T_removeRow : List (Nat × mIn) := [(0, .aload_n 0, 1, 1, 0, []), (1, .iload_n 1, 1, 2, 0, []), (2, .iload_n 2, 1, 3, 0, []), (3, .invokevirtual 28, 3, 6, 0, []), (6, .ifCond .eq 52, 3, 9, 58, []), (9, .aload_n 0, 1, 10, 0, []), (10, .getfield 15, 3, 13, 0, []), (13, .iload_n 1, 1, 14, 0, []), (14, .iaload, 1, 15, 0, []), (15, .iload_n 2, 1, 16, 0, []), (16, .isub, 1, 17, 0, []), (17, .iconst 1, 1, 18, 0, []), (18, .isub, 1, 19, 0, []), (19, .iconst 3, 1, 20, 0, []), (20, .imul, 1, 21, 0, []), (21, .istore_n 3, 1, 22, 0, []), (22, .aload_n 0, 1, 23, 0, []), (23, .getfield 9, 3, 26, 0, []), (26, .iload_n 1, 1, 27, 0, []), (27, .iload_n 2, 1, 28, 0, []), (28, .iconst 1, 1, 29, 0, []), (29, .iadd, 1, 30, 0, []), (30, .iconst 0, 1, 31, 0, []), (31, .invokestatic 31, 3, 34, 0, []), (34, .aload_n 0, 1, 35, 0, []), (35, .getfield 9, 3, 38, 0, []), (38, .iload_n 1, 1, 39, 0, []), (39, .iload_n 2, 1, 40, 0, []), (40, .iconst 0, 1, 41, 0, []), (41, .invokestatic 31, 3, 44, 0, []), (44, .iload_n 3, 1, 45, 0, []), (45, .invokestatic 35, 3, 48, 0, []), (48, .aload_n 0, 1, 49, 0, []), (49, .getfield 15, 3, 52, 0, []), (52, .iload_n 1, 1, 53, 0, []), (53, .dup2, 1, 54, 0, []), (54, .iaload, 1, 55, 0, []), (55, .iconst 1, 1, 56, 0, []), (56, .isub, 1, 57, 0, []), (57, .iastore, 1, 58, 0, []), (58, .return_, 1, 59, 0, [])]
theorem tb_T_removeRow_ok : mTok kc_T_removeRow 4 tb_T_removeRow = true := by decide +kernel
noncomputable def ct_T_removeRow : List (Nat × Nat × Nat × mFn) := [(28, 0, 3, .inr (.inl f_T_has)), (31, 2, 3, .inr (.inl f_T_index))]
def sp_T_removeRow : List (Nat × Nat) := [(35, 0)]
noncomputable abbrev rn_T_removeRow (n : Nat) : mK := px tb_T_removeRow shC nmC gl_T pl_T gs_T fe_T smC ct_T_removeRow sp_T_removeRow 0 n
noncomputable def t_T_removeRow : List mV → mG → Option mRes := mFun (some 3) 3 fun As g => mEv fun n => rn_T_removeRow n 0 (mL0 As 4) [] g
noncomputable def f_T_removeRow : List mV → mG → Option mG := fun As g => (t_T_removeRow As g).bind mexV
theorem e_T_removeRow {As : List mV} {g g' : mG} {n : Nat} (hh : (mHd (some 3) As && Nat.beq As.length 3) = true) (h : rn_T_removeRow n 0 (mL0 As 4) [] g = some (none, g')) : f_T_removeRow As g = some g' := mE_V hh h
/-! TriggerBase$Machine.delete(LTriggerBase$Frame;I)I -/
abbrev kc_M_delete : ByteArray := prog_6_method_9_code
abbrev yn_M_delete : MethodName := ⟨"TriggerBase$Machine", "delete", "(LTriggerBase$Frame;I)I"⟩
def tb_M_delete : List (Nat × mIn) := [(0, .aload_n 1, 1, 1, 0, []), (1, .invokevirtual 123, 3, 4, 0, []), (4, .istore_n 3, 1, 5, 0, []), (5, .aload_n 0, 1, 6, 0, []), (6, .getfield 21, 3, 9, 0, []), (9, .iload_n 2, 1, 10, 0, []), (10, .iload_n 3, 1, 11, 0, []), (11, .invokevirtual 198, 3, 14, 0, []), (14, .ifCond .ne 10, 3, 17, 24, []), (17, .aload_n 1, 1, 18, 0, []), (18, .iconst 0, 1, 19, 0, []), (19, .invokevirtual 145, 3, 22, 0, []), (22, .iconst (-1), 1, 23, 0, []), (23, .ireturn, 1, 24, 0, []), (24, .aload_n 0, 1, 25, 0, []), (25, .getfield 21, 3, 28, 0, []), (28, .iload_n 2, 1, 29, 0, []), (29, .iload_n 3, 1, 30, 0, []), (30, .aload_n 0, 1, 31, 0, []), (31, .getfield 46, 3, 34, 0, []), (34, .invokevirtual 191, 3, 37, 0, []), (37, .aload_n 0, 1, 38, 0, []), (38, .getfield 21, 3, 41, 0, []), (41, .iload_n 2, 1, 42, 0, []), (42, .iload_n 3, 1, 43, 0, []), (43, .invokevirtual 201, 3, 46, 0, []), (46, .aload_n 0, 1, 47, 0, []), (47, .getfield 49, 3, 50, 0, []), (50, .iconst 0, 1, 51, 0, []), (51, .invokestatic 60, 3, 54, 0, []), (54, .aload_n 0, 1, 55, 0, []), (55, .iload_n 2, 1, 56, 0, []), (56, .iconst 1, 1, 57, 0, []), (57, .iload_n 3, 1, 58, 0, []), (58, .iconst 1, 1, 59, 0, []), (59, .invokevirtual 195, 3, 62, 0, []), (62, .ireturn, 1, 63, 0, [])]
theorem tb_M_delete_ok : mTok kc_M_delete 4 tb_M_delete = true := by decide +kernel
noncomputable def ct_M_delete : List (Nat × Nat × Nat × mFn) := [(123, 0, 1, .inr (.inl f_F_pop)), (198, 0, 3, .inr (.inl f_T_has)), (145, 0, 2, .inl f_F_push), (191, 0, 4, .inl f_T_copyRow), (201, 0, 3, .inl f_T_removeRow), (60, 2, 2, .inl f_A_fill), (195, 0, 5, .inr (.inl f_M_fire))]
def sp_M_delete : List (Nat × Nat) := []
noncomputable abbrev rn_M_delete (n : Nat) : mK := px tb_M_delete shC nmC gl_M pl_M gs_M fe_M smC ct_M_delete sp_M_delete 1 n
noncomputable def t_M_delete : List mV → mG → Option mRes := mFun (some 1) 3 fun As g => mEv fun n => rn_M_delete n 0 (mL0 As 4) [] g
noncomputable def f_M_delete : List mV → mG → Option (Int32 × mG) := fun As g => (t_M_delete As g).bind mexI
theorem e_M_delete {As : List mV} {g g' : mG} {n : Nat} {x : Int32} (hh : (mHd (some 1) As && Nat.beq As.length 3) = true) (h : rn_M_delete n 0 (mL0 As 4) [] g = some (some (.inl x), g')) : f_M_delete As g = some (x, g') := mE_I hh h
/-! TriggerBase$Machine.update(LTriggerBase$Frame;II)I -/
abbrev kc_M_update : ByteArray := prog_6_method_10_code
abbrev yn_M_update : MethodName := ⟨"TriggerBase$Machine", "update", "(LTriggerBase$Frame;II)I"⟩
def tb_M_update : List (Nat × mIn) := [(0, .aload_n 1, 1, 1, 0, []), (1, .invokevirtual 123, 3, 4, 0, []), (4, .istore 4, 2, 6, 0, []), (6, .aload_n 1, 1, 7, 0, []), (7, .invokevirtual 123, 3, 10, 0, []), (10, .istore 5, 2, 12, 0, []), (12, .aload_n 0, 1, 13, 0, []), (13, .getfield 21, 3, 16, 0, []), (16, .iload_n 2, 1, 17, 0, []), (17, .iload 5, 2, 19, 0, []), (19, .invokevirtual 198, 3, 22, 0, []), (22, .ifCond .ne 10, 3, 25, 32, []), (25, .aload_n 1, 1, 26, 0, []), (26, .iconst 0, 1, 27, 0, []), (27, .invokevirtual 145, 3, 30, 0, []), (30, .iconst (-1), 1, 31, 0, []), (31, .ireturn, 1, 32, 0, []), (32, .aload_n 0, 1, 33, 0, []), (33, .getfield 21, 3, 36, 0, []), (36, .iload_n 2, 1, 37, 0, []), (37, .iload 5, 2, 39, 0, []), (39, .aload_n 0, 1, 40, 0, []), (40, .getfield 46, 3, 43, 0, []), (43, .invokevirtual 191, 3, 46, 0, []), (46, .aload_n 0, 1, 47, 0, []), (47, .getfield 21, 3, 50, 0, []), (50, .iload_n 2, 1, 51, 0, []), (51, .iload 5, 2, 53, 0, []), (53, .iload_n 3, 1, 54, 0, []), (54, .iload 4, 2, 56, 0, []), (56, .invokevirtual 187, 3, 59, 0, []), (59, .aload_n 0, 1, 60, 0, []), (60, .getfield 21, 3, 63, 0, []), (63, .iload_n 2, 1, 64, 0, []), (64, .iload 5, 2, 66, 0, []), (66, .aload_n 0, 1, 67, 0, []), (67, .getfield 49, 3, 70, 0, []), (70, .invokevirtual 191, 3, 73, 0, []), (73, .aload_n 0, 1, 74, 0, []), (74, .iload_n 2, 1, 75, 0, []), (75, .iconst 2, 1, 76, 0, []), (76, .iload 5, 2, 78, 0, []), (78, .iconst 1, 1, 79, 0, []), (79, .invokevirtual 195, 3, 82, 0, []), (82, .ireturn, 1, 83, 0, [])]
theorem tb_M_update_ok : mTok kc_M_update 6 tb_M_update = true := by decide +kernel
noncomputable def ct_M_update : List (Nat × Nat × Nat × mFn) := [(123, 0, 1, .inr (.inl f_F_pop)), (198, 0, 3, .inr (.inl f_T_has)), (145, 0, 2, .inl f_F_push), (191, 0, 4, .inl f_T_copyRow), (187, 0, 5, .inl f_T_write), (195, 0, 5, .inr (.inl f_M_fire))]
def sp_M_update : List (Nat × Nat) := []
noncomputable abbrev rn_M_update (n : Nat) : mK := px tb_M_update shC nmC gl_M pl_M gs_M fe_M smC ct_M_update sp_M_update 1 n
noncomputable def t_M_update : List mV → mG → Option mRes := mFun (some 1) 4 fun As g => mEv fun n => rn_M_update n 0 (mL0 As 6) [] g
noncomputable def f_M_update : List mV → mG → Option (Int32 × mG) := fun As g => (t_M_update As g).bind mexI
theorem e_M_update {As : List mV} {g g' : mG} {n : Nat} {x : Int32} (hh : (mHd (some 1) As && Nat.beq As.length 4) = true) (h : rn_M_update n 0 (mL0 As 6) [] g = some (some (.inl x), g')) : f_M_update As g = some (x, g') := mE_I hh h
/-! TriggerBase$Machine.giveBack(LTriggerBase$Frame;)I -/
abbrev kc_M_giveBack : ByteArray := prog_6_method_12_code
abbrev yn_M_giveBack : MethodName := ⟨"TriggerBase$Machine", "giveBack", "(LTriggerBase$Frame;)I"⟩
def tb_M_giveBack : List (Nat × mIn) := [(0, .aload_n 1, 1, 1, 0, []), (1, .invokevirtual 123, 3, 4, 0, []), (4, .istore_n 2, 1, 5, 0, []), (5, .aload_n 0, 1, 6, 0, []), (6, .dup, 1, 7, 0, []), (7, .getfield 52, 3, 10, 0, []), (10, .iconst 1, 1, 11, 0, []), (11, .isub, 1, 12, 0, []), (12, .putfield 52, 3, 15, 0, []), (15, .aload_n 0, 1, 16, 0, []), (16, .getfield 52, 3, 19, 0, []), (19, .ifCond .gt 10, 3, 22, 29, []), (22, .aload_n 0, 1, 23, 0, []), (23, .iload_n 2, 1, 24, 0, []), (24, .putfield 36, 3, 27, 0, []), (27, .iconst 0, 1, 28, 0, []), (28, .ireturn, 1, 29, 0, []), (29, .aload_n 0, 1, 30, 0, []), (30, .aload_n 0, 1, 31, 0, []), (31, .getfield 42, 3, 34, 0, []), (34, .aload_n 0, 1, 35, 0, []), (35, .getfield 52, 3, 38, 0, []), (38, .iconst 1, 1, 39, 0, []), (39, .isub, 1, 40, 0, []), (40, .aaload, 1, 41, 0, []), (41, .putfield 56, 3, 44, 0, []), (44, .aload_n 0, 1, 45, 0, []), (45, .getfield 56, 3, 48, 0, []), (48, .aload_n 1, 1, 49, 0, []), (49, .getfield 210, 3, 52, 0, []), (52, .ifCond .eq 10, 3, 55, 62, []), (55, .aload_n 1, 1, 56, 0, []), (56, .getfield 214, 3, 59, 0, []), (59, .goto 4, 3, 62, 63, []), (62, .iload_n 2, 1, 63, 0, []), (63, .invokevirtual 145, 3, 66, 0, []), (66, .iconst (-1), 1, 67, 0, []), (67, .ireturn, 1, 68, 0, [])]
theorem tb_M_giveBack_ok : mTok kc_M_giveBack 3 tb_M_giveBack = true := by decide +kernel
noncomputable def ct_M_giveBack : List (Nat × Nat × Nat × mFn) := [(123, 0, 1, .inr (.inl f_F_pop)), (145, 0, 2, .inl f_F_push)]
def sp_M_giveBack : List (Nat × Nat) := []
noncomputable abbrev rn_M_giveBack (n : Nat) : mK := px tb_M_giveBack shC nmC gl_M pl_M gs_M fe_M smC ct_M_giveBack sp_M_giveBack 1 n
noncomputable def t_M_giveBack : List mV → mG → Option mRes := mFun (some 1) 2 fun As g => mEv fun n => rn_M_giveBack n 0 (mL0 As 3) [] g
noncomputable def f_M_giveBack : List mV → mG → Option (Int32 × mG) := fun As g => (t_M_giveBack As g).bind mexI
theorem e_M_giveBack {As : List mV} {g g' : mG} {n : Nat} {x : Int32} (hh : (mHd (some 1) As && Nat.beq As.length 2) = true) (h : rn_M_giveBack n 0 (mL0 As 3) [] g = some (some (.inl x), g')) : f_M_giveBack As g = some (x, g') := mE_I hh h
/-! TriggerBase$Frame.at([II)I -/
abbrev kc_F_at : ByteArray := prog_3_method_7_code
abbrev yn_F_at : MethodName := ⟨"TriggerBase$Frame", "at", "([II)I"⟩
def tb_F_at : List (Nat × mIn) := [(0, .iload_n 1, 1, 1, 0, []), (1, .aload_n 0, 1, 2, 0, []), (2, .arraylength, 1, 3, 0, []), (3, .invokestatic 53, 3, 6, 0, []), (6, .ifCond .eq 9, 3, 9, 15, []), (9, .aload_n 0, 1, 10, 0, []), (10, .iload_n 1, 1, 11, 0, []), (11, .iaload, 1, 12, 0, []), (12, .goto 4, 3, 15, 16, []), (15, .iconst 0, 1, 16, 0, []), (16, .ireturn, 1, 17, 0, [])]
theorem tb_F_at_ok : mTok kc_F_at 2 tb_F_at = true := by decide +kernel
noncomputable def ct_F_at : List (Nat × Nat × Nat × mFn) := [(53, 2, 2, .inr (.inl f_B_isBelow))]
def sp_F_at : List (Nat × Nat) := []
noncomputable abbrev rn_F_at (n : Nat) : mK := px tb_F_at shC nmC gl_F pl_F gs_F fe_F smC ct_F_at sp_F_at 1 n
noncomputable def t_F_at : List mV → mG → Option mRes := mFun none 2 fun As g => mEv fun n => rn_F_at n 0 (mL0 As 2) [] g
noncomputable def f_F_at : List mV → mG → Option (Int32 × mG) := fun As g => (t_F_at As g).bind mexI
theorem e_F_at {As : List mV} {g g' : mG} {n : Nat} {x : Int32} (hh : (mHd none As && Nat.beq As.length 2) = true) (h : rn_F_at n 0 (mL0 As 2) [] g = some (some (.inl x), g')) : f_F_at As g = some (x, g') := mE_I hh h
/-! TriggerBase$Frame.store(II)V -/
abbrev kc_F_store : ByteArray := prog_3_method_6_code
abbrev yn_F_store : MethodName := ⟨"TriggerBase$Frame", "store", "(II)V"⟩
def tb_F_store : List (Nat × mIn) := [(0, .iload_n 1, 1, 1, 0, []), (1, .bipush 8, 2, 3, 0, []), (3, .invokestatic 53, 3, 6, 0, []), (6, .ifCond .eq 10, 3, 9, 16, []), (9, .aload_n 0, 1, 10, 0, []), (10, .getfield 19, 3, 13, 0, []), (13, .iload_n 1, 1, 14, 0, []), (14, .iload_n 2, 1, 15, 0, []), (15, .iastore, 1, 16, 0, []), (16, .return_, 1, 17, 0, [])]
theorem tb_F_store_ok : mTok kc_F_store 3 tb_F_store = true := by decide +kernel
noncomputable def ct_F_store : List (Nat × Nat × Nat × mFn) := [(53, 2, 2, .inr (.inl f_B_isBelow))]
def sp_F_store : List (Nat × Nat) := []
noncomputable abbrev rn_F_store (n : Nat) : mK := px tb_F_store shC nmC gl_F pl_F gs_F fe_F smC ct_F_store sp_F_store 0 n
noncomputable def t_F_store : List mV → mG → Option mRes := mFun (some 10) 3 fun As g => mEv fun n => rn_F_store n 0 (mL0 As 3) [] g
noncomputable def f_F_store : List mV → mG → Option mG := fun As g => (t_F_store As g).bind mexV
theorem e_F_store {As : List mV} {g g' : mG} {n : Nat} (hh : (mHd (some 10) As && Nat.beq As.length 3) = true) (h : rn_F_store n 0 (mL0 As 3) [] g = some (none, g')) : f_F_store As g = some g' := mE_V hh h
/-! TriggerBase$Tables.size(I)I -/
abbrev kc_T_size : ByteArray := prog_7_method_3_code
abbrev yn_T_size : MethodName := ⟨"TriggerBase$Tables", "size", "(I)I"⟩
def tb_T_size : List (Nat × mIn) := [(0, .iload_n 1, 1, 1, 0, []), (1, .iconst 4, 1, 2, 0, []), (2, .invokestatic 24, 3, 5, 0, []), (5, .ifCond .eq 12, 3, 8, 17, []), (8, .aload_n 0, 1, 9, 0, []), (9, .getfield 15, 3, 12, 0, []), (12, .iload_n 1, 1, 13, 0, []), (13, .iaload, 1, 14, 0, []), (14, .goto 4, 3, 17, 18, []), (17, .iconst (-1), 1, 18, 0, []), (18, .ireturn, 1, 19, 0, [])]
theorem tb_T_size_ok : mTok kc_T_size 2 tb_T_size = true := by decide +kernel
noncomputable def ct_T_size : List (Nat × Nat × Nat × mFn) := [(24, 2, 2, .inr (.inl f_B_isBelow))]
def sp_T_size : List (Nat × Nat) := []
noncomputable abbrev rn_T_size (n : Nat) : mK := px tb_T_size shC nmC gl_T pl_T gs_T fe_T smC ct_T_size sp_T_size 1 n
noncomputable def t_T_size : List mV → mG → Option mRes := mFun (some 3) 2 fun As g => mEv fun n => rn_T_size n 0 (mL0 As 2) [] g
noncomputable def f_T_size : List mV → mG → Option (Int32 × mG) := fun As g => (t_T_size As g).bind mexI
theorem e_T_size {As : List mV} {g g' : mG} {n : Nat} {x : Int32} (hh : (mHd (some 3) As && Nat.beq As.length 2) = true) (h : rn_T_size n 0 (mL0 As 2) [] g = some (some (.inl x), g')) : f_T_size As g = some (x, g') := mE_I hh h
/-! TriggerBase$Tables.find(IIII)I -/
abbrev kc_T_find : ByteArray := prog_7_method_9_code
abbrev yn_T_find : MethodName := ⟨"TriggerBase$Tables", "find", "(IIII)I"⟩
def tb_T_find : List (Nat × mIn) := [(0, .iload_n 1, 1, 1, 0, []), (1, .iconst 4, 1, 2, 0, []), (2, .invokestatic 24, 3, 5, 0, []), (5, .ifCond .eq 11, 3, 8, 16, []), (8, .iload_n 3, 1, 9, 0, []), (9, .iconst 3, 1, 10, 0, []), (10, .invokestatic 24, 3, 13, 0, []), (13, .ifCond .ne 5, 3, 16, 18, []), (16, .iconst (-1), 1, 17, 0, []), (17, .ireturn, 1, 18, 0, []), (18, .iload_n 2, 1, 19, 0, []), (19, .iconst 0, 1, 20, 0, []), (20, .invokestatic 41, 3, 23, 0, []), (23, .istore 5, 2, 25, 0, []), (25, .iload 5, 2, 27, 0, []), (27, .aload_n 0, 1, 28, 0, []), (28, .getfield 15, 3, 31, 0, []), (31, .iload_n 1, 1, 32, 0, []), (32, .iaload, 1, 33, 0, []), (33, .if_icmp .ge 29, 3, 36, 62, []), (36, .aload_n 0, 1, 37, 0, []), (37, .getfield 9, 3, 40, 0, []), (40, .iload_n 1, 1, 41, 0, []), (41, .iload 5, 2, 43, 0, []), (43, .iload_n 3, 1, 44, 0, []), (44, .invokestatic 31, 3, 47, 0, []), (47, .iaload, 1, 48, 0, []), (48, .iload 4, 2, 50, 0, []), (50, .if_icmp .ne 6, 3, 53, 56, []), (53, .iload 5, 2, 55, 0, []), (55, .ireturn, 1, 56, 0, []), (56, .iinc 5 1, 3, 59, 0, []), (59, .goto (-34), 3, 62, 25, []), (62, .iconst (-1), 1, 63, 0, []), (63, .ireturn, 1, 64, 0, [])]
theorem tb_T_find_ok : mTok kc_T_find 6 tb_T_find = true := by decide +kernel
noncomputable def ct_T_find : List (Nat × Nat × Nat × mFn) := [(24, 2, 2, .inr (.inl f_B_isBelow)), (31, 2, 3, .inr (.inl f_T_index))]
def sp_T_find : List (Nat × Nat) := [(41, 1)]
noncomputable abbrev rn_T_find (n : Nat) : mK := px tb_T_find shC nmC gl_T pl_T gs_T fe_T smC ct_T_find sp_T_find 1 n
noncomputable def t_T_find : List mV → mG → Option mRes := mFun (some 3) 5 fun As g => mEv fun n => rn_T_find n 0 (mL0 As 6) [] g
noncomputable def f_T_find : List mV → mG → Option (Int32 × mG) := fun As g => (t_T_find As g).bind mexI
theorem e_T_find {As : List mV} {g g' : mG} {n : Nat} {x : Int32} (hh : (mHd (some 3) As && Nat.beq As.length 5) = true) (h : rn_T_find n 0 (mL0 As 6) [] g = some (some (.inl x), g')) : f_T_find As g = some (x, g') := mE_I hh h
/-! TriggerBase$Machine.computeOfTwo(LTriggerBase$Frame;LTriggerBase$Instruction;II)V -/
abbrev kc_M_computeOfTwo : ByteArray := prog_6_method_6_code
abbrev yn_M_computeOfTwo : MethodName := ⟨"TriggerBase$Machine", "computeOfTwo", "(LTriggerBase$Frame;LTriggerBase$Instruction;II)V"⟩
def tb_M_computeOfTwo : List (Nat × mIn) := [(0, .aload_n 1, 1, 1, 0, []), (1, .invokevirtual 123, 3, 4, 0, []), (4, .istore 5, 2, 6, 0, []), (6, .aload_n 1, 1, 7, 0, []), (7, .invokevirtual 123, 3, 10, 0, []), (10, .istore 6, 2, 12, 0, []), (12, .getstatic 111, 3, 15, 0, []), (15, .aload_n 2, 1, 16, 0, []), (16, .invokevirtual 116, 3, 19, 0, []), (19, .iaload, 1, 20, 0, []), (20, .tableswitch 154 21 27 #[44, 59, 71, 83, 95, 114, 133], 44, 64, 174, [(21, 64), (22, 79), (23, 91), (24, 103), (25, 115), (26, 134), (27, 153)]), (64, .aload_n 1, 1, 65, 0, []), (65, .iload 5, 2, 67, 0, []), (67, .invokevirtual 145, 3, 70, 0, []), (70, .aload_n 1, 1, 71, 0, []), (71, .iload 6, 2, 73, 0, []), (73, .invokevirtual 145, 3, 76, 0, []), (76, .goto 98, 3, 79, 174, []), (79, .aload_n 1, 1, 80, 0, []), (80, .iload 6, 2, 82, 0, []), (82, .iload 5, 2, 84, 0, []), (84, .iadd, 1, 85, 0, []), (85, .invokevirtual 145, 3, 88, 0, []), (88, .goto 86, 3, 91, 174, []), (91, .aload_n 1, 1, 92, 0, []), (92, .iload 6, 2, 94, 0, []), (94, .iload 5, 2, 96, 0, []), (96, .isub, 1, 97, 0, []), (97, .invokevirtual 145, 3, 100, 0, []), (100, .goto 74, 3, 103, 174, []), (103, .aload_n 1, 1, 104, 0, []), (104, .iload 6, 2, 106, 0, []), (106, .iload 5, 2, 108, 0, []), (108, .imul, 1, 109, 0, []), (109, .invokevirtual 145, 3, 112, 0, []), (112, .goto 62, 3, 115, 174, []), (115, .aload_n 1, 1, 116, 0, []), (116, .iload 6, 2, 118, 0, []), (118, .iload 5, 2, 120, 0, []), (120, .if_icmp .ge 7, 3, 123, 127, []), (123, .iconst 1, 1, 124, 0, []), (124, .goto 4, 3, 127, 128, []), (127, .iconst 0, 1, 128, 0, []), (128, .invokevirtual 145, 3, 131, 0, []), (131, .goto 43, 3, 134, 174, []), (134, .aload_n 1, 1, 135, 0, []), (135, .iload 6, 2, 137, 0, []), (137, .iload 5, 2, 139, 0, []), (139, .if_icmp .ne 7, 3, 142, 146, []), (142, .iconst 1, 1, 143, 0, []), (143, .goto 4, 3, 146, 147, []), (146, .iconst 0, 1, 147, 0, []), (147, .invokevirtual 145, 3, 150, 0, []), (150, .goto 24, 3, 153, 174, []), (153, .aload_n 1, 1, 154, 0, []), (154, .aload_n 0, 1, 155, 0, []), (155, .getfield 21, 3, 158, 0, []), (158, .iload_n 3, 1, 159, 0, []), (159, .iload 6, 2, 161, 0, []), (161, .iload 4, 2, 163, 0, []), (163, .iload 5, 2, 165, 0, []), (165, .invokevirtual 176, 3, 168, 0, []), (168, .invokevirtual 145, 3, 171, 0, []), (171, .goto 3, 3, 174, 174, []), (174, .return_, 1, 175, 0, [])]
theorem tb_M_computeOfTwo_ok : mTok kc_M_computeOfTwo 7 tb_M_computeOfTwo = true := by decide +kernel
noncomputable def ct_M_computeOfTwo : List (Nat × Nat × Nat × mFn) := [(123, 0, 1, .inr (.inl f_F_pop)), (116, 0, 1, .inr (.inl f_E_ordinal)), (145, 0, 2, .inl f_F_push), (176, 0, 5, .inr (.inl f_T_find))]
def sp_M_computeOfTwo : List (Nat × Nat) := []
noncomputable abbrev rn_M_computeOfTwo (n : Nat) : mK := px tb_M_computeOfTwo shC nmC gl_M pl_M gs_M fe_M smC ct_M_computeOfTwo sp_M_computeOfTwo 0 n
noncomputable def t_M_computeOfTwo : List mV → mG → Option mRes := mFun (some 1) 5 fun As g => mEv fun n => rn_M_computeOfTwo n 0 (mL0 As 7) [] g
noncomputable def f_M_computeOfTwo : List mV → mG → Option mG := fun As g => (t_M_computeOfTwo As g).bind mexV
theorem e_M_computeOfTwo {As : List mV} {g g' : mG} {n : Nat} (hh : (mHd (some 1) As && Nat.beq As.length 5) = true) (h : rn_M_computeOfTwo n 0 (mL0 As 7) [] g = some (none, g')) : f_M_computeOfTwo As g = some g' := mE_V hh h
/-! TriggerBase$Machine.compute(LTriggerBase$Frame;LTriggerBase$Instruction;II)V -/
abbrev kc_M_compute : ByteArray := prog_6_method_5_code
abbrev yn_M_compute : MethodName := ⟨"TriggerBase$Machine", "compute", "(LTriggerBase$Frame;LTriggerBase$Instruction;II)V"⟩
def tb_M_compute : List (Nat × mIn) := [(0, .getstatic 111, 3, 3, 0, []), (3, .aload_n 2, 1, 4, 0, []), (4, .invokevirtual 116, 3, 7, 0, []), (7, .iaload, 1, 8, 0, []), (8, .tableswitch 205 11 20 #[56, 64, 72, 93, 112, 127, 139, 154, 175, 190], 56, 64, 213, [(11, 64), (12, 72), (13, 80), (14, 101), (15, 120), (16, 135), (17, 147), (18, 162), (19, 183), (20, 198)]), (64, .aload_n 1, 1, 65, 0, []), (65, .iload_n 3, 1, 66, 0, []), (66, .invokevirtual 145, 3, 69, 0, []), (69, .goto 153, 3, 72, 222, []), (72, .aload_n 1, 1, 73, 0, []), (73, .invokevirtual 123, 3, 76, 0, []), (76, .pop, 1, 77, 0, []), (77, .goto 145, 3, 80, 222, []), (80, .aload_n 1, 1, 81, 0, []), (81, .invokevirtual 123, 3, 84, 0, []), (84, .istore 5, 2, 86, 0, []), (86, .aload_n 1, 1, 87, 0, []), (87, .iload 5, 2, 89, 0, []), (89, .invokevirtual 145, 3, 92, 0, []), (92, .aload_n 1, 1, 93, 0, []), (93, .iload 5, 2, 95, 0, []), (95, .invokevirtual 145, 3, 98, 0, []), (98, .goto 124, 3, 101, 222, []), (101, .aload_n 1, 1, 102, 0, []), (102, .aload_n 1, 1, 103, 0, []), (103, .invokevirtual 123, 3, 106, 0, []), (106, .ifCond .ne 7, 3, 109, 113, []), (109, .iconst 1, 1, 110, 0, []), (110, .goto 4, 3, 113, 114, []), (113, .iconst 0, 1, 114, 0, []), (114, .invokevirtual 145, 3, 117, 0, []), (117, .goto 105, 3, 120, 222, []), (120, .aload_n 1, 1, 121, 0, []), (121, .aload_n 1, 1, 122, 0, []), (122, .getfield 149, 3, 125, 0, []), (125, .iload_n 3, 1, 126, 0, []), (126, .invokestatic 152, 3, 129, 0, []), (129, .invokevirtual 145, 3, 132, 0, []), (132, .goto 90, 3, 135, 222, []), (135, .aload_n 1, 1, 136, 0, []), (136, .iload_n 3, 1, 137, 0, []), (137, .aload_n 1, 1, 138, 0, []), (138, .invokevirtual 123, 3, 141, 0, []), (141, .invokevirtual 156, 3, 144, 0, []), (144, .goto 78, 3, 147, 222, []), (147, .aload_n 1, 1, 148, 0, []), (148, .aload_n 0, 1, 149, 0, []), (149, .getfield 21, 3, 152, 0, []), (152, .iload_n 3, 1, 153, 0, []), (153, .invokevirtual 159, 3, 156, 0, []), (156, .invokevirtual 145, 3, 159, 0, []), (159, .goto 63, 3, 162, 222, []), (162, .aload_n 1, 1, 163, 0, []), (163, .aload_n 0, 1, 164, 0, []), (164, .getfield 21, 3, 167, 0, []), (167, .iload_n 3, 1, 168, 0, []), (168, .aload_n 1, 1, 169, 0, []), (169, .invokevirtual 123, 3, 172, 0, []), (172, .iload 4, 2, 174, 0, []), (174, .invokevirtual 163, 3, 177, 0, []), (177, .invokevirtual 145, 3, 180, 0, []), (180, .goto 42, 3, 183, 222, []), (183, .aload_n 1, 1, 184, 0, []), (184, .aload_n 1, 1, 185, 0, []), (185, .getfield 167, 3, 188, 0, []), (188, .iload_n 3, 1, 189, 0, []), (189, .invokestatic 152, 3, 192, 0, []), (192, .invokevirtual 145, 3, 195, 0, []), (195, .goto 27, 3, 198, 222, []), (198, .aload_n 1, 1, 199, 0, []), (199, .aload_n 1, 1, 200, 0, []), (200, .getfield 170, 3, 203, 0, []), (203, .iload_n 3, 1, 204, 0, []), (204, .invokestatic 152, 3, 207, 0, []), (207, .invokevirtual 145, 3, 210, 0, []), (210, .goto 12, 3, 213, 222, []), (213, .aload_n 0, 1, 214, 0, []), (214, .aload_n 1, 1, 215, 0, []), (215, .aload_n 2, 1, 216, 0, []), (216, .iload_n 3, 1, 217, 0, []), (217, .iload 4, 2, 219, 0, []), (219, .invokevirtual 173, 3, 222, 0, []), (222, .return_, 1, 223, 0, [])]
theorem tb_M_compute_ok : mTok kc_M_compute 6 tb_M_compute = true := by decide +kernel
noncomputable def ct_M_compute : List (Nat × Nat × Nat × mFn) := [(116, 0, 1, .inr (.inl f_E_ordinal)), (145, 0, 2, .inl f_F_push), (123, 0, 1, .inr (.inl f_F_pop)), (152, 2, 2, .inr (.inl f_F_at)), (156, 0, 3, .inl f_F_store), (159, 0, 2, .inr (.inl f_T_size)), (163, 0, 4, .inr (.inl f_T_read)), (173, 0, 5, .inl f_M_computeOfTwo)]
def sp_M_compute : List (Nat × Nat) := []
noncomputable abbrev rn_M_compute (n : Nat) : mK := px tb_M_compute shC nmC gl_M pl_M gs_M fe_M smC ct_M_compute sp_M_compute 0 n
noncomputable def t_M_compute : List mV → mG → Option mRes := mFun (some 1) 5 fun As g => mEv fun n => rn_M_compute n 0 (mL0 As 6) [] g
noncomputable def f_M_compute : List mV → mG → Option mG := fun As g => (t_M_compute As g).bind mexV
theorem e_M_compute {As : List mV} {g g' : mG} {n : Nat} (hh : (mHd (some 1) As && Nat.beq As.length 5) = true) (h : rn_M_compute n 0 (mL0 As 6) [] g = some (none, g')) : f_M_compute As g = some g' := mE_V hh h
/-! TriggerBase$Machine.step()I -/
abbrev kc_M_step : ByteArray := prog_6_method_4_code
abbrev yn_M_step : MethodName := ⟨"TriggerBase$Machine", "step", "()I"⟩
def tb_M_step : List (Nat × mIn) := [(0, .aload_n 0, 1, 1, 0, []), (1, .getfield 56, 3, 4, 0, []), (4, .astore_n 1, 1, 5, 0, []), (5, .aload_n 0, 1, 6, 0, []), (6, .getfield 12, 3, 9, 0, []), (9, .aload_n 1, 1, 10, 0, []), (10, .getfield 93, 3, 13, 0, []), (13, .aload_n 1, 1, 14, 0, []), (14, .getfield 96, 3, 17, 0, []), (17, .invokevirtual 99, 3, 20, 0, []), (20, .astore_n 2, 1, 21, 0, []), (21, .aload_n 0, 1, 22, 0, []), (22, .getfield 12, 3, 25, 0, []), (25, .aload_n 1, 1, 26, 0, []), (26, .getfield 93, 3, 29, 0, []), (29, .aload_n 1, 1, 30, 0, []), (30, .getfield 96, 3, 33, 0, []), (33, .iconst 1, 1, 34, 0, []), (34, .iadd, 1, 35, 0, []), (35, .invokevirtual 103, 3, 38, 0, []), (38, .istore_n 3, 1, 39, 0, []), (39, .aload_n 0, 1, 40, 0, []), (40, .getfield 12, 3, 43, 0, []), (43, .aload_n 1, 1, 44, 0, []), (44, .getfield 93, 3, 47, 0, []), (47, .aload_n 1, 1, 48, 0, []), (48, .getfield 96, 3, 51, 0, []), (51, .iconst 2, 1, 52, 0, []), (52, .iadd, 1, 53, 0, []), (53, .invokevirtual 103, 3, 56, 0, []), (56, .istore 4, 2, 58, 0, []), (58, .aload_n 1, 1, 59, 0, []), (59, .dup, 1, 60, 0, []), (60, .getfield 96, 3, 63, 0, []), (63, .aload_n 2, 1, 64, 0, []), (64, .getfield 106, 3, 67, 0, []), (67, .iadd, 1, 68, 0, []), (68, .putfield 96, 3, 71, 0, []), (71, .getstatic 111, 3, 74, 0, []), (74, .aload_n 2, 1, 75, 0, []), (75, .invokevirtual 116, 3, 78, 0, []), (78, .iaload, 1, 79, 0, []), (79, .tableswitch 136 1 10 #[53, 53, 59, 66, 87, 94, 101, 110, 120, 130], 53, 132, 215, [(1, 132), (2, 132), (3, 138), (4, 145), (5, 166), (6, 173), (7, 180), (8, 189), (9, 199), (10, 209)]), (132, .aload_n 1, 1, 133, 0, []), (133, .aload_n 2, 1, 134, 0, []), (134, .invokestatic 119, 3, 137, 0, []), (137, .ireturn, 1, 138, 0, []), (138, .aload_n 1, 1, 139, 0, []), (139, .iload_n 3, 1, 140, 0, []), (140, .putfield 96, 3, 143, 0, []), (143, .iconst (-1), 1, 144, 0, []), (144, .ireturn, 1, 145, 0, []), (145, .aload_n 1, 1, 146, 0, []), (146, .aload_n 1, 1, 147, 0, []), (147, .invokevirtual 123, 3, 150, 0, []), (150, .ifCond .ne 7, 3, 153, 157, []), (153, .iload_n 3, 1, 154, 0, []), (154, .goto 7, 3, 157, 161, []), (157, .aload_n 1, 1, 158, 0, []), (158, .getfield 96, 3, 161, 0, []), (161, .putfield 96, 3, 164, 0, []), (164, .iconst (-1), 1, 165, 0, []), (165, .ireturn, 1, 166, 0, []), (166, .aload_n 0, 1, 167, 0, []), (167, .aload_n 1, 1, 168, 0, []), (168, .iload_n 3, 1, 169, 0, []), (169, .invokevirtual 126, 3, 172, 0, []), (172, .ireturn, 1, 173, 0, []), (173, .aload_n 0, 1, 174, 0, []), (174, .aload_n 1, 1, 175, 0, []), (175, .iload_n 3, 1, 176, 0, []), (176, .invokevirtual 130, 3, 179, 0, []), (179, .ireturn, 1, 180, 0, []), (180, .aload_n 0, 1, 181, 0, []), (181, .aload_n 1, 1, 182, 0, []), (182, .iload_n 3, 1, 183, 0, []), (183, .iload 4, 2, 185, 0, []), (185, .invokevirtual 133, 3, 188, 0, []), (188, .ireturn, 1, 189, 0, []), (189, .aload_n 0, 1, 190, 0, []), (190, .iload_n 3, 1, 191, 0, []), (191, .aload_n 1, 1, 192, 0, []), (192, .invokevirtual 123, 3, 195, 0, []), (195, .invokevirtual 73, 3, 198, 0, []), (198, .ireturn, 1, 199, 0, []), (199, .aload_n 0, 1, 200, 0, []), (200, .aload_n 1, 1, 201, 0, []), (201, .invokevirtual 123, 3, 204, 0, []), (204, .putfield 36, 3, 207, 0, []), (207, .iconst 1, 1, 208, 0, []), (208, .ireturn, 1, 209, 0, []), (209, .aload_n 0, 1, 210, 0, []), (210, .aload_n 1, 1, 211, 0, []), (211, .invokevirtual 137, 3, 214, 0, []), (214, .ireturn, 1, 215, 0, []), (215, .aload_n 0, 1, 216, 0, []), (216, .aload_n 1, 1, 217, 0, []), (217, .aload_n 2, 1, 218, 0, []), (218, .iload_n 3, 1, 219, 0, []), (219, .iload 4, 2, 221, 0, []), (221, .invokevirtual 141, 3, 224, 0, []), (224, .iconst (-1), 1, 225, 0, []), (225, .ireturn, 1, 226, 0, [])]
theorem tb_M_step_ok : mTok kc_M_step 5 tb_M_step = true := by decide +kernel
noncomputable def ct_M_step : List (Nat × Nat × Nat × mFn) := [(99, 0, 3, .inr (.inr (100, f_L_instructionAt))), (103, 0, 3, .inr (.inl f_L_word)), (116, 0, 1, .inr (.inl f_E_ordinal)), (119, 2, 2, .inr (.inl f_M_divide)), (123, 0, 1, .inr (.inl f_F_pop)), (126, 0, 3, .inr (.inl f_M_insert)), (130, 0, 3, .inr (.inl f_M_delete)), (133, 0, 4, .inr (.inl f_M_update)), (73, 0, 3, .inr (.inl f_M_open)), (137, 0, 2, .inr (.inl f_M_giveBack)), (141, 0, 5, .inl f_M_compute)]
def sp_M_step : List (Nat × Nat) := []
noncomputable abbrev rn_M_step (n : Nat) : mK := px tb_M_step shC nmC gl_M pl_M gs_M fe_M smC ct_M_step sp_M_step 1 n
noncomputable def t_M_step : List mV → mG → Option mRes := mFun (some 1) 1 fun As g => mEv fun n => rn_M_step n 0 (mL0 As 5) [] g
noncomputable def f_M_step : List mV → mG → Option (Int32 × mG) := fun As g => (t_M_step As g).bind mexI
theorem e_M_step {As : List mV} {g g' : mG} {n : Nat} {x : Int32} (hh : (mHd (some 1) As && Nat.beq As.length 1) = true) (h : rn_M_step n 0 (mL0 As 5) [] g = some (some (.inl x), g')) : f_M_step As g = some (x, g') := mE_I hh h
/-! TriggerBase$Tables.takeBack()V -/
abbrev kc_T_takeBack : ByteArray := prog_7_method_12_code
abbrev yn_T_takeBack : MethodName := ⟨"TriggerBase$Tables", "takeBack", "()V"⟩
def tb_T_takeBack : List (Nat × mIn) := [(0, .aload_n 0, 1, 1, 0, []), (1, .getfield 18, 3, 4, 0, []), (4, .iconst 0, 1, 5, 0, []), (5, .aload_n 0, 1, 6, 0, []), (6, .getfield 9, 3, 9, 0, []), (9, .iconst 0, 1, 10, 0, []), (10, .aload_n 0, 1, 11, 0, []), (11, .getfield 9, 3, 14, 0, []), (14, .arraylength, 1, 15, 0, []), (15, .invokestatic 35, 3, 18, 0, []), (18, .aload_n 0, 1, 19, 0, []), (19, .getfield 21, 3, 22, 0, []), (22, .iconst 0, 1, 23, 0, []), (23, .aload_n 0, 1, 24, 0, []), (24, .getfield 15, 3, 27, 0, []), (27, .iconst 0, 1, 28, 0, []), (28, .aload_n 0, 1, 29, 0, []), (29, .getfield 15, 3, 32, 0, []), (32, .arraylength, 1, 33, 0, []), (33, .invokestatic 35, 3, 36, 0, []), (36, .return_, 1, 37, 0, [])]
theorem tb_T_takeBack_ok : mTok kc_T_takeBack 1 tb_T_takeBack = true := by decide +kernel
noncomputable def ct_T_takeBack : List (Nat × Nat × Nat × mFn) := []
def sp_T_takeBack : List (Nat × Nat) := [(35, 0)]
noncomputable abbrev rn_T_takeBack (n : Nat) : mK := px tb_T_takeBack shC nmC gl_T pl_T gs_T fe_T smC ct_T_takeBack sp_T_takeBack 0 n
noncomputable def t_T_takeBack : List mV → mG → Option mRes := mFun (some 3) 1 fun As g => mEv fun n => rn_T_takeBack n 0 (mL0 As 1) [] g
noncomputable def f_T_takeBack : List mV → mG → Option mG := fun As g => (t_T_takeBack As g).bind mexV
theorem e_T_takeBack {As : List mV} {g g' : mG} {n : Nat} (hh : (mHd (some 3) As && Nat.beq As.length 1) = true) (h : rn_T_takeBack n 0 (mL0 As 1) [] g = some (none, g')) : f_T_takeBack As g = some g' := mE_V hh h
/-! TriggerBase$Machine.perform(III)I -/
abbrev kc_M_perform : ByteArray := prog_6_method_2_code
abbrev yn_M_perform : MethodName := ⟨"TriggerBase$Machine", "perform", "(III)I"⟩
def tb_M_perform : List (Nat × mIn) := [(0, .aload_n 0, 1, 1, 0, []), (1, .iconst 0, 1, 2, 0, []), (2, .putfield 36, 3, 5, 0, []), (5, .aload_n 0, 1, 6, 0, []), (6, .iconst 0, 1, 7, 0, []), (7, .putfield 52, 3, 10, 0, []), (10, .aload_n 0, 1, 11, 0, []), (11, .getfield 32, 3, 14, 0, []), (14, .iconst 0, 1, 15, 0, []), (15, .invokestatic 60, 3, 18, 0, []), (18, .aload_n 0, 1, 19, 0, []), (19, .getfield 12, 3, 22, 0, []), (22, .iload_n 1, 1, 23, 0, []), (23, .invokevirtual 66, 3, 26, 0, []), (26, .ifCond .ne 6, 3, 29, 32, []), (29, .bipush 6, 2, 31, 0, []), (31, .ireturn, 1, 32, 0, []), (32, .aload_n 0, 1, 33, 0, []), (33, .getfield 21, 3, 36, 0, []), (36, .invokevirtual 70, 3, 39, 0, []), (39, .aload_n 0, 1, 40, 0, []), (40, .iload_n 1, 1, 41, 0, []), (41, .iload_n 2, 1, 42, 0, []), (42, .invokevirtual 73, 3, 45, 0, []), (45, .istore 4, 2, 47, 0, []), (47, .iload_n 3, 1, 48, 0, []), (48, .istore 5, 2, 50, 0, []), (50, .iload 5, 2, 52, 0, []), (52, .ifCond .le 31, 3, 55, 83, []), (55, .iload 4, 2, 57, 0, []), (57, .iconst (-1), 1, 58, 0, []), (58, .if_icmp .ne 25, 3, 61, 83, []), (61, .aload_n 0, 1, 62, 0, []), (62, .getfield 32, 3, 65, 0, []), (65, .iconst 0, 1, 66, 0, []), (66, .dup2, 1, 67, 0, []), (67, .iaload, 1, 68, 0, []), (68, .iconst 1, 1, 69, 0, []), (69, .iadd, 1, 70, 0, []), (70, .iastore, 1, 71, 0, []), (71, .aload_n 0, 1, 72, 0, []), (72, .invokevirtual 77, 3, 75, 0, []), (75, .istore 4, 2, 77, 0, []), (77, .iinc 5 (-1), 3, 80, 0, []), (80, .goto (-30), 3, 83, 50, []), (83, .iload 4, 2, 85, 0, []), (85, .iconst (-1), 1, 86, 0, []), (86, .if_icmp .ne 6, 3, 89, 92, []), (89, .iconst 3, 1, 90, 0, []), (90, .istore 4, 2, 92, 0, []), (92, .iload 4, 2, 94, 0, []), (94, .ifCond .eq 10, 3, 97, 104, []), (97, .aload_n 0, 1, 98, 0, []), (98, .getfield 21, 3, 101, 0, []), (101, .invokevirtual 81, 3, 104, 0, []), (104, .iload 4, 2, 106, 0, []), (106, .ireturn, 1, 107, 0, [])]
theorem tb_M_perform_ok : mTok kc_M_perform 6 tb_M_perform = true := by decide +kernel
noncomputable def ct_M_perform : List (Nat × Nat × Nat × mFn) := [(60, 2, 2, .inl f_A_fill), (66, 0, 2, .inr (.inl f_L_has)), (70, 0, 1, .inl f_T_keep), (73, 0, 3, .inr (.inl f_M_open)), (77, 0, 1, .inr (.inl f_M_step)), (81, 0, 1, .inl f_T_takeBack)]
def sp_M_perform : List (Nat × Nat) := []
noncomputable abbrev rn_M_perform (n : Nat) : mK := px tb_M_perform shC nmC gl_M pl_M gs_M fe_M smC ct_M_perform sp_M_perform 1 n
noncomputable def t_M_perform : List mV → mG → Option mRes := mFun (some 1) 4 fun As g => mEv fun n => rn_M_perform n 0 (mL0 As 6) [] g
noncomputable def f_M_perform : List mV → mG → Option (Int32 × mG) := fun As g => (t_M_perform As g).bind mexI
theorem e_M_perform {As : List mV} {g g' : mG} {n : Nat} {x : Int32} (hh : (mHd (some 1) As && Nat.beq As.length 4) = true) (h : rn_M_perform n 0 (mL0 As 6) [] g = some (some (.inl x), g')) : f_M_perform As g = some (x, g') := mE_I hh h
/-! TriggerBase.call(III)I -/
abbrev kc_B_call : ByteArray := prog_1_method_8_code
abbrev yn_B_call : MethodName := ⟨"TriggerBase", "call", "(III)I"⟩
def tb_B_call : List (Nat × mIn) := [(0, .aload_n 0, 1, 1, 0, []), (1, .getfield 10, 3, 4, 0, []), (4, .iload_n 1, 1, 5, 0, []), (5, .iload_n 2, 1, 6, 0, []), (6, .iconst 0, 1, 7, 0, []), (7, .iload_n 3, 1, 8, 0, []), (8, .sipush 2000, 3, 11, 0, []), (11, .invokestatic 65, 3, 14, 0, []), (14, .invokestatic 70, 3, 17, 0, []), (17, .invokevirtual 73, 3, 20, 0, []), (20, .ireturn, 1, 21, 0, [])]
theorem tb_B_call_ok : mTok kc_B_call 4 tb_B_call = true := by decide +kernel
noncomputable def ct_B_call : List (Nat × Nat × Nat × mFn) := [(73, 0, 4, .inr (.inl f_M_perform))]
def sp_B_call : List (Nat × Nat) := [(65, 2), (70, 1)]
noncomputable abbrev rn_B_call (n : Nat) : mK := px tb_B_call shC nmC gl_B pl_B gs_B fe_B smC ct_B_call sp_B_call 1 n
noncomputable def t_B_call : List mV → mG → Option mRes := mFun (some 0) 4 fun As g => mEv fun n => rn_B_call n 0 (mL0 As 4) [] g
noncomputable def f_B_call : List mV → mG → Option (Int32 × mG) := fun As g => (t_B_call As g).bind mexI
theorem e_B_call {As : List mV} {g g' : mG} {n : Nat} {x : Int32} (hh : (mHd (some 0) As && Nat.beq As.length 4) = true) (h : rn_B_call n 0 (mL0 As 4) [] g = some (some (.inl x), g')) : f_B_call As g = some (x, g') := mE_I hh h
/-! TriggerBase.value()I -/
abbrev kc_B_value : ByteArray := prog_1_method_9_code
abbrev yn_B_value : MethodName := ⟨"TriggerBase", "value", "()I"⟩
def tb_B_value : List (Nat × mIn) := [(0, .aload_n 0, 1, 1, 0, []), (1, .getfield 10, 3, 4, 0, []), (4, .getfield 77, 3, 7, 0, []), (7, .ireturn, 1, 8, 0, [])]
theorem tb_B_value_ok : mTok kc_B_value 1 tb_B_value = true := by decide +kernel
noncomputable def ct_B_value : List (Nat × Nat × Nat × mFn) := []
def sp_B_value : List (Nat × Nat) := []
noncomputable abbrev rn_B_value (n : Nat) : mK := px tb_B_value shC nmC gl_B pl_B gs_B fe_B smC ct_B_value sp_B_value 1 n
noncomputable def t_B_value : List mV → mG → Option mRes := mFun (some 0) 1 fun As g => mEv fun n => rn_B_value n 0 (mL0 As 1) [] g
noncomputable def f_B_value : List mV → mG → Option (Int32 × mG) := fun As g => (t_B_value As g).bind mexI
theorem e_B_value {As : List mV} {g g' : mG} {n : Nat} {x : Int32} (hh : (mHd (some 0) As && Nat.beq As.length 1) = true) (h : rn_B_value n 0 (mL0 As 1) [] g = some (some (.inl x), g')) : f_B_value As g = some (x, g') := mE_I hh h
/-! TriggerBase.count(I)I -/
abbrev kc_B_count : ByteArray := prog_1_method_10_code
abbrev yn_B_count : MethodName := ⟨"TriggerBase", "count", "(I)I"⟩
def tb_B_count : List (Nat × mIn) := [(0, .iload_n 1, 1, 1, 0, []), (1, .iconst 4, 1, 2, 0, []), (2, .invokestatic 48, 3, 5, 0, []), (5, .ifCond .eq 15, 3, 8, 20, []), (8, .aload_n 0, 1, 9, 0, []), (9, .getfield 10, 3, 12, 0, []), (12, .getfield 80, 3, 15, 0, []), (15, .iload_n 1, 1, 16, 0, []), (16, .iaload, 1, 17, 0, []), (17, .goto 4, 3, 20, 21, []), (20, .iconst (-1), 1, 21, 0, []), (21, .ireturn, 1, 22, 0, [])]
theorem tb_B_count_ok : mTok kc_B_count 2 tb_B_count = true := by decide +kernel
noncomputable def ct_B_count : List (Nat × Nat × Nat × mFn) := [(48, 2, 2, .inr (.inl f_B_isBelow))]
def sp_B_count : List (Nat × Nat) := []
noncomputable abbrev rn_B_count (n : Nat) : mK := px tb_B_count shC nmC gl_B pl_B gs_B fe_B smC ct_B_count sp_B_count 1 n
noncomputable def t_B_count : List mV → mG → Option mRes := mFun (some 0) 2 fun As g => mEv fun n => rn_B_count n 0 (mL0 As 2) [] g
noncomputable def f_B_count : List mV → mG → Option (Int32 × mG) := fun As g => (t_B_count As g).bind mexI
theorem e_B_count {As : List mV} {g g' : mG} {n : Nat} {x : Int32} (hh : (mHd (some 0) As && Nat.beq As.length 2) = true) (h : rn_B_count n 0 (mL0 As 2) [] g = some (some (.inl x), g')) : f_B_count As g = some (x, g') := mE_I hh h
/-! TriggerBase.rows(I)I -/
abbrev kc_B_rows : ByteArray := prog_1_method_11_code
abbrev yn_B_rows : MethodName := ⟨"TriggerBase", "rows", "(I)I"⟩
def tb_B_rows : List (Nat × mIn) := [(0, .aload_n 0, 1, 1, 0, []), (1, .getfield 25, 3, 4, 0, []), (4, .iload_n 1, 1, 5, 0, []), (5, .invokevirtual 84, 3, 8, 0, []), (8, .ireturn, 1, 9, 0, [])]
theorem tb_B_rows_ok : mTok kc_B_rows 2 tb_B_rows = true := by decide +kernel
noncomputable def ct_B_rows : List (Nat × Nat × Nat × mFn) := [(84, 0, 2, .inr (.inl f_T_size))]
def sp_B_rows : List (Nat × Nat) := []
noncomputable abbrev rn_B_rows (n : Nat) : mK := px tb_B_rows shC nmC gl_B pl_B gs_B fe_B smC ct_B_rows sp_B_rows 1 n
noncomputable def t_B_rows : List mV → mG → Option mRes := mFun (some 0) 2 fun As g => mEv fun n => rn_B_rows n 0 (mL0 As 2) [] g
noncomputable def f_B_rows : List mV → mG → Option (Int32 × mG) := fun As g => (t_B_rows As g).bind mexI
theorem e_B_rows {As : List mV} {g g' : mG} {n : Nat} {x : Int32} (hh : (mHd (some 0) As && Nat.beq As.length 2) = true) (h : rn_B_rows n 0 (mL0 As 2) [] g = some (some (.inl x), g')) : f_B_rows As g = some (x, g') := mE_I hh h
/-! TriggerBase.cell(III)I -/
abbrev kc_B_cell : ByteArray := prog_1_method_12_code
abbrev yn_B_cell : MethodName := ⟨"TriggerBase", "cell", "(III)I"⟩
def tb_B_cell : List (Nat × mIn) := [(0, .aload_n 0, 1, 1, 0, []), (1, .getfield 25, 3, 4, 0, []), (4, .iload_n 1, 1, 5, 0, []), (5, .iload_n 2, 1, 6, 0, []), (6, .iload_n 3, 1, 7, 0, []), (7, .invokevirtual 90, 3, 10, 0, []), (10, .ireturn, 1, 11, 0, [])]
theorem tb_B_cell_ok : mTok kc_B_cell 4 tb_B_cell = true := by decide +kernel
noncomputable def ct_B_cell : List (Nat × Nat × Nat × mFn) := [(90, 0, 4, .inr (.inl f_T_read))]
def sp_B_cell : List (Nat × Nat) := []
noncomputable abbrev rn_B_cell (n : Nat) : mK := px tb_B_cell shC nmC gl_B pl_B gs_B fe_B smC ct_B_cell sp_B_cell 1 n
noncomputable def t_B_cell : List mV → mG → Option mRes := mFun (some 0) 4 fun As g => mEv fun n => rn_B_cell n 0 (mL0 As 4) [] g
noncomputable def f_B_cell : List mV → mG → Option (Int32 × mG) := fun As g => (t_B_cell As g).bind mexI
theorem e_B_cell {As : List mV} {g g' : mG} {n : Nat} {x : Int32} (hh : (mHd (some 0) As && Nat.beq As.length 4) = true) (h : rn_B_cell n 0 (mL0 As 4) [] g = some (some (.inl x), g')) : f_B_cell As g = some (x, g') := mE_I hh h
