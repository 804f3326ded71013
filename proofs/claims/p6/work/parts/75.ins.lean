/-! instructions -/
def aI_320_0 : sx_IL := [(0, .iload_n 1, 1), (1, .i2l, 1), (2, .lconst 1, 1), (3, .ldc2_w 511, 3), (6, .invokestatic 513, 3), (9, .ifCond .ne 5, 3)]
theorem aJ_320_0 : sx_iB prog_14_method_3_code aI_320_0 = true := by decide +kernel
def aI_320_1 : sx_IL := [(12, .iconst (-1), 1), (13, .ireturn, 1), (14, .aload_n 0, 1), (15, .getfield 517, 3), (18, .iload_n 1, 1), (19, .iadd, 1)]
theorem aJ_320_1 : sx_iB prog_14_method_3_code aI_320_1 = true := by decide +kernel
def aI_320_2 : sx_IL := [(20, .sipush 800, 3), (23, .if_icmp .le 6, 3), (26, .bipush (-3), 2), (28, .ireturn, 1), (29, .iload_n 1, 1), (30, .iconst 1, 1)]
theorem aJ_320_2 : sx_iB prog_14_method_3_code aI_320_2 = true := by decide +kernel
def aI_320_3 : sx_IL := [(31, .isub, 1), (32, .istore 4, 2), (34, .iload 4, 2), (36, .ifCond .lt 40, 3), (39, .aload_n 0, 1), (40, .getfield 7, 3)]
theorem aJ_320_3 : sx_iB prog_14_method_3_code aI_320_3 = true := by decide +kernel
def aI_320_4 : sx_IL := [(43, .aload_n 0, 1), (44, .getfield 517, 3), (47, .lload_n 2, 1), (48, .bipush 8, 2), (50, .iload 4, 2), (52, .imul, 1)]
theorem aJ_320_4 : sx_iB prog_14_method_3_code aI_320_4 = true := by decide +kernel
def aI_320_5 : sx_IL := [(53, .lushr, 1), (54, .l2i, 1), (55, .sipush 255, 3), (58, .iand, 1), (59, .iastore, 1), (60, .aload_n 0, 1)]
theorem aJ_320_5 : sx_iB prog_14_method_3_code aI_320_5 = true := by decide +kernel
def aI_320_6 : sx_IL := [(61, .dup, 1), (62, .getfield 517, 3), (65, .iconst 1, 1), (66, .iadd, 1), (67, .putfield 517, 3), (70, .iinc 4 (-1), 3)]
theorem aJ_320_6 : sx_iB prog_14_method_3_code aI_320_6 = true := by decide +kernel
def aI_320_7 : sx_IL := [(73, .goto (-39), 3), (76, .aload_n 0, 1), (77, .getfield 517, 3), (80, .ireturn, 1)]
theorem aJ_320_7 : sx_iB prog_14_method_3_code aI_320_7 = true := by decide +kernel
def aS_320 (pc : Nat) : sx_IL := (if pc < 43 then (if pc < 20 then (if pc < 12 then aI_320_0 else aI_320_1) else (if pc < 31 then aI_320_2 else aI_320_3)) else (if pc < 61 then (if pc < 53 then aI_320_4 else aI_320_5) else (if pc < 73 then aI_320_6 else aI_320_7)))
theorem aT_320 (pc : Nat) : sx_iOk prog_14_method_3_code (aS_320 pc) := (sx_ite (p := fun l => sx_iOk prog_14_method_3_code l) (sx_ite (p := fun l => sx_iOk prog_14_method_3_code l) (sx_ite (p := fun l => sx_iOk prog_14_method_3_code l) (sx_iB_s aJ_320_0) (sx_iB_s aJ_320_1)) (sx_ite (p := fun l => sx_iOk prog_14_method_3_code l) (sx_iB_s aJ_320_2) (sx_iB_s aJ_320_3))) (sx_ite (p := fun l => sx_iOk prog_14_method_3_code l) (sx_ite (p := fun l => sx_iOk prog_14_method_3_code l) (sx_iB_s aJ_320_4) (sx_iB_s aJ_320_5)) (sx_ite (p := fun l => sx_iOk prog_14_method_3_code l) (sx_iB_s aJ_320_6) (sx_iB_s aJ_320_7))))
def aW_320 : Nat → Option (Instr × Nat) := fun pc => sx_iF (aS_320 pc) pc
theorem aX_320 : ∀ pc i len, aW_320 pc = some (i, len) → decode aM_320.1.2.1 pc = .ok (i, len) := fun pc i len h => sx_iF_s (aT_320 pc) h
def aI_321_0 : sx_IL := [(0, .lload_n 0, 1), (1, .lload_n 2, 1), (2, .lcmp, 1), (3, .ifCond .lt 14, 3), (6, .lload_n 0, 1), (7, .lload 4, 2)]
theorem aJ_321_0 : sx_iB prog_14_method_2_code aI_321_0 = true := by decide +kernel
def aI_321_1 : sx_IL := [(9, .lcmp, 1), (10, .ifCond .gt 7, 3), (13, .iconst 1, 1), (14, .goto 4, 3), (17, .iconst 0, 1), (18, .ireturn, 1)]
theorem aJ_321_1 : sx_iB prog_14_method_2_code aI_321_1 = true := by decide +kernel
def aS_321 (pc : Nat) : sx_IL := (if pc < 9 then aI_321_0 else aI_321_1)
theorem aT_321 (pc : Nat) : sx_iOk prog_14_method_2_code (aS_321 pc) := (sx_ite (p := fun l => sx_iOk prog_14_method_2_code l) (sx_iB_s aJ_321_0) (sx_iB_s aJ_321_1))
def aW_321 : Nat → Option (Instr × Nat) := fun pc => sx_iF (aS_321 pc) pc
theorem aX_321 : ∀ pc i len, aW_321 pc = some (i, len) → decode aM_321.1.2.1 pc = .ok (i, len) := fun pc i len h => sx_iF_s (aT_321 pc) h
def aI_322_0 : sx_IL := [(0, .iload_n 1, 1), (1, .i2l, 1), (2, .lconst 0, 1), (3, .aload_n 0, 1), (4, .getfield 517, 3), (7, .i2l, 1)]
theorem aJ_322_0 : sx_iB prog_14_method_4_code aI_322_0 = true := by decide +kernel
def aI_322_1 : sx_IL := [(8, .invokestatic 513, 3), (11, .ifCond .ne 5, 3), (14, .iconst (-1), 1), (15, .ireturn, 1), (16, .aload_n 0, 1), (17, .getfield 517, 3)]
theorem aJ_322_1 : sx_iB prog_14_method_4_code aI_322_1 = true := by decide +kernel
def aI_322_2 : sx_IL := [(20, .iload_n 1, 1), (21, .isub, 1), (22, .istore_n 2, 1), (23, .aload_n 0, 1), (24, .iload_n 1, 1), (25, .putfield 517, 3)]
theorem aJ_322_2 : sx_iB prog_14_method_4_code aI_322_2 = true := by decide +kernel
def aI_322_3 : sx_IL := [(28, .iload_n 2, 1), (29, .ireturn, 1)]
theorem aJ_322_3 : sx_iB prog_14_method_4_code aI_322_3 = true := by decide +kernel
def aS_322 (pc : Nat) : sx_IL := (if pc < 20 then (if pc < 8 then aI_322_0 else aI_322_1) else (if pc < 28 then aI_322_2 else aI_322_3))
theorem aT_322 (pc : Nat) : sx_iOk prog_14_method_4_code (aS_322 pc) := (sx_ite (p := fun l => sx_iOk prog_14_method_4_code l) (sx_ite (p := fun l => sx_iOk prog_14_method_4_code l) (sx_iB_s aJ_322_0) (sx_iB_s aJ_322_1)) (sx_ite (p := fun l => sx_iOk prog_14_method_4_code l) (sx_iB_s aJ_322_2) (sx_iB_s aJ_322_3)))
def aW_322 : Nat → Option (Instr × Nat) := fun pc => sx_iF (aS_322 pc) pc
theorem aX_322 : ∀ pc i len, aW_322 pc = some (i, len) → decode aM_322.1.2.1 pc = .ok (i, len) := fun pc i len h => sx_iF_s (aT_322 pc) h
def aI_323_0 : sx_IL := [(0, .iload_n 1, 1), (1, .iconst (-1), 1), (2, .if_icmp .ne 10, 3), (5, .aload_n 0, 1), (6, .getfield 520, 3), (9, .goto 29, 3)]
theorem aJ_323_0 : sx_iB prog_14_method_5_code aI_323_0 = true := by decide +kernel
def aI_323_1 : sx_IL := [(12, .iload_n 1, 1), (13, .i2l, 1), (14, .lconst 0, 1), (15, .aload_n 0, 1), (16, .getfield 520, 3), (19, .iconst 1, 1)]
theorem aJ_323_1 : sx_iB prog_14_method_5_code aI_323_1 = true := by decide +kernel
def aI_323_2 : sx_IL := [(20, .isub, 1), (21, .i2l, 1), (22, .invokestatic 513, 3), (25, .ifCond .eq 12, 3), (28, .aload_n 0, 1), (29, .getfield 13, 3)]
theorem aJ_323_2 : sx_iB prog_14_method_5_code aI_323_2 = true := by decide +kernel
def aI_323_3 : sx_IL := [(32, .iload_n 1, 1), (33, .iaload, 1), (34, .goto 4, 3), (37, .iconst (-1), 1), (38, .ireturn, 1)]
theorem aJ_323_3 : sx_iB prog_14_method_5_code aI_323_3 = true := by decide +kernel
def aS_323 (pc : Nat) : sx_IL := (if pc < 20 then (if pc < 12 then aI_323_0 else aI_323_1) else (if pc < 32 then aI_323_2 else aI_323_3))
theorem aT_323 (pc : Nat) : sx_iOk prog_14_method_5_code (aS_323 pc) := (sx_ite (p := fun l => sx_iOk prog_14_method_5_code l) (sx_ite (p := fun l => sx_iOk prog_14_method_5_code l) (sx_iB_s aJ_323_0) (sx_iB_s aJ_323_1)) (sx_ite (p := fun l => sx_iOk prog_14_method_5_code l) (sx_iB_s aJ_323_2) (sx_iB_s aJ_323_3)))
def aW_323 : Nat → Option (Instr × Nat) := fun pc => sx_iF (aS_323 pc) pc
theorem aX_323 : ∀ pc i len, aW_323 pc = some (i, len) → decode aM_323.1.2.1 pc = .ok (i, len) := fun pc i len h => sx_iF_s (aT_323 pc) h
def aI_324_0 : sx_IL := [(0, .aload_n 0, 1), (1, .getfield 517, 3), (4, .aload_n 0, 1), (5, .getfield 520, 3), (8, .iadd, 1), (9, .sipush 800, 3)]
theorem aJ_324_0 : sx_iB prog_14_method_6_code aI_324_0 = true := by decide +kernel
def aI_324_1 : sx_IL := [(12, .if_icmp .le 6, 3), (15, .bipush (-3), 2), (17, .ireturn, 1), (18, .iconst 0, 1), (19, .istore_n 1, 1), (20, .iload_n 1, 1)]
theorem aJ_324_1 : sx_iB prog_14_method_6_code aI_324_1 = true := by decide +kernel
def aI_324_2 : sx_IL := [(21, .aload_n 0, 1), (22, .getfield 520, 3), (25, .if_icmp .ge 26, 3), (28, .aload_n 0, 1), (29, .getfield 7, 3), (32, .aload_n 0, 1)]
theorem aJ_324_2 : sx_iB prog_14_method_6_code aI_324_2 = true := by decide +kernel
def aI_324_3 : sx_IL := [(33, .getfield 517, 3), (36, .iload_n 1, 1), (37, .iadd, 1), (38, .aload_n 0, 1), (39, .getfield 13, 3), (42, .iload_n 1, 1)]
theorem aJ_324_3 : sx_iB prog_14_method_6_code aI_324_3 = true := by decide +kernel
def aI_324_4 : sx_IL := [(43, .iaload, 1), (44, .iastore, 1), (45, .iinc 1 1, 3), (48, .goto (-28), 3), (51, .aload_n 0, 1), (52, .dup, 1)]
theorem aJ_324_4 : sx_iB prog_14_method_6_code aI_324_4 = true := by decide +kernel
def aI_324_5 : sx_IL := [(53, .getfield 517, 3), (56, .aload_n 0, 1), (57, .getfield 520, 3), (60, .iadd, 1), (61, .putfield 517, 3), (64, .aload_n 0, 1)]
theorem aJ_324_5 : sx_iB prog_14_method_6_code aI_324_5 = true := by decide +kernel
def aI_324_6 : sx_IL := [(65, .getfield 517, 3), (68, .ireturn, 1)]
theorem aJ_324_6 : sx_iB prog_14_method_6_code aI_324_6 = true := by decide +kernel
def aS_324 (pc : Nat) : sx_IL := (if pc < 33 then (if pc < 12 then aI_324_0 else (if pc < 21 then aI_324_1 else aI_324_2)) else (if pc < 53 then (if pc < 43 then aI_324_3 else aI_324_4) else (if pc < 65 then aI_324_5 else aI_324_6)))
theorem aT_324 (pc : Nat) : sx_iOk prog_14_method_6_code (aS_324 pc) := (sx_ite (p := fun l => sx_iOk prog_14_method_6_code l) (sx_ite (p := fun l => sx_iOk prog_14_method_6_code l) (sx_iB_s aJ_324_0) (sx_ite (p := fun l => sx_iOk prog_14_method_6_code l) (sx_iB_s aJ_324_1) (sx_iB_s aJ_324_2))) (sx_ite (p := fun l => sx_iOk prog_14_method_6_code l) (sx_ite (p := fun l => sx_iOk prog_14_method_6_code l) (sx_iB_s aJ_324_3) (sx_iB_s aJ_324_4)) (sx_ite (p := fun l => sx_iOk prog_14_method_6_code l) (sx_iB_s aJ_324_5) (sx_iB_s aJ_324_6))))
def aW_324 : Nat → Option (Instr × Nat) := fun pc => sx_iF (aS_324 pc) pc
theorem aX_324 : ∀ pc i len, aW_324 pc = some (i, len) → decode aM_324.1.2.1 pc = .ok (i, len) := fun pc i len h => sx_iF_s (aT_324 pc) h
def aI_325_0 : sx_IL := [(0, .iload_n 1, 1), (1, .i2l, 1), (2, .lconst 0, 1), (3, .ldc2_w 523, 3), (6, .invokestatic 513, 3), (9, .ifCond .ne 5, 3)]
theorem aJ_325_0 : sx_iB prog_14_method_7_code aI_325_0 = true := by decide +kernel
def aI_325_1 : sx_IL := [(12, .iconst (-1), 1), (13, .ireturn, 1), (14, .aload_n 0, 1), (15, .getfield 507, 3), (18, .iload_n 1, 1), (19, .iadd, 1)]
theorem aJ_325_1 : sx_iB prog_14_method_7_code aI_325_1 = true := by decide +kernel
def aI_325_2 : sx_IL := [(20, .ldc_w 525, 3), (23, .if_icmp .le 6, 3), (26, .bipush (-2), 2), (28, .ireturn, 1), (29, .aload_n 0, 1), (30, .dup, 1)]
theorem aJ_325_2 : sx_iB prog_14_method_7_code aI_325_2 = true := by decide +kernel
def aI_325_3 : sx_IL := [(31, .getfield 507, 3), (34, .iload_n 1, 1), (35, .iadd, 1), (36, .putfield 507, 3), (39, .aload_n 0, 1), (40, .getfield 507, 3)]
theorem aJ_325_3 : sx_iB prog_14_method_7_code aI_325_3 = true := by decide +kernel
def aI_325_4 : sx_IL := [(43, .ireturn, 1)]
theorem aJ_325_4 : sx_iB prog_14_method_7_code aI_325_4 = true := by decide +kernel
def aS_325 (pc : Nat) : sx_IL := (if pc < 20 then (if pc < 12 then aI_325_0 else aI_325_1) else (if pc < 31 then aI_325_2 else (if pc < 43 then aI_325_3 else aI_325_4)))
theorem aT_325 (pc : Nat) : sx_iOk prog_14_method_7_code (aS_325 pc) := (sx_ite (p := fun l => sx_iOk prog_14_method_7_code l) (sx_ite (p := fun l => sx_iOk prog_14_method_7_code l) (sx_iB_s aJ_325_0) (sx_iB_s aJ_325_1)) (sx_ite (p := fun l => sx_iOk prog_14_method_7_code l) (sx_iB_s aJ_325_2) (sx_ite (p := fun l => sx_iOk prog_14_method_7_code l) (sx_iB_s aJ_325_3) (sx_iB_s aJ_325_4))))
def aW_325 : Nat → Option (Instr × Nat) := fun pc => sx_iF (aS_325 pc) pc
theorem aX_325 : ∀ pc i len, aW_325 pc = some (i, len) → decode aM_325.1.2.1 pc = .ok (i, len) := fun pc i len h => sx_iF_s (aT_325 pc) h
