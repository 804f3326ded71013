/-! instructions -/
def aI_320_0 : sx_IL := [(0, .iload_n 1, 1), (1, .i2l, 1), (2, .lconst 1, 1), (3, .ldc2_w 511, 3), (6, .invokestatic 513, 3), (9, .ifCond .ne 5, 3)]
theorem aJ_320_0 : sx_iB prog_14_method_3_code aI_320_0 = true := by decide +kernel
def aI_320_1 : sx_IL := [(12, .iconst (-1), 1), (13, .ireturn, 1), (14, .aload_n 0, 1), (15, .getfield 517, 3), (18, .iload_n 1, 1), (19, .iadd, 1)]
theorem aJ_320_1 : sx_iB prog_14_method_3_code aI_320_1 = true := by decide +kernel
def aI_320_2 : sx_IL := [(20, .sipush 800, 3), (23, .if_icmp .le 6, 3), (26, .bipush (-3), 2), (28, .ireturn, 1), (29, .iload_n 1, 1), (30, .iconst 1, 1)]
theorem aJ_320_2 : sx_iB prog_14_method_3_code aI_320_2 = true := by decide +kernel
def aI_320_3 : sx_IL := [(31, .isub, 1), (32, .istore 4, 2), (34, .iload 4, 2), (36, .ifCond .lt 40, 3), (39, .aload_n 0, 1), (40, .getfield 7, 3)]
theorem aJ_320_3 : sx_iB prog_14_method_3_code aI_320_3 = true := by decide +kernel
def aI_320_4 : sx_IL := [(43, .aload_n 0, 1), (44, .getfield 517, 3), (47, .lload_n 2, 1), (48, .bipush 8, 2), (50, .iload 4, 2), (52, .imul, 1)]
theorem aJ_320_4 : sx_iB prog_14_method_3_code aI_320_4 = true := by decide +kernel
def aI_320_5 : sx_IL := [(53, .lushr, 1), (54, .l2i, 1), (55, .sipush 255, 3), (58, .iand, 1), (59, .iastore, 1), (60, .aload_n 0, 1)]
theorem aJ_320_5 : sx_iB prog_14_method_3_code aI_320_5 = true := by decide +kernel
def aI_320_6 : sx_IL := [(61, .dup, 1), (62, .getfield 517, 3), (65, .iconst 1, 1), (66, .iadd, 1), (67, .putfield 517, 3), (70, .iinc 4 (-1), 3)]
theorem aJ_320_6 : sx_iB prog_14_method_3_code aI_320_6 = true := by decide +kernel
def aI_320_7 : sx_IL := [(73, .goto (-39), 3), (76, .aload_n 0, 1), (77, .getfield 517, 3), (80, .ireturn, 1)]
theorem aJ_320_7 : sx_iB prog_14_method_3_code aI_320_7 = true := by decide +kernel
def aS_320 (pc : Nat) : sx_IL := (if pc < 43 then (if pc < 20 then (if pc < 12 then aI_320_0 else aI_320_1) else (if pc < 31 then aI_320_2 else aI_320_3)) else (if pc < 61 then (if pc < 53 then aI_320_4 else aI_320_5) else (if pc < 73 then aI_320_6 else aI_320_7)))
theorem aT_320 (pc : Nat) : sx_iOk prog_14_method_3_code (aS_320 pc) := (sx_ite (p := fun l => sx_iOk prog_14_method_3_code l) (sx_ite (p := fun l => sx_iOk prog_14_method_3_code l) (sx_ite (p := fun l => sx_iOk prog_14_method_3_code l) (sx_iB_s aJ_320_0) (sx_iB_s aJ_320_1)) (sx_ite (p := fun l => sx_iOk prog_14_method_3_code l) (sx_iB_s aJ_320_2) (sx_iB_s aJ_320_3))) (sx_ite (p := fun l => sx_iOk prog_14_method_3_code l) (sx_ite (p := fun l => sx_iOk prog_14_method_3_code l) (sx_iB_s aJ_320_4) (sx_iB_s aJ_320_5)) (sx_ite (p := fun l => sx_iOk prog_14_method_3_code l) (sx_iB_s aJ_320_6) (sx_iB_s aJ_320_7))))
def aW_320 : Nat → Option (Instr × Nat) := fun pc => sx_iF (aS_320 pc) pc
theorem aX_320 : ∀ pc i len, aW_320 pc = some (i, len) → decode aM_320.1.2.1 pc = .ok (i, len) := fun pc i len h => sx_iF_s (aT_320 pc) h
def aI_321_0 : sx_IL := [(0, .lload_n 0, 1), (1, .lload_n 2, 1), (2, .lcmp, 1), (3, .ifCond .lt 14, 3), (6, .lload_n 0, 1), (7, .lload 4, 2)]
theorem aJ_321_0 : sx_iB prog_14_method_2_code aI_321_0 = true := by decide +kernel
def aI_321_1 : sx_IL := [(9, .lcmp, 1), (10, .ifCond .gt 7, 3), (13, .iconst 1, 1), (14, .goto 4, 3), (17, .iconst 0, 1), (18, .ireturn, 1)]
theorem aJ_321_1 : sx_iB prog_14_method_2_code aI_321_1 = true := by decide +kernel
def aS_321 (pc : Nat) : sx_IL := (if pc < 9 then aI_321_0 else aI_321_1)
theorem aT_321 (pc : Nat) : sx_iOk prog_14_method_2_code (aS_321 pc) := (sx_ite (p := fun l => sx_iOk prog_14_method_2_code l) (sx_iB_s aJ_321_0) (sx_iB_s aJ_321_1))
def aW_321 : Nat → Option (Instr × Nat) := fun pc => sx_iF (aS_321 pc) pc
theorem aX_321 : ∀ pc i len, aW_321 pc = some (i, len) → decode aM_321.1.2.1 pc = .ok (i, len) := fun pc i len h => sx_iF_s (aT_321 pc) h
def aI_322_0 : sx_IL := [(0, .iload_n 1, 1), (1, .i2l, 1), (2, .lconst 0, 1), (3, .aload_n 0, 1), (4, .getfield 517, 3), (7, .i2l, 1)]
theorem aJ_322_0 : sx_iB prog_14_method_4_code aI_322_0 = true := by decide +kernel
def aI_322_1 : sx_IL := [(8, .invokestatic 513, 3), (11, .ifCond .ne 5, 3), (14, .iconst (-1), 1), (15, .ireturn, 1), (16, .aload_n 0, 1), (17, .getfield 517, 3)]
theorem aJ_322_1 : sx_iB prog_14_method_4_code aI_322_1 = true := by decide +kernel
def aI_322_2 : sx_IL := [(20, .iload_n 1, 1), (21, .isub, 1), (22, .istore_n 2, 1), (23, .aload_n 0, 1), (24, .iload_n 1, 1), (25, .putfield 517, 3)]
theorem aJ_322_2 : sx_iB prog_14_method_4_code aI_322_2 = true := by decide +kernel
def aI_322_3 : sx_IL := [(28, .iload_n 2, 1), (29, .ireturn, 1)]
theorem aJ_322_3 : sx_iB prog_14_method_4_code aI_322_3 = true := by decide +kernel
def aS_322 (pc : Nat) : sx_IL := (if pc < 20 then (if pc < 8 then aI_322_0 else aI_322_1) else (if pc < 28 then aI_322_2 else aI_322_3))
theorem aT_322 (pc : Nat) : sx_iOk prog_14_method_4_code (aS_322 pc) := (sx_ite (p := fun l => sx_iOk prog_14_method_4_code l) (sx_ite (p := fun l => sx_iOk prog_14_method_4_code l) (sx_iB_s aJ_322_0) (sx_iB_s aJ_322_1)) (sx_ite (p := fun l => sx_iOk prog_14_method_4_code l) (sx_iB_s aJ_322_2) (sx_iB_s aJ_322_3)))
def aW_322 : Nat → Option (Instr × Nat) := fun pc => sx_iF (aS_322 pc) pc
theorem aX_322 : ∀ pc i len, aW_322 pc = some (i, len) → decode aM_322.1.2.1 pc = .ok (i, len) := fun pc i len h => sx_iF_s (aT_322 pc) h
def aI_323_0 : sx_IL := [(0, .iload_n 1, 1), (1, .iconst (-1), 1), (2, .if_icmp .ne 10, 3), (5, .aload_n 0, 1), (6, .getfield 520, 3), (9, .goto 29, 3)]
theorem aJ_323_0 : sx_iB prog_14_method_5_code aI_323_0 = true := by decide +kernel
def aI_323_1 : sx_IL := [(12, .iload_n 1, 1), (13, .i2l, 1), (14, .lconst 0, 1), (15, .aload_n 0, 1), (16, .getfield 520, 3), (19, .iconst 1, 1)]
theorem aJ_323_1 : sx_iB prog_14_method_5_code aI_323_1 = true := by decide +kernel
def aI_323_2 : sx_IL := [(20, .isub, 1), (21, .i2l, 1), (22, .invokestatic 513, 3), (25, .ifCond .eq 12, 3), (28, .aload_n 0, 1), (29, .getfield 13, 3)]
theorem aJ_323_2 : sx_iB prog_14_method_5_code aI_323_2 = true := by decide +kernel
def aI_323_3 : sx_IL := [(32, .iload_n 1, 1), (33, .iaload, 1), (34, .goto 4, 3), (37, .iconst (-1), 1), (38, .ireturn, 1)]
theorem aJ_323_3 : sx_iB prog_14_method_5_code aI_323_3 = true := by decide +kernel
def aS_323 (pc : Nat) : sx_IL := (if pc < 20 then (if pc < 12 then aI_323_0 else aI_323_1) else (if pc < 32 then aI_323_2 else aI_323_3))
theorem aT_323 (pc : Nat) : sx_iOk prog_14_method_5_code (aS_323 pc) := (sx_ite (p := fun l => sx_iOk prog_14_method_5_code l) (sx_ite (p := fun l => sx_iOk prog_14_method_5_code l) (sx_iB_s aJ_323_0) (sx_iB_s aJ_323_1)) (sx_ite (p := fun l => sx_iOk prog_14_method_5_code l) (sx_iB_s aJ_323_2) (sx_iB_s aJ_323_3)))
def aW_323 : Nat → Option (Instr × Nat) := fun pc => sx_iF (aS_323 pc) pc
theorem aX_323 : ∀ pc i len, aW_323 pc = some (i, len) → decode aM_323.1.2.1 pc = .ok (i, len) := fun pc i len h => sx_iF_s (aT_323 pc) h
def aI_324_0 : sx_IL := [(0, .aload_n 0, 1), (1, .getfield 517, 3), (4, .aload_n 0, 1), (5, .getfield 520, 3), (8, .iadd, 1), (9, .sipush 800, 3)]
theorem aJ_324_0 : sx_iB prog_14_method_6_code aI_324_0 = true := by decide +kernel
def aI_324_1 : sx_IL := [(12, .if_icmp .le 6, 3), (15, .bipush (-3), 2), (17, .ireturn, 1), (18, .iconst 0, 1), (19, .istore_n 1, 1), (20, .iload_n 1, 1)]
theorem aJ_324_1 : sx_iB prog_14_method_6_code aI_324_1 = true := by decide +kernel
def aI_324_2 : sx_IL := [(21, .aload_n 0, 1), (22, .getfield 520, 3), (25, .if_icmp .ge 26, 3), (28, .aload_n 0, 1), (29, .getfield 7, 3), (32, .aload_n 0, 1)]
theorem aJ_324_2 : sx_iB prog_14_method_6_code aI_324_2 = true := by decide +kernel
def aI_324_3 : sx_IL := [(33, .getfield 517, 3), (36, .iload_n 1, 1), (37, .iadd, 1), (38, .aload_n 0, 1), (39, .getfield 13, 3), (42, .iload_n 1, 1)]
theorem aJ_324_3 : sx_iB prog_14_method_6_code aI_324_3 = true := by decide +kernel
def aI_324_4 : sx_IL := [(43, .iaload, 1), (44, .iastore, 1), (45, .iinc 1 1, 3), (48, .goto (-28), 3), (51, .aload_n 0, 1), (52, .dup, 1)]
theorem aJ_324_4 : sx_iB prog_14_method_6_code aI_324_4 = true := by decide +kernel
def aI_324_5 : sx_IL := [(53, .getfield 517, 3), (56, .aload_n 0, 1), (57, .getfield 520, 3), (60, .iadd, 1), (61, .putfield 517, 3), (64, .aload_n 0, 1)]
theorem aJ_324_5 : sx_iB prog_14_method_6_code aI_324_5 = true := by decide +kernel
def aI_324_6 : sx_IL := [(65, .getfield 517, 3), (68, .ireturn, 1)]
theorem aJ_324_6 : sx_iB prog_14_method_6_code aI_324_6 = true := by decide +kernel
def aS_324 (pc : Nat) : sx_IL := (if pc < 33 then (if pc < 12 then aI_324_0 else (if pc < 21 then aI_324_1 else aI_324_2)) else (if pc < 53 then (if pc < 43 then aI_324_3 else aI_324_4) else (if pc < 65 then aI_324_5 else aI_324_6)))
theorem aT_324 (pc : Nat) : sx_iOk prog_14_method_6_code (aS_324 pc) := (sx_ite (p := fun l => sx_iOk prog_14_method_6_code l) (sx_ite (p := fun l => sx_iOk prog_14_method_6_code l) (sx_iB_s aJ_324_0) (sx_ite (p := fun l => sx_iOk prog_14_method_6_code l) (sx_iB_s aJ_324_1) (sx_iB_s aJ_324_2))) (sx_ite (p := fun l => sx_iOk prog_14_method_6_code l) (sx_ite (p := fun l => sx_iOk prog_14_method_6_code l) (sx_iB_s aJ_324_3) (sx_iB_s aJ_324_4)) (sx_ite (p := fun l => sx_iOk prog_14_method_6_code l) (sx_iB_s aJ_324_5) (sx_iB_s aJ_324_6))))
def aW_324 : Nat → Option (Instr × Nat) := fun pc => sx_iF (aS_324 pc) pc
theorem aX_324 : ∀ pc i len, aW_324 pc = some (i, len) → decode aM_324.1.2.1 pc = .ok (i, len) := fun pc i len h => sx_iF_s (aT_324 pc) h
def aI_325_0 : sx_IL := [(0, .iload_n 1, 1), (1, .i2l, 1), (2, .lconst 0, 1), (3, .ldc2_w 523, 3), (6, .invokestatic 513, 3), (9, .ifCond .ne 5, 3)]
theorem aJ_325_0 : sx_iB prog_14_method_7_code aI_325_0 = true := by decide +kernel
def aI_325_1 : sx_IL := [(12, .iconst (-1), 1), (13, .ireturn, 1), (14, .aload_n 0, 1), (15, .getfield 507, 3), (18, .iload_n 1, 1), (19, .iadd, 1)]
theorem aJ_325_1 : sx_iB prog_14_method_7_code aI_325_1 = true := by decide +kernel
def aI_325_2 : sx_IL := [(20, .ldc_w 525, 3), (23, .if_icmp .le 6, 3), (26, .bipush (-2), 2), (28, .ireturn, 1), (29, .aload_n 0, 1), (30, .dup, 1)]
theorem aJ_325_2 : sx_iB prog_14_method_7_code aI_325_2 = true := by decide +kernel
def aI_325_3 : sx_IL := [(31, .getfield 507, 3), (34, .iload_n 1, 1), (35, .iadd, 1), (36, .putfield 507, 3), (39, .aload_n 0, 1), (40, .getfield 507, 3)]
theorem aJ_325_3 : sx_iB prog_14_method_7_code aI_325_3 = true := by decide +kernel
def aI_325_4 : sx_IL := [(43, .ireturn, 1)]
theorem aJ_325_4 : sx_iB prog_14_method_7_code aI_325_4 = true := by decide +kernel
def aS_325 (pc : Nat) : sx_IL := (if pc < 20 then (if pc < 12 then aI_325_0 else aI_325_1) else (if pc < 31 then aI_325_2 else (if pc < 43 then aI_325_3 else aI_325_4)))
theorem aT_325 (pc : Nat) : sx_iOk prog_14_method_7_code (aS_325 pc) := (sx_ite (p := fun l => sx_iOk prog_14_method_7_code l) (sx_ite (p := fun l => sx_iOk prog_14_method_7_code l) (sx_iB_s aJ_325_0) (sx_iB_s aJ_325_1)) (sx_ite (p := fun l => sx_iOk prog_14_method_7_code l) (sx_iB_s aJ_325_2) (sx_ite (p := fun l => sx_iOk prog_14_method_7_code l) (sx_iB_s aJ_325_3) (sx_iB_s aJ_325_4))))
def aW_325 : Nat → Option (Instr × Nat) := fun pc => sx_iF (aS_325 pc) pc
theorem aX_325 : ∀ pc i len, aW_325 pc = some (i, len) → decode aM_325.1.2.1 pc = .ok (i, len) := fun pc i len h => sx_iF_s (aT_325 pc) h
def aI_326_0 : sx_IL := [(0, .iload_n 1, 1), (1, .i2l, 1), (2, .lconst 0, 1), (3, .lconst 1, 1), (4, .invokestatic 513, 3), (7, .ifCond .ne 7, 3)]
theorem aJ_326_0 : sx_iB prog_14_method_22_code aI_326_0 = true := by decide +kernel
def aI_326_1 : sx_IL := [(10, .ldc2_w 590, 3), (13, .lreturn, 1), (14, .aload_n 0, 1), (15, .iload_n 1, 1), (16, .aload_n 0, 1), (17, .getfield 7, 3)]
theorem aJ_326_1 : sx_iB prog_14_method_22_code aI_326_1 = true := by decide +kernel
def aI_326_2 : sx_IL := [(20, .iconst 0, 1), (21, .aload_n 0, 1), (22, .getfield 517, 3), (25, .invokevirtual 592, 3), (28, .lstore_n 2, 1), (29, .aload_n 0, 1)]
theorem aJ_326_2 : sx_iB prog_14_method_22_code aI_326_2 = true := by decide +kernel
def aI_326_3 : sx_IL := [(30, .iconst 0, 1), (31, .putfield 517, 3), (34, .lload_n 2, 1), (35, .lreturn, 1)]
theorem aJ_326_3 : sx_iB prog_14_method_22_code aI_326_3 = true := by decide +kernel
def aS_326 (pc : Nat) : sx_IL := (if pc < 20 then (if pc < 10 then aI_326_0 else aI_326_1) else (if pc < 30 then aI_326_2 else aI_326_3))
theorem aT_326 (pc : Nat) : sx_iOk prog_14_method_22_code (aS_326 pc) := (sx_ite (p := fun l => sx_iOk prog_14_method_22_code l) (sx_ite (p := fun l => sx_iOk prog_14_method_22_code l) (sx_iB_s aJ_326_0) (sx_iB_s aJ_326_1)) (sx_ite (p := fun l => sx_iOk prog_14_method_22_code l) (sx_iB_s aJ_326_2) (sx_iB_s aJ_326_3)))
def aW_326 : Nat → Option (Instr × Nat) := fun pc => sx_iF (aS_326 pc) pc
theorem aX_326 : ∀ pc i len, aW_326 pc = some (i, len) → decode aM_326.1.2.1 pc = .ok (i, len) := fun pc i len h => sx_iF_s (aT_326 pc) h
def aI_327_0 : sx_IL := [(0, .aload_n 0, 1), (1, .iload_n 1, 1), (2, .invokevirtual 568, 3), (5, .aload_n 0, 1), (6, .aload_n 2, 1), (7, .iload_n 3, 1)]
theorem aJ_327_0 : sx_iB prog_14_method_21_code aI_327_0 = true := by decide +kernel
def aI_327_1 : sx_IL := [(8, .iload 4, 2), (10, .invokevirtual 586, 3), (13, .aload_n 0, 1), (14, .invokevirtual 571, 3), (17, .lreturn, 1)]
theorem aJ_327_1 : sx_iB prog_14_method_21_code aI_327_1 = true := by decide +kernel
def aS_327 (pc : Nat) : sx_IL := (if pc < 8 then aI_327_0 else aI_327_1)
theorem aT_327 (pc : Nat) : sx_iOk prog_14_method_21_code (aS_327 pc) := (sx_ite (p := fun l => sx_iOk prog_14_method_21_code l) (sx_iB_s aJ_327_0) (sx_iB_s aJ_327_1))
def aW_327 : Nat → Option (Instr × Nat) := fun pc => sx_iF (aS_327 pc) pc
theorem aX_327 : ∀ pc i len, aW_327 pc = some (i, len) → decode aM_327.1.2.1 pc = .ok (i, len) := fun pc i len h => sx_iF_s (aT_327 pc) h
def aI_328_0 : sx_IL := [(0, .aload_n 0, 1), (1, .iconst 1, 1), (2, .iload_n 1, 1), (3, .iadd, 1), (4, .putfield 526, 3), (7, .aload_n 0, 1)]
theorem aJ_328_0 : sx_iB prog_14_method_11_code aI_328_0 = true := by decide +kernel
def aI_328_1 : sx_IL := [(8, .iconst 2, 1), (9, .iload_n 1, 1), (10, .iadd, 1), (11, .putfield 529, 3), (14, .aload_n 0, 1), (15, .iconst 3, 1)]
theorem aJ_328_1 : sx_iB prog_14_method_11_code aI_328_1 = true := by decide +kernel
def aI_328_2 : sx_IL := [(16, .iload_n 1, 1), (17, .iadd, 1), (18, .putfield 539, 3), (21, .aload_n 0, 1), (22, .iconst 4, 1), (23, .iload_n 1, 1)]
theorem aJ_328_2 : sx_iB prog_14_method_11_code aI_328_2 = true := by decide +kernel
def aI_328_3 : sx_IL := [(24, .iadd, 1), (25, .putfield 532, 3), (28, .aload_n 0, 1), (29, .iconst 0, 1), (30, .putfield 544, 3), (33, .aload_n 0, 1)]
theorem aJ_328_3 : sx_iB prog_14_method_11_code aI_328_3 = true := by decide +kernel
def aI_328_4 : sx_IL := [(34, .lconst 0, 1), (35, .putfield 547, 3), (38, .aload_n 0, 1), (39, .iconst 0, 1), (40, .putfield 551, 3), (43, .return_, 1)]
theorem aJ_328_4 : sx_iB prog_14_method_11_code aI_328_4 = true := by decide +kernel
def aS_328 (pc : Nat) : sx_IL := (if pc < 16 then (if pc < 8 then aI_328_0 else aI_328_1) else (if pc < 24 then aI_328_2 else (if pc < 34 then aI_328_3 else aI_328_4)))
theorem aT_328 (pc : Nat) : sx_iOk prog_14_method_11_code (aS_328 pc) := (sx_ite (p := fun l => sx_iOk prog_14_method_11_code l) (sx_ite (p := fun l => sx_iOk prog_14_method_11_code l) (sx_iB_s aJ_328_0) (sx_iB_s aJ_328_1)) (sx_ite (p := fun l => sx_iOk prog_14_method_11_code l) (sx_iB_s aJ_328_2) (sx_ite (p := fun l => sx_iOk prog_14_method_11_code l) (sx_iB_s aJ_328_3) (sx_iB_s aJ_328_4))))
def aW_328 : Nat → Option (Instr × Nat) := fun pc => sx_iF (aS_328 pc) pc
theorem aX_328 : ∀ pc i len, aW_328 pc = some (i, len) → decode aM_328.1.2.1 pc = .ok (i, len) := fun pc i len h => sx_iF_s (aT_328 pc) h
def aI_329_0 : sx_IL := [(0, .iconst 0, 1), (1, .istore 4, 2), (3, .iload 4, 2), (5, .iload_n 3, 1), (6, .if_icmp .ge 19, 3), (9, .aload_n 0, 1)]
theorem aJ_329_0 : sx_iB prog_14_method_14_code aI_329_0 = true := by decide +kernel
def aI_329_1 : sx_IL := [(10, .aload_n 1, 1), (11, .iload_n 2, 1), (12, .iload 4, 2), (14, .iadd, 1), (15, .iaload, 1), (16, .invokevirtual 561, 3)]
theorem aJ_329_1 : sx_iB prog_14_method_14_code aI_329_1 = true := by decide +kernel
def aI_329_2 : sx_IL := [(19, .iinc 4 1, 3), (22, .goto (-19), 3), (25, .return_, 1)]
theorem aJ_329_2 : sx_iB prog_14_method_14_code aI_329_2 = true := by decide +kernel
def aS_329 (pc : Nat) : sx_IL := (if pc < 10 then aI_329_0 else (if pc < 19 then aI_329_1 else aI_329_2))
theorem aT_329 (pc : Nat) : sx_iOk prog_14_method_14_code (aS_329 pc) := (sx_ite (p := fun l => sx_iOk prog_14_method_14_code l) (sx_iB_s aJ_329_0) (sx_ite (p := fun l => sx_iOk prog_14_method_14_code l) (sx_iB_s aJ_329_1) (sx_iB_s aJ_329_2)))
def aW_329 : Nat → Option (Instr × Nat) := fun pc => sx_iF (aS_329 pc) pc
theorem aX_329 : ∀ pc i len, aW_329 pc = some (i, len) → decode aM_329.1.2.1 pc = .ok (i, len) := fun pc i len h => sx_iF_s (aT_329 pc) h
def aI_330_0 : sx_IL := [(0, .aload_n 0, 1), (1, .iload_n 1, 1), (2, .invokevirtual 554, 3), (5, .aload_n 0, 1), (6, .dup, 1), (7, .getfield 551, 3)]
theorem aJ_330_0 : sx_iB prog_14_method_12_code aI_330_0 = true := by decide +kernel
def aI_330_1 : sx_IL := [(10, .iconst 1, 1), (11, .iadd, 1), (12, .putfield 551, 3), (15, .return_, 1)]
theorem aJ_330_1 : sx_iB prog_14_method_12_code aI_330_1 = true := by decide +kernel
def aS_330 (pc : Nat) : sx_IL := (if pc < 10 then aI_330_0 else aI_330_1)
theorem aT_330 (pc : Nat) : sx_iOk prog_14_method_12_code (aS_330 pc) := (sx_ite (p := fun l => sx_iOk prog_14_method_12_code l) (sx_iB_s aJ_330_0) (sx_iB_s aJ_330_1))
def aW_330 : Nat → Option (Instr × Nat) := fun pc => sx_iF (aS_330 pc) pc
theorem aX_330 : ∀ pc i len, aW_330 pc = some (i, len) → decode aM_330.1.2.1 pc = .ok (i, len) := fun pc i len h => sx_iF_s (aT_330 pc) h
def aI_331_0 : sx_IL := [(0, .aload_n 0, 1), (1, .aload_n 0, 1), (2, .getfield 547, 3), (5, .bipush 8, 2), (7, .lshl, 1), (8, .iload_n 1, 1)]
theorem aJ_331_0 : sx_iB prog_14_method_13_code aI_331_0 = true := by decide +kernel
def aI_331_1 : sx_IL := [(9, .i2l, 1), (10, .lor, 1), (11, .putfield 547, 3), (14, .aload_n 0, 1), (15, .dup, 1), (16, .getfield 544, 3)]
theorem aJ_331_1 : sx_iB prog_14_method_13_code aI_331_1 = true := by decide +kernel
def aI_331_2 : sx_IL := [(19, .iconst 1, 1), (20, .iadd, 1), (21, .putfield 544, 3), (24, .aload_n 0, 1), (25, .getfield 544, 3), (28, .bipush 8, 2)]
theorem aJ_331_2 : sx_iB prog_14_method_13_code aI_331_2 = true := by decide +kernel
def aI_331_3 : sx_IL := [(30, .if_icmp .ne 48, 3), (33, .aload_n 0, 1), (34, .dup, 1), (35, .getfield 526, 3), (38, .aload_n 0, 1), (39, .getfield 547, 3)]
theorem aJ_331_3 : sx_iB prog_14_method_13_code aI_331_3 = true := by decide +kernel
def aI_331_4 : sx_IL := [(42, .bipush 32, 2), (44, .lushr, 1), (45, .l2i, 1), (46, .ixor, 1), (47, .putfield 526, 3), (50, .aload_n 0, 1)]
theorem aJ_331_4 : sx_iB prog_14_method_13_code aI_331_4 = true := by decide +kernel
def aI_331_5 : sx_IL := [(51, .dup, 1), (52, .getfield 529, 3), (55, .aload_n 0, 1), (56, .getfield 547, 3), (59, .l2i, 1), (60, .ixor, 1)]
theorem aJ_331_5 : sx_iB prog_14_method_13_code aI_331_5 = true := by decide +kernel
def aI_331_6 : sx_IL := [(61, .putfield 529, 3), (64, .aload_n 0, 1), (65, .invokevirtual 558, 3), (68, .aload_n 0, 1), (69, .iconst 0, 1), (70, .putfield 544, 3)]
theorem aJ_331_6 : sx_iB prog_14_method_13_code aI_331_6 = true := by decide +kernel
def aI_331_7 : sx_IL := [(73, .aload_n 0, 1), (74, .lconst 0, 1), (75, .putfield 547, 3), (78, .return_, 1)]
theorem aJ_331_7 : sx_iB prog_14_method_13_code aI_331_7 = true := by decide +kernel
def aS_331 (pc : Nat) : sx_IL := (if pc < 42 then (if pc < 19 then (if pc < 9 then aI_331_0 else aI_331_1) else (if pc < 30 then aI_331_2 else aI_331_3)) else (if pc < 61 then (if pc < 51 then aI_331_4 else aI_331_5) else (if pc < 73 then aI_331_6 else aI_331_7)))
theorem aT_331 (pc : Nat) : sx_iOk prog_14_method_13_code (aS_331 pc) := (sx_ite (p := fun l => sx_iOk prog_14_method_13_code l) (sx_ite (p := fun l => sx_iOk prog_14_method_13_code l) (sx_ite (p := fun l => sx_iOk prog_14_method_13_code l) (sx_iB_s aJ_331_0) (sx_iB_s aJ_331_1)) (sx_ite (p := fun l => sx_iOk prog_14_method_13_code l) (sx_iB_s aJ_331_2) (sx_iB_s aJ_331_3))) (sx_ite (p := fun l => sx_iOk prog_14_method_13_code l) (sx_ite (p := fun l => sx_iOk prog_14_method_13_code l) (sx_iB_s aJ_331_4) (sx_iB_s aJ_331_5)) (sx_ite (p := fun l => sx_iOk prog_14_method_13_code l) (sx_iB_s aJ_331_6) (sx_iB_s aJ_331_7))))
def aW_331 : Nat → Option (Instr × Nat) := fun pc => sx_iF (aS_331 pc) pc
theorem aX_331 : ∀ pc i len, aW_331 pc = some (i, len) → decode aM_331.1.2.1 pc = .ok (i, len) := fun pc i len h => sx_iF_s (aT_331 pc) h
def aI_332_0 : sx_IL := [(0, .iconst 1, 1), (1, .istore_n 1, 1), (2, .iload_n 1, 1), (3, .bipush 8, 2), (5, .if_icmp .gt 143, 3), (8, .aload_n 0, 1)]
theorem aJ_332_0 : sx_iB prog_14_method_9_code aI_332_0 = true := by decide +kernel
def aI_332_1 : sx_IL := [(9, .dup, 1), (10, .getfield 526, 3), (13, .aload_n 0, 1), (14, .getfield 529, 3), (17, .iadd, 1), (18, .putfield 526, 3)]
theorem aJ_332_1 : sx_iB prog_14_method_9_code aI_332_1 = true := by decide +kernel
def aI_332_2 : sx_IL := [(21, .aload_n 0, 1), (22, .aload_n 0, 1), (23, .getfield 532, 3), (26, .aload_n 0, 1), (27, .getfield 526, 3), (30, .ixor, 1)]
theorem aJ_332_2 : sx_iB prog_14_method_9_code aI_332_2 = true := by decide +kernel
def aI_332_3 : sx_IL := [(31, .bipush 16, 2), (33, .invokestatic 535, 3), (36, .putfield 532, 3), (39, .aload_n 0, 1), (40, .dup, 1), (41, .getfield 539, 3)]
theorem aJ_332_3 : sx_iB prog_14_method_9_code aI_332_3 = true := by decide +kernel
def aI_332_4 : sx_IL := [(44, .aload_n 0, 1), (45, .getfield 532, 3), (48, .iadd, 1), (49, .putfield 539, 3), (52, .aload_n 0, 1), (53, .aload_n 0, 1)]
theorem aJ_332_4 : sx_iB prog_14_method_9_code aI_332_4 = true := by decide +kernel
def aI_332_5 : sx_IL := [(54, .getfield 529, 3), (57, .aload_n 0, 1), (58, .getfield 539, 3), (61, .ixor, 1), (62, .bipush 12, 2), (64, .invokestatic 535, 3)]
theorem aJ_332_5 : sx_iB prog_14_method_9_code aI_332_5 = true := by decide +kernel
def aI_332_6 : sx_IL := [(67, .putfield 529, 3), (70, .aload_n 0, 1), (71, .dup, 1), (72, .getfield 526, 3), (75, .aload_n 0, 1), (76, .getfield 529, 3)]
theorem aJ_332_6 : sx_iB prog_14_method_9_code aI_332_6 = true := by decide +kernel
def aI_332_7 : sx_IL := [(79, .iadd, 1), (80, .putfield 526, 3), (83, .aload_n 0, 1), (84, .aload_n 0, 1), (85, .getfield 532, 3), (88, .aload_n 0, 1)]
theorem aJ_332_7 : sx_iB prog_14_method_9_code aI_332_7 = true := by decide +kernel
def aI_332_8 : sx_IL := [(89, .getfield 526, 3), (92, .ixor, 1), (93, .bipush 8, 2), (95, .invokestatic 535, 3), (98, .putfield 532, 3), (101, .aload_n 0, 1)]
theorem aJ_332_8 : sx_iB prog_14_method_9_code aI_332_8 = true := by decide +kernel
def aI_332_9 : sx_IL := [(102, .dup, 1), (103, .getfield 539, 3), (106, .aload_n 0, 1), (107, .getfield 532, 3), (110, .iadd, 1), (111, .putfield 539, 3)]
theorem aJ_332_9 : sx_iB prog_14_method_9_code aI_332_9 = true := by decide +kernel
def aI_332_10 : sx_IL := [(114, .aload_n 0, 1), (115, .aload_n 0, 1), (116, .getfield 529, 3), (119, .aload_n 0, 1), (120, .getfield 539, 3), (123, .ixor, 1)]
theorem aJ_332_10 : sx_iB prog_14_method_9_code aI_332_10 = true := by decide +kernel
def aI_332_11 : sx_IL := [(124, .bipush 7, 2), (126, .invokestatic 535, 3), (129, .putfield 529, 3), (132, .aload_n 0, 1), (133, .dup, 1), (134, .getfield 526, 3)]
theorem aJ_332_11 : sx_iB prog_14_method_9_code aI_332_11 = true := by decide +kernel
def aI_332_12 : sx_IL := [(137, .iload_n 1, 1), (138, .ixor, 1), (139, .putfield 526, 3), (142, .iinc 1 1, 3), (145, .goto (-143), 3), (148, .return_, 1)]
theorem aJ_332_12 : sx_iB prog_14_method_9_code aI_332_12 = true := by decide +kernel
def aS_332 (pc : Nat) : sx_IL := (if pc < 67 then (if pc < 31 then (if pc < 9 then aI_332_0 else (if pc < 21 then aI_332_1 else aI_332_2)) else (if pc < 44 then aI_332_3 else (if pc < 54 then aI_332_4 else aI_332_5))) else (if pc < 102 then (if pc < 79 then aI_332_6 else (if pc < 89 then aI_332_7 else aI_332_8)) else (if pc < 124 then (if pc < 114 then aI_332_9 else aI_332_10) else (if pc < 137 then aI_332_11 else aI_332_12))))
theorem aT_332 (pc : Nat) : sx_iOk prog_14_method_9_code (aS_332 pc) := (sx_ite (p := fun l => sx_iOk prog_14_method_9_code l) (sx_ite (p := fun l => sx_iOk prog_14_method_9_code l) (sx_ite (p := fun l => sx_iOk prog_14_method_9_code l) (sx_iB_s aJ_332_0) (sx_ite (p := fun l => sx_iOk prog_14_method_9_code l) (sx_iB_s aJ_332_1) (sx_iB_s aJ_332_2))) (sx_ite (p := fun l => sx_iOk prog_14_method_9_code l) (sx_iB_s aJ_332_3) (sx_ite (p := fun l => sx_iOk prog_14_method_9_code l) (sx_iB_s aJ_332_4) (sx_iB_s aJ_332_5)))) (sx_ite (p := fun l => sx_iOk prog_14_method_9_code l) (sx_ite (p := fun l => sx_iOk prog_14_method_9_code l) (sx_iB_s aJ_332_6) (sx_ite (p := fun l => sx_iOk prog_14_method_9_code l) (sx_iB_s aJ_332_7) (sx_iB_s aJ_332_8))) (sx_ite (p := fun l => sx_iOk prog_14_method_9_code l) (sx_ite (p := fun l => sx_iOk prog_14_method_9_code l) (sx_iB_s aJ_332_9) (sx_iB_s aJ_332_10)) (sx_ite (p := fun l => sx_iOk prog_14_method_9_code l) (sx_iB_s aJ_332_11) (sx_iB_s aJ_332_12)))))
def aW_332 : Nat → Option (Instr × Nat) := fun pc => sx_iF (aS_332 pc) pc
theorem aX_332 : ∀ pc i len, aW_332 pc = some (i, len) → decode aM_332.1.2.1 pc = .ok (i, len) := fun pc i len h => sx_iF_s (aT_332 pc) h
def aI_333_0 : sx_IL := [(0, .iload_n 0, 1), (1, .iload_n 1, 1), (2, .ishl, 1), (3, .iload_n 0, 1), (4, .bipush 32, 2), (6, .iload_n 1, 1)]
theorem aJ_333_0 : sx_iB prog_14_method_8_code aI_333_0 = true := by decide +kernel
def aI_333_1 : sx_IL := [(7, .isub, 1), (8, .iushr, 1), (9, .ior, 1), (10, .ireturn, 1)]
theorem aJ_333_1 : sx_iB prog_14_method_8_code aI_333_1 = true := by decide +kernel
def aS_333 (pc : Nat) : sx_IL := (if pc < 7 then aI_333_0 else aI_333_1)
theorem aT_333 (pc : Nat) : sx_iOk prog_14_method_8_code (aS_333 pc) := (sx_ite (p := fun l => sx_iOk prog_14_method_8_code l) (sx_iB_s aJ_333_0) (sx_iB_s aJ_333_1))
def aW_333 : Nat → Option (Instr × Nat) := fun pc => sx_iF (aS_333 pc) pc
theorem aX_333 : ∀ pc i len, aW_333 pc = some (i, len) → decode aM_333.1.2.1 pc = .ok (i, len) := fun pc i len h => sx_iF_s (aT_333 pc) h
def aI_334_0 : sx_IL := [(0, .aload_n 0, 1), (1, .sipush 128, 3), (4, .invokevirtual 554, 3), (7, .aload_n 0, 1), (8, .getfield 544, 3), (11, .ifCond .le 11, 3)]
theorem aJ_334_0 : sx_iB prog_14_method_17_code aI_334_0 = true := by decide +kernel
def aI_334_1 : sx_IL := [(14, .aload_n 0, 1), (15, .iconst 0, 1), (16, .invokevirtual 554, 3), (19, .goto (-12), 3), (22, .aload_n 0, 1), (23, .dup, 1)]
theorem aJ_334_1 : sx_iB prog_14_method_17_code aI_334_1 = true := by decide +kernel
def aI_334_2 : sx_IL := [(24, .getfield 539, 3), (27, .aload_n 0, 1), (28, .getfield 551, 3), (31, .ixor, 1), (32, .putfield 539, 3), (35, .aload_n 0, 1)]
theorem aJ_334_2 : sx_iB prog_14_method_17_code aI_334_2 = true := by decide +kernel
def aI_334_3 : sx_IL := [(36, .invokevirtual 558, 3), (39, .aload_n 0, 1), (40, .invokevirtual 564, 3), (43, .lreturn, 1)]
theorem aJ_334_3 : sx_iB prog_14_method_17_code aI_334_3 = true := by decide +kernel
def aS_334 (pc : Nat) : sx_IL := (if pc < 24 then (if pc < 14 then aI_334_0 else aI_334_1) else (if pc < 36 then aI_334_2 else aI_334_3))
theorem aT_334 (pc : Nat) : sx_iOk prog_14_method_17_code (aS_334 pc) := (sx_ite (p := fun l => sx_iOk prog_14_method_17_code l) (sx_ite (p := fun l => sx_iOk prog_14_method_17_code l) (sx_iB_s aJ_334_0) (sx_iB_s aJ_334_1)) (sx_ite (p := fun l => sx_iOk prog_14_method_17_code l) (sx_iB_s aJ_334_2) (sx_iB_s aJ_334_3)))
def aW_334 : Nat → Option (Instr × Nat) := fun pc => sx_iF (aS_334 pc) pc
theorem aX_334 : ∀ pc i len, aW_334 pc = some (i, len) → decode aM_334.1.2.1 pc = .ok (i, len) := fun pc i len h => sx_iF_s (aT_334 pc) h
def aI_335_0 : sx_IL := [(0, .aload_n 0, 1), (1, .getfield 526, 3), (4, .aload_n 0, 1), (5, .getfield 539, 3), (8, .ixor, 1), (9, .i2l, 1)]
theorem aJ_335_0 : sx_iB prog_14_method_10_code aI_335_0 = true := by decide +kernel
def aI_335_1 : sx_IL := [(10, .bipush 32, 2), (12, .lshl, 1), (13, .aload_n 0, 1), (14, .getfield 529, 3), (17, .aload_n 0, 1), (18, .getfield 532, 3)]
theorem aJ_335_1 : sx_iB prog_14_method_10_code aI_335_1 = true := by decide +kernel
def aI_335_2 : sx_IL := [(21, .ixor, 1), (22, .i2l, 1), (23, .ldc2_w 542, 3), (26, .land, 1), (27, .lor, 1), (28, .lreturn, 1)]
theorem aJ_335_2 : sx_iB prog_14_method_10_code aI_335_2 = true := by decide +kernel
def aS_335 (pc : Nat) : sx_IL := (if pc < 10 then aI_335_0 else (if pc < 21 then aI_335_1 else aI_335_2))
theorem aT_335 (pc : Nat) : sx_iOk prog_14_method_10_code (aS_335 pc) := (sx_ite (p := fun l => sx_iOk prog_14_method_10_code l) (sx_iB_s aJ_335_0) (sx_ite (p := fun l => sx_iOk prog_14_method_10_code l) (sx_iB_s aJ_335_1) (sx_iB_s aJ_335_2)))
def aW_335 : Nat → Option (Instr × Nat) := fun pc => sx_iF (aS_335 pc) pc
theorem aX_335 : ∀ pc i len, aW_335 pc = some (i, len) → decode aM_335.1.2.1 pc = .ok (i, len) := fun pc i len h => sx_iF_s (aT_335 pc) h
def aI_336_0 : sx_IL := [(0, .iload_n 1, 1), (1, .i2l, 1), (2, .lconst 0, 1), (3, .lconst 1, 1), (4, .invokestatic 513, 3), (7, .ifCond .ne 7, 3)]
theorem aJ_336_0 : sx_iB prog_14_method_23_code aI_336_0 = true := by decide +kernel
def aI_336_1 : sx_IL := [(10, .ldc2_w 590, 3), (13, .lreturn, 1), (14, .aload_n 0, 1), (15, .iload_n 1, 1), (16, .lload_n 2, 1), (17, .invokevirtual 578, 3)]
theorem aJ_336_1 : sx_iB prog_14_method_23_code aI_336_1 = true := by decide +kernel
def aI_336_2 : sx_IL := [(20, .aload_n 0, 1), (21, .aload_n 0, 1), (22, .getfield 7, 3), (25, .iconst 0, 1), (26, .aload_n 0, 1), (27, .getfield 517, 3)]
theorem aJ_336_2 : sx_iB prog_14_method_23_code aI_336_2 = true := by decide +kernel
def aI_336_3 : sx_IL := [(30, .invokevirtual 586, 3), (33, .aload_n 0, 1), (34, .iconst 0, 1), (35, .putfield 517, 3), (38, .aload_n 0, 1), (39, .iload_n 1, 1)]
theorem aJ_336_3 : sx_iB prog_14_method_23_code aI_336_3 = true := by decide +kernel
def aI_336_4 : sx_IL := [(40, .lload_n 2, 1), (41, .invokevirtual 582, 3), (44, .lreturn, 1)]
theorem aJ_336_4 : sx_iB prog_14_method_23_code aI_336_4 = true := by decide +kernel
def aS_336 (pc : Nat) : sx_IL := (if pc < 20 then (if pc < 10 then aI_336_0 else aI_336_1) else (if pc < 30 then aI_336_2 else (if pc < 40 then aI_336_3 else aI_336_4)))
theorem aT_336 (pc : Nat) : sx_iOk prog_14_method_23_code (aS_336 pc) := (sx_ite (p := fun l => sx_iOk prog_14_method_23_code l) (sx_ite (p := fun l => sx_iOk prog_14_method_23_code l) (sx_iB_s aJ_336_0) (sx_iB_s aJ_336_1)) (sx_ite (p := fun l => sx_iOk prog_14_method_23_code l) (sx_iB_s aJ_336_2) (sx_ite (p := fun l => sx_iOk prog_14_method_23_code l) (sx_iB_s aJ_336_3) (sx_iB_s aJ_336_4))))
def aW_336 : Nat → Option (Instr × Nat) := fun pc => sx_iF (aS_336 pc) pc
theorem aX_336 : ∀ pc i len, aW_336 pc = some (i, len) → decode aM_336.1.2.1 pc = .ok (i, len) := fun pc i len h => sx_iF_s (aT_336 pc) h
def aI_337_0 : sx_IL := [(0, .aload_n 0, 1), (1, .iload_n 1, 1), (2, .invokevirtual 568, 3), (5, .bipush 7, 2), (7, .istore 4, 2), (9, .iload 4, 2)]
theorem aJ_337_0 : sx_iB prog_14_method_18_code aI_337_0 = true := by decide +kernel
def aI_337_1 : sx_IL := [(11, .ifCond .lt 28, 3), (14, .aload_n 0, 1), (15, .lload_n 2, 1), (16, .bipush 8, 2), (18, .iload 4, 2), (20, .imul, 1)]
theorem aJ_337_1 : sx_iB prog_14_method_18_code aI_337_1 = true := by decide +kernel
def aI_337_2 : sx_IL := [(21, .lushr, 1), (22, .l2i, 1), (23, .sipush 255, 3), (26, .iand, 1), (27, .bipush 54, 2), (29, .ixor, 1)]
theorem aJ_337_2 : sx_iB prog_14_method_18_code aI_337_2 = true := by decide +kernel
def aI_337_3 : sx_IL := [(30, .invokevirtual 561, 3), (33, .iinc 4 (-1), 3), (36, .goto (-27), 3), (39, .return_, 1)]
theorem aJ_337_3 : sx_iB prog_14_method_18_code aI_337_3 = true := by decide +kernel
def aS_337 (pc : Nat) : sx_IL := (if pc < 21 then (if pc < 11 then aI_337_0 else aI_337_1) else (if pc < 30 then aI_337_2 else aI_337_3))
theorem aT_337 (pc : Nat) : sx_iOk prog_14_method_18_code (aS_337 pc) := (sx_ite (p := fun l => sx_iOk prog_14_method_18_code l) (sx_ite (p := fun l => sx_iOk prog_14_method_18_code l) (sx_iB_s aJ_337_0) (sx_iB_s aJ_337_1)) (sx_ite (p := fun l => sx_iOk prog_14_method_18_code l) (sx_iB_s aJ_337_2) (sx_iB_s aJ_337_3)))
def aW_337 : Nat → Option (Instr × Nat) := fun pc => sx_iF (aS_337 pc) pc
theorem aX_337 : ∀ pc i len, aW_337 pc = some (i, len) → decode aM_337.1.2.1 pc = .ok (i, len) := fun pc i len h => sx_iF_s (aT_337 pc) h
def aI_338_0 : sx_IL := [(0, .aload_n 0, 1), (1, .invokevirtual 571, 3), (4, .lstore 4, 2), (6, .aload_n 0, 1), (7, .iload_n 1, 1), (8, .invokevirtual 568, 3)]
theorem aJ_338_0 : sx_iB prog_14_method_19_code aI_338_0 = true := by decide +kernel
def aI_338_1 : sx_IL := [(11, .bipush 7, 2), (13, .istore 6, 2), (15, .iload 6, 2), (17, .ifCond .lt 28, 3), (20, .aload_n 0, 1), (21, .lload_n 2, 1)]
theorem aJ_338_1 : sx_iB prog_14_method_19_code aI_338_1 = true := by decide +kernel
def aI_338_2 : sx_IL := [(22, .bipush 8, 2), (24, .iload 6, 2), (26, .imul, 1), (27, .lushr, 1), (28, .l2i, 1), (29, .sipush 255, 3)]
theorem aJ_338_2 : sx_iB prog_14_method_19_code aI_338_2 = true := by decide +kernel
def aI_338_3 : sx_IL := [(32, .iand, 1), (33, .bipush 92, 2), (35, .ixor, 1), (36, .invokevirtual 561, 3), (39, .iinc 6 (-1), 3), (42, .goto (-27), 3)]
theorem aJ_338_3 : sx_iB prog_14_method_19_code aI_338_3 = true := by decide +kernel
def aI_338_4 : sx_IL := [(45, .aload_n 0, 1), (46, .lload 4, 2), (48, .invokevirtual 574, 3), (51, .aload_n 0, 1), (52, .invokevirtual 571, 3), (55, .lreturn, 1)]
theorem aJ_338_4 : sx_iB prog_14_method_19_code aI_338_4 = true := by decide +kernel
def aS_338 (pc : Nat) : sx_IL := (if pc < 22 then (if pc < 11 then aI_338_0 else aI_338_1) else (if pc < 32 then aI_338_2 else (if pc < 45 then aI_338_3 else aI_338_4)))
theorem aT_338 (pc : Nat) : sx_iOk prog_14_method_19_code (aS_338 pc) := (sx_ite (p := fun l => sx_iOk prog_14_method_19_code l) (sx_ite (p := fun l => sx_iOk prog_14_method_19_code l) (sx_iB_s aJ_338_0) (sx_iB_s aJ_338_1)) (sx_ite (p := fun l => sx_iOk prog_14_method_19_code l) (sx_iB_s aJ_338_2) (sx_ite (p := fun l => sx_iOk prog_14_method_19_code l) (sx_iB_s aJ_338_3) (sx_iB_s aJ_338_4))))
def aW_338 : Nat → Option (Instr × Nat) := fun pc => sx_iF (aS_338 pc) pc
theorem aX_338 : ∀ pc i len, aW_338 pc = some (i, len) → decode aM_338.1.2.1 pc = .ok (i, len) := fun pc i len h => sx_iF_s (aT_338 pc) h
def aI_339_0 : sx_IL := [(0, .bipush 7, 2), (2, .istore_n 3, 1), (3, .iload_n 3, 1), (4, .ifCond .lt 24, 3), (7, .aload_n 0, 1), (8, .lload_n 1, 1)]
theorem aJ_339_0 : sx_iB prog_14_method_15_code aI_339_0 = true := by decide +kernel
def aI_339_1 : sx_IL := [(9, .bipush 8, 2), (11, .iload_n 3, 1), (12, .imul, 1), (13, .lushr, 1), (14, .l2i, 1), (15, .sipush 255, 3)]
theorem aJ_339_1 : sx_iB prog_14_method_15_code aI_339_1 = true := by decide +kernel
def aI_339_2 : sx_IL := [(18, .iand, 1), (19, .invokevirtual 561, 3), (22, .iinc 3 (-1), 3), (25, .goto (-22), 3), (28, .return_, 1)]
theorem aJ_339_2 : sx_iB prog_14_method_15_code aI_339_2 = true := by decide +kernel
def aS_339 (pc : Nat) : sx_IL := (if pc < 9 then aI_339_0 else (if pc < 18 then aI_339_1 else aI_339_2))
theorem aT_339 (pc : Nat) : sx_iOk prog_14_method_15_code (aS_339 pc) := (sx_ite (p := fun l => sx_iOk prog_14_method_15_code l) (sx_iB_s aJ_339_0) (sx_ite (p := fun l => sx_iOk prog_14_method_15_code l) (sx_iB_s aJ_339_1) (sx_iB_s aJ_339_2)))
def aW_339 : Nat → Option (Instr × Nat) := fun pc => sx_iF (aS_339 pc) pc
theorem aX_339 : ∀ pc i len, aW_339 pc = some (i, len) → decode aM_339.1.2.1 pc = .ok (i, len) := fun pc i len h => sx_iF_s (aT_339 pc) h
def aI_340_0 : sx_IL := [(0, .iload_n 1, 1), (1, .i2l, 1), (2, .lconst 0, 1), (3, .lconst 1, 1), (4, .invokestatic 513, 3), (7, .ifCond .eq 29, 3)]
theorem aJ_340_0 : sx_iB prog_14_method_24_code aI_340_0 = true := by decide +kernel
def aI_340_1 : sx_IL := [(10, .iload 4, 2), (12, .i2l, 1), (13, .lconst 0, 1), (14, .ldc2_w 596, 3), (17, .invokestatic 513, 3), (20, .ifCond .eq 16, 3)]
theorem aJ_340_1 : sx_iB prog_14_method_24_code aI_340_1 = true := by decide +kernel
def aI_340_2 : sx_IL := [(23, .aload_n 0, 1), (24, .iload_n 1, 1), (25, .lload_n 2, 1), (26, .iload 4, 2), (28, .lload 5, 2), (30, .invokevirtual 598, 3)]
theorem aJ_340_2 : sx_iB prog_14_method_24_code aI_340_2 = true := by decide +kernel
def aI_340_3 : sx_IL := [(33, .goto 6, 3), (36, .ldc2_w 590, 3), (39, .lreturn, 1)]
theorem aJ_340_3 : sx_iB prog_14_method_24_code aI_340_3 = true := by decide +kernel
def aS_340 (pc : Nat) : sx_IL := (if pc < 23 then (if pc < 10 then aI_340_0 else aI_340_1) else (if pc < 33 then aI_340_2 else aI_340_3))
theorem aT_340 (pc : Nat) : sx_iOk prog_14_method_24_code (aS_340 pc) := (sx_ite (p := fun l => sx_iOk prog_14_method_24_code l) (sx_ite (p := fun l => sx_iOk prog_14_method_24_code l) (sx_iB_s aJ_340_0) (sx_iB_s aJ_340_1)) (sx_ite (p := fun l => sx_iOk prog_14_method_24_code l) (sx_iB_s aJ_340_2) (sx_iB_s aJ_340_3)))
def aW_340 : Nat → Option (Instr × Nat) := fun pc => sx_iF (aS_340 pc) pc
theorem aX_340 : ∀ pc i len, aW_340 pc = some (i, len) → decode aM_340.1.2.1 pc = .ok (i, len) := fun pc i len h => sx_iF_s (aT_340 pc) h
def aI_341_0 : sx_IL := [(0, .aload_n 0, 1), (1, .iload_n 1, 1), (2, .lload_n 2, 1), (3, .invokevirtual 578, 3), (6, .aload_n 0, 1), (7, .iload 4, 2)]
theorem aJ_341_0 : sx_iB prog_14_method_20_code aI_341_0 = true := by decide +kernel
def aI_341_1 : sx_IL := [(9, .invokevirtual 561, 3), (12, .aload_n 0, 1), (13, .lload 5, 2), (15, .invokevirtual 574, 3), (18, .aload_n 0, 1), (19, .iload_n 1, 1)]
theorem aJ_341_1 : sx_iB prog_14_method_20_code aI_341_1 = true := by decide +kernel
def aI_341_2 : sx_IL := [(20, .lload_n 2, 1), (21, .invokevirtual 582, 3), (24, .lreturn, 1)]
theorem aJ_341_2 : sx_iB prog_14_method_20_code aI_341_2 = true := by decide +kernel
def aS_341 (pc : Nat) : sx_IL := (if pc < 9 then aI_341_0 else (if pc < 20 then aI_341_1 else aI_341_2))
theorem aT_341 (pc : Nat) : sx_iOk prog_14_method_20_code (aS_341 pc) := (sx_ite (p := fun l => sx_iOk prog_14_method_20_code l) (sx_iB_s aJ_341_0) (sx_ite (p := fun l => sx_iOk prog_14_method_20_code l) (sx_iB_s aJ_341_1) (sx_iB_s aJ_341_2)))
def aW_341 : Nat → Option (Instr × Nat) := fun pc => sx_iF (aS_341 pc) pc
theorem aX_341 : ∀ pc i len, aW_341 pc = some (i, len) → decode aM_341.1.2.1 pc = .ok (i, len) := fun pc i len h => sx_iF_s (aT_341 pc) h
def aI_342_0 : sx_IL := [(0, .iload_n 1, 1), (1, .i2l, 1), (2, .lconst 1, 1), (3, .ldc2_w 609, 3), (6, .invokestatic 513, 3), (9, .ifCond .eq 18, 3)]
theorem aJ_342_0 : sx_iB prog_14_method_30_code aI_342_0 = true := by decide +kernel
def aI_342_1 : sx_IL := [(12, .iload 6, 2), (14, .i2l, 1), (15, .lconst 0, 1), (16, .aload_n 0, 1), (17, .getfield 517, 3), (20, .i2l, 1)]
theorem aJ_342_1 : sx_iB prog_14_method_30_code aI_342_1 = true := by decide +kernel
def aI_342_2 : sx_IL := [(21, .invokestatic 513, 3), (24, .ifCond .ne 5, 3), (27, .iconst (-1), 1), (28, .ireturn, 1), (29, .aload_n 0, 1), (30, .getfield 517, 3)]
theorem aJ_342_2 : sx_iB prog_14_method_30_code aI_342_2 = true := by decide +kernel
def aI_342_3 : sx_IL := [(33, .iload 6, 2), (35, .isub, 1), (36, .istore 7, 2), (38, .iconst 0, 1), (39, .istore 8, 2), (41, .iload 8, 2)]
theorem aJ_342_3 : sx_iB prog_14_method_30_code aI_342_3 = true := by decide +kernel
def aI_342_4 : sx_IL := [(43, .iload 7, 2), (45, .if_icmp .ge 26, 3), (48, .aload_n 0, 1), (49, .getfield 13, 3), (52, .iload 8, 2), (54, .aload_n 0, 1)]
theorem aJ_342_4 : sx_iB prog_14_method_30_code aI_342_4 = true := by decide +kernel
def aI_342_5 : sx_IL := [(55, .getfield 7, 3), (58, .iload 6, 2), (60, .iload 8, 2), (62, .iadd, 1), (63, .iaload, 1), (64, .iastore, 1)]
theorem aJ_342_5 : sx_iB prog_14_method_30_code aI_342_5 = true := by decide +kernel
def aI_342_6 : sx_IL := [(65, .iinc 8 1, 3), (68, .goto (-27), 3), (71, .aload_n 0, 1), (72, .lload_n 2, 1), (73, .lload 4, 2), (75, .aload_n 0, 1)]
theorem aJ_342_6 : sx_iB prog_14_method_30_code aI_342_6 = true := by decide +kernel
def aI_342_7 : sx_IL := [(76, .getfield 13, 3), (79, .iconst 0, 1), (80, .iload 7, 2), (82, .invokevirtual 611, 3), (85, .aload_n 0, 1), (86, .iload_n 1, 1)]
theorem aJ_342_7 : sx_iB prog_14_method_30_code aI_342_7 = true := by decide +kernel
def aI_342_8 : sx_IL := [(87, .lload_n 2, 1), (88, .lload 4, 2), (90, .aload_n 0, 1), (91, .getfield 7, 3), (94, .iconst 0, 1), (95, .iload 6, 2)]
theorem aJ_342_8 : sx_iB prog_14_method_30_code aI_342_8 = true := by decide +kernel
def aI_342_9 : sx_IL := [(97, .aload_n 0, 1), (98, .getfield 13, 3), (101, .iconst 0, 1), (102, .iload 7, 2), (104, .invokevirtual 615, 3), (107, .lstore 8, 2)]
theorem aJ_342_9 : sx_iB prog_14_method_30_code aI_342_9 = true := by decide +kernel
def aI_342_10 : sx_IL := [(109, .iconst 0, 1), (110, .istore 10, 2), (112, .iload 10, 2), (114, .iload_n 1, 1), (115, .invokestatic 619, 3), (118, .if_icmp .ge 26, 3)]
theorem aJ_342_10 : sx_iB prog_14_method_30_code aI_342_10 = true := by decide +kernel
def aI_342_11 : sx_IL := [(121, .aload_n 0, 1), (122, .getfield 13, 3), (125, .iload 7, 2), (127, .iload 10, 2), (129, .iadd, 1), (130, .lload 8, 2)]
theorem aJ_342_11 : sx_iB prog_14_method_30_code aI_342_11 = true := by decide +kernel
def aI_342_12 : sx_IL := [(132, .iload 10, 2), (134, .invokestatic 622, 3), (137, .iastore, 1), (138, .iinc 10 1, 3), (141, .goto (-29), 3), (144, .aload_n 0, 1)]
theorem aJ_342_12 : sx_iB prog_14_method_30_code aI_342_12 = true := by decide +kernel
def aI_342_13 : sx_IL := [(145, .iload 7, 2), (147, .iload_n 1, 1), (148, .invokestatic 619, 3), (151, .iadd, 1), (152, .putfield 520, 3), (155, .aload_n 0, 1)]
theorem aJ_342_13 : sx_iB prog_14_method_30_code aI_342_13 = true := by decide +kernel
def aI_342_14 : sx_IL := [(156, .iconst 0, 1), (157, .putfield 517, 3), (160, .aload_n 0, 1), (161, .getfield 520, 3), (164, .ireturn, 1)]
theorem aJ_342_14 : sx_iB prog_14_method_30_code aI_342_14 = true := by decide +kernel
def aS_342 (pc : Nat) : sx_IL := (if pc < 76 then (if pc < 33 then (if pc < 12 then aI_342_0 else (if pc < 21 then aI_342_1 else aI_342_2)) else (if pc < 55 then (if pc < 43 then aI_342_3 else aI_342_4) else (if pc < 65 then aI_342_5 else aI_342_6))) else (if pc < 121 then (if pc < 97 then (if pc < 87 then aI_342_7 else aI_342_8) else (if pc < 109 then aI_342_9 else aI_342_10)) else (if pc < 145 then (if pc < 132 then aI_342_11 else aI_342_12) else (if pc < 156 then aI_342_13 else aI_342_14))))
theorem aT_342 (pc : Nat) : sx_iOk prog_14_method_30_code (aS_342 pc) := (sx_ite (p := fun l => sx_iOk prog_14_method_30_code l) (sx_ite (p := fun l => sx_iOk prog_14_method_30_code l) (sx_ite (p := fun l => sx_iOk prog_14_method_30_code l) (sx_iB_s aJ_342_0) (sx_ite (p := fun l => sx_iOk prog_14_method_30_code l) (sx_iB_s aJ_342_1) (sx_iB_s aJ_342_2))) (sx_ite (p := fun l => sx_iOk prog_14_method_30_code l) (sx_ite (p := fun l => sx_iOk prog_14_method_30_code l) (sx_iB_s aJ_342_3) (sx_iB_s aJ_342_4)) (sx_ite (p := fun l => sx_iOk prog_14_method_30_code l) (sx_iB_s aJ_342_5) (sx_iB_s aJ_342_6)))) (sx_ite (p := fun l => sx_iOk prog_14_method_30_code l) (sx_ite (p := fun l => sx_iOk prog_14_method_30_code l) (sx_ite (p := fun l => sx_iOk prog_14_method_30_code l) (sx_iB_s aJ_342_7) (sx_iB_s aJ_342_8)) (sx_ite (p := fun l => sx_iOk prog_14_method_30_code l) (sx_iB_s aJ_342_9) (sx_iB_s aJ_342_10))) (sx_ite (p := fun l => sx_iOk prog_14_method_30_code l) (sx_ite (p := fun l => sx_iOk prog_14_method_30_code l) (sx_iB_s aJ_342_11) (sx_iB_s aJ_342_12)) (sx_ite (p := fun l => sx_iOk prog_14_method_30_code l) (sx_iB_s aJ_342_13) (sx_iB_s aJ_342_14)))))
def aW_342 : Nat → Option (Instr × Nat) := fun pc => sx_iF (aS_342 pc) pc
theorem aX_342 : ∀ pc i len, aW_342 pc = some (i, len) → decode aM_342.1.2.1 pc = .ok (i, len) := fun pc i len h => sx_iF_s (aT_342 pc) h
def aI_343_0 : sx_IL := [(0, .lconst 0, 1), (1, .lstore 8, 2), (3, .iconst 0, 1), (4, .istore 10, 2), (6, .iload 10, 2), (8, .iload 7, 2)]
theorem aJ_343_0 : sx_iB prog_14_method_27_code aI_343_0 = true := by decide +kernel
def aI_343_1 : sx_IL := [(10, .if_icmp .ge 87, 3), (13, .iload 10, 2), (15, .bipush 8, 2), (17, .irem, 1), (18, .ifCond .ne 43, 3), (21, .aload_n 0, 1)]
theorem aJ_343_1 : sx_iB prog_14_method_27_code aI_343_1 = true := by decide +kernel
def aI_343_2 : sx_IL := [(22, .lload_n 1, 1), (23, .bipush 32, 2), (25, .lushr, 1), (26, .l2i, 1), (27, .putfield 526, 3), (30, .aload_n 0, 1)]
theorem aJ_343_2 : sx_iB prog_14_method_27_code aI_343_2 = true := by decide +kernel
def aI_343_3 : sx_IL := [(31, .lload_n 1, 1), (32, .l2i, 1), (33, .putfield 529, 3), (36, .aload_n 0, 1), (37, .lload_n 3, 1), (38, .l2i, 1)]
theorem aJ_343_3 : sx_iB prog_14_method_27_code aI_343_3 = true := by decide +kernel
def aI_343_4 : sx_IL := [(39, .putfield 539, 3), (42, .aload_n 0, 1), (43, .iload 10, 2), (45, .bipush 8, 2), (47, .idiv, 1), (48, .putfield 532, 3)]
theorem aJ_343_4 : sx_iB prog_14_method_27_code aI_343_4 = true := by decide +kernel
def aI_343_5 : sx_IL := [(51, .aload_n 0, 1), (52, .invokevirtual 558, 3), (55, .aload_n 0, 1), (56, .invokevirtual 564, 3), (59, .lstore 8, 2), (61, .aload 5, 2)]
theorem aJ_343_5 : sx_iB prog_14_method_27_code aI_343_5 = true := by decide +kernel
def aI_343_6 : sx_IL := [(63, .iload 6, 2), (65, .iload 10, 2), (67, .iadd, 1), (68, .dup2, 1), (69, .iaload, 1), (70, .lload 8, 2)]
theorem aJ_343_6 : sx_iB prog_14_method_27_code aI_343_6 = true := by decide +kernel
def aI_343_7 : sx_IL := [(72, .bipush 56, 2), (74, .bipush 8, 2), (76, .iload 10, 2), (78, .bipush 8, 2), (80, .irem, 1), (81, .imul, 1)]
theorem aJ_343_7 : sx_iB prog_14_method_27_code aI_343_7 = true := by decide +kernel
def aI_343_8 : sx_IL := [(82, .isub, 1), (83, .lushr, 1), (84, .l2i, 1), (85, .sipush 255, 3), (88, .iand, 1), (89, .ixor, 1)]
theorem aJ_343_8 : sx_iB prog_14_method_27_code aI_343_8 = true := by decide +kernel
def aI_343_9 : sx_IL := [(90, .iastore, 1), (91, .iinc 10 1, 3), (94, .goto (-88), 3), (97, .return_, 1)]
theorem aJ_343_9 : sx_iB prog_14_method_27_code aI_343_9 = true := by decide +kernel
def aS_343 (pc : Nat) : sx_IL := (if pc < 51 then (if pc < 22 then (if pc < 10 then aI_343_0 else aI_343_1) else (if pc < 31 then aI_343_2 else (if pc < 39 then aI_343_3 else aI_343_4))) else (if pc < 72 then (if pc < 63 then aI_343_5 else aI_343_6) else (if pc < 82 then aI_343_7 else (if pc < 90 then aI_343_8 else aI_343_9))))
theorem aT_343 (pc : Nat) : sx_iOk prog_14_method_27_code (aS_343 pc) := (sx_ite (p := fun l => sx_iOk prog_14_method_27_code l) (sx_ite (p := fun l => sx_iOk prog_14_method_27_code l) (sx_ite (p := fun l => sx_iOk prog_14_method_27_code l) (sx_iB_s aJ_343_0) (sx_iB_s aJ_343_1)) (sx_ite (p := fun l => sx_iOk prog_14_method_27_code l) (sx_iB_s aJ_343_2) (sx_ite (p := fun l => sx_iOk prog_14_method_27_code l) (sx_iB_s aJ_343_3) (sx_iB_s aJ_343_4)))) (sx_ite (p := fun l => sx_iOk prog_14_method_27_code l) (sx_ite (p := fun l => sx_iOk prog_14_method_27_code l) (sx_iB_s aJ_343_5) (sx_iB_s aJ_343_6)) (sx_ite (p := fun l => sx_iOk prog_14_method_27_code l) (sx_iB_s aJ_343_7) (sx_ite (p := fun l => sx_iOk prog_14_method_27_code l) (sx_iB_s aJ_343_8) (sx_iB_s aJ_343_9)))))
def aW_343 : Nat → Option (Instr × Nat) := fun pc => sx_iF (aS_343 pc) pc
theorem aX_343 : ∀ pc i len, aW_343 pc = some (i, len) → decode aM_343.1.2.1 pc = .ok (i, len) := fun pc i len h => sx_iF_s (aT_343 pc) h
def aI_344_0 : sx_IL := [(0, .iload_n 1, 1), (1, .invokestatic 602, 3), (4, .istore 12, 2), (6, .aload_n 0, 1), (7, .iload 12, 2), (9, .lload_n 2, 1)]
theorem aJ_344_0 : sx_iB prog_14_method_28_code aI_344_0 = true := by decide +kernel
def aI_344_1 : sx_IL := [(10, .bipush 116, 2), (12, .lload 4, 2), (14, .invokevirtual 598, 3), (17, .lstore 13, 2), (19, .aload_n 0, 1), (20, .iload 12, 2)]
theorem aJ_344_1 : sx_iB prog_14_method_28_code aI_344_1 = true := by decide +kernel
def aI_344_2 : sx_IL := [(22, .lload 13, 2), (24, .invokevirtual 578, 3), (27, .aload_n 0, 1), (28, .aload 6, 2), (30, .iload 7, 2), (32, .iload 8, 2)]
theorem aJ_344_2 : sx_iB prog_14_method_28_code aI_344_2 = true := by decide +kernel
def aI_344_3 : sx_IL := [(34, .invokevirtual 586, 3), (37, .aload_n 0, 1), (38, .aload 9, 2), (40, .iload 10, 2), (42, .iload 11, 2), (44, .invokevirtual 586, 3)]
theorem aJ_344_3 : sx_iB prog_14_method_28_code aI_344_3 = true := by decide +kernel
def aI_344_4 : sx_IL := [(47, .aload_n 0, 1), (48, .iload 8, 2), (50, .invokevirtual 606, 3), (53, .aload_n 0, 1), (54, .iload 12, 2), (56, .lload 13, 2)]
theorem aJ_344_4 : sx_iB prog_14_method_28_code aI_344_4 = true := by decide +kernel
def aI_344_5 : sx_IL := [(58, .invokevirtual 582, 3), (61, .lreturn, 1)]
theorem aJ_344_5 : sx_iB prog_14_method_28_code aI_344_5 = true := by decide +kernel
def aS_344 (pc : Nat) : sx_IL := (if pc < 34 then (if pc < 10 then aI_344_0 else (if pc < 22 then aI_344_1 else aI_344_2)) else (if pc < 47 then aI_344_3 else (if pc < 58 then aI_344_4 else aI_344_5)))
theorem aT_344 (pc : Nat) : sx_iOk prog_14_method_28_code (aS_344 pc) := (sx_ite (p := fun l => sx_iOk prog_14_method_28_code l) (sx_ite (p := fun l => sx_iOk prog_14_method_28_code l) (sx_iB_s aJ_344_0) (sx_ite (p := fun l => sx_iOk prog_14_method_28_code l) (sx_iB_s aJ_344_1) (sx_iB_s aJ_344_2))) (sx_ite (p := fun l => sx_iOk prog_14_method_28_code l) (sx_iB_s aJ_344_3) (sx_ite (p := fun l => sx_iOk prog_14_method_28_code l) (sx_iB_s aJ_344_4) (sx_iB_s aJ_344_5))))
def aW_344 : Nat → Option (Instr × Nat) := fun pc => sx_iF (aS_344 pc) pc
theorem aX_344 : ∀ pc i len, aW_344 pc = some (i, len) → decode aM_344.1.2.1 pc = .ok (i, len) := fun pc i len h => sx_iF_s (aT_344 pc) h
def aI_345_0 : sx_IL := [(0, .iload_n 0, 1), (1, .iconst 3, 1), (2, .if_icmp .ne 7, 3), (5, .iconst 1, 1), (6, .goto 4, 3), (9, .iconst 0, 1)]
theorem aJ_345_0 : sx_iB prog_14_method_25_code aI_345_0 = true := by decide +kernel
def aI_345_1 : sx_IL := [(10, .ireturn, 1)]
theorem aJ_345_1 : sx_iB prog_14_method_25_code aI_345_1 = true := by decide +kernel
def aS_345 (pc : Nat) : sx_IL := (if pc < 10 then aI_345_0 else aI_345_1)
theorem aT_345 (pc : Nat) : sx_iOk prog_14_method_25_code (aS_345 pc) := (sx_ite (p := fun l => sx_iOk prog_14_method_25_code l) (sx_iB_s aJ_345_0) (sx_iB_s aJ_345_1))
def aW_345 : Nat → Option (Instr × Nat) := fun pc => sx_iF (aS_345 pc) pc
theorem aX_345 : ∀ pc i len, aW_345 pc = some (i, len) → decode aM_345.1.2.1 pc = .ok (i, len) := fun pc i len h => sx_iF_s (aT_345 pc) h
def aI_346_0 : sx_IL := [(0, .iconst 3, 1), (1, .istore_n 2, 1), (2, .iload_n 2, 1), (3, .ifCond .lt 23, 3), (6, .aload_n 0, 1), (7, .iload_n 1, 1)]
theorem aJ_346_0 : sx_iB prog_14_method_16_code aI_346_0 = true := by decide +kernel
def aI_346_1 : sx_IL := [(8, .bipush 8, 2), (10, .iload_n 2, 1), (11, .imul, 1), (12, .iushr, 1), (13, .sipush 255, 3), (16, .iand, 1)]
theorem aJ_346_1 : sx_iB prog_14_method_16_code aI_346_1 = true := by decide +kernel
def aI_346_2 : sx_IL := [(17, .invokevirtual 561, 3), (20, .iinc 2 (-1), 3), (23, .goto (-21), 3), (26, .return_, 1)]
theorem aJ_346_2 : sx_iB prog_14_method_16_code aI_346_2 = true := by decide +kernel
def aS_346 (pc : Nat) : sx_IL := (if pc < 8 then aI_346_0 else (if pc < 17 then aI_346_1 else aI_346_2))
theorem aT_346 (pc : Nat) : sx_iOk prog_14_method_16_code (aS_346 pc) := (sx_ite (p := fun l => sx_iOk prog_14_method_16_code l) (sx_iB_s aJ_346_0) (sx_ite (p := fun l => sx_iOk prog_14_method_16_code l) (sx_iB_s aJ_346_1) (sx_iB_s aJ_346_2)))
def aW_346 : Nat → Option (Instr × Nat) := fun pc => sx_iF (aS_346 pc) pc
theorem aX_346 : ∀ pc i len, aW_346 pc = some (i, len) → decode aM_346.1.2.1 pc = .ok (i, len) := fun pc i len h => sx_iF_s (aT_346 pc) h
def aI_347_0 : sx_IL := [(0, .iload_n 0, 1), (1, .iconst 2, 1), (2, .if_icmp .ne 7, 3), (5, .iconst 4, 1), (6, .goto 5, 3), (9, .bipush 8, 2)]
theorem aJ_347_0 : sx_iB prog_14_method_26_code aI_347_0 = true := by decide +kernel
def aI_347_1 : sx_IL := [(11, .ireturn, 1)]
theorem aJ_347_1 : sx_iB prog_14_method_26_code aI_347_1 = true := by decide +kernel
def aS_347 (pc : Nat) : sx_IL := (if pc < 11 then aI_347_0 else aI_347_1)
theorem aT_347 (pc : Nat) : sx_iOk prog_14_method_26_code (aS_347 pc) := (sx_ite (p := fun l => sx_iOk prog_14_method_26_code l) (sx_iB_s aJ_347_0) (sx_iB_s aJ_347_1))
def aW_347 : Nat → Option (Instr × Nat) := fun pc => sx_iF (aS_347 pc) pc
theorem aX_347 : ∀ pc i len, aW_347 pc = some (i, len) → decode aM_347.1.2.1 pc = .ok (i, len) := fun pc i len h => sx_iF_s (aT_347 pc) h
def aI_348_0 : sx_IL := [(0, .lload_n 0, 1), (1, .bipush 56, 2), (3, .bipush 8, 2), (5, .iload_n 2, 1), (6, .imul, 1), (7, .isub, 1)]
theorem aJ_348_0 : sx_iB prog_14_method_29_code aI_348_0 = true := by decide +kernel
def aI_348_1 : sx_IL := [(8, .lushr, 1), (9, .l2i, 1), (10, .sipush 255, 3), (13, .iand, 1), (14, .ireturn, 1)]
theorem aJ_348_1 : sx_iB prog_14_method_29_code aI_348_1 = true := by decide +kernel
def aS_348 (pc : Nat) : sx_IL := (if pc < 8 then aI_348_0 else aI_348_1)
theorem aT_348 (pc : Nat) : sx_iOk prog_14_method_29_code (aS_348 pc) := (sx_ite (p := fun l => sx_iOk prog_14_method_29_code l) (sx_iB_s aJ_348_0) (sx_iB_s aJ_348_1))
def aW_348 : Nat → Option (Instr × Nat) := fun pc => sx_iF (aS_348 pc) pc
theorem aX_348 : ∀ pc i len, aW_348 pc = some (i, len) → decode aM_348.1.2.1 pc = .ok (i, len) := fun pc i len h => sx_iF_s (aT_348 pc) h
def aI_349_0 : sx_IL := [(0, .iload_n 1, 1), (1, .i2l, 1), (2, .lconst 1, 1), (3, .ldc2_w 609, 3), (6, .invokestatic 513, 3), (9, .ifCond .eq 18, 3)]
theorem aJ_349_0 : sx_iB prog_14_method_31_code aI_349_0 = true := by decide +kernel
def aI_349_1 : sx_IL := [(12, .iload 6, 2), (14, .i2l, 1), (15, .lconst 0, 1), (16, .aload_n 0, 1), (17, .getfield 517, 3), (20, .i2l, 1)]
theorem aJ_349_1 : sx_iB prog_14_method_31_code aI_349_1 = true := by decide +kernel
def aI_349_2 : sx_IL := [(21, .invokestatic 513, 3), (24, .ifCond .ne 5, 3), (27, .iconst (-1), 1), (28, .ireturn, 1), (29, .aload_n 0, 1), (30, .getfield 517, 3)]
theorem aJ_349_2 : sx_iB prog_14_method_31_code aI_349_2 = true := by decide +kernel
def aI_349_3 : sx_IL := [(33, .iload 6, 2), (35, .isub, 1), (36, .iload_n 1, 1), (37, .invokestatic 619, 3), (40, .isub, 1), (41, .istore 7, 2)]
theorem aJ_349_3 : sx_iB prog_14_method_31_code aI_349_3 = true := by decide +kernel
def aI_349_4 : sx_IL := [(43, .iload 7, 2), (45, .ifCond .lt 7, 3), (48, .iconst 1, 1), (49, .goto 4, 3), (52, .iconst 0, 1), (53, .istore 8, 2)]
theorem aJ_349_4 : sx_iB prog_14_method_31_code aI_349_4 = true := by decide +kernel
def aI_349_5 : sx_IL := [(55, .iload 8, 2), (57, .ifCond .eq 81, 3), (60, .aload_n 0, 1), (61, .iload_n 1, 1), (62, .lload_n 2, 1), (63, .lload 4, 2)]
theorem aJ_349_5 : sx_iB prog_14_method_31_code aI_349_5 = true := by decide +kernel
def aI_349_6 : sx_IL := [(65, .aload_n 0, 1), (66, .getfield 7, 3), (69, .iconst 0, 1), (70, .iload 6, 2), (72, .aload_n 0, 1), (73, .getfield 7, 3)]
theorem aJ_349_6 : sx_iB prog_14_method_31_code aI_349_6 = true := by decide +kernel
def aI_349_7 : sx_IL := [(76, .iload 6, 2), (78, .iload 7, 2), (80, .invokevirtual 615, 3), (83, .lstore 9, 2), (85, .iconst 0, 1), (86, .istore 11, 2)]
theorem aJ_349_7 : sx_iB prog_14_method_31_code aI_349_7 = true := by decide +kernel
def aI_349_8 : sx_IL := [(88, .iload 11, 2), (90, .iload_n 1, 1), (91, .invokestatic 619, 3), (94, .if_icmp .ge 44, 3), (97, .iload 8, 2), (99, .ifCond .eq 30, 3)]
theorem aJ_349_8 : sx_iB prog_14_method_31_code aI_349_8 = true := by decide +kernel
def aI_349_9 : sx_IL := [(102, .aload_n 0, 1), (103, .getfield 7, 3), (106, .iload 6, 2), (108, .iload 7, 2), (110, .iadd, 1), (111, .iload 11, 2)]
theorem aJ_349_9 : sx_iB prog_14_method_31_code aI_349_9 = true := by decide +kernel
def aI_349_10 : sx_IL := [(113, .iadd, 1), (114, .iaload, 1), (115, .lload 9, 2), (117, .iload 11, 2), (119, .invokestatic 622, 3), (122, .if_icmp .ne 7, 3)]
theorem aJ_349_10 : sx_iB prog_14_method_31_code aI_349_10 = true := by decide +kernel
def aI_349_11 : sx_IL := [(125, .iconst 1, 1), (126, .goto 4, 3), (129, .iconst 0, 1), (130, .istore 8, 2), (132, .iinc 11 1, 3), (135, .goto (-47), 3)]
theorem aJ_349_11 : sx_iB prog_14_method_31_code aI_349_11 = true := by decide +kernel
def aI_349_12 : sx_IL := [(138, .iload 8, 2), (140, .ifCond .eq 57, 3), (143, .aload_n 0, 1), (144, .lload_n 2, 1), (145, .lload 4, 2), (147, .aload_n 0, 1)]
theorem aJ_349_12 : sx_iB prog_14_method_31_code aI_349_12 = true := by decide +kernel
def aI_349_13 : sx_IL := [(148, .getfield 7, 3), (151, .iload 6, 2), (153, .iload 7, 2), (155, .invokevirtual 611, 3), (158, .iconst 0, 1), (159, .istore 9, 2)]
theorem aJ_349_13 : sx_iB prog_14_method_31_code aI_349_13 = true := by decide +kernel
def aI_349_14 : sx_IL := [(161, .iload 9, 2), (163, .iload 7, 2), (165, .if_icmp .ge 26, 3), (168, .aload_n 0, 1), (169, .getfield 13, 3), (172, .iload 9, 2)]
theorem aJ_349_14 : sx_iB prog_14_method_31_code aI_349_14 = true := by decide +kernel
def aI_349_15 : sx_IL := [(174, .aload_n 0, 1), (175, .getfield 7, 3), (178, .iload 6, 2), (180, .iload 9, 2), (182, .iadd, 1), (183, .iaload, 1)]
theorem aJ_349_15 : sx_iB prog_14_method_31_code aI_349_15 = true := by decide +kernel
def aI_349_16 : sx_IL := [(184, .iastore, 1), (185, .iinc 9 1, 3), (188, .goto (-27), 3), (191, .aload_n 0, 1), (192, .iload 7, 2), (194, .putfield 520, 3)]
theorem aJ_349_16 : sx_iB prog_14_method_31_code aI_349_16 = true := by decide +kernel
def aI_349_17 : sx_IL := [(197, .aload_n 0, 1), (198, .iconst 0, 1), (199, .putfield 517, 3), (202, .iload 8, 2), (204, .ifCond .eq 7, 3), (207, .iconst 1, 1)]
theorem aJ_349_17 : sx_iB prog_14_method_31_code aI_349_17 = true := by decide +kernel
def aI_349_18 : sx_IL := [(208, .goto 4, 3), (211, .iconst 0, 1), (212, .ireturn, 1)]
theorem aJ_349_18 : sx_iB prog_14_method_31_code aI_349_18 = true := by decide +kernel
def aS_349 (pc : Nat) : sx_IL := (if pc < 102 then (if pc < 43 then (if pc < 21 then (if pc < 12 then aI_349_0 else aI_349_1) else (if pc < 33 then aI_349_2 else aI_349_3)) else (if pc < 65 then (if pc < 55 then aI_349_4 else aI_349_5) else (if pc < 76 then aI_349_6 else (if pc < 88 then aI_349_7 else aI_349_8)))) else (if pc < 161 then (if pc < 125 then (if pc < 113 then aI_349_9 else aI_349_10) else (if pc < 138 then aI_349_11 else (if pc < 148 then aI_349_12 else aI_349_13))) else (if pc < 184 then (if pc < 174 then aI_349_14 else aI_349_15) else (if pc < 197 then aI_349_16 else (if pc < 208 then aI_349_17 else aI_349_18)))))
theorem aT_349 (pc : Nat) : sx_iOk prog_14_method_31_code (aS_349 pc) := (sx_ite (p := fun l => sx_iOk prog_14_method_31_code l) (sx_ite (p := fun l => sx_iOk prog_14_method_31_code l) (sx_ite (p := fun l => sx_iOk prog_14_method_31_code l) (sx_ite (p := fun l => sx_iOk prog_14_method_31_code l) (sx_iB_s aJ_349_0) (sx_iB_s aJ_349_1)) (sx_ite (p := fun l => sx_iOk prog_14_method_31_code l) (sx_iB_s aJ_349_2) (sx_iB_s aJ_349_3))) (sx_ite (p := fun l => sx_iOk prog_14_method_31_code l) (sx_ite (p := fun l => sx_iOk prog_14_method_31_code l) (sx_iB_s aJ_349_4) (sx_iB_s aJ_349_5)) (sx_ite (p := fun l => sx_iOk prog_14_method_31_code l) (sx_iB_s aJ_349_6) (sx_ite (p := fun l => sx_iOk prog_14_method_31_code l) (sx_iB_s aJ_349_7) (sx_iB_s aJ_349_8))))) (sx_ite (p := fun l => sx_iOk prog_14_method_31_code l) (sx_ite (p := fun l => sx_iOk prog_14_method_31_code l) (sx_ite (p := fun l => sx_iOk prog_14_method_31_code l) (sx_iB_s aJ_349_9) (sx_iB_s aJ_349_10)) (sx_ite (p := fun l => sx_iOk prog_14_method_31_code l) (sx_iB_s aJ_349_11) (sx_ite (p := fun l => sx_iOk prog_14_method_31_code l) (sx_iB_s aJ_349_12) (sx_iB_s aJ_349_13)))) (sx_ite (p := fun l => sx_iOk prog_14_method_31_code l) (sx_ite (p := fun l => sx_iOk prog_14_method_31_code l) (sx_iB_s aJ_349_14) (sx_iB_s aJ_349_15)) (sx_ite (p := fun l => sx_iOk prog_14_method_31_code l) (sx_iB_s aJ_349_16) (sx_ite (p := fun l => sx_iOk prog_14_method_31_code l) (sx_iB_s aJ_349_17) (sx_iB_s aJ_349_18))))))
def aW_349 : Nat → Option (Instr × Nat) := fun pc => sx_iF (aS_349 pc) pc
theorem aX_349 : ∀ pc i len, aW_349 pc = some (i, len) → decode aM_349.1.2.1 pc = .ok (i, len) := fun pc i len h => sx_iF_s (aT_349 pc) h
def aI_350_0 : sx_IL := [(0, .iload_n 1, 1), (1, .i2l, 1), (2, .lconst 1, 1), (3, .ldc2_w 609, 3), (6, .invokestatic 513, 3), (9, .ifCond .eq 15, 3)]
theorem aJ_350_0 : sx_iB prog_14_method_36_code aI_350_0 = true := by decide +kernel
def aI_350_1 : sx_IL := [(12, .iload_n 2, 1), (13, .ifCond .lt 11, 3), (16, .iload_n 1, 1), (17, .iload_n 2, 1), (18, .invokestatic 640, 3), (21, .goto 4, 3)]
theorem aJ_350_1 : sx_iB prog_14_method_36_code aI_350_1 = true := by decide +kernel
def aI_350_2 : sx_IL := [(24, .iconst (-1), 1), (25, .ireturn, 1)]
theorem aJ_350_2 : sx_iB prog_14_method_36_code aI_350_2 = true := by decide +kernel
def aS_350 (pc : Nat) : sx_IL := (if pc < 12 then aI_350_0 else (if pc < 24 then aI_350_1 else aI_350_2))
theorem aT_350 (pc : Nat) : sx_iOk prog_14_method_36_code (aS_350 pc) := (sx_ite (p := fun l => sx_iOk prog_14_method_36_code l) (sx_iB_s aJ_350_0) (sx_ite (p := fun l => sx_iOk prog_14_method_36_code l) (sx_iB_s aJ_350_1) (sx_iB_s aJ_350_2)))
def aW_350 : Nat → Option (Instr × Nat) := fun pc => sx_iF (aS_350 pc) pc
theorem aX_350 : ∀ pc i len, aW_350 pc = some (i, len) → decode aM_350.1.2.1 pc = .ok (i, len) := fun pc i len h => sx_iF_s (aT_350 pc) h
def aI_351_0 : sx_IL := [(0, .iload_n 0, 1), (1, .iconst 1, 1), (2, .if_icmp .ne 9, 3), (5, .ldc2_w 629, 3), (8, .goto 6, 3), (11, .ldc2_w 631, 3)]
theorem aJ_351_0 : sx_iB prog_14_method_34_code aI_351_0 = true := by decide +kernel
def aI_351_1 : sx_IL := [(14, .iload_n 1, 1), (15, .iload_n 0, 1), (16, .invokestatic 633, 3), (19, .invokestatic 636, 3), (22, .ireturn, 1)]
theorem aJ_351_1 : sx_iB prog_14_method_34_code aI_351_1 = true := by decide +kernel
def aS_351 (pc : Nat) : sx_IL := (if pc < 14 then aI_351_0 else aI_351_1)
theorem aT_351 (pc : Nat) : sx_iOk prog_14_method_34_code (aS_351 pc) := (sx_ite (p := fun l => sx_iOk prog_14_method_34_code l) (sx_iB_s aJ_351_0) (sx_iB_s aJ_351_1))
def aW_351 : Nat → Option (Instr × Nat) := fun pc => sx_iF (aS_351 pc) pc
theorem aX_351 : ∀ pc i len, aW_351 pc = some (i, len) → decode aM_351.1.2.1 pc = .ok (i, len) := fun pc i len h => sx_iF_s (aT_351 pc) h
def aI_352_0 : sx_IL := [(0, .iload_n 0, 1), (1, .iconst 1, 1), (2, .if_icmp .ne 9, 3), (5, .ldc_w 626, 3), (8, .goto 17, 3), (11, .iload_n 0, 1)]
theorem aJ_352_0 : sx_iB prog_14_method_32_code aI_352_0 = true := by decide +kernel
def aI_352_1 : sx_IL := [(12, .iconst 2, 1), (13, .if_icmp .ne 9, 3), (16, .ldc_w 627, 3), (19, .goto 6, 3), (22, .ldc_w 628, 3), (25, .ireturn, 1)]
theorem aJ_352_1 : sx_iB prog_14_method_32_code aI_352_1 = true := by decide +kernel
def aS_352 (pc : Nat) : sx_IL := (if pc < 12 then aI_352_0 else aI_352_1)
theorem aT_352 (pc : Nat) : sx_iOk prog_14_method_32_code (aS_352 pc) := (sx_ite (p := fun l => sx_iOk prog_14_method_32_code l) (sx_iB_s aJ_352_0) (sx_iB_s aJ_352_1))
def aW_352 : Nat → Option (Instr × Nat) := fun pc => sx_iF (aS_352 pc) pc
theorem aX_352 : ∀ pc i len, aW_352 pc = some (i, len) → decode aM_352.1.2.1 pc = .ok (i, len) := fun pc i len h => sx_iF_s (aT_352 pc) h
def aI_353_0 : sx_IL := [(0, .lconst 1, 1), (1, .lstore 4, 2), (3, .bipush 30, 2), (5, .istore 6, 2), (7, .iload 6, 2), (9, .ifCond .lt 43, 3)]
theorem aJ_353_0 : sx_iB prog_14_method_33_code aI_353_0 = true := by decide +kernel
def aI_353_1 : sx_IL := [(12, .lload 4, 2), (14, .lload 4, 2), (16, .lmul, 1), (17, .iload_n 3, 1), (18, .i2l, 1), (19, .lrem, 1)]
theorem aJ_353_1 : sx_iB prog_14_method_33_code aI_353_1 = true := by decide +kernel
def aI_353_2 : sx_IL := [(20, .lstore 4, 2), (22, .iload_n 2, 1), (23, .iload 6, 2), (25, .ishr, 1), (26, .iconst 1, 1), (27, .iand, 1)]
theorem aJ_353_2 : sx_iB prog_14_method_33_code aI_353_2 = true := by decide +kernel
def aI_353_3 : sx_IL := [(28, .iconst 1, 1), (29, .if_icmp .ne 13, 3), (32, .lload 4, 2), (34, .lload_n 0, 1), (35, .lmul, 1), (36, .iload_n 3, 1)]
theorem aJ_353_3 : sx_iB prog_14_method_33_code aI_353_3 = true := by decide +kernel
def aI_353_4 : sx_IL := [(37, .i2l, 1), (38, .lrem, 1), (39, .goto 5, 3), (42, .lload 4, 2), (44, .lstore 4, 2), (46, .iinc 6 (-1), 3)]
theorem aJ_353_4 : sx_iB prog_14_method_33_code aI_353_4 = true := by decide +kernel
def aI_353_5 : sx_IL := [(49, .goto (-42), 3), (52, .lload 4, 2), (54, .l2i, 1), (55, .ireturn, 1)]
theorem aJ_353_5 : sx_iB prog_14_method_33_code aI_353_5 = true := by decide +kernel
def aS_353 (pc : Nat) : sx_IL := (if pc < 28 then (if pc < 12 then aI_353_0 else (if pc < 20 then aI_353_1 else aI_353_2)) else (if pc < 37 then aI_353_3 else (if pc < 49 then aI_353_4 else aI_353_5)))
theorem aT_353 (pc : Nat) : sx_iOk prog_14_method_33_code (aS_353 pc) := (sx_ite (p := fun l => sx_iOk prog_14_method_33_code l) (sx_ite (p := fun l => sx_iOk prog_14_method_33_code l) (sx_iB_s aJ_353_0) (sx_ite (p := fun l => sx_iOk prog_14_method_33_code l) (sx_iB_s aJ_353_1) (sx_iB_s aJ_353_2))) (sx_ite (p := fun l => sx_iOk prog_14_method_33_code l) (sx_iB_s aJ_353_3) (sx_ite (p := fun l => sx_iOk prog_14_method_33_code l) (sx_iB_s aJ_353_4) (sx_iB_s aJ_353_5))))
def aW_353 : Nat → Option (Instr × Nat) := fun pc => sx_iF (aS_353 pc) pc
theorem aX_353 : ∀ pc i len, aW_353 pc = some (i, len) → decode aM_353.1.2.1 pc = .ok (i, len) := fun pc i len h => sx_iF_s (aT_353 pc) h
def aI_354_0 : sx_IL := [(0, .iload_n 1, 1), (1, .i2l, 1), (2, .lconst 1, 1), (3, .ldc2_w 609, 3), (6, .invokestatic 513, 3), (9, .ifCond .eq 16, 3)]
theorem aJ_354_0 : sx_iB prog_14_method_37_code aI_354_0 = true := by decide +kernel
def aI_354_1 : sx_IL := [(12, .iload_n 2, 1), (13, .ifCond .lt 12, 3), (16, .iload_n 1, 1), (17, .iload_n 2, 1), (18, .iload_n 3, 1), (19, .invokestatic 643, 3)]
theorem aJ_354_1 : sx_iB prog_14_method_37_code aI_354_1 = true := by decide +kernel
def aI_354_2 : sx_IL := [(22, .goto 6, 3), (25, .ldc2_w 590, 3), (28, .lreturn, 1)]
theorem aJ_354_2 : sx_iB prog_14_method_37_code aI_354_2 = true := by decide +kernel
def aS_354 (pc : Nat) : sx_IL := (if pc < 12 then aI_354_0 else (if pc < 22 then aI_354_1 else aI_354_2))
theorem aT_354 (pc : Nat) : sx_iOk prog_14_method_37_code (aS_354 pc) := (sx_ite (p := fun l => sx_iOk prog_14_method_37_code l) (sx_iB_s aJ_354_0) (sx_ite (p := fun l => sx_iOk prog_14_method_37_code l) (sx_iB_s aJ_354_1) (sx_iB_s aJ_354_2)))
def aW_354 : Nat → Option (Instr × Nat) := fun pc => sx_iF (aS_354 pc) pc
theorem aX_354 : ∀ pc i len, aW_354 pc = some (i, len) → decode aM_354.1.2.1 pc = .ok (i, len) := fun pc i len h => sx_iF_s (aT_354 pc) h
def aI_355_0 : sx_IL := [(0, .iload_n 0, 1), (1, .invokestatic 633, 3), (4, .istore_n 3, 1), (5, .iload_n 2, 1), (6, .i2l, 1), (7, .ldc2_w 631, 3)]
theorem aJ_355_0 : sx_iB prog_14_method_35_code aI_355_0 = true := by decide +kernel
def aI_355_1 : sx_IL := [(10, .iload_n 3, 1), (11, .iconst 2, 1), (12, .isub, 1), (13, .i2l, 1), (14, .invokestatic 513, 3), (17, .ifCond .ne 5, 3)]
theorem aJ_355_1 : sx_iB prog_14_method_35_code aI_355_1 = true := by decide +kernel
def aI_355_2 : sx_IL := [(20, .lconst 0, 1), (21, .lreturn, 1), (22, .iload_n 2, 1), (23, .i2l, 1), (24, .iload_n 1, 1), (25, .iload_n 3, 1)]
theorem aJ_355_2 : sx_iB prog_14_method_35_code aI_355_2 = true := by decide +kernel
def aI_355_3 : sx_IL := [(26, .invokestatic 636, 3), (29, .istore 4, 2), (31, .iload 4, 2), (33, .i2l, 1), (34, .ldc2_w 631, 3), (37, .iload_n 3, 1)]
theorem aJ_355_3 : sx_iB prog_14_method_35_code aI_355_3 = true := by decide +kernel
def aI_355_4 : sx_IL := [(38, .iconst 2, 1), (39, .isub, 1), (40, .i2l, 1), (41, .invokestatic 513, 3), (44, .ifCond .eq 9, 3), (47, .iload 4, 2)]
theorem aJ_355_4 : sx_iB prog_14_method_35_code aI_355_4 = true := by decide +kernel
def aI_355_5 : sx_IL := [(49, .i2l, 1), (50, .goto 4, 3), (53, .lconst 0, 1), (54, .lreturn, 1)]
theorem aJ_355_5 : sx_iB prog_14_method_35_code aI_355_5 = true := by decide +kernel
def aS_355 (pc : Nat) : sx_IL := (if pc < 26 then (if pc < 10 then aI_355_0 else (if pc < 20 then aI_355_1 else aI_355_2)) else (if pc < 38 then aI_355_3 else (if pc < 49 then aI_355_4 else aI_355_5)))
theorem aT_355 (pc : Nat) : sx_iOk prog_14_method_35_code (aS_355 pc) := (sx_ite (p := fun l => sx_iOk prog_14_method_35_code l) (sx_ite (p := fun l => sx_iOk prog_14_method_35_code l) (sx_iB_s aJ_355_0) (sx_ite (p := fun l => sx_iOk prog_14_method_35_code l) (sx_iB_s aJ_355_1) (sx_iB_s aJ_355_2))) (sx_ite (p := fun l => sx_iOk prog_14_method_35_code l) (sx_iB_s aJ_355_3) (sx_ite (p := fun l => sx_iOk prog_14_method_35_code l) (sx_iB_s aJ_355_4) (sx_iB_s aJ_355_5))))
def aW_355 : Nat → Option (Instr × Nat) := fun pc => sx_iF (aS_355 pc) pc
theorem aX_355 : ∀ pc i len, aW_355 pc = some (i, len) → decode aM_355.1.2.1 pc = .ok (i, len) := fun pc i len h => sx_iF_s (aT_355 pc) h
def aI_356_0 : sx_IL := [(0, .iload_n 1, 1), (1, .invokestatic 652, 3), (4, .ifCond .eq 10, 3), (7, .iload_n 1, 1), (8, .invokestatic 656, 3), (11, .goto 4, 3)]
theorem aJ_356_0 : sx_iB prog_14_method_40_code aI_356_0 = true := by decide +kernel
def aI_356_1 : sx_IL := [(14, .iconst (-1), 1), (15, .ireturn, 1)]
theorem aJ_356_1 : sx_iB prog_14_method_40_code aI_356_1 = true := by decide +kernel
def aS_356 (pc : Nat) : sx_IL := (if pc < 14 then aI_356_0 else aI_356_1)
theorem aT_356 (pc : Nat) : sx_iOk prog_14_method_40_code (aS_356 pc) := (sx_ite (p := fun l => sx_iOk prog_14_method_40_code l) (sx_iB_s aJ_356_0) (sx_iB_s aJ_356_1))
def aW_356 : Nat → Option (Instr × Nat) := fun pc => sx_iF (aS_356 pc) pc
theorem aX_356 : ∀ pc i len, aW_356 pc = some (i, len) → decode aM_356.1.2.1 pc = .ok (i, len) := fun pc i len h => sx_iF_s (aT_356 pc) h
def aI_357_0 : sx_IL := [(0, .iload_n 0, 1), (1, .i2l, 1), (2, .lconst 1, 1), (3, .ldc2_w 647, 3), (6, .invokestatic 513, 3), (9, .ireturn, 1)]
theorem aJ_357_0 : sx_iB prog_14_method_38_code aI_357_0 = true := by decide +kernel
def aS_357 (pc : Nat) : sx_IL := aI_357_0
theorem aT_357 (pc : Nat) : sx_iOk prog_14_method_38_code (aS_357 pc) := (sx_iB_s aJ_357_0)
def aW_357 : Nat → Option (Instr × Nat) := fun pc => sx_iF (aS_357 pc) pc
theorem aX_357 : ∀ pc i len, aW_357 pc = some (i, len) → decode aM_357.1.2.1 pc = .ok (i, len) := fun pc i len h => sx_iF_s (aT_357 pc) h
def aI_358_0 : sx_IL := [(0, .ldc2_w 649, 3), (3, .iload_n 0, 1), (4, .ldc_w 651, 3), (7, .invokestatic 636, 3), (10, .ireturn, 1)]
theorem aJ_358_0 : sx_iB prog_14_method_39_code aI_358_0 = true := by decide +kernel
def aS_358 (pc : Nat) : sx_IL := aI_358_0
theorem aT_358 (pc : Nat) : sx_iOk prog_14_method_39_code (aS_358 pc) := (sx_iB_s aJ_358_0)
def aW_358 : Nat → Option (Instr × Nat) := fun pc => sx_iF (aS_358 pc) pc
theorem aX_358 : ∀ pc i len, aW_358 pc = some (i, len) → decode aM_358.1.2.1 pc = .ok (i, len) := fun pc i len h => sx_iF_s (aT_358 pc) h
def aI_359_0 : sx_IL := [(0, .iload_n 1, 1), (1, .i2l, 1), (2, .lconst 1, 1), (3, .ldc2_w 631, 3), (6, .invokestatic 513, 3), (9, .ifCond .eq 10, 3)]
theorem aJ_359_0 : sx_iB prog_14_method_45_code aI_359_0 = true := by decide +kernel
def aI_359_1 : sx_IL := [(12, .iload_n 2, 1), (13, .invokestatic 652, 3), (16, .ifCond .ne 7, 3), (19, .ldc2_w 590, 3), (22, .lreturn, 1), (23, .aload_n 0, 1)]
theorem aJ_359_1 : sx_iB prog_14_method_45_code aI_359_1 = true := by decide +kernel
def aI_359_2 : sx_IL := [(24, .iload_n 1, 1), (25, .iload_n 2, 1), (26, .aload_n 0, 1), (27, .getfield 7, 3), (30, .iconst 0, 1), (31, .aload_n 0, 1)]
theorem aJ_359_2 : sx_iB prog_14_method_45_code aI_359_2 = true := by decide +kernel
def aI_359_3 : sx_IL := [(32, .getfield 517, 3), (35, .invokevirtual 675, 3), (38, .lstore_n 3, 1), (39, .aload_n 0, 1), (40, .iconst 0, 1), (41, .putfield 517, 3)]
theorem aJ_359_3 : sx_iB prog_14_method_45_code aI_359_3 = true := by decide +kernel
def aI_359_4 : sx_IL := [(44, .lload_n 3, 1), (45, .lreturn, 1)]
theorem aJ_359_4 : sx_iB prog_14_method_45_code aI_359_4 = true := by decide +kernel
def aS_359 (pc : Nat) : sx_IL := (if pc < 24 then (if pc < 12 then aI_359_0 else aI_359_1) else (if pc < 32 then aI_359_2 else (if pc < 44 then aI_359_3 else aI_359_4)))
theorem aT_359 (pc : Nat) : sx_iOk prog_14_method_45_code (aS_359 pc) := (sx_ite (p := fun l => sx_iOk prog_14_method_45_code l) (sx_ite (p := fun l => sx_iOk prog_14_method_45_code l) (sx_iB_s aJ_359_0) (sx_iB_s aJ_359_1)) (sx_ite (p := fun l => sx_iOk prog_14_method_45_code l) (sx_iB_s aJ_359_2) (sx_ite (p := fun l => sx_iOk prog_14_method_45_code l) (sx_iB_s aJ_359_3) (sx_iB_s aJ_359_4))))
def aW_359 : Nat → Option (Instr × Nat) := fun pc => sx_iF (aS_359 pc) pc
theorem aX_359 : ∀ pc i len, aW_359 pc = some (i, len) → decode aM_359.1.2.1 pc = .ok (i, len) := fun pc i len h => sx_iF_s (aT_359 pc) h
def aI_360_0 : sx_IL := [(0, .iload_n 1, 1), (1, .iconst 1, 1), (2, .isub, 1), (3, .istore 6, 2), (5, .aload_n 0, 1), (6, .iload 6, 2)]
theorem aJ_360_0 : sx_iB prog_14_method_43_code aI_360_0 = true := by decide +kernel
def aI_360_1 : sx_IL := [(8, .iload_n 2, 1), (9, .i2l, 1), (10, .invokevirtual 578, 3), (13, .aload_n 0, 1), (14, .aload_n 3, 1), (15, .iload 4, 2)]
theorem aJ_360_1 : sx_iB prog_14_method_43_code aI_360_1 = true := by decide +kernel
def aI_360_2 : sx_IL := [(17, .iload 5, 2), (19, .invokevirtual 586, 3), (22, .aload_n 0, 1), (23, .iload 6, 2), (25, .iload_n 2, 1), (26, .i2l, 1)]
theorem aJ_360_2 : sx_iB prog_14_method_43_code aI_360_2 = true := by decide +kernel
def aI_360_3 : sx_IL := [(27, .invokevirtual 582, 3), (30, .invokestatic 659, 3), (33, .istore 7, 2), (35, .iconst 1, 1), (36, .iload 7, 2), (38, .ldc_w 664, 3)]
theorem aJ_360_3 : sx_iB prog_14_method_43_code aI_360_3 = true := by decide +kernel
def aI_360_4 : sx_IL := [(41, .irem, 1), (42, .iadd, 1), (43, .istore 8, 2), (45, .iload 8, 2), (47, .invokestatic 656, 3), (50, .istore 9, 2)]
theorem aJ_360_4 : sx_iB prog_14_method_43_code aI_360_4 = true := by decide +kernel
def aI_360_5 : sx_IL := [(52, .aload_n 0, 1), (53, .iload 6, 2), (55, .iload 9, 2), (57, .iload_n 2, 1), (58, .invokestatic 656, 3), (61, .aload_n 3, 1)]
theorem aJ_360_5 : sx_iB prog_14_method_43_code aI_360_5 = true := by decide +kernel
def aI_360_6 : sx_IL := [(62, .iload 4, 2), (64, .iload 5, 2), (66, .invokevirtual 665, 3), (69, .istore 10, 2), (71, .iload 8, 2), (73, .i2l, 1)]
theorem aJ_360_6 : sx_iB prog_14_method_43_code aI_360_6 = true := by decide +kernel
def aI_360_7 : sx_IL := [(74, .iload 10, 2), (76, .i2l, 1), (77, .iload_n 2, 1), (78, .i2l, 1), (79, .lmul, 1), (80, .ladd, 1)]
theorem aJ_360_7 : sx_iB prog_14_method_43_code aI_360_7 = true := by decide +kernel
def aI_360_8 : sx_IL := [(81, .ldc2_w 669, 3), (84, .lrem, 1), (85, .lstore 11, 2), (87, .iload 10, 2), (89, .i2l, 1), (90, .bipush 32, 2)]
theorem aJ_360_8 : sx_iB prog_14_method_43_code aI_360_8 = true := by decide +kernel
def aI_360_9 : sx_IL := [(92, .lshl, 1), (93, .lload 11, 2), (95, .lor, 1), (96, .lreturn, 1)]
theorem aJ_360_9 : sx_iB prog_14_method_43_code aI_360_9 = true := by decide +kernel
def aS_360 (pc : Nat) : sx_IL := (if pc < 52 then (if pc < 17 then (if pc < 8 then aI_360_0 else aI_360_1) else (if pc < 27 then aI_360_2 else (if pc < 41 then aI_360_3 else aI_360_4))) else (if pc < 74 then (if pc < 62 then aI_360_5 else aI_360_6) else (if pc < 81 then aI_360_7 else (if pc < 92 then aI_360_8 else aI_360_9))))
theorem aT_360 (pc : Nat) : sx_iOk prog_14_method_43_code (aS_360 pc) := (sx_ite (p := fun l => sx_iOk prog_14_method_43_code l) (sx_ite (p := fun l => sx_iOk prog_14_method_43_code l) (sx_ite (p := fun l => sx_iOk prog_14_method_43_code l) (sx_iB_s aJ_360_0) (sx_iB_s aJ_360_1)) (sx_ite (p := fun l => sx_iOk prog_14_method_43_code l) (sx_iB_s aJ_360_2) (sx_ite (p := fun l => sx_iOk prog_14_method_43_code l) (sx_iB_s aJ_360_3) (sx_iB_s aJ_360_4)))) (sx_ite (p := fun l => sx_iOk prog_14_method_43_code l) (sx_ite (p := fun l => sx_iOk prog_14_method_43_code l) (sx_iB_s aJ_360_5) (sx_iB_s aJ_360_6)) (sx_ite (p := fun l => sx_iOk prog_14_method_43_code l) (sx_iB_s aJ_360_7) (sx_ite (p := fun l => sx_iOk prog_14_method_43_code l) (sx_iB_s aJ_360_8) (sx_iB_s aJ_360_9)))))
def aW_360 : Nat → Option (Instr × Nat) := fun pc => sx_iF (aS_360 pc) pc
theorem aX_360 : ∀ pc i len, aW_360 pc = some (i, len) → decode aM_360.1.2.1 pc = .ok (i, len) := fun pc i len h => sx_iF_s (aT_360 pc) h
def aI_361_0 : sx_IL := [(0, .lload_n 0, 1), (1, .bipush 32, 2), (3, .lushr, 1), (4, .l2i, 1), (5, .ldc_w 626, 3), (8, .iand, 1)]
theorem aJ_361_0 : sx_iB prog_14_method_41_code aI_361_0 = true := by decide +kernel
def aI_361_1 : sx_IL := [(9, .ireturn, 1)]
theorem aJ_361_1 : sx_iB prog_14_method_41_code aI_361_1 = true := by decide +kernel
def aS_361 (pc : Nat) : sx_IL := (if pc < 9 then aI_361_0 else aI_361_1)
theorem aT_361 (pc : Nat) : sx_iOk prog_14_method_41_code (aS_361 pc) := (sx_ite (p := fun l => sx_iOk prog_14_method_41_code l) (sx_iB_s aJ_361_0) (sx_iB_s aJ_361_1))
def aW_361 : Nat → Option (Instr × Nat) := fun pc => sx_iF (aS_361 pc) pc
theorem aX_361 : ∀ pc i len, aW_361 pc = some (i, len) → decode aM_361.1.2.1 pc = .ok (i, len) := fun pc i len h => sx_iF_s (aT_361 pc) h
def aI_362_0 : sx_IL := [(0, .aload_n 0, 1), (1, .iload_n 1, 1), (2, .invokevirtual 568, 3), (5, .aload_n 0, 1), (6, .iload_n 2, 1), (7, .invokevirtual 606, 3)]
theorem aJ_362_0 : sx_iB prog_14_method_42_code aI_362_0 = true := by decide +kernel
def aI_362_1 : sx_IL := [(10, .aload_n 0, 1), (11, .iload_n 3, 1), (12, .invokevirtual 606, 3), (15, .aload_n 0, 1), (16, .aload 4, 2), (18, .iload 5, 2)]
theorem aJ_362_1 : sx_iB prog_14_method_42_code aI_362_1 = true := by decide +kernel
def aI_362_2 : sx_IL := [(20, .iload 6, 2), (22, .invokevirtual 586, 3), (25, .aload_n 0, 1), (26, .invokevirtual 571, 3), (29, .invokestatic 659, 3), (32, .ldc_w 663, 3)]
theorem aJ_362_2 : sx_iB prog_14_method_42_code aI_362_2 = true := by decide +kernel
def aI_362_3 : sx_IL := [(35, .irem, 1), (36, .ireturn, 1)]
theorem aJ_362_3 : sx_iB prog_14_method_42_code aI_362_3 = true := by decide +kernel
def aS_362 (pc : Nat) : sx_IL := (if pc < 20 then (if pc < 10 then aI_362_0 else aI_362_1) else (if pc < 35 then aI_362_2 else aI_362_3))
theorem aT_362 (pc : Nat) : sx_iOk prog_14_method_42_code (aS_362 pc) := (sx_ite (p := fun l => sx_iOk prog_14_method_42_code l) (sx_ite (p := fun l => sx_iOk prog_14_method_42_code l) (sx_iB_s aJ_362_0) (sx_iB_s aJ_362_1)) (sx_ite (p := fun l => sx_iOk prog_14_method_42_code l) (sx_iB_s aJ_362_2) (sx_iB_s aJ_362_3)))
def aW_362 : Nat → Option (Instr × Nat) := fun pc => sx_iF (aS_362 pc) pc
theorem aX_362 : ∀ pc i len, aW_362 pc = some (i, len) → decode aM_362.1.2.1 pc = .ok (i, len) := fun pc i len h => sx_iF_s (aT_362 pc) h
def aI_363_0 : sx_IL := [(0, .iload_n 1, 1), (1, .i2l, 1), (2, .lconst 1, 1), (3, .ldc2_w 631, 3), (6, .invokestatic 513, 3), (9, .ifCond .ne 5, 3)]
theorem aJ_363_0 : sx_iB prog_14_method_46_code aI_363_0 = true := by decide +kernel
def aI_363_1 : sx_IL := [(12, .iconst (-1), 1), (13, .ireturn, 1), (14, .aload_n 0, 1), (15, .iload_n 1, 1), (16, .iload_n 2, 1), (17, .lload_n 3, 1)]
theorem aJ_363_1 : sx_iB prog_14_method_46_code aI_363_1 = true := by decide +kernel
def aI_363_2 : sx_IL := [(18, .aload_n 0, 1), (19, .getfield 7, 3), (22, .iconst 0, 1), (23, .aload_n 0, 1), (24, .getfield 517, 3), (27, .invokevirtual 679, 3)]
theorem aJ_363_2 : sx_iB prog_14_method_46_code aI_363_2 = true := by decide +kernel
def aI_363_3 : sx_IL := [(30, .istore 5, 2), (32, .aload_n 0, 1), (33, .iconst 0, 1), (34, .putfield 517, 3), (37, .iload 5, 2), (39, .ifCond .eq 7, 3)]
theorem aJ_363_3 : sx_iB prog_14_method_46_code aI_363_3 = true := by decide +kernel
def aI_363_4 : sx_IL := [(42, .iconst 1, 1), (43, .goto 4, 3), (46, .iconst 0, 1), (47, .ireturn, 1)]
theorem aJ_363_4 : sx_iB prog_14_method_46_code aI_363_4 = true := by decide +kernel
def aS_363 (pc : Nat) : sx_IL := (if pc < 18 then (if pc < 12 then aI_363_0 else aI_363_1) else (if pc < 30 then aI_363_2 else (if pc < 42 then aI_363_3 else aI_363_4)))
theorem aT_363 (pc : Nat) : sx_iOk prog_14_method_46_code (aS_363 pc) := (sx_ite (p := fun l => sx_iOk prog_14_method_46_code l) (sx_ite (p := fun l => sx_iOk prog_14_method_46_code l) (sx_iB_s aJ_363_0) (sx_iB_s aJ_363_1)) (sx_ite (p := fun l => sx_iOk prog_14_method_46_code l) (sx_iB_s aJ_363_2) (sx_ite (p := fun l => sx_iOk prog_14_method_46_code l) (sx_iB_s aJ_363_3) (sx_iB_s aJ_363_4))))
def aW_363 : Nat → Option (Instr × Nat) := fun pc => sx_iF (aS_363 pc) pc
theorem aX_363 : ∀ pc i len, aW_363 pc = some (i, len) → decode aM_363.1.2.1 pc = .ok (i, len) := fun pc i len h => sx_iF_s (aT_363 pc) h
def aI_364_0 : sx_IL := [(0, .lload_n 3, 1), (1, .bipush 32, 2), (3, .lushr, 1), (4, .l2i, 1), (5, .istore 8, 2), (7, .lload_n 3, 1)]
theorem aJ_364_0 : sx_iB prog_14_method_44_code aI_364_0 = true := by decide +kernel
def aI_364_1 : sx_IL := [(8, .l2i, 1), (9, .istore 9, 2), (11, .iload_n 2, 1), (12, .i2l, 1), (13, .ldc2_w 631, 3), (16, .ldc2_w 671, 3)]
theorem aJ_364_1 : sx_iB prog_14_method_44_code aI_364_1 = true := by decide +kernel
def aI_364_2 : sx_IL := [(19, .invokestatic 513, 3), (22, .ifCond .eq 44, 3), (25, .iload_n 2, 1), (26, .i2l, 1), (27, .ldc_w 663, 3), (30, .ldc_w 651, 3)]
theorem aJ_364_2 : sx_iB prog_14_method_44_code aI_364_2 = true := by decide +kernel
def aI_364_3 : sx_IL := [(33, .invokestatic 636, 3), (36, .iconst 1, 1), (37, .if_icmp .ne 29, 3), (40, .iload 8, 2), (42, .i2l, 1), (43, .lconst 0, 1)]
theorem aJ_364_3 : sx_iB prog_14_method_44_code aI_364_3 = true := by decide +kernel
def aI_364_4 : sx_IL := [(44, .ldc2_w 647, 3), (47, .invokestatic 513, 3), (50, .ifCond .eq 16, 3), (53, .iload 9, 2), (55, .i2l, 1), (56, .lconst 0, 1)]
theorem aJ_364_4 : sx_iB prog_14_method_44_code aI_364_4 = true := by decide +kernel
def aI_364_5 : sx_IL := [(57, .ldc2_w 647, 3), (60, .invokestatic 513, 3), (63, .ifCond .ne 5, 3), (66, .iconst 0, 1), (67, .ireturn, 1), (68, .ldc2_w 649, 3)]
theorem aJ_364_5 : sx_iB prog_14_method_44_code aI_364_5 = true := by decide +kernel
def aI_364_6 : sx_IL := [(71, .iload 9, 2), (73, .ldc_w 651, 3), (76, .invokestatic 636, 3), (79, .i2l, 1), (80, .iload_n 2, 1), (81, .i2l, 1)]
theorem aJ_364_6 : sx_iB prog_14_method_44_code aI_364_6 = true := by decide +kernel
def aI_364_7 : sx_IL := [(82, .ldc_w 663, 3), (85, .iload 8, 2), (87, .isub, 1), (88, .ldc_w 651, 3), (91, .invokestatic 636, 3), (94, .i2l, 1)]
theorem aJ_364_7 : sx_iB prog_14_method_44_code aI_364_7 = true := by decide +kernel
def aI_364_8 : sx_IL := [(95, .lmul, 1), (96, .ldc2_w 673, 3), (99, .lrem, 1), (100, .lstore 10, 2), (102, .aload_n 0, 1), (103, .iload_n 1, 1)]
theorem aJ_364_8 : sx_iB prog_14_method_44_code aI_364_8 = true := by decide +kernel
def aI_364_9 : sx_IL := [(104, .iconst 1, 1), (105, .isub, 1), (106, .lload 10, 2), (108, .l2i, 1), (109, .iload_n 2, 1), (110, .aload 5, 2)]
theorem aJ_364_9 : sx_iB prog_14_method_44_code aI_364_9 = true := by decide +kernel
def aI_364_10 : sx_IL := [(112, .iload 6, 2), (114, .iload 7, 2), (116, .invokevirtual 665, 3), (119, .iload 8, 2), (121, .if_icmp .ne 7, 3), (124, .iconst 1, 1)]
theorem aJ_364_10 : sx_iB prog_14_method_44_code aI_364_10 = true := by decide +kernel
def aI_364_11 : sx_IL := [(125, .goto 4, 3), (128, .iconst 0, 1), (129, .ireturn, 1)]
theorem aJ_364_11 : sx_iB prog_14_method_44_code aI_364_11 = true := by decide +kernel
def aS_364 (pc : Nat) : sx_IL := (if pc < 71 then (if pc < 33 then (if pc < 8 then aI_364_0 else (if pc < 19 then aI_364_1 else aI_364_2)) else (if pc < 44 then aI_364_3 else (if pc < 57 then aI_364_4 else aI_364_5))) else (if pc < 104 then (if pc < 82 then aI_364_6 else (if pc < 95 then aI_364_7 else aI_364_8)) else (if pc < 112 then aI_364_9 else (if pc < 125 then aI_364_10 else aI_364_11))))
theorem aT_364 (pc : Nat) : sx_iOk prog_14_method_44_code (aS_364 pc) := (sx_ite (p := fun l => sx_iOk prog_14_method_44_code l) (sx_ite (p := fun l => sx_iOk prog_14_method_44_code l) (sx_ite (p := fun l => sx_iOk prog_14_method_44_code l) (sx_iB_s aJ_364_0) (sx_ite (p := fun l => sx_iOk prog_14_method_44_code l) (sx_iB_s aJ_364_1) (sx_iB_s aJ_364_2))) (sx_ite (p := fun l => sx_iOk prog_14_method_44_code l) (sx_iB_s aJ_364_3) (sx_ite (p := fun l => sx_iOk prog_14_method_44_code l) (sx_iB_s aJ_364_4) (sx_iB_s aJ_364_5)))) (sx_ite (p := fun l => sx_iOk prog_14_method_44_code l) (sx_ite (p := fun l => sx_iOk prog_14_method_44_code l) (sx_iB_s aJ_364_6) (sx_ite (p := fun l => sx_iOk prog_14_method_44_code l) (sx_iB_s aJ_364_7) (sx_iB_s aJ_364_8))) (sx_ite (p := fun l => sx_iOk prog_14_method_44_code l) (sx_iB_s aJ_364_9) (sx_ite (p := fun l => sx_iOk prog_14_method_44_code l) (sx_iB_s aJ_364_10) (sx_iB_s aJ_364_11)))))
def aW_364 : Nat → Option (Instr × Nat) := fun pc => sx_iF (aS_364 pc) pc
theorem aX_364 : ∀ pc i len, aW_364 pc = some (i, len) → decode aM_364.1.2.1 pc = .ok (i, len) := fun pc i len h => sx_iF_s (aT_364 pc) h
def aI_365_0 : sx_IL := [(0, .aload_n 0, 1), (1, .getfield 683, 3), (4, .iconst 4, 1), (5, .if_icmp .ne 6, 3), (8, .bipush (-3), 2), (10, .ireturn, 1)]
theorem aJ_365_0 : sx_iB prog_14_method_49_code aI_365_0 = true := by decide +kernel
def aI_365_1 : sx_IL := [(11, .aload_n 0, 1), (12, .dup, 1), (13, .getfield 683, 3), (16, .iconst 1, 1), (17, .iadd, 1), (18, .putfield 683, 3)]
theorem aJ_365_1 : sx_iB prog_14_method_49_code aI_365_1 = true := by decide +kernel
def aI_365_2 : sx_IL := [(21, .aload_n 0, 1), (22, .getfield 683, 3), (25, .iconst 1, 1), (26, .isub, 1), (27, .ireturn, 1)]
theorem aJ_365_2 : sx_iB prog_14_method_49_code aI_365_2 = true := by decide +kernel
def aS_365 (pc : Nat) : sx_IL := (if pc < 11 then aI_365_0 else (if pc < 21 then aI_365_1 else aI_365_2))
theorem aT_365 (pc : Nat) : sx_iOk prog_14_method_49_code (aS_365 pc) := (sx_ite (p := fun l => sx_iOk prog_14_method_49_code l) (sx_iB_s aJ_365_0) (sx_ite (p := fun l => sx_iOk prog_14_method_49_code l) (sx_iB_s aJ_365_1) (sx_iB_s aJ_365_2)))
def aW_365 : Nat → Option (Instr × Nat) := fun pc => sx_iF (aS_365 pc) pc
theorem aX_365 : ∀ pc i len, aW_365 pc = some (i, len) → decode aM_365.1.2.1 pc = .ok (i, len) := fun pc i len h => sx_iF_s (aT_365 pc) h
def aI_366_0 : sx_IL := [(0, .iload_n 1, 1), (1, .i2l, 1), (2, .lconst 0, 1), (3, .aload_n 0, 1), (4, .getfield 683, 3), (7, .iconst 1, 1)]
theorem aJ_366_0 : sx_iB prog_14_method_50_code aI_366_0 = true := by decide +kernel
def aI_366_1 : sx_IL := [(8, .isub, 1), (9, .i2l, 1), (10, .invokestatic 513, 3), (13, .ifCond .ne 5, 3), (16, .iconst (-1), 1), (17, .ireturn, 1)]
theorem aJ_366_1 : sx_iB prog_14_method_50_code aI_366_1 = true := by decide +kernel
def aI_366_2 : sx_IL := [(18, .aload_n 0, 1), (19, .getfield 16, 3), (22, .iload_n 1, 1), (23, .iaload, 1), (24, .bipush 64, 2), (26, .if_icmp .ne 6, 3)]
theorem aJ_366_2 : sx_iB prog_14_method_50_code aI_366_2 = true := by decide +kernel
def aI_366_3 : sx_IL := [(29, .bipush (-3), 2), (31, .ireturn, 1), (32, .aload_n 0, 1), (33, .getfield 19, 3), (36, .bipush 64, 2), (38, .iload_n 1, 1)]
theorem aJ_366_3 : sx_iB prog_14_method_50_code aI_366_3 = true := by decide +kernel
def aI_366_4 : sx_IL := [(39, .imul, 1), (40, .aload_n 0, 1), (41, .getfield 16, 3), (44, .iload_n 1, 1), (45, .iaload, 1), (46, .iadd, 1)]
theorem aJ_366_4 : sx_iB prog_14_method_50_code aI_366_4 = true := by decide +kernel
def aI_366_5 : sx_IL := [(47, .lload_n 2, 1), (48, .lastore, 1), (49, .aload_n 0, 1), (50, .getfield 16, 3), (53, .iload_n 1, 1), (54, .dup2, 1)]
theorem aJ_366_5 : sx_iB prog_14_method_50_code aI_366_5 = true := by decide +kernel
def aI_366_6 : sx_IL := [(55, .iaload, 1), (56, .iconst 1, 1), (57, .iadd, 1), (58, .iastore, 1), (59, .aload_n 0, 1), (60, .getfield 16, 3)]
theorem aJ_366_6 : sx_iB prog_14_method_50_code aI_366_6 = true := by decide +kernel
def aI_366_7 : sx_IL := [(63, .iload_n 1, 1), (64, .iaload, 1), (65, .ireturn, 1)]
theorem aJ_366_7 : sx_iB prog_14_method_50_code aI_366_7 = true := by decide +kernel
def aS_366 (pc : Nat) : sx_IL := (if pc < 39 then (if pc < 18 then (if pc < 8 then aI_366_0 else aI_366_1) else (if pc < 29 then aI_366_2 else aI_366_3)) else (if pc < 55 then (if pc < 47 then aI_366_4 else aI_366_5) else (if pc < 63 then aI_366_6 else aI_366_7)))
theorem aT_366 (pc : Nat) : sx_iOk prog_14_method_50_code (aS_366 pc) := (sx_ite (p := fun l => sx_iOk prog_14_method_50_code l) (sx_ite (p := fun l => sx_iOk prog_14_method_50_code l) (sx_ite (p := fun l => sx_iOk prog_14_method_50_code l) (sx_iB_s aJ_366_0) (sx_iB_s aJ_366_1)) (sx_ite (p := fun l => sx_iOk prog_14_method_50_code l) (sx_iB_s aJ_366_2) (sx_iB_s aJ_366_3))) (sx_ite (p := fun l => sx_iOk prog_14_method_50_code l) (sx_ite (p := fun l => sx_iOk prog_14_method_50_code l) (sx_iB_s aJ_366_4) (sx_iB_s aJ_366_5)) (sx_ite (p := fun l => sx_iOk prog_14_method_50_code l) (sx_iB_s aJ_366_6) (sx_iB_s aJ_366_7))))
def aW_366 : Nat → Option (Instr × Nat) := fun pc => sx_iF (aS_366 pc) pc
theorem aX_366 : ∀ pc i len, aW_366 pc = some (i, len) → decode aM_366.1.2.1 pc = .ok (i, len) := fun pc i len h => sx_iF_s (aT_366 pc) h
def aI_367_0 : sx_IL := [(0, .iload_n 1, 1), (1, .i2l, 1), (2, .lconst 0, 1), (3, .aload_n 0, 1), (4, .getfield 683, 3), (7, .iconst 1, 1)]
theorem aJ_367_0 : sx_iB prog_14_method_53_code aI_367_0 = true := by decide +kernel
def aI_367_1 : sx_IL := [(8, .isub, 1), (9, .i2l, 1), (10, .invokestatic 513, 3), (13, .ifCond .eq 29, 3), (16, .iload_n 2, 1), (17, .i2l, 1)]
theorem aJ_367_1 : sx_iB prog_14_method_53_code aI_367_1 = true := by decide +kernel
def aI_367_2 : sx_IL := [(18, .lconst 0, 1), (19, .aload_n 0, 1), (20, .getfield 16, 3), (23, .iload_n 1, 1), (24, .iaload, 1), (25, .i2l, 1)]
theorem aJ_367_2 : sx_iB prog_14_method_53_code aI_367_2 = true := by decide +kernel
def aI_367_3 : sx_IL := [(26, .invokestatic 513, 3), (29, .ifCond .eq 13, 3), (32, .aload_n 0, 1), (33, .iload_n 1, 1), (34, .iconst 0, 1), (35, .iload_n 2, 1)]
theorem aJ_367_3 : sx_iB prog_14_method_53_code aI_367_3 = true := by decide +kernel
def aI_367_4 : sx_IL := [(36, .invokevirtual 694, 3), (39, .goto 6, 3), (42, .ldc2_w 590, 3), (45, .lreturn, 1)]
theorem aJ_367_4 : sx_iB prog_14_method_53_code aI_367_4 = true := by decide +kernel
def aS_367 (pc : Nat) : sx_IL := (if pc < 18 then (if pc < 8 then aI_367_0 else aI_367_1) else (if pc < 26 then aI_367_2 else (if pc < 36 then aI_367_3 else aI_367_4)))
theorem aT_367 (pc : Nat) : sx_iOk prog_14_method_53_code (aS_367 pc) := (sx_ite (p := fun l => sx_iOk prog_14_method_53_code l) (sx_ite (p := fun l => sx_iOk prog_14_method_53_code l) (sx_iB_s aJ_367_0) (sx_iB_s aJ_367_1)) (sx_ite (p := fun l => sx_iOk prog_14_method_53_code l) (sx_iB_s aJ_367_2) (sx_ite (p := fun l => sx_iOk prog_14_method_53_code l) (sx_iB_s aJ_367_3) (sx_iB_s aJ_367_4))))
def aW_367 : Nat → Option (Instr × Nat) := fun pc => sx_iF (aS_367 pc) pc
theorem aX_367 : ∀ pc i len, aW_367 pc = some (i, len) → decode aM_367.1.2.1 pc = .ok (i, len) := fun pc i len h => sx_iF_s (aT_367 pc) h
def aI_368_0 : sx_IL := [(0, .iload_n 3, 1), (1, .ifCond .ne 13, 3), (4, .aload_n 0, 1), (5, .iconst 0, 1), (6, .invokevirtual 568, 3), (9, .aload_n 0, 1)]
theorem aJ_368_0 : sx_iB prog_14_method_51_code aI_368_0 = true := by decide +kernel
def aI_368_1 : sx_IL := [(10, .invokevirtual 571, 3), (13, .lreturn, 1), (14, .iconst 0, 1), (15, .istore 4, 2), (17, .iconst 0, 1), (18, .istore 5, 2)]
theorem aJ_368_1 : sx_iB prog_14_method_51_code aI_368_1 = true := by decide +kernel
def aI_368_2 : sx_IL := [(20, .iload 5, 2), (22, .iload_n 3, 1), (23, .if_icmp .ge 122, 3), (26, .aload_n 0, 1), (27, .getfield 23, 3), (30, .iload 4, 2)]
theorem aJ_368_2 : sx_iB prog_14_method_51_code aI_368_2 = true := by decide +kernel
def aI_368_3 : sx_IL := [(32, .aload_n 0, 1), (33, .aload_n 0, 1), (34, .getfield 19, 3), (37, .bipush 64, 2), (39, .iload_n 1, 1), (40, .imul, 1)]
theorem aJ_368_3 : sx_iB prog_14_method_51_code aI_368_3 = true := by decide +kernel
def aI_368_4 : sx_IL := [(41, .iload_n 2, 1), (42, .iadd, 1), (43, .iload 5, 2), (45, .iadd, 1), (46, .laload, 1), (47, .invokevirtual 686, 3)]
theorem aJ_368_4 : sx_iB prog_14_method_51_code aI_368_4 = true := by decide +kernel
def aI_368_5 : sx_IL := [(50, .lastore, 1), (51, .aload_n 0, 1), (52, .getfield 26, 3), (55, .iload 4, 2), (57, .iconst 1, 1), (58, .iastore, 1)]
theorem aJ_368_5 : sx_iB prog_14_method_51_code aI_368_5 = true := by decide +kernel
def aI_368_6 : sx_IL := [(59, .iinc 4 1, 3), (62, .iload 4, 2), (64, .iconst 1, 1), (65, .if_icmp .le 74, 3), (68, .aload_n 0, 1), (69, .getfield 26, 3)]
theorem aJ_368_6 : sx_iB prog_14_method_51_code aI_368_6 = true := by decide +kernel
def aI_368_7 : sx_IL := [(72, .iload 4, 2), (74, .iconst 1, 1), (75, .isub, 1), (76, .iaload, 1), (77, .aload_n 0, 1), (78, .getfield 26, 3)]
theorem aJ_368_7 : sx_iB prog_14_method_51_code aI_368_7 = true := by decide +kernel
def aI_368_8 : sx_IL := [(81, .iload 4, 2), (83, .iconst 2, 1), (84, .isub, 1), (85, .iaload, 1), (86, .if_icmp .ne 53, 3), (89, .aload_n 0, 1)]
theorem aJ_368_8 : sx_iB prog_14_method_51_code aI_368_8 = true := by decide +kernel
def aI_368_9 : sx_IL := [(90, .getfield 23, 3), (93, .iload 4, 2), (95, .iconst 2, 1), (96, .isub, 1), (97, .aload_n 0, 1), (98, .aload_n 0, 1)]
theorem aJ_368_9 : sx_iB prog_14_method_51_code aI_368_9 = true := by decide +kernel
def aI_368_10 : sx_IL := [(99, .getfield 23, 3), (102, .iload 4, 2), (104, .iconst 2, 1), (105, .isub, 1), (106, .laload, 1), (107, .aload_n 0, 1)]
theorem aJ_368_10 : sx_iB prog_14_method_51_code aI_368_10 = true := by decide +kernel
def aI_368_11 : sx_IL := [(108, .getfield 23, 3), (111, .iload 4, 2), (113, .iconst 1, 1), (114, .isub, 1), (115, .laload, 1), (116, .invokevirtual 690, 3)]
theorem aJ_368_11 : sx_iB prog_14_method_51_code aI_368_11 = true := by decide +kernel
def aI_368_12 : sx_IL := [(119, .lastore, 1), (120, .aload_n 0, 1), (121, .getfield 26, 3), (124, .iload 4, 2), (126, .iconst 2, 1), (127, .isub, 1)]
theorem aJ_368_12 : sx_iB prog_14_method_51_code aI_368_12 = true := by decide +kernel
def aI_368_13 : sx_IL := [(128, .dup2, 1), (129, .iaload, 1), (130, .iconst 2, 1), (131, .imul, 1), (132, .iastore, 1), (133, .iinc 4 (-1), 3)]
theorem aJ_368_13 : sx_iB prog_14_method_51_code aI_368_13 = true := by decide +kernel
def aI_368_14 : sx_IL := [(136, .goto (-74), 3), (139, .iinc 5 1, 3), (142, .goto (-122), 3), (145, .iload 4, 2), (147, .iconst 1, 1), (148, .if_icmp .le 40, 3)]
theorem aJ_368_14 : sx_iB prog_14_method_51_code aI_368_14 = true := by decide +kernel
def aI_368_15 : sx_IL := [(151, .aload_n 0, 1), (152, .getfield 23, 3), (155, .iload 4, 2), (157, .iconst 2, 1), (158, .isub, 1), (159, .aload_n 0, 1)]
theorem aJ_368_15 : sx_iB prog_14_method_51_code aI_368_15 = true := by decide +kernel
def aI_368_16 : sx_IL := [(160, .aload_n 0, 1), (161, .getfield 23, 3), (164, .iload 4, 2), (166, .iconst 2, 1), (167, .isub, 1), (168, .laload, 1)]
theorem aJ_368_16 : sx_iB prog_14_method_51_code aI_368_16 = true := by decide +kernel
def aI_368_17 : sx_IL := [(169, .aload_n 0, 1), (170, .getfield 23, 3), (173, .iload 4, 2), (175, .iconst 1, 1), (176, .isub, 1), (177, .laload, 1)]
theorem aJ_368_17 : sx_iB prog_14_method_51_code aI_368_17 = true := by decide +kernel
def aI_368_18 : sx_IL := [(178, .invokevirtual 690, 3), (181, .lastore, 1), (182, .iinc 4 (-1), 3), (185, .goto (-40), 3), (188, .aload_n 0, 1), (189, .getfield 23, 3)]
theorem aJ_368_18 : sx_iB prog_14_method_51_code aI_368_18 = true := by decide +kernel
def aI_368_19 : sx_IL := [(192, .iconst 0, 1), (193, .laload, 1), (194, .lreturn, 1)]
theorem aJ_368_19 : sx_iB prog_14_method_51_code aI_368_19 = true := by decide +kernel
def aS_368 (pc : Nat) : sx_IL := (if pc < 99 then (if pc < 50 then (if pc < 20 then (if pc < 10 then aI_368_0 else aI_368_1) else (if pc < 32 then aI_368_2 else (if pc < 41 then aI_368_3 else aI_368_4))) else (if pc < 72 then (if pc < 59 then aI_368_5 else aI_368_6) else (if pc < 81 then aI_368_7 else (if pc < 90 then aI_368_8 else aI_368_9)))) else (if pc < 151 then (if pc < 119 then (if pc < 108 then aI_368_10 else aI_368_11) else (if pc < 128 then aI_368_12 else (if pc < 136 then aI_368_13 else aI_368_14))) else (if pc < 169 then (if pc < 160 then aI_368_15 else aI_368_16) else (if pc < 178 then aI_368_17 else (if pc < 192 then aI_368_18 else aI_368_19)))))
theorem aT_368 (pc : Nat) : sx_iOk prog_14_method_51_code (aS_368 pc) := (sx_ite (p := fun l => sx_iOk prog_14_method_51_code l) (sx_ite (p := fun l => sx_iOk prog_14_method_51_code l) (sx_ite (p := fun l => sx_iOk prog_14_method_51_code l) (sx_ite (p := fun l => sx_iOk prog_14_method_51_code l) (sx_iB_s aJ_368_0) (sx_iB_s aJ_368_1)) (sx_ite (p := fun l => sx_iOk prog_14_method_51_code l) (sx_iB_s aJ_368_2) (sx_ite (p := fun l => sx_iOk prog_14_method_51_code l) (sx_iB_s aJ_368_3) (sx_iB_s aJ_368_4)))) (sx_ite (p := fun l => sx_iOk prog_14_method_51_code l) (sx_ite (p := fun l => sx_iOk prog_14_method_51_code l) (sx_iB_s aJ_368_5) (sx_iB_s aJ_368_6)) (sx_ite (p := fun l => sx_iOk prog_14_method_51_code l) (sx_iB_s aJ_368_7) (sx_ite (p := fun l => sx_iOk prog_14_method_51_code l) (sx_iB_s aJ_368_8) (sx_iB_s aJ_368_9))))) (sx_ite (p := fun l => sx_iOk prog_14_method_51_code l) (sx_ite (p := fun l => sx_iOk prog_14_method_51_code l) (sx_ite (p := fun l => sx_iOk prog_14_method_51_code l) (sx_iB_s aJ_368_10) (sx_iB_s aJ_368_11)) (sx_ite (p := fun l => sx_iOk prog_14_method_51_code l) (sx_iB_s aJ_368_12) (sx_ite (p := fun l => sx_iOk prog_14_method_51_code l) (sx_iB_s aJ_368_13) (sx_iB_s aJ_368_14)))) (sx_ite (p := fun l => sx_iOk prog_14_method_51_code l) (sx_ite (p := fun l => sx_iOk prog_14_method_51_code l) (sx_iB_s aJ_368_15) (sx_iB_s aJ_368_16)) (sx_ite (p := fun l => sx_iOk prog_14_method_51_code l) (sx_iB_s aJ_368_17) (sx_ite (p := fun l => sx_iOk prog_14_method_51_code l) (sx_iB_s aJ_368_18) (sx_iB_s aJ_368_19))))))
def aW_368 : Nat → Option (Instr × Nat) := fun pc => sx_iF (aS_368 pc) pc
theorem aX_368 : ∀ pc i len, aW_368 pc = some (i, len) → decode aM_368.1.2.1 pc = .ok (i, len) := fun pc i len h => sx_iF_s (aT_368 pc) h
def aI_369_0 : sx_IL := [(0, .aload_n 0, 1), (1, .iconst 0, 1), (2, .invokevirtual 568, 3), (5, .aload_n 0, 1), (6, .iconst 0, 1), (7, .invokevirtual 561, 3)]
theorem aJ_369_0 : sx_iB prog_14_method_47_code aI_369_0 = true := by decide +kernel
def aI_369_1 : sx_IL := [(10, .aload_n 0, 1), (11, .lload_n 1, 1), (12, .invokevirtual 574, 3), (15, .aload_n 0, 1), (16, .invokevirtual 571, 3), (19, .lreturn, 1)]
theorem aJ_369_1 : sx_iB prog_14_method_47_code aI_369_1 = true := by decide +kernel
def aS_369 (pc : Nat) : sx_IL := (if pc < 10 then aI_369_0 else aI_369_1)
theorem aT_369 (pc : Nat) : sx_iOk prog_14_method_47_code (aS_369 pc) := (sx_ite (p := fun l => sx_iOk prog_14_method_47_code l) (sx_iB_s aJ_369_0) (sx_iB_s aJ_369_1))
def aW_369 : Nat → Option (Instr × Nat) := fun pc => sx_iF (aS_369 pc) pc
theorem aX_369 : ∀ pc i len, aW_369 pc = some (i, len) → decode aM_369.1.2.1 pc = .ok (i, len) := fun pc i len h => sx_iF_s (aT_369 pc) h
def aI_370_0 : sx_IL := [(0, .aload_n 0, 1), (1, .iconst 0, 1), (2, .invokevirtual 568, 3), (5, .aload_n 0, 1), (6, .iconst 1, 1), (7, .invokevirtual 561, 3)]
theorem aJ_370_0 : sx_iB prog_14_method_48_code aI_370_0 = true := by decide +kernel
def aI_370_1 : sx_IL := [(10, .aload_n 0, 1), (11, .lload_n 1, 1), (12, .invokevirtual 574, 3), (15, .aload_n 0, 1), (16, .lload_n 3, 1), (17, .invokevirtual 574, 3)]
theorem aJ_370_1 : sx_iB prog_14_method_48_code aI_370_1 = true := by decide +kernel
def aI_370_2 : sx_IL := [(20, .aload_n 0, 1), (21, .invokevirtual 571, 3), (24, .lreturn, 1)]
theorem aJ_370_2 : sx_iB prog_14_method_48_code aI_370_2 = true := by decide +kernel
def aS_370 (pc : Nat) : sx_IL := (if pc < 10 then aI_370_0 else (if pc < 20 then aI_370_1 else aI_370_2))
theorem aT_370 (pc : Nat) : sx_iOk prog_14_method_48_code (aS_370 pc) := (sx_ite (p := fun l => sx_iOk prog_14_method_48_code l) (sx_iB_s aJ_370_0) (sx_ite (p := fun l => sx_iOk prog_14_method_48_code l) (sx_iB_s aJ_370_1) (sx_iB_s aJ_370_2)))
def aW_370 : Nat → Option (Instr × Nat) := fun pc => sx_iF (aS_370 pc) pc
theorem aX_370 : ∀ pc i len, aW_370 pc = some (i, len) → decode aM_370.1.2.1 pc = .ok (i, len) := fun pc i len h => sx_iF_s (aT_370 pc) h
def aI_371_0 : sx_IL := [(0, .iload_n 1, 1), (1, .i2l, 1), (2, .lconst 0, 1), (3, .aload_n 0, 1), (4, .getfield 683, 3), (7, .iconst 1, 1)]
theorem aJ_371_0 : sx_iB prog_14_method_55_code aI_371_0 = true := by decide +kernel
def aI_371_1 : sx_IL := [(8, .isub, 1), (9, .i2l, 1), (10, .invokestatic 513, 3), (13, .ifCond .eq 32, 3), (16, .iload_n 3, 1), (17, .i2l, 1)]
theorem aJ_371_1 : sx_iB prog_14_method_55_code aI_371_1 = true := by decide +kernel
def aI_371_2 : sx_IL := [(18, .lconst 1, 1), (19, .aload_n 0, 1), (20, .getfield 16, 3), (23, .iload_n 1, 1), (24, .iaload, 1), (25, .i2l, 1)]
theorem aJ_371_2 : sx_iB prog_14_method_55_code aI_371_2 = true := by decide +kernel
def aI_371_3 : sx_IL := [(26, .invokestatic 513, 3), (29, .ifCond .eq 16, 3), (32, .iload_n 2, 1), (33, .i2l, 1), (34, .lconst 0, 1), (35, .iload_n 3, 1)]
theorem aJ_371_3 : sx_iB prog_14_method_55_code aI_371_3 = true := by decide +kernel
def aI_371_4 : sx_IL := [(36, .iconst 1, 1), (37, .isub, 1), (38, .i2l, 1), (39, .invokestatic 513, 3), (42, .ifCond .ne 5, 3), (45, .iconst (-1), 1)]
theorem aJ_371_4 : sx_iB prog_14_method_55_code aI_371_4 = true := by decide +kernel
def aI_371_5 : sx_IL := [(46, .ireturn, 1), (47, .aload_n 0, 1), (48, .iconst 0, 1), (49, .putfield 697, 3), (52, .iconst 0, 1), (53, .istore 4, 2)]
theorem aJ_371_5 : sx_iB prog_14_method_55_code aI_371_5 = true := by decide +kernel
def aI_371_6 : sx_IL := [(55, .iload_n 3, 1), (56, .istore 5, 2), (58, .iload 5, 2), (60, .iconst 1, 1), (61, .if_icmp .le 114, 3), (64, .iload 5, 2)]
theorem aJ_371_6 : sx_iB prog_14_method_55_code aI_371_6 = true := by decide +kernel
def aI_371_7 : sx_IL := [(66, .invokestatic 700, 3), (69, .istore 6, 2), (71, .iload_n 2, 1), (72, .iload 4, 2), (74, .iload 6, 2), (76, .iadd, 1)]
theorem aJ_371_7 : sx_iB prog_14_method_55_code aI_371_7 = true := by decide +kernel
def aI_371_8 : sx_IL := [(77, .if_icmp .ge 7, 3), (80, .iconst 1, 1), (81, .goto 4, 3), (84, .iconst 0, 1), (85, .istore 7, 2), (87, .aload_n 0, 1)]
theorem aJ_371_8 : sx_iB prog_14_method_55_code aI_371_8 = true := by decide +kernel
def aI_371_9 : sx_IL := [(88, .getfield 29, 3), (91, .aload_n 0, 1), (92, .getfield 697, 3), (95, .iload 7, 2), (97, .ifCond .eq 21, 3), (100, .aload_n 0, 1)]
theorem aJ_371_9 : sx_iB prog_14_method_55_code aI_371_9 = true := by decide +kernel
def aI_371_10 : sx_IL := [(101, .iload_n 1, 1), (102, .iload 4, 2), (104, .iload 6, 2), (106, .iadd, 1), (107, .iload 5, 2), (109, .iload 6, 2)]
theorem aJ_371_10 : sx_iB prog_14_method_55_code aI_371_10 = true := by decide +kernel
def aI_371_11 : sx_IL := [(111, .isub, 1), (112, .invokevirtual 694, 3), (115, .goto 12, 3), (118, .aload_n 0, 1), (119, .iload_n 1, 1), (120, .iload 4, 2)]
theorem aJ_371_11 : sx_iB prog_14_method_55_code aI_371_11 = true := by decide +kernel
def aI_371_12 : sx_IL := [(122, .iload 6, 2), (124, .invokevirtual 694, 3), (127, .lastore, 1), (128, .aload_n 0, 1), (129, .dup, 1), (130, .getfield 697, 3)]
theorem aJ_371_12 : sx_iB prog_14_method_55_code aI_371_12 = true := by decide +kernel
def aI_371_13 : sx_IL := [(133, .iconst 1, 1), (134, .iadd, 1), (135, .putfield 697, 3), (138, .iload 7, 2), (140, .ifCond .eq 8, 3), (143, .iload 4, 2)]
theorem aJ_371_13 : sx_iB prog_14_method_55_code aI_371_13 = true := by decide +kernel
def aI_371_14 : sx_IL := [(145, .goto 8, 3), (148, .iload 4, 2), (150, .iload 6, 2), (152, .iadd, 1), (153, .istore 4, 2), (155, .iload 7, 2)]
theorem aJ_371_14 : sx_iB prog_14_method_55_code aI_371_14 = true := by decide +kernel
def aI_371_15 : sx_IL := [(157, .ifCond .eq 8, 3), (160, .iload 6, 2), (162, .goto 8, 3), (165, .iload 5, 2), (167, .iload 6, 2), (169, .isub, 1)]
theorem aJ_371_15 : sx_iB prog_14_method_55_code aI_371_15 = true := by decide +kernel
def aI_371_16 : sx_IL := [(170, .istore 5, 2), (172, .goto (-114), 3), (175, .aload_n 0, 1), (176, .invokevirtual 703, 3), (179, .ireturn, 1)]
theorem aJ_371_16 : sx_iB prog_14_method_55_code aI_371_16 = true := by decide +kernel
def aS_371 (pc : Nat) : sx_IL := (if pc < 77 then (if pc < 36 then (if pc < 18 then (if pc < 8 then aI_371_0 else aI_371_1) else (if pc < 26 then aI_371_2 else aI_371_3)) else (if pc < 55 then (if pc < 46 then aI_371_4 else aI_371_5) else (if pc < 66 then aI_371_6 else aI_371_7))) else (if pc < 122 then (if pc < 101 then (if pc < 88 then aI_371_8 else aI_371_9) else (if pc < 111 then aI_371_10 else aI_371_11)) else (if pc < 145 then (if pc < 133 then aI_371_12 else aI_371_13) else (if pc < 157 then aI_371_14 else (if pc < 170 then aI_371_15 else aI_371_16)))))
theorem aT_371 (pc : Nat) : sx_iOk prog_14_method_55_code (aS_371 pc) := (sx_ite (p := fun l => sx_iOk prog_14_method_55_code l) (sx_ite (p := fun l => sx_iOk prog_14_method_55_code l) (sx_ite (p := fun l => sx_iOk prog_14_method_55_code l) (sx_ite (p := fun l => sx_iOk prog_14_method_55_code l) (sx_iB_s aJ_371_0) (sx_iB_s aJ_371_1)) (sx_ite (p := fun l => sx_iOk prog_14_method_55_code l) (sx_iB_s aJ_371_2) (sx_iB_s aJ_371_3))) (sx_ite (p := fun l => sx_iOk prog_14_method_55_code l) (sx_ite (p := fun l => sx_iOk prog_14_method_55_code l) (sx_iB_s aJ_371_4) (sx_iB_s aJ_371_5)) (sx_ite (p := fun l => sx_iOk prog_14_method_55_code l) (sx_iB_s aJ_371_6) (sx_iB_s aJ_371_7)))) (sx_ite (p := fun l => sx_iOk prog_14_method_55_code l) (sx_ite (p := fun l => sx_iOk prog_14_method_55_code l) (sx_ite (p := fun l => sx_iOk prog_14_method_55_code l) (sx_iB_s aJ_371_8) (sx_iB_s aJ_371_9)) (sx_ite (p := fun l => sx_iOk prog_14_method_55_code l) (sx_iB_s aJ_371_10) (sx_iB_s aJ_371_11))) (sx_ite (p := fun l => sx_iOk prog_14_method_55_code l) (sx_ite (p := fun l => sx_iOk prog_14_method_55_code l) (sx_iB_s aJ_371_12) (sx_iB_s aJ_371_13)) (sx_ite (p := fun l => sx_iOk prog_14_method_55_code l) (sx_iB_s aJ_371_14) (sx_ite (p := fun l => sx_iOk prog_14_method_55_code l) (sx_iB_s aJ_371_15) (sx_iB_s aJ_371_16))))))
def aW_371 : Nat → Option (Instr × Nat) := fun pc => sx_iF (aS_371 pc) pc
theorem aX_371 : ∀ pc i len, aW_371 pc = some (i, len) → decode aM_371.1.2.1 pc = .ok (i, len) := fun pc i len h => sx_iF_s (aT_371 pc) h
def aI_372_0 : sx_IL := [(0, .iconst 1, 1), (1, .istore_n 1, 1), (2, .iconst 2, 1), (3, .iload_n 1, 1), (4, .imul, 1), (5, .iload_n 0, 1)]
theorem aJ_372_0 : sx_iB prog_14_method_52_code aI_372_0 = true := by decide +kernel
def aI_372_1 : sx_IL := [(6, .if_icmp .ge 10, 3), (9, .iconst 2, 1), (10, .iload_n 1, 1), (11, .imul, 1), (12, .istore_n 1, 1), (13, .goto (-11), 3)]
theorem aJ_372_1 : sx_iB prog_14_method_52_code aI_372_1 = true := by decide +kernel
def aI_372_2 : sx_IL := [(16, .iload_n 1, 1), (17, .ireturn, 1)]
theorem aJ_372_2 : sx_iB prog_14_method_52_code aI_372_2 = true := by decide +kernel
def aS_372 (pc : Nat) : sx_IL := (if pc < 6 then aI_372_0 else (if pc < 16 then aI_372_1 else aI_372_2))
theorem aT_372 (pc : Nat) : sx_iOk prog_14_method_52_code (aS_372 pc) := (sx_ite (p := fun l => sx_iOk prog_14_method_52_code l) (sx_iB_s aJ_372_0) (sx_ite (p := fun l => sx_iOk prog_14_method_52_code l) (sx_iB_s aJ_372_1) (sx_iB_s aJ_372_2)))
def aW_372 : Nat → Option (Instr × Nat) := fun pc => sx_iF (aS_372 pc) pc
theorem aX_372 : ∀ pc i len, aW_372 pc = some (i, len) → decode aM_372.1.2.1 pc = .ok (i, len) := fun pc i len h => sx_iF_s (aT_372 pc) h
def aI_373_0 : sx_IL := [(0, .aload_n 0, 1), (1, .iconst 0, 1), (2, .putfield 520, 3), (5, .aload_n 0, 1), (6, .getfield 697, 3), (9, .iconst 1, 1)]
theorem aJ_373_0 : sx_iB prog_14_method_54_code aI_373_0 = true := by decide +kernel
def aI_373_1 : sx_IL := [(10, .isub, 1), (11, .istore_n 1, 1), (12, .iload_n 1, 1), (13, .ifCond .lt 52, 3), (16, .iconst 0, 1), (17, .istore_n 2, 1)]
theorem aJ_373_1 : sx_iB prog_14_method_54_code aI_373_1 = true := by decide +kernel
def aI_373_2 : sx_IL := [(18, .iload_n 2, 1), (19, .bipush 8, 2), (21, .if_icmp .ge 38, 3), (24, .aload_n 0, 1), (25, .getfield 13, 3), (28, .aload_n 0, 1)]
theorem aJ_373_2 : sx_iB prog_14_method_54_code aI_373_2 = true := by decide +kernel
def aI_373_3 : sx_IL := [(29, .getfield 520, 3), (32, .aload_n 0, 1), (33, .getfield 29, 3), (36, .iload_n 1, 1), (37, .laload, 1), (38, .iload_n 2, 1)]
theorem aJ_373_3 : sx_iB prog_14_method_54_code aI_373_3 = true := by decide +kernel
def aI_373_4 : sx_IL := [(39, .invokestatic 622, 3), (42, .iastore, 1), (43, .aload_n 0, 1), (44, .dup, 1), (45, .getfield 520, 3), (48, .iconst 1, 1)]
theorem aJ_373_4 : sx_iB prog_14_method_54_code aI_373_4 = true := by decide +kernel
def aI_373_5 : sx_IL := [(49, .iadd, 1), (50, .putfield 520, 3), (53, .iinc 2 1, 3), (56, .goto (-38), 3), (59, .iinc 1 (-1), 3), (62, .goto (-50), 3)]
theorem aJ_373_5 : sx_iB prog_14_method_54_code aI_373_5 = true := by decide +kernel
def aI_373_6 : sx_IL := [(65, .aload_n 0, 1), (66, .getfield 520, 3), (69, .ireturn, 1)]
theorem aJ_373_6 : sx_iB prog_14_method_54_code aI_373_6 = true := by decide +kernel
def aS_373 (pc : Nat) : sx_IL := (if pc < 29 then (if pc < 10 then aI_373_0 else (if pc < 18 then aI_373_1 else aI_373_2)) else (if pc < 49 then (if pc < 39 then aI_373_3 else aI_373_4) else (if pc < 65 then aI_373_5 else aI_373_6)))
theorem aT_373 (pc : Nat) : sx_iOk prog_14_method_54_code (aS_373 pc) := (sx_ite (p := fun l => sx_iOk prog_14_method_54_code l) (sx_ite (p := fun l => sx_iOk prog_14_method_54_code l) (sx_iB_s aJ_373_0) (sx_ite (p := fun l => sx_iOk prog_14_method_54_code l) (sx_iB_s aJ_373_1) (sx_iB_s aJ_373_2))) (sx_ite (p := fun l => sx_iOk prog_14_method_54_code l) (sx_ite (p := fun l => sx_iOk prog_14_method_54_code l) (sx_iB_s aJ_373_3) (sx_iB_s aJ_373_4)) (sx_ite (p := fun l => sx_iOk prog_14_method_54_code l) (sx_iB_s aJ_373_5) (sx_iB_s aJ_373_6))))
def aW_373 : Nat → Option (Instr × Nat) := fun pc => sx_iF (aS_373 pc) pc
theorem aX_373 : ∀ pc i len, aW_373 pc = some (i, len) → decode aM_373.1.2.1 pc = .ok (i, len) := fun pc i len h => sx_iF_s (aT_373 pc) h
def aI_374_0 : sx_IL := [(0, .iload_n 1, 1), (1, .i2l, 1), (2, .lconst 0, 1), (3, .aload_n 0, 1), (4, .getfield 683, 3), (7, .iconst 1, 1)]
theorem aJ_374_0 : sx_iB prog_14_method_56_code aI_374_0 = true := by decide +kernel
def aI_374_1 : sx_IL := [(8, .isub, 1), (9, .i2l, 1), (10, .invokestatic 513, 3), (13, .ifCond .eq 30, 3), (16, .iload_n 3, 1), (17, .i2l, 1)]
theorem aJ_374_1 : sx_iB prog_14_method_56_code aI_374_1 = true := by decide +kernel
def aI_374_2 : sx_IL := [(18, .lconst 1, 1), (19, .aload_n 0, 1), (20, .getfield 16, 3), (23, .iload_n 1, 1), (24, .iaload, 1), (25, .i2l, 1)]
theorem aJ_374_2 : sx_iB prog_14_method_56_code aI_374_2 = true := by decide +kernel
def aI_374_3 : sx_IL := [(26, .invokestatic 513, 3), (29, .ifCond .eq 14, 3), (32, .iload_n 2, 1), (33, .i2l, 1), (34, .lconst 1, 1), (35, .iload_n 3, 1)]
theorem aJ_374_3 : sx_iB prog_14_method_56_code aI_374_3 = true := by decide +kernel
def aI_374_4 : sx_IL := [(36, .i2l, 1), (37, .invokestatic 513, 3), (40, .ifCond .ne 5, 3), (43, .iconst (-1), 1), (44, .ireturn, 1), (45, .aload_n 0, 1)]
theorem aJ_374_4 : sx_iB prog_14_method_56_code aI_374_4 = true := by decide +kernel
def aI_374_5 : sx_IL := [(46, .iconst 0, 1), (47, .putfield 697, 3), (50, .iconst 0, 1), (51, .istore 4, 2), (53, .iload_n 3, 1), (54, .istore 5, 2)]
theorem aJ_374_5 : sx_iB prog_14_method_56_code aI_374_5 = true := by decide +kernel
def aI_374_6 : sx_IL := [(56, .iload_n 2, 1), (57, .istore 6, 2), (59, .iconst 1, 1), (60, .istore 7, 2), (62, .iload 6, 2), (64, .iload 5, 2)]
theorem aJ_374_6 : sx_iB prog_14_method_56_code aI_374_6 = true := by decide +kernel
def aI_374_7 : sx_IL := [(66, .if_icmp .ge 146, 3), (69, .iload 5, 2), (71, .invokestatic 700, 3), (74, .istore 8, 2), (76, .iload 6, 2), (78, .iload 8, 2)]
theorem aJ_374_7 : sx_iB prog_14_method_56_code aI_374_7 = true := by decide +kernel
def aI_374_8 : sx_IL := [(80, .if_icmp .gt 7, 3), (83, .iconst 1, 1), (84, .goto 4, 3), (87, .iconst 0, 1), (88, .istore 9, 2), (90, .aload_n 0, 1)]
theorem aJ_374_8 : sx_iB prog_14_method_56_code aI_374_8 = true := by decide +kernel
def aI_374_9 : sx_IL := [(91, .getfield 29, 3), (94, .aload_n 0, 1), (95, .getfield 697, 3), (98, .iload 9, 2), (100, .ifCond .eq 21, 3), (103, .aload_n 0, 1)]
theorem aJ_374_9 : sx_iB prog_14_method_56_code aI_374_9 = true := by decide +kernel
def aI_374_10 : sx_IL := [(104, .iload_n 1, 1), (105, .iload 4, 2), (107, .iload 8, 2), (109, .iadd, 1), (110, .iload 5, 2), (112, .iload 8, 2)]
theorem aJ_374_10 : sx_iB prog_14_method_56_code aI_374_10 = true := by decide +kernel
def aI_374_11 : sx_IL := [(114, .isub, 1), (115, .invokevirtual 694, 3), (118, .goto 12, 3), (121, .aload_n 0, 1), (122, .iload_n 1, 1), (123, .iload 4, 2)]
theorem aJ_374_11 : sx_iB prog_14_method_56_code aI_374_11 = true := by decide +kernel
def aI_374_12 : sx_IL := [(125, .iload 8, 2), (127, .invokevirtual 694, 3), (130, .lastore, 1), (131, .aload_n 0, 1), (132, .dup, 1), (133, .getfield 697, 3)]
theorem aJ_374_12 : sx_iB prog_14_method_56_code aI_374_12 = true := by decide +kernel
def aI_374_13 : sx_IL := [(136, .iconst 1, 1), (137, .iadd, 1), (138, .putfield 697, 3), (141, .iload 7, 2), (143, .ifCond .eq 12, 3), (146, .iload 9, 2)]
theorem aJ_374_13 : sx_iB prog_14_method_56_code aI_374_13 = true := by decide +kernel
def aI_374_14 : sx_IL := [(148, .ifCond .eq 7, 3), (151, .iconst 1, 1), (152, .goto 4, 3), (155, .iconst 0, 1), (156, .istore 7, 2), (158, .iload 9, 2)]
theorem aJ_374_14 : sx_iB prog_14_method_56_code aI_374_14 = true := by decide +kernel
def aI_374_15 : sx_IL := [(160, .ifCond .eq 8, 3), (163, .iload 6, 2), (165, .goto 8, 3), (168, .iload 6, 2), (170, .iload 8, 2), (172, .isub, 1)]
theorem aJ_374_15 : sx_iB prog_14_method_56_code aI_374_15 = true := by decide +kernel
def aI_374_16 : sx_IL := [(173, .istore 6, 2), (175, .iload 9, 2), (177, .ifCond .eq 8, 3), (180, .iload 4, 2), (182, .goto 8, 3), (185, .iload 4, 2)]
theorem aJ_374_16 : sx_iB prog_14_method_56_code aI_374_16 = true := by decide +kernel
def aI_374_17 : sx_IL := [(187, .iload 8, 2), (189, .iadd, 1), (190, .istore 4, 2), (192, .iload 9, 2), (194, .ifCond .eq 8, 3), (197, .iload 8, 2)]
theorem aJ_374_17 : sx_iB prog_14_method_56_code aI_374_17 = true := by decide +kernel
def aI_374_18 : sx_IL := [(199, .goto 8, 3), (202, .iload 5, 2), (204, .iload 8, 2), (206, .isub, 1), (207, .istore 5, 2), (209, .goto (-147), 3)]
theorem aJ_374_18 : sx_iB prog_14_method_56_code aI_374_18 = true := by decide +kernel
def aI_374_19 : sx_IL := [(212, .iload 7, 2), (214, .ifCond .ne 31, 3), (217, .aload_n 0, 1), (218, .getfield 29, 3), (221, .aload_n 0, 1), (222, .getfield 697, 3)]
theorem aJ_374_19 : sx_iB prog_14_method_56_code aI_374_19 = true := by decide +kernel
def aI_374_20 : sx_IL := [(225, .aload_n 0, 1), (226, .iload_n 1, 1), (227, .iload 4, 2), (229, .iload 5, 2), (231, .invokevirtual 694, 3), (234, .lastore, 1)]
theorem aJ_374_20 : sx_iB prog_14_method_56_code aI_374_20 = true := by decide +kernel
def aI_374_21 : sx_IL := [(235, .aload_n 0, 1), (236, .dup, 1), (237, .getfield 697, 3), (240, .iconst 1, 1), (241, .iadd, 1), (242, .putfield 697, 3)]
theorem aJ_374_21 : sx_iB prog_14_method_56_code aI_374_21 = true := by decide +kernel
def aI_374_22 : sx_IL := [(245, .aload_n 0, 1), (246, .invokevirtual 703, 3), (249, .ireturn, 1)]
theorem aJ_374_22 : sx_iB prog_14_method_56_code aI_374_22 = true := by decide +kernel
def aS_374 (pc : Nat) : sx_IL := (if pc < 114 then (if pc < 46 then (if pc < 18 then (if pc < 8 then aI_374_0 else aI_374_1) else (if pc < 26 then aI_374_2 else (if pc < 36 then aI_374_3 else aI_374_4))) else (if pc < 80 then (if pc < 56 then aI_374_5 else (if pc < 66 then aI_374_6 else aI_374_7)) else (if pc < 91 then aI_374_8 else (if pc < 104 then aI_374_9 else aI_374_10)))) else (if pc < 187 then (if pc < 148 then (if pc < 125 then aI_374_11 else (if pc < 136 then aI_374_12 else aI_374_13)) else (if pc < 160 then aI_374_14 else (if pc < 173 then aI_374_15 else aI_374_16))) else (if pc < 225 then (if pc < 199 then aI_374_17 else (if pc < 212 then aI_374_18 else aI_374_19)) else (if pc < 235 then aI_374_20 else (if pc < 245 then aI_374_21 else aI_374_22)))))
theorem aT_374 (pc : Nat) : sx_iOk prog_14_method_56_code (aS_374 pc) := (sx_ite (p := fun l => sx_iOk prog_14_method_56_code l) (sx_ite (p := fun l => sx_iOk prog_14_method_56_code l) (sx_ite (p := fun l => sx_iOk prog_14_method_56_code l) (sx_ite (p := fun l => sx_iOk prog_14_method_56_code l) (sx_iB_s aJ_374_0) (sx_iB_s aJ_374_1)) (sx_ite (p := fun l => sx_iOk prog_14_method_56_code l) (sx_iB_s aJ_374_2) (sx_ite (p := fun l => sx_iOk prog_14_method_56_code l) (sx_iB_s aJ_374_3) (sx_iB_s aJ_374_4)))) (sx_ite (p := fun l => sx_iOk prog_14_method_56_code l) (sx_ite (p := fun l => sx_iOk prog_14_method_56_code l) (sx_iB_s aJ_374_5) (sx_ite (p := fun l => sx_iOk prog_14_method_56_code l) (sx_iB_s aJ_374_6) (sx_iB_s aJ_374_7))) (sx_ite (p := fun l => sx_iOk prog_14_method_56_code l) (sx_iB_s aJ_374_8) (sx_ite (p := fun l => sx_iOk prog_14_method_56_code l) (sx_iB_s aJ_374_9) (sx_iB_s aJ_374_10))))) (sx_ite (p := fun l => sx_iOk prog_14_method_56_code l) (sx_ite (p := fun l => sx_iOk prog_14_method_56_code l) (sx_ite (p := fun l => sx_iOk prog_14_method_56_code l) (sx_iB_s aJ_374_11) (sx_ite (p := fun l => sx_iOk prog_14_method_56_code l) (sx_iB_s aJ_374_12) (sx_iB_s aJ_374_13))) (sx_ite (p := fun l => sx_iOk prog_14_method_56_code l) (sx_iB_s aJ_374_14) (sx_ite (p := fun l => sx_iOk prog_14_method_56_code l) (sx_iB_s aJ_374_15) (sx_iB_s aJ_374_16)))) (sx_ite (p := fun l => sx_iOk prog_14_method_56_code l) (sx_ite (p := fun l => sx_iOk prog_14_method_56_code l) (sx_iB_s aJ_374_17) (sx_ite (p := fun l => sx_iOk prog_14_method_56_code l) (sx_iB_s aJ_374_18) (sx_iB_s aJ_374_19))) (sx_ite (p := fun l => sx_iOk prog_14_method_56_code l) (sx_iB_s aJ_374_20) (sx_ite (p := fun l => sx_iOk prog_14_method_56_code l) (sx_iB_s aJ_374_21) (sx_iB_s aJ_374_22))))))
def aW_374 : Nat → Option (Instr × Nat) := fun pc => sx_iF (aS_374 pc) pc
theorem aX_374 : ∀ pc i len, aW_374 pc = some (i, len) → decode aM_374.1.2.1 pc = .ok (i, len) := fun pc i len h => sx_iF_s (aT_374 pc) h
def aI_375_0 : sx_IL := [(0, .iload 4, 2), (2, .i2l, 1), (3, .lconst 1, 1), (4, .ldc2_w 707, 3), (7, .invokestatic 513, 3), (10, .ifCond .eq 17, 3)]
theorem aJ_375_0 : sx_iB prog_14_method_58_code aI_375_0 = true := by decide +kernel
def aI_375_1 : sx_IL := [(13, .iload_n 3, 1), (14, .i2l, 1), (15, .lconst 0, 1), (16, .iload 4, 2), (18, .iconst 1, 1), (19, .isub, 1)]
theorem aJ_375_1 : sx_iB prog_14_method_58_code aI_375_1 = true := by decide +kernel
def aI_375_2 : sx_IL := [(20, .i2l, 1), (21, .invokestatic 513, 3), (24, .ifCond .ne 5, 3), (27, .iconst (-1), 1), (28, .ireturn, 1), (29, .aload_n 0, 1)]
theorem aJ_375_2 : sx_iB prog_14_method_58_code aI_375_2 = true := by decide +kernel
def aI_375_3 : sx_IL := [(30, .getfield 517, 3), (33, .istore 7, 2), (35, .aload_n 0, 1), (36, .iconst 0, 1), (37, .putfield 517, 3), (40, .iconst 0, 1)]
theorem aJ_375_3 : sx_iB prog_14_method_58_code aI_375_3 = true := by decide +kernel
def aI_375_4 : sx_IL := [(41, .istore 8, 2), (43, .iload 4, 2), (45, .istore 9, 2), (47, .iload_n 3, 1), (48, .istore 10, 2), (50, .iload 9, 2)]
theorem aJ_375_4 : sx_iB prog_14_method_58_code aI_375_4 = true := by decide +kernel
def aI_375_5 : sx_IL := [(52, .iconst 1, 1), (53, .if_icmp .le 73, 3), (56, .iload 9, 2), (58, .invokestatic 700, 3), (61, .istore 11, 2), (63, .aload_n 0, 1)]
theorem aJ_375_5 : sx_iB prog_14_method_58_code aI_375_5 = true := by decide +kernel
def aI_375_6 : sx_IL := [(64, .getfield 32, 3), (67, .iload 8, 2), (69, .iload 10, 2), (71, .iload 11, 2), (73, .if_icmp .ge 7, 3), (76, .iconst 1, 1)]
theorem aJ_375_6 : sx_iB prog_14_method_58_code aI_375_6 = true := by decide +kernel
def aI_375_7 : sx_IL := [(77, .goto 4, 3), (80, .iconst 0, 1), (81, .bastore, 1), (82, .iload 10, 2), (84, .iload 11, 2), (86, .if_icmp .ge 8, 3)]
theorem aJ_375_7 : sx_iB prog_14_method_58_code aI_375_7 = true := by decide +kernel
def aI_375_8 : sx_IL := [(89, .iload 11, 2), (91, .goto 8, 3), (94, .iload 9, 2), (96, .iload 11, 2), (98, .isub, 1), (99, .istore 9, 2)]
theorem aJ_375_8 : sx_iB prog_14_method_58_code aI_375_8 = true := by decide +kernel
def aI_375_9 : sx_IL := [(101, .iload 10, 2), (103, .iload 11, 2), (105, .if_icmp .ge 8, 3), (108, .iload 10, 2), (110, .goto 8, 3), (113, .iload 10, 2)]
theorem aJ_375_9 : sx_iB prog_14_method_58_code aI_375_9 = true := by decide +kernel
def aI_375_10 : sx_IL := [(115, .iload 11, 2), (117, .isub, 1), (118, .istore 10, 2), (120, .iinc 8 1, 3), (123, .goto (-73), 3), (126, .iload 7, 2)]
theorem aJ_375_10 : sx_iB prog_14_method_58_code aI_375_10 = true := by decide +kernel
def aI_375_11 : sx_IL := [(128, .bipush 8, 2), (130, .iload 8, 2), (132, .imul, 1), (133, .if_icmp .eq 5, 3), (136, .iconst 0, 1), (137, .ireturn, 1)]
theorem aJ_375_11 : sx_iB prog_14_method_58_code aI_375_11 = true := by decide +kernel
def aI_375_12 : sx_IL := [(138, .aload_n 0, 1), (139, .lload_n 1, 1), (140, .invokevirtual 686, 3), (143, .lstore 11, 2), (145, .iconst 0, 1), (146, .istore 13, 2)]
theorem aJ_375_12 : sx_iB prog_14_method_58_code aI_375_12 = true := by decide +kernel
def aI_375_13 : sx_IL := [(148, .iload 13, 2), (150, .iload 8, 2), (152, .if_icmp .ge 53, 3), (155, .aload_n 0, 1), (156, .iload 13, 2), (158, .invokevirtual 709, 3)]
theorem aJ_375_13 : sx_iB prog_14_method_58_code aI_375_13 = true := by decide +kernel
def aI_375_14 : sx_IL := [(161, .lstore 14, 2), (163, .aload_n 0, 1), (164, .getfield 32, 3), (167, .iload 8, 2), (169, .iconst 1, 1), (170, .isub, 1)]
theorem aJ_375_14 : sx_iB prog_14_method_58_code aI_375_14 = true := by decide +kernel
def aI_375_15 : sx_IL := [(171, .iload 13, 2), (173, .isub, 1), (174, .baload, 1), (175, .ifCond .eq 14, 3), (178, .aload_n 0, 1), (179, .lload 11, 2)]
theorem aJ_375_15 : sx_iB prog_14_method_58_code aI_375_15 = true := by decide +kernel
def aI_375_16 : sx_IL := [(181, .lload 14, 2), (183, .invokevirtual 690, 3), (186, .goto 11, 3), (189, .aload_n 0, 1), (190, .lload 14, 2), (192, .lload 11, 2)]
theorem aJ_375_16 : sx_iB prog_14_method_58_code aI_375_16 = true := by decide +kernel
def aI_375_17 : sx_IL := [(194, .invokevirtual 690, 3), (197, .lstore 11, 2), (199, .iinc 13 1, 3), (202, .goto (-54), 3), (205, .lload 11, 2), (207, .lload 5, 2)]
theorem aJ_375_17 : sx_iB prog_14_method_58_code aI_375_17 = true := by decide +kernel
def aI_375_18 : sx_IL := [(209, .lcmp, 1), (210, .ifCond .ne 7, 3), (213, .iconst 1, 1), (214, .goto 4, 3), (217, .iconst 0, 1), (218, .ireturn, 1)]
theorem aJ_375_18 : sx_iB prog_14_method_58_code aI_375_18 = true := by decide +kernel
def aS_375 (pc : Nat) : sx_IL := (if pc < 101 then (if pc < 41 then (if pc < 20 then (if pc < 13 then aI_375_0 else aI_375_1) else (if pc < 30 then aI_375_2 else aI_375_3)) else (if pc < 64 then (if pc < 52 then aI_375_4 else aI_375_5) else (if pc < 77 then aI_375_6 else (if pc < 89 then aI_375_7 else aI_375_8)))) else (if pc < 161 then (if pc < 128 then (if pc < 115 then aI_375_9 else aI_375_10) else (if pc < 138 then aI_375_11 else (if pc < 148 then aI_375_12 else aI_375_13))) else (if pc < 181 then (if pc < 171 then aI_375_14 else aI_375_15) else (if pc < 194 then aI_375_16 else (if pc < 209 then aI_375_17 else aI_375_18)))))
theorem aT_375 (pc : Nat) : sx_iOk prog_14_method_58_code (aS_375 pc) := (sx_ite (p := fun l => sx_iOk prog_14_method_58_code l) (sx_ite (p := fun l => sx_iOk prog_14_method_58_code l) (sx_ite (p := fun l => sx_iOk prog_14_method_58_code l) (sx_ite (p := fun l => sx_iOk prog_14_method_58_code l) (sx_iB_s aJ_375_0) (sx_iB_s aJ_375_1)) (sx_ite (p := fun l => sx_iOk prog_14_method_58_code l) (sx_iB_s aJ_375_2) (sx_iB_s aJ_375_3))) (sx_ite (p := fun l => sx_iOk prog_14_method_58_code l) (sx_ite (p := fun l => sx_iOk prog_14_method_58_code l) (sx_iB_s aJ_375_4) (sx_iB_s aJ_375_5)) (sx_ite (p := fun l => sx_iOk prog_14_method_58_code l) (sx_iB_s aJ_375_6) (sx_ite (p := fun l => sx_iOk prog_14_method_58_code l) (sx_iB_s aJ_375_7) (sx_iB_s aJ_375_8))))) (sx_ite (p := fun l => sx_iOk prog_14_method_58_code l) (sx_ite (p := fun l => sx_iOk prog_14_method_58_code l) (sx_ite (p := fun l => sx_iOk prog_14_method_58_code l) (sx_iB_s aJ_375_9) (sx_iB_s aJ_375_10)) (sx_ite (p := fun l => sx_iOk prog_14_method_58_code l) (sx_iB_s aJ_375_11) (sx_ite (p := fun l => sx_iOk prog_14_method_58_code l) (sx_iB_s aJ_375_12) (sx_iB_s aJ_375_13)))) (sx_ite (p := fun l => sx_iOk prog_14_method_58_code l) (sx_ite (p := fun l => sx_iOk prog_14_method_58_code l) (sx_iB_s aJ_375_14) (sx_iB_s aJ_375_15)) (sx_ite (p := fun l => sx_iOk prog_14_method_58_code l) (sx_iB_s aJ_375_16) (sx_ite (p := fun l => sx_iOk prog_14_method_58_code l) (sx_iB_s aJ_375_17) (sx_iB_s aJ_375_18))))))
def aW_375 : Nat → Option (Instr × Nat) := fun pc => sx_iF (aS_375 pc) pc
theorem aX_375 : ∀ pc i len, aW_375 pc = some (i, len) → decode aM_375.1.2.1 pc = .ok (i, len) := fun pc i len h => sx_iF_s (aT_375 pc) h
def aI_376_0 : sx_IL := [(0, .lconst 0, 1), (1, .lstore_n 2, 1), (2, .iconst 0, 1), (3, .istore 4, 2), (5, .iload 4, 2), (7, .bipush 8, 2)]
theorem aJ_376_0 : sx_iB prog_14_method_57_code aI_376_0 = true := by decide +kernel
def aI_376_1 : sx_IL := [(9, .if_icmp .ge 28, 3), (12, .lload_n 2, 1), (13, .bipush 8, 2), (15, .lshl, 1), (16, .aload_n 0, 1), (17, .getfield 7, 3)]
theorem aJ_376_1 : sx_iB prog_14_method_57_code aI_376_1 = true := by decide +kernel
def aI_376_2 : sx_IL := [(20, .bipush 8, 2), (22, .iload_n 1, 1), (23, .imul, 1), (24, .iload 4, 2), (26, .iadd, 1), (27, .iaload, 1)]
theorem aJ_376_2 : sx_iB prog_14_method_57_code aI_376_2 = true := by decide +kernel
def aI_376_3 : sx_IL := [(28, .i2l, 1), (29, .lor, 1), (30, .lstore_n 2, 1), (31, .iinc 4 1, 3), (34, .goto (-29), 3), (37, .lload_n 2, 1)]
theorem aJ_376_3 : sx_iB prog_14_method_57_code aI_376_3 = true := by decide +kernel
def aI_376_4 : sx_IL := [(38, .lreturn, 1)]
theorem aJ_376_4 : sx_iB prog_14_method_57_code aI_376_4 = true := by decide +kernel
def aS_376 (pc : Nat) : sx_IL := (if pc < 20 then (if pc < 9 then aI_376_0 else aI_376_1) else (if pc < 28 then aI_376_2 else (if pc < 38 then aI_376_3 else aI_376_4)))
theorem aT_376 (pc : Nat) : sx_iOk prog_14_method_57_code (aS_376 pc) := (sx_ite (p := fun l => sx_iOk prog_14_method_57_code l) (sx_ite (p := fun l => sx_iOk prog_14_method_57_code l) (sx_iB_s aJ_376_0) (sx_iB_s aJ_376_1)) (sx_ite (p := fun l => sx_iOk prog_14_method_57_code l) (sx_iB_s aJ_376_2) (sx_ite (p := fun l => sx_iOk prog_14_method_57_code l) (sx_iB_s aJ_376_3) (sx_iB_s aJ_376_4))))
def aW_376 : Nat → Option (Instr × Nat) := fun pc => sx_iF (aS_376 pc) pc
theorem aX_376 : ∀ pc i len, aW_376 pc = some (i, len) → decode aM_376.1.2.1 pc = .ok (i, len) := fun pc i len h => sx_iF_s (aT_376 pc) h
def aI_377_0 : sx_IL := [(0, .iload_n 2, 1), (1, .i2l, 1), (2, .lconst 1, 1), (3, .ldc2_w 707, 3), (6, .invokestatic 513, 3), (9, .ifCond .eq 14, 3)]
theorem aJ_377_0 : sx_iB prog_14_method_59_code aI_377_0 = true := by decide +kernel
def aI_377_1 : sx_IL := [(12, .iload_n 1, 1), (13, .i2l, 1), (14, .lconst 1, 1), (15, .iload_n 2, 1), (16, .i2l, 1), (17, .invokestatic 513, 3)]
theorem aJ_377_1 : sx_iB prog_14_method_59_code aI_377_1 = true := by decide +kernel
def aI_377_2 : sx_IL := [(20, .ifCond .ne 5, 3), (23, .iconst (-1), 1), (24, .ireturn, 1), (25, .aload_n 0, 1), (26, .getfield 517, 3), (29, .istore 7, 2)]
theorem aJ_377_2 : sx_iB prog_14_method_59_code aI_377_2 = true := by decide +kernel
def aI_377_3 : sx_IL := [(31, .aload_n 0, 1), (32, .iconst 0, 1), (33, .putfield 517, 3), (36, .iconst 0, 1), (37, .istore 8, 2), (39, .iload_n 2, 1)]
theorem aJ_377_3 : sx_iB prog_14_method_59_code aI_377_3 = true := by decide +kernel
def aI_377_4 : sx_IL := [(40, .istore 9, 2), (42, .iload_n 1, 1), (43, .istore 10, 2), (45, .iconst 1, 1), (46, .istore 11, 2), (48, .iload 10, 2)]
theorem aJ_377_4 : sx_iB prog_14_method_59_code aI_377_4 = true := by decide +kernel
def aI_377_5 : sx_IL := [(50, .iload 9, 2), (52, .if_icmp .ge 92, 3), (55, .iload 9, 2), (57, .invokestatic 700, 3), (60, .istore 12, 2), (62, .aload_n 0, 1)]
theorem aJ_377_5 : sx_iB prog_14_method_59_code aI_377_5 = true := by decide +kernel
def aI_377_6 : sx_IL := [(63, .getfield 32, 3), (66, .iload 8, 2), (68, .iload 10, 2), (70, .iload 12, 2), (72, .if_icmp .gt 7, 3), (75, .iconst 1, 1)]
theorem aJ_377_6 : sx_iB prog_14_method_59_code aI_377_6 = true := by decide +kernel
def aI_377_7 : sx_IL := [(76, .goto 4, 3), (79, .iconst 0, 1), (80, .bastore, 1), (81, .iload 11, 2), (83, .ifCond .eq 14, 3), (86, .iload 10, 2)]
theorem aJ_377_7 : sx_iB prog_14_method_59_code aI_377_7 = true := by decide +kernel
def aI_377_8 : sx_IL := [(88, .iload 12, 2), (90, .if_icmp .gt 7, 3), (93, .iconst 1, 1), (94, .goto 4, 3), (97, .iconst 0, 1), (98, .istore 11, 2)]
theorem aJ_377_8 : sx_iB prog_14_method_59_code aI_377_8 = true := by decide +kernel
def aI_377_9 : sx_IL := [(100, .iload 10, 2), (102, .iload 12, 2), (104, .if_icmp .gt 8, 3), (107, .iload 12, 2), (109, .goto 8, 3), (112, .iload 9, 2)]
theorem aJ_377_9 : sx_iB prog_14_method_59_code aI_377_9 = true := by decide +kernel
def aI_377_10 : sx_IL := [(114, .iload 12, 2), (116, .isub, 1), (117, .istore 9, 2), (119, .iload 10, 2), (121, .iload 12, 2), (123, .if_icmp .gt 8, 3)]
theorem aJ_377_10 : sx_iB prog_14_method_59_code aI_377_10 = true := by decide +kernel
def aI_377_11 : sx_IL := [(126, .iload 10, 2), (128, .goto 8, 3), (131, .iload 10, 2), (133, .iload 12, 2), (135, .isub, 1), (136, .istore 10, 2)]
theorem aJ_377_11 : sx_iB prog_14_method_59_code aI_377_11 = true := by decide +kernel
def aI_377_12 : sx_IL := [(138, .iinc 8 1, 3), (141, .goto (-93), 3), (144, .iload 11, 2), (146, .ifCond .eq 7, 3), (149, .iconst 0, 1), (150, .goto 4, 3)]
theorem aJ_377_12 : sx_iB prog_14_method_59_code aI_377_12 = true := by decide +kernel
def aI_377_13 : sx_IL := [(153, .iconst 1, 1), (154, .istore 12, 2), (156, .iload 7, 2), (158, .bipush 8, 2), (160, .iload 8, 2), (162, .iload 12, 2)]
theorem aJ_377_13 : sx_iB prog_14_method_59_code aI_377_13 = true := by decide +kernel
def aI_377_14 : sx_IL := [(164, .iadd, 1), (165, .imul, 1), (166, .if_icmp .eq 5, 3), (169, .iconst 0, 1), (170, .ireturn, 1), (171, .iload 11, 2)]
theorem aJ_377_14 : sx_iB prog_14_method_59_code aI_377_14 = true := by decide +kernel
def aI_377_15 : sx_IL := [(173, .ifCond .eq 7, 3), (176, .lload_n 3, 1), (177, .goto 8, 3), (180, .aload_n 0, 1), (181, .iconst 0, 1), (182, .invokevirtual 709, 3)]
theorem aJ_377_15 : sx_iB prog_14_method_59_code aI_377_15 = true := by decide +kernel
def aI_377_16 : sx_IL := [(185, .lstore 13, 2), (187, .lload 13, 2), (189, .lstore 15, 2), (191, .iconst 0, 1), (192, .istore 17, 2), (194, .iload 17, 2)]
theorem aJ_377_16 : sx_iB prog_14_method_59_code aI_377_16 = true := by decide +kernel
def aI_377_17 : sx_IL := [(196, .iload 8, 2), (198, .if_icmp .ge 80, 3), (201, .aload_n 0, 1), (202, .iload 17, 2), (204, .iload 12, 2), (206, .iadd, 1)]
theorem aJ_377_17 : sx_iB prog_14_method_59_code aI_377_17 = true := by decide +kernel
def aI_377_18 : sx_IL := [(207, .invokevirtual 709, 3), (210, .lstore 18, 2), (212, .aload_n 0, 1), (213, .getfield 32, 3), (216, .iload 8, 2), (218, .iconst 1, 1)]
theorem aJ_377_18 : sx_iB prog_14_method_59_code aI_377_18 = true := by decide +kernel
def aI_377_19 : sx_IL := [(219, .isub, 1), (220, .iload 17, 2), (222, .isub, 1), (223, .baload, 1), (224, .istore 20, 2), (226, .iload 20, 2)]
theorem aJ_377_19 : sx_iB prog_14_method_59_code aI_377_19 = true := by decide +kernel
def aI_377_20 : sx_IL := [(228, .ifCond .eq 8, 3), (231, .lload 13, 2), (233, .goto 11, 3), (236, .aload_n 0, 1), (237, .lload 18, 2), (239, .lload 13, 2)]
theorem aJ_377_20 : sx_iB prog_14_method_59_code aI_377_20 = true := by decide +kernel
def aI_377_21 : sx_IL := [(241, .invokevirtual 690, 3), (244, .lstore 13, 2), (246, .iload 20, 2), (248, .ifCond .eq 14, 3), (251, .aload_n 0, 1), (252, .lload 15, 2)]
theorem aJ_377_21 : sx_iB prog_14_method_59_code aI_377_21 = true := by decide +kernel
def aI_377_22 : sx_IL := [(254, .lload 18, 2), (256, .invokevirtual 690, 3), (259, .goto 11, 3), (262, .aload_n 0, 1), (263, .lload 18, 2), (265, .lload 15, 2)]
theorem aJ_377_22 : sx_iB prog_14_method_59_code aI_377_22 = true := by decide +kernel
def aI_377_23 : sx_IL := [(267, .invokevirtual 690, 3), (270, .lstore 15, 2), (272, .iinc 17 1, 3), (275, .goto (-81), 3), (278, .lload 13, 2), (280, .lload_n 3, 1)]
theorem aJ_377_23 : sx_iB prog_14_method_59_code aI_377_23 = true := by decide +kernel
def aI_377_24 : sx_IL := [(281, .lcmp, 1), (282, .ifCond .ne 15, 3), (285, .lload 15, 2), (287, .lload 5, 2), (289, .lcmp, 1), (290, .ifCond .ne 7, 3)]
theorem aJ_377_24 : sx_iB prog_14_method_59_code aI_377_24 = true := by decide +kernel
def aI_377_25 : sx_IL := [(293, .iconst 1, 1), (294, .goto 4, 3), (297, .iconst 0, 1), (298, .ireturn, 1)]
theorem aJ_377_25 : sx_iB prog_14_method_59_code aI_377_25 = true := by decide +kernel
def aS_377 (pc : Nat) : sx_IL := (if pc < 153 then (if pc < 63 then (if pc < 31 then (if pc < 12 then aI_377_0 else (if pc < 20 then aI_377_1 else aI_377_2)) else (if pc < 40 then aI_377_3 else (if pc < 50 then aI_377_4 else aI_377_5))) else (if pc < 100 then (if pc < 76 then aI_377_6 else (if pc < 88 then aI_377_7 else aI_377_8)) else (if pc < 126 then (if pc < 114 then aI_377_9 else aI_377_10) else (if pc < 138 then aI_377_11 else aI_377_12)))) else (if pc < 219 then (if pc < 185 then (if pc < 164 then aI_377_13 else (if pc < 173 then aI_377_14 else aI_377_15)) else (if pc < 196 then aI_377_16 else (if pc < 207 then aI_377_17 else aI_377_18))) else (if pc < 254 then (if pc < 228 then aI_377_19 else (if pc < 241 then aI_377_20 else aI_377_21)) else (if pc < 281 then (if pc < 267 then aI_377_22 else aI_377_23) else (if pc < 293 then aI_377_24 else aI_377_25)))))
theorem aT_377 (pc : Nat) : sx_iOk prog_14_method_59_code (aS_377 pc) := (sx_ite (p := fun l => sx_iOk prog_14_method_59_code l) (sx_ite (p := fun l => sx_iOk prog_14_method_59_code l) (sx_ite (p := fun l => sx_iOk prog_14_method_59_code l) (sx_ite (p := fun l => sx_iOk prog_14_method_59_code l) (sx_iB_s aJ_377_0) (sx_ite (p := fun l => sx_iOk prog_14_method_59_code l) (sx_iB_s aJ_377_1) (sx_iB_s aJ_377_2))) (sx_ite (p := fun l => sx_iOk prog_14_method_59_code l) (sx_iB_s aJ_377_3) (sx_ite (p := fun l => sx_iOk prog_14_method_59_code l) (sx_iB_s aJ_377_4) (sx_iB_s aJ_377_5)))) (sx_ite (p := fun l => sx_iOk prog_14_method_59_code l) (sx_ite (p := fun l => sx_iOk prog_14_method_59_code l) (sx_iB_s aJ_377_6) (sx_ite (p := fun l => sx_iOk prog_14_method_59_code l) (sx_iB_s aJ_377_7) (sx_iB_s aJ_377_8))) (sx_ite (p := fun l => sx_iOk prog_14_method_59_code l) (sx_ite (p := fun l => sx_iOk prog_14_method_59_code l) (sx_iB_s aJ_377_9) (sx_iB_s aJ_377_10)) (sx_ite (p := fun l => sx_iOk prog_14_method_59_code l) (sx_iB_s aJ_377_11) (sx_iB_s aJ_377_12))))) (sx_ite (p := fun l => sx_iOk prog_14_method_59_code l) (sx_ite (p := fun l => sx_iOk prog_14_method_59_code l) (sx_ite (p := fun l => sx_iOk prog_14_method_59_code l) (sx_iB_s aJ_377_13) (sx_ite (p := fun l => sx_iOk prog_14_method_59_code l) (sx_iB_s aJ_377_14) (sx_iB_s aJ_377_15))) (sx_ite (p := fun l => sx_iOk prog_14_method_59_code l) (sx_iB_s aJ_377_16) (sx_ite (p := fun l => sx_iOk prog_14_method_59_code l) (sx_iB_s aJ_377_17) (sx_iB_s aJ_377_18)))) (sx_ite (p := fun l => sx_iOk prog_14_method_59_code l) (sx_ite (p := fun l => sx_iOk prog_14_method_59_code l) (sx_iB_s aJ_377_19) (sx_ite (p := fun l => sx_iOk prog_14_method_59_code l) (sx_iB_s aJ_377_20) (sx_iB_s aJ_377_21))) (sx_ite (p := fun l => sx_iOk prog_14_method_59_code l) (sx_ite (p := fun l => sx_iOk prog_14_method_59_code l) (sx_iB_s aJ_377_22) (sx_iB_s aJ_377_23)) (sx_ite (p := fun l => sx_iOk prog_14_method_59_code l) (sx_iB_s aJ_377_24) (sx_iB_s aJ_377_25))))))
def aW_377 : Nat → Option (Instr × Nat) := fun pc => sx_iF (aS_377 pc) pc
theorem aX_377 : ∀ pc i len, aW_377 pc = some (i, len) → decode aM_377.1.2.1 pc = .ok (i, len) := fun pc i len h => sx_iF_s (aT_377 pc) h
def aI_378_0 : sx_IL := [(0, .aload_n 0, 1), (1, .aload_n 0, 1), (2, .getfield 7, 3), (5, .iconst 0, 1), (6, .aload_n 0, 1), (7, .getfield 517, 3)]
theorem aJ_378_0 : sx_iB prog_14_method_66_code aI_378_0 = true := by decide +kernel
def aI_378_1 : sx_IL := [(10, .invokevirtual 744, 3), (13, .istore_n 1, 1), (14, .aload_n 0, 1), (15, .iconst 0, 1), (16, .putfield 517, 3), (19, .iload_n 1, 1)]
theorem aJ_378_1 : sx_iB prog_14_method_66_code aI_378_1 = true := by decide +kernel
def aI_378_2 : sx_IL := [(20, .bipush (-4), 2), (22, .if_icmp .ne 7, 3), (25, .iconst 0, 1), (26, .goto 7, 3), (29, .bipush (-10), 2), (31, .iload_n 1, 1)]
theorem aJ_378_2 : sx_iB prog_14_method_66_code aI_378_2 = true := by decide +kernel
def aI_378_3 : sx_IL := [(32, .isub, 1), (33, .ireturn, 1)]
theorem aJ_378_3 : sx_iB prog_14_method_66_code aI_378_3 = true := by decide +kernel
def aS_378 (pc : Nat) : sx_IL := (if pc < 20 then (if pc < 10 then aI_378_0 else aI_378_1) else (if pc < 32 then aI_378_2 else aI_378_3))
theorem aT_378 (pc : Nat) : sx_iOk prog_14_method_66_code (aS_378 pc) := (sx_ite (p := fun l => sx_iOk prog_14_method_66_code l) (sx_ite (p := fun l => sx_iOk prog_14_method_66_code l) (sx_iB_s aJ_378_0) (sx_iB_s aJ_378_1)) (sx_ite (p := fun l => sx_iOk prog_14_method_66_code l) (sx_iB_s aJ_378_2) (sx_iB_s aJ_378_3)))
def aW_378 : Nat → Option (Instr × Nat) := fun pc => sx_iF (aS_378 pc) pc
theorem aX_378 : ∀ pc i len, aW_378 pc = some (i, len) → decode aM_378.1.2.1 pc = .ok (i, len) := fun pc i len h => sx_iF_s (aT_378 pc) h
def aI_379_0 : sx_IL := [(0, .iconst 0, 1), (1, .istore 4, 2), (3, .aload_n 0, 1), (4, .getfield 36, 3), (7, .iconst 0, 1), (8, .iload_n 2, 1)]
theorem aJ_379_0 : sx_iB prog_14_method_65_code aI_379_0 = true := by decide +kernel
def aI_379_1 : sx_IL := [(9, .iload_n 3, 1), (10, .iadd, 1), (11, .iastore, 1), (12, .iload_n 2, 1), (13, .istore 5, 2), (15, .iconst 0, 1)]
theorem aJ_379_1 : sx_iB prog_14_method_65_code aI_379_1 = true := by decide +kernel
def aI_379_2 : sx_IL := [(16, .istore 6, 2), (18, .iload 6, 2), (20, .ifCond .ne 261, 3), (23, .aload_n 0, 1), (24, .getfield 36, 3), (27, .iload 4, 2)]
theorem aJ_379_2 : sx_iB prog_14_method_65_code aI_379_2 = true := by decide +kernel
def aI_379_3 : sx_IL := [(29, .iaload, 1), (30, .istore 7, 2), (32, .iload 5, 2), (34, .iload 7, 2), (36, .if_icmp .ne 26, 3), (39, .iload 4, 2)]
theorem aJ_379_3 : sx_iB prog_14_method_65_code aI_379_3 = true := by decide +kernel
def aI_379_4 : sx_IL := [(41, .ifCond .le 21, 3), (44, .iinc 4 (-1), 3), (47, .iload 4, 2), (49, .ifCond .ne 7, 3), (52, .iconst 1, 1), (53, .goto 4, 3)]
theorem aJ_379_4 : sx_iB prog_14_method_65_code aI_379_4 = true := by decide +kernel
def aI_379_5 : sx_IL := [(56, .iconst 0, 1), (57, .istore 6, 2), (59, .goto (-41), 3), (62, .iload 5, 2), (64, .iload 7, 2), (66, .if_icmp .eq 20, 3)]
theorem aJ_379_5 : sx_iB prog_14_method_65_code aI_379_5 = true := by decide +kernel
def aI_379_6 : sx_IL := [(69, .aload_n 1, 1), (70, .iload 5, 2), (72, .iaload, 1), (73, .invokestatic 738, 3), (76, .ifCond .eq 10, 3), (79, .iload 4, 2)]
theorem aJ_379_6 : sx_iB prog_14_method_65_code aI_379_6 = true := by decide +kernel
def aI_379_7 : sx_IL := [(81, .bipush 10, 2), (83, .if_icmp .ne 8, 3), (86, .iload 5, 2), (88, .iload_n 2, 1), (89, .isub, 1), (90, .ireturn, 1)]
theorem aJ_379_7 : sx_iB prog_14_method_65_code aI_379_7 = true := by decide +kernel
def aI_379_8 : sx_IL := [(91, .aload_n 1, 1), (92, .iload 5, 2), (94, .iaload, 1), (95, .istore 8, 2), (97, .aload_n 0, 1), (98, .aload_n 1, 1)]
theorem aJ_379_8 : sx_iB prog_14_method_65_code aI_379_8 = true := by decide +kernel
def aI_379_9 : sx_IL := [(99, .iload 5, 2), (101, .iconst 1, 1), (102, .iadd, 1), (103, .iload 7, 2), (105, .invokevirtual 741, 3), (108, .istore 9, 2)]
theorem aJ_379_9 : sx_iB prog_14_method_65_code aI_379_9 = true := by decide +kernel
def aI_379_10 : sx_IL := [(110, .iload 9, 2), (112, .bipush (-4), 2), (114, .if_icmp .eq 8, 3), (117, .iload 9, 2), (119, .iload_n 2, 1), (120, .isub, 1)]
theorem aJ_379_10 : sx_iB prog_14_method_65_code aI_379_10 = true := by decide +kernel
def aI_379_11 : sx_IL := [(121, .ireturn, 1), (122, .iload 5, 2), (124, .iconst 1, 1), (125, .aload_n 0, 1), (126, .getfield 732, 3), (129, .iadd, 1)]
theorem aJ_379_11 : sx_iB prog_14_method_65_code aI_379_11 = true := by decide +kernel
def aI_379_12 : sx_IL := [(130, .iadd, 1), (131, .istore 5, 2), (133, .aload_n 0, 1), (134, .getfield 735, 3), (137, .istore 10, 2), (139, .iload 8, 2)]
theorem aJ_379_12 : sx_iB prog_14_method_65_code aI_379_12 = true := by decide +kernel
def aI_379_13 : sx_IL := [(141, .bipush 48, 2), (143, .if_icmp .ne 21, 3), (146, .iinc 4 1, 3), (149, .aload_n 0, 1), (150, .getfield 36, 3), (153, .iload 4, 2)]
theorem aJ_379_13 : sx_iB prog_14_method_65_code aI_379_13 = true := by decide +kernel
def aI_379_14 : sx_IL := [(155, .iload 5, 2), (157, .iload 10, 2), (159, .iadd, 1), (160, .iastore, 1), (161, .goto (-143), 3), (164, .iload 8, 2)]
theorem aJ_379_14 : sx_iB prog_14_method_65_code aI_379_14 = true := by decide +kernel
def aI_379_15 : sx_IL := [(166, .iconst 2, 1), (167, .if_icmp .ne 55, 3), (170, .iload 10, 2), (172, .i2l, 1), (173, .lconst 1, 1), (174, .ldc2_w 649, 3)]
theorem aJ_379_15 : sx_iB prog_14_method_65_code aI_379_15 = true := by decide +kernel
def aI_379_16 : sx_IL := [(177, .invokestatic 513, 3), (180, .ifCond .eq 37, 3), (183, .aload_n 1, 1), (184, .iload 5, 2), (186, .iaload, 1), (187, .bipush 127, 2)]
theorem aJ_379_16 : sx_iB prog_14_method_65_code aI_379_16 = true := by decide +kernel
def aI_379_17 : sx_IL := [(189, .if_icmp .gt 28, 3), (192, .iload 10, 2), (194, .iconst 1, 1), (195, .if_icmp .le 27, 3), (198, .aload_n 1, 1), (199, .iload 5, 2)]
theorem aJ_379_17 : sx_iB prog_14_method_65_code aI_379_17 = true := by decide +kernel
def aI_379_18 : sx_IL := [(201, .iaload, 1), (202, .ifCond .ne 20, 3), (205, .aload_n 1, 1), (206, .iload 5, 2), (208, .iconst 1, 1), (209, .iadd, 1)]
theorem aJ_379_18 : sx_iB prog_14_method_65_code aI_379_18 = true := by decide +kernel
def aI_379_19 : sx_IL := [(210, .iaload, 1), (211, .sipush 128, 3), (214, .if_icmp .ge 8, 3), (217, .iload 5, 2), (219, .iload_n 2, 1), (220, .isub, 1)]
theorem aJ_379_19 : sx_iB prog_14_method_65_code aI_379_19 = true := by decide +kernel
def aI_379_20 : sx_IL := [(221, .ireturn, 1), (222, .iload 8, 2), (224, .bipush 12, 2), (226, .if_icmp .ne 14, 3), (229, .aload_n 1, 1), (230, .iload 5, 2)]
theorem aJ_379_20 : sx_iB prog_14_method_65_code aI_379_20 = true := by decide +kernel
def aI_379_21 : sx_IL := [(232, .iload 10, 2), (234, .invokestatic 724, 3), (237, .goto 5, 3), (240, .bipush (-4), 2), (242, .istore 11, 2), (244, .iload 11, 2)]
theorem aJ_379_21 : sx_iB prog_14_method_65_code aI_379_21 = true := by decide +kernel
def aI_379_22 : sx_IL := [(246, .bipush (-4), 2), (248, .if_icmp .eq 11, 3), (251, .iload 5, 2), (253, .iload 11, 2), (255, .iadd, 1), (256, .iload_n 2, 1)]
theorem aJ_379_22 : sx_iB prog_14_method_65_code aI_379_22 = true := by decide +kernel
def aI_379_23 : sx_IL := [(257, .isub, 1), (258, .ireturn, 1), (259, .iload 5, 2), (261, .iload 10, 2), (263, .iadd, 1), (264, .istore 5, 2)]
theorem aJ_379_23 : sx_iB prog_14_method_65_code aI_379_23 = true := by decide +kernel
def aI_379_24 : sx_IL := [(266, .iload 4, 2), (268, .ifCond .ne 7, 3), (271, .iconst 1, 1), (272, .goto 4, 3), (275, .iconst 0, 1), (276, .istore 6, 2)]
theorem aJ_379_24 : sx_iB prog_14_method_65_code aI_379_24 = true := by decide +kernel
def aI_379_25 : sx_IL := [(278, .goto (-260), 3), (281, .iload 5, 2), (283, .iload_n 2, 1), (284, .iload_n 3, 1), (285, .iadd, 1), (286, .if_icmp .ne 8, 3)]
theorem aJ_379_25 : sx_iB prog_14_method_65_code aI_379_25 = true := by decide +kernel
def aI_379_26 : sx_IL := [(289, .bipush (-4), 2), (291, .goto 7, 3), (294, .iload 5, 2), (296, .iload_n 2, 1), (297, .isub, 1), (298, .ireturn, 1)]
theorem aJ_379_26 : sx_iB prog_14_method_65_code aI_379_26 = true := by decide +kernel
def aS_379 (pc : Nat) : sx_IL := (if pc < 141 then (if pc < 69 then (if pc < 29 then (if pc < 9 then aI_379_0 else (if pc < 16 then aI_379_1 else aI_379_2)) else (if pc < 41 then aI_379_3 else (if pc < 56 then aI_379_4 else aI_379_5))) else (if pc < 99 then (if pc < 81 then aI_379_6 else (if pc < 91 then aI_379_7 else aI_379_8)) else (if pc < 121 then (if pc < 110 then aI_379_9 else aI_379_10) else (if pc < 130 then aI_379_11 else aI_379_12)))) else (if pc < 221 then (if pc < 177 then (if pc < 155 then aI_379_13 else (if pc < 166 then aI_379_14 else aI_379_15)) else (if pc < 201 then (if pc < 189 then aI_379_16 else aI_379_17) else (if pc < 210 then aI_379_18 else aI_379_19))) else (if pc < 257 then (if pc < 232 then aI_379_20 else (if pc < 246 then aI_379_21 else aI_379_22)) else (if pc < 278 then (if pc < 266 then aI_379_23 else aI_379_24) else (if pc < 289 then aI_379_25 else aI_379_26)))))
theorem aT_379 (pc : Nat) : sx_iOk prog_14_method_65_code (aS_379 pc) := (sx_ite (p := fun l => sx_iOk prog_14_method_65_code l) (sx_ite (p := fun l => sx_iOk prog_14_method_65_code l) (sx_ite (p := fun l => sx_iOk prog_14_method_65_code l) (sx_ite (p := fun l => sx_iOk prog_14_method_65_code l) (sx_iB_s aJ_379_0) (sx_ite (p := fun l => sx_iOk prog_14_method_65_code l) (sx_iB_s aJ_379_1) (sx_iB_s aJ_379_2))) (sx_ite (p := fun l => sx_iOk prog_14_method_65_code l) (sx_iB_s aJ_379_3) (sx_ite (p := fun l => sx_iOk prog_14_method_65_code l) (sx_iB_s aJ_379_4) (sx_iB_s aJ_379_5)))) (sx_ite (p := fun l => sx_iOk prog_14_method_65_code l) (sx_ite (p := fun l => sx_iOk prog_14_method_65_code l) (sx_iB_s aJ_379_6) (sx_ite (p := fun l => sx_iOk prog_14_method_65_code l) (sx_iB_s aJ_379_7) (sx_iB_s aJ_379_8))) (sx_ite (p := fun l => sx_iOk prog_14_method_65_code l) (sx_ite (p := fun l => sx_iOk prog_14_method_65_code l) (sx_iB_s aJ_379_9) (sx_iB_s aJ_379_10)) (sx_ite (p := fun l => sx_iOk prog_14_method_65_code l) (sx_iB_s aJ_379_11) (sx_iB_s aJ_379_12))))) (sx_ite (p := fun l => sx_iOk prog_14_method_65_code l) (sx_ite (p := fun l => sx_iOk prog_14_method_65_code l) (sx_ite (p := fun l => sx_iOk prog_14_method_65_code l) (sx_iB_s aJ_379_13) (sx_ite (p := fun l => sx_iOk prog_14_method_65_code l) (sx_iB_s aJ_379_14) (sx_iB_s aJ_379_15))) (sx_ite (p := fun l => sx_iOk prog_14_method_65_code l) (sx_ite (p := fun l => sx_iOk prog_14_method_65_code l) (sx_iB_s aJ_379_16) (sx_iB_s aJ_379_17)) (sx_ite (p := fun l => sx_iOk prog_14_method_65_code l) (sx_iB_s aJ_379_18) (sx_iB_s aJ_379_19)))) (sx_ite (p := fun l => sx_iOk prog_14_method_65_code l) (sx_ite (p := fun l => sx_iOk prog_14_method_65_code l) (sx_iB_s aJ_379_20) (sx_ite (p := fun l => sx_iOk prog_14_method_65_code l) (sx_iB_s aJ_379_21) (sx_iB_s aJ_379_22))) (sx_ite (p := fun l => sx_iOk prog_14_method_65_code l) (sx_ite (p := fun l => sx_iOk prog_14_method_65_code l) (sx_iB_s aJ_379_23) (sx_iB_s aJ_379_24)) (sx_ite (p := fun l => sx_iOk prog_14_method_65_code l) (sx_iB_s aJ_379_25) (sx_iB_s aJ_379_26))))))
def aW_379 : Nat → Option (Instr × Nat) := fun pc => sx_iF (aS_379 pc) pc
theorem aX_379 : ∀ pc i len, aW_379 pc = some (i, len) → decode aM_379.1.2.1 pc = .ok (i, len) := fun pc i len h => sx_iF_s (aT_379 pc) h
def aI_380_0 : sx_IL := [(0, .iload_n 0, 1), (1, .bipush 48, 2), (3, .if_icmp .eq 33, 3), (6, .iload_n 0, 1), (7, .iconst 2, 1), (8, .if_icmp .eq 28, 3)]
theorem aJ_380_0 : sx_iB prog_14_method_63_code aI_380_0 = true := by decide +kernel
def aI_380_1 : sx_IL := [(11, .iload_n 0, 1), (12, .iconst 4, 1), (13, .if_icmp .eq 23, 3), (16, .iload_n 0, 1), (17, .bipush 12, 2), (19, .if_icmp .eq 17, 3)]
theorem aJ_380_1 : sx_iB prog_14_method_63_code aI_380_1 = true := by decide +kernel
def aI_380_2 : sx_IL := [(22, .iload_n 0, 1), (23, .i2l, 1), (24, .ldc2_w 728, 3), (27, .ldc2_w 730, 3), (30, .invokestatic 513, 3), (33, .ifCond .eq 7, 3)]
theorem aJ_380_2 : sx_iB prog_14_method_63_code aI_380_2 = true := by decide +kernel
def aI_380_3 : sx_IL := [(36, .iconst 1, 1), (37, .goto 4, 3), (40, .iconst 0, 1), (41, .ireturn, 1)]
theorem aJ_380_3 : sx_iB prog_14_method_63_code aI_380_3 = true := by decide +kernel
def aS_380 (pc : Nat) : sx_IL := (if pc < 22 then (if pc < 11 then aI_380_0 else aI_380_1) else (if pc < 36 then aI_380_2 else aI_380_3))
theorem aT_380 (pc : Nat) : sx_iOk prog_14_method_63_code (aS_380 pc) := (sx_ite (p := fun l => sx_iOk prog_14_method_63_code l) (sx_ite (p := fun l => sx_iOk prog_14_method_63_code l) (sx_iB_s aJ_380_0) (sx_iB_s aJ_380_1)) (sx_ite (p := fun l => sx_iOk prog_14_method_63_code l) (sx_iB_s aJ_380_2) (sx_iB_s aJ_380_3)))
def aW_380 : Nat → Option (Instr × Nat) := fun pc => sx_iF (aS_380 pc) pc
theorem aX_380 : ∀ pc i len, aW_380 pc = some (i, len) → decode aM_380.1.2.1 pc = .ok (i, len) := fun pc i len h => sx_iF_s (aT_380 pc) h
def aI_381_0 : sx_IL := [(0, .iload_n 2, 1), (1, .iload_n 3, 1), (2, .if_icmp .lt 5, 3), (5, .iload_n 3, 1), (6, .ireturn, 1), (7, .aload_n 1, 1)]
theorem aJ_381_0 : sx_iB prog_14_method_64_code aI_381_0 = true := by decide +kernel
def aI_381_1 : sx_IL := [(8, .iload_n 2, 1), (9, .iaload, 1), (10, .istore 4, 2), (12, .aload_n 0, 1), (13, .iload 4, 2), (15, .sipush 128, 3)]
theorem aJ_381_1 : sx_iB prog_14_method_64_code aI_381_1 = true := by decide +kernel
def aI_381_2 : sx_IL := [(18, .if_icmp .ge 7, 3), (21, .iconst 1, 1), (22, .goto 16, 3), (25, .iload 4, 2), (27, .sipush 129, 3), (30, .if_icmp .ne 7, 3)]
theorem aJ_381_2 : sx_iB prog_14_method_64_code aI_381_2 = true := by decide +kernel
def aI_381_3 : sx_IL := [(33, .iconst 2, 1), (34, .goto 4, 3), (37, .iconst 3, 1), (38, .putfield 732, 3), (41, .iload 4, 2), (43, .sipush 128, 3)]
theorem aJ_381_3 : sx_iB prog_14_method_64_code aI_381_3 = true := by decide +kernel
def aI_381_4 : sx_IL := [(46, .if_icmp .eq 11, 3), (49, .iload 4, 2), (51, .sipush 130, 3), (54, .if_icmp .le 5, 3), (57, .iload_n 2, 1), (58, .ireturn, 1)]
theorem aJ_381_4 : sx_iB prog_14_method_64_code aI_381_4 = true := by decide +kernel
def aI_381_5 : sx_IL := [(59, .iload_n 2, 1), (60, .aload_n 0, 1), (61, .getfield 732, 3), (64, .iadd, 1), (65, .iload_n 3, 1), (66, .if_icmp .le 5, 3)]
theorem aJ_381_5 : sx_iB prog_14_method_64_code aI_381_5 = true := by decide +kernel
def aI_381_6 : sx_IL := [(69, .iload_n 3, 1), (70, .ireturn, 1), (71, .aload_n 0, 1), (72, .iload 4, 2), (74, .sipush 128, 3), (77, .if_icmp .ge 8, 3)]
theorem aJ_381_6 : sx_iB prog_14_method_64_code aI_381_6 = true := by decide +kernel
def aI_381_7 : sx_IL := [(80, .iload 4, 2), (82, .goto 33, 3), (85, .iload 4, 2), (87, .sipush 129, 3), (90, .if_icmp .ne 11, 3), (93, .aload_n 1, 1)]
theorem aJ_381_7 : sx_iB prog_14_method_64_code aI_381_7 = true := by decide +kernel
def aI_381_8 : sx_IL := [(94, .iload_n 2, 1), (95, .iconst 1, 1), (96, .iadd, 1), (97, .iaload, 1), (98, .goto 17, 3), (101, .aload_n 1, 1)]
theorem aJ_381_8 : sx_iB prog_14_method_64_code aI_381_8 = true := by decide +kernel
def aI_381_9 : sx_IL := [(102, .iload_n 2, 1), (103, .iconst 1, 1), (104, .iadd, 1), (105, .iaload, 1), (106, .bipush 8, 2), (108, .ishl, 1)]
theorem aJ_381_9 : sx_iB prog_14_method_64_code aI_381_9 = true := by decide +kernel
def aI_381_10 : sx_IL := [(109, .aload_n 1, 1), (110, .iload_n 2, 1), (111, .iconst 2, 1), (112, .iadd, 1), (113, .iaload, 1), (114, .ior, 1)]
theorem aJ_381_10 : sx_iB prog_14_method_64_code aI_381_10 = true := by decide +kernel
def aI_381_11 : sx_IL := [(115, .putfield 735, 3), (118, .iload 4, 2), (120, .sipush 128, 3), (123, .if_icmp .lt 33, 3), (126, .iload 4, 2), (128, .sipush 129, 3)]
theorem aJ_381_11 : sx_iB prog_14_method_64_code aI_381_11 = true := by decide +kernel
def aI_381_12 : sx_IL := [(131, .if_icmp .ne 15, 3), (134, .aload_n 0, 1), (135, .getfield 735, 3), (138, .bipush 127, 2), (140, .if_icmp .le 20, 3), (143, .goto 13, 3)]
theorem aJ_381_12 : sx_iB prog_14_method_64_code aI_381_12 = true := by decide +kernel
def aI_381_13 : sx_IL := [(146, .aload_n 0, 1), (147, .getfield 735, 3), (150, .sipush 255, 3), (153, .if_icmp .le 7, 3), (156, .iconst 1, 1), (157, .goto 4, 3)]
theorem aJ_381_13 : sx_iB prog_14_method_64_code aI_381_13 = true := by decide +kernel
def aI_381_14 : sx_IL := [(160, .iconst 0, 1), (161, .istore 5, 2), (163, .iload 5, 2), (165, .ifCond .eq 23, 3), (168, .iload_n 2, 1), (169, .aload_n 0, 1)]
theorem aJ_381_14 : sx_iB prog_14_method_64_code aI_381_14 = true := by decide +kernel
def aI_381_15 : sx_IL := [(170, .getfield 732, 3), (173, .iadd, 1), (174, .aload_n 0, 1), (175, .getfield 735, 3), (178, .iadd, 1), (179, .iload_n 3, 1)]
theorem aJ_381_15 : sx_iB prog_14_method_64_code aI_381_15 = true := by decide +kernel
def aI_381_16 : sx_IL := [(180, .if_icmp .gt 8, 3), (183, .bipush (-4), 2), (185, .goto 4, 3), (188, .iload_n 2, 1), (189, .ireturn, 1)]
theorem aJ_381_16 : sx_iB prog_14_method_64_code aI_381_16 = true := by decide +kernel
def aS_381 (pc : Nat) : sx_IL := (if pc < 94 then (if pc < 46 then (if pc < 18 then (if pc < 8 then aI_381_0 else aI_381_1) else (if pc < 33 then aI_381_2 else aI_381_3)) else (if pc < 69 then (if pc < 59 then aI_381_4 else aI_381_5) else (if pc < 80 then aI_381_6 else aI_381_7))) else (if pc < 131 then (if pc < 109 then (if pc < 102 then aI_381_8 else aI_381_9) else (if pc < 115 then aI_381_10 else aI_381_11)) else (if pc < 160 then (if pc < 146 then aI_381_12 else aI_381_13) else (if pc < 170 then aI_381_14 else (if pc < 180 then aI_381_15 else aI_381_16)))))
theorem aT_381 (pc : Nat) : sx_iOk prog_14_method_64_code (aS_381 pc) := (sx_ite (p := fun l => sx_iOk prog_14_method_64_code l) (sx_ite (p := fun l => sx_iOk prog_14_method_64_code l) (sx_ite (p := fun l => sx_iOk prog_14_method_64_code l) (sx_ite (p := fun l => sx_iOk prog_14_method_64_code l) (sx_iB_s aJ_381_0) (sx_iB_s aJ_381_1)) (sx_ite (p := fun l => sx_iOk prog_14_method_64_code l) (sx_iB_s aJ_381_2) (sx_iB_s aJ_381_3))) (sx_ite (p := fun l => sx_iOk prog_14_method_64_code l) (sx_ite (p := fun l => sx_iOk prog_14_method_64_code l) (sx_iB_s aJ_381_4) (sx_iB_s aJ_381_5)) (sx_ite (p := fun l => sx_iOk prog_14_method_64_code l) (sx_iB_s aJ_381_6) (sx_iB_s aJ_381_7)))) (sx_ite (p := fun l => sx_iOk prog_14_method_64_code l) (sx_ite (p := fun l => sx_iOk prog_14_method_64_code l) (sx_ite (p := fun l => sx_iOk prog_14_method_64_code l) (sx_iB_s aJ_381_8) (sx_iB_s aJ_381_9)) (sx_ite (p := fun l => sx_iOk prog_14_method_64_code l) (sx_iB_s aJ_381_10) (sx_iB_s aJ_381_11))) (sx_ite (p := fun l => sx_iOk prog_14_method_64_code l) (sx_ite (p := fun l => sx_iOk prog_14_method_64_code l) (sx_iB_s aJ_381_12) (sx_iB_s aJ_381_13)) (sx_ite (p := fun l => sx_iOk prog_14_method_64_code l) (sx_iB_s aJ_381_14) (sx_ite (p := fun l => sx_iOk prog_14_method_64_code l) (sx_iB_s aJ_381_15) (sx_iB_s aJ_381_16))))))
def aW_381 : Nat → Option (Instr × Nat) := fun pc => sx_iF (aS_381 pc) pc
theorem aX_381 : ∀ pc i len, aW_381 pc = some (i, len) → decode aM_381.1.2.1 pc = .ok (i, len) := fun pc i len h => sx_iF_s (aT_381 pc) h
def aI_382_0 : sx_IL := [(0, .iconst 0, 1), (1, .istore_n 3, 1), (2, .iconst 0, 1), (3, .istore 4, 2), (5, .iload 4, 2), (7, .iload_n 2, 1)]
theorem aJ_382_0 : sx_iB prog_14_method_61_code aI_382_0 = true := by decide +kernel
def aI_382_1 : sx_IL := [(8, .if_icmp .ge 61, 3), (11, .aload_n 0, 1), (12, .iload_n 1, 1), (13, .iload 4, 2), (15, .iadd, 1), (16, .iaload, 1)]
theorem aJ_382_1 : sx_iB prog_14_method_61_code aI_382_1 = true := by decide +kernel
def aI_382_2 : sx_IL := [(17, .istore 5, 2), (19, .iload 4, 2), (21, .bipush 40, 2), (23, .if_icmp .eq 22, 3), (26, .iload 5, 2), (28, .invokestatic 721, 3)]
theorem aJ_382_2 : sx_iB prog_14_method_61_code aI_382_2 = true := by decide +kernel
def aI_382_3 : sx_IL := [(31, .ifCond .ne 17, 3), (34, .iload 5, 2), (36, .bipush 46, 2), (38, .if_icmp .ne 7, 3), (41, .iload_n 3, 1), (42, .ifCond .ne 6, 3)]
theorem aJ_382_3 : sx_iB prog_14_method_61_code aI_382_3 = true := by decide +kernel
def aI_382_4 : sx_IL := [(45, .iload 4, 2), (47, .ireturn, 1), (48, .iload 5, 2), (50, .bipush 46, 2), (52, .if_icmp .ne 7, 3), (55, .iconst 0, 1)]
theorem aJ_382_4 : sx_iB prog_14_method_61_code aI_382_4 = true := by decide +kernel
def aI_382_5 : sx_IL := [(56, .goto 6, 3), (59, .iload_n 3, 1), (60, .iconst 1, 1), (61, .iadd, 1), (62, .istore_n 3, 1), (63, .iinc 4 1, 3)]
theorem aJ_382_5 : sx_iB prog_14_method_61_code aI_382_5 = true := by decide +kernel
def aI_382_6 : sx_IL := [(66, .goto (-61), 3), (69, .iload_n 3, 1), (70, .ifCond .ne 7, 3), (73, .iload_n 2, 1), (74, .goto 5, 3), (77, .bipush (-4), 2)]
theorem aJ_382_6 : sx_iB prog_14_method_61_code aI_382_6 = true := by decide +kernel
def aI_382_7 : sx_IL := [(79, .ireturn, 1)]
theorem aJ_382_7 : sx_iB prog_14_method_61_code aI_382_7 = true := by decide +kernel
def aS_382 (pc : Nat) : sx_IL := (if pc < 45 then (if pc < 17 then (if pc < 8 then aI_382_0 else aI_382_1) else (if pc < 31 then aI_382_2 else aI_382_3)) else (if pc < 66 then (if pc < 56 then aI_382_4 else aI_382_5) else (if pc < 79 then aI_382_6 else aI_382_7)))
theorem aT_382 (pc : Nat) : sx_iOk prog_14_method_61_code (aS_382 pc) := (sx_ite (p := fun l => sx_iOk prog_14_method_61_code l) (sx_ite (p := fun l => sx_iOk prog_14_method_61_code l) (sx_ite (p := fun l => sx_iOk prog_14_method_61_code l) (sx_iB_s aJ_382_0) (sx_iB_s aJ_382_1)) (sx_ite (p := fun l => sx_iOk prog_14_method_61_code l) (sx_iB_s aJ_382_2) (sx_iB_s aJ_382_3))) (sx_ite (p := fun l => sx_iOk prog_14_method_61_code l) (sx_ite (p := fun l => sx_iOk prog_14_method_61_code l) (sx_iB_s aJ_382_4) (sx_iB_s aJ_382_5)) (sx_ite (p := fun l => sx_iOk prog_14_method_61_code l) (sx_iB_s aJ_382_6) (sx_iB_s aJ_382_7))))
def aW_382 : Nat → Option (Instr × Nat) := fun pc => sx_iF (aS_382 pc) pc
theorem aX_382 : ∀ pc i len, aW_382 pc = some (i, len) → decode aM_382.1.2.1 pc = .ok (i, len) := fun pc i len h => sx_iF_s (aT_382 pc) h
def aI_383_0 : sx_IL := [(0, .iload_n 0, 1), (1, .i2l, 1), (2, .ldc2_w 713, 3), (5, .ldc2_w 715, 3), (8, .invokestatic 513, 3), (11, .ifCond .ne 23, 3)]
theorem aJ_383_0 : sx_iB prog_14_method_60_code aI_383_0 = true := by decide +kernel
def aI_383_1 : sx_IL := [(14, .iload_n 0, 1), (15, .i2l, 1), (16, .ldc2_w 717, 3), (19, .ldc2_w 719, 3), (22, .invokestatic 513, 3), (25, .ifCond .ne 9, 3)]
theorem aJ_383_1 : sx_iB prog_14_method_60_code aI_383_1 = true := by decide +kernel
def aI_383_2 : sx_IL := [(28, .iload_n 0, 1), (29, .bipush 45, 2), (31, .if_icmp .ne 7, 3), (34, .iconst 1, 1), (35, .goto 4, 3), (38, .iconst 0, 1)]
theorem aJ_383_2 : sx_iB prog_14_method_60_code aI_383_2 = true := by decide +kernel
def aI_383_3 : sx_IL := [(39, .ireturn, 1)]
theorem aJ_383_3 : sx_iB prog_14_method_60_code aI_383_3 = true := by decide +kernel
def aS_383 (pc : Nat) : sx_IL := (if pc < 28 then (if pc < 14 then aI_383_0 else aI_383_1) else (if pc < 39 then aI_383_2 else aI_383_3))
theorem aT_383 (pc : Nat) : sx_iOk prog_14_method_60_code (aS_383 pc) := (sx_ite (p := fun l => sx_iOk prog_14_method_60_code l) (sx_ite (p := fun l => sx_iOk prog_14_method_60_code l) (sx_iB_s aJ_383_0) (sx_iB_s aJ_383_1)) (sx_ite (p := fun l => sx_iOk prog_14_method_60_code l) (sx_iB_s aJ_383_2) (sx_iB_s aJ_383_3)))
def aW_383 : Nat → Option (Instr × Nat) := fun pc => sx_iF (aS_383 pc) pc
theorem aX_383 : ∀ pc i len, aW_383 pc = some (i, len) → decode aM_383.1.2.1 pc = .ok (i, len) := fun pc i len h => sx_iF_s (aT_383 pc) h
def aI_395_0 : sx_IL := [(0, .aload_n 0, 1), (1, .iload_n 1, 1), (2, .iaload, 1), (3, .bipush 24, 2), (5, .ishl, 1), (6, .aload_n 0, 1)]
theorem aJ_395_0 : sx_iB prog_14_method_76_code aI_395_0 = true := by decide +kernel
def aI_395_1 : sx_IL := [(7, .iload_n 1, 1), (8, .iconst 1, 1), (9, .iadd, 1), (10, .iaload, 1), (11, .bipush 16, 2), (13, .ishl, 1)]
theorem aJ_395_1 : sx_iB prog_14_method_76_code aI_395_1 = true := by decide +kernel
def aI_395_2 : sx_IL := [(14, .ior, 1), (15, .aload_n 0, 1), (16, .iload_n 1, 1), (17, .iconst 2, 1), (18, .iadd, 1), (19, .iaload, 1)]
theorem aJ_395_2 : sx_iB prog_14_method_76_code aI_395_2 = true := by decide +kernel
def aI_395_3 : sx_IL := [(20, .bipush 8, 2), (22, .ishl, 1), (23, .ior, 1), (24, .aload_n 0, 1), (25, .iload_n 1, 1), (26, .iconst 3, 1)]
theorem aJ_395_3 : sx_iB prog_14_method_76_code aI_395_3 = true := by decide +kernel
def aI_395_4 : sx_IL := [(27, .iadd, 1), (28, .iaload, 1), (29, .ior, 1), (30, .ireturn, 1)]
theorem aJ_395_4 : sx_iB prog_14_method_76_code aI_395_4 = true := by decide +kernel
def aS_395 (pc : Nat) : sx_IL := (if pc < 14 then (if pc < 7 then aI_395_0 else aI_395_1) else (if pc < 20 then aI_395_2 else (if pc < 27 then aI_395_3 else aI_395_4)))
theorem aT_395 (pc : Nat) : sx_iOk prog_14_method_76_code (aS_395 pc) := (sx_ite (p := fun l => sx_iOk prog_14_method_76_code l) (sx_ite (p := fun l => sx_iOk prog_14_method_76_code l) (sx_iB_s aJ_395_0) (sx_iB_s aJ_395_1)) (sx_ite (p := fun l => sx_iOk prog_14_method_76_code l) (sx_iB_s aJ_395_2) (sx_ite (p := fun l => sx_iOk prog_14_method_76_code l) (sx_iB_s aJ_395_3) (sx_iB_s aJ_395_4))))
def aW_395 : Nat → Option (Instr × Nat) := fun pc => sx_iF (aS_395 pc) pc
theorem aX_395 : ∀ pc i len, aW_395 pc = some (i, len) → decode aM_395.1.2.1 pc = .ok (i, len) := fun pc i len h => sx_iF_s (aT_395 pc) h
def aI_400_0 : sx_IL := [(0, .iload_n 1, 1), (1, .i2l, 1), (2, .lconst 1, 1), (3, .ldc2_w 631, 3), (6, .invokestatic 513, 3), (9, .ifCond .eq 10, 3)]
theorem aJ_400_0 : sx_iB prog_14_method_91_code aI_400_0 = true := by decide +kernel
def aI_400_1 : sx_IL := [(12, .iload_n 2, 1), (13, .invokestatic 652, 3), (16, .ifCond .ne 5, 3), (19, .iconst (-1), 1), (20, .ireturn, 1), (21, .aload_n 0, 1)]
theorem aJ_400_1 : sx_iB prog_14_method_91_code aI_400_1 = true := by decide +kernel
def aI_400_2 : sx_IL := [(22, .iconst 0, 1), (23, .putfield 814, 3), (26, .aload_n 0, 1), (27, .aload_n 0, 1), (28, .getfield 7, 3), (31, .iconst 0, 1)]
theorem aJ_400_2 : sx_iB prog_14_method_91_code aI_400_2 = true := by decide +kernel
def aI_400_3 : sx_IL := [(32, .aload_n 0, 1), (33, .getfield 517, 3), (36, .invokevirtual 828, 3), (39, .aload_n 0, 1), (40, .iload_n 1, 1), (41, .iload_n 2, 1)]
theorem aJ_400_3 : sx_iB prog_14_method_91_code aI_400_3 = true := by decide +kernel
def aI_400_4 : sx_IL := [(42, .invokevirtual 837, 3), (45, .aload_n 0, 1), (46, .getfield 814, 3), (49, .sipush 800, 3), (52, .if_icmp .le 6, 3), (55, .bipush (-3), 2)]
theorem aJ_400_4 : sx_iB prog_14_method_91_code aI_400_4 = true := by decide +kernel
def aI_400_5 : sx_IL := [(57, .ireturn, 1), (58, .iconst 0, 1), (59, .istore_n 3, 1), (60, .iload_n 3, 1), (61, .aload_n 0, 1), (62, .getfield 814, 3)]
theorem aJ_400_5 : sx_iB prog_14_method_91_code aI_400_5 = true := by decide +kernel
def aI_400_6 : sx_IL := [(65, .if_icmp .ge 21, 3), (68, .aload_n 0, 1), (69, .getfield 7, 3), (72, .iload_n 3, 1), (73, .aload_n 0, 1), (74, .getfield 84, 3)]
theorem aJ_400_6 : sx_iB prog_14_method_91_code aI_400_6 = true := by decide +kernel
def aI_400_7 : sx_IL := [(77, .iload_n 3, 1), (78, .iaload, 1), (79, .iastore, 1), (80, .iinc 3 1, 3), (83, .goto (-23), 3), (86, .aload_n 0, 1)]
theorem aJ_400_7 : sx_iB prog_14_method_91_code aI_400_7 = true := by decide +kernel
def aI_400_8 : sx_IL := [(87, .aload_n 0, 1), (88, .getfield 814, 3), (91, .putfield 517, 3), (94, .aload_n 0, 1), (95, .getfield 517, 3), (98, .ireturn, 1)]
theorem aJ_400_8 : sx_iB prog_14_method_91_code aI_400_8 = true := by decide +kernel
def aS_400 (pc : Nat) : sx_IL := (if pc < 42 then (if pc < 22 then (if pc < 12 then aI_400_0 else aI_400_1) else (if pc < 32 then aI_400_2 else aI_400_3)) else (if pc < 65 then (if pc < 57 then aI_400_4 else aI_400_5) else (if pc < 77 then aI_400_6 else (if pc < 87 then aI_400_7 else aI_400_8))))
theorem aT_400 (pc : Nat) : sx_iOk prog_14_method_91_code (aS_400 pc) := (sx_ite (p := fun l => sx_iOk prog_14_method_91_code l) (sx_ite (p := fun l => sx_iOk prog_14_method_91_code l) (sx_ite (p := fun l => sx_iOk prog_14_method_91_code l) (sx_iB_s aJ_400_0) (sx_iB_s aJ_400_1)) (sx_ite (p := fun l => sx_iOk prog_14_method_91_code l) (sx_iB_s aJ_400_2) (sx_iB_s aJ_400_3))) (sx_ite (p := fun l => sx_iOk prog_14_method_91_code l) (sx_ite (p := fun l => sx_iOk prog_14_method_91_code l) (sx_iB_s aJ_400_4) (sx_iB_s aJ_400_5)) (sx_ite (p := fun l => sx_iOk prog_14_method_91_code l) (sx_iB_s aJ_400_6) (sx_ite (p := fun l => sx_iOk prog_14_method_91_code l) (sx_iB_s aJ_400_7) (sx_iB_s aJ_400_8)))))
def aW_400 : Nat → Option (Instr × Nat) := fun pc => sx_iF (aS_400 pc) pc
theorem aX_400 : ∀ pc i len, aW_400 pc = some (i, len) → decode aM_400.1.2.1 pc = .ok (i, len) := fun pc i len h => sx_iF_s (aT_400 pc) h
def aI_401_0 : sx_IL := [(0, .iconst 0, 1), (1, .istore 4, 2), (3, .iload 4, 2), (5, .iload_n 3, 1), (6, .if_icmp .ge 19, 3), (9, .aload_n 0, 1)]
theorem aJ_401_0 : sx_iB prog_14_method_86_code aI_401_0 = true := by decide +kernel
def aI_401_1 : sx_IL := [(10, .aload_n 1, 1), (11, .iload_n 2, 1), (12, .iload 4, 2), (14, .iadd, 1), (15, .iaload, 1), (16, .invokevirtual 817, 3)]
theorem aJ_401_1 : sx_iB prog_14_method_86_code aI_401_1 = true := by decide +kernel
def aI_401_2 : sx_IL := [(19, .iinc 4 1, 3), (22, .goto (-19), 3), (25, .return_, 1)]
theorem aJ_401_2 : sx_iB prog_14_method_86_code aI_401_2 = true := by decide +kernel
def aS_401 (pc : Nat) : sx_IL := (if pc < 10 then aI_401_0 else (if pc < 19 then aI_401_1 else aI_401_2))
theorem aT_401 (pc : Nat) : sx_iOk prog_14_method_86_code (aS_401 pc) := (sx_ite (p := fun l => sx_iOk prog_14_method_86_code l) (sx_iB_s aJ_401_0) (sx_ite (p := fun l => sx_iOk prog_14_method_86_code l) (sx_iB_s aJ_401_1) (sx_iB_s aJ_401_2)))
def aW_401 : Nat → Option (Instr × Nat) := fun pc => sx_iF (aS_401 pc) pc
theorem aX_401 : ∀ pc i len, aW_401 pc = some (i, len) → decode aM_401.1.2.1 pc = .ok (i, len) := fun pc i len h => sx_iF_s (aT_401 pc) h
def aI_402_0 : sx_IL := [(0, .aload_n 0, 1), (1, .getfield 84, 3), (4, .aload_n 0, 1), (5, .getfield 814, 3), (8, .iload_n 1, 1), (9, .sipush 255, 3)]
theorem aJ_402_0 : sx_iB prog_14_method_82_code aI_402_0 = true := by decide +kernel
def aI_402_1 : sx_IL := [(12, .iand, 1), (13, .iastore, 1), (14, .aload_n 0, 1), (15, .dup, 1), (16, .getfield 814, 3), (19, .iconst 1, 1)]
theorem aJ_402_1 : sx_iB prog_14_method_82_code aI_402_1 = true := by decide +kernel
def aI_402_2 : sx_IL := [(20, .iadd, 1), (21, .putfield 814, 3), (24, .return_, 1)]
theorem aJ_402_2 : sx_iB prog_14_method_82_code aI_402_2 = true := by decide +kernel
def aS_402 (pc : Nat) : sx_IL := (if pc < 12 then aI_402_0 else (if pc < 20 then aI_402_1 else aI_402_2))
theorem aT_402 (pc : Nat) : sx_iOk prog_14_method_82_code (aS_402 pc) := (sx_ite (p := fun l => sx_iOk prog_14_method_82_code l) (sx_iB_s aJ_402_0) (sx_ite (p := fun l => sx_iOk prog_14_method_82_code l) (sx_iB_s aJ_402_1) (sx_iB_s aJ_402_2)))
def aW_402 : Nat → Option (Instr × Nat) := fun pc => sx_iF (aS_402 pc) pc
theorem aX_402 : ∀ pc i len, aW_402 pc = some (i, len) → decode aM_402.1.2.1 pc = .ok (i, len) := fun pc i len h => sx_iF_s (aT_402 pc) h
def aI_403_0 : sx_IL := [(0, .aload_n 0, 1), (1, .iload_n 1, 1), (2, .iload_n 2, 1), (3, .aload_n 0, 1), (4, .getfield 84, 3), (7, .iconst 0, 1)]
theorem aJ_403_0 : sx_iB prog_14_method_90_code aI_403_0 = true := by decide +kernel
def aI_403_1 : sx_IL := [(8, .aload_n 0, 1), (9, .getfield 814, 3), (12, .invokevirtual 675, 3), (15, .lstore_n 3, 1), (16, .aload_n 0, 1), (17, .iconst 4, 1)]
theorem aJ_403_1 : sx_iB prog_14_method_90_code aI_403_1 = true := by decide +kernel
def aI_403_2 : sx_IL := [(18, .invokevirtual 817, 3), (21, .aload_n 0, 1), (22, .bipush 8, 2), (24, .invokevirtual 817, 3), (27, .aload_n 0, 1), (28, .lload_n 3, 1)]
theorem aJ_403_2 : sx_iB prog_14_method_90_code aI_403_2 = true := by decide +kernel
def aI_403_3 : sx_IL := [(29, .invokevirtual 831, 3), (32, .aload_n 0, 1), (33, .iconst 0, 1), (34, .bipush 48, 2), (36, .invokevirtual 834, 3), (39, .return_, 1)]
theorem aJ_403_3 : sx_iB prog_14_method_90_code aI_403_3 = true := by decide +kernel
def aS_403 (pc : Nat) : sx_IL := (if pc < 18 then (if pc < 8 then aI_403_0 else aI_403_1) else (if pc < 29 then aI_403_2 else aI_403_3))
theorem aT_403 (pc : Nat) : sx_iOk prog_14_method_90_code (aS_403 pc) := (sx_ite (p := fun l => sx_iOk prog_14_method_90_code l) (sx_ite (p := fun l => sx_iOk prog_14_method_90_code l) (sx_iB_s aJ_403_0) (sx_iB_s aJ_403_1)) (sx_ite (p := fun l => sx_iOk prog_14_method_90_code l) (sx_iB_s aJ_403_2) (sx_iB_s aJ_403_3)))
def aW_403 : Nat → Option (Instr × Nat) := fun pc => sx_iF (aS_403 pc) pc
theorem aX_403 : ∀ pc i len, aW_403 pc = some (i, len) → decode aM_403.1.2.1 pc = .ok (i, len) := fun pc i len h => sx_iF_s (aT_403 pc) h
def aI_404_0 : sx_IL := [(0, .aload_n 0, 1), (1, .lload_n 1, 1), (2, .bipush 32, 2), (4, .lshr, 1), (5, .l2i, 1), (6, .invokevirtual 823, 3)]
theorem aJ_404_0 : sx_iB prog_14_method_85_code aI_404_0 = true := by decide +kernel
def aI_404_1 : sx_IL := [(9, .aload_n 0, 1), (10, .lload_n 1, 1), (11, .l2i, 1), (12, .invokevirtual 823, 3), (15, .return_, 1)]
theorem aJ_404_1 : sx_iB prog_14_method_85_code aI_404_1 = true := by decide +kernel
def aS_404 (pc : Nat) : sx_IL := (if pc < 9 then aI_404_0 else aI_404_1)
theorem aT_404 (pc : Nat) : sx_iOk prog_14_method_85_code (aS_404 pc) := (sx_ite (p := fun l => sx_iOk prog_14_method_85_code l) (sx_iB_s aJ_404_0) (sx_iB_s aJ_404_1))
def aW_404 : Nat → Option (Instr × Nat) := fun pc => sx_iF (aS_404 pc) pc
theorem aX_404 : ∀ pc i len, aW_404 pc = some (i, len) → decode aM_404.1.2.1 pc = .ok (i, len) := fun pc i len h => sx_iF_s (aT_404 pc) h
def aI_405_0 : sx_IL := [(0, .aload_n 0, 1), (1, .iload_n 1, 1), (2, .bipush 16, 2), (4, .ishr, 1), (5, .invokevirtual 820, 3), (8, .aload_n 0, 1)]
theorem aJ_405_0 : sx_iB prog_14_method_84_code aI_405_0 = true := by decide +kernel
def aI_405_1 : sx_IL := [(9, .iload_n 1, 1), (10, .invokevirtual 820, 3), (13, .return_, 1)]
theorem aJ_405_1 : sx_iB prog_14_method_84_code aI_405_1 = true := by decide +kernel
def aS_405 (pc : Nat) : sx_IL := (if pc < 9 then aI_405_0 else aI_405_1)
theorem aT_405 (pc : Nat) : sx_iOk prog_14_method_84_code (aS_405 pc) := (sx_ite (p := fun l => sx_iOk prog_14_method_84_code l) (sx_iB_s aJ_405_0) (sx_iB_s aJ_405_1))
def aW_405 : Nat → Option (Instr × Nat) := fun pc => sx_iF (aS_405 pc) pc
theorem aX_405 : ∀ pc i len, aW_405 pc = some (i, len) → decode aM_405.1.2.1 pc = .ok (i, len) := fun pc i len h => sx_iF_s (aT_405 pc) h
def aI_406_0 : sx_IL := [(0, .aload_n 0, 1), (1, .iload_n 1, 1), (2, .bipush 8, 2), (4, .ishr, 1), (5, .invokevirtual 817, 3), (8, .aload_n 0, 1)]
theorem aJ_406_0 : sx_iB prog_14_method_83_code aI_406_0 = true := by decide +kernel
def aI_406_1 : sx_IL := [(9, .iload_n 1, 1), (10, .invokevirtual 817, 3), (13, .return_, 1)]
theorem aJ_406_1 : sx_iB prog_14_method_83_code aI_406_1 = true := by decide +kernel
def aS_406 (pc : Nat) : sx_IL := (if pc < 9 then aI_406_0 else aI_406_1)
theorem aT_406 (pc : Nat) : sx_iOk prog_14_method_83_code (aS_406 pc) := (sx_ite (p := fun l => sx_iOk prog_14_method_83_code l) (sx_iB_s aJ_406_0) (sx_iB_s aJ_406_1))
def aW_406 : Nat → Option (Instr × Nat) := fun pc => sx_iF (aS_406 pc) pc
theorem aX_406 : ∀ pc i len, aW_406 pc = some (i, len) → decode aM_406.1.2.1 pc = .ok (i, len) := fun pc i len h => sx_iF_s (aT_406 pc) h
def aI_407_0 : sx_IL := [(0, .aload_n 0, 1), (1, .getfield 814, 3), (4, .iload_n 1, 1), (5, .isub, 1), (6, .istore_n 3, 1), (7, .iload_n 3, 1)]
theorem aJ_407_0 : sx_iB prog_14_method_89_code aI_407_0 = true := by decide +kernel
def aI_407_1 : sx_IL := [(8, .sipush 128, 3), (11, .if_icmp .ge 7, 3), (14, .iconst 2, 1), (15, .goto 15, 3), (18, .iload_n 3, 1), (19, .sipush 256, 3)]
theorem aJ_407_1 : sx_iB prog_14_method_89_code aI_407_1 = true := by decide +kernel
def aI_407_2 : sx_IL := [(22, .if_icmp .ge 7, 3), (25, .iconst 3, 1), (26, .goto 4, 3), (29, .iconst 4, 1), (30, .istore 4, 2), (32, .aload_n 0, 1)]
theorem aJ_407_2 : sx_iB prog_14_method_89_code aI_407_2 = true := by decide +kernel
def aI_407_3 : sx_IL := [(33, .getfield 814, 3), (36, .iconst 1, 1), (37, .isub, 1), (38, .istore 5, 2), (40, .iload 5, 2), (42, .iload_n 1, 1)]
theorem aJ_407_3 : sx_iB prog_14_method_89_code aI_407_3 = true := by decide +kernel
def aI_407_4 : sx_IL := [(43, .if_icmp .lt 26, 3), (46, .aload_n 0, 1), (47, .getfield 84, 3), (50, .iload 5, 2), (52, .iload 4, 2), (54, .iadd, 1)]
theorem aJ_407_4 : sx_iB prog_14_method_89_code aI_407_4 = true := by decide +kernel
def aI_407_5 : sx_IL := [(55, .aload_n 0, 1), (56, .getfield 84, 3), (59, .iload 5, 2), (61, .iaload, 1), (62, .iastore, 1), (63, .iinc 5 (-1), 3)]
theorem aJ_407_5 : sx_iB prog_14_method_89_code aI_407_5 = true := by decide +kernel
def aI_407_6 : sx_IL := [(66, .goto (-26), 3), (69, .aload_n 0, 1), (70, .iload_n 1, 1), (71, .putfield 814, 3), (74, .aload_n 0, 1), (75, .iload_n 2, 1)]
theorem aJ_407_6 : sx_iB prog_14_method_89_code aI_407_6 = true := by decide +kernel
def aI_407_7 : sx_IL := [(76, .invokevirtual 817, 3), (79, .iload 4, 2), (81, .iconst 2, 1), (82, .if_icmp .ne 11, 3), (85, .aload_n 0, 1), (86, .iload_n 3, 1)]
theorem aJ_407_7 : sx_iB prog_14_method_89_code aI_407_7 = true := by decide +kernel
def aI_407_8 : sx_IL := [(87, .invokevirtual 817, 3), (90, .goto 36, 3), (93, .iload 4, 2), (95, .iconst 3, 1), (96, .if_icmp .ne 18, 3), (99, .aload_n 0, 1)]
theorem aJ_407_8 : sx_iB prog_14_method_89_code aI_407_8 = true := by decide +kernel
def aI_407_9 : sx_IL := [(100, .sipush 129, 3), (103, .invokevirtual 817, 3), (106, .aload_n 0, 1), (107, .iload_n 3, 1), (108, .invokevirtual 817, 3), (111, .goto 15, 3)]
theorem aJ_407_9 : sx_iB prog_14_method_89_code aI_407_9 = true := by decide +kernel
def aI_407_10 : sx_IL := [(114, .aload_n 0, 1), (115, .sipush 130, 3), (118, .invokevirtual 817, 3), (121, .aload_n 0, 1), (122, .iload_n 3, 1), (123, .invokevirtual 820, 3)]
theorem aJ_407_10 : sx_iB prog_14_method_89_code aI_407_10 = true := by decide +kernel
def aI_407_11 : sx_IL := [(126, .aload_n 0, 1), (127, .dup, 1), (128, .getfield 814, 3), (131, .iload_n 3, 1), (132, .iadd, 1), (133, .putfield 814, 3)]
theorem aJ_407_11 : sx_iB prog_14_method_89_code aI_407_11 = true := by decide +kernel
def aI_407_12 : sx_IL := [(136, .return_, 1)]
theorem aJ_407_12 : sx_iB prog_14_method_89_code aI_407_12 = true := by decide +kernel
def aS_407 (pc : Nat) : sx_IL := (if pc < 66 then (if pc < 33 then (if pc < 8 then aI_407_0 else (if pc < 22 then aI_407_1 else aI_407_2)) else (if pc < 43 then aI_407_3 else (if pc < 55 then aI_407_4 else aI_407_5))) else (if pc < 100 then (if pc < 76 then aI_407_6 else (if pc < 87 then aI_407_7 else aI_407_8)) else (if pc < 126 then (if pc < 114 then aI_407_9 else aI_407_10) else (if pc < 136 then aI_407_11 else aI_407_12))))
theorem aT_407 (pc : Nat) : sx_iOk prog_14_method_89_code (aS_407 pc) := (sx_ite (p := fun l => sx_iOk prog_14_method_89_code l) (sx_ite (p := fun l => sx_iOk prog_14_method_89_code l) (sx_ite (p := fun l => sx_iOk prog_14_method_89_code l) (sx_iB_s aJ_407_0) (sx_ite (p := fun l => sx_iOk prog_14_method_89_code l) (sx_iB_s aJ_407_1) (sx_iB_s aJ_407_2))) (sx_ite (p := fun l => sx_iOk prog_14_method_89_code l) (sx_iB_s aJ_407_3) (sx_ite (p := fun l => sx_iOk prog_14_method_89_code l) (sx_iB_s aJ_407_4) (sx_iB_s aJ_407_5)))) (sx_ite (p := fun l => sx_iOk prog_14_method_89_code l) (sx_ite (p := fun l => sx_iOk prog_14_method_89_code l) (sx_iB_s aJ_407_6) (sx_ite (p := fun l => sx_iOk prog_14_method_89_code l) (sx_iB_s aJ_407_7) (sx_iB_s aJ_407_8))) (sx_ite (p := fun l => sx_iOk prog_14_method_89_code l) (sx_ite (p := fun l => sx_iOk prog_14_method_89_code l) (sx_iB_s aJ_407_9) (sx_iB_s aJ_407_10)) (sx_ite (p := fun l => sx_iOk prog_14_method_89_code l) (sx_iB_s aJ_407_11) (sx_iB_s aJ_407_12)))))
def aW_407 : Nat → Option (Instr × Nat) := fun pc => sx_iF (aS_407 pc) pc
theorem aX_407 : ∀ pc i len, aW_407 pc = some (i, len) → decode aM_407.1.2.1 pc = .ok (i, len) := fun pc i len h => sx_iF_s (aT_407 pc) h
def aI_408_0 : sx_IL := [(0, .aload_n 0, 1), (1, .iload_n 1, 1), (2, .invokevirtual 840, 3), (5, .ifCond .eq 15, 3), (8, .iload_n 2, 1), (9, .i2l, 1)]
theorem aJ_408_0 : sx_iB prog_14_method_93_code aI_408_0 = true := by decide +kernel
def aI_408_1 : sx_IL := [(10, .lconst 0, 1), (11, .ldc2_w 843, 3), (14, .invokestatic 513, 3), (17, .ifCond .ne 5, 3), (20, .iconst (-1), 1), (21, .ireturn, 1)]
theorem aJ_408_1 : sx_iB prog_14_method_93_code aI_408_1 = true := by decide +kernel
def aI_408_2 : sx_IL := [(22, .iload_n 2, 1), (23, .bipush 8, 2), (25, .if_icmp .ge 17, 3), (28, .aload_n 0, 1), (29, .getfield 45, 3), (32, .bipush 8, 2)]
theorem aJ_408_2 : sx_iB prog_14_method_93_code aI_408_2 = true := by decide +kernel
def aI_408_3 : sx_IL := [(34, .iload_n 1, 1), (35, .imul, 1), (36, .iload_n 2, 1), (37, .iadd, 1), (38, .iaload, 1), (39, .goto 31, 3)]
theorem aJ_408_3 : sx_iB prog_14_method_93_code aI_408_3 = true := by decide +kernel
def aI_408_4 : sx_IL := [(42, .iload_n 2, 1), (43, .bipush 11, 2), (45, .if_icmp .ne 12, 3), (48, .aload_n 0, 1), (49, .getfield 42, 3), (52, .iload_n 1, 1)]
theorem aJ_408_4 : sx_iB prog_14_method_93_code aI_408_4 = true := by decide +kernel
def aI_408_5 : sx_IL := [(53, .iaload, 1), (54, .goto 16, 3), (57, .aload_n 0, 1), (58, .getfield 60, 3), (61, .iconst 3, 1), (62, .iload_n 1, 1)]
theorem aJ_408_5 : sx_iB prog_14_method_93_code aI_408_5 = true := by decide +kernel
def aI_408_6 : sx_IL := [(63, .imul, 1), (64, .iload_n 2, 1), (65, .iadd, 1), (66, .bipush 8, 2), (68, .isub, 1), (69, .iaload, 1)]
theorem aJ_408_6 : sx_iB prog_14_method_93_code aI_408_6 = true := by decide +kernel
def aI_408_7 : sx_IL := [(70, .ireturn, 1)]
theorem aJ_408_7 : sx_iB prog_14_method_93_code aI_408_7 = true := by decide +kernel
def aS_408 (pc : Nat) : sx_IL := (if pc < 42 then (if pc < 22 then (if pc < 10 then aI_408_0 else aI_408_1) else (if pc < 34 then aI_408_2 else aI_408_3)) else (if pc < 63 then (if pc < 53 then aI_408_4 else aI_408_5) else (if pc < 70 then aI_408_6 else aI_408_7)))
theorem aT_408 (pc : Nat) : sx_iOk prog_14_method_93_code (aS_408 pc) := (sx_ite (p := fun l => sx_iOk prog_14_method_93_code l) (sx_ite (p := fun l => sx_iOk prog_14_method_93_code l) (sx_ite (p := fun l => sx_iOk prog_14_method_93_code l) (sx_iB_s aJ_408_0) (sx_iB_s aJ_408_1)) (sx_ite (p := fun l => sx_iOk prog_14_method_93_code l) (sx_iB_s aJ_408_2) (sx_iB_s aJ_408_3))) (sx_ite (p := fun l => sx_iOk prog_14_method_93_code l) (sx_ite (p := fun l => sx_iOk prog_14_method_93_code l) (sx_iB_s aJ_408_4) (sx_iB_s aJ_408_5)) (sx_ite (p := fun l => sx_iOk prog_14_method_93_code l) (sx_iB_s aJ_408_6) (sx_iB_s aJ_408_7))))
def aW_408 : Nat → Option (Instr × Nat) := fun pc => sx_iF (aS_408 pc) pc
theorem aX_408 : ∀ pc i len, aW_408 pc = some (i, len) → decode aM_408.1.2.1 pc = .ok (i, len) := fun pc i len h => sx_iF_s (aT_408 pc) h
def aI_409_0 : sx_IL := [(0, .iload_n 1, 1), (1, .i2l, 1), (2, .lconst 0, 1), (3, .aload_n 0, 1), (4, .getfield 782, 3), (7, .iconst 1, 1)]
theorem aJ_409_0 : sx_iB prog_14_method_92_code aI_409_0 = true := by decide +kernel
def aI_409_1 : sx_IL := [(8, .isub, 1), (9, .i2l, 1), (10, .invokestatic 513, 3), (13, .ireturn, 1)]
theorem aJ_409_1 : sx_iB prog_14_method_92_code aI_409_1 = true := by decide +kernel
def aS_409 (pc : Nat) : sx_IL := (if pc < 8 then aI_409_0 else aI_409_1)
theorem aT_409 (pc : Nat) : sx_iOk prog_14_method_92_code (aS_409 pc) := (sx_ite (p := fun l => sx_iOk prog_14_method_92_code l) (sx_iB_s aJ_409_0) (sx_iB_s aJ_409_1))
def aW_409 : Nat → Option (Instr × Nat) := fun pc => sx_iF (aS_409 pc) pc
theorem aX_409 : ∀ pc i len, aW_409 pc = some (i, len) → decode aM_409.1.2.1 pc = .ok (i, len) := fun pc i len h => sx_iF_s (aT_409 pc) h
def aI_410_0 : sx_IL := [(0, .iload_n 2, 1), (1, .ifCond .eq 61, 3), (4, .iload_n 2, 1), (5, .iconst 1, 1), (6, .if_icmp .eq 56, 3), (9, .iload_n 2, 1)]
theorem aJ_410_0 : sx_iB prog_14_method_94_code aI_410_0 = true := by decide +kernel
def aI_410_1 : sx_IL := [(10, .bipush 11, 2), (12, .if_icmp .eq 50, 3), (15, .iload_n 2, 1), (16, .i2l, 1), (17, .ldc2_w 511, 3), (20, .ldc2_w 845, 3)]
theorem aJ_410_1 : sx_iB prog_14_method_94_code aI_410_1 = true := by decide +kernel
def aI_410_2 : sx_IL := [(23, .invokestatic 513, 3), (26, .ifCond .eq 40, 3), (29, .aload_n 0, 1), (30, .iload_n 1, 1), (31, .invokevirtual 840, 3), (34, .ifCond .eq 32, 3)]
theorem aJ_410_2 : sx_iB prog_14_method_94_code aI_410_2 = true := by decide +kernel
def aI_410_3 : sx_IL := [(37, .iload_n 3, 1), (38, .i2l, 1), (39, .lconst 0, 1), (40, .aload_n 0, 1), (41, .getfield 60, 3), (44, .iconst 3, 1)]
theorem aJ_410_3 : sx_iB prog_14_method_94_code aI_410_3 = true := by decide +kernel
def aI_410_4 : sx_IL := [(45, .iload_n 1, 1), (46, .imul, 1), (47, .iload_n 2, 1), (48, .iadd, 1), (49, .bipush 8, 2), (51, .isub, 1)]
theorem aJ_410_4 : sx_iB prog_14_method_94_code aI_410_4 = true := by decide +kernel
def aI_410_5 : sx_IL := [(52, .iaload, 1), (53, .iconst 1, 1), (54, .isub, 1), (55, .i2l, 1), (56, .invokestatic 513, 3), (59, .ifCond .eq 7, 3)]
theorem aJ_410_5 : sx_iB prog_14_method_94_code aI_410_5 = true := by decide +kernel
def aI_410_6 : sx_IL := [(62, .iconst 1, 1), (63, .goto 4, 3), (66, .iconst 0, 1), (67, .istore 4, 2), (69, .aload_n 0, 1), (70, .iload_n 1, 1)]
theorem aJ_410_6 : sx_iB prog_14_method_94_code aI_410_6 = true := by decide +kernel
def aI_410_7 : sx_IL := [(71, .invokevirtual 840, 3), (74, .ifCond .eq 8, 3), (77, .iload 4, 2), (79, .ifCond .ne 5, 3), (82, .iconst (-1), 1), (83, .ireturn, 1)]
theorem aJ_410_7 : sx_iB prog_14_method_94_code aI_410_7 = true := by decide +kernel
def aI_410_8 : sx_IL := [(84, .iload_n 2, 1), (85, .ifCond .ne 14, 3), (88, .aload_n 0, 1), (89, .getfield 48, 3), (92, .iconst 2, 1), (93, .iload_n 1, 1)]
theorem aJ_410_8 : sx_iB prog_14_method_94_code aI_410_8 = true := by decide +kernel
def aI_410_9 : sx_IL := [(94, .imul, 1), (95, .iaload, 1), (96, .goto 54, 3), (99, .iload_n 2, 1), (100, .iconst 1, 1), (101, .if_icmp .ne 14, 3)]
theorem aJ_410_9 : sx_iB prog_14_method_94_code aI_410_9 = true := by decide +kernel
def aI_410_10 : sx_IL := [(104, .aload_n 0, 1), (105, .getfield 51, 3), (108, .iconst 2, 1), (109, .iload_n 1, 1), (110, .imul, 1), (111, .iaload, 1)]
theorem aJ_410_10 : sx_iB prog_14_method_94_code aI_410_10 = true := by decide +kernel
def aI_410_11 : sx_IL := [(112, .goto 38, 3), (115, .iload_n 2, 1), (116, .bipush 11, 2), (118, .if_icmp .ne 11, 3), (121, .sipush 400, 3), (124, .iload_n 1, 1)]
theorem aJ_410_11 : sx_iB prog_14_method_94_code aI_410_11 = true := by decide +kernel
def aI_410_12 : sx_IL := [(125, .imul, 1), (126, .goto 24, 3), (129, .aload_n 0, 1), (130, .getfield 63, 3), (133, .bipush 24, 2), (135, .iload_n 1, 1)]
theorem aJ_410_12 : sx_iB prog_14_method_94_code aI_410_12 = true := by decide +kernel
def aI_410_13 : sx_IL := [(136, .imul, 1), (137, .bipush 8, 2), (139, .iload_n 2, 1), (140, .bipush 8, 2), (142, .isub, 1), (143, .imul, 1)]
theorem aJ_410_13 : sx_iB prog_14_method_94_code aI_410_13 = true := by decide +kernel
def aI_410_14 : sx_IL := [(144, .iadd, 1), (145, .iconst 2, 1), (146, .iload_n 3, 1), (147, .imul, 1), (148, .iadd, 1), (149, .iaload, 1)]
theorem aJ_410_14 : sx_iB prog_14_method_94_code aI_410_14 = true := by decide +kernel
def aI_410_15 : sx_IL := [(150, .istore 5, 2), (152, .iload_n 2, 1), (153, .ifCond .ne 16, 3), (156, .aload_n 0, 1), (157, .getfield 48, 3), (160, .iconst 2, 1)]
theorem aJ_410_15 : sx_iB prog_14_method_94_code aI_410_15 = true := by decide +kernel
def aI_410_16 : sx_IL := [(161, .iload_n 1, 1), (162, .imul, 1), (163, .iconst 1, 1), (164, .iadd, 1), (165, .iaload, 1), (166, .goto 59, 3)]
theorem aJ_410_16 : sx_iB prog_14_method_94_code aI_410_16 = true := by decide +kernel
def aI_410_17 : sx_IL := [(169, .iload_n 2, 1), (170, .iconst 1, 1), (171, .if_icmp .ne 16, 3), (174, .aload_n 0, 1), (175, .getfield 51, 3), (178, .iconst 2, 1)]
theorem aJ_410_17 : sx_iB prog_14_method_94_code aI_410_17 = true := by decide +kernel
def aI_410_18 : sx_IL := [(179, .iload_n 1, 1), (180, .imul, 1), (181, .iconst 1, 1), (182, .iadd, 1), (183, .iaload, 1), (184, .goto 41, 3)]
theorem aJ_410_18 : sx_iB prog_14_method_94_code aI_410_18 = true := by decide +kernel
def aI_410_19 : sx_IL := [(187, .iload_n 2, 1), (188, .bipush 11, 2), (190, .if_icmp .ne 12, 3), (193, .aload_n 0, 1), (194, .getfield 42, 3), (197, .iload_n 1, 1)]
theorem aJ_410_19 : sx_iB prog_14_method_94_code aI_410_19 = true := by decide +kernel
def aI_410_20 : sx_IL := [(198, .iaload, 1), (199, .goto 26, 3), (202, .aload_n 0, 1), (203, .getfield 63, 3), (206, .bipush 24, 2), (208, .iload_n 1, 1)]
theorem aJ_410_20 : sx_iB prog_14_method_94_code aI_410_20 = true := by decide +kernel
def aI_410_21 : sx_IL := [(209, .imul, 1), (210, .bipush 8, 2), (212, .iload_n 2, 1), (213, .bipush 8, 2), (215, .isub, 1), (216, .imul, 1)]
theorem aJ_410_21 : sx_iB prog_14_method_94_code aI_410_21 = true := by decide +kernel
def aI_410_22 : sx_IL := [(217, .iadd, 1), (218, .iconst 2, 1), (219, .iload_n 3, 1), (220, .imul, 1), (221, .iadd, 1), (222, .iconst 1, 1)]
theorem aJ_410_22 : sx_iB prog_14_method_94_code aI_410_22 = true := by decide +kernel
def aI_410_23 : sx_IL := [(223, .iadd, 1), (224, .iaload, 1), (225, .istore 6, 2), (227, .aload_n 0, 1), (228, .iload 6, 2), (230, .putfield 520, 3)]
theorem aJ_410_23 : sx_iB prog_14_method_94_code aI_410_23 = true := by decide +kernel
def aI_410_24 : sx_IL := [(233, .iconst 0, 1), (234, .istore 7, 2), (236, .iload 7, 2), (238, .iload 6, 2), (240, .if_icmp .ge 26, 3), (243, .aload_n 0, 1)]
theorem aJ_410_24 : sx_iB prog_14_method_94_code aI_410_24 = true := by decide +kernel
def aI_410_25 : sx_IL := [(244, .getfield 13, 3), (247, .iload 7, 2), (249, .aload_n 0, 1), (250, .getfield 39, 3), (253, .iload 5, 2), (255, .iload 7, 2)]
theorem aJ_410_25 : sx_iB prog_14_method_94_code aI_410_25 = true := by decide +kernel
def aI_410_26 : sx_IL := [(257, .iadd, 1), (258, .iaload, 1), (259, .iastore, 1), (260, .iinc 7 1, 3), (263, .goto (-27), 3), (266, .iload 6, 2)]
theorem aJ_410_26 : sx_iB prog_14_method_94_code aI_410_26 = true := by decide +kernel
def aI_410_27 : sx_IL := [(268, .ireturn, 1)]
theorem aJ_410_27 : sx_iB prog_14_method_94_code aI_410_27 = true := by decide +kernel
def aS_410 (pc : Nat) : sx_IL := (if pc < 144 then (if pc < 71 then (if pc < 37 then (if pc < 10 then aI_410_0 else (if pc < 23 then aI_410_1 else aI_410_2)) else (if pc < 52 then (if pc < 45 then aI_410_3 else aI_410_4) else (if pc < 62 then aI_410_5 else aI_410_6))) else (if pc < 104 then (if pc < 84 then aI_410_7 else (if pc < 94 then aI_410_8 else aI_410_9)) else (if pc < 125 then (if pc < 112 then aI_410_10 else aI_410_11) else (if pc < 136 then aI_410_12 else aI_410_13)))) else (if pc < 209 then (if pc < 169 then (if pc < 150 then aI_410_14 else (if pc < 161 then aI_410_15 else aI_410_16)) else (if pc < 187 then (if pc < 179 then aI_410_17 else aI_410_18) else (if pc < 198 then aI_410_19 else aI_410_20))) else (if pc < 233 then (if pc < 217 then aI_410_21 else (if pc < 223 then aI_410_22 else aI_410_23)) else (if pc < 257 then (if pc < 244 then aI_410_24 else aI_410_25) else (if pc < 268 then aI_410_26 else aI_410_27)))))
theorem aT_410 (pc : Nat) : sx_iOk prog_14_method_94_code (aS_410 pc) := (sx_ite (p := fun l => sx_iOk prog_14_method_94_code l) (sx_ite (p := fun l => sx_iOk prog_14_method_94_code l) (sx_ite (p := fun l => sx_iOk prog_14_method_94_code l) (sx_ite (p := fun l => sx_iOk prog_14_method_94_code l) (sx_iB_s aJ_410_0) (sx_ite (p := fun l => sx_iOk prog_14_method_94_code l) (sx_iB_s aJ_410_1) (sx_iB_s aJ_410_2))) (sx_ite (p := fun l => sx_iOk prog_14_method_94_code l) (sx_ite (p := fun l => sx_iOk prog_14_method_94_code l) (sx_iB_s aJ_410_3) (sx_iB_s aJ_410_4)) (sx_ite (p := fun l => sx_iOk prog_14_method_94_code l) (sx_iB_s aJ_410_5) (sx_iB_s aJ_410_6)))) (sx_ite (p := fun l => sx_iOk prog_14_method_94_code l) (sx_ite (p := fun l => sx_iOk prog_14_method_94_code l) (sx_iB_s aJ_410_7) (sx_ite (p := fun l => sx_iOk prog_14_method_94_code l) (sx_iB_s aJ_410_8) (sx_iB_s aJ_410_9))) (sx_ite (p := fun l => sx_iOk prog_14_method_94_code l) (sx_ite (p := fun l => sx_iOk prog_14_method_94_code l) (sx_iB_s aJ_410_10) (sx_iB_s aJ_410_11)) (sx_ite (p := fun l => sx_iOk prog_14_method_94_code l) (sx_iB_s aJ_410_12) (sx_iB_s aJ_410_13))))) (sx_ite (p := fun l => sx_iOk prog_14_method_94_code l) (sx_ite (p := fun l => sx_iOk prog_14_method_94_code l) (sx_ite (p := fun l => sx_iOk prog_14_method_94_code l) (sx_iB_s aJ_410_14) (sx_ite (p := fun l => sx_iOk prog_14_method_94_code l) (sx_iB_s aJ_410_15) (sx_iB_s aJ_410_16))) (sx_ite (p := fun l => sx_iOk prog_14_method_94_code l) (sx_ite (p := fun l => sx_iOk prog_14_method_94_code l) (sx_iB_s aJ_410_17) (sx_iB_s aJ_410_18)) (sx_ite (p := fun l => sx_iOk prog_14_method_94_code l) (sx_iB_s aJ_410_19) (sx_iB_s aJ_410_20)))) (sx_ite (p := fun l => sx_iOk prog_14_method_94_code l) (sx_ite (p := fun l => sx_iOk prog_14_method_94_code l) (sx_iB_s aJ_410_21) (sx_ite (p := fun l => sx_iOk prog_14_method_94_code l) (sx_iB_s aJ_410_22) (sx_iB_s aJ_410_23))) (sx_ite (p := fun l => sx_iOk prog_14_method_94_code l) (sx_ite (p := fun l => sx_iOk prog_14_method_94_code l) (sx_iB_s aJ_410_24) (sx_iB_s aJ_410_25)) (sx_ite (p := fun l => sx_iOk prog_14_method_94_code l) (sx_iB_s aJ_410_26) (sx_iB_s aJ_410_27))))))
def aW_410 : Nat → Option (Instr × Nat) := fun pc => sx_iF (aS_410 pc) pc
theorem aX_410 : ∀ pc i len, aW_410 pc = some (i, len) → decode aM_410.1.2.1 pc = .ok (i, len) := fun pc i len h => sx_iF_s (aT_410 pc) h
def aI_411_0 : sx_IL := [(0, .aload_n 0, 1), (1, .iload_n 1, 1), (2, .invokevirtual 840, 3), (5, .ifCond .eq 11, 3), (8, .aload_n 0, 1), (9, .iload_n 2, 1)]
theorem aJ_411_0 : sx_iB prog_14_method_102_code aI_411_0 = true := by decide +kernel
def aI_411_1 : sx_IL := [(10, .invokevirtual 840, 3), (13, .ifCond .ne 5, 3), (16, .iconst (-1), 1), (17, .ireturn, 1), (18, .aload_n 0, 1), (19, .iconst 0, 1)]
theorem aJ_411_1 : sx_iB prog_14_method_102_code aI_411_1 = true := by decide +kernel
def aI_411_2 : sx_IL := [(20, .putfield 855, 3), (23, .aload_n 0, 1), (24, .iload_n 1, 1), (25, .iload_n 2, 1), (26, .iload_n 3, 1), (27, .invokevirtual 863, 3)]
theorem aJ_411_2 : sx_iB prog_14_method_102_code aI_411_2 = true := by decide +kernel
def aI_411_3 : sx_IL := [(30, .ireturn, 1)]
theorem aJ_411_3 : sx_iB prog_14_method_102_code aI_411_3 = true := by decide +kernel
def aS_411 (pc : Nat) : sx_IL := (if pc < 20 then (if pc < 10 then aI_411_0 else aI_411_1) else (if pc < 30 then aI_411_2 else aI_411_3))
theorem aT_411 (pc : Nat) : sx_iOk prog_14_method_102_code (aS_411 pc) := (sx_ite (p := fun l => sx_iOk prog_14_method_102_code l) (sx_ite (p := fun l => sx_iOk prog_14_method_102_code l) (sx_iB_s aJ_411_0) (sx_iB_s aJ_411_1)) (sx_ite (p := fun l => sx_iOk prog_14_method_102_code l) (sx_iB_s aJ_411_2) (sx_iB_s aJ_411_3)))
def aW_411 : Nat → Option (Instr × Nat) := fun pc => sx_iF (aS_411 pc) pc
theorem aX_411 : ∀ pc i len, aW_411 pc = some (i, len) → decode aM_411.1.2.1 pc = .ok (i, len) := fun pc i len h => sx_iF_s (aT_411 pc) h
def aI_412_0 : sx_IL := [(0, .aload_n 0, 1), (1, .getfield 855, 3), (4, .ifCond .eq 8, 3), (7, .bipush 12, 2), (9, .goto 9, 3), (12, .aload_n 0, 1)]
theorem aJ_412_0 : sx_iB prog_14_method_101_code aI_412_0 = true := by decide +kernel
def aI_412_1 : sx_IL := [(13, .getfield 811, 3), (16, .iconst 1, 1), (17, .isub, 1), (18, .istore 4, 2), (20, .iload 4, 2), (22, .ifCond .lt 89, 3)]
theorem aJ_412_1 : sx_iB prog_14_method_101_code aI_412_1 = true := by decide +kernel
def aI_412_2 : sx_IL := [(25, .aload_n 0, 1), (26, .getfield 81, 3), (29, .bipush 8, 2), (31, .iload 4, 2), (33, .imul, 1), (34, .iconst 2, 1)]
theorem aJ_412_2 : sx_iB prog_14_method_101_code aI_412_2 = true := by decide +kernel
def aI_412_3 : sx_IL := [(35, .iadd, 1), (36, .iaload, 1), (37, .aload_n 0, 1), (38, .getfield 45, 3), (41, .bipush 8, 2), (43, .iload_n 1, 1)]
theorem aJ_412_3 : sx_iB prog_14_method_101_code aI_412_3 = true := by decide +kernel
def aI_412_4 : sx_IL := [(44, .imul, 1), (45, .iaload, 1), (46, .if_icmp .ne 40, 3), (49, .aload_n 0, 1), (50, .iload_n 1, 1), (51, .iload_n 2, 1)]
theorem aJ_412_4 : sx_iB prog_14_method_101_code aI_412_4 = true := by decide +kernel
def aI_412_5 : sx_IL := [(52, .iload_n 3, 1), (53, .aload_n 0, 1), (54, .getfield 81, 3), (57, .bipush 8, 2), (59, .iload 4, 2), (61, .imul, 1)]
theorem aJ_412_5 : sx_iB prog_14_method_101_code aI_412_5 = true := by decide +kernel
def aI_412_6 : sx_IL := [(62, .aload_n 0, 1), (63, .getfield 75, 3), (66, .invokevirtual 859, 3), (69, .ifCond .eq 17, 3), (72, .aload_n 0, 1), (73, .getfield 81, 3)]
theorem aJ_412_6 : sx_iB prog_14_method_101_code aI_412_6 = true := by decide +kernel
def aI_412_7 : sx_IL := [(76, .bipush 8, 2), (78, .iload 4, 2), (80, .imul, 1), (81, .bipush 7, 2), (83, .iadd, 1), (84, .iaload, 1)]
theorem aJ_412_7 : sx_iB prog_14_method_101_code aI_412_7 = true := by decide +kernel
def aI_412_8 : sx_IL := [(85, .ireturn, 1), (86, .iload 4, 2), (88, .bipush 12, 2), (90, .if_icmp .ne 12, 3), (93, .aload_n 0, 1), (94, .getfield 811, 3)]
theorem aJ_412_8 : sx_iB prog_14_method_101_code aI_412_8 = true := by decide +kernel
def aI_412_9 : sx_IL := [(97, .iconst 1, 1), (98, .isub, 1), (99, .goto 7, 3), (102, .iload 4, 2), (104, .iconst 1, 1), (105, .isub, 1)]
theorem aJ_412_9 : sx_iB prog_14_method_101_code aI_412_9 = true := by decide +kernel
def aI_412_10 : sx_IL := [(106, .istore 4, 2), (108, .goto (-88), 3), (111, .bipush (-4), 2), (113, .istore 4, 2), (115, .iconst 0, 1), (116, .istore 5, 2)]
theorem aJ_412_10 : sx_iB prog_14_method_101_code aI_412_10 = true := by decide +kernel
def aI_412_11 : sx_IL := [(118, .iload 5, 2), (120, .aload_n 0, 1), (121, .getfield 802, 3), (124, .if_icmp .ge 70, 3), (127, .iload 4, 2), (129, .bipush (-4), 2)]
theorem aJ_412_11 : sx_iB prog_14_method_101_code aI_412_11 = true := by decide +kernel
def aI_412_12 : sx_IL := [(131, .if_icmp .eq 30, 3), (134, .aload_n 0, 1), (135, .getfield 72, 3), (138, .bipush 8, 2), (140, .iload 5, 2), (142, .imul, 1)]
theorem aJ_412_12 : sx_iB prog_14_method_101_code aI_412_12 = true := by decide +kernel
def aI_412_13 : sx_IL := [(143, .iconst 2, 1), (144, .iadd, 1), (145, .iaload, 1), (146, .aload_n 0, 1), (147, .getfield 72, 3), (150, .bipush 8, 2)]
theorem aJ_412_13 : sx_iB prog_14_method_101_code aI_412_13 = true := by decide +kernel
def aI_412_14 : sx_IL := [(152, .iload 4, 2), (154, .imul, 1), (155, .iconst 2, 1), (156, .iadd, 1), (157, .iaload, 1), (158, .if_icmp .lt 30, 3)]
theorem aJ_412_14 : sx_iB prog_14_method_101_code aI_412_14 = true := by decide +kernel
def aI_412_15 : sx_IL := [(161, .aload_n 0, 1), (162, .iload_n 1, 1), (163, .iload_n 2, 1), (164, .iload_n 3, 1), (165, .aload_n 0, 1), (166, .getfield 72, 3)]
theorem aJ_412_15 : sx_iB prog_14_method_101_code aI_412_15 = true := by decide +kernel
def aI_412_16 : sx_IL := [(169, .bipush 8, 2), (171, .iload 5, 2), (173, .imul, 1), (174, .aload_n 0, 1), (175, .getfield 66, 3), (178, .invokevirtual 859, 3)]
theorem aJ_412_16 : sx_iB prog_14_method_101_code aI_412_16 = true := by decide +kernel
def aI_412_17 : sx_IL := [(181, .ifCond .eq 7, 3), (184, .iload 5, 2), (186, .istore 4, 2), (188, .iinc 5 1, 3), (191, .goto (-73), 3), (194, .iload 4, 2)]
theorem aJ_412_17 : sx_iB prog_14_method_101_code aI_412_17 = true := by decide +kernel
def aI_412_18 : sx_IL := [(196, .bipush (-4), 2), (198, .if_icmp .ne 5, 3), (201, .iconst 2, 1), (202, .ireturn, 1), (203, .aload_n 0, 1), (204, .getfield 72, 3)]
theorem aJ_412_18 : sx_iB prog_14_method_101_code aI_412_18 = true := by decide +kernel
def aI_412_19 : sx_IL := [(207, .bipush 8, 2), (209, .iload 4, 2), (211, .imul, 1), (212, .bipush 7, 2), (214, .iadd, 1), (215, .iaload, 1)]
theorem aJ_412_19 : sx_iB prog_14_method_101_code aI_412_19 = true := by decide +kernel
def aI_412_20 : sx_IL := [(216, .istore 5, 2), (218, .iconst 0, 1), (219, .istore 6, 2), (221, .iload 5, 2), (223, .istore 7, 2), (225, .iload 7, 2)]
theorem aJ_412_20 : sx_iB prog_14_method_101_code aI_412_20 = true := by decide +kernel
def aI_412_21 : sx_IL := [(227, .aload_n 0, 1), (228, .getfield 72, 3), (231, .bipush 8, 2), (233, .iload 4, 2), (235, .imul, 1), (236, .bipush 6, 2)]
theorem aJ_412_21 : sx_iB prog_14_method_101_code aI_412_21 = true := by decide +kernel
def aI_412_22 : sx_IL := [(238, .iadd, 1), (239, .iaload, 1), (240, .iconst 2, 1), (241, .isub, 1), (242, .if_icmp .ge 42, 3), (245, .iload 6, 2)]
theorem aJ_412_22 : sx_iB prog_14_method_101_code aI_412_22 = true := by decide +kernel
def aI_412_23 : sx_IL := [(247, .ifCond .ne 24, 3), (250, .aload_n 0, 1), (251, .getfield 66, 3), (254, .iload 7, 2), (256, .invokestatic 792, 3), (259, .aload_n 0, 1)]
theorem aJ_412_23 : sx_iB prog_14_method_101_code aI_412_23 = true := by decide +kernel
def aI_412_24 : sx_IL := [(260, .getfield 45, 3), (263, .bipush 8, 2), (265, .iload_n 1, 1), (266, .imul, 1), (267, .iaload, 1), (268, .if_icmp .ne 7, 3)]
theorem aJ_412_24 : sx_iB prog_14_method_101_code aI_412_24 = true := by decide +kernel
def aI_412_25 : sx_IL := [(271, .iconst 1, 1), (272, .goto 4, 3), (275, .iconst 0, 1), (276, .istore 6, 2), (278, .iinc 7 4, 3), (281, .goto (-56), 3)]
theorem aJ_412_25 : sx_iB prog_14_method_101_code aI_412_25 = true := by decide +kernel
def aI_412_26 : sx_IL := [(284, .iload 6, 2), (286, .ifCond .eq 7, 3), (289, .iconst 1, 1), (290, .goto 4, 3), (293, .iconst 0, 1), (294, .ireturn, 1)]
theorem aJ_412_26 : sx_iB prog_14_method_101_code aI_412_26 = true := by decide +kernel
def aS_412 (pc : Nat) : sx_IL := (if pc < 143 then (if pc < 62 then (if pc < 35 then (if pc < 13 then aI_412_0 else (if pc < 25 then aI_412_1 else aI_412_2)) else (if pc < 44 then aI_412_3 else (if pc < 52 then aI_412_4 else aI_412_5))) else (if pc < 97 then (if pc < 76 then aI_412_6 else (if pc < 85 then aI_412_7 else aI_412_8)) else (if pc < 118 then (if pc < 106 then aI_412_9 else aI_412_10) else (if pc < 131 then aI_412_11 else aI_412_12)))) else (if pc < 216 then (if pc < 169 then (if pc < 152 then aI_412_13 else (if pc < 161 then aI_412_14 else aI_412_15)) else (if pc < 196 then (if pc < 181 then aI_412_16 else aI_412_17) else (if pc < 207 then aI_412_18 else aI_412_19))) else (if pc < 247 then (if pc < 227 then aI_412_20 else (if pc < 238 then aI_412_21 else aI_412_22)) else (if pc < 271 then (if pc < 260 then aI_412_23 else aI_412_24) else (if pc < 284 then aI_412_25 else aI_412_26)))))
theorem aT_412 (pc : Nat) : sx_iOk prog_14_method_101_code (aS_412 pc) := (sx_ite (p := fun l => sx_iOk prog_14_method_101_code l) (sx_ite (p := fun l => sx_iOk prog_14_method_101_code l) (sx_ite (p := fun l => sx_iOk prog_14_method_101_code l) (sx_ite (p := fun l => sx_iOk prog_14_method_101_code l) (sx_iB_s aJ_412_0) (sx_ite (p := fun l => sx_iOk prog_14_method_101_code l) (sx_iB_s aJ_412_1) (sx_iB_s aJ_412_2))) (sx_ite (p := fun l => sx_iOk prog_14_method_101_code l) (sx_iB_s aJ_412_3) (sx_ite (p := fun l => sx_iOk prog_14_method_101_code l) (sx_iB_s aJ_412_4) (sx_iB_s aJ_412_5)))) (sx_ite (p := fun l => sx_iOk prog_14_method_101_code l) (sx_ite (p := fun l => sx_iOk prog_14_method_101_code l) (sx_iB_s aJ_412_6) (sx_ite (p := fun l => sx_iOk prog_14_method_101_code l) (sx_iB_s aJ_412_7) (sx_iB_s aJ_412_8))) (sx_ite (p := fun l => sx_iOk prog_14_method_101_code l) (sx_ite (p := fun l => sx_iOk prog_14_method_101_code l) (sx_iB_s aJ_412_9) (sx_iB_s aJ_412_10)) (sx_ite (p := fun l => sx_iOk prog_14_method_101_code l) (sx_iB_s aJ_412_11) (sx_iB_s aJ_412_12))))) (sx_ite (p := fun l => sx_iOk prog_14_method_101_code l) (sx_ite (p := fun l => sx_iOk prog_14_method_101_code l) (sx_ite (p := fun l => sx_iOk prog_14_method_101_code l) (sx_iB_s aJ_412_13) (sx_ite (p := fun l => sx_iOk prog_14_method_101_code l) (sx_iB_s aJ_412_14) (sx_iB_s aJ_412_15))) (sx_ite (p := fun l => sx_iOk prog_14_method_101_code l) (sx_ite (p := fun l => sx_iOk prog_14_method_101_code l) (sx_iB_s aJ_412_16) (sx_iB_s aJ_412_17)) (sx_ite (p := fun l => sx_iOk prog_14_method_101_code l) (sx_iB_s aJ_412_18) (sx_iB_s aJ_412_19)))) (sx_ite (p := fun l => sx_iOk prog_14_method_101_code l) (sx_ite (p := fun l => sx_iOk prog_14_method_101_code l) (sx_iB_s aJ_412_20) (sx_ite (p := fun l => sx_iOk prog_14_method_101_code l) (sx_iB_s aJ_412_21) (sx_iB_s aJ_412_22))) (sx_ite (p := fun l => sx_iOk prog_14_method_101_code l) (sx_ite (p := fun l => sx_iOk prog_14_method_101_code l) (sx_iB_s aJ_412_23) (sx_iB_s aJ_412_24)) (sx_ite (p := fun l => sx_iOk prog_14_method_101_code l) (sx_iB_s aJ_412_25) (sx_iB_s aJ_412_26))))))
def aW_412 : Nat → Option (Instr × Nat) := fun pc => sx_iF (aS_412 pc) pc
theorem aX_412 : ∀ pc i len, aW_412 pc = some (i, len) → decode aM_412.1.2.1 pc = .ok (i, len) := fun pc i len h => sx_iF_s (aT_412 pc) h
def aI_413_0 : sx_IL := [(0, .aload_n 0, 1), (1, .getfield 39, 3), (4, .aload_n 0, 1), (5, .getfield 48, 3), (8, .iconst 2, 1), (9, .iload_n 1, 1)]
theorem aJ_413_0 : sx_iB prog_14_method_100_code aI_413_0 = true := by decide +kernel
def aI_413_1 : sx_IL := [(10, .imul, 1), (11, .iaload, 1), (12, .aload_n 0, 1), (13, .getfield 48, 3), (16, .iconst 2, 1), (17, .iload_n 1, 1)]
theorem aJ_413_1 : sx_iB prog_14_method_100_code aI_413_1 = true := by decide +kernel
def aI_413_2 : sx_IL := [(18, .imul, 1), (19, .iconst 1, 1), (20, .iadd, 1), (21, .iaload, 1), (22, .aload 6, 2), (24, .aload 4, 2)]
theorem aJ_413_2 : sx_iB prog_14_method_100_code aI_413_2 = true := by decide +kernel
def aI_413_3 : sx_IL := [(26, .iload 5, 2), (28, .iaload, 1), (29, .aload 4, 2), (31, .iload 5, 2), (33, .iconst 1, 1), (34, .iadd, 1)]
theorem aJ_413_3 : sx_iB prog_14_method_100_code aI_413_3 = true := by decide +kernel
def aI_413_4 : sx_IL := [(35, .iaload, 1), (36, .invokestatic 847, 3), (39, .ifCond .eq 49, 3), (42, .iload_n 3, 1), (43, .i2l, 1), (44, .aload 4, 2)]
theorem aJ_413_4 : sx_iB prog_14_method_100_code aI_413_4 = true := by decide +kernel
def aI_413_5 : sx_IL := [(46, .iload 5, 2), (48, .iconst 3, 1), (49, .iadd, 1), (50, .iaload, 1), (51, .i2l, 1), (52, .aload 4, 2)]
theorem aJ_413_5 : sx_iB prog_14_method_100_code aI_413_5 = true := by decide +kernel
def aI_413_6 : sx_IL := [(54, .iload 5, 2), (56, .iconst 4, 1), (57, .iadd, 1), (58, .iaload, 1), (59, .i2l, 1), (60, .invokestatic 513, 3)]
theorem aJ_413_6 : sx_iB prog_14_method_100_code aI_413_6 = true := by decide +kernel
def aI_413_7 : sx_IL := [(63, .ifCond .eq 25, 3), (66, .aload_n 0, 1), (67, .getfield 45, 3), (70, .bipush 8, 2), (72, .iload_n 2, 1), (73, .imul, 1)]
theorem aJ_413_7 : sx_iB prog_14_method_100_code aI_413_7 = true := by decide +kernel
def aI_413_8 : sx_IL := [(74, .bipush 7, 2), (76, .iadd, 1), (77, .iaload, 1), (78, .bipush 8, 2), (80, .iand, 1), (81, .ifCond .eq 7, 3)]
theorem aJ_413_8 : sx_iB prog_14_method_100_code aI_413_8 = true := by decide +kernel
def aI_413_9 : sx_IL := [(84, .iconst 1, 1), (85, .goto 4, 3), (88, .iconst 0, 1), (89, .istore 7, 2), (91, .iload 7, 2), (93, .ifCond .ne 5, 3)]
theorem aJ_413_9 : sx_iB prog_14_method_100_code aI_413_9 = true := by decide +kernel
def aI_413_10 : sx_IL := [(96, .iconst 0, 1), (97, .ireturn, 1), (98, .iload 5, 2), (100, .bipush 8, 2), (102, .idiv, 1), (103, .sipush 400, 3)]
theorem aJ_413_10 : sx_iB prog_14_method_100_code aI_413_10 = true := by decide +kernel
def aI_413_11 : sx_IL := [(106, .imul, 1), (107, .istore 8, 2), (109, .aload 6, 2), (111, .iload 8, 2), (113, .iconst 1, 1), (114, .iadd, 1)]
theorem aJ_413_11 : sx_iB prog_14_method_100_code aI_413_11 = true := by decide +kernel
def aI_413_12 : sx_IL := [(115, .iaload, 1), (116, .sipush 128, 3), (119, .if_icmp .ge 7, 3), (122, .iconst 2, 1), (123, .goto 21, 3), (126, .aload 6, 2)]
theorem aJ_413_12 : sx_iB prog_14_method_100_code aI_413_12 = true := by decide +kernel
def aI_413_13 : sx_IL := [(128, .iload 8, 2), (130, .iconst 1, 1), (131, .iadd, 1), (132, .iaload, 1), (133, .sipush 129, 3), (136, .if_icmp .ne 7, 3)]
theorem aJ_413_13 : sx_iB prog_14_method_100_code aI_413_13 = true := by decide +kernel
def aI_413_14 : sx_IL := [(139, .iconst 3, 1), (140, .goto 4, 3), (143, .iconst 4, 1), (144, .istore 9, 2), (146, .aload_n 0, 1), (147, .aload 4, 2)]
theorem aJ_413_14 : sx_iB prog_14_method_100_code aI_413_14 = true := by decide +kernel
def aI_413_15 : sx_IL := [(149, .iload 5, 2), (151, .iconst 5, 1), (152, .iadd, 1), (153, .iaload, 1), (154, .aload_n 0, 1), (155, .getfield 45, 3)]
theorem aJ_413_15 : sx_iB prog_14_method_100_code aI_413_15 = true := by decide +kernel
def aI_413_16 : sx_IL := [(158, .bipush 8, 2), (160, .iload_n 2, 1), (161, .imul, 1), (162, .iconst 4, 1), (163, .iadd, 1), (164, .iaload, 1)]
theorem aJ_413_16 : sx_iB prog_14_method_100_code aI_413_16 = true := by decide +kernel
def aI_413_17 : sx_IL := [(165, .aload 6, 2), (167, .aload 4, 2), (169, .iload 5, 2), (171, .bipush 6, 2), (173, .iadd, 1), (174, .iaload, 1)]
theorem aJ_413_17 : sx_iB prog_14_method_100_code aI_413_17 = true := by decide +kernel
def aI_413_18 : sx_IL := [(175, .invokestatic 851, 3), (178, .aload 6, 2), (180, .iload 8, 2), (182, .iload 9, 2), (184, .iadd, 1), (185, .aload 4, 2)]
theorem aJ_413_18 : sx_iB prog_14_method_100_code aI_413_18 = true := by decide +kernel
def aI_413_19 : sx_IL := [(187, .iload 5, 2), (189, .bipush 6, 2), (191, .iadd, 1), (192, .iaload, 1), (193, .iconst 2, 1), (194, .isub, 1)]
theorem aJ_413_19 : sx_iB prog_14_method_100_code aI_413_19 = true := by decide +kernel
def aI_413_20 : sx_IL := [(195, .iload 8, 2), (197, .isub, 1), (198, .iload 9, 2), (200, .isub, 1), (201, .invokevirtual 679, 3), (204, .ireturn, 1)]
theorem aJ_413_20 : sx_iB prog_14_method_100_code aI_413_20 = true := by decide +kernel
def aS_413 (pc : Nat) : sx_IL := (if pc < 96 then (if pc < 46 then (if pc < 18 then (if pc < 10 then aI_413_0 else aI_413_1) else (if pc < 26 then aI_413_2 else (if pc < 35 then aI_413_3 else aI_413_4))) else (if pc < 63 then (if pc < 54 then aI_413_5 else aI_413_6) else (if pc < 74 then aI_413_7 else (if pc < 84 then aI_413_8 else aI_413_9)))) else (if pc < 149 then (if pc < 115 then (if pc < 106 then aI_413_10 else aI_413_11) else (if pc < 128 then aI_413_12 else (if pc < 139 then aI_413_13 else aI_413_14))) else (if pc < 175 then (if pc < 158 then aI_413_15 else (if pc < 165 then aI_413_16 else aI_413_17)) else (if pc < 187 then aI_413_18 else (if pc < 195 then aI_413_19 else aI_413_20)))))
theorem aT_413 (pc : Nat) : sx_iOk prog_14_method_100_code (aS_413 pc) := (sx_ite (p := fun l => sx_iOk prog_14_method_100_code l) (sx_ite (p := fun l => sx_iOk prog_14_method_100_code l) (sx_ite (p := fun l => sx_iOk prog_14_method_100_code l) (sx_ite (p := fun l => sx_iOk prog_14_method_100_code l) (sx_iB_s aJ_413_0) (sx_iB_s aJ_413_1)) (sx_ite (p := fun l => sx_iOk prog_14_method_100_code l) (sx_iB_s aJ_413_2) (sx_ite (p := fun l => sx_iOk prog_14_method_100_code l) (sx_iB_s aJ_413_3) (sx_iB_s aJ_413_4)))) (sx_ite (p := fun l => sx_iOk prog_14_method_100_code l) (sx_ite (p := fun l => sx_iOk prog_14_method_100_code l) (sx_iB_s aJ_413_5) (sx_iB_s aJ_413_6)) (sx_ite (p := fun l => sx_iOk prog_14_method_100_code l) (sx_iB_s aJ_413_7) (sx_ite (p := fun l => sx_iOk prog_14_method_100_code l) (sx_iB_s aJ_413_8) (sx_iB_s aJ_413_9))))) (sx_ite (p := fun l => sx_iOk prog_14_method_100_code l) (sx_ite (p := fun l => sx_iOk prog_14_method_100_code l) (sx_ite (p := fun l => sx_iOk prog_14_method_100_code l) (sx_iB_s aJ_413_10) (sx_iB_s aJ_413_11)) (sx_ite (p := fun l => sx_iOk prog_14_method_100_code l) (sx_iB_s aJ_413_12) (sx_ite (p := fun l => sx_iOk prog_14_method_100_code l) (sx_iB_s aJ_413_13) (sx_iB_s aJ_413_14)))) (sx_ite (p := fun l => sx_iOk prog_14_method_100_code l) (sx_ite (p := fun l => sx_iOk prog_14_method_100_code l) (sx_iB_s aJ_413_15) (sx_ite (p := fun l => sx_iOk prog_14_method_100_code l) (sx_iB_s aJ_413_16) (sx_iB_s aJ_413_17))) (sx_ite (p := fun l => sx_iOk prog_14_method_100_code l) (sx_iB_s aJ_413_18) (sx_ite (p := fun l => sx_iOk prog_14_method_100_code l) (sx_iB_s aJ_413_19) (sx_iB_s aJ_413_20))))))
def aW_413 : Nat → Option (Instr × Nat) := fun pc => sx_iF (aS_413 pc) pc
theorem aX_413 : ∀ pc i len, aW_413 pc = some (i, len) → decode aM_413.1.2.1 pc = .ok (i, len) := fun pc i len h => sx_iF_s (aT_413 pc) h
def aI_414_0 : sx_IL := [(0, .iload_n 2, 1), (1, .iload 5, 2), (3, .if_icmp .ne 7, 3), (6, .iconst 1, 1), (7, .goto 4, 3), (10, .iconst 0, 1)]
theorem aJ_414_0 : sx_iB prog_14_method_95_code aI_414_0 = true := by decide +kernel
def aI_414_1 : sx_IL := [(11, .istore 6, 2), (13, .iconst 0, 1), (14, .istore 7, 2), (16, .iload 6, 2), (18, .ifCond .eq 38, 3), (21, .iload 7, 2)]
theorem aJ_414_1 : sx_iB prog_14_method_95_code aI_414_1 = true := by decide +kernel
def aI_414_2 : sx_IL := [(23, .iload_n 2, 1), (24, .if_icmp .ge 32, 3), (27, .aload_n 0, 1), (28, .iload_n 1, 1), (29, .iload 7, 2), (31, .iadd, 1)]
theorem aJ_414_2 : sx_iB prog_14_method_95_code aI_414_2 = true := by decide +kernel
def aI_414_3 : sx_IL := [(32, .iaload, 1), (33, .aload_n 3, 1), (34, .iload 4, 2), (36, .iload 7, 2), (38, .iadd, 1), (39, .iaload, 1)]
theorem aJ_414_3 : sx_iB prog_14_method_95_code aI_414_3 = true := by decide +kernel
def aI_414_4 : sx_IL := [(40, .if_icmp .ne 7, 3), (43, .iconst 1, 1), (44, .goto 4, 3), (47, .iconst 0, 1), (48, .istore 6, 2), (50, .iinc 7 1, 3)]
theorem aJ_414_4 : sx_iB prog_14_method_95_code aI_414_4 = true := by decide +kernel
def aI_414_5 : sx_IL := [(53, .goto (-37), 3), (56, .iload 6, 2), (58, .ireturn, 1)]
theorem aJ_414_5 : sx_iB prog_14_method_95_code aI_414_5 = true := by decide +kernel
def aS_414 (pc : Nat) : sx_IL := (if pc < 32 then (if pc < 11 then aI_414_0 else (if pc < 23 then aI_414_1 else aI_414_2)) else (if pc < 40 then aI_414_3 else (if pc < 53 then aI_414_4 else aI_414_5)))
theorem aT_414 (pc : Nat) : sx_iOk prog_14_method_95_code (aS_414 pc) := (sx_ite (p := fun l => sx_iOk prog_14_method_95_code l) (sx_ite (p := fun l => sx_iOk prog_14_method_95_code l) (sx_iB_s aJ_414_0) (sx_ite (p := fun l => sx_iOk prog_14_method_95_code l) (sx_iB_s aJ_414_1) (sx_iB_s aJ_414_2))) (sx_ite (p := fun l => sx_iOk prog_14_method_95_code l) (sx_iB_s aJ_414_3) (sx_ite (p := fun l => sx_iOk prog_14_method_95_code l) (sx_iB_s aJ_414_4) (sx_iB_s aJ_414_5))))
def aW_414 : Nat → Option (Instr × Nat) := fun pc => sx_iF (aS_414 pc) pc
theorem aX_414 : ∀ pc i len, aW_414 pc = some (i, len) → decode aM_414.1.2.1 pc = .ok (i, len) := fun pc i len h => sx_iF_s (aT_414 pc) h
def aI_415_0 : sx_IL := [(0, .aload_n 0, 1), (1, .iload_n 1, 1), (2, .invokestatic 792, 3), (5, .i2l, 1), (6, .bipush 32, 2), (8, .lshl, 1)]
theorem aJ_415_0 : sx_iB prog_14_method_96_code aI_415_0 = true := by decide +kernel
def aI_415_1 : sx_IL := [(9, .aload_n 0, 1), (10, .iload_n 1, 1), (11, .iconst 4, 1), (12, .iadd, 1), (13, .invokestatic 792, 3), (16, .i2l, 1)]
theorem aJ_415_1 : sx_iB prog_14_method_96_code aI_415_1 = true := by decide +kernel
def aI_415_2 : sx_IL := [(17, .ldc2_w 542, 3), (20, .land, 1), (21, .lor, 1), (22, .lreturn, 1)]
theorem aJ_415_2 : sx_iB prog_14_method_96_code aI_415_2 = true := by decide +kernel
def aS_415 (pc : Nat) : sx_IL := (if pc < 9 then aI_415_0 else (if pc < 17 then aI_415_1 else aI_415_2))
theorem aT_415 (pc : Nat) : sx_iOk prog_14_method_96_code (aS_415 pc) := (sx_ite (p := fun l => sx_iOk prog_14_method_96_code l) (sx_iB_s aJ_415_0) (sx_ite (p := fun l => sx_iOk prog_14_method_96_code l) (sx_iB_s aJ_415_1) (sx_iB_s aJ_415_2)))
def aW_415 : Nat → Option (Instr × Nat) := fun pc => sx_iF (aS_415 pc) pc
theorem aX_415 : ∀ pc i len, aW_415 pc = some (i, len) → decode aM_415.1.2.1 pc = .ok (i, len) := fun pc i len h => sx_iF_s (aT_415 pc) h
def aI_416_0 : sx_IL := [(0, .aload_n 0, 1), (1, .iload_n 1, 1), (2, .invokevirtual 840, 3), (5, .ifCond .ne 5, 3), (8, .iconst (-1), 1), (9, .ireturn, 1)]
theorem aJ_416_0 : sx_iB prog_14_method_108_code aI_416_0 = true := by decide +kernel
def aI_416_1 : sx_IL := [(10, .aload_n 0, 1), (11, .getfield 891, 3), (14, .bipush 6, 2), (16, .if_icmp .ne 6, 3), (19, .bipush (-3), 2), (21, .ireturn, 1)]
theorem aJ_416_1 : sx_iB prog_14_method_108_code aI_416_1 = true := by decide +kernel
def aI_416_2 : sx_IL := [(22, .aload_n 0, 1), (23, .getfield 90, 3), (26, .aload_n 0, 1), (27, .getfield 891, 3), (30, .iload_n 1, 1), (31, .iastore, 1)]
theorem aJ_416_2 : sx_iB prog_14_method_108_code aI_416_2 = true := by decide +kernel
def aI_416_3 : sx_IL := [(32, .aload_n 0, 1), (33, .dup, 1), (34, .getfield 891, 3), (37, .iconst 1, 1), (38, .iadd, 1), (39, .putfield 891, 3)]
theorem aJ_416_3 : sx_iB prog_14_method_108_code aI_416_3 = true := by decide +kernel
def aI_416_4 : sx_IL := [(42, .aload_n 0, 1), (43, .getfield 891, 3), (46, .ireturn, 1)]
theorem aJ_416_4 : sx_iB prog_14_method_108_code aI_416_4 = true := by decide +kernel
def aS_416 (pc : Nat) : sx_IL := (if pc < 22 then (if pc < 10 then aI_416_0 else aI_416_1) else (if pc < 32 then aI_416_2 else (if pc < 42 then aI_416_3 else aI_416_4)))
theorem aT_416 (pc : Nat) : sx_iOk prog_14_method_108_code (aS_416 pc) := (sx_ite (p := fun l => sx_iOk prog_14_method_108_code l) (sx_ite (p := fun l => sx_iOk prog_14_method_108_code l) (sx_iB_s aJ_416_0) (sx_iB_s aJ_416_1)) (sx_ite (p := fun l => sx_iOk prog_14_method_108_code l) (sx_iB_s aJ_416_2) (sx_ite (p := fun l => sx_iOk prog_14_method_108_code l) (sx_iB_s aJ_416_3) (sx_iB_s aJ_416_4))))
def aW_416 : Nat → Option (Instr × Nat) := fun pc => sx_iF (aS_416 pc) pc
theorem aX_416 : ∀ pc i len, aW_416 pc = some (i, len) → decode aM_416.1.2.1 pc = .ok (i, len) := fun pc i len h => sx_iF_s (aT_416 pc) h
def aI_417_0 : sx_IL := [(0, .iload_n 1, 1), (1, .iconst (-1), 1), (2, .if_icmp .ne 10, 3), (5, .aload_n 0, 1), (6, .getfield 891, 3), (9, .goto 29, 3)]
theorem aJ_417_0 : sx_iB prog_14_method_109_code aI_417_0 = true := by decide +kernel
def aI_417_1 : sx_IL := [(12, .iload_n 1, 1), (13, .i2l, 1), (14, .lconst 0, 1), (15, .aload_n 0, 1), (16, .getfield 891, 3), (19, .iconst 1, 1)]
theorem aJ_417_1 : sx_iB prog_14_method_109_code aI_417_1 = true := by decide +kernel
def aI_417_2 : sx_IL := [(20, .isub, 1), (21, .i2l, 1), (22, .invokestatic 513, 3), (25, .ifCond .eq 12, 3), (28, .aload_n 0, 1), (29, .getfield 90, 3)]
theorem aJ_417_2 : sx_iB prog_14_method_109_code aI_417_2 = true := by decide +kernel
def aI_417_3 : sx_IL := [(32, .iload_n 1, 1), (33, .iaload, 1), (34, .goto 4, 3), (37, .iconst (-1), 1), (38, .ireturn, 1)]
theorem aJ_417_3 : sx_iB prog_14_method_109_code aI_417_3 = true := by decide +kernel
def aS_417 (pc : Nat) : sx_IL := (if pc < 20 then (if pc < 12 then aI_417_0 else aI_417_1) else (if pc < 32 then aI_417_2 else aI_417_3))
theorem aT_417 (pc : Nat) : sx_iOk prog_14_method_109_code (aS_417 pc) := (sx_ite (p := fun l => sx_iOk prog_14_method_109_code l) (sx_ite (p := fun l => sx_iOk prog_14_method_109_code l) (sx_iB_s aJ_417_0) (sx_iB_s aJ_417_1)) (sx_ite (p := fun l => sx_iOk prog_14_method_109_code l) (sx_iB_s aJ_417_2) (sx_iB_s aJ_417_3)))
def aW_417 : Nat → Option (Instr × Nat) := fun pc => sx_iF (aS_417 pc) pc
theorem aX_417 : ∀ pc i len, aW_417 pc = some (i, len) → decode aM_417.1.2.1 pc = .ok (i, len) := fun pc i len h => sx_iF_s (aT_417 pc) h
def aI_419_0 : sx_IL := [(0, .iload_n 1, 1), (1, .i2l, 1), (2, .lconst 0, 1), (3, .aload_n 0, 1), (4, .getfield 916, 3), (7, .iconst 1, 1)]
theorem aJ_419_0 : sx_iB prog_14_method_114_code aI_419_0 = true := by decide +kernel
def aI_419_1 : sx_IL := [(8, .isub, 1), (9, .i2l, 1), (10, .invokestatic 513, 3), (13, .ireturn, 1)]
theorem aJ_419_1 : sx_iB prog_14_method_114_code aI_419_1 = true := by decide +kernel
def aS_419 (pc : Nat) : sx_IL := (if pc < 8 then aI_419_0 else aI_419_1)
theorem aT_419 (pc : Nat) : sx_iOk prog_14_method_114_code (aS_419 pc) := (sx_ite (p := fun l => sx_iOk prog_14_method_114_code l) (sx_iB_s aJ_419_0) (sx_iB_s aJ_419_1))
def aW_419 : Nat → Option (Instr × Nat) := fun pc => sx_iF (aS_419 pc) pc
theorem aX_419 : ∀ pc i len, aW_419 pc = some (i, len) → decode aM_419.1.2.1 pc = .ok (i, len) := fun pc i len h => sx_iF_s (aT_419 pc) h
def aI_422_0 : sx_IL := [(0, .iconst 0, 1), (1, .istore_n 3, 1), (2, .iconst 0, 1), (3, .istore 4, 2), (5, .iload 4, 2), (7, .aload_n 0, 1)]
theorem aJ_422_0 : sx_iB prog_14_method_115_code aI_422_0 = true := by decide +kernel
def aI_422_1 : sx_IL := [(8, .getfield 114, 3), (11, .iload_n 1, 1), (12, .iaload, 1), (13, .if_icmp .ge 71, 3), (16, .aload_n 0, 1), (17, .getfield 111, 3)]
theorem aJ_422_1 : sx_iB prog_14_method_115_code aI_422_1 = true := by decide +kernel
def aI_422_2 : sx_IL := [(20, .bipush 30, 2), (22, .iload_n 1, 1), (23, .imul, 1), (24, .iload 4, 2), (26, .iadd, 1), (27, .iaload, 1)]
theorem aJ_422_2 : sx_iB prog_14_method_115_code aI_422_2 = true := by decide +kernel
def aI_422_3 : sx_IL := [(28, .istore 5, 2), (30, .iload_n 3, 1), (31, .ifCond .ne 41, 3), (34, .aload_n 0, 1), (35, .getfield 39, 3), (38, .sipush 400, 3)]
theorem aJ_422_3 : sx_iB prog_14_method_115_code aI_422_3 = true := by decide +kernel
def aI_422_4 : sx_IL := [(41, .iload 5, 2), (43, .imul, 1), (44, .aload_n 0, 1), (45, .getfield 42, 3), (48, .iload 5, 2), (50, .iaload, 1)]
theorem aJ_422_4 : sx_iB prog_14_method_115_code aI_422_4 = true := by decide +kernel
def aI_422_5 : sx_IL := [(51, .aload_n 0, 1), (52, .getfield 39, 3), (55, .sipush 400, 3), (58, .iload_n 2, 1), (59, .imul, 1), (60, .aload_n 0, 1)]
theorem aJ_422_5 : sx_iB prog_14_method_115_code aI_422_5 = true := by decide +kernel
def aI_422_6 : sx_IL := [(61, .getfield 42, 3), (64, .iload_n 2, 1), (65, .iaload, 1), (66, .invokestatic 847, 3), (69, .ifCond .eq 7, 3), (72, .iconst 1, 1)]
theorem aJ_422_6 : sx_iB prog_14_method_115_code aI_422_6 = true := by decide +kernel
def aI_422_7 : sx_IL := [(73, .goto 4, 3), (76, .iconst 0, 1), (77, .istore_n 3, 1), (78, .iinc 4 1, 3), (81, .goto (-76), 3), (84, .iload_n 3, 1)]
theorem aJ_422_7 : sx_iB prog_14_method_115_code aI_422_7 = true := by decide +kernel
def aI_422_8 : sx_IL := [(85, .ireturn, 1)]
theorem aJ_422_8 : sx_iB prog_14_method_115_code aI_422_8 = true := by decide +kernel
def aS_422 (pc : Nat) : sx_IL := (if pc < 41 then (if pc < 20 then (if pc < 8 then aI_422_0 else aI_422_1) else (if pc < 28 then aI_422_2 else aI_422_3)) else (if pc < 61 then (if pc < 51 then aI_422_4 else aI_422_5) else (if pc < 73 then aI_422_6 else (if pc < 85 then aI_422_7 else aI_422_8))))
theorem aT_422 (pc : Nat) : sx_iOk prog_14_method_115_code (aS_422 pc) := (sx_ite (p := fun l => sx_iOk prog_14_method_115_code l) (sx_ite (p := fun l => sx_iOk prog_14_method_115_code l) (sx_ite (p := fun l => sx_iOk prog_14_method_115_code l) (sx_iB_s aJ_422_0) (sx_iB_s aJ_422_1)) (sx_ite (p := fun l => sx_iOk prog_14_method_115_code l) (sx_iB_s aJ_422_2) (sx_iB_s aJ_422_3))) (sx_ite (p := fun l => sx_iOk prog_14_method_115_code l) (sx_ite (p := fun l => sx_iOk prog_14_method_115_code l) (sx_iB_s aJ_422_4) (sx_iB_s aJ_422_5)) (sx_ite (p := fun l => sx_iOk prog_14_method_115_code l) (sx_iB_s aJ_422_6) (sx_ite (p := fun l => sx_iOk prog_14_method_115_code l) (sx_iB_s aJ_422_7) (sx_iB_s aJ_422_8)))))
def aW_422 : Nat → Option (Instr × Nat) := fun pc => sx_iF (aS_422 pc) pc
theorem aX_422 : ∀ pc i len, aW_422 pc = some (i, len) → decode aM_422.1.2.1 pc = .ok (i, len) := fun pc i len h => sx_iF_s (aT_422 pc) h
def aI_432_0 : sx_IL := [(0, .iload_n 1, 1), (1, .i2l, 1), (2, .lconst 0, 1), (3, .lconst 1, 1), (4, .invokestatic 513, 3), (7, .ifCond .ne 5, 3)]
theorem aJ_432_0 : sx_iB prog_14_method_116_code aI_432_0 = true := by decide +kernel
def aI_432_1 : sx_IL := [(10, .iconst (-1), 1), (11, .ireturn, 1), (12, .aload_n 0, 1), (13, .getfield 916, 3), (16, .bipush 8, 2), (18, .if_icmp .ne 6, 3)]
theorem aJ_432_1 : sx_iB prog_14_method_116_code aI_432_1 = true := by decide +kernel
def aI_432_2 : sx_IL := [(21, .bipush (-3), 2), (23, .ireturn, 1), (24, .aload_n 0, 1), (25, .getfield 916, 3), (28, .istore_n 2, 1), (29, .aload_n 0, 1)]
theorem aJ_432_2 : sx_iB prog_14_method_116_code aI_432_2 = true := by decide +kernel
def aI_432_3 : sx_IL := [(30, .getfield 93, 3), (33, .iload_n 2, 1), (34, .iload_n 1, 1), (35, .iastore, 1), (36, .iconst 0, 1), (37, .istore_n 3, 1)]
theorem aJ_432_3 : sx_iB prog_14_method_116_code aI_432_3 = true := by decide +kernel
def aI_432_4 : sx_IL := [(38, .iload_n 3, 1), (39, .iconst 3, 1), (40, .if_icmp .ge 64, 3), (43, .aload_n 0, 1), (44, .getfield 99, 3), (47, .iconst 3, 1)]
theorem aJ_432_4 : sx_iB prog_14_method_116_code aI_432_4 = true := by decide +kernel
def aI_432_5 : sx_IL := [(48, .iload_n 2, 1), (49, .imul, 1), (50, .iload_n 3, 1), (51, .iadd, 1), (52, .iload_n 3, 1), (53, .iconst 2, 1)]
theorem aJ_432_5 : sx_iB prog_14_method_116_code aI_432_5 = true := by decide +kernel
def aI_432_6 : sx_IL := [(54, .if_icmp .ne 7, 3), (57, .iconst 2, 1), (58, .goto 4, 3), (61, .iconst 3, 1), (62, .iastore, 1), (63, .iconst 0, 1)]
theorem aJ_432_6 : sx_iB prog_14_method_116_code aI_432_6 = true := by decide +kernel
def aI_432_7 : sx_IL := [(64, .istore 4, 2), (66, .iload 4, 2), (68, .iconst 3, 1), (69, .if_icmp .ge 29, 3), (72, .aload_n 0, 1), (73, .getfield 96, 3)]
theorem aJ_432_7 : sx_iB prog_14_method_116_code aI_432_7 = true := by decide +kernel
def aI_432_8 : sx_IL := [(76, .bipush 12, 2), (78, .iload_n 2, 1), (79, .imul, 1), (80, .iconst 4, 1), (81, .iload_n 3, 1), (82, .imul, 1)]
theorem aJ_432_8 : sx_iB prog_14_method_116_code aI_432_8 = true := by decide +kernel
def aI_432_9 : sx_IL := [(83, .iadd, 1), (84, .iload 4, 2), (86, .iadd, 1), (87, .iload 4, 2), (89, .iconst 1, 1), (90, .iadd, 1)]
theorem aJ_432_9 : sx_iB prog_14_method_116_code aI_432_9 = true := by decide +kernel
def aI_432_10 : sx_IL := [(91, .iastore, 1), (92, .iinc 4 1, 3), (95, .goto (-29), 3), (98, .iinc 3 1, 3), (101, .goto (-63), 3), (104, .aload_n 0, 1)]
theorem aJ_432_10 : sx_iB prog_14_method_116_code aI_432_10 = true := by decide +kernel
def aI_432_11 : sx_IL := [(105, .getfield 102, 3), (108, .bipush 8, 2), (110, .iload_n 2, 1), (111, .imul, 1), (112, .iconst 2, 1), (113, .iadd, 1)]
theorem aJ_432_11 : sx_iB prog_14_method_116_code aI_432_11 = true := by decide +kernel
def aI_432_12 : sx_IL := [(114, .iconst 1, 1), (115, .iastore, 1), (116, .aload_n 0, 1), (117, .getfield 102, 3), (120, .bipush 8, 2), (122, .iload_n 2, 1)]
theorem aJ_432_12 : sx_iB prog_14_method_116_code aI_432_12 = true := by decide +kernel
def aI_432_13 : sx_IL := [(123, .imul, 1), (124, .iconst 3, 1), (125, .iadd, 1), (126, .bipush 60, 2), (128, .iastore, 1), (129, .aload_n 0, 1)]
theorem aJ_432_13 : sx_iB prog_14_method_116_code aI_432_13 = true := by decide +kernel
def aI_432_14 : sx_IL := [(130, .getfield 102, 3), (133, .bipush 8, 2), (135, .iload_n 2, 1), (136, .imul, 1), (137, .iconst 5, 1), (138, .iadd, 1)]
theorem aJ_432_14 : sx_iB prog_14_method_116_code aI_432_14 = true := by decide +kernel
def aI_432_15 : sx_IL := [(139, .iconst 1, 1), (140, .iastore, 1), (141, .aload_n 0, 1), (142, .getfield 102, 3), (145, .bipush 8, 2), (147, .iload_n 2, 1)]
theorem aJ_432_15 : sx_iB prog_14_method_116_code aI_432_15 = true := by decide +kernel
def aI_432_16 : sx_IL := [(148, .imul, 1), (149, .bipush 7, 2), (151, .iadd, 1), (152, .iconst 2, 1), (153, .iastore, 1), (154, .aload_n 0, 1)]
theorem aJ_432_16 : sx_iB prog_14_method_116_code aI_432_16 = true := by decide +kernel
def aI_432_17 : sx_IL := [(155, .dup, 1), (156, .getfield 916, 3), (159, .iconst 1, 1), (160, .iadd, 1), (161, .putfield 916, 3), (164, .iload_n 2, 1)]
theorem aJ_432_17 : sx_iB prog_14_method_116_code aI_432_17 = true := by decide +kernel
def aI_432_18 : sx_IL := [(165, .ireturn, 1)]
theorem aJ_432_18 : sx_iB prog_14_method_116_code aI_432_18 = true := by decide +kernel
def aS_432 (pc : Nat) : sx_IL := (if pc < 83 then (if pc < 38 then (if pc < 21 then (if pc < 10 then aI_432_0 else aI_432_1) else (if pc < 30 then aI_432_2 else aI_432_3)) else (if pc < 54 then (if pc < 48 then aI_432_4 else aI_432_5) else (if pc < 64 then aI_432_6 else (if pc < 76 then aI_432_7 else aI_432_8)))) else (if pc < 130 then (if pc < 105 then (if pc < 91 then aI_432_9 else aI_432_10) else (if pc < 114 then aI_432_11 else (if pc < 123 then aI_432_12 else aI_432_13))) else (if pc < 148 then (if pc < 139 then aI_432_14 else aI_432_15) else (if pc < 155 then aI_432_16 else (if pc < 165 then aI_432_17 else aI_432_18)))))
theorem aT_432 (pc : Nat) : sx_iOk prog_14_method_116_code (aS_432 pc) := (sx_ite (p := fun l => sx_iOk prog_14_method_116_code l) (sx_ite (p := fun l => sx_iOk prog_14_method_116_code l) (sx_ite (p := fun l => sx_iOk prog_14_method_116_code l) (sx_ite (p := fun l => sx_iOk prog_14_method_116_code l) (sx_iB_s aJ_432_0) (sx_iB_s aJ_432_1)) (sx_ite (p := fun l => sx_iOk prog_14_method_116_code l) (sx_iB_s aJ_432_2) (sx_iB_s aJ_432_3))) (sx_ite (p := fun l => sx_iOk prog_14_method_116_code l) (sx_ite (p := fun l => sx_iOk prog_14_method_116_code l) (sx_iB_s aJ_432_4) (sx_iB_s aJ_432_5)) (sx_ite (p := fun l => sx_iOk prog_14_method_116_code l) (sx_iB_s aJ_432_6) (sx_ite (p := fun l => sx_iOk prog_14_method_116_code l) (sx_iB_s aJ_432_7) (sx_iB_s aJ_432_8))))) (sx_ite (p := fun l => sx_iOk prog_14_method_116_code l) (sx_ite (p := fun l => sx_iOk prog_14_method_116_code l) (sx_ite (p := fun l => sx_iOk prog_14_method_116_code l) (sx_iB_s aJ_432_9) (sx_iB_s aJ_432_10)) (sx_ite (p := fun l => sx_iOk prog_14_method_116_code l) (sx_iB_s aJ_432_11) (sx_ite (p := fun l => sx_iOk prog_14_method_116_code l) (sx_iB_s aJ_432_12) (sx_iB_s aJ_432_13)))) (sx_ite (p := fun l => sx_iOk prog_14_method_116_code l) (sx_ite (p := fun l => sx_iOk prog_14_method_116_code l) (sx_iB_s aJ_432_14) (sx_iB_s aJ_432_15)) (sx_ite (p := fun l => sx_iOk prog_14_method_116_code l) (sx_iB_s aJ_432_16) (sx_ite (p := fun l => sx_iOk prog_14_method_116_code l) (sx_iB_s aJ_432_17) (sx_iB_s aJ_432_18))))))
def aW_432 : Nat → Option (Instr × Nat) := fun pc => sx_iF (aS_432 pc) pc
theorem aX_432 : ∀ pc i len, aW_432 pc = some (i, len) → decode aM_432.1.2.1 pc = .ok (i, len) := fun pc i len h => sx_iF_s (aT_432 pc) h
def aI_433_0 : sx_IL := [(0, .aload_n 0, 1), (1, .iload_n 1, 1), (2, .invokevirtual 894, 3), (5, .ifCond .eq 15, 3), (8, .iload_n 2, 1), (9, .i2l, 1)]
theorem aJ_433_0 : sx_iB prog_14_method_117_code aI_433_0 = true := by decide +kernel
def aI_433_1 : sx_IL := [(10, .lconst 0, 1), (11, .ldc2_w 631, 3), (14, .invokestatic 513, 3), (17, .ifCond .ne 5, 3), (20, .iconst (-1), 1), (21, .ireturn, 1)]
theorem aJ_433_1 : sx_iB prog_14_method_117_code aI_433_1 = true := by decide +kernel
def aI_433_2 : sx_IL := [(22, .iconst 0, 1), (23, .istore 4, 2), (25, .iconst 0, 1), (26, .istore 5, 2), (28, .iconst 1, 1), (29, .istore 6, 2)]
theorem aJ_433_2 : sx_iB prog_14_method_117_code aI_433_2 = true := by decide +kernel
def aI_433_3 : sx_IL := [(31, .iconst 3, 1), (32, .istore 7, 2), (34, .iload 7, 2), (36, .ifCond .lt 82, 3), (39, .iload_n 3, 1), (40, .bipush 8, 2)]
theorem aJ_433_3 : sx_iB prog_14_method_117_code aI_433_3 = true := by decide +kernel
def aI_433_4 : sx_IL := [(42, .iload 7, 2), (44, .imul, 1), (45, .iushr, 1), (46, .sipush 255, 3), (49, .iand, 1), (50, .istore 8, 2)]
theorem aJ_433_4 : sx_iB prog_14_method_117_code aI_433_4 = true := by decide +kernel
def aI_433_5 : sx_IL := [(52, .iload 8, 2), (54, .ifCond .eq 58, 3), (57, .iload 6, 2), (59, .ifCond .eq 35, 3), (62, .iload 8, 2), (64, .iload_n 2, 1)]
theorem aJ_433_5 : sx_iB prog_14_method_117_code aI_433_5 = true := by decide +kernel
def aI_433_6 : sx_IL := [(65, .iconst 2, 1), (66, .if_icmp .ne 7, 3), (69, .iconst 2, 1), (70, .goto 4, 3), (73, .iconst 3, 1), (74, .if_icmp .gt 20, 3)]
theorem aJ_433_6 : sx_iB prog_14_method_117_code aI_433_6 = true := by decide +kernel
def aI_433_7 : sx_IL := [(77, .iload 5, 2), (79, .iload 8, 2), (81, .bipush 7, 2), (83, .iand, 1), (84, .ishr, 1), (85, .iconst 1, 1)]
theorem aJ_433_7 : sx_iB prog_14_method_117_code aI_433_7 = true := by decide +kernel
def aI_433_8 : sx_IL := [(86, .iand, 1), (87, .ifCond .ne 7, 3), (90, .iconst 1, 1), (91, .goto 4, 3), (94, .iconst 0, 1), (95, .istore 6, 2)]
theorem aJ_433_8 : sx_iB prog_14_method_117_code aI_433_8 = true := by decide +kernel
def aI_433_9 : sx_IL := [(97, .iload 5, 2), (99, .iconst 1, 1), (100, .iload 8, 2), (102, .bipush 7, 2), (104, .iand, 1), (105, .ishl, 1)]
theorem aJ_433_9 : sx_iB prog_14_method_117_code aI_433_9 = true := by decide +kernel
def aI_433_10 : sx_IL := [(106, .ior, 1), (107, .istore 5, 2), (109, .iinc 4 1, 3), (112, .iinc 7 (-1), 3), (115, .goto (-81), 3), (118, .iload 6, 2)]
theorem aJ_433_10 : sx_iB prog_14_method_117_code aI_433_10 = true := by decide +kernel
def aI_433_11 : sx_IL := [(120, .ifCond .eq 8, 3), (123, .iload 4, 2), (125, .ifCond .ne 5, 3), (128, .iconst (-1), 1), (129, .ireturn, 1), (130, .iconst 0, 1)]
theorem aJ_433_11 : sx_iB prog_14_method_117_code aI_433_11 = true := by decide +kernel
def aI_433_12 : sx_IL := [(131, .istore 4, 2), (133, .iconst 3, 1), (134, .istore 7, 2), (136, .iload 7, 2), (138, .ifCond .lt 48, 3), (141, .iload_n 3, 1)]
theorem aJ_433_12 : sx_iB prog_14_method_117_code aI_433_12 = true := by decide +kernel
def aI_433_13 : sx_IL := [(142, .bipush 8, 2), (144, .iload 7, 2), (146, .imul, 1), (147, .iushr, 1), (148, .sipush 255, 3), (151, .iand, 1)]
theorem aJ_433_13 : sx_iB prog_14_method_117_code aI_433_13 = true := by decide +kernel
def aI_433_14 : sx_IL := [(152, .istore 8, 2), (154, .iload 8, 2), (156, .ifCond .eq 24, 3), (159, .aload_n 0, 1), (160, .getfield 96, 3), (163, .bipush 12, 2)]
theorem aJ_433_14 : sx_iB prog_14_method_117_code aI_433_14 = true := by decide +kernel
def aI_433_15 : sx_IL := [(165, .iload_n 1, 1), (166, .imul, 1), (167, .iconst 4, 1), (168, .iload_n 2, 1), (169, .imul, 1), (170, .iadd, 1)]
theorem aJ_433_15 : sx_iB prog_14_method_117_code aI_433_15 = true := by decide +kernel
def aI_433_16 : sx_IL := [(171, .iload 4, 2), (173, .iadd, 1), (174, .iload 8, 2), (176, .iastore, 1), (177, .iinc 4 1, 3), (180, .iinc 7 (-1), 3)]
theorem aJ_433_16 : sx_iB prog_14_method_117_code aI_433_16 = true := by decide +kernel
def aI_433_17 : sx_IL := [(183, .goto (-47), 3), (186, .aload_n 0, 1), (187, .getfield 99, 3), (190, .iconst 3, 1), (191, .iload_n 1, 1), (192, .imul, 1)]
theorem aJ_433_17 : sx_iB prog_14_method_117_code aI_433_17 = true := by decide +kernel
def aI_433_18 : sx_IL := [(193, .iload_n 2, 1), (194, .iadd, 1), (195, .iload 4, 2), (197, .iastore, 1), (198, .iload 4, 2), (200, .ireturn, 1)]
theorem aJ_433_18 : sx_iB prog_14_method_117_code aI_433_18 = true := by decide +kernel
def aS_433 (pc : Nat) : sx_IL := (if pc < 97 then (if pc < 42 then (if pc < 22 then (if pc < 10 then aI_433_0 else aI_433_1) else (if pc < 31 then aI_433_2 else aI_433_3)) else (if pc < 65 then (if pc < 52 then aI_433_4 else aI_433_5) else (if pc < 77 then aI_433_6 else (if pc < 86 then aI_433_7 else aI_433_8)))) else (if pc < 152 then (if pc < 120 then (if pc < 106 then aI_433_9 else aI_433_10) else (if pc < 131 then aI_433_11 else (if pc < 142 then aI_433_12 else aI_433_13))) else (if pc < 171 then (if pc < 165 then aI_433_14 else aI_433_15) else (if pc < 183 then aI_433_16 else (if pc < 193 then aI_433_17 else aI_433_18)))))
theorem aT_433 (pc : Nat) : sx_iOk prog_14_method_117_code (aS_433 pc) := (sx_ite (p := fun l => sx_iOk prog_14_method_117_code l) (sx_ite (p := fun l => sx_iOk prog_14_method_117_code l) (sx_ite (p := fun l => sx_iOk prog_14_method_117_code l) (sx_ite (p := fun l => sx_iOk prog_14_method_117_code l) (sx_iB_s aJ_433_0) (sx_iB_s aJ_433_1)) (sx_ite (p := fun l => sx_iOk prog_14_method_117_code l) (sx_iB_s aJ_433_2) (sx_iB_s aJ_433_3))) (sx_ite (p := fun l => sx_iOk prog_14_method_117_code l) (sx_ite (p := fun l => sx_iOk prog_14_method_117_code l) (sx_iB_s aJ_433_4) (sx_iB_s aJ_433_5)) (sx_ite (p := fun l => sx_iOk prog_14_method_117_code l) (sx_iB_s aJ_433_6) (sx_ite (p := fun l => sx_iOk prog_14_method_117_code l) (sx_iB_s aJ_433_7) (sx_iB_s aJ_433_8))))) (sx_ite (p := fun l => sx_iOk prog_14_method_117_code l) (sx_ite (p := fun l => sx_iOk prog_14_method_117_code l) (sx_ite (p := fun l => sx_iOk prog_14_method_117_code l) (sx_iB_s aJ_433_9) (sx_iB_s aJ_433_10)) (sx_ite (p := fun l => sx_iOk prog_14_method_117_code l) (sx_iB_s aJ_433_11) (sx_ite (p := fun l => sx_iOk prog_14_method_117_code l) (sx_iB_s aJ_433_12) (sx_iB_s aJ_433_13)))) (sx_ite (p := fun l => sx_iOk prog_14_method_117_code l) (sx_ite (p := fun l => sx_iOk prog_14_method_117_code l) (sx_iB_s aJ_433_14) (sx_iB_s aJ_433_15)) (sx_ite (p := fun l => sx_iOk prog_14_method_117_code l) (sx_iB_s aJ_433_16) (sx_ite (p := fun l => sx_iOk prog_14_method_117_code l) (sx_iB_s aJ_433_17) (sx_iB_s aJ_433_18))))))
def aW_433 : Nat → Option (Instr × Nat) := fun pc => sx_iF (aS_433 pc) pc
theorem aX_433 : ∀ pc i len, aW_433 pc = some (i, len) → decode aM_433.1.2.1 pc = .ok (i, len) := fun pc i len h => sx_iF_s (aT_433 pc) h
def aI_434_0 : sx_IL := [(0, .aload_n 0, 1), (1, .iload_n 1, 1), (2, .invokevirtual 894, 3), (5, .ifCond .eq 15, 3), (8, .iload_n 2, 1), (9, .i2l, 1)]
theorem aJ_434_0 : sx_iB prog_14_method_119_code aI_434_0 = true := by decide +kernel
def aI_434_1 : sx_IL := [(10, .lconst 0, 1), (11, .ldc2_w 629, 3), (14, .invokestatic 513, 3), (17, .ifCond .ne 5, 3), (20, .iconst (-1), 1), (21, .ireturn, 1)]
theorem aJ_434_1 : sx_iB prog_14_method_119_code aI_434_1 = true := by decide +kernel
def aI_434_2 : sx_IL := [(22, .iload_n 2, 1), (23, .ifCond .eq 36, 3), (26, .iload_n 2, 1), (27, .bipush 6, 2), (29, .if_icmp .eq 30, 3), (32, .iload_n 2, 1)]
theorem aJ_434_2 : sx_iB prog_14_method_119_code aI_434_2 = true := by decide +kernel
def aI_434_3 : sx_IL := [(33, .iconst 5, 1), (34, .if_icmp .ne 15, 3), (37, .aload_n 0, 1), (38, .getfield 93, 3), (41, .iload_n 1, 1), (42, .iaload, 1)]
theorem aJ_434_3 : sx_iB prog_14_method_119_code aI_434_3 = true := by decide +kernel
def aI_434_4 : sx_IL := [(43, .ifCond .ne 20, 3), (46, .goto 13, 3), (49, .aload_n 0, 1), (50, .getfield 93, 3), (53, .iload_n 1, 1), (54, .iaload, 1)]
theorem aJ_434_4 : sx_iB prog_14_method_119_code aI_434_4 = true := by decide +kernel
def aI_434_5 : sx_IL := [(55, .iconst 1, 1), (56, .if_icmp .ne 7, 3), (59, .iconst 1, 1), (60, .goto 4, 3), (63, .iconst 0, 1), (64, .istore 4, 2)]
theorem aJ_434_5 : sx_iB prog_14_method_119_code aI_434_5 = true := by decide +kernel
def aI_434_6 : sx_IL := [(66, .iload_n 2, 1), (67, .iconst 1, 1), (68, .if_icmp .ne 7, 3), (71, .iconst 2, 1), (72, .goto 46, 3), (75, .iload_n 2, 1)]
theorem aJ_434_6 : sx_iB prog_14_method_119_code aI_434_6 = true := by decide +kernel
def aI_434_7 : sx_IL := [(76, .iconst 2, 1), (77, .if_icmp .ne 7, 3), (80, .iconst 3, 1), (81, .goto 37, 3), (84, .iload_n 2, 1), (85, .iconst 3, 1)]
theorem aJ_434_7 : sx_iB prog_14_method_119_code aI_434_7 = true := by decide +kernel
def aI_434_8 : sx_IL := [(86, .if_icmp .ne 9, 3), (89, .sipush 10000, 3), (92, .goto 26, 3), (95, .iload_n 2, 1), (96, .iconst 4, 1), (97, .if_icmp .ne 9, 3)]
theorem aJ_434_8 : sx_iB prog_14_method_119_code aI_434_8 = true := by decide +kernel
def aI_434_9 : sx_IL := [(100, .sipush 400, 3), (103, .goto 15, 3), (106, .iload_n 2, 1), (107, .bipush 7, 2), (109, .if_icmp .ne 8, 3), (112, .bipush 100, 2)]
theorem aJ_434_9 : sx_iB prog_14_method_119_code aI_434_9 = true := by decide +kernel
def aI_434_10 : sx_IL := [(114, .goto 4, 3), (117, .iconst 1, 1), (118, .istore 5, 2), (120, .iload 4, 2), (122, .ifCond .eq 15, 3), (125, .iload_n 3, 1)]
theorem aJ_434_10 : sx_iB prog_14_method_119_code aI_434_10 = true := by decide +kernel
def aI_434_11 : sx_IL := [(126, .i2l, 1), (127, .lconst 0, 1), (128, .iload 5, 2), (130, .i2l, 1), (131, .invokestatic 513, 3), (134, .ifCond .ne 5, 3)]
theorem aJ_434_11 : sx_iB prog_14_method_119_code aI_434_11 = true := by decide +kernel
def aI_434_12 : sx_IL := [(137, .iconst (-1), 1), (138, .ireturn, 1), (139, .aload_n 0, 1), (140, .getfield 102, 3), (143, .bipush 8, 2), (145, .iload_n 1, 1)]
theorem aJ_434_12 : sx_iB prog_14_method_119_code aI_434_12 = true := by decide +kernel
def aI_434_13 : sx_IL := [(146, .imul, 1), (147, .iload_n 2, 1), (148, .iadd, 1), (149, .iaload, 1), (150, .istore 6, 2), (152, .aload_n 0, 1)]
theorem aJ_434_13 : sx_iB prog_14_method_119_code aI_434_13 = true := by decide +kernel
def aI_434_14 : sx_IL := [(153, .getfield 102, 3), (156, .bipush 8, 2), (158, .iload_n 1, 1), (159, .imul, 1), (160, .iload_n 2, 1), (161, .iadd, 1)]
theorem aJ_434_14 : sx_iB prog_14_method_119_code aI_434_14 = true := by decide +kernel
def aI_434_15 : sx_IL := [(162, .iload_n 3, 1), (163, .iastore, 1), (164, .iload 6, 2), (166, .ireturn, 1)]
theorem aJ_434_15 : sx_iB prog_14_method_119_code aI_434_15 = true := by decide +kernel
def aS_434 (pc : Nat) : sx_IL := (if pc < 86 then (if pc < 43 then (if pc < 22 then (if pc < 10 then aI_434_0 else aI_434_1) else (if pc < 33 then aI_434_2 else aI_434_3)) else (if pc < 66 then (if pc < 55 then aI_434_4 else aI_434_5) else (if pc < 76 then aI_434_6 else aI_434_7))) else (if pc < 137 then (if pc < 114 then (if pc < 100 then aI_434_8 else aI_434_9) else (if pc < 126 then aI_434_10 else aI_434_11)) else (if pc < 153 then (if pc < 146 then aI_434_12 else aI_434_13) else (if pc < 162 then aI_434_14 else aI_434_15))))
theorem aT_434 (pc : Nat) : sx_iOk prog_14_method_119_code (aS_434 pc) := (sx_ite (p := fun l => sx_iOk prog_14_method_119_code l) (sx_ite (p := fun l => sx_iOk prog_14_method_119_code l) (sx_ite (p := fun l => sx_iOk prog_14_method_119_code l) (sx_ite (p := fun l => sx_iOk prog_14_method_119_code l) (sx_iB_s aJ_434_0) (sx_iB_s aJ_434_1)) (sx_ite (p := fun l => sx_iOk prog_14_method_119_code l) (sx_iB_s aJ_434_2) (sx_iB_s aJ_434_3))) (sx_ite (p := fun l => sx_iOk prog_14_method_119_code l) (sx_ite (p := fun l => sx_iOk prog_14_method_119_code l) (sx_iB_s aJ_434_4) (sx_iB_s aJ_434_5)) (sx_ite (p := fun l => sx_iOk prog_14_method_119_code l) (sx_iB_s aJ_434_6) (sx_iB_s aJ_434_7)))) (sx_ite (p := fun l => sx_iOk prog_14_method_119_code l) (sx_ite (p := fun l => sx_iOk prog_14_method_119_code l) (sx_ite (p := fun l => sx_iOk prog_14_method_119_code l) (sx_iB_s aJ_434_8) (sx_iB_s aJ_434_9)) (sx_ite (p := fun l => sx_iOk prog_14_method_119_code l) (sx_iB_s aJ_434_10) (sx_iB_s aJ_434_11))) (sx_ite (p := fun l => sx_iOk prog_14_method_119_code l) (sx_ite (p := fun l => sx_iOk prog_14_method_119_code l) (sx_iB_s aJ_434_12) (sx_iB_s aJ_434_13)) (sx_ite (p := fun l => sx_iOk prog_14_method_119_code l) (sx_iB_s aJ_434_14) (sx_iB_s aJ_434_15)))))
def aW_434 : Nat → Option (Instr × Nat) := fun pc => sx_iF (aS_434 pc) pc
theorem aX_434 : ∀ pc i len, aW_434 pc = some (i, len) → decode aM_434.1.2.1 pc = .ok (i, len) := fun pc i len h => sx_iF_s (aT_434 pc) h
def aI_435_0 : sx_IL := [(0, .aload_n 0, 1), (1, .iload_n 1, 1), (2, .invokevirtual 894, 3), (5, .ifCond .ne 5, 3), (8, .iconst (-1), 1), (9, .ireturn, 1)]
theorem aJ_435_0 : sx_iB prog_14_method_120_code aI_435_0 = true := by decide +kernel
def aI_435_1 : sx_IL := [(10, .aload_n 0, 1), (11, .getfield 108, 3), (14, .iload_n 1, 1), (15, .iaload, 1), (16, .aload_n 0, 1), (17, .getfield 517, 3)]
theorem aJ_435_1 : sx_iB prog_14_method_120_code aI_435_1 = true := by decide +kernel
def aI_435_2 : sx_IL := [(20, .iadd, 1), (21, .sipush 200, 3), (24, .if_icmp .le 6, 3), (27, .bipush (-3), 2), (29, .ireturn, 1), (30, .iconst 0, 1)]
theorem aJ_435_2 : sx_iB prog_14_method_120_code aI_435_2 = true := by decide +kernel
def aI_435_3 : sx_IL := [(31, .istore_n 2, 1), (32, .iload_n 2, 1), (33, .aload_n 0, 1), (34, .getfield 517, 3), (37, .if_icmp .ge 34, 3), (40, .aload_n 0, 1)]
theorem aJ_435_3 : sx_iB prog_14_method_120_code aI_435_3 = true := by decide +kernel
def aI_435_4 : sx_IL := [(41, .getfield 105, 3), (44, .sipush 200, 3), (47, .iload_n 1, 1), (48, .imul, 1), (49, .aload_n 0, 1), (50, .getfield 108, 3)]
theorem aJ_435_4 : sx_iB prog_14_method_120_code aI_435_4 = true := by decide +kernel
def aI_435_5 : sx_IL := [(53, .iload_n 1, 1), (54, .iaload, 1), (55, .iadd, 1), (56, .iload_n 2, 1), (57, .iadd, 1), (58, .aload_n 0, 1)]
theorem aJ_435_5 : sx_iB prog_14_method_120_code aI_435_5 = true := by decide +kernel
def aI_435_6 : sx_IL := [(59, .getfield 7, 3), (62, .iload_n 2, 1), (63, .iaload, 1), (64, .iastore, 1), (65, .iinc 2 1, 3), (68, .goto (-36), 3)]
theorem aJ_435_6 : sx_iB prog_14_method_120_code aI_435_6 = true := by decide +kernel
def aI_435_7 : sx_IL := [(71, .aload_n 0, 1), (72, .getfield 108, 3), (75, .iload_n 1, 1), (76, .dup2, 1), (77, .iaload, 1), (78, .aload_n 0, 1)]
theorem aJ_435_7 : sx_iB prog_14_method_120_code aI_435_7 = true := by decide +kernel
def aI_435_8 : sx_IL := [(79, .getfield 517, 3), (82, .iadd, 1), (83, .iastore, 1), (84, .aload_n 0, 1), (85, .iconst 0, 1), (86, .putfield 517, 3)]
theorem aJ_435_8 : sx_iB prog_14_method_120_code aI_435_8 = true := by decide +kernel
def aI_435_9 : sx_IL := [(89, .aload_n 0, 1), (90, .getfield 108, 3), (93, .iload_n 1, 1), (94, .iaload, 1), (95, .ireturn, 1)]
theorem aJ_435_9 : sx_iB prog_14_method_120_code aI_435_9 = true := by decide +kernel
def aS_435 (pc : Nat) : sx_IL := (if pc < 53 then (if pc < 20 then (if pc < 10 then aI_435_0 else aI_435_1) else (if pc < 31 then aI_435_2 else (if pc < 41 then aI_435_3 else aI_435_4))) else (if pc < 71 then (if pc < 59 then aI_435_5 else aI_435_6) else (if pc < 79 then aI_435_7 else (if pc < 89 then aI_435_8 else aI_435_9))))
theorem aT_435 (pc : Nat) : sx_iOk prog_14_method_120_code (aS_435 pc) := (sx_ite (p := fun l => sx_iOk prog_14_method_120_code l) (sx_ite (p := fun l => sx_iOk prog_14_method_120_code l) (sx_ite (p := fun l => sx_iOk prog_14_method_120_code l) (sx_iB_s aJ_435_0) (sx_iB_s aJ_435_1)) (sx_ite (p := fun l => sx_iOk prog_14_method_120_code l) (sx_iB_s aJ_435_2) (sx_ite (p := fun l => sx_iOk prog_14_method_120_code l) (sx_iB_s aJ_435_3) (sx_iB_s aJ_435_4)))) (sx_ite (p := fun l => sx_iOk prog_14_method_120_code l) (sx_ite (p := fun l => sx_iOk prog_14_method_120_code l) (sx_iB_s aJ_435_5) (sx_iB_s aJ_435_6)) (sx_ite (p := fun l => sx_iOk prog_14_method_120_code l) (sx_iB_s aJ_435_7) (sx_ite (p := fun l => sx_iOk prog_14_method_120_code l) (sx_iB_s aJ_435_8) (sx_iB_s aJ_435_9)))))
def aW_435 : Nat → Option (Instr × Nat) := fun pc => sx_iF (aS_435 pc) pc
theorem aX_435 : ∀ pc i len, aW_435 pc = some (i, len) → decode aM_435.1.2.1 pc = .ok (i, len) := fun pc i len h => sx_iF_s (aT_435 pc) h
def aI_436_0 : sx_IL := [(0, .aload_n 0, 1), (1, .iload_n 1, 1), (2, .invokevirtual 894, 3), (5, .ifCond .eq 11, 3), (8, .aload_n 0, 1), (9, .iload_n 2, 1)]
theorem aJ_436_0 : sx_iB prog_14_method_124_code aI_436_0 = true := by decide +kernel
def aI_436_1 : sx_IL := [(10, .invokevirtual 840, 3), (13, .ifCond .ne 5, 3), (16, .iconst (-1), 1), (17, .ireturn, 1), (18, .aload_n 0, 1), (19, .iload_n 1, 1)]
theorem aJ_436_1 : sx_iB prog_14_method_124_code aI_436_1 = true := by decide +kernel
def aI_436_2 : sx_IL := [(20, .iload_n 2, 1), (21, .invokevirtual 901, 3), (24, .ifCond .ne 30, 3), (27, .aload_n 0, 1), (28, .getfield 111, 3), (31, .bipush 30, 2)]
theorem aJ_436_2 : sx_iB prog_14_method_124_code aI_436_2 = true := by decide +kernel
def aI_436_3 : sx_IL := [(33, .iload_n 1, 1), (34, .imul, 1), (35, .aload_n 0, 1), (36, .getfield 114, 3), (39, .iload_n 1, 1), (40, .iaload, 1)]
theorem aJ_436_3 : sx_iB prog_14_method_124_code aI_436_3 = true := by decide +kernel
def aI_436_4 : sx_IL := [(41, .iadd, 1), (42, .iload_n 2, 1), (43, .iastore, 1), (44, .aload_n 0, 1), (45, .getfield 114, 3), (48, .iload_n 1, 1)]
theorem aJ_436_4 : sx_iB prog_14_method_124_code aI_436_4 = true := by decide +kernel
def aI_436_5 : sx_IL := [(49, .dup2, 1), (50, .iaload, 1), (51, .iconst 1, 1), (52, .iadd, 1), (53, .iastore, 1), (54, .aload_n 0, 1)]
theorem aJ_436_5 : sx_iB prog_14_method_124_code aI_436_5 = true := by decide +kernel
def aI_436_6 : sx_IL := [(55, .getfield 114, 3), (58, .iload_n 1, 1), (59, .iaload, 1), (60, .ireturn, 1)]
theorem aJ_436_6 : sx_iB prog_14_method_124_code aI_436_6 = true := by decide +kernel
def aS_436 (pc : Nat) : sx_IL := (if pc < 33 then (if pc < 10 then aI_436_0 else (if pc < 20 then aI_436_1 else aI_436_2)) else (if pc < 49 then (if pc < 41 then aI_436_3 else aI_436_4) else (if pc < 55 then aI_436_5 else aI_436_6)))
theorem aT_436 (pc : Nat) : sx_iOk prog_14_method_124_code (aS_436 pc) := (sx_ite (p := fun l => sx_iOk prog_14_method_124_code l) (sx_ite (p := fun l => sx_iOk prog_14_method_124_code l) (sx_iB_s aJ_436_0) (sx_ite (p := fun l => sx_iOk prog_14_method_124_code l) (sx_iB_s aJ_436_1) (sx_iB_s aJ_436_2))) (sx_ite (p := fun l => sx_iOk prog_14_method_124_code l) (sx_ite (p := fun l => sx_iOk prog_14_method_124_code l) (sx_iB_s aJ_436_3) (sx_iB_s aJ_436_4)) (sx_ite (p := fun l => sx_iOk prog_14_method_124_code l) (sx_iB_s aJ_436_5) (sx_iB_s aJ_436_6))))
def aW_436 : Nat → Option (Instr × Nat) := fun pc => sx_iF (aS_436 pc) pc
theorem aX_436 : ∀ pc i len, aW_436 pc = some (i, len) → decode aM_436.1.2.1 pc = .ok (i, len) := fun pc i len h => sx_iF_s (aT_436 pc) h
def aI_437_0 : sx_IL := [(0, .aload_n 0, 1), (1, .iload_n 1, 1), (2, .invokevirtual 894, 3), (5, .ifCond .eq 10, 3), (8, .iload_n 2, 1), (9, .invokestatic 652, 3)]
theorem aJ_437_0 : sx_iB prog_14_method_125_code aI_437_0 = true := by decide +kernel
def aI_437_1 : sx_IL := [(12, .ifCond .ne 5, 3), (15, .iconst (-1), 1), (16, .ireturn, 1), (17, .aload_n 0, 1), (18, .getfield 891, 3), (21, .i2l, 1)]
theorem aJ_437_1 : sx_iB prog_14_method_125_code aI_437_1 = true := by decide +kernel
def aI_437_2 : sx_IL := [(22, .lconst 1, 1), (23, .ldc2_w 649, 3), (26, .invokestatic 513, 3), (29, .ifCond .eq 26, 3), (32, .iload_n 2, 1), (33, .invokestatic 656, 3)]
theorem aJ_437_2 : sx_iB prog_14_method_125_code aI_437_2 = true := by decide +kernel
def aI_437_3 : sx_IL := [(36, .aload_n 0, 1), (37, .getfield 45, 3), (40, .bipush 8, 2), (42, .aload_n 0, 1), (43, .getfield 90, 3), (46, .iconst 0, 1)]
theorem aJ_437_3 : sx_iB prog_14_method_125_code aI_437_3 = true := by decide +kernel
def aI_437_4 : sx_IL := [(47, .iaload, 1), (48, .imul, 1), (49, .iconst 4, 1), (50, .iadd, 1), (51, .iaload, 1), (52, .if_icmp .eq 6, 3)]
theorem aJ_437_4 : sx_iB prog_14_method_125_code aI_437_4 = true := by decide +kernel
def aI_437_5 : sx_IL := [(55, .bipush (-2), 2), (57, .ireturn, 1), (58, .aload_n 0, 1), (59, .getfield 120, 3), (62, .iload_n 1, 1), (63, .aload_n 0, 1)]
theorem aJ_437_5 : sx_iB prog_14_method_125_code aI_437_5 = true := by decide +kernel
def aI_437_6 : sx_IL := [(64, .getfield 891, 3), (67, .iastore, 1), (68, .iconst 0, 1), (69, .istore_n 3, 1), (70, .iload_n 3, 1), (71, .aload_n 0, 1)]
theorem aJ_437_6 : sx_iB prog_14_method_125_code aI_437_6 = true := by decide +kernel
def aI_437_7 : sx_IL := [(72, .getfield 891, 3), (75, .if_icmp .ge 25, 3), (78, .aload_n 0, 1), (79, .getfield 117, 3), (82, .iconst 4, 1), (83, .iload_n 1, 1)]
theorem aJ_437_7 : sx_iB prog_14_method_125_code aI_437_7 = true := by decide +kernel
def aI_437_8 : sx_IL := [(84, .imul, 1), (85, .iload_n 3, 1), (86, .iadd, 1), (87, .aload_n 0, 1), (88, .getfield 90, 3), (91, .iload_n 3, 1)]
theorem aJ_437_8 : sx_iB prog_14_method_125_code aI_437_8 = true := by decide +kernel
def aI_437_9 : sx_IL := [(92, .iaload, 1), (93, .iastore, 1), (94, .iinc 3 1, 3), (97, .goto (-27), 3), (100, .aload_n 0, 1), (101, .getfield 123, 3)]
theorem aJ_437_9 : sx_iB prog_14_method_125_code aI_437_9 = true := by decide +kernel
def aI_437_10 : sx_IL := [(104, .iload_n 1, 1), (105, .iload_n 2, 1), (106, .iastore, 1), (107, .aload_n 0, 1), (108, .iconst 0, 1), (109, .putfield 891, 3)]
theorem aJ_437_10 : sx_iB prog_14_method_125_code aI_437_10 = true := by decide +kernel
def aI_437_11 : sx_IL := [(112, .aload_n 0, 1), (113, .getfield 120, 3), (116, .iload_n 1, 1), (117, .iaload, 1), (118, .ireturn, 1)]
theorem aJ_437_11 : sx_iB prog_14_method_125_code aI_437_11 = true := by decide +kernel
def aS_437 (pc : Nat) : sx_IL := (if pc < 64 then (if pc < 36 then (if pc < 12 then aI_437_0 else (if pc < 22 then aI_437_1 else aI_437_2)) else (if pc < 47 then aI_437_3 else (if pc < 55 then aI_437_4 else aI_437_5))) else (if pc < 92 then (if pc < 72 then aI_437_6 else (if pc < 84 then aI_437_7 else aI_437_8)) else (if pc < 104 then aI_437_9 else (if pc < 112 then aI_437_10 else aI_437_11))))
theorem aT_437 (pc : Nat) : sx_iOk prog_14_method_125_code (aS_437 pc) := (sx_ite (p := fun l => sx_iOk prog_14_method_125_code l) (sx_ite (p := fun l => sx_iOk prog_14_method_125_code l) (sx_ite (p := fun l => sx_iOk prog_14_method_125_code l) (sx_iB_s aJ_437_0) (sx_ite (p := fun l => sx_iOk prog_14_method_125_code l) (sx_iB_s aJ_437_1) (sx_iB_s aJ_437_2))) (sx_ite (p := fun l => sx_iOk prog_14_method_125_code l) (sx_iB_s aJ_437_3) (sx_ite (p := fun l => sx_iOk prog_14_method_125_code l) (sx_iB_s aJ_437_4) (sx_iB_s aJ_437_5)))) (sx_ite (p := fun l => sx_iOk prog_14_method_125_code l) (sx_ite (p := fun l => sx_iOk prog_14_method_125_code l) (sx_iB_s aJ_437_6) (sx_ite (p := fun l => sx_iOk prog_14_method_125_code l) (sx_iB_s aJ_437_7) (sx_iB_s aJ_437_8))) (sx_ite (p := fun l => sx_iOk prog_14_method_125_code l) (sx_iB_s aJ_437_9) (sx_ite (p := fun l => sx_iOk prog_14_method_125_code l) (sx_iB_s aJ_437_10) (sx_iB_s aJ_437_11)))))
def aW_437 : Nat → Option (Instr × Nat) := fun pc => sx_iF (aS_437 pc) pc
theorem aX_437 : ∀ pc i len, aW_437 pc = some (i, len) → decode aM_437.1.2.1 pc = .ok (i, len) := fun pc i len h => sx_iF_s (aT_437 pc) h
def aI_438_0 : sx_IL := [(0, .aload_n 0, 1), (1, .iload_n 1, 1), (2, .invokevirtual 894, 3), (5, .ifCond .eq 12, 3), (8, .aload_n 0, 1), (9, .getfield 93, 3)]
theorem aJ_438_0 : sx_iB prog_14_method_126_code aI_438_0 = true := by decide +kernel
def aI_438_1 : sx_IL := [(12, .iload_n 1, 1), (13, .iaload, 1), (14, .ifCond .eq 5, 3), (17, .iconst (-1), 1), (18, .ireturn, 1), (19, .aload_n 0, 1)]
theorem aJ_438_1 : sx_iB prog_14_method_126_code aI_438_1 = true := by decide +kernel
def aI_438_2 : sx_IL := [(20, .getfield 7, 3), (23, .iconst 0, 1), (24, .aload_n 0, 1), (25, .getfield 517, 3), (28, .invokestatic 724, 3), (31, .bipush (-4), 2)]
theorem aJ_438_2 : sx_iB prog_14_method_126_code aI_438_2 = true := by decide +kernel
def aI_438_3 : sx_IL := [(33, .if_icmp .eq 6, 3), (36, .bipush (-2), 2), (38, .ireturn, 1), (39, .aload_n 0, 1), (40, .getfield 129, 3), (43, .iload_n 1, 1)]
theorem aJ_438_3 : sx_iB prog_14_method_126_code aI_438_3 = true := by decide +kernel
def aI_438_4 : sx_IL := [(44, .aload_n 0, 1), (45, .getfield 517, 3), (48, .iastore, 1), (49, .iconst 0, 1), (50, .istore_n 2, 1), (51, .iload_n 2, 1)]
theorem aJ_438_4 : sx_iB prog_14_method_126_code aI_438_4 = true := by decide +kernel
def aI_438_5 : sx_IL := [(52, .aload_n 0, 1), (53, .getfield 517, 3), (56, .if_icmp .ge 26, 3), (59, .aload_n 0, 1), (60, .getfield 126, 3), (63, .bipush 40, 2)]
theorem aJ_438_5 : sx_iB prog_14_method_126_code aI_438_5 = true := by decide +kernel
def aI_438_6 : sx_IL := [(65, .iload_n 1, 1), (66, .imul, 1), (67, .iload_n 2, 1), (68, .iadd, 1), (69, .aload_n 0, 1), (70, .getfield 7, 3)]
theorem aJ_438_6 : sx_iB prog_14_method_126_code aI_438_6 = true := by decide +kernel
def aI_438_7 : sx_IL := [(73, .iload_n 2, 1), (74, .iaload, 1), (75, .iastore, 1), (76, .iinc 2 1, 3), (79, .goto (-28), 3), (82, .aload_n 0, 1)]
theorem aJ_438_7 : sx_iB prog_14_method_126_code aI_438_7 = true := by decide +kernel
def aI_438_8 : sx_IL := [(83, .iconst 0, 1), (84, .putfield 517, 3), (87, .iconst 1, 1), (88, .ireturn, 1)]
theorem aJ_438_8 : sx_iB prog_14_method_126_code aI_438_8 = true := by decide +kernel
def aS_438 (pc : Nat) : sx_IL := (if pc < 44 then (if pc < 20 then (if pc < 12 then aI_438_0 else aI_438_1) else (if pc < 33 then aI_438_2 else aI_438_3)) else (if pc < 65 then (if pc < 52 then aI_438_4 else aI_438_5) else (if pc < 73 then aI_438_6 else (if pc < 83 then aI_438_7 else aI_438_8))))
theorem aT_438 (pc : Nat) : sx_iOk prog_14_method_126_code (aS_438 pc) := (sx_ite (p := fun l => sx_iOk prog_14_method_126_code l) (sx_ite (p := fun l => sx_iOk prog_14_method_126_code l) (sx_ite (p := fun l => sx_iOk prog_14_method_126_code l) (sx_iB_s aJ_438_0) (sx_iB_s aJ_438_1)) (sx_ite (p := fun l => sx_iOk prog_14_method_126_code l) (sx_iB_s aJ_438_2) (sx_iB_s aJ_438_3))) (sx_ite (p := fun l => sx_iOk prog_14_method_126_code l) (sx_ite (p := fun l => sx_iOk prog_14_method_126_code l) (sx_iB_s aJ_438_4) (sx_iB_s aJ_438_5)) (sx_ite (p := fun l => sx_iOk prog_14_method_126_code l) (sx_iB_s aJ_438_6) (sx_ite (p := fun l => sx_iOk prog_14_method_126_code l) (sx_iB_s aJ_438_7) (sx_iB_s aJ_438_8)))))
def aW_438 : Nat → Option (Instr × Nat) := fun pc => sx_iF (aS_438 pc) pc
theorem aX_438 : ∀ pc i len, aW_438 pc = some (i, len) → decode aM_438.1.2.1 pc = .ok (i, len) := fun pc i len h => sx_iF_s (aT_438 pc) h
def aI_439_0 : sx_IL := [(0, .aload_n 0, 1), (1, .iload_n 1, 1), (2, .invokevirtual 894, 3), (5, .ifCond .eq 13, 3), (8, .iload_n 2, 1), (9, .i2l, 1)]
theorem aJ_439_0 : sx_iB prog_14_method_127_code aI_439_0 = true := by decide +kernel
def aI_439_1 : sx_IL := [(10, .lconst 0, 1), (11, .lconst 1, 1), (12, .invokestatic 513, 3), (15, .ifCond .ne 5, 3), (18, .iconst (-1), 1), (19, .ireturn, 1)]
theorem aJ_439_1 : sx_iB prog_14_method_127_code aI_439_1 = true := by decide +kernel
def aI_439_2 : sx_IL := [(20, .aload_n 0, 1), (21, .getfield 517, 3), (24, .i2l, 1), (25, .lconst 1, 1), (26, .ldc2_w 923, 3), (29, .invokestatic 513, 3)]
theorem aJ_439_2 : sx_iB prog_14_method_127_code aI_439_2 = true := by decide +kernel
def aI_439_3 : sx_IL := [(32, .ifCond .ne 6, 3), (35, .bipush (-2), 2), (37, .ireturn, 1), (38, .aload_n 0, 1), (39, .getfield 132, 3), (42, .iload_n 1, 1)]
theorem aJ_439_3 : sx_iB prog_14_method_127_code aI_439_3 = true := by decide +kernel
def aI_439_4 : sx_IL := [(43, .iaload, 1), (44, .bipush 6, 2), (46, .if_icmp .ne 6, 3), (49, .bipush (-3), 2), (51, .ireturn, 1), (52, .bipush 6, 2)]
theorem aJ_439_4 : sx_iB prog_14_method_127_code aI_439_4 = true := by decide +kernel
def aI_439_5 : sx_IL := [(54, .iload_n 1, 1), (55, .imul, 1), (56, .aload_n 0, 1), (57, .getfield 132, 3), (60, .iload_n 1, 1), (61, .iaload, 1)]
theorem aJ_439_5 : sx_iB prog_14_method_127_code aI_439_5 = true := by decide +kernel
def aI_439_6 : sx_IL := [(62, .iadd, 1), (63, .istore 5, 2), (65, .aload_n 0, 1), (66, .getfield 138, 3), (69, .iload 5, 2), (71, .aload_n 0, 1)]
theorem aJ_439_6 : sx_iB prog_14_method_127_code aI_439_6 = true := by decide +kernel
def aI_439_7 : sx_IL := [(72, .getfield 517, 3), (75, .iastore, 1), (76, .iconst 0, 1), (77, .istore 6, 2), (79, .iload 6, 2), (81, .aload_n 0, 1)]
theorem aJ_439_7 : sx_iB prog_14_method_127_code aI_439_7 = true := by decide +kernel
def aI_439_8 : sx_IL := [(82, .getfield 517, 3), (85, .if_icmp .ge 29, 3), (88, .aload_n 0, 1), (89, .getfield 135, 3), (92, .bipush 16, 2), (94, .iload 5, 2)]
theorem aJ_439_8 : sx_iB prog_14_method_127_code aI_439_8 = true := by decide +kernel
def aI_439_9 : sx_IL := [(96, .imul, 1), (97, .iload 6, 2), (99, .iadd, 1), (100, .aload_n 0, 1), (101, .getfield 7, 3), (104, .iload 6, 2)]
theorem aJ_439_9 : sx_iB prog_14_method_127_code aI_439_9 = true := by decide +kernel
def aI_439_10 : sx_IL := [(106, .iaload, 1), (107, .iastore, 1), (108, .iinc 6 1, 3), (111, .goto (-32), 3), (114, .aload_n 0, 1), (115, .iconst 0, 1)]
theorem aJ_439_10 : sx_iB prog_14_method_127_code aI_439_10 = true := by decide +kernel
def aI_439_11 : sx_IL := [(116, .putfield 517, 3), (119, .aload_n 0, 1), (120, .getfield 141, 3), (123, .iload 5, 2), (125, .lload_n 3, 1), (126, .lastore, 1)]
theorem aJ_439_11 : sx_iB prog_14_method_127_code aI_439_11 = true := by decide +kernel
def aI_439_12 : sx_IL := [(127, .aload_n 0, 1), (128, .getfield 144, 3), (131, .iload 5, 2), (133, .iload_n 2, 1), (134, .iastore, 1), (135, .aload_n 0, 1)]
theorem aJ_439_12 : sx_iB prog_14_method_127_code aI_439_12 = true := by decide +kernel
def aI_439_13 : sx_IL := [(136, .getfield 147, 3), (139, .iload 5, 2), (141, .iconst 0, 1), (142, .bastore, 1), (143, .iconst 0, 1), (144, .istore 6, 2)]
theorem aJ_439_13 : sx_iB prog_14_method_127_code aI_439_13 = true := by decide +kernel
def aI_439_14 : sx_IL := [(146, .iload 6, 2), (148, .iconst 5, 1), (149, .if_icmp .ge 22, 3), (152, .aload_n 0, 1), (153, .getfield 150, 3), (156, .iconst 5, 1)]
theorem aJ_439_14 : sx_iB prog_14_method_127_code aI_439_14 = true := by decide +kernel
def aI_439_15 : sx_IL := [(157, .iload 5, 2), (159, .imul, 1), (160, .iload 6, 2), (162, .iadd, 1), (163, .iconst 0, 1), (164, .iastore, 1)]
theorem aJ_439_15 : sx_iB prog_14_method_127_code aI_439_15 = true := by decide +kernel
def aI_439_16 : sx_IL := [(165, .iinc 6 1, 3), (168, .goto (-22), 3), (171, .aload_n 0, 1), (172, .getfield 132, 3), (175, .iload_n 1, 1), (176, .dup2, 1)]
theorem aJ_439_16 : sx_iB prog_14_method_127_code aI_439_16 = true := by decide +kernel
def aI_439_17 : sx_IL := [(177, .iaload, 1), (178, .iconst 1, 1), (179, .iadd, 1), (180, .iastore, 1), (181, .aload_n 0, 1), (182, .getfield 132, 3)]
theorem aJ_439_17 : sx_iB prog_14_method_127_code aI_439_17 = true := by decide +kernel
def aI_439_18 : sx_IL := [(185, .iload_n 1, 1), (186, .iaload, 1), (187, .ireturn, 1)]
theorem aJ_439_18 : sx_iB prog_14_method_127_code aI_439_18 = true := by decide +kernel
def aS_439 (pc : Nat) : sx_IL := (if pc < 96 then (if pc < 43 then (if pc < 20 then (if pc < 10 then aI_439_0 else aI_439_1) else (if pc < 32 then aI_439_2 else aI_439_3)) else (if pc < 62 then (if pc < 54 then aI_439_4 else aI_439_5) else (if pc < 72 then aI_439_6 else (if pc < 82 then aI_439_7 else aI_439_8)))) else (if pc < 146 then (if pc < 116 then (if pc < 106 then aI_439_9 else aI_439_10) else (if pc < 127 then aI_439_11 else (if pc < 136 then aI_439_12 else aI_439_13))) else (if pc < 165 then (if pc < 157 then aI_439_14 else aI_439_15) else (if pc < 177 then aI_439_16 else (if pc < 185 then aI_439_17 else aI_439_18)))))
theorem aT_439 (pc : Nat) : sx_iOk prog_14_method_127_code (aS_439 pc) := (sx_ite (p := fun l => sx_iOk prog_14_method_127_code l) (sx_ite (p := fun l => sx_iOk prog_14_method_127_code l) (sx_ite (p := fun l => sx_iOk prog_14_method_127_code l) (sx_ite (p := fun l => sx_iOk prog_14_method_127_code l) (sx_iB_s aJ_439_0) (sx_iB_s aJ_439_1)) (sx_ite (p := fun l => sx_iOk prog_14_method_127_code l) (sx_iB_s aJ_439_2) (sx_iB_s aJ_439_3))) (sx_ite (p := fun l => sx_iOk prog_14_method_127_code l) (sx_ite (p := fun l => sx_iOk prog_14_method_127_code l) (sx_iB_s aJ_439_4) (sx_iB_s aJ_439_5)) (sx_ite (p := fun l => sx_iOk prog_14_method_127_code l) (sx_iB_s aJ_439_6) (sx_ite (p := fun l => sx_iOk prog_14_method_127_code l) (sx_iB_s aJ_439_7) (sx_iB_s aJ_439_8))))) (sx_ite (p := fun l => sx_iOk prog_14_method_127_code l) (sx_ite (p := fun l => sx_iOk prog_14_method_127_code l) (sx_ite (p := fun l => sx_iOk prog_14_method_127_code l) (sx_iB_s aJ_439_9) (sx_iB_s aJ_439_10)) (sx_ite (p := fun l => sx_iOk prog_14_method_127_code l) (sx_iB_s aJ_439_11) (sx_ite (p := fun l => sx_iOk prog_14_method_127_code l) (sx_iB_s aJ_439_12) (sx_iB_s aJ_439_13)))) (sx_ite (p := fun l => sx_iOk prog_14_method_127_code l) (sx_ite (p := fun l => sx_iOk prog_14_method_127_code l) (sx_iB_s aJ_439_14) (sx_iB_s aJ_439_15)) (sx_ite (p := fun l => sx_iOk prog_14_method_127_code l) (sx_iB_s aJ_439_16) (sx_ite (p := fun l => sx_iOk prog_14_method_127_code l) (sx_iB_s aJ_439_17) (sx_iB_s aJ_439_18))))))
def aW_439 : Nat → Option (Instr × Nat) := fun pc => sx_iF (aS_439 pc) pc
theorem aX_439 : ∀ pc i len, aW_439 pc = some (i, len) → decode aM_439.1.2.1 pc = .ok (i, len) := fun pc i len h => sx_iF_s (aT_439 pc) h
def aI_440_0 : sx_IL := [(0, .aload_n 0, 1), (1, .iload_n 1, 1), (2, .invokevirtual 894, 3), (5, .ifCond .eq 21, 3), (8, .iload_n 2, 1), (9, .i2l, 1)]
theorem aJ_440_0 : sx_iB prog_14_method_128_code aI_440_0 = true := by decide +kernel
def aI_440_1 : sx_IL := [(10, .lconst 0, 1), (11, .aload_n 0, 1), (12, .getfield 132, 3), (15, .iload_n 1, 1), (16, .iaload, 1), (17, .iconst 1, 1)]
theorem aJ_440_1 : sx_iB prog_14_method_128_code aI_440_1 = true := by decide +kernel
def aI_440_2 : sx_IL := [(18, .isub, 1), (19, .i2l, 1), (20, .invokestatic 513, 3), (23, .ifCond .ne 5, 3), (26, .iconst (-1), 1), (27, .ireturn, 1)]
theorem aJ_440_2 : sx_iB prog_14_method_128_code aI_440_2 = true := by decide +kernel
def aI_440_3 : sx_IL := [(28, .aload_n 0, 1), (29, .getfield 132, 3), (32, .iload_n 1, 1), (33, .dup2, 1), (34, .iaload, 1), (35, .iconst 1, 1)]
theorem aJ_440_3 : sx_iB prog_14_method_128_code aI_440_3 = true := by decide +kernel
def aI_440_4 : sx_IL := [(36, .isub, 1), (37, .iastore, 1), (38, .bipush 6, 2), (40, .iload_n 1, 1), (41, .imul, 1), (42, .iload_n 2, 1)]
theorem aJ_440_4 : sx_iB prog_14_method_128_code aI_440_4 = true := by decide +kernel
def aI_440_5 : sx_IL := [(43, .iadd, 1), (44, .istore_n 3, 1), (45, .iload_n 3, 1), (46, .bipush 6, 2), (48, .iload_n 1, 1), (49, .imul, 1)]
theorem aJ_440_5 : sx_iB prog_14_method_128_code aI_440_5 = true := by decide +kernel
def aI_440_6 : sx_IL := [(50, .aload_n 0, 1), (51, .getfield 132, 3), (54, .iload_n 1, 1), (55, .iaload, 1), (56, .iadd, 1), (57, .if_icmp .ge 147, 3)]
theorem aJ_440_6 : sx_iB prog_14_method_128_code aI_440_6 = true := by decide +kernel
def aI_440_7 : sx_IL := [(60, .aload_n 0, 1), (61, .getfield 138, 3), (64, .iload_n 3, 1), (65, .aload_n 0, 1), (66, .getfield 138, 3), (69, .iload_n 3, 1)]
theorem aJ_440_7 : sx_iB prog_14_method_128_code aI_440_7 = true := by decide +kernel
def aI_440_8 : sx_IL := [(70, .iconst 1, 1), (71, .iadd, 1), (72, .iaload, 1), (73, .iastore, 1), (74, .aload_n 0, 1), (75, .getfield 141, 3)]
theorem aJ_440_8 : sx_iB prog_14_method_128_code aI_440_8 = true := by decide +kernel
def aI_440_9 : sx_IL := [(78, .iload_n 3, 1), (79, .aload_n 0, 1), (80, .getfield 141, 3), (83, .iload_n 3, 1), (84, .iconst 1, 1), (85, .iadd, 1)]
theorem aJ_440_9 : sx_iB prog_14_method_128_code aI_440_9 = true := by decide +kernel
def aI_440_10 : sx_IL := [(86, .laload, 1), (87, .lastore, 1), (88, .aload_n 0, 1), (89, .getfield 144, 3), (92, .iload_n 3, 1), (93, .aload_n 0, 1)]
theorem aJ_440_10 : sx_iB prog_14_method_128_code aI_440_10 = true := by decide +kernel
def aI_440_11 : sx_IL := [(94, .getfield 144, 3), (97, .iload_n 3, 1), (98, .iconst 1, 1), (99, .iadd, 1), (100, .iaload, 1), (101, .iastore, 1)]
theorem aJ_440_11 : sx_iB prog_14_method_128_code aI_440_11 = true := by decide +kernel
def aI_440_12 : sx_IL := [(102, .aload_n 0, 1), (103, .getfield 147, 3), (106, .iload_n 3, 1), (107, .aload_n 0, 1), (108, .getfield 147, 3), (111, .iload_n 3, 1)]
theorem aJ_440_12 : sx_iB prog_14_method_128_code aI_440_12 = true := by decide +kernel
def aI_440_13 : sx_IL := [(112, .iconst 1, 1), (113, .iadd, 1), (114, .baload, 1), (115, .bastore, 1), (116, .iconst 0, 1), (117, .istore 4, 2)]
theorem aJ_440_13 : sx_iB prog_14_method_128_code aI_440_13 = true := by decide +kernel
def aI_440_14 : sx_IL := [(119, .iload 4, 2), (121, .bipush 16, 2), (123, .if_icmp .ge 36, 3), (126, .aload_n 0, 1), (127, .getfield 135, 3), (130, .bipush 16, 2)]
theorem aJ_440_14 : sx_iB prog_14_method_128_code aI_440_14 = true := by decide +kernel
def aI_440_15 : sx_IL := [(132, .iload_n 3, 1), (133, .imul, 1), (134, .iload 4, 2), (136, .iadd, 1), (137, .aload_n 0, 1), (138, .getfield 135, 3)]
theorem aJ_440_15 : sx_iB prog_14_method_128_code aI_440_15 = true := by decide +kernel
def aI_440_16 : sx_IL := [(141, .bipush 16, 2), (143, .iload_n 3, 1), (144, .imul, 1), (145, .bipush 16, 2), (147, .iadd, 1), (148, .iload 4, 2)]
theorem aJ_440_16 : sx_iB prog_14_method_128_code aI_440_16 = true := by decide +kernel
def aI_440_17 : sx_IL := [(150, .iadd, 1), (151, .iaload, 1), (152, .iastore, 1), (153, .iinc 4 1, 3), (156, .goto (-37), 3), (159, .iconst 0, 1)]
theorem aJ_440_17 : sx_iB prog_14_method_128_code aI_440_17 = true := by decide +kernel
def aI_440_18 : sx_IL := [(160, .istore 4, 2), (162, .iload 4, 2), (164, .iconst 5, 1), (165, .if_icmp .ge 33, 3), (168, .aload_n 0, 1), (169, .getfield 150, 3)]
theorem aJ_440_18 : sx_iB prog_14_method_128_code aI_440_18 = true := by decide +kernel
def aI_440_19 : sx_IL := [(172, .iconst 5, 1), (173, .iload_n 3, 1), (174, .imul, 1), (175, .iload 4, 2), (177, .iadd, 1), (178, .aload_n 0, 1)]
theorem aJ_440_19 : sx_iB prog_14_method_128_code aI_440_19 = true := by decide +kernel
def aI_440_20 : sx_IL := [(179, .getfield 150, 3), (182, .iconst 5, 1), (183, .iload_n 3, 1), (184, .imul, 1), (185, .iconst 5, 1), (186, .iadd, 1)]
theorem aJ_440_20 : sx_iB prog_14_method_128_code aI_440_20 = true := by decide +kernel
def aI_440_21 : sx_IL := [(187, .iload 4, 2), (189, .iadd, 1), (190, .iaload, 1), (191, .iastore, 1), (192, .iinc 4 1, 3), (195, .goto (-33), 3)]
theorem aJ_440_21 : sx_iB prog_14_method_128_code aI_440_21 = true := by decide +kernel
def aI_440_22 : sx_IL := [(198, .iinc 3 1, 3), (201, .goto (-156), 3), (204, .aload_n 0, 1), (205, .getfield 132, 3), (208, .iload_n 1, 1), (209, .iaload, 1)]
theorem aJ_440_22 : sx_iB prog_14_method_128_code aI_440_22 = true := by decide +kernel
def aI_440_23 : sx_IL := [(210, .ireturn, 1)]
theorem aJ_440_23 : sx_iB prog_14_method_128_code aI_440_23 = true := by decide +kernel
def aS_440 (pc : Nat) : sx_IL := (if pc < 102 then (if pc < 50 then (if pc < 28 then (if pc < 10 then aI_440_0 else (if pc < 18 then aI_440_1 else aI_440_2)) else (if pc < 36 then aI_440_3 else (if pc < 43 then aI_440_4 else aI_440_5))) else (if pc < 78 then (if pc < 60 then aI_440_6 else (if pc < 70 then aI_440_7 else aI_440_8)) else (if pc < 86 then aI_440_9 else (if pc < 94 then aI_440_10 else aI_440_11)))) else (if pc < 160 then (if pc < 132 then (if pc < 112 then aI_440_12 else (if pc < 119 then aI_440_13 else aI_440_14)) else (if pc < 141 then aI_440_15 else (if pc < 150 then aI_440_16 else aI_440_17))) else (if pc < 187 then (if pc < 172 then aI_440_18 else (if pc < 179 then aI_440_19 else aI_440_20)) else (if pc < 198 then aI_440_21 else (if pc < 210 then aI_440_22 else aI_440_23)))))
theorem aT_440 (pc : Nat) : sx_iOk prog_14_method_128_code (aS_440 pc) := (sx_ite (p := fun l => sx_iOk prog_14_method_128_code l) (sx_ite (p := fun l => sx_iOk prog_14_method_128_code l) (sx_ite (p := fun l => sx_iOk prog_14_method_128_code l) (sx_ite (p := fun l => sx_iOk prog_14_method_128_code l) (sx_iB_s aJ_440_0) (sx_ite (p := fun l => sx_iOk prog_14_method_128_code l) (sx_iB_s aJ_440_1) (sx_iB_s aJ_440_2))) (sx_ite (p := fun l => sx_iOk prog_14_method_128_code l) (sx_iB_s aJ_440_3) (sx_ite (p := fun l => sx_iOk prog_14_method_128_code l) (sx_iB_s aJ_440_4) (sx_iB_s aJ_440_5)))) (sx_ite (p := fun l => sx_iOk prog_14_method_128_code l) (sx_ite (p := fun l => sx_iOk prog_14_method_128_code l) (sx_iB_s aJ_440_6) (sx_ite (p := fun l => sx_iOk prog_14_method_128_code l) (sx_iB_s aJ_440_7) (sx_iB_s aJ_440_8))) (sx_ite (p := fun l => sx_iOk prog_14_method_128_code l) (sx_iB_s aJ_440_9) (sx_ite (p := fun l => sx_iOk prog_14_method_128_code l) (sx_iB_s aJ_440_10) (sx_iB_s aJ_440_11))))) (sx_ite (p := fun l => sx_iOk prog_14_method_128_code l) (sx_ite (p := fun l => sx_iOk prog_14_method_128_code l) (sx_ite (p := fun l => sx_iOk prog_14_method_128_code l) (sx_iB_s aJ_440_12) (sx_ite (p := fun l => sx_iOk prog_14_method_128_code l) (sx_iB_s aJ_440_13) (sx_iB_s aJ_440_14))) (sx_ite (p := fun l => sx_iOk prog_14_method_128_code l) (sx_iB_s aJ_440_15) (sx_ite (p := fun l => sx_iOk prog_14_method_128_code l) (sx_iB_s aJ_440_16) (sx_iB_s aJ_440_17)))) (sx_ite (p := fun l => sx_iOk prog_14_method_128_code l) (sx_ite (p := fun l => sx_iOk prog_14_method_128_code l) (sx_iB_s aJ_440_18) (sx_ite (p := fun l => sx_iOk prog_14_method_128_code l) (sx_iB_s aJ_440_19) (sx_iB_s aJ_440_20))) (sx_ite (p := fun l => sx_iOk prog_14_method_128_code l) (sx_iB_s aJ_440_21) (sx_ite (p := fun l => sx_iOk prog_14_method_128_code l) (sx_iB_s aJ_440_22) (sx_iB_s aJ_440_23))))))
def aW_440 : Nat → Option (Instr × Nat) := fun pc => sx_iF (aS_440 pc) pc
theorem aX_440 : ∀ pc i len, aW_440 pc = some (i, len) → decode aM_440.1.2.1 pc = .ok (i, len) := fun pc i len h => sx_iF_s (aT_440 pc) h
def aI_441_0 : sx_IL := [(0, .aload_n 0, 1), (1, .iload_n 1, 1), (2, .invokevirtual 894, 3), (5, .ifCond .eq 33, 3), (8, .iload_n 2, 1), (9, .i2l, 1)]
theorem aJ_441_0 : sx_iB prog_14_method_129_code aI_441_0 = true := by decide +kernel
def aI_441_1 : sx_IL := [(10, .lconst 0, 1), (11, .aload_n 0, 1), (12, .getfield 132, 3), (15, .iload_n 1, 1), (16, .iaload, 1), (17, .iconst 1, 1)]
theorem aJ_441_1 : sx_iB prog_14_method_129_code aI_441_1 = true := by decide +kernel
def aI_441_2 : sx_IL := [(18, .isub, 1), (19, .i2l, 1), (20, .invokestatic 513, 3), (23, .ifCond .eq 15, 3), (26, .iload_n 3, 1), (27, .i2l, 1)]
theorem aJ_441_2 : sx_iB prog_14_method_129_code aI_441_2 = true := by decide +kernel
def aI_441_3 : sx_IL := [(28, .lconst 0, 1), (29, .ldc2_w 925, 3), (32, .invokestatic 513, 3), (35, .ifCond .ne 5, 3), (38, .iconst (-1), 1), (39, .ireturn, 1)]
theorem aJ_441_3 : sx_iB prog_14_method_129_code aI_441_3 = true := by decide +kernel
def aI_441_4 : sx_IL := [(40, .bipush 6, 2), (42, .iload_n 1, 1), (43, .imul, 1), (44, .iload_n 2, 1), (45, .iadd, 1), (46, .istore 4, 2)]
theorem aJ_441_4 : sx_iB prog_14_method_129_code aI_441_4 = true := by decide +kernel
def aI_441_5 : sx_IL := [(48, .aload_n 0, 1), (49, .aload_n 0, 1), (50, .getfield 138, 3), (53, .iload 4, 2), (55, .iaload, 1), (56, .putfield 520, 3)]
theorem aJ_441_5 : sx_iB prog_14_method_129_code aI_441_5 = true := by decide +kernel
def aI_441_6 : sx_IL := [(59, .iconst 0, 1), (60, .istore 5, 2), (62, .iload 5, 2), (64, .aload_n 0, 1), (65, .getfield 520, 3), (68, .if_icmp .ge 29, 3)]
theorem aJ_441_6 : sx_iB prog_14_method_129_code aI_441_6 = true := by decide +kernel
def aI_441_7 : sx_IL := [(71, .aload_n 0, 1), (72, .getfield 13, 3), (75, .iload 5, 2), (77, .aload_n 0, 1), (78, .getfield 135, 3), (81, .bipush 16, 2)]
theorem aJ_441_7 : sx_iB prog_14_method_129_code aI_441_7 = true := by decide +kernel
def aI_441_8 : sx_IL := [(83, .iload 4, 2), (85, .imul, 1), (86, .iload 5, 2), (88, .iadd, 1), (89, .iaload, 1), (90, .iastore, 1)]
theorem aJ_441_8 : sx_iB prog_14_method_129_code aI_441_8 = true := by decide +kernel
def aI_441_9 : sx_IL := [(91, .iinc 5 1, 3), (94, .goto (-32), 3), (97, .iload_n 3, 1), (98, .ifCond .ne 13, 3), (101, .aload_n 0, 1), (102, .getfield 144, 3)]
theorem aJ_441_9 : sx_iB prog_14_method_129_code aI_441_9 = true := by decide +kernel
def aI_441_10 : sx_IL := [(105, .iload 4, 2), (107, .iaload, 1), (108, .goto 37, 3), (111, .iload_n 3, 1), (112, .iconst 5, 1), (113, .if_icmp .ne 21, 3)]
theorem aJ_441_10 : sx_iB prog_14_method_129_code aI_441_10 = true := by decide +kernel
def aI_441_11 : sx_IL := [(116, .aload_n 0, 1), (117, .getfield 147, 3), (120, .iload 4, 2), (122, .baload, 1), (123, .ifCond .eq 7, 3), (126, .iconst 1, 1)]
theorem aJ_441_11 : sx_iB prog_14_method_129_code aI_441_11 = true := by decide +kernel
def aI_441_12 : sx_IL := [(127, .goto 18, 3), (130, .iconst 0, 1), (131, .goto 14, 3), (134, .aload_n 0, 1), (135, .getfield 150, 3), (138, .iconst 5, 1)]
theorem aJ_441_12 : sx_iB prog_14_method_129_code aI_441_12 = true := by decide +kernel
def aI_441_13 : sx_IL := [(139, .iload 4, 2), (141, .imul, 1), (142, .iload_n 3, 1), (143, .iadd, 1), (144, .iaload, 1), (145, .ireturn, 1)]
theorem aJ_441_13 : sx_iB prog_14_method_129_code aI_441_13 = true := by decide +kernel
def aS_441 (pc : Nat) : sx_IL := (if pc < 71 then (if pc < 28 then (if pc < 10 then aI_441_0 else (if pc < 18 then aI_441_1 else aI_441_2)) else (if pc < 48 then (if pc < 40 then aI_441_3 else aI_441_4) else (if pc < 59 then aI_441_5 else aI_441_6))) else (if pc < 105 then (if pc < 83 then aI_441_7 else (if pc < 91 then aI_441_8 else aI_441_9)) else (if pc < 127 then (if pc < 116 then aI_441_10 else aI_441_11) else (if pc < 139 then aI_441_12 else aI_441_13))))
theorem aT_441 (pc : Nat) : sx_iOk prog_14_method_129_code (aS_441 pc) := (sx_ite (p := fun l => sx_iOk prog_14_method_129_code l) (sx_ite (p := fun l => sx_iOk prog_14_method_129_code l) (sx_ite (p := fun l => sx_iOk prog_14_method_129_code l) (sx_iB_s aJ_441_0) (sx_ite (p := fun l => sx_iOk prog_14_method_129_code l) (sx_iB_s aJ_441_1) (sx_iB_s aJ_441_2))) (sx_ite (p := fun l => sx_iOk prog_14_method_129_code l) (sx_ite (p := fun l => sx_iOk prog_14_method_129_code l) (sx_iB_s aJ_441_3) (sx_iB_s aJ_441_4)) (sx_ite (p := fun l => sx_iOk prog_14_method_129_code l) (sx_iB_s aJ_441_5) (sx_iB_s aJ_441_6)))) (sx_ite (p := fun l => sx_iOk prog_14_method_129_code l) (sx_ite (p := fun l => sx_iOk prog_14_method_129_code l) (sx_iB_s aJ_441_7) (sx_ite (p := fun l => sx_iOk prog_14_method_129_code l) (sx_iB_s aJ_441_8) (sx_iB_s aJ_441_9))) (sx_ite (p := fun l => sx_iOk prog_14_method_129_code l) (sx_ite (p := fun l => sx_iOk prog_14_method_129_code l) (sx_iB_s aJ_441_10) (sx_iB_s aJ_441_11)) (sx_ite (p := fun l => sx_iOk prog_14_method_129_code l) (sx_iB_s aJ_441_12) (sx_iB_s aJ_441_13)))))
def aW_441 : Nat → Option (Instr × Nat) := fun pc => sx_iF (aS_441 pc) pc
theorem aX_441 : ∀ pc i len, aW_441 pc = some (i, len) → decode aM_441.1.2.1 pc = .ok (i, len) := fun pc i len h => sx_iF_s (aT_441 pc) h
def aI_442_0 : sx_IL := [(0, .aload_n 0, 1), (1, .iload_n 1, 1), (2, .invokevirtual 894, 3), (5, .ifCond .eq 12, 3), (8, .aload_n 0, 1), (9, .getfield 93, 3)]
theorem aJ_442_0 : sx_iB prog_14_method_130_code aI_442_0 = true := by decide +kernel
def aI_442_1 : sx_IL := [(12, .iload_n 1, 1), (13, .iaload, 1), (14, .ifCond .eq 5, 3), (17, .iconst (-1), 1), (18, .ireturn, 1), (19, .aload_n 0, 1)]
theorem aJ_442_1 : sx_iB prog_14_method_130_code aI_442_1 = true := by decide +kernel
def aI_442_2 : sx_IL := [(20, .getfield 517, 3), (23, .sipush 400, 3), (26, .if_icmp .le 6, 3), (29, .bipush (-2), 2), (31, .ireturn, 1), (32, .aload_n 0, 1)]
theorem aJ_442_2 : sx_iB prog_14_method_130_code aI_442_2 = true := by decide +kernel
def aI_442_3 : sx_IL := [(33, .getfield 156, 3), (36, .iload_n 1, 1), (37, .aload_n 0, 1), (38, .getfield 517, 3), (41, .iastore, 1), (42, .iconst 0, 1)]
theorem aJ_442_3 : sx_iB prog_14_method_130_code aI_442_3 = true := by decide +kernel
def aI_442_4 : sx_IL := [(43, .istore_n 2, 1), (44, .iload_n 2, 1), (45, .aload_n 0, 1), (46, .getfield 517, 3), (49, .if_icmp .ge 27, 3), (52, .aload_n 0, 1)]
theorem aJ_442_4 : sx_iB prog_14_method_130_code aI_442_4 = true := by decide +kernel
def aI_442_5 : sx_IL := [(53, .getfield 153, 3), (56, .sipush 400, 3), (59, .iload_n 1, 1), (60, .imul, 1), (61, .iload_n 2, 1), (62, .iadd, 1)]
theorem aJ_442_5 : sx_iB prog_14_method_130_code aI_442_5 = true := by decide +kernel
def aI_442_6 : sx_IL := [(63, .aload_n 0, 1), (64, .getfield 7, 3), (67, .iload_n 2, 1), (68, .iaload, 1), (69, .iastore, 1), (70, .iinc 2 1, 3)]
theorem aJ_442_6 : sx_iB prog_14_method_130_code aI_442_6 = true := by decide +kernel
def aI_442_7 : sx_IL := [(73, .goto (-29), 3), (76, .aload_n 0, 1), (77, .iconst 0, 1), (78, .putfield 517, 3), (81, .aload_n 0, 1), (82, .getfield 156, 3)]
theorem aJ_442_7 : sx_iB prog_14_method_130_code aI_442_7 = true := by decide +kernel
def aI_442_8 : sx_IL := [(85, .iload_n 1, 1), (86, .iaload, 1), (87, .ireturn, 1)]
theorem aJ_442_8 : sx_iB prog_14_method_130_code aI_442_8 = true := by decide +kernel
def aS_442 (pc : Nat) : sx_IL := (if pc < 43 then (if pc < 20 then (if pc < 12 then aI_442_0 else aI_442_1) else (if pc < 33 then aI_442_2 else aI_442_3)) else (if pc < 63 then (if pc < 53 then aI_442_4 else aI_442_5) else (if pc < 73 then aI_442_6 else (if pc < 85 then aI_442_7 else aI_442_8))))
theorem aT_442 (pc : Nat) : sx_iOk prog_14_method_130_code (aS_442 pc) := (sx_ite (p := fun l => sx_iOk prog_14_method_130_code l) (sx_ite (p := fun l => sx_iOk prog_14_method_130_code l) (sx_ite (p := fun l => sx_iOk prog_14_method_130_code l) (sx_iB_s aJ_442_0) (sx_iB_s aJ_442_1)) (sx_ite (p := fun l => sx_iOk prog_14_method_130_code l) (sx_iB_s aJ_442_2) (sx_iB_s aJ_442_3))) (sx_ite (p := fun l => sx_iOk prog_14_method_130_code l) (sx_ite (p := fun l => sx_iOk prog_14_method_130_code l) (sx_iB_s aJ_442_4) (sx_iB_s aJ_442_5)) (sx_ite (p := fun l => sx_iOk prog_14_method_130_code l) (sx_iB_s aJ_442_6) (sx_ite (p := fun l => sx_iOk prog_14_method_130_code l) (sx_iB_s aJ_442_7) (sx_iB_s aJ_442_8)))))
def aW_442 : Nat → Option (Instr × Nat) := fun pc => sx_iF (aS_442 pc) pc
theorem aX_442 : ∀ pc i len, aW_442 pc = some (i, len) → decode aM_442.1.2.1 pc = .ok (i, len) := fun pc i len h => sx_iF_s (aT_442 pc) h
def aI_443_0 : sx_IL := [(0, .aload_n 0, 1), (1, .iload_n 1, 1), (2, .invokevirtual 840, 3), (5, .ifCond .eq 22, 3), (8, .iload_n 2, 1), (9, .invokestatic 652, 3)]
theorem aJ_443_0 : sx_iB prog_14_method_132_code aI_443_0 = true := by decide +kernel
def aI_443_1 : sx_IL := [(12, .ifCond .eq 15, 3), (15, .iload_n 3, 1), (16, .i2l, 1), (17, .lconst 1, 1), (18, .ldc2_w 631, 3), (21, .invokestatic 513, 3)]
theorem aJ_443_1 : sx_iB prog_14_method_132_code aI_443_1 = true := by decide +kernel
def aI_443_2 : sx_IL := [(24, .ifCond .ne 5, 3), (27, .iconst (-1), 1), (28, .ireturn, 1), (29, .aload_n 0, 1), (30, .getfield 45, 3), (33, .bipush 8, 2)]
theorem aJ_443_2 : sx_iB prog_14_method_132_code aI_443_2 = true := by decide +kernel
def aI_443_3 : sx_IL := [(35, .iload_n 1, 1), (36, .imul, 1), (37, .iconst 5, 1), (38, .iadd, 1), (39, .iaload, 1), (40, .ifCond .eq 21, 3)]
theorem aJ_443_3 : sx_iB prog_14_method_132_code aI_443_3 = true := by decide +kernel
def aI_443_4 : sx_IL := [(43, .iload_n 2, 1), (44, .invokestatic 656, 3), (47, .aload_n 0, 1), (48, .getfield 45, 3), (51, .bipush 8, 2), (53, .iload_n 1, 1)]
theorem aJ_443_4 : sx_iB prog_14_method_132_code aI_443_4 = true := by decide +kernel
def aI_443_5 : sx_IL := [(54, .imul, 1), (55, .iconst 4, 1), (56, .iadd, 1), (57, .iaload, 1), (58, .if_icmp .eq 6, 3), (61, .bipush (-2), 2)]
theorem aJ_443_5 : sx_iB prog_14_method_132_code aI_443_5 = true := by decide +kernel
def aI_443_6 : sx_IL := [(63, .ireturn, 1), (64, .aload_n 0, 1), (65, .getfield 927, 3), (68, .iconst 4, 1), (69, .if_icmp .ne 6, 3), (72, .bipush (-3), 2)]
theorem aJ_443_6 : sx_iB prog_14_method_132_code aI_443_6 = true := by decide +kernel
def aI_443_7 : sx_IL := [(74, .ireturn, 1), (75, .aload_n 0, 1), (76, .getfield 189, 3), (79, .aload_n 0, 1), (80, .getfield 927, 3), (83, .iload_n 1, 1)]
theorem aJ_443_7 : sx_iB prog_14_method_132_code aI_443_7 = true := by decide +kernel
def aI_443_8 : sx_IL := [(84, .iastore, 1), (85, .aload_n 0, 1), (86, .getfield 192, 3), (89, .aload_n 0, 1), (90, .getfield 927, 3), (93, .iload_n 2, 1)]
theorem aJ_443_8 : sx_iB prog_14_method_132_code aI_443_8 = true := by decide +kernel
def aI_443_9 : sx_IL := [(94, .iastore, 1), (95, .aload_n 0, 1), (96, .getfield 195, 3), (99, .aload_n 0, 1), (100, .getfield 927, 3), (103, .iload_n 3, 1)]
theorem aJ_443_9 : sx_iB prog_14_method_132_code aI_443_9 = true := by decide +kernel
def aI_443_10 : sx_IL := [(104, .iastore, 1), (105, .aload_n 0, 1), (106, .getfield 198, 3), (109, .aload_n 0, 1), (110, .getfield 927, 3), (113, .iconst 1, 1)]
theorem aJ_443_10 : sx_iB prog_14_method_132_code aI_443_10 = true := by decide +kernel
def aI_443_11 : sx_IL := [(114, .iastore, 1), (115, .aload_n 0, 1), (116, .getfield 201, 3), (119, .aload_n 0, 1), (120, .getfield 927, 3), (123, .iconst 1, 1)]
theorem aJ_443_11 : sx_iB prog_14_method_132_code aI_443_11 = true := by decide +kernel
def aI_443_12 : sx_IL := [(124, .iastore, 1), (125, .aload_n 0, 1), (126, .getfield 204, 3), (129, .aload_n 0, 1), (130, .getfield 927, 3), (133, .iconst 1, 1)]
theorem aJ_443_12 : sx_iB prog_14_method_132_code aI_443_12 = true := by decide +kernel
def aI_443_13 : sx_IL := [(134, .iastore, 1), (135, .aload_n 0, 1), (136, .dup, 1), (137, .getfield 927, 3), (140, .iconst 1, 1), (141, .iadd, 1)]
theorem aJ_443_13 : sx_iB prog_14_method_132_code aI_443_13 = true := by decide +kernel
def aI_443_14 : sx_IL := [(142, .putfield 927, 3), (145, .aload_n 0, 1), (146, .getfield 927, 3), (149, .iconst 1, 1), (150, .isub, 1), (151, .ireturn, 1)]
theorem aJ_443_14 : sx_iB prog_14_method_132_code aI_443_14 = true := by decide +kernel
def aS_443 (pc : Nat) : sx_IL := (if pc < 74 then (if pc < 35 then (if pc < 12 then aI_443_0 else (if pc < 24 then aI_443_1 else aI_443_2)) else (if pc < 54 then (if pc < 43 then aI_443_3 else aI_443_4) else (if pc < 63 then aI_443_5 else aI_443_6))) else (if pc < 114 then (if pc < 94 then (if pc < 84 then aI_443_7 else aI_443_8) else (if pc < 104 then aI_443_9 else aI_443_10)) else (if pc < 134 then (if pc < 124 then aI_443_11 else aI_443_12) else (if pc < 142 then aI_443_13 else aI_443_14))))
theorem aT_443 (pc : Nat) : sx_iOk prog_14_method_132_code (aS_443 pc) := (sx_ite (p := fun l => sx_iOk prog_14_method_132_code l) (sx_ite (p := fun l => sx_iOk prog_14_method_132_code l) (sx_ite (p := fun l => sx_iOk prog_14_method_132_code l) (sx_iB_s aJ_443_0) (sx_ite (p := fun l => sx_iOk prog_14_method_132_code l) (sx_iB_s aJ_443_1) (sx_iB_s aJ_443_2))) (sx_ite (p := fun l => sx_iOk prog_14_method_132_code l) (sx_ite (p := fun l => sx_iOk prog_14_method_132_code l) (sx_iB_s aJ_443_3) (sx_iB_s aJ_443_4)) (sx_ite (p := fun l => sx_iOk prog_14_method_132_code l) (sx_iB_s aJ_443_5) (sx_iB_s aJ_443_6)))) (sx_ite (p := fun l => sx_iOk prog_14_method_132_code l) (sx_ite (p := fun l => sx_iOk prog_14_method_132_code l) (sx_ite (p := fun l => sx_iOk prog_14_method_132_code l) (sx_iB_s aJ_443_7) (sx_iB_s aJ_443_8)) (sx_ite (p := fun l => sx_iOk prog_14_method_132_code l) (sx_iB_s aJ_443_9) (sx_iB_s aJ_443_10))) (sx_ite (p := fun l => sx_iOk prog_14_method_132_code l) (sx_ite (p := fun l => sx_iOk prog_14_method_132_code l) (sx_iB_s aJ_443_11) (sx_iB_s aJ_443_12)) (sx_ite (p := fun l => sx_iOk prog_14_method_132_code l) (sx_iB_s aJ_443_13) (sx_iB_s aJ_443_14)))))
def aW_443 : Nat → Option (Instr × Nat) := fun pc => sx_iF (aS_443 pc) pc
theorem aX_443 : ∀ pc i len, aW_443 pc = some (i, len) → decode aM_443.1.2.1 pc = .ok (i, len) := fun pc i len h => sx_iF_s (aT_443 pc) h
def aI_444_0 : sx_IL := [(0, .aload_n 0, 1), (1, .iload_n 1, 1), (2, .invokevirtual 930, 3), (5, .ifCond .ne 5, 3), (8, .iconst (-1), 1), (9, .ireturn, 1)]
theorem aJ_444_0 : sx_iB prog_14_method_133_code aI_444_0 = true := by decide +kernel
def aI_444_1 : sx_IL := [(10, .aload_n 0, 1), (11, .getfield 207, 3), (14, .iload_n 1, 1), (15, .iaload, 1), (16, .bipush 8, 2), (18, .if_icmp .ne 6, 3)]
theorem aJ_444_1 : sx_iB prog_14_method_133_code aI_444_1 = true := by decide +kernel
def aI_444_2 : sx_IL := [(21, .bipush (-3), 2), (23, .ireturn, 1), (24, .aload_n 0, 1), (25, .getfield 210, 3), (28, .bipush 8, 2), (30, .iload_n 1, 1)]
theorem aJ_444_2 : sx_iB prog_14_method_133_code aI_444_2 = true := by decide +kernel
def aI_444_3 : sx_IL := [(31, .imul, 1), (32, .aload_n 0, 1), (33, .getfield 207, 3), (36, .iload_n 1, 1), (37, .iaload, 1), (38, .iadd, 1)]
theorem aJ_444_3 : sx_iB prog_14_method_133_code aI_444_3 = true := by decide +kernel
def aI_444_4 : sx_IL := [(39, .lload_n 2, 1), (40, .lastore, 1), (41, .aload_n 0, 1), (42, .getfield 207, 3), (45, .iload_n 1, 1), (46, .dup2, 1)]
theorem aJ_444_4 : sx_iB prog_14_method_133_code aI_444_4 = true := by decide +kernel
def aI_444_5 : sx_IL := [(47, .iaload, 1), (48, .iconst 1, 1), (49, .iadd, 1), (50, .iastore, 1), (51, .aload_n 0, 1), (52, .getfield 207, 3)]
theorem aJ_444_5 : sx_iB prog_14_method_133_code aI_444_5 = true := by decide +kernel
def aI_444_6 : sx_IL := [(55, .iload_n 1, 1), (56, .iaload, 1), (57, .iconst 1, 1), (58, .isub, 1), (59, .ireturn, 1)]
theorem aJ_444_6 : sx_iB prog_14_method_133_code aI_444_6 = true := by decide +kernel
def aS_444 (pc : Nat) : sx_IL := (if pc < 31 then (if pc < 10 then aI_444_0 else (if pc < 21 then aI_444_1 else aI_444_2)) else (if pc < 47 then (if pc < 39 then aI_444_3 else aI_444_4) else (if pc < 55 then aI_444_5 else aI_444_6)))
theorem aT_444 (pc : Nat) : sx_iOk prog_14_method_133_code (aS_444 pc) := (sx_ite (p := fun l => sx_iOk prog_14_method_133_code l) (sx_ite (p := fun l => sx_iOk prog_14_method_133_code l) (sx_iB_s aJ_444_0) (sx_ite (p := fun l => sx_iOk prog_14_method_133_code l) (sx_iB_s aJ_444_1) (sx_iB_s aJ_444_2))) (sx_ite (p := fun l => sx_iOk prog_14_method_133_code l) (sx_ite (p := fun l => sx_iOk prog_14_method_133_code l) (sx_iB_s aJ_444_3) (sx_iB_s aJ_444_4)) (sx_ite (p := fun l => sx_iOk prog_14_method_133_code l) (sx_iB_s aJ_444_5) (sx_iB_s aJ_444_6))))
def aW_444 : Nat → Option (Instr × Nat) := fun pc => sx_iF (aS_444 pc) pc
theorem aX_444 : ∀ pc i len, aW_444 pc = some (i, len) → decode aM_444.1.2.1 pc = .ok (i, len) := fun pc i len h => sx_iF_s (aT_444 pc) h
def aI_445_0 : sx_IL := [(0, .iload_n 1, 1), (1, .i2l, 1), (2, .lconst 0, 1), (3, .aload_n 0, 1), (4, .getfield 927, 3), (7, .iconst 1, 1)]
theorem aJ_445_0 : sx_iB prog_14_method_131_code aI_445_0 = true := by decide +kernel
def aI_445_1 : sx_IL := [(8, .isub, 1), (9, .i2l, 1), (10, .invokestatic 513, 3), (13, .ireturn, 1)]
theorem aJ_445_1 : sx_iB prog_14_method_131_code aI_445_1 = true := by decide +kernel
def aS_445 (pc : Nat) : sx_IL := (if pc < 8 then aI_445_0 else aI_445_1)
theorem aT_445 (pc : Nat) : sx_iOk prog_14_method_131_code (aS_445 pc) := (sx_ite (p := fun l => sx_iOk prog_14_method_131_code l) (sx_iB_s aJ_445_0) (sx_iB_s aJ_445_1))
def aW_445 : Nat → Option (Instr × Nat) := fun pc => sx_iF (aS_445 pc) pc
theorem aX_445 : ∀ pc i len, aW_445 pc = some (i, len) → decode aM_445.1.2.1 pc = .ok (i, len) := fun pc i len h => sx_iF_s (aT_445 pc) h
def aI_447_0 : sx_IL := [(0, .aload_n 0, 1), (1, .iload_n 1, 1), (2, .iload_n 2, 1), (3, .invokevirtual 933, 3), (6, .ifCond .ne 5, 3), (9, .iconst (-1), 1)]
theorem aJ_447_0 : sx_iB prog_14_method_136_code aI_447_0 = true := by decide +kernel
def aI_447_1 : sx_IL := [(10, .ireturn, 1), (11, .bipush 12, 2), (13, .iload_n 1, 1), (14, .imul, 1), (15, .iload_n 2, 1), (16, .iadd, 1)]
theorem aJ_447_1 : sx_iB prog_14_method_136_code aI_447_1 = true := by decide +kernel
def aI_447_2 : sx_IL := [(17, .istore 4, 2), (19, .iload_n 3, 1), (20, .i2l, 1), (21, .lconst 0, 1), (22, .ldc2_w 609, 3), (25, .invokestatic 513, 3)]
theorem aJ_447_2 : sx_iB prog_14_method_136_code aI_447_2 = true := by decide +kernel
def aI_447_3 : sx_IL := [(28, .ifCond .eq 55, 3), (31, .iload_n 3, 1), (32, .ifCond .ne 13, 3), (35, .aload_n 0, 1), (36, .getfield 219, 3), (39, .iload 4, 2)]
theorem aJ_447_3 : sx_iB prog_14_method_136_code aI_447_3 = true := by decide +kernel
def aI_447_4 : sx_IL := [(41, .iaload, 1), (42, .goto 40, 3), (45, .iload_n 3, 1), (46, .iconst 1, 1), (47, .if_icmp .ne 13, 3), (50, .aload_n 0, 1)]
theorem aJ_447_4 : sx_iB prog_14_method_136_code aI_447_4 = true := by decide +kernel
def aI_447_5 : sx_IL := [(51, .getfield 216, 3), (54, .iload 4, 2), (56, .iaload, 1), (57, .goto 25, 3), (60, .iload_n 3, 1), (61, .iconst 2, 1)]
theorem aJ_447_5 : sx_iB prog_14_method_136_code aI_447_5 = true := by decide +kernel
def aI_447_6 : sx_IL := [(62, .if_icmp .ne 13, 3), (65, .aload_n 0, 1), (66, .getfield 225, 3), (69, .iload 4, 2), (71, .iaload, 1), (72, .goto 10, 3)]
theorem aJ_447_6 : sx_iB prog_14_method_136_code aI_447_6 = true := by decide +kernel
def aI_447_7 : sx_IL := [(75, .aload_n 0, 1), (76, .getfield 222, 3), (79, .iload 4, 2), (81, .iaload, 1), (82, .ireturn, 1), (83, .iload_n 3, 1)]
theorem aJ_447_7 : sx_iB prog_14_method_136_code aI_447_7 = true := by decide +kernel
def aI_447_8 : sx_IL := [(84, .i2l, 1), (85, .ldc2_w 845, 3), (88, .bipush 9, 2), (90, .aload_n 0, 1), (91, .getfield 225, 3), (94, .iload 4, 2)]
theorem aJ_447_8 : sx_iB prog_14_method_136_code aI_447_8 = true := by decide +kernel
def aI_447_9 : sx_IL := [(96, .iaload, 1), (97, .iadd, 1), (98, .i2l, 1), (99, .invokestatic 513, 3), (102, .ifCond .eq 18, 3), (105, .aload_n 0, 1)]
theorem aJ_447_9 : sx_iB prog_14_method_136_code aI_447_9 = true := by decide +kernel
def aI_447_10 : sx_IL := [(106, .getfield 234, 3), (109, .iconst 3, 1), (110, .iload 4, 2), (112, .imul, 1), (113, .iload_n 3, 1), (114, .iadd, 1)]
theorem aJ_447_10 : sx_iB prog_14_method_136_code aI_447_10 = true := by decide +kernel
def aI_447_11 : sx_IL := [(115, .bipush 10, 2), (117, .isub, 1), (118, .iaload, 1), (119, .ireturn, 1), (120, .iload_n 3, 1), (121, .i2l, 1)]
theorem aJ_447_11 : sx_iB prog_14_method_136_code aI_447_11 = true := by decide +kernel
def aI_447_12 : sx_IL := [(122, .ldc2_w 936, 3), (125, .bipush 19, 2), (127, .aload_n 0, 1), (128, .getfield 225, 3), (131, .iload 4, 2), (133, .iaload, 1)]
theorem aJ_447_12 : sx_iB prog_14_method_136_code aI_447_12 = true := by decide +kernel
def aI_447_13 : sx_IL := [(134, .iadd, 1), (135, .i2l, 1), (136, .invokestatic 513, 3), (139, .ifCond .eq 20, 3), (142, .aload_n 0, 1), (143, .getfield 237, 3)]
theorem aJ_447_13 : sx_iB prog_14_method_136_code aI_447_13 = true := by decide +kernel
def aI_447_14 : sx_IL := [(146, .iconst 3, 1), (147, .iload 4, 2), (149, .imul, 1), (150, .iload_n 3, 1), (151, .iadd, 1), (152, .bipush 20, 2)]
theorem aJ_447_14 : sx_iB prog_14_method_136_code aI_447_14 = true := by decide +kernel
def aI_447_15 : sx_IL := [(154, .isub, 1), (155, .iaload, 1), (156, .goto 4, 3), (159, .iconst (-1), 1), (160, .ireturn, 1)]
theorem aJ_447_15 : sx_iB prog_14_method_136_code aI_447_15 = true := by decide +kernel
def aS_447 (pc : Nat) : sx_IL := (if pc < 84 then (if pc < 41 then (if pc < 17 then (if pc < 10 then aI_447_0 else aI_447_1) else (if pc < 28 then aI_447_2 else aI_447_3)) else (if pc < 62 then (if pc < 51 then aI_447_4 else aI_447_5) else (if pc < 75 then aI_447_6 else aI_447_7))) else (if pc < 122 then (if pc < 106 then (if pc < 96 then aI_447_8 else aI_447_9) else (if pc < 115 then aI_447_10 else aI_447_11)) else (if pc < 146 then (if pc < 134 then aI_447_12 else aI_447_13) else (if pc < 154 then aI_447_14 else aI_447_15))))
theorem aT_447 (pc : Nat) : sx_iOk prog_14_method_136_code (aS_447 pc) := (sx_ite (p := fun l => sx_iOk prog_14_method_136_code l) (sx_ite (p := fun l => sx_iOk prog_14_method_136_code l) (sx_ite (p := fun l => sx_iOk prog_14_method_136_code l) (sx_ite (p := fun l => sx_iOk prog_14_method_136_code l) (sx_iB_s aJ_447_0) (sx_iB_s aJ_447_1)) (sx_ite (p := fun l => sx_iOk prog_14_method_136_code l) (sx_iB_s aJ_447_2) (sx_iB_s aJ_447_3))) (sx_ite (p := fun l => sx_iOk prog_14_method_136_code l) (sx_ite (p := fun l => sx_iOk prog_14_method_136_code l) (sx_iB_s aJ_447_4) (sx_iB_s aJ_447_5)) (sx_ite (p := fun l => sx_iOk prog_14_method_136_code l) (sx_iB_s aJ_447_6) (sx_iB_s aJ_447_7)))) (sx_ite (p := fun l => sx_iOk prog_14_method_136_code l) (sx_ite (p := fun l => sx_iOk prog_14_method_136_code l) (sx_ite (p := fun l => sx_iOk prog_14_method_136_code l) (sx_iB_s aJ_447_8) (sx_iB_s aJ_447_9)) (sx_ite (p := fun l => sx_iOk prog_14_method_136_code l) (sx_iB_s aJ_447_10) (sx_iB_s aJ_447_11))) (sx_ite (p := fun l => sx_iOk prog_14_method_136_code l) (sx_ite (p := fun l => sx_iOk prog_14_method_136_code l) (sx_iB_s aJ_447_12) (sx_iB_s aJ_447_13)) (sx_ite (p := fun l => sx_iOk prog_14_method_136_code l) (sx_iB_s aJ_447_14) (sx_iB_s aJ_447_15)))))
def aW_447 : Nat → Option (Instr × Nat) := fun pc => sx_iF (aS_447 pc) pc
theorem aX_447 : ∀ pc i len, aW_447 pc = some (i, len) → decode aM_447.1.2.1 pc = .ok (i, len) := fun pc i len h => sx_iF_s (aT_447 pc) h
def aI_448_0 : sx_IL := [(0, .aload_n 0, 1), (1, .iload_n 1, 1), (2, .invokevirtual 930, 3), (5, .ifCond .eq 25, 3), (8, .iload_n 2, 1), (9, .i2l, 1)]
theorem aJ_448_0 : sx_iB prog_14_method_135_code aI_448_0 = true := by decide +kernel
def aI_448_1 : sx_IL := [(10, .lconst 0, 1), (11, .aload_n 0, 1), (12, .getfield 213, 3), (15, .iload_n 1, 1), (16, .iaload, 1), (17, .iconst 1, 1)]
theorem aJ_448_1 : sx_iB prog_14_method_135_code aI_448_1 = true := by decide +kernel
def aI_448_2 : sx_IL := [(18, .isub, 1), (19, .i2l, 1), (20, .invokestatic 513, 3), (23, .ifCond .eq 7, 3), (26, .iconst 1, 1), (27, .goto 4, 3)]
theorem aJ_448_2 : sx_iB prog_14_method_135_code aI_448_2 = true := by decide +kernel
def aI_448_3 : sx_IL := [(30, .iconst 0, 1), (31, .ireturn, 1)]
theorem aJ_448_3 : sx_iB prog_14_method_135_code aI_448_3 = true := by decide +kernel
def aS_448 (pc : Nat) : sx_IL := (if pc < 18 then (if pc < 10 then aI_448_0 else aI_448_1) else (if pc < 30 then aI_448_2 else aI_448_3))
theorem aT_448 (pc : Nat) : sx_iOk prog_14_method_135_code (aS_448 pc) := (sx_ite (p := fun l => sx_iOk prog_14_method_135_code l) (sx_ite (p := fun l => sx_iOk prog_14_method_135_code l) (sx_iB_s aJ_448_0) (sx_iB_s aJ_448_1)) (sx_ite (p := fun l => sx_iOk prog_14_method_135_code l) (sx_iB_s aJ_448_2) (sx_iB_s aJ_448_3)))
def aW_448 : Nat → Option (Instr × Nat) := fun pc => sx_iF (aS_448 pc) pc
theorem aX_448 : ∀ pc i len, aW_448 pc = some (i, len) → decode aM_448.1.2.1 pc = .ok (i, len) := fun pc i len h => sx_iF_s (aT_448 pc) h
def aI_449_0 : sx_IL := [(0, .aload_n 0, 1), (1, .getfield 7, 3), (4, .iconst 0, 1), (5, .aload_n 0, 1), (6, .getfield 517, 3), (9, .invokestatic 724, 3)]
theorem aJ_449_0 : sx_iB prog_14_method_137_code aI_449_0 = true := by decide +kernel
def aI_449_1 : sx_IL := [(12, .bipush (-4), 2), (14, .if_icmp .eq 6, 3), (17, .bipush (-2), 2), (19, .ireturn, 1), (20, .aload_n 0, 1), (21, .getfield 938, 3)]
theorem aJ_449_1 : sx_iB prog_14_method_137_code aI_449_1 = true := by decide +kernel
def aI_449_2 : sx_IL := [(24, .istore_n 3, 1), (25, .iconst 0, 1), (26, .istore 4, 2), (28, .iload 4, 2), (30, .aload_n 0, 1), (31, .getfield 938, 3)]
theorem aJ_449_2 : sx_iB prog_14_method_137_code aI_449_2 = true := by decide +kernel
def aI_449_3 : sx_IL := [(34, .if_icmp .ge 47, 3), (37, .aload_n 0, 1), (38, .getfield 7, 3), (41, .iconst 0, 1), (42, .aload_n 0, 1), (43, .getfield 517, 3)]
theorem aJ_449_3 : sx_iB prog_14_method_137_code aI_449_3 = true := by decide +kernel
def aI_449_4 : sx_IL := [(46, .aload_n 0, 1), (47, .getfield 246, 3), (50, .bipush 40, 2), (52, .iload 4, 2), (54, .imul, 1), (55, .aload_n 0, 1)]
theorem aJ_449_4 : sx_iB prog_14_method_137_code aI_449_4 = true := by decide +kernel
def aI_449_5 : sx_IL := [(56, .getfield 249, 3), (59, .iload 4, 2), (61, .iaload, 1), (62, .invokestatic 847, 3), (65, .ifCond .eq 8, 3), (68, .iload 4, 2)]
theorem aJ_449_5 : sx_iB prog_14_method_137_code aI_449_5 = true := by decide +kernel
def aI_449_6 : sx_IL := [(70, .goto 4, 3), (73, .iload_n 3, 1), (74, .istore_n 3, 1), (75, .iinc 4 1, 3), (78, .goto (-50), 3), (81, .iload_n 3, 1)]
theorem aJ_449_6 : sx_iB prog_14_method_137_code aI_449_6 = true := by decide +kernel
def aI_449_7 : sx_IL := [(82, .bipush 16, 2), (84, .if_icmp .ne 6, 3), (87, .bipush (-3), 2), (89, .ireturn, 1), (90, .aload_n 0, 1), (91, .getfield 249, 3)]
theorem aJ_449_7 : sx_iB prog_14_method_137_code aI_449_7 = true := by decide +kernel
def aI_449_8 : sx_IL := [(94, .iload_n 3, 1), (95, .aload_n 0, 1), (96, .getfield 517, 3), (99, .iastore, 1), (100, .iconst 0, 1), (101, .istore 4, 2)]
theorem aJ_449_8 : sx_iB prog_14_method_137_code aI_449_8 = true := by decide +kernel
def aI_449_9 : sx_IL := [(103, .iload 4, 2), (105, .aload_n 0, 1), (106, .getfield 517, 3), (109, .if_icmp .ge 28, 3), (112, .aload_n 0, 1), (113, .getfield 246, 3)]
theorem aJ_449_9 : sx_iB prog_14_method_137_code aI_449_9 = true := by decide +kernel
def aI_449_10 : sx_IL := [(116, .bipush 40, 2), (118, .iload_n 3, 1), (119, .imul, 1), (120, .iload 4, 2), (122, .iadd, 1), (123, .aload_n 0, 1)]
theorem aJ_449_10 : sx_iB prog_14_method_137_code aI_449_10 = true := by decide +kernel
def aI_449_11 : sx_IL := [(124, .getfield 7, 3), (127, .iload 4, 2), (129, .iaload, 1), (130, .iastore, 1), (131, .iinc 4 1, 3), (134, .goto (-31), 3)]
theorem aJ_449_11 : sx_iB prog_14_method_137_code aI_449_11 = true := by decide +kernel
def aI_449_12 : sx_IL := [(137, .aload_n 0, 1), (138, .getfield 252, 3), (141, .iload_n 3, 1), (142, .lload_n 1, 1), (143, .lastore, 1), (144, .aload_n 0, 1)]
theorem aJ_449_12 : sx_iB prog_14_method_137_code aI_449_12 = true := by decide +kernel
def aI_449_13 : sx_IL := [(145, .iload_n 3, 1), (146, .aload_n 0, 1), (147, .getfield 938, 3), (150, .if_icmp .ne 12, 3), (153, .aload_n 0, 1), (154, .getfield 938, 3)]
theorem aJ_449_13 : sx_iB prog_14_method_137_code aI_449_13 = true := by decide +kernel
def aI_449_14 : sx_IL := [(157, .iconst 1, 1), (158, .iadd, 1), (159, .goto 7, 3), (162, .aload_n 0, 1), (163, .getfield 938, 3), (166, .putfield 938, 3)]
theorem aJ_449_14 : sx_iB prog_14_method_137_code aI_449_14 = true := by decide +kernel
def aI_449_15 : sx_IL := [(169, .aload_n 0, 1), (170, .iconst 0, 1), (171, .putfield 517, 3), (174, .aload_n 0, 1), (175, .getfield 938, 3), (178, .ireturn, 1)]
theorem aJ_449_15 : sx_iB prog_14_method_137_code aI_449_15 = true := by decide +kernel
def aS_449 (pc : Nat) : sx_IL := (if pc < 94 then (if pc < 46 then (if pc < 24 then (if pc < 12 then aI_449_0 else aI_449_1) else (if pc < 34 then aI_449_2 else aI_449_3)) else (if pc < 70 then (if pc < 56 then aI_449_4 else aI_449_5) else (if pc < 82 then aI_449_6 else aI_449_7))) else (if pc < 137 then (if pc < 116 then (if pc < 103 then aI_449_8 else aI_449_9) else (if pc < 124 then aI_449_10 else aI_449_11)) else (if pc < 157 then (if pc < 145 then aI_449_12 else aI_449_13) else (if pc < 169 then aI_449_14 else aI_449_15))))
theorem aT_449 (pc : Nat) : sx_iOk prog_14_method_137_code (aS_449 pc) := (sx_ite (p := fun l => sx_iOk prog_14_method_137_code l) (sx_ite (p := fun l => sx_iOk prog_14_method_137_code l) (sx_ite (p := fun l => sx_iOk prog_14_method_137_code l) (sx_ite (p := fun l => sx_iOk prog_14_method_137_code l) (sx_iB_s aJ_449_0) (sx_iB_s aJ_449_1)) (sx_ite (p := fun l => sx_iOk prog_14_method_137_code l) (sx_iB_s aJ_449_2) (sx_iB_s aJ_449_3))) (sx_ite (p := fun l => sx_iOk prog_14_method_137_code l) (sx_ite (p := fun l => sx_iOk prog_14_method_137_code l) (sx_iB_s aJ_449_4) (sx_iB_s aJ_449_5)) (sx_ite (p := fun l => sx_iOk prog_14_method_137_code l) (sx_iB_s aJ_449_6) (sx_iB_s aJ_449_7)))) (sx_ite (p := fun l => sx_iOk prog_14_method_137_code l) (sx_ite (p := fun l => sx_iOk prog_14_method_137_code l) (sx_ite (p := fun l => sx_iOk prog_14_method_137_code l) (sx_iB_s aJ_449_8) (sx_iB_s aJ_449_9)) (sx_ite (p := fun l => sx_iOk prog_14_method_137_code l) (sx_iB_s aJ_449_10) (sx_iB_s aJ_449_11))) (sx_ite (p := fun l => sx_iOk prog_14_method_137_code l) (sx_ite (p := fun l => sx_iOk prog_14_method_137_code l) (sx_iB_s aJ_449_12) (sx_iB_s aJ_449_13)) (sx_ite (p := fun l => sx_iOk prog_14_method_137_code l) (sx_iB_s aJ_449_14) (sx_iB_s aJ_449_15)))))
def aW_449 : Nat → Option (Instr × Nat) := fun pc => sx_iF (aS_449 pc) pc
theorem aX_449 : ∀ pc i len, aW_449 pc = some (i, len) → decode aM_449.1.2.1 pc = .ok (i, len) := fun pc i len h => sx_iF_s (aT_449 pc) h
def aI_450_0 : sx_IL := [(0, .aload_n 0, 1), (1, .iload_n 1, 1), (2, .iload_n 2, 1), (3, .invokevirtual 933, 3), (6, .ifCond .eq 26, 3), (9, .iload_n 3, 1)]
theorem aJ_450_0 : sx_iB prog_14_method_139_code aI_450_0 = true := by decide +kernel
def aI_450_1 : sx_IL := [(10, .i2l, 1), (11, .lconst 0, 1), (12, .aload_n 0, 1), (13, .getfield 225, 3), (16, .bipush 12, 2), (18, .iload_n 1, 1)]
theorem aJ_450_1 : sx_iB prog_14_method_139_code aI_450_1 = true := by decide +kernel
def aI_450_2 : sx_IL := [(19, .imul, 1), (20, .iload_n 2, 1), (21, .iadd, 1), (22, .iaload, 1), (23, .iconst 1, 1), (24, .isub, 1)]
theorem aJ_450_2 : sx_iB prog_14_method_139_code aI_450_2 = true := by decide +kernel
def aI_450_3 : sx_IL := [(25, .i2l, 1), (26, .invokestatic 513, 3), (29, .ifCond .ne 5, 3), (32, .iconst (-1), 1), (33, .ireturn, 1), (34, .bipush 12, 2)]
theorem aJ_450_3 : sx_iB prog_14_method_139_code aI_450_3 = true := by decide +kernel
def aI_450_4 : sx_IL := [(36, .iload_n 1, 1), (37, .imul, 1), (38, .iload_n 2, 1), (39, .iadd, 1), (40, .istore 4, 2), (42, .iconst 3, 1)]
theorem aJ_450_4 : sx_iB prog_14_method_139_code aI_450_4 = true := by decide +kernel
def aI_450_5 : sx_IL := [(43, .iload 4, 2), (45, .imul, 1), (46, .iload_n 3, 1), (47, .iadd, 1), (48, .istore 5, 2), (50, .aload_n 0, 1)]
theorem aJ_450_5 : sx_iB prog_14_method_139_code aI_450_5 = true := by decide +kernel
def aI_450_6 : sx_IL := [(51, .getfield 219, 3), (54, .iload 4, 2), (56, .iaload, 1), (57, .ifCond .ne 13, 3), (60, .aload_n 0, 1), (61, .getfield 237, 3)]
theorem aJ_450_6 : sx_iB prog_14_method_139_code aI_450_6 = true := by decide +kernel
def aI_450_7 : sx_IL := [(64, .iload 5, 2), (66, .iaload, 1), (67, .ifCond .eq 6, 3), (70, .bipush (-2), 2), (72, .ireturn, 1), (73, .aload_n 0, 1)]
theorem aJ_450_7 : sx_iB prog_14_method_139_code aI_450_7 = true := by decide +kernel
def aI_450_8 : sx_IL := [(74, .getfield 228, 3), (77, .bipush 42, 2), (79, .iload 5, 2), (81, .imul, 1), (82, .invokestatic 941, 3), (85, .istore 6, 2)]
theorem aJ_450_8 : sx_iB prog_14_method_139_code aI_450_8 = true := by decide +kernel
def aI_450_9 : sx_IL := [(87, .aload_n 0, 1), (88, .iconst 0, 1), (89, .aload_n 0, 1), (90, .getfield 210, 3), (93, .bipush 8, 2), (95, .iload_n 1, 1)]
theorem aJ_450_9 : sx_iB prog_14_method_139_code aI_450_9 = true := by decide +kernel
def aI_450_10 : sx_IL := [(96, .imul, 1), (97, .aload_n 0, 1), (98, .getfield 216, 3), (101, .iload 4, 2), (103, .iaload, 1), (104, .iadd, 1)]
theorem aJ_450_10 : sx_iB prog_14_method_139_code aI_450_10 = true := by decide +kernel
def aI_450_11 : sx_IL := [(105, .laload, 1), (106, .bipush 122, 2), (108, .aload_n 0, 1), (109, .getfield 234, 3), (112, .iload 5, 2), (114, .iaload, 1)]
theorem aJ_450_11 : sx_iB prog_14_method_139_code aI_450_11 = true := by decide +kernel
def aI_450_12 : sx_IL := [(115, .i2l, 1), (116, .invokevirtual 598, 3), (119, .lstore 7, 2), (121, .aload_n 0, 1), (122, .getfield 237, 3), (125, .iload 5, 2)]
theorem aJ_450_12 : sx_iB prog_14_method_139_code aI_450_12 = true := by decide +kernel
def aI_450_13 : sx_IL := [(127, .iconst 2, 1), (128, .iastore, 1), (129, .iconst 0, 1), (130, .istore 9, 2), (132, .iload 9, 2), (134, .aload_n 0, 1)]
theorem aJ_450_13 : sx_iB prog_14_method_139_code aI_450_13 = true := by decide +kernel
def aI_450_14 : sx_IL := [(135, .getfield 938, 3), (138, .if_icmp .ge 74, 3), (141, .aload_n 0, 1), (142, .getfield 252, 3), (145, .iload 9, 2), (147, .laload, 1)]
theorem aJ_450_14 : sx_iB prog_14_method_139_code aI_450_14 = true := by decide +kernel
def aI_450_15 : sx_IL := [(148, .lload 7, 2), (150, .lcmp, 1), (151, .ifCond .ne 55, 3), (154, .aload_n 0, 1), (155, .getfield 228, 3), (158, .bipush 42, 2)]
theorem aJ_450_15 : sx_iB prog_14_method_139_code aI_450_15 = true := by decide +kernel
def aI_450_16 : sx_IL := [(160, .iload 5, 2), (162, .imul, 1), (163, .iload 6, 2), (165, .iadd, 1), (166, .aload_n 0, 1), (167, .getfield 231, 3)]
theorem aJ_450_16 : sx_iB prog_14_method_139_code aI_450_16 = true := by decide +kernel
def aI_450_17 : sx_IL := [(170, .iload 5, 2), (172, .iaload, 1), (173, .iload 6, 2), (175, .isub, 1), (176, .aload_n 0, 1), (177, .getfield 246, 3)]
theorem aJ_450_17 : sx_iB prog_14_method_139_code aI_450_17 = true := by decide +kernel
def aI_450_18 : sx_IL := [(180, .bipush 40, 2), (182, .iload 9, 2), (184, .imul, 1), (185, .aload_n 0, 1), (186, .getfield 249, 3), (189, .iload 9, 2)]
theorem aJ_450_18 : sx_iB prog_14_method_139_code aI_450_18 = true := by decide +kernel
def aI_450_19 : sx_IL := [(191, .iaload, 1), (192, .invokestatic 847, 3), (195, .ifCond .eq 11, 3), (198, .aload_n 0, 1), (199, .getfield 237, 3), (202, .iload 5, 2)]
theorem aJ_450_19 : sx_iB prog_14_method_139_code aI_450_19 = true := by decide +kernel
def aI_450_20 : sx_IL := [(204, .iconst 1, 1), (205, .iastore, 1), (206, .iinc 9 1, 3), (209, .goto (-77), 3), (212, .iconst 1, 1), (213, .istore 9, 2)]
theorem aJ_450_20 : sx_iB prog_14_method_139_code aI_450_20 = true := by decide +kernel
def aI_450_21 : sx_IL := [(215, .iconst 0, 1), (216, .istore 10, 2), (218, .iload 10, 2), (220, .aload_n 0, 1), (221, .getfield 225, 3), (224, .iload 4, 2)]
theorem aJ_450_21 : sx_iB prog_14_method_139_code aI_450_21 = true := by decide +kernel
def aI_450_22 : sx_IL := [(226, .iaload, 1), (227, .if_icmp .ge 37, 3), (230, .iload 9, 2), (232, .ifCond .eq 23, 3), (235, .aload_n 0, 1), (236, .getfield 237, 3)]
theorem aJ_450_22 : sx_iB prog_14_method_139_code aI_450_22 = true := by decide +kernel
def aI_450_23 : sx_IL := [(239, .iconst 3, 1), (240, .iload 4, 2), (242, .imul, 1), (243, .iload 10, 2), (245, .iadd, 1), (246, .iaload, 1)]
theorem aJ_450_23 : sx_iB prog_14_method_139_code aI_450_23 = true := by decide +kernel
def aI_450_24 : sx_IL := [(247, .iconst 1, 1), (248, .if_icmp .ne 7, 3), (251, .iconst 1, 1), (252, .goto 4, 3), (255, .iconst 0, 1), (256, .istore 9, 2)]
theorem aJ_450_24 : sx_iB prog_14_method_139_code aI_450_24 = true := by decide +kernel
def aI_450_25 : sx_IL := [(258, .iinc 10 1, 3), (261, .goto (-43), 3), (264, .aload_n 0, 1), (265, .getfield 219, 3), (268, .iload 4, 2), (270, .aload_n 0, 1)]
theorem aJ_450_25 : sx_iB prog_14_method_139_code aI_450_25 = true := by decide +kernel
def aI_450_26 : sx_IL := [(271, .getfield 237, 3), (274, .iload 5, 2), (276, .iaload, 1), (277, .iconst 2, 1), (278, .if_icmp .ne 7, 3), (281, .iconst 3, 1)]
theorem aJ_450_26 : sx_iB prog_14_method_139_code aI_450_26 = true := by decide +kernel
def aI_450_27 : sx_IL := [(282, .goto 13, 3), (285, .iload 9, 2), (287, .ifCond .eq 7, 3), (290, .iconst 1, 1), (291, .goto 4, 3), (294, .iconst 0, 1)]
theorem aJ_450_27 : sx_iB prog_14_method_139_code aI_450_27 = true := by decide +kernel
def aI_450_28 : sx_IL := [(295, .iastore, 1), (296, .aload_n 0, 1), (297, .getfield 237, 3), (300, .iload 5, 2), (302, .iaload, 1), (303, .ireturn, 1)]
theorem aJ_450_28 : sx_iB prog_14_method_139_code aI_450_28 = true := by decide +kernel
def aS_450 (pc : Nat) : sx_IL := (if pc < 135 then (if pc < 64 then (if pc < 25 then (if pc < 10 then aI_450_0 else (if pc < 19 then aI_450_1 else aI_450_2)) else (if pc < 43 then (if pc < 36 then aI_450_3 else aI_450_4) else (if pc < 51 then aI_450_5 else aI_450_6))) else (if pc < 96 then (if pc < 74 then aI_450_7 else (if pc < 87 then aI_450_8 else aI_450_9)) else (if pc < 115 then (if pc < 105 then aI_450_10 else aI_450_11) else (if pc < 127 then aI_450_12 else aI_450_13)))) else (if pc < 215 then (if pc < 170 then (if pc < 148 then aI_450_14 else (if pc < 160 then aI_450_15 else aI_450_16)) else (if pc < 191 then (if pc < 180 then aI_450_17 else aI_450_18) else (if pc < 204 then aI_450_19 else aI_450_20))) else (if pc < 258 then (if pc < 239 then (if pc < 226 then aI_450_21 else aI_450_22) else (if pc < 247 then aI_450_23 else aI_450_24)) else (if pc < 282 then (if pc < 271 then aI_450_25 else aI_450_26) else (if pc < 295 then aI_450_27 else aI_450_28)))))
theorem aT_450 (pc : Nat) : sx_iOk prog_14_method_139_code (aS_450 pc) := (sx_ite (p := fun l => sx_iOk prog_14_method_139_code l) (sx_ite (p := fun l => sx_iOk prog_14_method_139_code l) (sx_ite (p := fun l => sx_iOk prog_14_method_139_code l) (sx_ite (p := fun l => sx_iOk prog_14_method_139_code l) (sx_iB_s aJ_450_0) (sx_ite (p := fun l => sx_iOk prog_14_method_139_code l) (sx_iB_s aJ_450_1) (sx_iB_s aJ_450_2))) (sx_ite (p := fun l => sx_iOk prog_14_method_139_code l) (sx_ite (p := fun l => sx_iOk prog_14_method_139_code l) (sx_iB_s aJ_450_3) (sx_iB_s aJ_450_4)) (sx_ite (p := fun l => sx_iOk prog_14_method_139_code l) (sx_iB_s aJ_450_5) (sx_iB_s aJ_450_6)))) (sx_ite (p := fun l => sx_iOk prog_14_method_139_code l) (sx_ite (p := fun l => sx_iOk prog_14_method_139_code l) (sx_iB_s aJ_450_7) (sx_ite (p := fun l => sx_iOk prog_14_method_139_code l) (sx_iB_s aJ_450_8) (sx_iB_s aJ_450_9))) (sx_ite (p := fun l => sx_iOk prog_14_method_139_code l) (sx_ite (p := fun l => sx_iOk prog_14_method_139_code l) (sx_iB_s aJ_450_10) (sx_iB_s aJ_450_11)) (sx_ite (p := fun l => sx_iOk prog_14_method_139_code l) (sx_iB_s aJ_450_12) (sx_iB_s aJ_450_13))))) (sx_ite (p := fun l => sx_iOk prog_14_method_139_code l) (sx_ite (p := fun l => sx_iOk prog_14_method_139_code l) (sx_ite (p := fun l => sx_iOk prog_14_method_139_code l) (sx_iB_s aJ_450_14) (sx_ite (p := fun l => sx_iOk prog_14_method_139_code l) (sx_iB_s aJ_450_15) (sx_iB_s aJ_450_16))) (sx_ite (p := fun l => sx_iOk prog_14_method_139_code l) (sx_ite (p := fun l => sx_iOk prog_14_method_139_code l) (sx_iB_s aJ_450_17) (sx_iB_s aJ_450_18)) (sx_ite (p := fun l => sx_iOk prog_14_method_139_code l) (sx_iB_s aJ_450_19) (sx_iB_s aJ_450_20)))) (sx_ite (p := fun l => sx_iOk prog_14_method_139_code l) (sx_ite (p := fun l => sx_iOk prog_14_method_139_code l) (sx_ite (p := fun l => sx_iOk prog_14_method_139_code l) (sx_iB_s aJ_450_21) (sx_iB_s aJ_450_22)) (sx_ite (p := fun l => sx_iOk prog_14_method_139_code l) (sx_iB_s aJ_450_23) (sx_iB_s aJ_450_24))) (sx_ite (p := fun l => sx_iOk prog_14_method_139_code l) (sx_ite (p := fun l => sx_iOk prog_14_method_139_code l) (sx_iB_s aJ_450_25) (sx_iB_s aJ_450_26)) (sx_ite (p := fun l => sx_iOk prog_14_method_139_code l) (sx_iB_s aJ_450_27) (sx_iB_s aJ_450_28))))))
def aW_450 : Nat → Option (Instr × Nat) := fun pc => sx_iF (aS_450 pc) pc
theorem aX_450 : ∀ pc i len, aW_450 pc = some (i, len) → decode aM_450.1.2.1 pc = .ok (i, len) := fun pc i len h => sx_iF_s (aT_450 pc) h
def aI_451_0 : sx_IL := [(0, .aload_n 0, 1), (1, .iload_n 1, 1), (2, .iaload, 1), (3, .bipush 42, 2), (5, .if_icmp .ne 7, 3), (8, .iconst 2, 1)]
theorem aJ_451_0 : sx_iB prog_14_method_138_code aI_451_0 = true := by decide +kernel
def aI_451_1 : sx_IL := [(9, .goto 4, 3), (12, .iconst 0, 1), (13, .ireturn, 1)]
theorem aJ_451_1 : sx_iB prog_14_method_138_code aI_451_1 = true := by decide +kernel
def aS_451 (pc : Nat) : sx_IL := (if pc < 9 then aI_451_0 else aI_451_1)
theorem aT_451 (pc : Nat) : sx_iOk prog_14_method_138_code (aS_451 pc) := (sx_ite (p := fun l => sx_iOk prog_14_method_138_code l) (sx_iB_s aJ_451_0) (sx_iB_s aJ_451_1))
def aW_451 : Nat → Option (Instr × Nat) := fun pc => sx_iF (aS_451 pc) pc
theorem aX_451 : ∀ pc i len, aW_451 pc = some (i, len) → decode aM_451.1.2.1 pc = .ok (i, len) := fun pc i len h => sx_iF_s (aT_451 pc) h
def aI_457_0 : sx_IL := [(0, .aload_n 0, 1), (1, .iload_n 1, 1), (2, .invokevirtual 930, 3), (5, .ifCond .eq 21, 3), (8, .iload_n 2, 1), (9, .i2l, 1)]
theorem aJ_457_0 : sx_iB prog_14_method_143_code aI_457_0 = true := by decide +kernel
def aI_457_1 : sx_IL := [(10, .lconst 1, 1), (11, .aload_n 0, 1), (12, .getfield 198, 3), (15, .iload_n 1, 1), (16, .iaload, 1), (17, .iconst 1, 1)]
theorem aJ_457_1 : sx_iB prog_14_method_143_code aI_457_1 = true := by decide +kernel
def aI_457_2 : sx_IL := [(18, .isub, 1), (19, .i2l, 1), (20, .invokestatic 513, 3), (23, .ifCond .ne 5, 3), (26, .iconst (-1), 1), (27, .ireturn, 1)]
theorem aJ_457_2 : sx_iB prog_14_method_143_code aI_457_2 = true := by decide +kernel
def aI_457_3 : sx_IL := [(28, .aload_n 0, 1), (29, .iload_n 1, 1), (30, .iload_n 2, 1), (31, .invokevirtual 958, 3), (34, .ifCond .eq 6, 3), (37, .bipush (-2), 2)]
theorem aJ_457_3 : sx_iB prog_14_method_143_code aI_457_3 = true := by decide +kernel
def aI_457_4 : sx_IL := [(39, .ireturn, 1), (40, .aload_n 0, 1), (41, .getfield 240, 3), (44, .iload_n 1, 1), (45, .iaload, 1), (46, .bipush 40, 2)]
theorem aJ_457_4 : sx_iB prog_14_method_143_code aI_457_4 = true := by decide +kernel
def aI_457_5 : sx_IL := [(48, .if_icmp .ne 6, 3), (51, .bipush (-3), 2), (53, .ireturn, 1), (54, .aload_n 0, 1), (55, .getfield 240, 3), (58, .iload_n 1, 1)]
theorem aJ_457_5 : sx_iB prog_14_method_143_code aI_457_5 = true := by decide +kernel
def aI_457_6 : sx_IL := [(59, .iaload, 1), (60, .istore_n 3, 1), (61, .iload_n 3, 1), (62, .ifCond .le 50, 3), (65, .aload_n 0, 1), (66, .getfield 243, 3)]
theorem aJ_457_6 : sx_iB prog_14_method_143_code aI_457_6 = true := by decide +kernel
def aI_457_7 : sx_IL := [(69, .bipush 40, 2), (71, .iload_n 1, 1), (72, .imul, 1), (73, .iload_n 3, 1), (74, .iadd, 1), (75, .iconst 1, 1)]
theorem aJ_457_7 : sx_iB prog_14_method_143_code aI_457_7 = true := by decide +kernel
def aI_457_8 : sx_IL := [(76, .isub, 1), (77, .iaload, 1), (78, .iload_n 2, 1), (79, .if_icmp .le 33, 3), (82, .aload_n 0, 1), (83, .getfield 243, 3)]
theorem aJ_457_8 : sx_iB prog_14_method_143_code aI_457_8 = true := by decide +kernel
def aI_457_9 : sx_IL := [(86, .bipush 40, 2), (88, .iload_n 1, 1), (89, .imul, 1), (90, .iload_n 3, 1), (91, .iadd, 1), (92, .aload_n 0, 1)]
theorem aJ_457_9 : sx_iB prog_14_method_143_code aI_457_9 = true := by decide +kernel
def aI_457_10 : sx_IL := [(93, .getfield 243, 3), (96, .bipush 40, 2), (98, .iload_n 1, 1), (99, .imul, 1), (100, .iload_n 3, 1), (101, .iadd, 1)]
theorem aJ_457_10 : sx_iB prog_14_method_143_code aI_457_10 = true := by decide +kernel
def aI_457_11 : sx_IL := [(102, .iconst 1, 1), (103, .isub, 1), (104, .iaload, 1), (105, .iastore, 1), (106, .iinc 3 (-1), 3), (109, .goto (-48), 3)]
theorem aJ_457_11 : sx_iB prog_14_method_143_code aI_457_11 = true := by decide +kernel
def aI_457_12 : sx_IL := [(112, .aload_n 0, 1), (113, .getfield 243, 3), (116, .bipush 40, 2), (118, .iload_n 1, 1), (119, .imul, 1), (120, .iload_n 3, 1)]
theorem aJ_457_12 : sx_iB prog_14_method_143_code aI_457_12 = true := by decide +kernel
def aI_457_13 : sx_IL := [(121, .iadd, 1), (122, .iload_n 2, 1), (123, .iastore, 1), (124, .aload_n 0, 1), (125, .getfield 240, 3), (128, .iload_n 1, 1)]
theorem aJ_457_13 : sx_iB prog_14_method_143_code aI_457_13 = true := by decide +kernel
def aI_457_14 : sx_IL := [(129, .dup2, 1), (130, .iaload, 1), (131, .iconst 1, 1), (132, .iadd, 1), (133, .iastore, 1), (134, .aload_n 0, 1)]
theorem aJ_457_14 : sx_iB prog_14_method_143_code aI_457_14 = true := by decide +kernel
def aI_457_15 : sx_IL := [(135, .getfield 240, 3), (138, .iload_n 1, 1), (139, .iaload, 1), (140, .ireturn, 1)]
theorem aJ_457_15 : sx_iB prog_14_method_143_code aI_457_15 = true := by decide +kernel
def aS_457 (pc : Nat) : sx_IL := (if pc < 76 then (if pc < 39 then (if pc < 18 then (if pc < 10 then aI_457_0 else aI_457_1) else (if pc < 28 then aI_457_2 else aI_457_3)) else (if pc < 59 then (if pc < 48 then aI_457_4 else aI_457_5) else (if pc < 69 then aI_457_6 else aI_457_7))) else (if pc < 112 then (if pc < 93 then (if pc < 86 then aI_457_8 else aI_457_9) else (if pc < 102 then aI_457_10 else aI_457_11)) else (if pc < 129 then (if pc < 121 then aI_457_12 else aI_457_13) else (if pc < 135 then aI_457_14 else aI_457_15))))
theorem aT_457 (pc : Nat) : sx_iOk prog_14_method_143_code (aS_457 pc) := (sx_ite (p := fun l => sx_iOk prog_14_method_143_code l) (sx_ite (p := fun l => sx_iOk prog_14_method_143_code l) (sx_ite (p := fun l => sx_iOk prog_14_method_143_code l) (sx_ite (p := fun l => sx_iOk prog_14_method_143_code l) (sx_iB_s aJ_457_0) (sx_iB_s aJ_457_1)) (sx_ite (p := fun l => sx_iOk prog_14_method_143_code l) (sx_iB_s aJ_457_2) (sx_iB_s aJ_457_3))) (sx_ite (p := fun l => sx_iOk prog_14_method_143_code l) (sx_ite (p := fun l => sx_iOk prog_14_method_143_code l) (sx_iB_s aJ_457_4) (sx_iB_s aJ_457_5)) (sx_ite (p := fun l => sx_iOk prog_14_method_143_code l) (sx_iB_s aJ_457_6) (sx_iB_s aJ_457_7)))) (sx_ite (p := fun l => sx_iOk prog_14_method_143_code l) (sx_ite (p := fun l => sx_iOk prog_14_method_143_code l) (sx_ite (p := fun l => sx_iOk prog_14_method_143_code l) (sx_iB_s aJ_457_8) (sx_iB_s aJ_457_9)) (sx_ite (p := fun l => sx_iOk prog_14_method_143_code l) (sx_iB_s aJ_457_10) (sx_iB_s aJ_457_11))) (sx_ite (p := fun l => sx_iOk prog_14_method_143_code l) (sx_ite (p := fun l => sx_iOk prog_14_method_143_code l) (sx_iB_s aJ_457_12) (sx_iB_s aJ_457_13)) (sx_ite (p := fun l => sx_iOk prog_14_method_143_code l) (sx_iB_s aJ_457_14) (sx_iB_s aJ_457_15)))))
def aW_457 : Nat → Option (Instr × Nat) := fun pc => sx_iF (aS_457 pc) pc
theorem aX_457 : ∀ pc i len, aW_457 pc = some (i, len) → decode aM_457.1.2.1 pc = .ok (i, len) := fun pc i len h => sx_iF_s (aT_457 pc) h
def aI_458_0 : sx_IL := [(0, .iconst 0, 1), (1, .istore_n 3, 1), (2, .iconst 0, 1), (3, .istore 4, 2), (5, .iload 4, 2), (7, .aload_n 0, 1)]
theorem aJ_458_0 : sx_iB prog_14_method_144_code aI_458_0 = true := by decide +kernel
def aI_458_1 : sx_IL := [(8, .getfield 240, 3), (11, .iload_n 1, 1), (12, .iaload, 1), (13, .if_icmp .ge 35, 3), (16, .iload_n 3, 1), (17, .ifCond .ne 19, 3)]
theorem aJ_458_1 : sx_iB prog_14_method_144_code aI_458_1 = true := by decide +kernel
def aI_458_2 : sx_IL := [(20, .aload_n 0, 1), (21, .getfield 243, 3), (24, .bipush 40, 2), (26, .iload_n 1, 1), (27, .imul, 1), (28, .iload 4, 2)]
theorem aJ_458_2 : sx_iB prog_14_method_144_code aI_458_2 = true := by decide +kernel
def aI_458_3 : sx_IL := [(30, .iadd, 1), (31, .iaload, 1), (32, .iload_n 2, 1), (33, .if_icmp .ne 7, 3), (36, .iconst 1, 1), (37, .goto 4, 3)]
theorem aJ_458_3 : sx_iB prog_14_method_144_code aI_458_3 = true := by decide +kernel
def aI_458_4 : sx_IL := [(40, .iconst 0, 1), (41, .istore_n 3, 1), (42, .iinc 4 1, 3), (45, .goto (-40), 3), (48, .iload_n 3, 1), (49, .ireturn, 1)]
theorem aJ_458_4 : sx_iB prog_14_method_144_code aI_458_4 = true := by decide +kernel
def aS_458 (pc : Nat) : sx_IL := (if pc < 20 then (if pc < 8 then aI_458_0 else aI_458_1) else (if pc < 30 then aI_458_2 else (if pc < 40 then aI_458_3 else aI_458_4)))
theorem aT_458 (pc : Nat) : sx_iOk prog_14_method_144_code (aS_458 pc) := (sx_ite (p := fun l => sx_iOk prog_14_method_144_code l) (sx_ite (p := fun l => sx_iOk prog_14_method_144_code l) (sx_iB_s aJ_458_0) (sx_iB_s aJ_458_1)) (sx_ite (p := fun l => sx_iOk prog_14_method_144_code l) (sx_iB_s aJ_458_2) (sx_ite (p := fun l => sx_iOk prog_14_method_144_code l) (sx_iB_s aJ_458_3) (sx_iB_s aJ_458_4))))
def aW_458 : Nat → Option (Instr × Nat) := fun pc => sx_iF (aS_458 pc) pc
theorem aX_458 : ∀ pc i len, aW_458 pc = some (i, len) → decode aM_458.1.2.1 pc = .ok (i, len) := fun pc i len h => sx_iF_s (aT_458 pc) h
def aI_473_0 : sx_IL := [(0, .aload_n 0, 1), (1, .aload_n 0, 1), (2, .getfield 387, 3), (5, .iload_n 1, 1), (6, .iaload, 1), (7, .putfield 526, 3)]
theorem aJ_473_0 : sx_iB prog_14_method_150_code aI_473_0 = true := by decide +kernel
def aI_473_1 : sx_IL := [(10, .aload_n 0, 1), (11, .aload_n 0, 1), (12, .getfield 390, 3), (15, .iload_n 1, 1), (16, .iaload, 1), (17, .putfield 529, 3)]
theorem aJ_473_1 : sx_iB prog_14_method_150_code aI_473_1 = true := by decide +kernel
def aI_473_2 : sx_IL := [(20, .aload_n 0, 1), (21, .aload_n 0, 1), (22, .getfield 393, 3), (25, .iload_n 1, 1), (26, .iaload, 1), (27, .putfield 539, 3)]
theorem aJ_473_2 : sx_iB prog_14_method_150_code aI_473_2 = true := by decide +kernel
def aI_473_3 : sx_IL := [(30, .aload_n 0, 1), (31, .aload_n 0, 1), (32, .getfield 396, 3), (35, .iload_n 1, 1), (36, .iaload, 1), (37, .putfield 532, 3)]
theorem aJ_473_3 : sx_iB prog_14_method_150_code aI_473_3 = true := by decide +kernel
def aI_473_4 : sx_IL := [(40, .aload_n 0, 1), (41, .aload_n 0, 1), (42, .getfield 399, 3), (45, .iload_n 1, 1), (46, .iaload, 1), (47, .putfield 544, 3)]
theorem aJ_473_4 : sx_iB prog_14_method_150_code aI_473_4 = true := by decide +kernel
def aI_473_5 : sx_IL := [(50, .aload_n 0, 1), (51, .aload_n 0, 1), (52, .getfield 402, 3), (55, .iload_n 1, 1), (56, .iaload, 1), (57, .putfield 551, 3)]
theorem aJ_473_5 : sx_iB prog_14_method_150_code aI_473_5 = true := by decide +kernel
def aI_473_6 : sx_IL := [(60, .aload_n 0, 1), (61, .aload_n 0, 1), (62, .getfield 405, 3), (65, .iload_n 1, 1), (66, .laload, 1), (67, .putfield 547, 3)]
theorem aJ_473_6 : sx_iB prog_14_method_150_code aI_473_6 = true := by decide +kernel
def aI_473_7 : sx_IL := [(70, .return_, 1)]
theorem aJ_473_7 : sx_iB prog_14_method_150_code aI_473_7 = true := by decide +kernel
def aS_473 (pc : Nat) : sx_IL := (if pc < 40 then (if pc < 20 then (if pc < 10 then aI_473_0 else aI_473_1) else (if pc < 30 then aI_473_2 else aI_473_3)) else (if pc < 60 then (if pc < 50 then aI_473_4 else aI_473_5) else (if pc < 70 then aI_473_6 else aI_473_7)))
theorem aT_473 (pc : Nat) : sx_iOk prog_14_method_150_code (aS_473 pc) := (sx_ite (p := fun l => sx_iOk prog_14_method_150_code l) (sx_ite (p := fun l => sx_iOk prog_14_method_150_code l) (sx_ite (p := fun l => sx_iOk prog_14_method_150_code l) (sx_iB_s aJ_473_0) (sx_iB_s aJ_473_1)) (sx_ite (p := fun l => sx_iOk prog_14_method_150_code l) (sx_iB_s aJ_473_2) (sx_iB_s aJ_473_3))) (sx_ite (p := fun l => sx_iOk prog_14_method_150_code l) (sx_ite (p := fun l => sx_iOk prog_14_method_150_code l) (sx_iB_s aJ_473_4) (sx_iB_s aJ_473_5)) (sx_ite (p := fun l => sx_iOk prog_14_method_150_code l) (sx_iB_s aJ_473_6) (sx_iB_s aJ_473_7))))
def aW_473 : Nat → Option (Instr × Nat) := fun pc => sx_iF (aS_473 pc) pc
theorem aX_473 : ∀ pc i len, aW_473 pc = some (i, len) → decode aM_473.1.2.1 pc = .ok (i, len) := fun pc i len h => sx_iF_s (aT_473 pc) h
def aI_476_0 : sx_IL := [(0, .iconst 3, 1), (1, .aload_n 0, 1), (2, .getfield 814, 3), (5, .iadd, 1), (6, .istore_n 3, 1), (7, .aload_n 0, 1)]
theorem aJ_476_0 : sx_iB prog_14_method_159_code aI_476_0 = true := by decide +kernel
def aI_476_1 : sx_IL := [(8, .getfield 483, 3), (11, .iconst 0, 1), (12, .iload_n 2, 1), (13, .iastore, 1), (14, .aload_n 0, 1), (15, .getfield 483, 3)]
theorem aJ_476_1 : sx_iB prog_14_method_159_code aI_476_1 = true := by decide +kernel
def aI_476_2 : sx_IL := [(18, .iconst 1, 1), (19, .aload_n 0, 1), (20, .getfield 814, 3), (23, .bipush 8, 2), (25, .ishr, 1), (26, .iastore, 1)]
theorem aJ_476_2 : sx_iB prog_14_method_159_code aI_476_2 = true := by decide +kernel
def aI_476_3 : sx_IL := [(27, .aload_n 0, 1), (28, .getfield 483, 3), (31, .iconst 2, 1), (32, .aload_n 0, 1), (33, .getfield 814, 3), (36, .sipush 255, 3)]
theorem aJ_476_3 : sx_iB prog_14_method_159_code aI_476_3 = true := by decide +kernel
def aI_476_4 : sx_IL := [(39, .iand, 1), (40, .iastore, 1), (41, .iconst 0, 1), (42, .istore 4, 2), (44, .iload 4, 2), (46, .aload_n 0, 1)]
theorem aJ_476_4 : sx_iB prog_14_method_159_code aI_476_4 = true := by decide +kernel
def aI_476_5 : sx_IL := [(47, .getfield 814, 3), (50, .if_icmp .ge 25, 3), (53, .aload_n 0, 1), (54, .getfield 483, 3), (57, .iconst 3, 1), (58, .iload 4, 2)]
theorem aJ_476_5 : sx_iB prog_14_method_159_code aI_476_5 = true := by decide +kernel
def aI_476_6 : sx_IL := [(60, .iadd, 1), (61, .aload_n 0, 1), (62, .getfield 84, 3), (65, .iload 4, 2), (67, .iaload, 1), (68, .iastore, 1)]
theorem aJ_476_6 : sx_iB prog_14_method_159_code aI_476_6 = true := by decide +kernel
def aI_476_7 : sx_IL := [(69, .iinc 4 1, 3), (72, .goto (-28), 3), (75, .iload_n 2, 1), (76, .invokestatic 980, 3), (79, .ifCond .eq 14, 3), (82, .aload_n 0, 1)]
theorem aJ_476_7 : sx_iB prog_14_method_159_code aI_476_7 = true := by decide +kernel
def aI_476_8 : sx_IL := [(83, .iload_n 1, 1), (84, .aload_n 0, 1), (85, .getfield 483, 3), (88, .iconst 0, 1), (89, .iload_n 3, 1), (90, .invokevirtual 983, 3)]
theorem aJ_476_8 : sx_iB prog_14_method_159_code aI_476_8 = true := by decide +kernel
def aI_476_9 : sx_IL := [(93, .iconst 0, 1), (94, .istore 4, 2), (96, .iload 4, 2), (98, .iload_n 3, 1), (99, .if_icmp .ge 45, 3), (102, .aload_n 0, 1)]
theorem aJ_476_9 : sx_iB prog_14_method_159_code aI_476_9 = true := by decide +kernel
def aI_476_10 : sx_IL := [(103, .iload_n 1, 1), (104, .bipush 22, 2), (106, .aload_n 0, 1), (107, .getfield 483, 3), (110, .iload 4, 2), (112, .iload_n 3, 1)]
theorem aJ_476_10 : sx_iB prog_14_method_159_code aI_476_10 = true := by decide +kernel
def aI_476_11 : sx_IL := [(113, .iload 4, 2), (115, .isub, 1), (116, .sipush 200, 3), (119, .if_icmp .ge 10, 3), (122, .iload_n 3, 1), (123, .iload 4, 2)]
theorem aJ_476_11 : sx_iB prog_14_method_159_code aI_476_11 = true := by decide +kernel
def aI_476_12 : sx_IL := [(125, .isub, 1), (126, .goto 6, 3), (129, .sipush 200, 3), (132, .invokevirtual 987, 3), (135, .iinc 4 200, 6), (141, .goto (-45), 3)]
theorem aJ_476_12 : sx_iB prog_14_method_159_code aI_476_12 = true := by decide +kernel
def aI_476_13 : sx_IL := [(144, .return_, 1)]
theorem aJ_476_13 : sx_iB prog_14_method_159_code aI_476_13 = true := by decide +kernel
def aS_476 (pc : Nat) : sx_IL := (if pc < 69 then (if pc < 27 then (if pc < 8 then aI_476_0 else (if pc < 18 then aI_476_1 else aI_476_2)) else (if pc < 47 then (if pc < 39 then aI_476_3 else aI_476_4) else (if pc < 60 then aI_476_5 else aI_476_6))) else (if pc < 103 then (if pc < 83 then aI_476_7 else (if pc < 93 then aI_476_8 else aI_476_9)) else (if pc < 125 then (if pc < 113 then aI_476_10 else aI_476_11) else (if pc < 144 then aI_476_12 else aI_476_13))))
theorem aT_476 (pc : Nat) : sx_iOk prog_14_method_159_code (aS_476 pc) := (sx_ite (p := fun l => sx_iOk prog_14_method_159_code l) (sx_ite (p := fun l => sx_iOk prog_14_method_159_code l) (sx_ite (p := fun l => sx_iOk prog_14_method_159_code l) (sx_iB_s aJ_476_0) (sx_ite (p := fun l => sx_iOk prog_14_method_159_code l) (sx_iB_s aJ_476_1) (sx_iB_s aJ_476_2))) (sx_ite (p := fun l => sx_iOk prog_14_method_159_code l) (sx_ite (p := fun l => sx_iOk prog_14_method_159_code l) (sx_iB_s aJ_476_3) (sx_iB_s aJ_476_4)) (sx_ite (p := fun l => sx_iOk prog_14_method_159_code l) (sx_iB_s aJ_476_5) (sx_iB_s aJ_476_6)))) (sx_ite (p := fun l => sx_iOk prog_14_method_159_code l) (sx_ite (p := fun l => sx_iOk prog_14_method_159_code l) (sx_iB_s aJ_476_7) (sx_ite (p := fun l => sx_iOk prog_14_method_159_code l) (sx_iB_s aJ_476_8) (sx_iB_s aJ_476_9))) (sx_ite (p := fun l => sx_iOk prog_14_method_159_code l) (sx_ite (p := fun l => sx_iOk prog_14_method_159_code l) (sx_iB_s aJ_476_10) (sx_iB_s aJ_476_11)) (sx_ite (p := fun l => sx_iOk prog_14_method_159_code l) (sx_iB_s aJ_476_12) (sx_iB_s aJ_476_13)))))
def aW_476 : Nat → Option (Instr × Nat) := fun pc => sx_iF (aS_476 pc) pc
theorem aX_476 : ∀ pc i len, aW_476 pc = some (i, len) → decode aM_476.1.2.1 pc = .ok (i, len) := fun pc i len h => sx_iF_s (aT_476 pc) h
def aI_477_0 : sx_IL := [(0, .iload_n 0, 1), (1, .iconst 4, 1), (2, .if_icmp .eq 13, 3), (5, .iload_n 0, 1), (6, .bipush 24, 2), (8, .if_icmp .eq 7, 3)]
theorem aJ_477_0 : sx_iB prog_14_method_160_code aI_477_0 = true := by decide +kernel
def aI_477_1 : sx_IL := [(11, .iconst 1, 1), (12, .goto 4, 3), (15, .iconst 0, 1), (16, .ireturn, 1)]
theorem aJ_477_1 : sx_iB prog_14_method_160_code aI_477_1 = true := by decide +kernel
def aS_477 (pc : Nat) : sx_IL := (if pc < 11 then aI_477_0 else aI_477_1)
theorem aT_477 (pc : Nat) : sx_iOk prog_14_method_160_code (aS_477 pc) := (sx_ite (p := fun l => sx_iOk prog_14_method_160_code l) (sx_iB_s aJ_477_0) (sx_iB_s aJ_477_1))
def aW_477 : Nat → Option (Instr × Nat) := fun pc => sx_iF (aS_477 pc) pc
theorem aX_477 : ∀ pc i len, aW_477 pc = some (i, len) → decode aM_477.1.2.1 pc = .ok (i, len) := fun pc i len h => sx_iF_s (aT_477 pc) h
def aI_479_0 : sx_IL := [(0, .aload_n 0, 1), (1, .getfield 309, 3), (4, .iload_n 1, 1), (5, .baload, 1), (6, .ifCond .ne 55, 3), (9, .aload_n 0, 1)]
theorem aJ_479_0 : sx_iB prog_14_method_156_code aI_479_0 = true := by decide +kernel
def aI_479_1 : sx_IL := [(10, .iload_n 1, 1), (11, .iload_n 2, 1), (12, .invokevirtual 977, 3), (15, .aload_n 0, 1), (16, .iload_n 1, 1), (17, .iload 5, 2)]
theorem aJ_479_1 : sx_iB prog_14_method_156_code aI_479_1 = true := by decide +kernel
def aI_479_2 : sx_IL := [(19, .bipush 8, 2), (21, .ishr, 1), (22, .invokevirtual 977, 3), (25, .aload_n 0, 1), (26, .iload_n 1, 1), (27, .iload 5, 2)]
theorem aJ_479_2 : sx_iB prog_14_method_156_code aI_479_2 = true := by decide +kernel
def aI_479_3 : sx_IL := [(29, .invokevirtual 977, 3), (32, .iconst 0, 1), (33, .istore 6, 2), (35, .iload 6, 2), (37, .iload 5, 2), (39, .if_icmp .ge 21, 3)]
theorem aJ_479_3 : sx_iB prog_14_method_156_code aI_479_3 = true := by decide +kernel
def aI_479_4 : sx_IL := [(42, .aload_n 0, 1), (43, .iload_n 1, 1), (44, .aload_n 3, 1), (45, .iload 4, 2), (47, .iload 6, 2), (49, .iadd, 1)]
theorem aJ_479_4 : sx_iB prog_14_method_156_code aI_479_4 = true := by decide +kernel
def aI_479_5 : sx_IL := [(50, .iaload, 1), (51, .invokevirtual 977, 3), (54, .iinc 6 1, 3), (57, .goto (-22), 3), (60, .return_, 1), (61, .aload_n 0, 1)]
theorem aJ_479_5 : sx_iB prog_14_method_156_code aI_479_5 = true := by decide +kernel
def aI_479_6 : sx_IL := [(62, .getfield 327, 3), (65, .iload_n 1, 1), (66, .iaload, 1), (67, .istore 6, 2), (69, .iload 5, 2), (71, .iconst 1, 1)]
theorem aJ_479_6 : sx_iB prog_14_method_156_code aI_479_6 = true := by decide +kernel
def aI_479_7 : sx_IL := [(72, .iadd, 1), (73, .iload 6, 2), (75, .invokestatic 619, 3), (78, .iadd, 1), (79, .istore 7, 2), (81, .aload_n 0, 1)]
theorem aJ_479_7 : sx_iB prog_14_method_156_code aI_479_7 = true := by decide +kernel
def aI_479_8 : sx_IL := [(82, .getfield 480, 3), (85, .iconst 0, 1), (86, .bipush 23, 2), (88, .iastore, 1), (89, .aload_n 0, 1), (90, .getfield 480, 3)]
theorem aJ_479_8 : sx_iB prog_14_method_156_code aI_479_8 = true := by decide +kernel
def aI_479_9 : sx_IL := [(93, .iconst 1, 1), (94, .iload 7, 2), (96, .bipush 8, 2), (98, .ishr, 1), (99, .iastore, 1), (100, .aload_n 0, 1)]
theorem aJ_479_9 : sx_iB prog_14_method_156_code aI_479_9 = true := by decide +kernel
def aI_479_10 : sx_IL := [(101, .getfield 480, 3), (104, .iconst 2, 1), (105, .iload 7, 2), (107, .sipush 255, 3), (110, .iand, 1), (111, .iastore, 1)]
theorem aJ_479_10 : sx_iB prog_14_method_156_code aI_479_10 = true := by decide +kernel
def aI_479_11 : sx_IL := [(112, .iconst 0, 1), (113, .istore 8, 2), (115, .iload 8, 2), (117, .iload 5, 2), (119, .if_icmp .ge 25, 3), (122, .aload_n 0, 1)]
theorem aJ_479_11 : sx_iB prog_14_method_156_code aI_479_11 = true := by decide +kernel
def aI_479_12 : sx_IL := [(123, .getfield 480, 3), (126, .iconst 3, 1), (127, .iload 8, 2), (129, .iadd, 1), (130, .aload_n 3, 1), (131, .iload 4, 2)]
theorem aJ_479_12 : sx_iB prog_14_method_156_code aI_479_12 = true := by decide +kernel
def aI_479_13 : sx_IL := [(133, .iload 8, 2), (135, .iadd, 1), (136, .iaload, 1), (137, .iastore, 1), (138, .iinc 8 1, 3), (141, .goto (-26), 3)]
theorem aJ_479_13 : sx_iB prog_14_method_156_code aI_479_13 = true := by decide +kernel
def aI_479_14 : sx_IL := [(144, .aload_n 0, 1), (145, .getfield 480, 3), (148, .iconst 3, 1), (149, .iload 5, 2), (151, .iadd, 1), (152, .iload_n 2, 1)]
theorem aJ_479_14 : sx_iB prog_14_method_156_code aI_479_14 = true := by decide +kernel
def aI_479_15 : sx_IL := [(153, .iastore, 1), (154, .aload_n 0, 1), (155, .aload_n 0, 1), (156, .getfield 315, 3), (159, .iload_n 1, 1), (160, .laload, 1)]
theorem aJ_479_15 : sx_iB prog_14_method_156_code aI_479_15 = true := by decide +kernel
def aI_479_16 : sx_IL := [(161, .aload_n 0, 1), (162, .getfield 321, 3), (165, .iload_n 1, 1), (166, .iaload, 1), (167, .i2l, 1), (168, .aload_n 0, 1)]
theorem aJ_479_16 : sx_iB prog_14_method_156_code aI_479_16 = true := by decide +kernel
def aI_479_17 : sx_IL := [(169, .getfield 480, 3), (172, .iconst 3, 1), (173, .iload 5, 2), (175, .iconst 1, 1), (176, .iadd, 1), (177, .invokevirtual 611, 3)]
theorem aJ_479_17 : sx_iB prog_14_method_156_code aI_479_17 = true := by decide +kernel
def aI_479_18 : sx_IL := [(180, .aload_n 0, 1), (181, .iload 6, 2), (183, .aload_n 0, 1), (184, .getfield 315, 3), (187, .iload_n 1, 1), (188, .laload, 1)]
theorem aJ_479_18 : sx_iB prog_14_method_156_code aI_479_18 = true := by decide +kernel
def aI_479_19 : sx_IL := [(189, .aload_n 0, 1), (190, .getfield 321, 3), (193, .iload_n 1, 1), (194, .iaload, 1), (195, .i2l, 1), (196, .aload_n 0, 1)]
theorem aJ_479_19 : sx_iB prog_14_method_156_code aI_479_19 = true := by decide +kernel
def aI_479_20 : sx_IL := [(197, .getfield 480, 3), (200, .iconst 0, 1), (201, .iconst 3, 1), (202, .aload_n 0, 1), (203, .getfield 480, 3), (206, .iconst 3, 1)]
theorem aJ_479_20 : sx_iB prog_14_method_156_code aI_479_20 = true := by decide +kernel
def aI_479_21 : sx_IL := [(207, .iload 5, 2), (209, .iconst 1, 1), (210, .iadd, 1), (211, .invokevirtual 615, 3), (214, .lstore 8, 2), (216, .iconst 0, 1)]
theorem aJ_479_21 : sx_iB prog_14_method_156_code aI_479_21 = true := by decide +kernel
def aI_479_22 : sx_IL := [(217, .istore 10, 2), (219, .iload 10, 2), (221, .iload 6, 2), (223, .invokestatic 619, 3), (226, .if_icmp .ge 28, 3), (229, .aload_n 0, 1)]
theorem aJ_479_22 : sx_iB prog_14_method_156_code aI_479_22 = true := by decide +kernel
def aI_479_23 : sx_IL := [(230, .getfield 480, 3), (233, .iconst 4, 1), (234, .iload 5, 2), (236, .iadd, 1), (237, .iload 10, 2), (239, .iadd, 1)]
theorem aJ_479_23 : sx_iB prog_14_method_156_code aI_479_23 = true := by decide +kernel
def aI_479_24 : sx_IL := [(240, .lload 8, 2), (242, .iload 10, 2), (244, .invokestatic 622, 3), (247, .iastore, 1), (248, .iinc 10 1, 3), (251, .goto (-32), 3)]
theorem aJ_479_24 : sx_iB prog_14_method_156_code aI_479_24 = true := by decide +kernel
def aI_479_25 : sx_IL := [(254, .iconst 0, 1), (255, .istore 10, 2), (257, .iload 10, 2), (259, .iconst 3, 1), (260, .iload 7, 2), (262, .iadd, 1)]
theorem aJ_479_25 : sx_iB prog_14_method_156_code aI_479_25 = true := by decide +kernel
def aI_479_26 : sx_IL := [(263, .if_icmp .ge 21, 3), (266, .aload_n 0, 1), (267, .iload_n 1, 1), (268, .aload_n 0, 1), (269, .getfield 480, 3), (272, .iload 10, 2)]
theorem aJ_479_26 : sx_iB prog_14_method_156_code aI_479_26 = true := by decide +kernel
def aI_479_27 : sx_IL := [(274, .iaload, 1), (275, .invokevirtual 977, 3), (278, .iinc 10 1, 3), (281, .goto (-24), 3), (284, .aload_n 0, 1), (285, .getfield 321, 3)]
theorem aJ_479_27 : sx_iB prog_14_method_156_code aI_479_27 = true := by decide +kernel
def aI_479_28 : sx_IL := [(288, .iload_n 1, 1), (289, .dup2, 1), (290, .iaload, 1), (291, .iconst 1, 1), (292, .iadd, 1), (293, .iastore, 1)]
theorem aJ_479_28 : sx_iB prog_14_method_156_code aI_479_28 = true := by decide +kernel
def aI_479_29 : sx_IL := [(294, .return_, 1)]
theorem aJ_479_29 : sx_iB prog_14_method_156_code aI_479_29 = true := by decide +kernel
def aS_479 (pc : Nat) : sx_IL := (if pc < 153 then (if pc < 72 then (if pc < 29 then (if pc < 10 then aI_479_0 else (if pc < 19 then aI_479_1 else aI_479_2)) else (if pc < 50 then (if pc < 42 then aI_479_3 else aI_479_4) else (if pc < 62 then aI_479_5 else aI_479_6))) else (if pc < 112 then (if pc < 93 then (if pc < 82 then aI_479_7 else aI_479_8) else (if pc < 101 then aI_479_9 else aI_479_10)) else (if pc < 133 then (if pc < 123 then aI_479_11 else aI_479_12) else (if pc < 144 then aI_479_13 else aI_479_14)))) else (if pc < 217 then (if pc < 180 then (if pc < 161 then aI_479_15 else (if pc < 169 then aI_479_16 else aI_479_17)) else (if pc < 197 then (if pc < 189 then aI_479_18 else aI_479_19) else (if pc < 207 then aI_479_20 else aI_479_21))) else (if pc < 263 then (if pc < 240 then (if pc < 230 then aI_479_22 else aI_479_23) else (if pc < 254 then aI_479_24 else aI_479_25)) else (if pc < 288 then (if pc < 274 then aI_479_26 else aI_479_27) else (if pc < 294 then aI_479_28 else aI_479_29)))))
theorem aT_479 (pc : Nat) : sx_iOk prog_14_method_156_code (aS_479 pc) := (sx_ite (p := fun l => sx_iOk prog_14_method_156_code l) (sx_ite (p := fun l => sx_iOk prog_14_method_156_code l) (sx_ite (p := fun l => sx_iOk prog_14_method_156_code l) (sx_ite (p := fun l => sx_iOk prog_14_method_156_code l) (sx_iB_s aJ_479_0) (sx_ite (p := fun l => sx_iOk prog_14_method_156_code l) (sx_iB_s aJ_479_1) (sx_iB_s aJ_479_2))) (sx_ite (p := fun l => sx_iOk prog_14_method_156_code l) (sx_ite (p := fun l => sx_iOk prog_14_method_156_code l) (sx_iB_s aJ_479_3) (sx_iB_s aJ_479_4)) (sx_ite (p := fun l => sx_iOk prog_14_method_156_code l) (sx_iB_s aJ_479_5) (sx_iB_s aJ_479_6)))) (sx_ite (p := fun l => sx_iOk prog_14_method_156_code l) (sx_ite (p := fun l => sx_iOk prog_14_method_156_code l) (sx_ite (p := fun l => sx_iOk prog_14_method_156_code l) (sx_iB_s aJ_479_7) (sx_iB_s aJ_479_8)) (sx_ite (p := fun l => sx_iOk prog_14_method_156_code l) (sx_iB_s aJ_479_9) (sx_iB_s aJ_479_10))) (sx_ite (p := fun l => sx_iOk prog_14_method_156_code l) (sx_ite (p := fun l => sx_iOk prog_14_method_156_code l) (sx_iB_s aJ_479_11) (sx_iB_s aJ_479_12)) (sx_ite (p := fun l => sx_iOk prog_14_method_156_code l) (sx_iB_s aJ_479_13) (sx_iB_s aJ_479_14))))) (sx_ite (p := fun l => sx_iOk prog_14_method_156_code l) (sx_ite (p := fun l => sx_iOk prog_14_method_156_code l) (sx_ite (p := fun l => sx_iOk prog_14_method_156_code l) (sx_iB_s aJ_479_15) (sx_ite (p := fun l => sx_iOk prog_14_method_156_code l) (sx_iB_s aJ_479_16) (sx_iB_s aJ_479_17))) (sx_ite (p := fun l => sx_iOk prog_14_method_156_code l) (sx_ite (p := fun l => sx_iOk prog_14_method_156_code l) (sx_iB_s aJ_479_18) (sx_iB_s aJ_479_19)) (sx_ite (p := fun l => sx_iOk prog_14_method_156_code l) (sx_iB_s aJ_479_20) (sx_iB_s aJ_479_21)))) (sx_ite (p := fun l => sx_iOk prog_14_method_156_code l) (sx_ite (p := fun l => sx_iOk prog_14_method_156_code l) (sx_ite (p := fun l => sx_iOk prog_14_method_156_code l) (sx_iB_s aJ_479_22) (sx_iB_s aJ_479_23)) (sx_ite (p := fun l => sx_iOk prog_14_method_156_code l) (sx_iB_s aJ_479_24) (sx_iB_s aJ_479_25))) (sx_ite (p := fun l => sx_iOk prog_14_method_156_code l) (sx_ite (p := fun l => sx_iOk prog_14_method_156_code l) (sx_iB_s aJ_479_26) (sx_iB_s aJ_479_27)) (sx_ite (p := fun l => sx_iOk prog_14_method_156_code l) (sx_iB_s aJ_479_28) (sx_iB_s aJ_479_29))))))
def aW_479 : Nat → Option (Instr × Nat) := fun pc => sx_iF (aS_479 pc) pc
theorem aX_479 : ∀ pc i len, aW_479 pc = some (i, len) → decode aM_479.1.2.1 pc = .ok (i, len) := fun pc i len h => sx_iF_s (aT_479 pc) h
def aI_480_0 : sx_IL := [(0, .aload_n 0, 1), (1, .getfield 265, 3), (4, .sipush 16000, 3), (7, .iload_n 1, 1), (8, .imul, 1), (9, .aload_n 0, 1)]
theorem aJ_480_0 : sx_iB prog_14_method_155_code aI_480_0 = true := by decide +kernel
def aI_480_1 : sx_IL := [(10, .getfield 268, 3), (13, .iload_n 1, 1), (14, .iaload, 1), (15, .iadd, 1), (16, .iload_n 2, 1), (17, .sipush 255, 3)]
theorem aJ_480_1 : sx_iB prog_14_method_155_code aI_480_1 = true := by decide +kernel
def aI_480_2 : sx_IL := [(20, .iand, 1), (21, .iastore, 1), (22, .aload_n 0, 1), (23, .getfield 268, 3), (26, .iload_n 1, 1), (27, .dup2, 1)]
theorem aJ_480_2 : sx_iB prog_14_method_155_code aI_480_2 = true := by decide +kernel
def aI_480_3 : sx_IL := [(28, .iaload, 1), (29, .iconst 1, 1), (30, .iadd, 1), (31, .iastore, 1), (32, .return_, 1)]
theorem aJ_480_3 : sx_iB prog_14_method_155_code aI_480_3 = true := by decide +kernel
def aS_480 (pc : Nat) : sx_IL := (if pc < 20 then (if pc < 10 then aI_480_0 else aI_480_1) else (if pc < 28 then aI_480_2 else aI_480_3))
theorem aT_480 (pc : Nat) : sx_iOk prog_14_method_155_code (aS_480 pc) := (sx_ite (p := fun l => sx_iOk prog_14_method_155_code l) (sx_ite (p := fun l => sx_iOk prog_14_method_155_code l) (sx_iB_s aJ_480_0) (sx_iB_s aJ_480_1)) (sx_ite (p := fun l => sx_iOk prog_14_method_155_code l) (sx_iB_s aJ_480_2) (sx_iB_s aJ_480_3)))
def aW_480 : Nat → Option (Instr × Nat) := fun pc => sx_iF (aS_480 pc) pc
theorem aX_480 : ∀ pc i len, aW_480 pc = some (i, len) → decode aM_480.1.2.1 pc = .ok (i, len) := fun pc i len h => sx_iF_s (aT_480 pc) h
def aI_481_0 : sx_IL := [(0, .aload_n 0, 1), (1, .iconst 2, 1), (2, .iload_n 1, 1), (3, .imul, 1), (4, .iload_n 2, 1), (5, .iadd, 1)]
theorem aJ_481_0 : sx_iB prog_14_method_152_code aI_481_0 = true := by decide +kernel
def aI_481_1 : sx_IL := [(6, .invokevirtual 967, 3), (9, .aload_n 0, 1), (10, .invokevirtual 571, 3), (13, .lreturn, 1)]
theorem aJ_481_1 : sx_iB prog_14_method_152_code aI_481_1 = true := by decide +kernel
def aS_481 (pc : Nat) : sx_IL := (if pc < 6 then aI_481_0 else aI_481_1)
theorem aT_481 (pc : Nat) : sx_iOk prog_14_method_152_code (aS_481 pc) := (sx_ite (p := fun l => sx_iOk prog_14_method_152_code l) (sx_iB_s aJ_481_0) (sx_iB_s aJ_481_1))
def aW_481 : Nat → Option (Instr × Nat) := fun pc => sx_iF (aS_481 pc) pc
theorem aX_481 : ∀ pc i len, aW_481 pc = some (i, len) → decode aM_481.1.2.1 pc = .ok (i, len) := fun pc i len h => sx_iF_s (aT_481 pc) h
def aI_482_0 : sx_IL := [(0, .aload_n 0, 1), (1, .getfield 309, 3), (4, .iload_n 1, 1), (5, .iconst 1, 1), (6, .bastore, 1), (7, .aload_n 0, 1)]
theorem aJ_482_0 : sx_iB prog_14_method_157_code aI_482_0 = true := by decide +kernel
def aI_482_1 : sx_IL := [(8, .getfield 327, 3), (11, .iload_n 1, 1), (12, .iload_n 2, 1), (13, .iastore, 1), (14, .aload_n 0, 1), (15, .getfield 315, 3)]
theorem aJ_482_1 : sx_iB prog_14_method_157_code aI_482_1 = true := by decide +kernel
def aI_482_2 : sx_IL := [(18, .iload_n 1, 1), (19, .lload_n 3, 1), (20, .lastore, 1), (21, .aload_n 0, 1), (22, .getfield 321, 3), (25, .iload_n 1, 1)]
theorem aJ_482_2 : sx_iB prog_14_method_157_code aI_482_2 = true := by decide +kernel
def aI_482_3 : sx_IL := [(26, .iconst 0, 1), (27, .iastore, 1), (28, .return_, 1)]
theorem aJ_482_3 : sx_iB prog_14_method_157_code aI_482_3 = true := by decide +kernel
def aS_482 (pc : Nat) : sx_IL := (if pc < 18 then (if pc < 8 then aI_482_0 else aI_482_1) else (if pc < 26 then aI_482_2 else aI_482_3))
theorem aT_482 (pc : Nat) : sx_iOk prog_14_method_157_code (aS_482 pc) := (sx_ite (p := fun l => sx_iOk prog_14_method_157_code l) (sx_ite (p := fun l => sx_iOk prog_14_method_157_code l) (sx_iB_s aJ_482_0) (sx_iB_s aJ_482_1)) (sx_ite (p := fun l => sx_iOk prog_14_method_157_code l) (sx_iB_s aJ_482_2) (sx_iB_s aJ_482_3)))
def aW_482 : Nat → Option (Instr × Nat) := fun pc => sx_iF (aS_482 pc) pc
theorem aX_482 : ∀ pc i len, aW_482 pc = some (i, len) → decode aM_482.1.2.1 pc = .ok (i, len) := fun pc i len h => sx_iF_s (aT_482 pc) h
def aI_484_0 : sx_IL := [(0, .aload_n 0, 1), (1, .iload_n 1, 1), (2, .invokevirtual 964, 3), (5, .ifCond .eq 17, 3), (8, .iload_n 2, 1), (9, .i2l, 1)]
theorem aJ_484_0 : sx_iB prog_14_method_148_code aI_484_0 = true := by decide +kernel
def aI_484_1 : sx_IL := [(10, .lconst 0, 1), (11, .lconst 1, 1), (12, .invokestatic 513, 3), (15, .ifCond .eq 7, 3), (18, .iconst 1, 1), (19, .goto 4, 3)]
theorem aJ_484_1 : sx_iB prog_14_method_148_code aI_484_1 = true := by decide +kernel
def aI_484_2 : sx_IL := [(22, .iconst 0, 1), (23, .ireturn, 1)]
theorem aJ_484_2 : sx_iB prog_14_method_148_code aI_484_2 = true := by decide +kernel
def aS_484 (pc : Nat) : sx_IL := (if pc < 10 then aI_484_0 else (if pc < 22 then aI_484_1 else aI_484_2))
theorem aT_484 (pc : Nat) : sx_iOk prog_14_method_148_code (aS_484 pc) := (sx_ite (p := fun l => sx_iOk prog_14_method_148_code l) (sx_iB_s aJ_484_0) (sx_ite (p := fun l => sx_iOk prog_14_method_148_code l) (sx_iB_s aJ_484_1) (sx_iB_s aJ_484_2)))
def aW_484 : Nat → Option (Instr × Nat) := fun pc => sx_iF (aS_484 pc) pc
theorem aX_484 : ∀ pc i len, aW_484 pc = some (i, len) → decode aM_484.1.2.1 pc = .ok (i, len) := fun pc i len h => sx_iF_s (aT_484 pc) h
def aI_485_0 : sx_IL := [(0, .iload_n 1, 1), (1, .i2l, 1), (2, .lconst 0, 1), (3, .aload_n 0, 1), (4, .getfield 961, 3), (7, .iconst 1, 1)]
theorem aJ_485_0 : sx_iB prog_14_method_147_code aI_485_0 = true := by decide +kernel
def aI_485_1 : sx_IL := [(8, .isub, 1), (9, .i2l, 1), (10, .invokestatic 513, 3), (13, .ireturn, 1)]
theorem aJ_485_1 : sx_iB prog_14_method_147_code aI_485_1 = true := by decide +kernel
def aS_485 (pc : Nat) : sx_IL := (if pc < 8 then aI_485_0 else aI_485_1)
theorem aT_485 (pc : Nat) : sx_iOk prog_14_method_147_code (aS_485 pc) := (sx_ite (p := fun l => sx_iOk prog_14_method_147_code l) (sx_iB_s aJ_485_0) (sx_iB_s aJ_485_1))
def aW_485 : Nat → Option (Instr × Nat) := fun pc => sx_iF (aS_485 pc) pc
theorem aX_485 : ∀ pc i len, aW_485 pc = some (i, len) → decode aM_485.1.2.1 pc = .ok (i, len) := fun pc i len h => sx_iF_s (aT_485 pc) h
def aI_486_0 : sx_IL := [(0, .aload_n 0, 1), (1, .getfield 261, 3), (4, .iconst 2, 1), (5, .iload_n 1, 1), (6, .imul, 1), (7, .iload_n 2, 1)]
theorem aJ_486_0 : sx_iB prog_14_method_230_code aI_486_0 = true := by decide +kernel
def aI_486_1 : sx_IL := [(8, .iadd, 1), (9, .iaload, 1), (10, .ifCond .lt 7, 3), (13, .iconst 1, 1), (14, .goto 4, 3), (17, .iconst 0, 1)]
theorem aJ_486_1 : sx_iB prog_14_method_230_code aI_486_1 = true := by decide +kernel
def aI_486_2 : sx_IL := [(18, .ireturn, 1)]
theorem aJ_486_2 : sx_iB prog_14_method_230_code aI_486_2 = true := by decide +kernel
def aS_486 (pc : Nat) : sx_IL := (if pc < 8 then aI_486_0 else (if pc < 18 then aI_486_1 else aI_486_2))
theorem aT_486 (pc : Nat) : sx_iOk prog_14_method_230_code (aS_486 pc) := (sx_ite (p := fun l => sx_iOk prog_14_method_230_code l) (sx_iB_s aJ_486_0) (sx_ite (p := fun l => sx_iOk prog_14_method_230_code l) (sx_iB_s aJ_486_1) (sx_iB_s aJ_486_2)))
def aW_486 : Nat → Option (Instr × Nat) := fun pc => sx_iF (aS_486 pc) pc
theorem aX_486 : ∀ pc i len, aW_486 pc = some (i, len) → decode aM_486.1.2.1 pc = .ok (i, len) := fun pc i len h => sx_iF_s (aT_486 pc) h
def aI_490_0 : sx_IL := [(0, .aload_n 0, 1), (1, .getfield 486, 3), (4, .iconst 0, 1), (5, .iload_n 2, 1), (6, .iastore, 1), (7, .aload_n 0, 1)]
theorem aJ_490_0 : sx_iB prog_14_method_161_code aI_490_0 = true := by decide +kernel
def aI_490_1 : sx_IL := [(8, .iload_n 1, 1), (9, .bipush 21, 2), (11, .aload_n 0, 1), (12, .getfield 486, 3), (15, .iconst 0, 1), (16, .iconst 1, 1)]
theorem aJ_490_1 : sx_iB prog_14_method_161_code aI_490_1 = true := by decide +kernel
def aI_490_2 : sx_IL := [(17, .invokevirtual 987, 3), (20, .aload_n 0, 1), (21, .getfield 303, 3), (24, .iload_n 1, 1), (25, .iload_n 2, 1), (26, .iastore, 1)]
theorem aJ_490_2 : sx_iB prog_14_method_161_code aI_490_2 = true := by decide +kernel
def aI_490_3 : sx_IL := [(27, .return_, 1)]
theorem aJ_490_3 : sx_iB prog_14_method_161_code aI_490_3 = true := by decide +kernel
def aS_490 (pc : Nat) : sx_IL := (if pc < 17 then (if pc < 8 then aI_490_0 else aI_490_1) else (if pc < 27 then aI_490_2 else aI_490_3))
theorem aT_490 (pc : Nat) : sx_iOk prog_14_method_161_code (aS_490 pc) := (sx_ite (p := fun l => sx_iOk prog_14_method_161_code l) (sx_ite (p := fun l => sx_iOk prog_14_method_161_code l) (sx_iB_s aJ_490_0) (sx_iB_s aJ_490_1)) (sx_ite (p := fun l => sx_iOk prog_14_method_161_code l) (sx_iB_s aJ_490_2) (sx_iB_s aJ_490_3)))
def aW_490 : Nat → Option (Instr × Nat) := fun pc => sx_iF (aS_490 pc) pc
theorem aX_490 : ∀ pc i len, aW_490 pc = some (i, len) → decode aM_490.1.2.1 pc = .ok (i, len) := fun pc i len h => sx_iF_s (aT_490 pc) h
def aI_497_0 : sx_IL := [(0, .iload_n 1, 1), (1, .iconst 2, 1), (2, .irem, 1), (3, .ifCond .ne 7, 3), (6, .iconst 1, 1), (7, .goto 4, 3)]
theorem aJ_497_0 : sx_iB prog_14_method_181_code aI_497_0 = true := by decide +kernel
def aI_497_1 : sx_IL := [(10, .iconst 0, 1), (11, .ireturn, 1)]
theorem aJ_497_1 : sx_iB prog_14_method_181_code aI_497_1 = true := by decide +kernel
def aS_497 (pc : Nat) : sx_IL := (if pc < 10 then aI_497_0 else aI_497_1)
theorem aT_497 (pc : Nat) : sx_iOk prog_14_method_181_code (aS_497 pc) := (sx_ite (p := fun l => sx_iOk prog_14_method_181_code l) (sx_iB_s aJ_497_0) (sx_iB_s aJ_497_1))
def aW_497 : Nat → Option (Instr × Nat) := fun pc => sx_iF (aS_497 pc) pc
theorem aX_497 : ∀ pc i len, aW_497 pc = some (i, len) → decode aM_497.1.2.1 pc = .ok (i, len) := fun pc i len h => sx_iF_s (aT_497 pc) h
def aI_514_0 : sx_IL := [(0, .aload_n 0, 1), (1, .getfield 330, 3), (4, .iload_n 1, 1), (5, .iaload, 1), (6, .invokestatic 602, 3), (9, .ireturn, 1)]
theorem aJ_514_0 : sx_iB prog_14_method_153_code aI_514_0 = true := by decide +kernel
def aS_514 (pc : Nat) : sx_IL := aI_514_0
theorem aT_514 (pc : Nat) : sx_iOk prog_14_method_153_code (aS_514 pc) := (sx_iB_s aJ_514_0)
def aW_514 : Nat → Option (Instr × Nat) := fun pc => sx_iF (aS_514 pc) pc
theorem aX_514 : ∀ pc i len, aW_514 pc = some (i, len) → decode aM_514.1.2.1 pc = .ok (i, len) := fun pc i len h => sx_iF_s (aT_514 pc) h
def aI_541_0 : sx_IL := [(0, .aload_n 0, 1), (1, .aload_n 0, 1), (2, .iload_n 1, 1), (3, .invokevirtual 998, 3), (6, .lload_n 2, 1), (7, .bipush 117, 2)]
theorem aJ_541_0 : sx_iB prog_14_method_208_code aI_541_0 = true := by decide +kernel
def aI_541_1 : sx_IL := [(9, .lconst 0, 1), (10, .invokevirtual 598, 3), (13, .lreturn, 1)]
theorem aJ_541_1 : sx_iB prog_14_method_208_code aI_541_1 = true := by decide +kernel
def aS_541 (pc : Nat) : sx_IL := (if pc < 9 then aI_541_0 else aI_541_1)
theorem aT_541 (pc : Nat) : sx_iOk prog_14_method_208_code (aS_541 pc) := (sx_ite (p := fun l => sx_iOk prog_14_method_208_code l) (sx_iB_s aJ_541_0) (sx_iB_s aJ_541_1))
def aW_541 : Nat → Option (Instr × Nat) := fun pc => sx_iF (aS_541 pc) pc
theorem aX_541 : ∀ pc i len, aW_541 pc = some (i, len) → decode aM_541.1.2.1 pc = .ok (i, len) := fun pc i len h => sx_iF_s (aT_541 pc) h
def aI_542_0 : sx_IL := [(0, .aload_n 0, 1), (1, .iconst 0, 1), (2, .putfield 814, 3), (5, .aload_n 0, 1), (6, .iload_n 2, 1), (7, .invokevirtual 817, 3)]
theorem aJ_542_0 : sx_iB prog_14_method_209_code aI_542_0 = true := by decide +kernel
def aI_542_1 : sx_IL := [(10, .aload_n 0, 1), (11, .iload_n 1, 1), (12, .bipush 24, 2), (14, .invokevirtual 1031, 3), (17, .aload_n 0, 1), (18, .iload_n 1, 1)]
theorem aJ_542_1 : sx_iB prog_14_method_209_code aI_542_1 = true := by decide +kernel
def aI_542_2 : sx_IL := [(19, .aload_n 0, 1), (20, .getfield 330, 3), (23, .iload_n 1, 1), (24, .iaload, 1), (25, .aload_n 0, 1), (26, .iload_n 1, 1)]
theorem aJ_542_2 : sx_iB prog_14_method_209_code aI_542_2 = true := by decide +kernel
def aI_542_3 : sx_IL := [(27, .aload_n 0, 1), (28, .getfield 315, 3), (31, .iload_n 1, 1), (32, .laload, 1), (33, .invokevirtual 1189, 3), (36, .invokevirtual 1034, 3)]
theorem aJ_542_3 : sx_iB prog_14_method_209_code aI_542_3 = true := by decide +kernel
def aI_542_4 : sx_IL := [(39, .return_, 1)]
theorem aJ_542_4 : sx_iB prog_14_method_209_code aI_542_4 = true := by decide +kernel
def aS_542 (pc : Nat) : sx_IL := (if pc < 19 then (if pc < 10 then aI_542_0 else aI_542_1) else (if pc < 27 then aI_542_2 else (if pc < 39 then aI_542_3 else aI_542_4)))
theorem aT_542 (pc : Nat) : sx_iOk prog_14_method_209_code (aS_542 pc) := (sx_ite (p := fun l => sx_iOk prog_14_method_209_code l) (sx_ite (p := fun l => sx_iOk prog_14_method_209_code l) (sx_iB_s aJ_542_0) (sx_iB_s aJ_542_1)) (sx_ite (p := fun l => sx_iOk prog_14_method_209_code l) (sx_iB_s aJ_542_2) (sx_ite (p := fun l => sx_iOk prog_14_method_209_code l) (sx_iB_s aJ_542_3) (sx_iB_s aJ_542_4))))
def aW_542 : Nat → Option (Instr × Nat) := fun pc => sx_iF (aS_542 pc) pc
theorem aX_542 : ∀ pc i len, aW_542 pc = some (i, len) → decode aM_542.1.2.1 pc = .ok (i, len) := fun pc i len h => sx_iF_s (aT_542 pc) h
def aI_551_0 : sx_IL := [(0, .aload_n 0, 1), (1, .iload_n 1, 1), (2, .iload_n 2, 1), (3, .invokevirtual 1272, 3), (6, .ifCond .ne 5, 3), (9, .iconst (-1), 1)]
theorem aJ_551_0 : sx_iB prog_14_method_233_code aI_551_0 = true := by decide +kernel
def aI_551_1 : sx_IL := [(10, .ireturn, 1), (11, .iconst 2, 1), (12, .iload_n 1, 1), (13, .imul, 1), (14, .iload_n 2, 1), (15, .iadd, 1)]
theorem aJ_551_1 : sx_iB prog_14_method_233_code aI_551_1 = true := by decide +kernel
def aI_551_2 : sx_IL := [(16, .istore 4, 2), (18, .iload_n 3, 1), (19, .iconst (-1), 1), (20, .if_icmp .ne 13, 3), (23, .aload_n 0, 1), (24, .getfield 268, 3)]
theorem aJ_551_2 : sx_iB prog_14_method_233_code aI_551_2 = true := by decide +kernel
def aI_551_3 : sx_IL := [(27, .iload 4, 2), (29, .iaload, 1), (30, .goto 39, 3), (33, .iload_n 3, 1), (34, .i2l, 1), (35, .lconst 0, 1)]
theorem aJ_551_3 : sx_iB prog_14_method_233_code aI_551_3 = true := by decide +kernel
def aI_551_4 : sx_IL := [(36, .aload_n 0, 1), (37, .getfield 268, 3), (40, .iload 4, 2), (42, .iaload, 1), (43, .iconst 1, 1), (44, .isub, 1)]
theorem aJ_551_4 : sx_iB prog_14_method_233_code aI_551_4 = true := by decide +kernel
def aI_551_5 : sx_IL := [(45, .i2l, 1), (46, .invokestatic 513, 3), (49, .ifCond .eq 19, 3), (52, .aload_n 0, 1), (53, .getfield 265, 3), (56, .sipush 16000, 3)]
theorem aJ_551_5 : sx_iB prog_14_method_233_code aI_551_5 = true := by decide +kernel
def aI_551_6 : sx_IL := [(59, .iload 4, 2), (61, .imul, 1), (62, .iload_n 3, 1), (63, .iadd, 1), (64, .iaload, 1), (65, .goto 4, 3)]
theorem aJ_551_6 : sx_iB prog_14_method_233_code aI_551_6 = true := by decide +kernel
def aI_551_7 : sx_IL := [(68, .iconst (-1), 1), (69, .ireturn, 1)]
theorem aJ_551_7 : sx_iB prog_14_method_233_code aI_551_7 = true := by decide +kernel
def aS_551 (pc : Nat) : sx_IL := (if pc < 36 then (if pc < 16 then (if pc < 10 then aI_551_0 else aI_551_1) else (if pc < 27 then aI_551_2 else aI_551_3)) else (if pc < 59 then (if pc < 45 then aI_551_4 else aI_551_5) else (if pc < 68 then aI_551_6 else aI_551_7)))
theorem aT_551 (pc : Nat) : sx_iOk prog_14_method_233_code (aS_551 pc) := (sx_ite (p := fun l => sx_iOk prog_14_method_233_code l) (sx_ite (p := fun l => sx_iOk prog_14_method_233_code l) (sx_ite (p := fun l => sx_iOk prog_14_method_233_code l) (sx_iB_s aJ_551_0) (sx_iB_s aJ_551_1)) (sx_ite (p := fun l => sx_iOk prog_14_method_233_code l) (sx_iB_s aJ_551_2) (sx_iB_s aJ_551_3))) (sx_ite (p := fun l => sx_iOk prog_14_method_233_code l) (sx_ite (p := fun l => sx_iOk prog_14_method_233_code l) (sx_iB_s aJ_551_4) (sx_iB_s aJ_551_5)) (sx_ite (p := fun l => sx_iOk prog_14_method_233_code l) (sx_iB_s aJ_551_6) (sx_iB_s aJ_551_7))))
def aW_551 : Nat → Option (Instr × Nat) := fun pc => sx_iF (aS_551 pc) pc
theorem aX_551 : ∀ pc i len, aW_551 pc = some (i, len) → decode aM_551.1.2.1 pc = .ok (i, len) := fun pc i len h => sx_iF_s (aT_551 pc) h
def aI_552_0 : sx_IL := [(0, .aload_n 0, 1), (1, .iload_n 1, 1), (2, .iload_n 2, 1), (3, .invokevirtual 1272, 3), (6, .ifCond .eq 38, 3), (9, .iload_n 3, 1)]
theorem aJ_552_0 : sx_iB prog_14_method_234_code aI_552_0 = true := by decide +kernel
def aI_552_1 : sx_IL := [(10, .i2l, 1), (11, .lconst 0, 1), (12, .aload_n 0, 1), (13, .getfield 268, 3), (16, .iconst 2, 1), (17, .iload_n 1, 1)]
theorem aJ_552_1 : sx_iB prog_14_method_234_code aI_552_1 = true := by decide +kernel
def aI_552_2 : sx_IL := [(18, .imul, 1), (19, .iload_n 2, 1), (20, .iadd, 1), (21, .iaload, 1), (22, .iconst 1, 1), (23, .isub, 1)]
theorem aJ_552_2 : sx_iB prog_14_method_234_code aI_552_2 = true := by decide +kernel
def aI_552_3 : sx_IL := [(24, .i2l, 1), (25, .invokestatic 513, 3), (28, .ifCond .eq 16, 3), (31, .iload 4, 2), (33, .i2l, 1), (34, .lconst 1, 1)]
theorem aJ_552_3 : sx_iB prog_14_method_234_code aI_552_3 = true := by decide +kernel
def aI_552_4 : sx_IL := [(35, .ldc2_w 596, 3), (38, .invokestatic 513, 3), (41, .ifCond .ne 5, 3), (44, .iconst (-1), 1), (45, .ireturn, 1), (46, .aload_n 0, 1)]
theorem aJ_552_4 : sx_iB prog_14_method_234_code aI_552_4 = true := by decide +kernel
def aI_552_5 : sx_IL := [(47, .getfield 265, 3), (50, .sipush 16000, 3), (53, .iconst 2, 1), (54, .iload_n 1, 1), (55, .imul, 1), (56, .iload_n 2, 1)]
theorem aJ_552_5 : sx_iB prog_14_method_234_code aI_552_5 = true := by decide +kernel
def aI_552_6 : sx_IL := [(57, .iadd, 1), (58, .imul, 1), (59, .iload_n 3, 1), (60, .iadd, 1), (61, .dup2, 1), (62, .iaload, 1)]
theorem aJ_552_6 : sx_iB prog_14_method_234_code aI_552_6 = true := by decide +kernel
def aI_552_7 : sx_IL := [(63, .iload 4, 2), (65, .ixor, 1), (66, .iastore, 1), (67, .aload_n 0, 1), (68, .getfield 265, 3), (71, .sipush 16000, 3)]
theorem aJ_552_7 : sx_iB prog_14_method_234_code aI_552_7 = true := by decide +kernel
def aI_552_8 : sx_IL := [(74, .iconst 2, 1), (75, .iload_n 1, 1), (76, .imul, 1), (77, .iload_n 2, 1), (78, .iadd, 1), (79, .imul, 1)]
theorem aJ_552_8 : sx_iB prog_14_method_234_code aI_552_8 = true := by decide +kernel
def aI_552_9 : sx_IL := [(80, .iload_n 3, 1), (81, .iadd, 1), (82, .iaload, 1), (83, .ireturn, 1)]
theorem aJ_552_9 : sx_iB prog_14_method_234_code aI_552_9 = true := by decide +kernel
def aS_552 (pc : Nat) : sx_IL := (if pc < 47 then (if pc < 18 then (if pc < 10 then aI_552_0 else aI_552_1) else (if pc < 24 then aI_552_2 else (if pc < 35 then aI_552_3 else aI_552_4))) else (if pc < 63 then (if pc < 57 then aI_552_5 else aI_552_6) else (if pc < 74 then aI_552_7 else (if pc < 80 then aI_552_8 else aI_552_9))))
theorem aT_552 (pc : Nat) : sx_iOk prog_14_method_234_code (aS_552 pc) := (sx_ite (p := fun l => sx_iOk prog_14_method_234_code l) (sx_ite (p := fun l => sx_iOk prog_14_method_234_code l) (sx_ite (p := fun l => sx_iOk prog_14_method_234_code l) (sx_iB_s aJ_552_0) (sx_iB_s aJ_552_1)) (sx_ite (p := fun l => sx_iOk prog_14_method_234_code l) (sx_iB_s aJ_552_2) (sx_ite (p := fun l => sx_iOk prog_14_method_234_code l) (sx_iB_s aJ_552_3) (sx_iB_s aJ_552_4)))) (sx_ite (p := fun l => sx_iOk prog_14_method_234_code l) (sx_ite (p := fun l => sx_iOk prog_14_method_234_code l) (sx_iB_s aJ_552_5) (sx_iB_s aJ_552_6)) (sx_ite (p := fun l => sx_iOk prog_14_method_234_code l) (sx_iB_s aJ_552_7) (sx_ite (p := fun l => sx_iOk prog_14_method_234_code l) (sx_iB_s aJ_552_8) (sx_iB_s aJ_552_9)))))
def aW_552 : Nat → Option (Instr × Nat) := fun pc => sx_iF (aS_552 pc) pc
theorem aX_552 : ∀ pc i len, aW_552 pc = some (i, len) → decode aM_552.1.2.1 pc = .ok (i, len) := fun pc i len h => sx_iF_s (aT_552 pc) h
def aI_553_0 : sx_IL := [(0, .aload_n 0, 1), (1, .iload_n 1, 1), (2, .iload_n 2, 1), (3, .invokevirtual 1272, 3), (6, .ifCond .ne 5, 3), (9, .iconst (-1), 1)]
theorem aJ_553_0 : sx_iB prog_14_method_236_code aI_553_0 = true := by decide +kernel
def aI_553_1 : sx_IL := [(10, .ireturn, 1), (11, .iconst 2, 1), (12, .iload_n 1, 1), (13, .imul, 1), (14, .iload_n 2, 1), (15, .iadd, 1)]
theorem aJ_553_1 : sx_iB prog_14_method_236_code aI_553_1 = true := by decide +kernel
def aI_553_2 : sx_IL := [(16, .istore_n 3, 1), (17, .aload_n 0, 1), (18, .iload_n 1, 1), (19, .iload_n 2, 1), (20, .invokevirtual 1275, 3), (23, .ifCond .eq 20, 3)]
theorem aJ_553_2 : sx_iB prog_14_method_236_code aI_553_2 = true := by decide +kernel
def aI_553_3 : sx_IL := [(26, .aload_n 0, 1), (27, .iload_n 3, 1), (28, .invokevirtual 1283, 3), (31, .ifCond .eq 12, 3), (34, .aload_n 0, 1), (35, .getfield 297, 3)]
theorem aJ_553_3 : sx_iB prog_14_method_236_code aI_553_3 = true := by decide +kernel
def aI_553_4 : sx_IL := [(38, .iload_n 3, 1), (39, .baload, 1), (40, .ifCond .eq 6, 3), (43, .bipush (-2), 2), (45, .ireturn, 1), (46, .aload_n 0, 1)]
theorem aJ_553_4 : sx_iB prog_14_method_236_code aI_553_4 = true := by decide +kernel
def aI_553_5 : sx_IL := [(47, .getfield 268, 3), (50, .iload_n 3, 1), (51, .iaload, 1), (52, .sipush 2000, 3), (55, .if_icmp .le 6, 3), (58, .bipush (-3), 2)]
theorem aJ_553_5 : sx_iB prog_14_method_236_code aI_553_5 = true := by decide +kernel
def aI_553_6 : sx_IL := [(60, .ireturn, 1), (61, .aload_n 0, 1), (62, .getfield 517, 3), (65, .istore 4, 2), (67, .iconst 0, 1), (68, .istore 5, 2)]
theorem aJ_553_6 : sx_iB prog_14_method_236_code aI_553_6 = true := by decide +kernel
def aI_553_7 : sx_IL := [(70, .iload 5, 2), (72, .iload 4, 2), (74, .if_icmp .ge 47, 3), (77, .aload_n 0, 1), (78, .iload_n 3, 1), (79, .bipush 23, 2)]
theorem aJ_553_7 : sx_iB prog_14_method_236_code aI_553_7 = true := by decide +kernel
def aI_553_8 : sx_IL := [(81, .aload_n 0, 1), (82, .getfield 7, 3), (85, .iload 5, 2), (87, .iload 4, 2), (89, .iload 5, 2), (91, .isub, 1)]
theorem aJ_553_8 : sx_iB prog_14_method_236_code aI_553_8 = true := by decide +kernel
def aI_553_9 : sx_IL := [(92, .sipush 200, 3), (95, .if_icmp .ge 11, 3), (98, .iload 4, 2), (100, .iload 5, 2), (102, .isub, 1), (103, .goto 6, 3)]
theorem aJ_553_9 : sx_iB prog_14_method_236_code aI_553_9 = true := by decide +kernel
def aI_553_10 : sx_IL := [(106, .sipush 200, 3), (109, .invokevirtual 987, 3), (112, .iinc 5 200, 6), (118, .goto (-48), 3), (121, .aload_n 0, 1), (122, .iconst 0, 1)]
theorem aJ_553_10 : sx_iB prog_14_method_236_code aI_553_10 = true := by decide +kernel
def aI_553_11 : sx_IL := [(123, .putfield 517, 3), (126, .iload 4, 2), (128, .ireturn, 1)]
theorem aJ_553_11 : sx_iB prog_14_method_236_code aI_553_11 = true := by decide +kernel
def aS_553 (pc : Nat) : sx_IL := (if pc < 60 then (if pc < 26 then (if pc < 10 then aI_553_0 else (if pc < 16 then aI_553_1 else aI_553_2)) else (if pc < 38 then aI_553_3 else (if pc < 47 then aI_553_4 else aI_553_5))) else (if pc < 92 then (if pc < 70 then aI_553_6 else (if pc < 81 then aI_553_7 else aI_553_8)) else (if pc < 106 then aI_553_9 else (if pc < 123 then aI_553_10 else aI_553_11))))
theorem aT_553 (pc : Nat) : sx_iOk prog_14_method_236_code (aS_553 pc) := (sx_ite (p := fun l => sx_iOk prog_14_method_236_code l) (sx_ite (p := fun l => sx_iOk prog_14_method_236_code l) (sx_ite (p := fun l => sx_iOk prog_14_method_236_code l) (sx_iB_s aJ_553_0) (sx_ite (p := fun l => sx_iOk prog_14_method_236_code l) (sx_iB_s aJ_553_1) (sx_iB_s aJ_553_2))) (sx_ite (p := fun l => sx_iOk prog_14_method_236_code l) (sx_iB_s aJ_553_3) (sx_ite (p := fun l => sx_iOk prog_14_method_236_code l) (sx_iB_s aJ_553_4) (sx_iB_s aJ_553_5)))) (sx_ite (p := fun l => sx_iOk prog_14_method_236_code l) (sx_ite (p := fun l => sx_iOk prog_14_method_236_code l) (sx_iB_s aJ_553_6) (sx_ite (p := fun l => sx_iOk prog_14_method_236_code l) (sx_iB_s aJ_553_7) (sx_iB_s aJ_553_8))) (sx_ite (p := fun l => sx_iOk prog_14_method_236_code l) (sx_iB_s aJ_553_9) (sx_ite (p := fun l => sx_iOk prog_14_method_236_code l) (sx_iB_s aJ_553_10) (sx_iB_s aJ_553_11)))))
def aW_553 : Nat → Option (Instr × Nat) := fun pc => sx_iF (aS_553 pc) pc
theorem aX_553 : ∀ pc i len, aW_553 pc = some (i, len) → decode aM_553.1.2.1 pc = .ok (i, len) := fun pc i len h => sx_iF_s (aT_553 pc) h
def aI_554_0 : sx_IL := [(0, .aload_n 0, 1), (1, .getfield 291, 3), (4, .iload_n 1, 1), (5, .iaload, 1), (6, .aload_n 0, 1), (7, .iload_n 1, 1)]
theorem aJ_554_0 : sx_iB prog_14_method_235_code aI_554_0 = true := by decide +kernel
def aI_554_1 : sx_IL := [(8, .invokevirtual 1064, 3), (11, .ifCond .eq 8, 3), (14, .bipush 7, 2), (16, .goto 5, 3), (19, .bipush 6, 2), (21, .if_icmp .ne 16, 3)]
theorem aJ_554_1 : sx_iB prog_14_method_235_code aI_554_1 = true := by decide +kernel
def aI_554_2 : sx_IL := [(24, .aload_n 0, 1), (25, .getfield 294, 3), (28, .iload_n 1, 1), (29, .baload, 1), (30, .ifCond .ne 7, 3), (33, .iconst 1, 1)]
theorem aJ_554_2 : sx_iB prog_14_method_235_code aI_554_2 = true := by decide +kernel
def aI_554_3 : sx_IL := [(34, .goto 4, 3), (37, .iconst 0, 1), (38, .ireturn, 1)]
theorem aJ_554_3 : sx_iB prog_14_method_235_code aI_554_3 = true := by decide +kernel
def aS_554 (pc : Nat) : sx_IL := (if pc < 24 then (if pc < 8 then aI_554_0 else aI_554_1) else (if pc < 34 then aI_554_2 else aI_554_3))
theorem aT_554 (pc : Nat) : sx_iOk prog_14_method_235_code (aS_554 pc) := (sx_ite (p := fun l => sx_iOk prog_14_method_235_code l) (sx_ite (p := fun l => sx_iOk prog_14_method_235_code l) (sx_iB_s aJ_554_0) (sx_iB_s aJ_554_1)) (sx_ite (p := fun l => sx_iOk prog_14_method_235_code l) (sx_iB_s aJ_554_2) (sx_iB_s aJ_554_3)))
def aW_554 : Nat → Option (Instr × Nat) := fun pc => sx_iF (aS_554 pc) pc
theorem aX_554 : ∀ pc i len, aW_554 pc = some (i, len) → decode aM_554.1.2.1 pc = .ok (i, len) := fun pc i len h => sx_iF_s (aT_554 pc) h
def aI_555_0 : sx_IL := [(0, .aload_n 0, 1), (1, .iload_n 1, 1), (2, .iload_n 2, 1), (3, .invokevirtual 1272, 3), (6, .ifCond .eq 12, 3), (9, .aload_n 0, 1)]
theorem aJ_555_0 : sx_iB prog_14_method_237_code aI_555_0 = true := by decide +kernel
def aI_555_1 : sx_IL := [(10, .iload_n 1, 1), (11, .iload_n 2, 1), (12, .invokevirtual 1275, 3), (15, .ifCond .ne 5, 3), (18, .iconst (-1), 1), (19, .ireturn, 1)]
theorem aJ_555_1 : sx_iB prog_14_method_237_code aI_555_1 = true := by decide +kernel
def aI_555_2 : sx_IL := [(20, .iconst 2, 1), (21, .iload_n 1, 1), (22, .imul, 1), (23, .iload_n 2, 1), (24, .iadd, 1), (25, .istore_n 3, 1)]
theorem aJ_555_2 : sx_iB prog_14_method_237_code aI_555_2 = true := by decide +kernel
def aI_555_3 : sx_IL := [(26, .aload_n 0, 1), (27, .getfield 288, 3), (30, .iload_n 3, 1), (31, .iaload, 1), (32, .ifCond .ne 34, 3), (35, .aload_n 0, 1)]
theorem aJ_555_3 : sx_iB prog_14_method_237_code aI_555_3 = true := by decide +kernel
def aI_555_4 : sx_IL := [(36, .getfield 300, 3), (39, .iload_n 3, 1), (40, .baload, 1), (41, .ifCond .eq 8, 3), (44, .bipush (-11), 2), (46, .goto 19, 3)]
theorem aJ_555_4 : sx_iB prog_14_method_237_code aI_555_4 = true := by decide +kernel
def aI_555_5 : sx_IL := [(49, .aload_n 0, 1), (50, .getfield 294, 3), (53, .iload_n 3, 1), (54, .baload, 1), (55, .ifCond .eq 8, 3), (58, .bipush (-12), 2)]
theorem aJ_555_5 : sx_iB prog_14_method_237_code aI_555_5 = true := by decide +kernel
def aI_555_6 : sx_IL := [(60, .goto 5, 3), (63, .bipush (-10), 2), (65, .ireturn, 1), (66, .aload_n 0, 1), (67, .getfield 285, 3), (70, .sipush 2000, 3)]
theorem aJ_555_6 : sx_iB prog_14_method_237_code aI_555_6 = true := by decide +kernel
def aI_555_7 : sx_IL := [(73, .iload_n 3, 1), (74, .imul, 1), (75, .iaload, 1), (76, .istore 4, 2), (78, .aload_n 0, 1), (79, .getfield 288, 3)]
theorem aJ_555_7 : sx_iB prog_14_method_237_code aI_555_7 = true := by decide +kernel
def aI_555_8 : sx_IL := [(82, .iload_n 3, 1), (83, .dup2, 1), (84, .iaload, 1), (85, .iconst 1, 1), (86, .isub, 1), (87, .iastore, 1)]
theorem aJ_555_8 : sx_iB prog_14_method_237_code aI_555_8 = true := by decide +kernel
def aI_555_9 : sx_IL := [(88, .iconst 0, 1), (89, .istore 5, 2), (91, .iload 5, 2), (93, .aload_n 0, 1), (94, .getfield 288, 3), (97, .iload_n 3, 1)]
theorem aJ_555_9 : sx_iB prog_14_method_237_code aI_555_9 = true := by decide +kernel
def aI_555_10 : sx_IL := [(98, .iaload, 1), (99, .if_icmp .ge 37, 3), (102, .aload_n 0, 1), (103, .getfield 285, 3), (106, .sipush 2000, 3), (109, .iload_n 3, 1)]
theorem aJ_555_10 : sx_iB prog_14_method_237_code aI_555_10 = true := by decide +kernel
def aI_555_11 : sx_IL := [(110, .imul, 1), (111, .iload 5, 2), (113, .iadd, 1), (114, .aload_n 0, 1), (115, .getfield 285, 3), (118, .sipush 2000, 3)]
theorem aJ_555_11 : sx_iB prog_14_method_237_code aI_555_11 = true := by decide +kernel
def aI_555_12 : sx_IL := [(121, .iload_n 3, 1), (122, .imul, 1), (123, .iload 5, 2), (125, .iadd, 1), (126, .iconst 1, 1), (127, .iadd, 1)]
theorem aJ_555_12 : sx_iB prog_14_method_237_code aI_555_12 = true := by decide +kernel
def aI_555_13 : sx_IL := [(128, .iaload, 1), (129, .iastore, 1), (130, .iinc 5 1, 3), (133, .goto (-42), 3), (136, .iload 4, 2), (138, .ireturn, 1)]
theorem aJ_555_13 : sx_iB prog_14_method_237_code aI_555_13 = true := by decide +kernel
def aS_555 (pc : Nat) : sx_IL := (if pc < 73 then (if pc < 26 then (if pc < 10 then aI_555_0 else (if pc < 20 then aI_555_1 else aI_555_2)) else (if pc < 49 then (if pc < 36 then aI_555_3 else aI_555_4) else (if pc < 60 then aI_555_5 else aI_555_6))) else (if pc < 98 then (if pc < 82 then aI_555_7 else (if pc < 88 then aI_555_8 else aI_555_9)) else (if pc < 121 then (if pc < 110 then aI_555_10 else aI_555_11) else (if pc < 128 then aI_555_12 else aI_555_13))))
theorem aT_555 (pc : Nat) : sx_iOk prog_14_method_237_code (aS_555 pc) := (sx_ite (p := fun l => sx_iOk prog_14_method_237_code l) (sx_ite (p := fun l => sx_iOk prog_14_method_237_code l) (sx_ite (p := fun l => sx_iOk prog_14_method_237_code l) (sx_iB_s aJ_555_0) (sx_ite (p := fun l => sx_iOk prog_14_method_237_code l) (sx_iB_s aJ_555_1) (sx_iB_s aJ_555_2))) (sx_ite (p := fun l => sx_iOk prog_14_method_237_code l) (sx_ite (p := fun l => sx_iOk prog_14_method_237_code l) (sx_iB_s aJ_555_3) (sx_iB_s aJ_555_4)) (sx_ite (p := fun l => sx_iOk prog_14_method_237_code l) (sx_iB_s aJ_555_5) (sx_iB_s aJ_555_6)))) (sx_ite (p := fun l => sx_iOk prog_14_method_237_code l) (sx_ite (p := fun l => sx_iOk prog_14_method_237_code l) (sx_iB_s aJ_555_7) (sx_ite (p := fun l => sx_iOk prog_14_method_237_code l) (sx_iB_s aJ_555_8) (sx_iB_s aJ_555_9))) (sx_ite (p := fun l => sx_iOk prog_14_method_237_code l) (sx_ite (p := fun l => sx_iOk prog_14_method_237_code l) (sx_iB_s aJ_555_10) (sx_iB_s aJ_555_11)) (sx_ite (p := fun l => sx_iOk prog_14_method_237_code l) (sx_iB_s aJ_555_12) (sx_iB_s aJ_555_13)))))
def aW_555 : Nat → Option (Instr × Nat) := fun pc => sx_iF (aS_555 pc) pc
theorem aX_555 : ∀ pc i len, aW_555 pc = some (i, len) → decode aM_555.1.2.1 pc = .ok (i, len) := fun pc i len h => sx_iF_s (aT_555 pc) h
def aI_556_0 : sx_IL := [(0, .aload_n 0, 1), (1, .iload_n 1, 1), (2, .iload_n 2, 1), (3, .invokevirtual 1272, 3), (6, .ifCond .ne 5, 3), (9, .iconst (-1), 1)]
theorem aJ_556_0 : sx_iB prog_14_method_238_code aI_556_0 = true := by decide +kernel
def aI_556_1 : sx_IL := [(10, .ireturn, 1), (11, .iconst 2, 1), (12, .iload_n 1, 1), (13, .imul, 1), (14, .iload_n 2, 1), (15, .iadd, 1)]
theorem aJ_556_1 : sx_iB prog_14_method_238_code aI_556_1 = true := by decide +kernel
def aI_556_2 : sx_IL := [(16, .istore_n 3, 1), (17, .aload_n 0, 1), (18, .iload_n 1, 1), (19, .iload_n 2, 1), (20, .invokevirtual 1275, 3), (23, .ifCond .eq 20, 3)]
theorem aJ_556_2 : sx_iB prog_14_method_238_code aI_556_2 = true := by decide +kernel
def aI_556_3 : sx_IL := [(26, .aload_n 0, 1), (27, .iload_n 3, 1), (28, .invokevirtual 1283, 3), (31, .ifCond .eq 12, 3), (34, .aload_n 0, 1), (35, .getfield 297, 3)]
theorem aJ_556_3 : sx_iB prog_14_method_238_code aI_556_3 = true := by decide +kernel
def aI_556_4 : sx_IL := [(38, .iload_n 3, 1), (39, .baload, 1), (40, .ifCond .eq 6, 3), (43, .bipush (-2), 2), (45, .ireturn, 1), (46, .aload_n 0, 1)]
theorem aJ_556_4 : sx_iB prog_14_method_238_code aI_556_4 = true := by decide +kernel
def aI_556_5 : sx_IL := [(47, .iload_n 3, 1), (48, .iconst 0, 1), (49, .invokevirtual 991, 3), (52, .aload_n 0, 1), (53, .getfield 297, 3), (56, .iload_n 3, 1)]
theorem aJ_556_5 : sx_iB prog_14_method_238_code aI_556_5 = true := by decide +kernel
def aI_556_6 : sx_IL := [(57, .iconst 1, 1), (58, .bastore, 1), (59, .iconst 1, 1), (60, .ireturn, 1)]
theorem aJ_556_6 : sx_iB prog_14_method_238_code aI_556_6 = true := by decide +kernel
def aS_556 (pc : Nat) : sx_IL := (if pc < 26 then (if pc < 10 then aI_556_0 else (if pc < 16 then aI_556_1 else aI_556_2)) else (if pc < 47 then (if pc < 38 then aI_556_3 else aI_556_4) else (if pc < 57 then aI_556_5 else aI_556_6)))
theorem aT_556 (pc : Nat) : sx_iOk prog_14_method_238_code (aS_556 pc) := (sx_ite (p := fun l => sx_iOk prog_14_method_238_code l) (sx_ite (p := fun l => sx_iOk prog_14_method_238_code l) (sx_iB_s aJ_556_0) (sx_ite (p := fun l => sx_iOk prog_14_method_238_code l) (sx_iB_s aJ_556_1) (sx_iB_s aJ_556_2))) (sx_ite (p := fun l => sx_iOk prog_14_method_238_code l) (sx_ite (p := fun l => sx_iOk prog_14_method_238_code l) (sx_iB_s aJ_556_3) (sx_iB_s aJ_556_4)) (sx_ite (p := fun l => sx_iOk prog_14_method_238_code l) (sx_iB_s aJ_556_5) (sx_iB_s aJ_556_6))))
def aW_556 : Nat → Option (Instr × Nat) := fun pc => sx_iF (aS_556 pc) pc
theorem aX_556 : ∀ pc i len, aW_556 pc = some (i, len) → decode aM_556.1.2.1 pc = .ok (i, len) := fun pc i len h => sx_iF_s (aT_556 pc) h
def aI_557_0 : sx_IL := [(0, .aload_n 0, 1), (1, .iload_n 1, 1), (2, .iload_n 2, 1), (3, .invokevirtual 1272, 3), (6, .ifCond .eq 13, 3), (9, .iload_n 3, 1)]
theorem aJ_557_0 : sx_iB prog_14_method_239_code aI_557_0 = true := by decide +kernel
def aI_557_1 : sx_IL := [(10, .i2l, 1), (11, .lconst 0, 1), (12, .lconst 1, 1), (13, .invokestatic 513, 3), (16, .ifCond .ne 5, 3), (19, .iconst (-1), 1)]
theorem aJ_557_1 : sx_iB prog_14_method_239_code aI_557_1 = true := by decide +kernel
def aI_557_2 : sx_IL := [(20, .ireturn, 1), (21, .iconst 2, 1), (22, .iload_n 1, 1), (23, .imul, 1), (24, .iload_n 2, 1), (25, .iadd, 1)]
theorem aJ_557_2 : sx_iB prog_14_method_239_code aI_557_2 = true := by decide +kernel
def aI_557_3 : sx_IL := [(26, .istore 4, 2), (28, .aload_n 0, 1), (29, .iload_n 1, 1), (30, .iload_n 2, 1), (31, .invokevirtual 1275, 3), (34, .ifCond .eq 22, 3)]
theorem aJ_557_3 : sx_iB prog_14_method_239_code aI_557_3 = true := by decide +kernel
def aI_557_4 : sx_IL := [(37, .aload_n 0, 1), (38, .iload 4, 2), (40, .invokevirtual 1283, 3), (43, .ifCond .eq 13, 3), (46, .aload_n 0, 1), (47, .getfield 297, 3)]
theorem aJ_557_4 : sx_iB prog_14_method_239_code aI_557_4 = true := by decide +kernel
def aI_557_5 : sx_IL := [(50, .iload 4, 2), (52, .baload, 1), (53, .ifCond .eq 6, 3), (56, .bipush (-2), 2), (58, .ireturn, 1), (59, .aload_n 0, 1)]
theorem aJ_557_5 : sx_iB prog_14_method_239_code aI_557_5 = true := by decide +kernel
def aI_557_6 : sx_IL := [(60, .getfield 268, 3), (63, .iload 4, 2), (65, .iaload, 1), (66, .sipush 2000, 3), (69, .if_icmp .le 6, 3), (72, .bipush (-3), 2)]
theorem aJ_557_6 : sx_iB prog_14_method_239_code aI_557_6 = true := by decide +kernel
def aI_557_7 : sx_IL := [(74, .ireturn, 1), (75, .aload_n 0, 1), (76, .iload 4, 2), (78, .iload_n 3, 1), (79, .invokevirtual 1192, 3), (82, .iconst 1, 1)]
theorem aJ_557_7 : sx_iB prog_14_method_239_code aI_557_7 = true := by decide +kernel
def aI_557_8 : sx_IL := [(83, .ireturn, 1)]
theorem aJ_557_8 : sx_iB prog_14_method_239_code aI_557_8 = true := by decide +kernel
def aS_557 (pc : Nat) : sx_IL := (if pc < 37 then (if pc < 20 then (if pc < 10 then aI_557_0 else aI_557_1) else (if pc < 26 then aI_557_2 else aI_557_3)) else (if pc < 60 then (if pc < 50 then aI_557_4 else aI_557_5) else (if pc < 74 then aI_557_6 else (if pc < 83 then aI_557_7 else aI_557_8))))
theorem aT_557 (pc : Nat) : sx_iOk prog_14_method_239_code (aS_557 pc) := (sx_ite (p := fun l => sx_iOk prog_14_method_239_code l) (sx_ite (p := fun l => sx_iOk prog_14_method_239_code l) (sx_ite (p := fun l => sx_iOk prog_14_method_239_code l) (sx_iB_s aJ_557_0) (sx_iB_s aJ_557_1)) (sx_ite (p := fun l => sx_iOk prog_14_method_239_code l) (sx_iB_s aJ_557_2) (sx_iB_s aJ_557_3))) (sx_ite (p := fun l => sx_iOk prog_14_method_239_code l) (sx_ite (p := fun l => sx_iOk prog_14_method_239_code l) (sx_iB_s aJ_557_4) (sx_iB_s aJ_557_5)) (sx_ite (p := fun l => sx_iOk prog_14_method_239_code l) (sx_iB_s aJ_557_6) (sx_ite (p := fun l => sx_iOk prog_14_method_239_code l) (sx_iB_s aJ_557_7) (sx_iB_s aJ_557_8)))))
def aW_557 : Nat → Option (Instr × Nat) := fun pc => sx_iF (aS_557 pc) pc
theorem aX_557 : ∀ pc i len, aW_557 pc = some (i, len) → decode aM_557.1.2.1 pc = .ok (i, len) := fun pc i len h => sx_iF_s (aT_557 pc) h
def aI_558_0 : sx_IL := [(0, .aload_n 0, 1), (1, .iload_n 1, 1), (2, .iload_n 2, 1), (3, .invokevirtual 1272, 3), (6, .ifCond .eq 24, 3), (9, .aload_n 0, 1)]
theorem aJ_558_0 : sx_iB prog_14_method_240_code aI_558_0 = true := by decide +kernel
def aI_558_1 : sx_IL := [(10, .iload_n 1, 1), (11, .iload_n 2, 1), (12, .invokevirtual 1275, 3), (15, .ifCond .eq 15, 3), (18, .iload_n 3, 1), (19, .i2l, 1)]
theorem aJ_558_1 : sx_iB prog_14_method_240_code aI_558_1 = true := by decide +kernel
def aI_558_2 : sx_IL := [(20, .lconst 0, 1), (21, .ldc2_w 1286, 3), (24, .invokestatic 513, 3), (27, .ifCond .ne 5, 3), (30, .iconst (-1), 1), (31, .ireturn, 1)]
theorem aJ_558_2 : sx_iB prog_14_method_240_code aI_558_2 = true := by decide +kernel
def aI_558_3 : sx_IL := [(32, .iconst 2, 1), (33, .iload_n 1, 1), (34, .imul, 1), (35, .iload_n 2, 1), (36, .iadd, 1), (37, .istore 4, 2)]
theorem aJ_558_3 : sx_iB prog_14_method_240_code aI_558_3 = true := by decide +kernel
def aI_558_4 : sx_IL := [(39, .iload_n 3, 1), (40, .tableswitch 257 0 13 #[72, 101, 109, 117, 125, 133, 149, 157, 165, 181, 197, 219, 241, 249], 72), (112, .aload_n 0, 1), (113, .getfield 294, 3), (116, .iload 4, 2), (118, .baload, 1)]
theorem aJ_558_4 : sx_iB prog_14_method_240_code aI_558_4 = true := by decide +kernel
def aI_558_5 : sx_IL := [(119, .ifCond .eq 7, 3), (122, .iconst 2, 1), (123, .goto 17, 3), (126, .aload_n 0, 1), (127, .iload 4, 2), (129, .invokevirtual 1283, 3)]
theorem aJ_558_5 : sx_iB prog_14_method_240_code aI_558_5 = true := by decide +kernel
def aI_558_6 : sx_IL := [(132, .ifCond .eq 7, 3), (135, .iconst 1, 1), (136, .goto 4, 3), (139, .iconst 0, 1), (140, .ireturn, 1), (141, .aload_n 0, 1)]
theorem aJ_558_6 : sx_iB prog_14_method_240_code aI_558_6 = true := by decide +kernel
def aI_558_7 : sx_IL := [(142, .getfield 330, 3), (145, .iload 4, 2), (147, .iaload, 1), (148, .ireturn, 1), (149, .aload_n 0, 1), (150, .getfield 333, 3)]
theorem aJ_558_7 : sx_iB prog_14_method_240_code aI_558_7 = true := by decide +kernel
def aI_558_8 : sx_IL := [(153, .iload 4, 2), (155, .iaload, 1), (156, .ireturn, 1), (157, .aload_n 0, 1), (158, .getfield 336, 3), (161, .iload 4, 2)]
theorem aJ_558_8 : sx_iB prog_14_method_240_code aI_558_8 = true := by decide +kernel
def aI_558_9 : sx_IL := [(163, .iaload, 1), (164, .ireturn, 1), (165, .aload_n 0, 1), (166, .getfield 339, 3), (169, .iload 4, 2), (171, .iaload, 1)]
theorem aJ_558_9 : sx_iB prog_14_method_240_code aI_558_9 = true := by decide +kernel
def aI_558_10 : sx_IL := [(172, .ireturn, 1), (173, .aload_n 0, 1), (174, .getfield 342, 3), (177, .iload 4, 2), (179, .baload, 1), (180, .ifCond .eq 7, 3)]
theorem aJ_558_10 : sx_iB prog_14_method_240_code aI_558_10 = true := by decide +kernel
def aI_558_11 : sx_IL := [(183, .iconst 1, 1), (184, .goto 4, 3), (187, .iconst 0, 1), (188, .ireturn, 1), (189, .aload_n 0, 1), (190, .getfield 303, 3)]
theorem aJ_558_11 : sx_iB prog_14_method_240_code aI_558_11 = true := by decide +kernel
def aI_558_12 : sx_IL := [(193, .iload 4, 2), (195, .iaload, 1), (196, .ireturn, 1), (197, .aload_n 0, 1), (198, .getfield 306, 3), (201, .iload 4, 2)]
theorem aJ_558_12 : sx_iB prog_14_method_240_code aI_558_12 = true := by decide +kernel
def aI_558_13 : sx_IL := [(203, .iaload, 1), (204, .ireturn, 1), (205, .aload_n 0, 1), (206, .getfield 297, 3), (209, .iload 4, 2), (211, .baload, 1)]
theorem aJ_558_13 : sx_iB prog_14_method_240_code aI_558_13 = true := by decide +kernel
def aI_558_14 : sx_IL := [(212, .ifCond .eq 7, 3), (215, .iconst 1, 1), (216, .goto 4, 3), (219, .iconst 0, 1), (220, .ireturn, 1), (221, .aload_n 0, 1)]
theorem aJ_558_14 : sx_iB prog_14_method_240_code aI_558_14 = true := by decide +kernel
def aI_558_15 : sx_IL := [(222, .getfield 300, 3), (225, .iload 4, 2), (227, .baload, 1), (228, .ifCond .eq 7, 3), (231, .iconst 1, 1), (232, .goto 4, 3)]
theorem aJ_558_15 : sx_iB prog_14_method_240_code aI_558_15 = true := by decide +kernel
def aI_558_16 : sx_IL := [(235, .iconst 0, 1), (236, .ireturn, 1), (237, .aload_n 0, 1), (238, .getfield 309, 3), (241, .iload 4, 2), (243, .baload, 1)]
theorem aJ_558_16 : sx_iB prog_14_method_240_code aI_558_16 = true := by decide +kernel
def aI_558_17 : sx_IL := [(244, .ifCond .eq 13, 3), (247, .aload_n 0, 1), (248, .getfield 321, 3), (251, .iload 4, 2), (253, .iaload, 1), (254, .goto 4, 3)]
theorem aJ_558_17 : sx_iB prog_14_method_240_code aI_558_17 = true := by decide +kernel
def aI_558_18 : sx_IL := [(257, .iconst 0, 1), (258, .ireturn, 1), (259, .aload_n 0, 1), (260, .getfield 312, 3), (263, .iload 4, 2), (265, .baload, 1)]
theorem aJ_558_18 : sx_iB prog_14_method_240_code aI_558_18 = true := by decide +kernel
def aI_558_19 : sx_IL := [(266, .ifCond .eq 13, 3), (269, .aload_n 0, 1), (270, .getfield 324, 3), (273, .iload 4, 2), (275, .iaload, 1), (276, .goto 4, 3)]
theorem aJ_558_19 : sx_iB prog_14_method_240_code aI_558_19 = true := by decide +kernel
def aI_558_20 : sx_IL := [(279, .iconst 0, 1), (280, .ireturn, 1), (281, .aload_n 0, 1), (282, .getfield 345, 3), (285, .iload 4, 2), (287, .iaload, 1)]
theorem aJ_558_20 : sx_iB prog_14_method_240_code aI_558_20 = true := by decide +kernel
def aI_558_21 : sx_IL := [(288, .ireturn, 1), (289, .aload_n 0, 1), (290, .getfield 348, 3), (293, .iload 4, 2), (295, .iaload, 1), (296, .ireturn, 1)]
theorem aJ_558_21 : sx_iB prog_14_method_240_code aI_558_21 = true := by decide +kernel
def aI_558_22 : sx_IL := [(297, .aload_n 0, 1), (298, .getfield 351, 3), (301, .iload 4, 2), (303, .iaload, 1), (304, .ireturn, 1)]
theorem aJ_558_22 : sx_iB prog_14_method_240_code aI_558_22 = true := by decide +kernel
def aS_558 (pc : Nat) : sx_IL := (if pc < 183 then (if pc < 119 then (if pc < 20 then (if pc < 10 then aI_558_0 else aI_558_1) else (if pc < 32 then aI_558_2 else (if pc < 39 then aI_558_3 else aI_558_4))) else (if pc < 153 then (if pc < 132 then aI_558_5 else (if pc < 142 then aI_558_6 else aI_558_7)) else (if pc < 163 then aI_558_8 else (if pc < 172 then aI_558_9 else aI_558_10)))) else (if pc < 244 then (if pc < 212 then (if pc < 193 then aI_558_11 else (if pc < 203 then aI_558_12 else aI_558_13)) else (if pc < 222 then aI_558_14 else (if pc < 235 then aI_558_15 else aI_558_16))) else (if pc < 279 then (if pc < 257 then aI_558_17 else (if pc < 266 then aI_558_18 else aI_558_19)) else (if pc < 288 then aI_558_20 else (if pc < 297 then aI_558_21 else aI_558_22)))))
theorem aT_558 (pc : Nat) : sx_iOk prog_14_method_240_code (aS_558 pc) := (sx_ite (p := fun l => sx_iOk prog_14_method_240_code l) (sx_ite (p := fun l => sx_iOk prog_14_method_240_code l) (sx_ite (p := fun l => sx_iOk prog_14_method_240_code l) (sx_ite (p := fun l => sx_iOk prog_14_method_240_code l) (sx_iB_s aJ_558_0) (sx_iB_s aJ_558_1)) (sx_ite (p := fun l => sx_iOk prog_14_method_240_code l) (sx_iB_s aJ_558_2) (sx_ite (p := fun l => sx_iOk prog_14_method_240_code l) (sx_iB_s aJ_558_3) (sx_iB_s aJ_558_4)))) (sx_ite (p := fun l => sx_iOk prog_14_method_240_code l) (sx_ite (p := fun l => sx_iOk prog_14_method_240_code l) (sx_iB_s aJ_558_5) (sx_ite (p := fun l => sx_iOk prog_14_method_240_code l) (sx_iB_s aJ_558_6) (sx_iB_s aJ_558_7))) (sx_ite (p := fun l => sx_iOk prog_14_method_240_code l) (sx_iB_s aJ_558_8) (sx_ite (p := fun l => sx_iOk prog_14_method_240_code l) (sx_iB_s aJ_558_9) (sx_iB_s aJ_558_10))))) (sx_ite (p := fun l => sx_iOk prog_14_method_240_code l) (sx_ite (p := fun l => sx_iOk prog_14_method_240_code l) (sx_ite (p := fun l => sx_iOk prog_14_method_240_code l) (sx_iB_s aJ_558_11) (sx_ite (p := fun l => sx_iOk prog_14_method_240_code l) (sx_iB_s aJ_558_12) (sx_iB_s aJ_558_13))) (sx_ite (p := fun l => sx_iOk prog_14_method_240_code l) (sx_iB_s aJ_558_14) (sx_ite (p := fun l => sx_iOk prog_14_method_240_code l) (sx_iB_s aJ_558_15) (sx_iB_s aJ_558_16)))) (sx_ite (p := fun l => sx_iOk prog_14_method_240_code l) (sx_ite (p := fun l => sx_iOk prog_14_method_240_code l) (sx_iB_s aJ_558_17) (sx_ite (p := fun l => sx_iOk prog_14_method_240_code l) (sx_iB_s aJ_558_18) (sx_iB_s aJ_558_19))) (sx_ite (p := fun l => sx_iOk prog_14_method_240_code l) (sx_iB_s aJ_558_20) (sx_ite (p := fun l => sx_iOk prog_14_method_240_code l) (sx_iB_s aJ_558_21) (sx_iB_s aJ_558_22))))))
def aW_558 : Nat → Option (Instr × Nat) := fun pc => sx_iF (aS_558 pc) pc
theorem aX_558 : ∀ pc i len, aW_558 pc = some (i, len) → decode aM_558.1.2.1 pc = .ok (i, len) := fun pc i len h => sx_iF_s (aT_558 pc) h
def aI_559_0 : sx_IL := [(0, .aload_n 0, 1), (1, .iload_n 1, 1), (2, .iload_n 2, 1), (3, .invokevirtual 1272, 3), (6, .ifCond .eq 24, 3), (9, .aload_n 0, 1)]
theorem aJ_559_0 : sx_iB prog_14_method_241_code aI_559_0 = true := by decide +kernel
def aI_559_1 : sx_IL := [(10, .iload_n 1, 1), (11, .iload_n 2, 1), (12, .invokevirtual 1275, 3), (15, .ifCond .eq 15, 3), (18, .iload_n 3, 1), (19, .i2l, 1)]
theorem aJ_559_1 : sx_iB prog_14_method_241_code aI_559_1 = true := by decide +kernel
def aI_559_2 : sx_IL := [(20, .lconst 0, 1), (21, .ldc2_w 629, 3), (24, .invokestatic 513, 3), (27, .ifCond .ne 7, 3), (30, .ldc2_w 590, 3), (33, .lreturn, 1)]
theorem aJ_559_2 : sx_iB prog_14_method_241_code aI_559_2 = true := by decide +kernel
def aI_559_3 : sx_IL := [(34, .iconst 2, 1), (35, .iload_n 1, 1), (36, .imul, 1), (37, .iload_n 2, 1), (38, .iadd, 1), (39, .istore 4, 2)]
theorem aJ_559_3 : sx_iB prog_14_method_241_code aI_559_3 = true := by decide +kernel
def aI_559_4 : sx_IL := [(41, .iload_n 3, 1), (42, .tableswitch 126 0 6 #[42, 64, 86, 94, 102, 110, 118], 42), (84, .aload_n 0, 1), (85, .getfield 309, 3), (88, .iload 4, 2), (90, .baload, 1)]
theorem aJ_559_4 : sx_iB prog_14_method_241_code aI_559_4 = true := by decide +kernel
def aI_559_5 : sx_IL := [(91, .ifCond .eq 13, 3), (94, .aload_n 0, 1), (95, .getfield 315, 3), (98, .iload 4, 2), (100, .laload, 1), (101, .goto 4, 3)]
theorem aJ_559_5 : sx_iB prog_14_method_241_code aI_559_5 = true := by decide +kernel
def aI_559_6 : sx_IL := [(104, .lconst 0, 1), (105, .lreturn, 1), (106, .aload_n 0, 1), (107, .getfield 312, 3), (110, .iload 4, 2), (112, .baload, 1)]
theorem aJ_559_6 : sx_iB prog_14_method_241_code aI_559_6 = true := by decide +kernel
def aI_559_7 : sx_IL := [(113, .ifCond .eq 13, 3), (116, .aload_n 0, 1), (117, .getfield 318, 3), (120, .iload 4, 2), (122, .laload, 1), (123, .goto 4, 3)]
theorem aJ_559_7 : sx_iB prog_14_method_241_code aI_559_7 = true := by decide +kernel
def aI_559_8 : sx_IL := [(126, .lconst 0, 1), (127, .lreturn, 1), (128, .aload_n 0, 1), (129, .getfield 357, 3), (132, .iload 4, 2), (134, .laload, 1)]
theorem aJ_559_8 : sx_iB prog_14_method_241_code aI_559_8 = true := by decide +kernel
def aI_559_9 : sx_IL := [(135, .lreturn, 1), (136, .aload_n 0, 1), (137, .getfield 360, 3), (140, .iload 4, 2), (142, .laload, 1), (143, .lreturn, 1)]
theorem aJ_559_9 : sx_iB prog_14_method_241_code aI_559_9 = true := by decide +kernel
def aI_559_10 : sx_IL := [(144, .aload_n 0, 1), (145, .getfield 363, 3), (148, .iload 4, 2), (150, .laload, 1), (151, .lreturn, 1), (152, .aload_n 0, 1)]
theorem aJ_559_10 : sx_iB prog_14_method_241_code aI_559_10 = true := by decide +kernel
def aI_559_11 : sx_IL := [(153, .getfield 366, 3), (156, .iload 4, 2), (158, .laload, 1), (159, .lreturn, 1), (160, .aload_n 0, 1), (161, .getfield 369, 3)]
theorem aJ_559_11 : sx_iB prog_14_method_241_code aI_559_11 = true := by decide +kernel
def aI_559_12 : sx_IL := [(164, .iload 4, 2), (166, .laload, 1), (167, .lreturn, 1), (168, .aload_n 0, 1), (169, .getfield 330, 3), (172, .iload 4, 2)]
theorem aJ_559_12 : sx_iB prog_14_method_241_code aI_559_12 = true := by decide +kernel
def aI_559_13 : sx_IL := [(174, .iaload, 1), (175, .ifCond .ne 7, 3), (178, .lconst 0, 1), (179, .goto 15, 3), (182, .aload_n 0, 1), (183, .iload 4, 2)]
theorem aJ_559_13 : sx_iB prog_14_method_241_code aI_559_13 = true := by decide +kernel
def aI_559_14 : sx_IL := [(185, .aload_n 0, 1), (186, .iload 4, 2), (188, .invokevirtual 998, 3), (191, .invokevirtual 973, 3), (194, .lreturn, 1)]
theorem aJ_559_14 : sx_iB prog_14_method_241_code aI_559_14 = true := by decide +kernel
def aS_559 (pc : Nat) : sx_IL := (if pc < 113 then (if pc < 34 then (if pc < 10 then aI_559_0 else (if pc < 20 then aI_559_1 else aI_559_2)) else (if pc < 91 then (if pc < 41 then aI_559_3 else aI_559_4) else (if pc < 104 then aI_559_5 else aI_559_6))) else (if pc < 153 then (if pc < 135 then (if pc < 126 then aI_559_7 else aI_559_8) else (if pc < 144 then aI_559_9 else aI_559_10)) else (if pc < 174 then (if pc < 164 then aI_559_11 else aI_559_12) else (if pc < 185 then aI_559_13 else aI_559_14))))
theorem aT_559 (pc : Nat) : sx_iOk prog_14_method_241_code (aS_559 pc) := (sx_ite (p := fun l => sx_iOk prog_14_method_241_code l) (sx_ite (p := fun l => sx_iOk prog_14_method_241_code l) (sx_ite (p := fun l => sx_iOk prog_14_method_241_code l) (sx_iB_s aJ_559_0) (sx_ite (p := fun l => sx_iOk prog_14_method_241_code l) (sx_iB_s aJ_559_1) (sx_iB_s aJ_559_2))) (sx_ite (p := fun l => sx_iOk prog_14_method_241_code l) (sx_ite (p := fun l => sx_iOk prog_14_method_241_code l) (sx_iB_s aJ_559_3) (sx_iB_s aJ_559_4)) (sx_ite (p := fun l => sx_iOk prog_14_method_241_code l) (sx_iB_s aJ_559_5) (sx_iB_s aJ_559_6)))) (sx_ite (p := fun l => sx_iOk prog_14_method_241_code l) (sx_ite (p := fun l => sx_iOk prog_14_method_241_code l) (sx_ite (p := fun l => sx_iOk prog_14_method_241_code l) (sx_iB_s aJ_559_7) (sx_iB_s aJ_559_8)) (sx_ite (p := fun l => sx_iOk prog_14_method_241_code l) (sx_iB_s aJ_559_9) (sx_iB_s aJ_559_10))) (sx_ite (p := fun l => sx_iOk prog_14_method_241_code l) (sx_ite (p := fun l => sx_iOk prog_14_method_241_code l) (sx_iB_s aJ_559_11) (sx_iB_s aJ_559_12)) (sx_ite (p := fun l => sx_iOk prog_14_method_241_code l) (sx_iB_s aJ_559_13) (sx_iB_s aJ_559_14)))))
def aW_559 : Nat → Option (Instr × Nat) := fun pc => sx_iF (aS_559 pc) pc
theorem aX_559 : ∀ pc i len, aW_559 pc = some (i, len) → decode aM_559.1.2.1 pc = .ok (i, len) := fun pc i len h => sx_iF_s (aT_559 pc) h
def aI_560_0 : sx_IL := [(0, .aload_n 0, 1), (1, .iload_n 1, 1), (2, .iload_n 2, 1), (3, .invokevirtual 1272, 3), (6, .ifCond .eq 12, 3), (9, .aload_n 0, 1)]
theorem aJ_560_0 : sx_iB prog_14_method_242_code aI_560_0 = true := by decide +kernel
def aI_560_1 : sx_IL := [(10, .iload_n 1, 1), (11, .iload_n 2, 1), (12, .invokevirtual 1275, 3), (15, .ifCond .ne 7, 3), (18, .ldc2_w 590, 3), (21, .lreturn, 1)]
theorem aJ_560_1 : sx_iB prog_14_method_242_code aI_560_1 = true := by decide +kernel
def aI_560_2 : sx_IL := [(22, .iconst 2, 1), (23, .iload_n 1, 1), (24, .imul, 1), (25, .iload_n 2, 1), (26, .iadd, 1), (27, .istore_n 3, 1)]
theorem aJ_560_2 : sx_iB prog_14_method_242_code aI_560_2 = true := by decide +kernel
def aI_560_3 : sx_IL := [(28, .aload_n 0, 1), (29, .getfield 517, 3), (32, .istore 4, 2), (34, .aload_n 0, 1), (35, .iconst 0, 1), (36, .putfield 517, 3)]
theorem aJ_560_3 : sx_iB prog_14_method_242_code aI_560_3 = true := by decide +kernel
def aI_560_4 : sx_IL := [(39, .aload_n 0, 1), (40, .getfield 363, 3), (43, .iload_n 3, 1), (44, .laload, 1), (45, .lconst 0, 1), (46, .lcmp, 1)]
theorem aJ_560_4 : sx_iB prog_14_method_242_code aI_560_4 = true := by decide +kernel
def aI_560_5 : sx_IL := [(47, .ifCond .ne 16, 3), (50, .aload_n 0, 1), (51, .getfield 366, 3), (54, .iload_n 3, 1), (55, .laload, 1), (56, .lconst 0, 1)]
theorem aJ_560_5 : sx_iB prog_14_method_242_code aI_560_5 = true := by decide +kernel
def aI_560_6 : sx_IL := [(57, .lcmp, 1), (58, .ifCond .ne 5, 3), (61, .lconst 0, 1), (62, .lreturn, 1), (63, .aload_n 0, 1), (64, .iload_n 3, 1)]
theorem aJ_560_6 : sx_iB prog_14_method_242_code aI_560_6 = true := by decide +kernel
def aI_560_7 : sx_IL := [(65, .invokevirtual 998, 3), (68, .istore 5, 2), (70, .aload_n 0, 1), (71, .iload 5, 2), (73, .aload_n 0, 1), (74, .getfield 366, 3)]
theorem aJ_560_7 : sx_iB prog_14_method_242_code aI_560_7 = true := by decide +kernel
def aI_560_8 : sx_IL := [(77, .iload_n 3, 1), (78, .laload, 1), (79, .bipush 121, 2), (81, .aload_n 0, 1), (82, .iload 5, 2), (84, .aload_n 0, 1)]
theorem aJ_560_8 : sx_iB prog_14_method_242_code aI_560_8 = true := by decide +kernel
def aI_560_9 : sx_IL := [(85, .getfield 7, 3), (88, .iconst 0, 1), (89, .iload 4, 2), (91, .invokevirtual 592, 3), (94, .invokevirtual 598, 3), (97, .lreturn, 1)]
theorem aJ_560_9 : sx_iB prog_14_method_242_code aI_560_9 = true := by decide +kernel
def aS_560 (pc : Nat) : sx_IL := (if pc < 47 then (if pc < 22 then (if pc < 10 then aI_560_0 else aI_560_1) else (if pc < 28 then aI_560_2 else (if pc < 39 then aI_560_3 else aI_560_4))) else (if pc < 65 then (if pc < 57 then aI_560_5 else aI_560_6) else (if pc < 77 then aI_560_7 else (if pc < 85 then aI_560_8 else aI_560_9))))
theorem aT_560 (pc : Nat) : sx_iOk prog_14_method_242_code (aS_560 pc) := (sx_ite (p := fun l => sx_iOk prog_14_method_242_code l) (sx_ite (p := fun l => sx_iOk prog_14_method_242_code l) (sx_ite (p := fun l => sx_iOk prog_14_method_242_code l) (sx_iB_s aJ_560_0) (sx_iB_s aJ_560_1)) (sx_ite (p := fun l => sx_iOk prog_14_method_242_code l) (sx_iB_s aJ_560_2) (sx_ite (p := fun l => sx_iOk prog_14_method_242_code l) (sx_iB_s aJ_560_3) (sx_iB_s aJ_560_4)))) (sx_ite (p := fun l => sx_iOk prog_14_method_242_code l) (sx_ite (p := fun l => sx_iOk prog_14_method_242_code l) (sx_iB_s aJ_560_5) (sx_iB_s aJ_560_6)) (sx_ite (p := fun l => sx_iOk prog_14_method_242_code l) (sx_iB_s aJ_560_7) (sx_ite (p := fun l => sx_iOk prog_14_method_242_code l) (sx_iB_s aJ_560_8) (sx_iB_s aJ_560_9)))))
def aW_560 : Nat → Option (Instr × Nat) := fun pc => sx_iF (aS_560 pc) pc
theorem aX_560 : ∀ pc i len, aW_560 pc = some (i, len) → decode aM_560.1.2.1 pc = .ok (i, len) := fun pc i len h => sx_iF_s (aT_560 pc) h
