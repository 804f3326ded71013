/-! instructions -/
def aI_320_0 : sx_IL := [(0, .iload_n 1, 1), (1, .i2l, 1), (2, .lconst 1, 1), (3, .ldc2_w 511, 3), (6, .invokestatic 513, 3), (9, .ifCond .ne 5, 3)]
theorem aJ_320_0 : sx_iB prog_14_method_3_code aI_320_0 = true := by decide +kernel
def aI_320_1 : sx_IL := [(12, .iconst (-1), 1), (13, .ireturn, 1), (14, .aload_n 0, 1), (15, .getfield 517, 3), (18, .iload_n 1, 1), (19, .iadd, 1)]
theorem aJ_320_1 : sx_iB prog_14_method_3_code aI_320_1 = true := by decide +kernel
def aI_320_2 : sx_IL := [(20, .sipush 800, 3), (23, .if_icmp .le 6, 3), (26, .bipush (-3), 2), (28, .ireturn, 1), (29, .iload_n 1, 1), (30, .iconst 1, 1)]
theorem aJ_320_2 : sx_iB prog_14_method_3_code aI_320_2 = true := by decide +kernel
def aI_320_3 : sx_IL := [(31, .isub, 1), (32, .istore 4, 2), (34, .iload 4, 2), (36, .ifCond .lt 40, 3), (39, .aload_n 0, 1), (40, .getfield 7, 3)]
theorem aJ_320_3 : sx_iB prog_14_method_3_code aI_320_3 = true := by decide +kernel
def aI_320_4 : sx_IL := [(43, .aload_n 0, 1), (44, .getfield 517, 3), (47, .lload_n 2, 1), (48, .bipush 8, 2), (50, .iload 4, 2), (52, .imul, 1)]
theorem aJ_320_4 : sx_iB prog_14_method_3_code aI_320_4 = true := by decide +kernel
def aI_320_5 : sx_IL := [(53, .lushr, 1), (54, .l2i, 1), (55, .sipush 255, 3), (58, .iand, 1), (59, .iastore, 1), (60, .aload_n 0, 1)]
theorem aJ_320_5 : sx_iB prog_14_method_3_code aI_320_5 = true := by decide +kernel
def aI_320_6 : sx_IL := [(61, .dup, 1), (62, .getfield 517, 3), (65, .iconst 1, 1), (66, .iadd, 1), (67, .putfield 517, 3), (70, .iinc 4 (-1), 3)]
theorem aJ_320_6 : sx_iB prog_14_method_3_code aI_320_6 = true := by decide +kernel
def aI_320_7 : sx_IL := [(73, .goto (-39), 3), (76, .aload_n 0, 1), (77, .getfield 517, 3), (80, .ireturn, 1)]
theorem aJ_320_7 : sx_iB prog_14_method_3_code aI_320_7 = true := by decide +kernel
def aS_320 (pc : Nat) : sx_IL := (if pc < 43 then (if pc < 20 then (if pc < 12 then aI_320_0 else aI_320_1) else (if pc < 31 then aI_320_2 else aI_320_3)) else (if pc < 61 then (if pc < 53 then aI_320_4 else aI_320_5) else (if pc < 73 then aI_320_6 else aI_320_7)))
theorem aT_320 (pc : Nat) : sx_iOk prog_14_method_3_code (aS_320 pc) := (sx_ite (p := fun l => sx_iOk prog_14_method_3_code l) (sx_ite (p := fun l => sx_iOk prog_14_method_3_code l) (sx_ite (p := fun l => sx_iOk prog_14_method_3_code l) (sx_iB_s aJ_320_0) (sx_iB_s aJ_320_1)) (sx_ite (p := fun l => sx_iOk prog_14_method_3_code l) (sx_iB_s aJ_320_2) (sx_iB_s aJ_320_3))) (sx_ite (p := fun l => sx_iOk prog_14_method_3_code l) (sx_ite (p := fun l => sx_iOk prog_14_method_3_code l) (sx_iB_s aJ_320_4) (sx_iB_s aJ_320_5)) (sx_ite (p := fun l => sx_iOk prog_14_method_3_code l) (sx_iB_s aJ_320_6) (sx_iB_s aJ_320_7))))
def aW_320 : Nat → Option (Instr × Nat) := fun pc => sx_iF (aS_320 pc) pc
theorem aX_320 : ∀ pc i len, aW_320 pc = some (i, len) → decode aM_320.1.2.1 pc = .ok (i, len) := fun pc i len h => sx_iF_s (aT_320 pc) h
def aI_321_0 : sx_IL := [(0, .lload_n 0, 1), (1, .lload_n 2, 1), (2, .lcmp, 1), (3, .ifCond .lt 14, 3), (6, .lload_n 0, 1), (7, .lload 4, 2)]
theorem aJ_321_0 : sx_iB prog_14_method_2_code aI_321_0 = true := by decide +kernel
def aI_321_1 : sx_IL := [(9, .lcmp, 1), (10, .ifCond .gt 7, 3), (13, .iconst 1, 1), (14, .goto 4, 3), (17, .iconst 0, 1), (18, .ireturn, 1)]
theorem aJ_321_1 : sx_iB prog_14_method_2_code aI_321_1 = true := by decide +kernel
def aS_321 (pc : Nat) : sx_IL := (if pc < 9 then aI_321_0 else aI_321_1)
theorem aT_321 (pc : Nat) : sx_iOk prog_14_method_2_code (aS_321 pc) := (sx_ite (p := fun l => sx_iOk prog_14_method_2_code l) (sx_iB_s aJ_321_0) (sx_iB_s aJ_321_1))
def aW_321 : Nat → Option (Instr × Nat) := fun pc => sx_iF (aS_321 pc) pc
theorem aX_321 : ∀ pc i len, aW_321 pc = some (i, len) → decode aM_321.1.2.1 pc = .ok (i, len) := fun pc i len h => sx_iF_s (aT_321 pc) h
def aI_322_0 : sx_IL := [(0, .iload_n 1, 1), (1, .i2l, 1), (2, .lconst 0, 1), (3, .aload_n 0, 1), (4, .getfield 517, 3), (7, .i2l, 1)]
theorem aJ_322_0 : sx_iB prog_14_method_4_code aI_322_0 = true := by decide +kernel
def aI_322_1 : sx_IL := [(8, .invokestatic 513, 3), (11, .ifCond .ne 5, 3), (14, .iconst (-1), 1), (15, .ireturn, 1), (16, .aload_n 0, 1), (17, .getfield 517, 3)]
theorem aJ_322_1 : sx_iB prog_14_method_4_code aI_322_1 = true := by decide +kernel
def aI_322_2 : sx_IL := [(20, .iload_n 1, 1), (21, .isub, 1), (22, .istore_n 2, 1), (23, .aload_n 0, 1), (24, .iload_n 1, 1), (25, .putfield 517, 3)]
theorem aJ_322_2 : sx_iB prog_14_method_4_code aI_322_2 = true := by decide +kernel
def aI_322_3 : sx_IL := [(28, .iload_n 2, 1), (29, .ireturn, 1)]
theorem aJ_322_3 : sx_iB prog_14_method_4_code aI_322_3 = true := by decide +kernel
def aS_322 (pc : Nat) : sx_IL := (if pc < 20 then (if pc < 8 then aI_322_0 else aI_322_1) else (if pc < 28 then aI_322_2 else aI_322_3))
theorem aT_322 (pc : Nat) : sx_iOk prog_14_method_4_code (aS_322 pc) := (sx_ite (p := fun l => sx_iOk prog_14_method_4_code l) (sx_ite (p := fun l => sx_iOk prog_14_method_4_code l) (sx_iB_s aJ_322_0) (sx_iB_s aJ_322_1)) (sx_ite (p := fun l => sx_iOk prog_14_method_4_code l) (sx_iB_s aJ_322_2) (sx_iB_s aJ_322_3)))
def aW_322 : Nat → Option (Instr × Nat) := fun pc => sx_iF (aS_322 pc) pc
theorem aX_322 : ∀ pc i len, aW_322 pc = some (i, len) → decode aM_322.1.2.1 pc = .ok (i, len) := fun pc i len h => sx_iF_s (aT_322 pc) h
def aI_323_0 : sx_IL := [(0, .iload_n 1, 1), (1, .iconst (-1), 1), (2, .if_icmp .ne 10, 3), (5, .aload_n 0, 1), (6, .getfield 520, 3), (9, .goto 29, 3)]
theorem aJ_323_0 : sx_iB prog_14_method_5_code aI_323_0 = true := by decide +kernel
def aI_323_1 : sx_IL := [(12, .iload_n 1, 1), (13, .i2l, 1), (14, .lconst 0, 1), (15, .aload_n 0, 1), (16, .getfield 520, 3), (19, .iconst 1, 1)]
theorem aJ_323_1 : sx_iB prog_14_method_5_code aI_323_1 = true := by decide +kernel
def aI_323_2 : sx_IL := [(20, .isub, 1), (21, .i2l, 1), (22, .invokestatic 513, 3), (25, .ifCond .eq 12, 3), (28, .aload_n 0, 1), (29, .getfield 13, 3)]
theorem aJ_323_2 : sx_iB prog_14_method_5_code aI_323_2 = true := by decide +kernel
def aI_323_3 : sx_IL := [(32, .iload_n 1, 1), (33, .iaload, 1), (34, .goto 4, 3), (37, .iconst (-1), 1), (38, .ireturn, 1)]
theorem aJ_323_3 : sx_iB prog_14_method_5_code aI_323_3 = true := by decide +kernel
def aS_323 (pc : Nat) : sx_IL := (if pc < 20 then (if pc < 12 then aI_323_0 else aI_323_1) else (if pc < 32 then aI_323_2 else aI_323_3))
theorem aT_323 (pc : Nat) : sx_iOk prog_14_method_5_code (aS_323 pc) := (sx_ite (p := fun l => sx_iOk prog_14_method_5_code l) (sx_ite (p := fun l => sx_iOk prog_14_method_5_code l) (sx_iB_s aJ_323_0) (sx_iB_s aJ_323_1)) (sx_ite (p := fun l => sx_iOk prog_14_method_5_code l) (sx_iB_s aJ_323_2) (sx_iB_s aJ_323_3)))
def aW_323 : Nat → Option (Instr × Nat) := fun pc => sx_iF (aS_323 pc) pc
theorem aX_323 : ∀ pc i len, aW_323 pc = some (i, len) → decode aM_323.1.2.1 pc = .ok (i, len) := fun pc i len h => sx_iF_s (aT_323 pc) h
def aI_324_0 : sx_IL := [(0, .aload_n 0, 1), (1, .getfield 517, 3), (4, .aload_n 0, 1), (5, .getfield 520, 3), (8, .iadd, 1), (9, .sipush 800, 3)]
theorem aJ_324_0 : sx_iB prog_14_method_6_code aI_324_0 = true := by decide +kernel
def aI_324_1 : sx_IL := [(12, .if_icmp .le 6, 3), (15, .bipush (-3), 2), (17, .ireturn, 1), (18, .iconst 0, 1), (19, .istore_n 1, 1), (20, .iload_n 1, 1)]
theorem aJ_324_1 : sx_iB prog_14_method_6_code aI_324_1 = true := by decide +kernel
def aI_324_2 : sx_IL := [(21, .aload_n 0, 1), (22, .getfield 520, 3), (25, .if_icmp .ge 26, 3), (28, .aload_n 0, 1), (29, .getfield 7, 3), (32, .aload_n 0, 1)]
theorem aJ_324_2 : sx_iB prog_14_method_6_code aI_324_2 = true := by decide +kernel
def aI_324_3 : sx_IL := [(33, .getfield 517, 3), (36, .iload_n 1, 1), (37, .iadd, 1), (38, .aload_n 0, 1), (39, .getfield 13, 3), (42, .iload_n 1, 1)]
theorem aJ_324_3 : sx_iB prog_14_method_6_code aI_324_3 = true := by decide +kernel
def aI_324_4 : sx_IL := [(43, .iaload, 1), (44, .iastore, 1), (45, .iinc 1 1, 3), (48, .goto (-28), 3), (51, .aload_n 0, 1), (52, .dup, 1)]
theorem aJ_324_4 : sx_iB prog_14_method_6_code aI_324_4 = true := by decide +kernel
def aI_324_5 : sx_IL := [(53, .getfield 517, 3), (56, .aload_n 0, 1), (57, .getfield 520, 3), (60, .iadd, 1), (61, .putfield 517, 3), (64, .aload_n 0, 1)]
theorem aJ_324_5 : sx_iB prog_14_method_6_code aI_324_5 = true := by decide +kernel
def aI_324_6 : sx_IL := [(65, .getfield 517, 3), (68, .ireturn, 1)]
theorem aJ_324_6 : sx_iB prog_14_method_6_code aI_324_6 = true := by decide +kernel
def aS_324 (pc : Nat) : sx_IL := (if pc < 33 then (if pc < 12 then aI_324_0 else (if pc < 21 then aI_324_1 else aI_324_2)) else (if pc < 53 then (if pc < 43 then aI_324_3 else aI_324_4) else (if pc < 65 then aI_324_5 else aI_324_6)))
theorem aT_324 (pc : Nat) : sx_iOk prog_14_method_6_code (aS_324 pc) := (sx_ite (p := fun l => sx_iOk prog_14_method_6_code l) (sx_ite (p := fun l => sx_iOk prog_14_method_6_code l) (sx_iB_s aJ_324_0) (sx_ite (p := fun l => sx_iOk prog_14_method_6_code l) (sx_iB_s aJ_324_1) (sx_iB_s aJ_324_2))) (sx_ite (p := fun l => sx_iOk prog_14_method_6_code l) (sx_ite (p := fun l => sx_iOk prog_14_method_6_code l) (sx_iB_s aJ_324_3) (sx_iB_s aJ_324_4)) (sx_ite (p := fun l => sx_iOk prog_14_method_6_code l) (sx_iB_s aJ_324_5) (sx_iB_s aJ_324_6))))
def aW_324 : Nat → Option (Instr × Nat) := fun pc => sx_iF (aS_324 pc) pc
theorem aX_324 : ∀ pc i len, aW_324 pc = some (i, len) → decode aM_324.1.2.1 pc = .ok (i, len) := fun pc i len h => sx_iF_s (aT_324 pc) h
def aI_325_0 : sx_IL := [(0, .iload_n 1, 1), (1, .i2l, 1), (2, .lconst 0, 1), (3, .ldc2_w 523, 3), (6, .invokestatic 513, 3), (9, .ifCond .ne 5, 3)]
theorem aJ_325_0 : sx_iB prog_14_method_7_code aI_325_0 = true := by decide +kernel
def aI_325_1 : sx_IL := [(12, .iconst (-1), 1), (13, .ireturn, 1), (14, .aload_n 0, 1), (15, .getfield 507, 3), (18, .iload_n 1, 1), (19, .iadd, 1)]
theorem aJ_325_1 : sx_iB prog_14_method_7_code aI_325_1 = true := by decide +kernel
def aI_325_2 : sx_IL := [(20, .ldc_w 525, 3), (23, .if_icmp .le 6, 3), (26, .bipush (-2), 2), (28, .ireturn, 1), (29, .aload_n 0, 1), (30, .dup, 1)]
theorem aJ_325_2 : sx_iB prog_14_method_7_code aI_325_2 = true := by decide +kernel
def aI_325_3 : sx_IL := [(31, .getfield 507, 3), (34, .iload_n 1, 1), (35, .iadd, 1), (36, .putfield 507, 3), (39, .aload_n 0, 1), (40, .getfield 507, 3)]
theorem aJ_325_3 : sx_iB prog_14_method_7_code aI_325_3 = true := by decide +kernel
def aI_325_4 : sx_IL := [(43, .ireturn, 1)]
theorem aJ_325_4 : sx_iB prog_14_method_7_code aI_325_4 = true := by decide +kernel
def aS_325 (pc : Nat) : sx_IL := (if pc < 20 then (if pc < 12 then aI_325_0 else aI_325_1) else (if pc < 31 then aI_325_2 else (if pc < 43 then aI_325_3 else aI_325_4)))
theorem aT_325 (pc : Nat) : sx_iOk prog_14_method_7_code (aS_325 pc) := (sx_ite (p := fun l => sx_iOk prog_14_method_7_code l) (sx_ite (p := fun l => sx_iOk prog_14_method_7_code l) (sx_iB_s aJ_325_0) (sx_iB_s aJ_325_1)) (sx_ite (p := fun l => sx_iOk prog_14_method_7_code l) (sx_iB_s aJ_325_2) (sx_ite (p := fun l => sx_iOk prog_14_method_7_code l) (sx_iB_s aJ_325_3) (sx_iB_s aJ_325_4))))
def aW_325 : Nat → Option (Instr × Nat) := fun pc => sx_iF (aS_325 pc) pc
theorem aX_325 : ∀ pc i len, aW_325 pc = some (i, len) → decode aM_325.1.2.1 pc = .ok (i, len) := fun pc i len h => sx_iF_s (aT_325 pc) h
def aI_326_0 : sx_IL := [(0, .iload_n 1, 1), (1, .i2l, 1), (2, .lconst 0, 1), (3, .lconst 1, 1), (4, .invokestatic 513, 3), (7, .ifCond .ne 7, 3)]
theorem aJ_326_0 : sx_iB prog_14_method_22_code aI_326_0 = true := by decide +kernel
def aI_326_1 : sx_IL := [(10, .ldc2_w 590, 3), (13, .lreturn, 1), (14, .aload_n 0, 1), (15, .iload_n 1, 1), (16, .aload_n 0, 1), (17, .getfield 7, 3)]
theorem aJ_326_1 : sx_iB prog_14_method_22_code aI_326_1 = true := by decide +kernel
def aI_326_2 : sx_IL := [(20, .iconst 0, 1), (21, .aload_n 0, 1), (22, .getfield 517, 3), (25, .invokevirtual 592, 3), (28, .lstore_n 2, 1), (29, .aload_n 0, 1)]
theorem aJ_326_2 : sx_iB prog_14_method_22_code aI_326_2 = true := by decide +kernel
def aI_326_3 : sx_IL := [(30, .iconst 0, 1), (31, .putfield 517, 3), (34, .lload_n 2, 1), (35, .lreturn, 1)]
theorem aJ_326_3 : sx_iB prog_14_method_22_code aI_326_3 = true := by decide +kernel
def aS_326 (pc : Nat) : sx_IL := (if pc < 20 then (if pc < 10 then aI_326_0 else aI_326_1) else (if pc < 30 then aI_326_2 else aI_326_3))
theorem aT_326 (pc : Nat) : sx_iOk prog_14_method_22_code (aS_326 pc) := (sx_ite (p := fun l => sx_iOk prog_14_method_22_code l) (sx_ite (p := fun l => sx_iOk prog_14_method_22_code l) (sx_iB_s aJ_326_0) (sx_iB_s aJ_326_1)) (sx_ite (p := fun l => sx_iOk prog_14_method_22_code l) (sx_iB_s aJ_326_2) (sx_iB_s aJ_326_3)))
def aW_326 : Nat → Option (Instr × Nat) := fun pc => sx_iF (aS_326 pc) pc
theorem aX_326 : ∀ pc i len, aW_326 pc = some (i, len) → decode aM_326.1.2.1 pc = .ok (i, len) := fun pc i len h => sx_iF_s (aT_326 pc) h
def aI_327_0 : sx_IL := [(0, .aload_n 0, 1), (1, .iload_n 1, 1), (2, .invokevirtual 568, 3), (5, .aload_n 0, 1), (6, .aload_n 2, 1), (7, .iload_n 3, 1)]
theorem aJ_327_0 : sx_iB prog_14_method_21_code aI_327_0 = true := by decide +kernel
def aI_327_1 : sx_IL := [(8, .iload 4, 2), (10, .invokevirtual 586, 3), (13, .aload_n 0, 1), (14, .invokevirtual 571, 3), (17, .lreturn, 1)]
theorem aJ_327_1 : sx_iB prog_14_method_21_code aI_327_1 = true := by decide +kernel
def aS_327 (pc : Nat) : sx_IL := (if pc < 8 then aI_327_0 else aI_327_1)
theorem aT_327 (pc : Nat) : sx_iOk prog_14_method_21_code (aS_327 pc) := (sx_ite (p := fun l => sx_iOk prog_14_method_21_code l) (sx_iB_s aJ_327_0) (sx_iB_s aJ_327_1))
def aW_327 : Nat → Option (Instr × Nat) := fun pc => sx_iF (aS_327 pc) pc
theorem aX_327 : ∀ pc i len, aW_327 pc = some (i, len) → decode aM_327.1.2.1 pc = .ok (i, len) := fun pc i len h => sx_iF_s (aT_327 pc) h
def aI_328_0 : sx_IL := [(0, .aload_n 0, 1), (1, .iconst 1, 1), (2, .iload_n 1, 1), (3, .iadd, 1), (4, .putfield 526, 3), (7, .aload_n 0, 1)]
theorem aJ_328_0 : sx_iB prog_14_method_11_code aI_328_0 = true := by decide +kernel
def aI_328_1 : sx_IL := [(8, .iconst 2, 1), (9, .iload_n 1, 1), (10, .iadd, 1), (11, .putfield 529, 3), (14, .aload_n 0, 1), (15, .iconst 3, 1)]
theorem aJ_328_1 : sx_iB prog_14_method_11_code aI_328_1 = true := by decide +kernel
def aI_328_2 : sx_IL := [(16, .iload_n 1, 1), (17, .iadd, 1), (18, .putfield 539, 3), (21, .aload_n 0, 1), (22, .iconst 4, 1), (23, .iload_n 1, 1)]
theorem aJ_328_2 : sx_iB prog_14_method_11_code aI_328_2 = true := by decide +kernel
def aI_328_3 : sx_IL := [(24, .iadd, 1), (25, .putfield 532, 3), (28, .aload_n 0, 1), (29, .iconst 0, 1), (30, .putfield 544, 3), (33, .aload_n 0, 1)]
theorem aJ_328_3 : sx_iB prog_14_method_11_code aI_328_3 = true := by decide +kernel
def aI_328_4 : sx_IL := [(34, .lconst 0, 1), (35, .putfield 547, 3), (38, .aload_n 0, 1), (39, .iconst 0, 1), (40, .putfield 551, 3), (43, .return_, 1)]
theorem aJ_328_4 : sx_iB prog_14_method_11_code aI_328_4 = true := by decide +kernel
def aS_328 (pc : Nat) : sx_IL := (if pc < 16 then (if pc < 8 then aI_328_0 else aI_328_1) else (if pc < 24 then aI_328_2 else (if pc < 34 then aI_328_3 else aI_328_4)))
theorem aT_328 (pc : Nat) : sx_iOk prog_14_method_11_code (aS_328 pc) := (sx_ite (p := fun l => sx_iOk prog_14_method_11_code l) (sx_ite (p := fun l => sx_iOk prog_14_method_11_code l) (sx_iB_s aJ_328_0) (sx_iB_s aJ_328_1)) (sx_ite (p := fun l => sx_iOk prog_14_method_11_code l) (sx_iB_s aJ_328_2) (sx_ite (p := fun l => sx_iOk prog_14_method_11_code l) (sx_iB_s aJ_328_3) (sx_iB_s aJ_328_4))))
def aW_328 : Nat → Option (Instr × Nat) := fun pc => sx_iF (aS_328 pc) pc
theorem aX_328 : ∀ pc i len, aW_328 pc = some (i, len) → decode aM_328.1.2.1 pc = .ok (i, len) := fun pc i len h => sx_iF_s (aT_328 pc) h
def aI_329_0 : sx_IL := [(0, .iconst 0, 1), (1, .istore 4, 2), (3, .iload 4, 2), (5, .iload_n 3, 1), (6, .if_icmp .ge 19, 3), (9, .aload_n 0, 1)]
theorem aJ_329_0 : sx_iB prog_14_method_14_code aI_329_0 = true := by decide +kernel
def aI_329_1 : sx_IL := [(10, .aload_n 1, 1), (11, .iload_n 2, 1), (12, .iload 4, 2), (14, .iadd, 1), (15, .iaload, 1), (16, .invokevirtual 561, 3)]
theorem aJ_329_1 : sx_iB prog_14_method_14_code aI_329_1 = true := by decide +kernel
def aI_329_2 : sx_IL := [(19, .iinc 4 1, 3), (22, .goto (-19), 3), (25, .return_, 1)]
theorem aJ_329_2 : sx_iB prog_14_method_14_code aI_329_2 = true := by decide +kernel
def aS_329 (pc : Nat) : sx_IL := (if pc < 10 then aI_329_0 else (if pc < 19 then aI_329_1 else aI_329_2))
theorem aT_329 (pc : Nat) : sx_iOk prog_14_method_14_code (aS_329 pc) := (sx_ite (p := fun l => sx_iOk prog_14_method_14_code l) (sx_iB_s aJ_329_0) (sx_ite (p := fun l => sx_iOk prog_14_method_14_code l) (sx_iB_s aJ_329_1) (sx_iB_s aJ_329_2)))
def aW_329 : Nat → Option (Instr × Nat) := fun pc => sx_iF (aS_329 pc) pc
theorem aX_329 : ∀ pc i len, aW_329 pc = some (i, len) → decode aM_329.1.2.1 pc = .ok (i, len) := fun pc i len h => sx_iF_s (aT_329 pc) h
def aI_330_0 : sx_IL := [(0, .aload_n 0, 1), (1, .iload_n 1, 1), (2, .invokevirtual 554, 3), (5, .aload_n 0, 1), (6, .dup, 1), (7, .getfield 551, 3)]
theorem aJ_330_0 : sx_iB prog_14_method_12_code aI_330_0 = true := by decide +kernel
def aI_330_1 : sx_IL := [(10, .iconst 1, 1), (11, .iadd, 1), (12, .putfield 551, 3), (15, .return_, 1)]
theorem aJ_330_1 : sx_iB prog_14_method_12_code aI_330_1 = true := by decide +kernel
def aS_330 (pc : Nat) : sx_IL := (if pc < 10 then aI_330_0 else aI_330_1)
theorem aT_330 (pc : Nat) : sx_iOk prog_14_method_12_code (aS_330 pc) := (sx_ite (p := fun l => sx_iOk prog_14_method_12_code l) (sx_iB_s aJ_330_0) (sx_iB_s aJ_330_1))
def aW_330 : Nat → Option (Instr × Nat) := fun pc => sx_iF (aS_330 pc) pc
theorem aX_330 : ∀ pc i len, aW_330 pc = some (i, len) → decode aM_330.1.2.1 pc = .ok (i, len) := fun pc i len h => sx_iF_s (aT_330 pc) h
def aI_331_0 : sx_IL := [(0, .aload_n 0, 1), (1, .aload_n 0, 1), (2, .getfield 547, 3), (5, .bipush 8, 2), (7, .lshl, 1), (8, .iload_n 1, 1)]
theorem aJ_331_0 : sx_iB prog_14_method_13_code aI_331_0 = true := by decide +kernel
def aI_331_1 : sx_IL := [(9, .i2l, 1), (10, .lor, 1), (11, .putfield 547, 3), (14, .aload_n 0, 1), (15, .dup, 1), (16, .getfield 544, 3)]
theorem aJ_331_1 : sx_iB prog_14_method_13_code aI_331_1 = true := by decide +kernel
def aI_331_2 : sx_IL := [(19, .iconst 1, 1), (20, .iadd, 1), (21, .putfield 544, 3), (24, .aload_n 0, 1), (25, .getfield 544, 3), (28, .bipush 8, 2)]
theorem aJ_331_2 : sx_iB prog_14_method_13_code aI_331_2 = true := by decide +kernel
def aI_331_3 : sx_IL := [(30, .if_icmp .ne 48, 3), (33, .aload_n 0, 1), (34, .dup, 1), (35, .getfield 526, 3), (38, .aload_n 0, 1), (39, .getfield 547, 3)]
theorem aJ_331_3 : sx_iB prog_14_method_13_code aI_331_3 = true := by decide +kernel
def aI_331_4 : sx_IL := [(42, .bipush 32, 2), (44, .lushr, 1), (45, .l2i, 1), (46, .ixor, 1), (47, .putfield 526, 3), (50, .aload_n 0, 1)]
theorem aJ_331_4 : sx_iB prog_14_method_13_code aI_331_4 = true := by decide +kernel
def aI_331_5 : sx_IL := [(51, .dup, 1), (52, .getfield 529, 3), (55, .aload_n 0, 1), (56, .getfield 547, 3), (59, .l2i, 1), (60, .ixor, 1)]
theorem aJ_331_5 : sx_iB prog_14_method_13_code aI_331_5 = true := by decide +kernel
def aI_331_6 : sx_IL := [(61, .putfield 529, 3), (64, .aload_n 0, 1), (65, .invokevirtual 558, 3), (68, .aload_n 0, 1), (69, .iconst 0, 1), (70, .putfield 544, 3)]
theorem aJ_331_6 : sx_iB prog_14_method_13_code aI_331_6 = true := by decide +kernel
def aI_331_7 : sx_IL := [(73, .aload_n 0, 1), (74, .lconst 0, 1), (75, .putfield 547, 3), (78, .return_, 1)]
theorem aJ_331_7 : sx_iB prog_14_method_13_code aI_331_7 = true := by decide +kernel
def aS_331 (pc : Nat) : sx_IL := (if pc < 42 then (if pc < 19 then (if pc < 9 then aI_331_0 else aI_331_1) else (if pc < 30 then aI_331_2 else aI_331_3)) else (if pc < 61 then (if pc < 51 then aI_331_4 else aI_331_5) else (if pc < 73 then aI_331_6 else aI_331_7)))
theorem aT_331 (pc : Nat) : sx_iOk prog_14_method_13_code (aS_331 pc) := (sx_ite (p := fun l => sx_iOk prog_14_method_13_code l) (sx_ite (p := fun l => sx_iOk prog_14_method_13_code l) (sx_ite (p := fun l => sx_iOk prog_14_method_13_code l) (sx_iB_s aJ_331_0) (sx_iB_s aJ_331_1)) (sx_ite (p := fun l => sx_iOk prog_14_method_13_code l) (sx_iB_s aJ_331_2) (sx_iB_s aJ_331_3))) (sx_ite (p := fun l => sx_iOk prog_14_method_13_code l) (sx_ite (p := fun l => sx_iOk prog_14_method_13_code l) (sx_iB_s aJ_331_4) (sx_iB_s aJ_331_5)) (sx_ite (p := fun l => sx_iOk prog_14_method_13_code l) (sx_iB_s aJ_331_6) (sx_iB_s aJ_331_7))))
def aW_331 : Nat → Option (Instr × Nat) := fun pc => sx_iF (aS_331 pc) pc
theorem aX_331 : ∀ pc i len, aW_331 pc = some (i, len) → decode aM_331.1.2.1 pc = .ok (i, len) := fun pc i len h => sx_iF_s (aT_331 pc) h
def aI_332_0 : sx_IL := [(0, .iconst 1, 1), (1, .istore_n 1, 1), (2, .iload_n 1, 1), (3, .bipush 8, 2), (5, .if_icmp .gt 143, 3), (8, .aload_n 0, 1)]
theorem aJ_332_0 : sx_iB prog_14_method_9_code aI_332_0 = true := by decide +kernel
def aI_332_1 : sx_IL := [(9, .dup, 1), (10, .getfield 526, 3), (13, .aload_n 0, 1), (14, .getfield 529, 3), (17, .iadd, 1), (18, .putfield 526, 3)]
theorem aJ_332_1 : sx_iB prog_14_method_9_code aI_332_1 = true := by decide +kernel
def aI_332_2 : sx_IL := [(21, .aload_n 0, 1), (22, .aload_n 0, 1), (23, .getfield 532, 3), (26, .aload_n 0, 1), (27, .getfield 526, 3), (30, .ixor, 1)]
theorem aJ_332_2 : sx_iB prog_14_method_9_code aI_332_2 = true := by decide +kernel
def aI_332_3 : sx_IL := [(31, .bipush 16, 2), (33, .invokestatic 535, 3), (36, .putfield 532, 3), (39, .aload_n 0, 1), (40, .dup, 1), (41, .getfield 539, 3)]
theorem aJ_332_3 : sx_iB prog_14_method_9_code aI_332_3 = true := by decide +kernel
def aI_332_4 : sx_IL := [(44, .aload_n 0, 1), (45, .getfield 532, 3), (48, .iadd, 1), (49, .putfield 539, 3), (52, .aload_n 0, 1), (53, .aload_n 0, 1)]
theorem aJ_332_4 : sx_iB prog_14_method_9_code aI_332_4 = true := by decide +kernel
def aI_332_5 : sx_IL := [(54, .getfield 529, 3), (57, .aload_n 0, 1), (58, .getfield 539, 3), (61, .ixor, 1), (62, .bipush 12, 2), (64, .invokestatic 535, 3)]
theorem aJ_332_5 : sx_iB prog_14_method_9_code aI_332_5 = true := by decide +kernel
def aI_332_6 : sx_IL := [(67, .putfield 529, 3), (70, .aload_n 0, 1), (71, .dup, 1), (72, .getfield 526, 3), (75, .aload_n 0, 1), (76, .getfield 529, 3)]
theorem aJ_332_6 : sx_iB prog_14_method_9_code aI_332_6 = true := by decide +kernel
def aI_332_7 : sx_IL := [(79, .iadd, 1), (80, .putfield 526, 3), (83, .aload_n 0, 1), (84, .aload_n 0, 1), (85, .getfield 532, 3), (88, .aload_n 0, 1)]
theorem aJ_332_7 : sx_iB prog_14_method_9_code aI_332_7 = true := by decide +kernel
def aI_332_8 : sx_IL := [(89, .getfield 526, 3), (92, .ixor, 1), (93, .bipush 8, 2), (95, .invokestatic 535, 3), (98, .putfield 532, 3), (101, .aload_n 0, 1)]
theorem aJ_332_8 : sx_iB prog_14_method_9_code aI_332_8 = true := by decide +kernel
def aI_332_9 : sx_IL := [(102, .dup, 1), (103, .getfield 539, 3), (106, .aload_n 0, 1), (107, .getfield 532, 3), (110, .iadd, 1), (111, .putfield 539, 3)]
theorem aJ_332_9 : sx_iB prog_14_method_9_code aI_332_9 = true := by decide +kernel
def aI_332_10 : sx_IL := [(114, .aload_n 0, 1), (115, .aload_n 0, 1), (116, .getfield 529, 3), (119, .aload_n 0, 1), (120, .getfield 539, 3), (123, .ixor, 1)]
theorem aJ_332_10 : sx_iB prog_14_method_9_code aI_332_10 = true := by decide +kernel
def aI_332_11 : sx_IL := [(124, .bipush 7, 2), (126, .invokestatic 535, 3), (129, .putfield 529, 3), (132, .aload_n 0, 1), (133, .dup, 1), (134, .getfield 526, 3)]
theorem aJ_332_11 : sx_iB prog_14_method_9_code aI_332_11 = true := by decide +kernel
def aI_332_12 : sx_IL := [(137, .iload_n 1, 1), (138, .ixor, 1), (139, .putfield 526, 3), (142, .iinc 1 1, 3), (145, .goto (-143), 3), (148, .return_, 1)]
theorem aJ_332_12 : sx_iB prog_14_method_9_code aI_332_12 = true := by decide +kernel
def aS_332 (pc : Nat) : sx_IL := (if pc < 67 then (if pc < 31 then (if pc < 9 then aI_332_0 else (if pc < 21 then aI_332_1 else aI_332_2)) else (if pc < 44 then aI_332_3 else (if pc < 54 then aI_332_4 else aI_332_5))) else (if pc < 102 then (if pc < 79 then aI_332_6 else (if pc < 89 then aI_332_7 else aI_332_8)) else (if pc < 124 then (if pc < 114 then aI_332_9 else aI_332_10) else (if pc < 137 then aI_332_11 else aI_332_12))))
theorem aT_332 (pc : Nat) : sx_iOk prog_14_method_9_code (aS_332 pc) := (sx_ite (p := fun l => sx_iOk prog_14_method_9_code l) (sx_ite (p := fun l => sx_iOk prog_14_method_9_code l) (sx_ite (p := fun l => sx_iOk prog_14_method_9_code l) (sx_iB_s aJ_332_0) (sx_ite (p := fun l => sx_iOk prog_14_method_9_code l) (sx_iB_s aJ_332_1) (sx_iB_s aJ_332_2))) (sx_ite (p := fun l => sx_iOk prog_14_method_9_code l) (sx_iB_s aJ_332_3) (sx_ite (p := fun l => sx_iOk prog_14_method_9_code l) (sx_iB_s aJ_332_4) (sx_iB_s aJ_332_5)))) (sx_ite (p := fun l => sx_iOk prog_14_method_9_code l) (sx_ite (p := fun l => sx_iOk prog_14_method_9_code l) (sx_iB_s aJ_332_6) (sx_ite (p := fun l => sx_iOk prog_14_method_9_code l) (sx_iB_s aJ_332_7) (sx_iB_s aJ_332_8))) (sx_ite (p := fun l => sx_iOk prog_14_method_9_code l) (sx_ite (p := fun l => sx_iOk prog_14_method_9_code l) (sx_iB_s aJ_332_9) (sx_iB_s aJ_332_10)) (sx_ite (p := fun l => sx_iOk prog_14_method_9_code l) (sx_iB_s aJ_332_11) (sx_iB_s aJ_332_12)))))
def aW_332 : Nat → Option (Instr × Nat) := fun pc => sx_iF (aS_332 pc) pc
theorem aX_332 : ∀ pc i len, aW_332 pc = some (i, len) → decode aM_332.1.2.1 pc = .ok (i, len) := fun pc i len h => sx_iF_s (aT_332 pc) h
def aI_333_0 : sx_IL := [(0, .iload_n 0, 1), (1, .iload_n 1, 1), (2, .ishl, 1), (3, .iload_n 0, 1), (4, .bipush 32, 2), (6, .iload_n 1, 1)]
theorem aJ_333_0 : sx_iB prog_14_method_8_code aI_333_0 = true := by decide +kernel
def aI_333_1 : sx_IL := [(7, .isub, 1), (8, .iushr, 1), (9, .ior, 1), (10, .ireturn, 1)]
theorem aJ_333_1 : sx_iB prog_14_method_8_code aI_333_1 = true := by decide +kernel
def aS_333 (pc : Nat) : sx_IL := (if pc < 7 then aI_333_0 else aI_333_1)
theorem aT_333 (pc : Nat) : sx_iOk prog_14_method_8_code (aS_333 pc) := (sx_ite (p := fun l => sx_iOk prog_14_method_8_code l) (sx_iB_s aJ_333_0) (sx_iB_s aJ_333_1))
def aW_333 : Nat → Option (Instr × Nat) := fun pc => sx_iF (aS_333 pc) pc
theorem aX_333 : ∀ pc i len, aW_333 pc = some (i, len) → decode aM_333.1.2.1 pc = .ok (i, len) := fun pc i len h => sx_iF_s (aT_333 pc) h
def aI_334_0 : sx_IL := [(0, .aload_n 0, 1), (1, .sipush 128, 3), (4, .invokevirtual 554, 3), (7, .aload_n 0, 1), (8, .getfield 544, 3), (11, .ifCond .le 11, 3)]
theorem aJ_334_0 : sx_iB prog_14_method_17_code aI_334_0 = true := by decide +kernel
def aI_334_1 : sx_IL := [(14, .aload_n 0, 1), (15, .iconst 0, 1), (16, .invokevirtual 554, 3), (19, .goto (-12), 3), (22, .aload_n 0, 1), (23, .dup, 1)]
theorem aJ_334_1 : sx_iB prog_14_method_17_code aI_334_1 = true := by decide +kernel
def aI_334_2 : sx_IL := [(24, .getfield 539, 3), (27, .aload_n 0, 1), (28, .getfield 551, 3), (31, .ixor, 1), (32, .putfield 539, 3), (35, .aload_n 0, 1)]
theorem aJ_334_2 : sx_iB prog_14_method_17_code aI_334_2 = true := by decide +kernel
def aI_334_3 : sx_IL := [(36, .invokevirtual 558, 3), (39, .aload_n 0, 1), (40, .invokevirtual 564, 3), (43, .lreturn, 1)]
theorem aJ_334_3 : sx_iB prog_14_method_17_code aI_334_3 = true := by decide +kernel
def aS_334 (pc : Nat) : sx_IL := (if pc < 24 then (if pc < 14 then aI_334_0 else aI_334_1) else (if pc < 36 then aI_334_2 else aI_334_3))
theorem aT_334 (pc : Nat) : sx_iOk prog_14_method_17_code (aS_334 pc) := (sx_ite (p := fun l => sx_iOk prog_14_method_17_code l) (sx_ite (p := fun l => sx_iOk prog_14_method_17_code l) (sx_iB_s aJ_334_0) (sx_iB_s aJ_334_1)) (sx_ite (p := fun l => sx_iOk prog_14_method_17_code l) (sx_iB_s aJ_334_2) (sx_iB_s aJ_334_3)))
def aW_334 : Nat → Option (Instr × Nat) := fun pc => sx_iF (aS_334 pc) pc
theorem aX_334 : ∀ pc i len, aW_334 pc = some (i, len) → decode aM_334.1.2.1 pc = .ok (i, len) := fun pc i len h => sx_iF_s (aT_334 pc) h
def aI_335_0 : sx_IL := [(0, .aload_n 0, 1), (1, .getfield 526, 3), (4, .aload_n 0, 1), (5, .getfield 539, 3), (8, .ixor, 1), (9, .i2l, 1)]
theorem aJ_335_0 : sx_iB prog_14_method_10_code aI_335_0 = true := by decide +kernel
def aI_335_1 : sx_IL := [(10, .bipush 32, 2), (12, .lshl, 1), (13, .aload_n 0, 1), (14, .getfield 529, 3), (17, .aload_n 0, 1), (18, .getfield 532, 3)]
theorem aJ_335_1 : sx_iB prog_14_method_10_code aI_335_1 = true := by decide +kernel
def aI_335_2 : sx_IL := [(21, .ixor, 1), (22, .i2l, 1), (23, .ldc2_w 542, 3), (26, .land, 1), (27, .lor, 1), (28, .lreturn, 1)]
theorem aJ_335_2 : sx_iB prog_14_method_10_code aI_335_2 = true := by decide +kernel
def aS_335 (pc : Nat) : sx_IL := (if pc < 10 then aI_335_0 else (if pc < 21 then aI_335_1 else aI_335_2))
theorem aT_335 (pc : Nat) : sx_iOk prog_14_method_10_code (aS_335 pc) := (sx_ite (p := fun l => sx_iOk prog_14_method_10_code l) (sx_iB_s aJ_335_0) (sx_ite (p := fun l => sx_iOk prog_14_method_10_code l) (sx_iB_s aJ_335_1) (sx_iB_s aJ_335_2)))
def aW_335 : Nat → Option (Instr × Nat) := fun pc => sx_iF (aS_335 pc) pc
theorem aX_335 : ∀ pc i len, aW_335 pc = some (i, len) → decode aM_335.1.2.1 pc = .ok (i, len) := fun pc i len h => sx_iF_s (aT_335 pc) h
def aI_336_0 : sx_IL := [(0, .iload_n 1, 1), (1, .i2l, 1), (2, .lconst 0, 1), (3, .lconst 1, 1), (4, .invokestatic 513, 3), (7, .ifCond .ne 7, 3)]
theorem aJ_336_0 : sx_iB prog_14_method_23_code aI_336_0 = true := by decide +kernel
def aI_336_1 : sx_IL := [(10, .ldc2_w 590, 3), (13, .lreturn, 1), (14, .aload_n 0, 1), (15, .iload_n 1, 1), (16, .lload_n 2, 1), (17, .invokevirtual 578, 3)]
theorem aJ_336_1 : sx_iB prog_14_method_23_code aI_336_1 = true := by decide +kernel
def aI_336_2 : sx_IL := [(20, .aload_n 0, 1), (21, .aload_n 0, 1), (22, .getfield 7, 3), (25, .iconst 0, 1), (26, .aload_n 0, 1), (27, .getfield 517, 3)]
theorem aJ_336_2 : sx_iB prog_14_method_23_code aI_336_2 = true := by decide +kernel
def aI_336_3 : sx_IL := [(30, .invokevirtual 586, 3), (33, .aload_n 0, 1), (34, .iconst 0, 1), (35, .putfield 517, 3), (38, .aload_n 0, 1), (39, .iload_n 1, 1)]
theorem aJ_336_3 : sx_iB prog_14_method_23_code aI_336_3 = true := by decide +kernel
def aI_336_4 : sx_IL := [(40, .lload_n 2, 1), (41, .invokevirtual 582, 3), (44, .lreturn, 1)]
theorem aJ_336_4 : sx_iB prog_14_method_23_code aI_336_4 = true := by decide +kernel
def aS_336 (pc : Nat) : sx_IL := (if pc < 20 then (if pc < 10 then aI_336_0 else aI_336_1) else (if pc < 30 then aI_336_2 else (if pc < 40 then aI_336_3 else aI_336_4)))
theorem aT_336 (pc : Nat) : sx_iOk prog_14_method_23_code (aS_336 pc) := (sx_ite (p := fun l => sx_iOk prog_14_method_23_code l) (sx_ite (p := fun l => sx_iOk prog_14_method_23_code l) (sx_iB_s aJ_336_0) (sx_iB_s aJ_336_1)) (sx_ite (p := fun l => sx_iOk prog_14_method_23_code l) (sx_iB_s aJ_336_2) (sx_ite (p := fun l => sx_iOk prog_14_method_23_code l) (sx_iB_s aJ_336_3) (sx_iB_s aJ_336_4))))
def aW_336 : Nat → Option (Instr × Nat) := fun pc => sx_iF (aS_336 pc) pc
theorem aX_336 : ∀ pc i len, aW_336 pc = some (i, len) → decode aM_336.1.2.1 pc = .ok (i, len) := fun pc i len h => sx_iF_s (aT_336 pc) h
def aI_337_0 : sx_IL := [(0, .aload_n 0, 1), (1, .iload_n 1, 1), (2, .invokevirtual 568, 3), (5, .bipush 7, 2), (7, .istore 4, 2), (9, .iload 4, 2)]
theorem aJ_337_0 : sx_iB prog_14_method_18_code aI_337_0 = true := by decide +kernel
def aI_337_1 : sx_IL := [(11, .ifCond .lt 28, 3), (14, .aload_n 0, 1), (15, .lload_n 2, 1), (16, .bipush 8, 2), (18, .iload 4, 2), (20, .imul, 1)]
theorem aJ_337_1 : sx_iB prog_14_method_18_code aI_337_1 = true := by decide +kernel
def aI_337_2 : sx_IL := [(21, .lushr, 1), (22, .l2i, 1), (23, .sipush 255, 3), (26, .iand, 1), (27, .bipush 54, 2), (29, .ixor, 1)]
theorem aJ_337_2 : sx_iB prog_14_method_18_code aI_337_2 = true := by decide +kernel
def aI_337_3 : sx_IL := [(30, .invokevirtual 561, 3), (33, .iinc 4 (-1), 3), (36, .goto (-27), 3), (39, .return_, 1)]
theorem aJ_337_3 : sx_iB prog_14_method_18_code aI_337_3 = true := by decide +kernel
def aS_337 (pc : Nat) : sx_IL := (if pc < 21 then (if pc < 11 then aI_337_0 else aI_337_1) else (if pc < 30 then aI_337_2 else aI_337_3))
theorem aT_337 (pc : Nat) : sx_iOk prog_14_method_18_code (aS_337 pc) := (sx_ite (p := fun l => sx_iOk prog_14_method_18_code l) (sx_ite (p := fun l => sx_iOk prog_14_method_18_code l) (sx_iB_s aJ_337_0) (sx_iB_s aJ_337_1)) (sx_ite (p := fun l => sx_iOk prog_14_method_18_code l) (sx_iB_s aJ_337_2) (sx_iB_s aJ_337_3)))
def aW_337 : Nat → Option (Instr × Nat) := fun pc => sx_iF (aS_337 pc) pc
theorem aX_337 : ∀ pc i len, aW_337 pc = some (i, len) → decode aM_337.1.2.1 pc = .ok (i, len) := fun pc i len h => sx_iF_s (aT_337 pc) h
def aI_338_0 : sx_IL := [(0, .aload_n 0, 1), (1, .invokevirtual 571, 3), (4, .lstore 4, 2), (6, .aload_n 0, 1), (7, .iload_n 1, 1), (8, .invokevirtual 568, 3)]
theorem aJ_338_0 : sx_iB prog_14_method_19_code aI_338_0 = true := by decide +kernel
def aI_338_1 : sx_IL := [(11, .bipush 7, 2), (13, .istore 6, 2), (15, .iload 6, 2), (17, .ifCond .lt 28, 3), (20, .aload_n 0, 1), (21, .lload_n 2, 1)]
theorem aJ_338_1 : sx_iB prog_14_method_19_code aI_338_1 = true := by decide +kernel
def aI_338_2 : sx_IL := [(22, .bipush 8, 2), (24, .iload 6, 2), (26, .imul, 1), (27, .lushr, 1), (28, .l2i, 1), (29, .sipush 255, 3)]
theorem aJ_338_2 : sx_iB prog_14_method_19_code aI_338_2 = true := by decide +kernel
def aI_338_3 : sx_IL := [(32, .iand, 1), (33, .bipush 92, 2), (35, .ixor, 1), (36, .invokevirtual 561, 3), (39, .iinc 6 (-1), 3), (42, .goto (-27), 3)]
theorem aJ_338_3 : sx_iB prog_14_method_19_code aI_338_3 = true := by decide +kernel
def aI_338_4 : sx_IL := [(45, .aload_n 0, 1), (46, .lload 4, 2), (48, .invokevirtual 574, 3), (51, .aload_n 0, 1), (52, .invokevirtual 571, 3), (55, .lreturn, 1)]
theorem aJ_338_4 : sx_iB prog_14_method_19_code aI_338_4 = true := by decide +kernel
def aS_338 (pc : Nat) : sx_IL := (if pc < 22 then (if pc < 11 then aI_338_0 else aI_338_1) else (if pc < 32 then aI_338_2 else (if pc < 45 then aI_338_3 else aI_338_4)))
theorem aT_338 (pc : Nat) : sx_iOk prog_14_method_19_code (aS_338 pc) := (sx_ite (p := fun l => sx_iOk prog_14_method_19_code l) (sx_ite (p := fun l => sx_iOk prog_14_method_19_code l) (sx_iB_s aJ_338_0) (sx_iB_s aJ_338_1)) (sx_ite (p := fun l => sx_iOk prog_14_method_19_code l) (sx_iB_s aJ_338_2) (sx_ite (p := fun l => sx_iOk prog_14_method_19_code l) (sx_iB_s aJ_338_3) (sx_iB_s aJ_338_4))))
def aW_338 : Nat → Option (Instr × Nat) := fun pc => sx_iF (aS_338 pc) pc
theorem aX_338 : ∀ pc i len, aW_338 pc = some (i, len) → decode aM_338.1.2.1 pc = .ok (i, len) := fun pc i len h => sx_iF_s (aT_338 pc) h
def aI_339_0 : sx_IL := [(0, .bipush 7, 2), (2, .istore_n 3, 1), (3, .iload_n 3, 1), (4, .ifCond .lt 24, 3), (7, .aload_n 0, 1), (8, .lload_n 1, 1)]
theorem aJ_339_0 : sx_iB prog_14_method_15_code aI_339_0 = true := by decide +kernel
def aI_339_1 : sx_IL := [(9, .bipush 8, 2), (11, .iload_n 3, 1), (12, .imul, 1), (13, .lushr, 1), (14, .l2i, 1), (15, .sipush 255, 3)]
theorem aJ_339_1 : sx_iB prog_14_method_15_code aI_339_1 = true := by decide +kernel
def aI_339_2 : sx_IL := [(18, .iand, 1), (19, .invokevirtual 561, 3), (22, .iinc 3 (-1), 3), (25, .goto (-22), 3), (28, .return_, 1)]
theorem aJ_339_2 : sx_iB prog_14_method_15_code aI_339_2 = true := by decide +kernel
def aS_339 (pc : Nat) : sx_IL := (if pc < 9 then aI_339_0 else (if pc < 18 then aI_339_1 else aI_339_2))
theorem aT_339 (pc : Nat) : sx_iOk prog_14_method_15_code (aS_339 pc) := (sx_ite (p := fun l => sx_iOk prog_14_method_15_code l) (sx_iB_s aJ_339_0) (sx_ite (p := fun l => sx_iOk prog_14_method_15_code l) (sx_iB_s aJ_339_1) (sx_iB_s aJ_339_2)))
def aW_339 : Nat → Option (Instr × Nat) := fun pc => sx_iF (aS_339 pc) pc
theorem aX_339 : ∀ pc i len, aW_339 pc = some (i, len) → decode aM_339.1.2.1 pc = .ok (i, len) := fun pc i len h => sx_iF_s (aT_339 pc) h
def aI_340_0 : sx_IL := [(0, .iload_n 1, 1), (1, .i2l, 1), (2, .lconst 0, 1), (3, .lconst 1, 1), (4, .invokestatic 513, 3), (7, .ifCond .eq 29, 3)]
theorem aJ_340_0 : sx_iB prog_14_method_24_code aI_340_0 = true := by decide +kernel
def aI_340_1 : sx_IL := [(10, .iload 4, 2), (12, .i2l, 1), (13, .lconst 0, 1), (14, .ldc2_w 596, 3), (17, .invokestatic 513, 3), (20, .ifCond .eq 16, 3)]
theorem aJ_340_1 : sx_iB prog_14_method_24_code aI_340_1 = true := by decide +kernel
def aI_340_2 : sx_IL := [(23, .aload_n 0, 1), (24, .iload_n 1, 1), (25, .lload_n 2, 1), (26, .iload 4, 2), (28, .lload 5, 2), (30, .invokevirtual 598, 3)]
theorem aJ_340_2 : sx_iB prog_14_method_24_code aI_340_2 = true := by decide +kernel
def aI_340_3 : sx_IL := [(33, .goto 6, 3), (36, .ldc2_w 590, 3), (39, .lreturn, 1)]
theorem aJ_340_3 : sx_iB prog_14_method_24_code aI_340_3 = true := by decide +kernel
def aS_340 (pc : Nat) : sx_IL := (if pc < 23 then (if pc < 10 then aI_340_0 else aI_340_1) else (if pc < 33 then aI_340_2 else aI_340_3))
theorem aT_340 (pc : Nat) : sx_iOk prog_14_method_24_code (aS_340 pc) := (sx_ite (p := fun l => sx_iOk prog_14_method_24_code l) (sx_ite (p := fun l => sx_iOk prog_14_method_24_code l) (sx_iB_s aJ_340_0) (sx_iB_s aJ_340_1)) (sx_ite (p := fun l => sx_iOk prog_14_method_24_code l) (sx_iB_s aJ_340_2) (sx_iB_s aJ_340_3)))
def aW_340 : Nat → Option (Instr × Nat) := fun pc => sx_iF (aS_340 pc) pc
theorem aX_340 : ∀ pc i len, aW_340 pc = some (i, len) → decode aM_340.1.2.1 pc = .ok (i, len) := fun pc i len h => sx_iF_s (aT_340 pc) h
def aI_341_0 : sx_IL := [(0, .aload_n 0, 1), (1, .iload_n 1, 1), (2, .lload_n 2, 1), (3, .invokevirtual 578, 3), (6, .aload_n 0, 1), (7, .iload 4, 2)]
theorem aJ_341_0 : sx_iB prog_14_method_20_code aI_341_0 = true := by decide +kernel
def aI_341_1 : sx_IL := [(9, .invokevirtual 561, 3), (12, .aload_n 0, 1), (13, .lload 5, 2), (15, .invokevirtual 574, 3), (18, .aload_n 0, 1), (19, .iload_n 1, 1)]
theorem aJ_341_1 : sx_iB prog_14_method_20_code aI_341_1 = true := by decide +kernel
def aI_341_2 : sx_IL := [(20, .lload_n 2, 1), (21, .invokevirtual 582, 3), (24, .lreturn, 1)]
theorem aJ_341_2 : sx_iB prog_14_method_20_code aI_341_2 = true := by decide +kernel
def aS_341 (pc : Nat) : sx_IL := (if pc < 9 then aI_341_0 else (if pc < 20 then aI_341_1 else aI_341_2))
theorem aT_341 (pc : Nat) : sx_iOk prog_14_method_20_code (aS_341 pc) := (sx_ite (p := fun l => sx_iOk prog_14_method_20_code l) (sx_iB_s aJ_341_0) (sx_ite (p := fun l => sx_iOk prog_14_method_20_code l) (sx_iB_s aJ_341_1) (sx_iB_s aJ_341_2)))
def aW_341 : Nat → Option (Instr × Nat) := fun pc => sx_iF (aS_341 pc) pc
theorem aX_341 : ∀ pc i len, aW_341 pc = some (i, len) → decode aM_341.1.2.1 pc = .ok (i, len) := fun pc i len h => sx_iF_s (aT_341 pc) h
def aI_350_0 : sx_IL := [(0, .iload_n 1, 1), (1, .i2l, 1), (2, .lconst 1, 1), (3, .ldc2_w 609, 3), (6, .invokestatic 513, 3), (9, .ifCond .eq 15, 3)]
theorem aJ_350_0 : sx_iB prog_14_method_36_code aI_350_0 = true := by decide +kernel
def aI_350_1 : sx_IL := [(12, .iload_n 2, 1), (13, .ifCond .lt 11, 3), (16, .iload_n 1, 1), (17, .iload_n 2, 1), (18, .invokestatic 640, 3), (21, .goto 4, 3)]
theorem aJ_350_1 : sx_iB prog_14_method_36_code aI_350_1 = true := by decide +kernel
def aI_350_2 : sx_IL := [(24, .iconst (-1), 1), (25, .ireturn, 1)]
theorem aJ_350_2 : sx_iB prog_14_method_36_code aI_350_2 = true := by decide +kernel
def aS_350 (pc : Nat) : sx_IL := (if pc < 12 then aI_350_0 else (if pc < 24 then aI_350_1 else aI_350_2))
theorem aT_350 (pc : Nat) : sx_iOk prog_14_method_36_code (aS_350 pc) := (sx_ite (p := fun l => sx_iOk prog_14_method_36_code l) (sx_iB_s aJ_350_0) (sx_ite (p := fun l => sx_iOk prog_14_method_36_code l) (sx_iB_s aJ_350_1) (sx_iB_s aJ_350_2)))
def aW_350 : Nat → Option (Instr × Nat) := fun pc => sx_iF (aS_350 pc) pc
theorem aX_350 : ∀ pc i len, aW_350 pc = some (i, len) → decode aM_350.1.2.1 pc = .ok (i, len) := fun pc i len h => sx_iF_s (aT_350 pc) h
def aI_351_0 : sx_IL := [(0, .iload_n 0, 1), (1, .iconst 1, 1), (2, .if_icmp .ne 9, 3), (5, .ldc2_w 629, 3), (8, .goto 6, 3), (11, .ldc2_w 631, 3)]
theorem aJ_351_0 : sx_iB prog_14_method_34_code aI_351_0 = true := by decide +kernel
def aI_351_1 : sx_IL := [(14, .iload_n 1, 1), (15, .iload_n 0, 1), (16, .invokestatic 633, 3), (19, .invokestatic 636, 3), (22, .ireturn, 1)]
theorem aJ_351_1 : sx_iB prog_14_method_34_code aI_351_1 = true := by decide +kernel
def aS_351 (pc : Nat) : sx_IL := (if pc < 14 then aI_351_0 else aI_351_1)
theorem aT_351 (pc : Nat) : sx_iOk prog_14_method_34_code (aS_351 pc) := (sx_ite (p := fun l => sx_iOk prog_14_method_34_code l) (sx_iB_s aJ_351_0) (sx_iB_s aJ_351_1))
def aW_351 : Nat → Option (Instr × Nat) := fun pc => sx_iF (aS_351 pc) pc
theorem aX_351 : ∀ pc i len, aW_351 pc = some (i, len) → decode aM_351.1.2.1 pc = .ok (i, len) := fun pc i len h => sx_iF_s (aT_351 pc) h
def aI_352_0 : sx_IL := [(0, .iload_n 0, 1), (1, .iconst 1, 1), (2, .if_icmp .ne 9, 3), (5, .ldc_w 626, 3), (8, .goto 17, 3), (11, .iload_n 0, 1)]
theorem aJ_352_0 : sx_iB prog_14_method_32_code aI_352_0 = true := by decide +kernel
def aI_352_1 : sx_IL := [(12, .iconst 2, 1), (13, .if_icmp .ne 9, 3), (16, .ldc_w 627, 3), (19, .goto 6, 3), (22, .ldc_w 628, 3), (25, .ireturn, 1)]
theorem aJ_352_1 : sx_iB prog_14_method_32_code aI_352_1 = true := by decide +kernel
def aS_352 (pc : Nat) : sx_IL := (if pc < 12 then aI_352_0 else aI_352_1)
theorem aT_352 (pc : Nat) : sx_iOk prog_14_method_32_code (aS_352 pc) := (sx_ite (p := fun l => sx_iOk prog_14_method_32_code l) (sx_iB_s aJ_352_0) (sx_iB_s aJ_352_1))
def aW_352 : Nat → Option (Instr × Nat) := fun pc => sx_iF (aS_352 pc) pc
theorem aX_352 : ∀ pc i len, aW_352 pc = some (i, len) → decode aM_352.1.2.1 pc = .ok (i, len) := fun pc i len h => sx_iF_s (aT_352 pc) h
def aI_353_0 : sx_IL := [(0, .lconst 1, 1), (1, .lstore 4, 2), (3, .bipush 30, 2), (5, .istore 6, 2), (7, .iload 6, 2), (9, .ifCond .lt 43, 3)]
theorem aJ_353_0 : sx_iB prog_14_method_33_code aI_353_0 = true := by decide +kernel
def aI_353_1 : sx_IL := [(12, .lload 4, 2), (14, .lload 4, 2), (16, .lmul, 1), (17, .iload_n 3, 1), (18, .i2l, 1), (19, .lrem, 1)]
theorem aJ_353_1 : sx_iB prog_14_method_33_code aI_353_1 = true := by decide +kernel
def aI_353_2 : sx_IL := [(20, .lstore 4, 2), (22, .iload_n 2, 1), (23, .iload 6, 2), (25, .ishr, 1), (26, .iconst 1, 1), (27, .iand, 1)]
theorem aJ_353_2 : sx_iB prog_14_method_33_code aI_353_2 = true := by decide +kernel
def aI_353_3 : sx_IL := [(28, .iconst 1, 1), (29, .if_icmp .ne 13, 3), (32, .lload 4, 2), (34, .lload_n 0, 1), (35, .lmul, 1), (36, .iload_n 3, 1)]
theorem aJ_353_3 : sx_iB prog_14_method_33_code aI_353_3 = true := by decide +kernel
def aI_353_4 : sx_IL := [(37, .i2l, 1), (38, .lrem, 1), (39, .goto 5, 3), (42, .lload 4, 2), (44, .lstore 4, 2), (46, .iinc 6 (-1), 3)]
theorem aJ_353_4 : sx_iB prog_14_method_33_code aI_353_4 = true := by decide +kernel
def aI_353_5 : sx_IL := [(49, .goto (-42), 3), (52, .lload 4, 2), (54, .l2i, 1), (55, .ireturn, 1)]
theorem aJ_353_5 : sx_iB prog_14_method_33_code aI_353_5 = true := by decide +kernel
def aS_353 (pc : Nat) : sx_IL := (if pc < 28 then (if pc < 12 then aI_353_0 else (if pc < 20 then aI_353_1 else aI_353_2)) else (if pc < 37 then aI_353_3 else (if pc < 49 then aI_353_4 else aI_353_5)))
theorem aT_353 (pc : Nat) : sx_iOk prog_14_method_33_code (aS_353 pc) := (sx_ite (p := fun l => sx_iOk prog_14_method_33_code l) (sx_ite (p := fun l => sx_iOk prog_14_method_33_code l) (sx_iB_s aJ_353_0) (sx_ite (p := fun l => sx_iOk prog_14_method_33_code l) (sx_iB_s aJ_353_1) (sx_iB_s aJ_353_2))) (sx_ite (p := fun l => sx_iOk prog_14_method_33_code l) (sx_iB_s aJ_353_3) (sx_ite (p := fun l => sx_iOk prog_14_method_33_code l) (sx_iB_s aJ_353_4) (sx_iB_s aJ_353_5))))
def aW_353 : Nat → Option (Instr × Nat) := fun pc => sx_iF (aS_353 pc) pc
theorem aX_353 : ∀ pc i len, aW_353 pc = some (i, len) → decode aM_353.1.2.1 pc = .ok (i, len) := fun pc i len h => sx_iF_s (aT_353 pc) h
def aI_354_0 : sx_IL := [(0, .iload_n 1, 1), (1, .i2l, 1), (2, .lconst 1, 1), (3, .ldc2_w 609, 3), (6, .invokestatic 513, 3), (9, .ifCond .eq 16, 3)]
theorem aJ_354_0 : sx_iB prog_14_method_37_code aI_354_0 = true := by decide +kernel
def aI_354_1 : sx_IL := [(12, .iload_n 2, 1), (13, .ifCond .lt 12, 3), (16, .iload_n 1, 1), (17, .iload_n 2, 1), (18, .iload_n 3, 1), (19, .invokestatic 643, 3)]
theorem aJ_354_1 : sx_iB prog_14_method_37_code aI_354_1 = true := by decide +kernel
def aI_354_2 : sx_IL := [(22, .goto 6, 3), (25, .ldc2_w 590, 3), (28, .lreturn, 1)]
theorem aJ_354_2 : sx_iB prog_14_method_37_code aI_354_2 = true := by decide +kernel
def aS_354 (pc : Nat) : sx_IL := (if pc < 12 then aI_354_0 else (if pc < 22 then aI_354_1 else aI_354_2))
theorem aT_354 (pc : Nat) : sx_iOk prog_14_method_37_code (aS_354 pc) := (sx_ite (p := fun l => sx_iOk prog_14_method_37_code l) (sx_iB_s aJ_354_0) (sx_ite (p := fun l => sx_iOk prog_14_method_37_code l) (sx_iB_s aJ_354_1) (sx_iB_s aJ_354_2)))
def aW_354 : Nat → Option (Instr × Nat) := fun pc => sx_iF (aS_354 pc) pc
theorem aX_354 : ∀ pc i len, aW_354 pc = some (i, len) → decode aM_354.1.2.1 pc = .ok (i, len) := fun pc i len h => sx_iF_s (aT_354 pc) h
def aI_355_0 : sx_IL := [(0, .iload_n 0, 1), (1, .invokestatic 633, 3), (4, .istore_n 3, 1), (5, .iload_n 2, 1), (6, .i2l, 1), (7, .ldc2_w 631, 3)]
theorem aJ_355_0 : sx_iB prog_14_method_35_code aI_355_0 = true := by decide +kernel
def aI_355_1 : sx_IL := [(10, .iload_n 3, 1), (11, .iconst 2, 1), (12, .isub, 1), (13, .i2l, 1), (14, .invokestatic 513, 3), (17, .ifCond .ne 5, 3)]
theorem aJ_355_1 : sx_iB prog_14_method_35_code aI_355_1 = true := by decide +kernel
def aI_355_2 : sx_IL := [(20, .lconst 0, 1), (21, .lreturn, 1), (22, .iload_n 2, 1), (23, .i2l, 1), (24, .iload_n 1, 1), (25, .iload_n 3, 1)]
theorem aJ_355_2 : sx_iB prog_14_method_35_code aI_355_2 = true := by decide +kernel
def aI_355_3 : sx_IL := [(26, .invokestatic 636, 3), (29, .istore 4, 2), (31, .iload 4, 2), (33, .i2l, 1), (34, .ldc2_w 631, 3), (37, .iload_n 3, 1)]
theorem aJ_355_3 : sx_iB prog_14_method_35_code aI_355_3 = true := by decide +kernel
def aI_355_4 : sx_IL := [(38, .iconst 2, 1), (39, .isub, 1), (40, .i2l, 1), (41, .invokestatic 513, 3), (44, .ifCond .eq 9, 3), (47, .iload 4, 2)]
theorem aJ_355_4 : sx_iB prog_14_method_35_code aI_355_4 = true := by decide +kernel
def aI_355_5 : sx_IL := [(49, .i2l, 1), (50, .goto 4, 3), (53, .lconst 0, 1), (54, .lreturn, 1)]
theorem aJ_355_5 : sx_iB prog_14_method_35_code aI_355_5 = true := by decide +kernel
def aS_355 (pc : Nat) : sx_IL := (if pc < 26 then (if pc < 10 then aI_355_0 else (if pc < 20 then aI_355_1 else aI_355_2)) else (if pc < 38 then aI_355_3 else (if pc < 49 then aI_355_4 else aI_355_5)))
theorem aT_355 (pc : Nat) : sx_iOk prog_14_method_35_code (aS_355 pc) := (sx_ite (p := fun l => sx_iOk prog_14_method_35_code l) (sx_ite (p := fun l => sx_iOk prog_14_method_35_code l) (sx_iB_s aJ_355_0) (sx_ite (p := fun l => sx_iOk prog_14_method_35_code l) (sx_iB_s aJ_355_1) (sx_iB_s aJ_355_2))) (sx_ite (p := fun l => sx_iOk prog_14_method_35_code l) (sx_iB_s aJ_355_3) (sx_ite (p := fun l => sx_iOk prog_14_method_35_code l) (sx_iB_s aJ_355_4) (sx_iB_s aJ_355_5))))
def aW_355 : Nat → Option (Instr × Nat) := fun pc => sx_iF (aS_355 pc) pc
theorem aX_355 : ∀ pc i len, aW_355 pc = some (i, len) → decode aM_355.1.2.1 pc = .ok (i, len) := fun pc i len h => sx_iF_s (aT_355 pc) h
def aI_356_0 : sx_IL := [(0, .iload_n 1, 1), (1, .invokestatic 652, 3), (4, .ifCond .eq 10, 3), (7, .iload_n 1, 1), (8, .invokestatic 656, 3), (11, .goto 4, 3)]
theorem aJ_356_0 : sx_iB prog_14_method_40_code aI_356_0 = true := by decide +kernel
def aI_356_1 : sx_IL := [(14, .iconst (-1), 1), (15, .ireturn, 1)]
theorem aJ_356_1 : sx_iB prog_14_method_40_code aI_356_1 = true := by decide +kernel
def aS_356 (pc : Nat) : sx_IL := (if pc < 14 then aI_356_0 else aI_356_1)
theorem aT_356 (pc : Nat) : sx_iOk prog_14_method_40_code (aS_356 pc) := (sx_ite (p := fun l => sx_iOk prog_14_method_40_code l) (sx_iB_s aJ_356_0) (sx_iB_s aJ_356_1))
def aW_356 : Nat → Option (Instr × Nat) := fun pc => sx_iF (aS_356 pc) pc
theorem aX_356 : ∀ pc i len, aW_356 pc = some (i, len) → decode aM_356.1.2.1 pc = .ok (i, len) := fun pc i len h => sx_iF_s (aT_356 pc) h
def aI_357_0 : sx_IL := [(0, .iload_n 0, 1), (1, .i2l, 1), (2, .lconst 1, 1), (3, .ldc2_w 647, 3), (6, .invokestatic 513, 3), (9, .ireturn, 1)]
theorem aJ_357_0 : sx_iB prog_14_method_38_code aI_357_0 = true := by decide +kernel
def aS_357 (pc : Nat) : sx_IL := aI_357_0
theorem aT_357 (pc : Nat) : sx_iOk prog_14_method_38_code (aS_357 pc) := (sx_iB_s aJ_357_0)
def aW_357 : Nat → Option (Instr × Nat) := fun pc => sx_iF (aS_357 pc) pc
theorem aX_357 : ∀ pc i len, aW_357 pc = some (i, len) → decode aM_357.1.2.1 pc = .ok (i, len) := fun pc i len h => sx_iF_s (aT_357 pc) h
def aI_358_0 : sx_IL := [(0, .ldc2_w 649, 3), (3, .iload_n 0, 1), (4, .ldc_w 651, 3), (7, .invokestatic 636, 3), (10, .ireturn, 1)]
theorem aJ_358_0 : sx_iB prog_14_method_39_code aI_358_0 = true := by decide +kernel
def aS_358 (pc : Nat) : sx_IL := aI_358_0
theorem aT_358 (pc : Nat) : sx_iOk prog_14_method_39_code (aS_358 pc) := (sx_iB_s aJ_358_0)
def aW_358 : Nat → Option (Instr × Nat) := fun pc => sx_iF (aS_358 pc) pc
theorem aX_358 : ∀ pc i len, aW_358 pc = some (i, len) → decode aM_358.1.2.1 pc = .ok (i, len) := fun pc i len h => sx_iF_s (aT_358 pc) h
