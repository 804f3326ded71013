/-! instructions -/
def aI_320_0 : sx_IL := [(0, .iload_n 1, 1), (1, .i2l, 1), (2, .lconst 1, 1), (3, .ldc2_w 511, 3), (6, .invokestatic 513, 3), (9, .ifCond .ne 5, 3)]
theorem aJ_320_0 : sx_iB prog_14_method_3_code aI_320_0 = true := by decide +kernel
def aI_320_1 : sx_IL := [(12, .iconst (-1), 1), (13, .ireturn, 1), (14, .aload_n 0, 1), (15, .getfield 517, 3), (18, .iload_n 1, 1), (19, .iadd, 1)]
theorem aJ_320_1 : sx_iB prog_14_method_3_code aI_320_1 = true := by decide +kernel
def aI_320_2 : sx_IL := [(20, .sipush 800, 3), (23, .if_icmp .le 6, 3), (26, .bipush (-3), 2), (28, .ireturn, 1), (29, .iload_n 1, 1), (30, .iconst 1, 1)]
theorem aJ_320_2 : sx_iB prog_14_method_3_code aI_320_2 = true := by decide +kernel
def aI_320_3 : sx_IL := [(31, .isub, 1), (32, .istore 4, 2), (34, .iload 4, 2), (36, .ifCond .lt 40, 3), (39, .aload_n 0, 1), (40, .getfield 7, 3)]
theorem aJ_320_3 : sx_iB prog_14_method_3_code aI_320_3 = true := by decide +kernel
def aI_320_4 : sx_IL := [(43, .aload_n 0, 1), (44, .getfield 517, 3), (47, .lload_n 2, 1), (48, .bipush 8, 2), (50, .iload 4, 2), (52, .imul, 1)]
theorem aJ_320_4 : sx_iB prog_14_method_3_code aI_320_4 = true := by decide +kernel
def aI_320_5 : sx_IL := [(53, .lushr, 1), (54, .l2i, 1), (55, .sipush 255, 3), (58, .iand, 1), (59, .iastore, 1), (60, .aload_n 0, 1)]
theorem aJ_320_5 : sx_iB prog_14_method_3_code aI_320_5 = true := by decide +kernel
def aI_320_6 : sx_IL := [(61, .dup, 1), (62, .getfield 517, 3), (65, .iconst 1, 1), (66, .iadd, 1), (67, .putfield 517, 3), (70, .iinc 4 (-1), 3)]
theorem aJ_320_6 : sx_iB prog_14_method_3_code aI_320_6 = true := by decide +kernel
def aI_320_7 : sx_IL := [(73, .goto (-39), 3), (76, .aload_n 0, 1), (77, .getfield 517, 3), (80, .ireturn, 1)]
theorem aJ_320_7 : sx_iB prog_14_method_3_code aI_320_7 = true := by decide +kernel
def aS_320 (pc : Nat) : sx_IL := (if pc < 43 then (if pc < 20 then (if pc < 12 then aI_320_0 else aI_320_1) else (if pc < 31 then aI_320_2 else aI_320_3)) else (if pc < 61 then (if pc < 53 then aI_320_4 else aI_320_5) else (if pc < 73 then aI_320_6 else aI_320_7)))
theorem aT_320 (pc : Nat) : sx_iOk prog_14_method_3_code (aS_320 pc) := (sx_ite (p := fun l => sx_iOk prog_14_method_3_code l) (sx_ite (p := fun l => sx_iOk prog_14_method_3_code l) (sx_ite (p := fun l => sx_iOk prog_14_method_3_code l) (sx_iB_s aJ_320_0) (sx_iB_s aJ_320_1)) (sx_ite (p := fun l => sx_iOk prog_14_method_3_code l) (sx_iB_s aJ_320_2) (sx_iB_s aJ_320_3))) (sx_ite (p := fun l => sx_iOk prog_14_method_3_code l) (sx_ite (p := fun l => sx_iOk prog_14_method_3_code l) (sx_iB_s aJ_320_4) (sx_iB_s aJ_320_5)) (sx_ite (p := fun l => sx_iOk prog_14_method_3_code l) (sx_iB_s aJ_320_6) (sx_iB_s aJ_320_7))))
def aW_320 : Nat → Option (Instr × Nat) := fun pc => sx_iF (aS_320 pc) pc
theorem aX_320 : ∀ pc i len, aW_320 pc = some (i, len) → decode aM_320.1.2.1 pc = .ok (i, len) := fun pc i len h => sx_iF_s (aT_320 pc) h
def aI_321_0 : sx_IL := [(0, .lload_n 0, 1), (1, .lload_n 2, 1), (2, .lcmp, 1), (3, .ifCond .lt 14, 3), (6, .lload_n 0, 1), (7, .lload 4, 2)]
theorem aJ_321_0 : sx_iB prog_14_method_2_code aI_321_0 = true := by decide +kernel
def aI_321_1 : sx_IL := [(9, .lcmp, 1), (10, .ifCond .gt 7, 3), (13, .iconst 1, 1), (14, .goto 4, 3), (17, .iconst 0, 1), (18, .ireturn, 1)]
theorem aJ_321_1 : sx_iB prog_14_method_2_code aI_321_1 = true := by decide +kernel
def aS_321 (pc : Nat) : sx_IL := (if pc < 9 then aI_321_0 else aI_321_1)
theorem aT_321 (pc : Nat) : sx_iOk prog_14_method_2_code (aS_321 pc) := (sx_ite (p := fun l => sx_iOk prog_14_method_2_code l) (sx_iB_s aJ_321_0) (sx_iB_s aJ_321_1))
def aW_321 : Nat → Option (Instr × Nat) := fun pc => sx_iF (aS_321 pc) pc
theorem aX_321 : ∀ pc i len, aW_321 pc = some (i, len) → decode aM_321.1.2.1 pc = .ok (i, len) := fun pc i len h => sx_iF_s (aT_321 pc) h
def aI_322_0 : sx_IL := [(0, .iload_n 1, 1), (1, .i2l, 1), (2, .lconst 0, 1), (3, .aload_n 0, 1), (4, .getfield 517, 3), (7, .i2l, 1)]
theorem aJ_322_0 : sx_iB prog_14_method_4_code aI_322_0 = true := by decide +kernel
def aI_322_1 : sx_IL := [(8, .invokestatic 513, 3), (11, .ifCond .ne 5, 3), (14, .iconst (-1), 1), (15, .ireturn, 1), (16, .aload_n 0, 1), (17, .getfield 517, 3)]
theorem aJ_322_1 : sx_iB prog_14_method_4_code aI_322_1 = true := by decide +kernel
def aI_322_2 : sx_IL := [(20, .iload_n 1, 1), (21, .isub, 1), (22, .istore_n 2, 1), (23, .aload_n 0, 1), (24, .iload_n 1, 1), (25, .putfield 517, 3)]
theorem aJ_322_2 : sx_iB prog_14_method_4_code aI_322_2 = true := by decide +kernel
def aI_322_3 : sx_IL := [(28, .iload_n 2, 1), (29, .ireturn, 1)]
theorem aJ_322_3 : sx_iB prog_14_method_4_code aI_322_3 = true := by decide +kernel
def aS_322 (pc : Nat) : sx_IL := (if pc < 20 then (if pc < 8 then aI_322_0 else aI_322_1) else (if pc < 28 then aI_322_2 else aI_322_3))
theorem aT_322 (pc : Nat) : sx_iOk prog_14_method_4_code (aS_322 pc) := (sx_ite (p := fun l => sx_iOk prog_14_method_4_code l) (sx_ite (p := fun l => sx_iOk prog_14_method_4_code l) (sx_iB_s aJ_322_0) (sx_iB_s aJ_322_1)) (sx_ite (p := fun l => sx_iOk prog_14_method_4_code l) (sx_iB_s aJ_322_2) (sx_iB_s aJ_322_3)))
def aW_322 : Nat → Option (Instr × Nat) := fun pc => sx_iF (aS_322 pc) pc
theorem aX_322 : ∀ pc i len, aW_322 pc = some (i, len) → decode aM_322.1.2.1 pc = .ok (i, len) := fun pc i len h => sx_iF_s (aT_322 pc) h
def aI_323_0 : sx_IL := [(0, .iload_n 1, 1), (1, .iconst (-1), 1), (2, .if_icmp .ne 10, 3), (5, .aload_n 0, 1), (6, .getfield 520, 3), (9, .goto 29, 3)]
theorem aJ_323_0 : sx_iB prog_14_method_5_code aI_323_0 = true := by decide +kernel
def aI_323_1 : sx_IL := [(12, .iload_n 1, 1), (13, .i2l, 1), (14, .lconst 0, 1), (15, .aload_n 0, 1), (16, .getfield 520, 3), (19, .iconst 1, 1)]
theorem aJ_323_1 : sx_iB prog_14_method_5_code aI_323_1 = true := by decide +kernel
def aI_323_2 : sx_IL := [(20, .isub, 1), (21, .i2l, 1), (22, .invokestatic 513, 3), (25, .ifCond .eq 12, 3), (28, .aload_n 0, 1), (29, .getfield 13, 3)]
theorem aJ_323_2 : sx_iB prog_14_method_5_code aI_323_2 = true := by decide +kernel
def aI_323_3 : sx_IL := [(32, .iload_n 1, 1), (33, .iaload, 1), (34, .goto 4, 3), (37, .iconst (-1), 1), (38, .ireturn, 1)]
theorem aJ_323_3 : sx_iB prog_14_method_5_code aI_323_3 = true := by decide +kernel
def aS_323 (pc : Nat) : sx_IL := (if pc < 20 then (if pc < 12 then aI_323_0 else aI_323_1) else (if pc < 32 then aI_323_2 else aI_323_3))
theorem aT_323 (pc : Nat) : sx_iOk prog_14_method_5_code (aS_323 pc) := (sx_ite (p := fun l => sx_iOk prog_14_method_5_code l) (sx_ite (p := fun l => sx_iOk prog_14_method_5_code l) (sx_iB_s aJ_323_0) (sx_iB_s aJ_323_1)) (sx_ite (p := fun l => sx_iOk prog_14_method_5_code l) (sx_iB_s aJ_323_2) (sx_iB_s aJ_323_3)))
def aW_323 : Nat → Option (Instr × Nat) := fun pc => sx_iF (aS_323 pc) pc
theorem aX_323 : ∀ pc i len, aW_323 pc = some (i, len) → decode aM_323.1.2.1 pc = .ok (i, len) := fun pc i len h => sx_iF_s (aT_323 pc) h
def aI_324_0 : sx_IL := [(0, .aload_n 0, 1), (1, .getfield 517, 3), (4, .aload_n 0, 1), (5, .getfield 520, 3), (8, .iadd, 1), (9, .sipush 800, 3)]
theorem aJ_324_0 : sx_iB prog_14_method_6_code aI_324_0 = true := by decide +kernel
def aI_324_1 : sx_IL := [(12, .if_icmp .le 6, 3), (15, .bipush (-3), 2), (17, .ireturn, 1), (18, .iconst 0, 1), (19, .istore_n 1, 1), (20, .iload_n 1, 1)]
theorem aJ_324_1 : sx_iB prog_14_method_6_code aI_324_1 = true := by decide +kernel
def aI_324_2 : sx_IL := [(21, .aload_n 0, 1), (22, .getfield 520, 3), (25, .if_icmp .ge 26, 3), (28, .aload_n 0, 1), (29, .getfield 7, 3), (32, .aload_n 0, 1)]
theorem aJ_324_2 : sx_iB prog_14_method_6_code aI_324_2 = true := by decide +kernel
def aI_324_3 : sx_IL := [(33, .getfield 517, 3), (36, .iload_n 1, 1), (37, .iadd, 1), (38, .aload_n 0, 1), (39, .getfield 13, 3), (42, .iload_n 1, 1)]
theorem aJ_324_3 : sx_iB prog_14_method_6_code aI_324_3 = true := by decide +kernel
def aI_324_4 : sx_IL := [(43, .iaload, 1), (44, .iastore, 1), (45, .iinc 1 1, 3), (48, .goto (-28), 3), (51, .aload_n 0, 1), (52, .dup, 1)]
theorem aJ_324_4 : sx_iB prog_14_method_6_code aI_324_4 = true := by decide +kernel
def aI_324_5 : sx_IL := [(53, .getfield 517, 3), (56, .aload_n 0, 1), (57, .getfield 520, 3), (60, .iadd, 1), (61, .putfield 517, 3), (64, .aload_n 0, 1)]
theorem aJ_324_5 : sx_iB prog_14_method_6_code aI_324_5 = true := by decide +kernel
def aI_324_6 : sx_IL := [(65, .getfield 517, 3), (68, .ireturn, 1)]
theorem aJ_324_6 : sx_iB prog_14_method_6_code aI_324_6 = true := by decide +kernel
def aS_324 (pc : Nat) : sx_IL := (if pc < 33 then (if pc < 12 then aI_324_0 else (if pc < 21 then aI_324_1 else aI_324_2)) else (if pc < 53 then (if pc < 43 then aI_324_3 else aI_324_4) else (if pc < 65 then aI_324_5 else aI_324_6)))
theorem aT_324 (pc : Nat) : sx_iOk prog_14_method_6_code (aS_324 pc) := (sx_ite (p := fun l => sx_iOk prog_14_method_6_code l) (sx_ite (p := fun l => sx_iOk prog_14_method_6_code l) (sx_iB_s aJ_324_0) (sx_ite (p := fun l => sx_iOk prog_14_method_6_code l) (sx_iB_s aJ_324_1) (sx_iB_s aJ_324_2))) (sx_ite (p := fun l => sx_iOk prog_14_method_6_code l) (sx_ite (p := fun l => sx_iOk prog_14_method_6_code l) (sx_iB_s aJ_324_3) (sx_iB_s aJ_324_4)) (sx_ite (p := fun l => sx_iOk prog_14_method_6_code l) (sx_iB_s aJ_324_5) (sx_iB_s aJ_324_6))))
def aW_324 : Nat → Option (Instr × Nat) := fun pc => sx_iF (aS_324 pc) pc
theorem aX_324 : ∀ pc i len, aW_324 pc = some (i, len) → decode aM_324.1.2.1 pc = .ok (i, len) := fun pc i len h => sx_iF_s (aT_324 pc) h
def aI_325_0 : sx_IL := [(0, .iload_n 1, 1), (1, .i2l, 1), (2, .lconst 0, 1), (3, .ldc2_w 523, 3), (6, .invokestatic 513, 3), (9, .ifCond .ne 5, 3)]
theorem aJ_325_0 : sx_iB prog_14_method_7_code aI_325_0 = true := by decide +kernel
def aI_325_1 : sx_IL := [(12, .iconst (-1), 1), (13, .ireturn, 1), (14, .aload_n 0, 1), (15, .getfield 507, 3), (18, .iload_n 1, 1), (19, .iadd, 1)]
theorem aJ_325_1 : sx_iB prog_14_method_7_code aI_325_1 = true := by decide +kernel
def aI_325_2 : sx_IL := [(20, .ldc_w 525, 3), (23, .if_icmp .le 6, 3), (26, .bipush (-2), 2), (28, .ireturn, 1), (29, .aload_n 0, 1), (30, .dup, 1)]
theorem aJ_325_2 : sx_iB prog_14_method_7_code aI_325_2 = true := by decide +kernel
def aI_325_3 : sx_IL := [(31, .getfield 507, 3), (34, .iload_n 1, 1), (35, .iadd, 1), (36, .putfield 507, 3), (39, .aload_n 0, 1), (40, .getfield 507, 3)]
theorem aJ_325_3 : sx_iB prog_14_method_7_code aI_325_3 = true := by decide +kernel
def aI_325_4 : sx_IL := [(43, .ireturn, 1)]
theorem aJ_325_4 : sx_iB prog_14_method_7_code aI_325_4 = true := by decide +kernel
def aS_325 (pc : Nat) : sx_IL := (if pc < 20 then (if pc < 12 then aI_325_0 else aI_325_1) else (if pc < 31 then aI_325_2 else (if pc < 43 then aI_325_3 else aI_325_4)))
theorem aT_325 (pc : Nat) : sx_iOk prog_14_method_7_code (aS_325 pc) := (sx_ite (p := fun l => sx_iOk prog_14_method_7_code l) (sx_ite (p := fun l => sx_iOk prog_14_method_7_code l) (sx_iB_s aJ_325_0) (sx_iB_s aJ_325_1)) (sx_ite (p := fun l => sx_iOk prog_14_method_7_code l) (sx_iB_s aJ_325_2) (sx_ite (p := fun l => sx_iOk prog_14_method_7_code l) (sx_iB_s aJ_325_3) (sx_iB_s aJ_325_4))))
def aW_325 : Nat → Option (Instr × Nat) := fun pc => sx_iF (aS_325 pc) pc
theorem aX_325 : ∀ pc i len, aW_325 pc = some (i, len) → decode aM_325.1.2.1 pc = .ok (i, len) := fun pc i len h => sx_iF_s (aT_325 pc) h
def aI_326_0 : sx_IL := [(0, .iload_n 1, 1), (1, .i2l, 1), (2, .lconst 0, 1), (3, .lconst 1, 1), (4, .invokestatic 513, 3), (7, .ifCond .ne 7, 3)]
theorem aJ_326_0 : sx_iB prog_14_method_22_code aI_326_0 = true := by decide +kernel
def aI_326_1 : sx_IL := [(10, .ldc2_w 590, 3), (13, .lreturn, 1), (14, .aload_n 0, 1), (15, .iload_n 1, 1), (16, .aload_n 0, 1), (17, .getfield 7, 3)]
theorem aJ_326_1 : sx_iB prog_14_method_22_code aI_326_1 = true := by decide +kernel
def aI_326_2 : sx_IL := [(20, .iconst 0, 1), (21, .aload_n 0, 1), (22, .getfield 517, 3), (25, .invokevirtual 592, 3), (28, .lstore_n 2, 1), (29, .aload_n 0, 1)]
theorem aJ_326_2 : sx_iB prog_14_method_22_code aI_326_2 = true := by decide +kernel
def aI_326_3 : sx_IL := [(30, .iconst 0, 1), (31, .putfield 517, 3), (34, .lload_n 2, 1), (35, .lreturn, 1)]
theorem aJ_326_3 : sx_iB prog_14_method_22_code aI_326_3 = true := by decide +kernel
def aS_326 (pc : Nat) : sx_IL := (if pc < 20 then (if pc < 10 then aI_326_0 else aI_326_1) else (if pc < 30 then aI_326_2 else aI_326_3))
theorem aT_326 (pc : Nat) : sx_iOk prog_14_method_22_code (aS_326 pc) := (sx_ite (p := fun l => sx_iOk prog_14_method_22_code l) (sx_ite (p := fun l => sx_iOk prog_14_method_22_code l) (sx_iB_s aJ_326_0) (sx_iB_s aJ_326_1)) (sx_ite (p := fun l => sx_iOk prog_14_method_22_code l) (sx_iB_s aJ_326_2) (sx_iB_s aJ_326_3)))
def aW_326 : Nat → Option (Instr × Nat) := fun pc => sx_iF (aS_326 pc) pc
theorem aX_326 : ∀ pc i len, aW_326 pc = some (i, len) → decode aM_326.1.2.1 pc = .ok (i, len) := fun pc i len h => sx_iF_s (aT_326 pc) h
def aI_327_0 : sx_IL := [(0, .aload_n 0, 1), (1, .iload_n 1, 1), (2, .invokevirtual 568, 3), (5, .aload_n 0, 1), (6, .aload_n 2, 1), (7, .iload_n 3, 1)]
theorem aJ_327_0 : sx_iB prog_14_method_21_code aI_327_0 = true := by decide +kernel
def aI_327_1 : sx_IL := [(8, .iload 4, 2), (10, .invokevirtual 586, 3), (13, .aload_n 0, 1), (14, .invokevirtual 571, 3), (17, .lreturn, 1)]
theorem aJ_327_1 : sx_iB prog_14_method_21_code aI_327_1 = true := by decide +kernel
def aS_327 (pc : Nat) : sx_IL := (if pc < 8 then aI_327_0 else aI_327_1)
theorem aT_327 (pc : Nat) : sx_iOk prog_14_method_21_code (aS_327 pc) := (sx_ite (p := fun l => sx_iOk prog_14_method_21_code l) (sx_iB_s aJ_327_0) (sx_iB_s aJ_327_1))
def aW_327 : Nat → Option (Instr × Nat) := fun pc => sx_iF (aS_327 pc) pc
theorem aX_327 : ∀ pc i len, aW_327 pc = some (i, len) → decode aM_327.1.2.1 pc = .ok (i, len) := fun pc i len h => sx_iF_s (aT_327 pc) h
def aI_328_0 : sx_IL := [(0, .aload_n 0, 1), (1, .iconst 1, 1), (2, .iload_n 1, 1), (3, .iadd, 1), (4, .putfield 526, 3), (7, .aload_n 0, 1)]
theorem aJ_328_0 : sx_iB prog_14_method_11_code aI_328_0 = true := by decide +kernel
def aI_328_1 : sx_IL := [(8, .iconst 2, 1), (9, .iload_n 1, 1), (10, .iadd, 1), (11, .putfield 529, 3), (14, .aload_n 0, 1), (15, .iconst 3, 1)]
theorem aJ_328_1 : sx_iB prog_14_method_11_code aI_328_1 = true := by decide +kernel
def aI_328_2 : sx_IL := [(16, .iload_n 1, 1), (17, .iadd, 1), (18, .putfield 539, 3), (21, .aload_n 0, 1), (22, .iconst 4, 1), (23, .iload_n 1, 1)]
theorem aJ_328_2 : sx_iB prog_14_method_11_code aI_328_2 = true := by decide +kernel
def aI_328_3 : sx_IL := [(24, .iadd, 1), (25, .putfield 532, 3), (28, .aload_n 0, 1), (29, .iconst 0, 1), (30, .putfield 544, 3), (33, .aload_n 0, 1)]
theorem aJ_328_3 : sx_iB prog_14_method_11_code aI_328_3 = true := by decide +kernel
def aI_328_4 : sx_IL := [(34, .lconst 0, 1), (35, .putfield 547, 3), (38, .aload_n 0, 1), (39, .iconst 0, 1), (40, .putfield 551, 3), (43, .return_, 1)]
theorem aJ_328_4 : sx_iB prog_14_method_11_code aI_328_4 = true := by decide +kernel
def aS_328 (pc : Nat) : sx_IL := (if pc < 16 then (if pc < 8 then aI_328_0 else aI_328_1) else (if pc < 24 then aI_328_2 else (if pc < 34 then aI_328_3 else aI_328_4)))
theorem aT_328 (pc : Nat) : sx_iOk prog_14_method_11_code (aS_328 pc) := (sx_ite (p := fun l => sx_iOk prog_14_method_11_code l) (sx_ite (p := fun l => sx_iOk prog_14_method_11_code l) (sx_iB_s aJ_328_0) (sx_iB_s aJ_328_1)) (sx_ite (p := fun l => sx_iOk prog_14_method_11_code l) (sx_iB_s aJ_328_2) (sx_ite (p := fun l => sx_iOk prog_14_method_11_code l) (sx_iB_s aJ_328_3) (sx_iB_s aJ_328_4))))
def aW_328 : Nat → Option (Instr × Nat) := fun pc => sx_iF (aS_328 pc) pc
theorem aX_328 : ∀ pc i len, aW_328 pc = some (i, len) → decode aM_328.1.2.1 pc = .ok (i, len) := fun pc i len h => sx_iF_s (aT_328 pc) h
def aI_329_0 : sx_IL := [(0, .iconst 0, 1), (1, .istore 4, 2), (3, .iload 4, 2), (5, .iload_n 3, 1), (6, .if_icmp .ge 19, 3), (9, .aload_n 0, 1)]
theorem aJ_329_0 : sx_iB prog_14_method_14_code aI_329_0 = true := by decide +kernel
def aI_329_1 : sx_IL := [(10, .aload_n 1, 1), (11, .iload_n 2, 1), (12, .iload 4, 2), (14, .iadd, 1), (15, .iaload, 1), (16, .invokevirtual 561, 3)]
theorem aJ_329_1 : sx_iB prog_14_method_14_code aI_329_1 = true := by decide +kernel
def aI_329_2 : sx_IL := [(19, .iinc 4 1, 3), (22, .goto (-19), 3), (25, .return_, 1)]
theorem aJ_329_2 : sx_iB prog_14_method_14_code aI_329_2 = true := by decide +kernel
def aS_329 (pc : Nat) : sx_IL := (if pc < 10 then aI_329_0 else (if pc < 19 then aI_329_1 else aI_329_2))
theorem aT_329 (pc : Nat) : sx_iOk prog_14_method_14_code (aS_329 pc) := (sx_ite (p := fun l => sx_iOk prog_14_method_14_code l) (sx_iB_s aJ_329_0) (sx_ite (p := fun l => sx_iOk prog_14_method_14_code l) (sx_iB_s aJ_329_1) (sx_iB_s aJ_329_2)))
def aW_329 : Nat → Option (Instr × Nat) := fun pc => sx_iF (aS_329 pc) pc
theorem aX_329 : ∀ pc i len, aW_329 pc = some (i, len) → decode aM_329.1.2.1 pc = .ok (i, len) := fun pc i len h => sx_iF_s (aT_329 pc) h
def aI_330_0 : sx_IL := [(0, .aload_n 0, 1), (1, .iload_n 1, 1), (2, .invokevirtual 554, 3), (5, .aload_n 0, 1), (6, .dup, 1), (7, .getfield 551, 3)]
theorem aJ_330_0 : sx_iB prog_14_method_12_code aI_330_0 = true := by decide +kernel
def aI_330_1 : sx_IL := [(10, .iconst 1, 1), (11, .iadd, 1), (12, .putfield 551, 3), (15, .return_, 1)]
theorem aJ_330_1 : sx_iB prog_14_method_12_code aI_330_1 = true := by decide +kernel
def aS_330 (pc : Nat) : sx_IL := (if pc < 10 then aI_330_0 else aI_330_1)
theorem aT_330 (pc : Nat) : sx_iOk prog_14_method_12_code (aS_330 pc) := (sx_ite (p := fun l => sx_iOk prog_14_method_12_code l) (sx_iB_s aJ_330_0) (sx_iB_s aJ_330_1))
def aW_330 : Nat → Option (Instr × Nat) := fun pc => sx_iF (aS_330 pc) pc
theorem aX_330 : ∀ pc i len, aW_330 pc = some (i, len) → decode aM_330.1.2.1 pc = .ok (i, len) := fun pc i len h => sx_iF_s (aT_330 pc) h
def aI_331_0 : sx_IL := [(0, .aload_n 0, 1), (1, .aload_n 0, 1), (2, .getfield 547, 3), (5, .bipush 8, 2), (7, .lshl, 1), (8, .iload_n 1, 1)]
theorem aJ_331_0 : sx_iB prog_14_method_13_code aI_331_0 = true := by decide +kernel
def aI_331_1 : sx_IL := [(9, .i2l, 1), (10, .lor, 1), (11, .putfield 547, 3), (14, .aload_n 0, 1), (15, .dup, 1), (16, .getfield 544, 3)]
theorem aJ_331_1 : sx_iB prog_14_method_13_code aI_331_1 = true := by decide +kernel
def aI_331_2 : sx_IL := [(19, .iconst 1, 1), (20, .iadd, 1), (21, .putfield 544, 3), (24, .aload_n 0, 1), (25, .getfield 544, 3), (28, .bipush 8, 2)]
theorem aJ_331_2 : sx_iB prog_14_method_13_code aI_331_2 = true := by decide +kernel
def aI_331_3 : sx_IL := [(30, .if_icmp .ne 48, 3), (33, .aload_n 0, 1), (34, .dup, 1), (35, .getfield 526, 3), (38, .aload_n 0, 1), (39, .getfield 547, 3)]
theorem aJ_331_3 : sx_iB prog_14_method_13_code aI_331_3 = true := by decide +kernel
def aI_331_4 : sx_IL := [(42, .bipush 32, 2), (44, .lushr, 1), (45, .l2i, 1), (46, .ixor, 1), (47, .putfield 526, 3), (50, .aload_n 0, 1)]
theorem aJ_331_4 : sx_iB prog_14_method_13_code aI_331_4 = true := by decide +kernel
def aI_331_5 : sx_IL := [(51, .dup, 1), (52, .getfield 529, 3), (55, .aload_n 0, 1), (56, .getfield 547, 3), (59, .l2i, 1), (60, .ixor, 1)]
theorem aJ_331_5 : sx_iB prog_14_method_13_code aI_331_5 = true := by decide +kernel
def aI_331_6 : sx_IL := [(61, .putfield 529, 3), (64, .aload_n 0, 1), (65, .invokevirtual 558, 3), (68, .aload_n 0, 1), (69, .iconst 0, 1), (70, .putfield 544, 3)]
theorem aJ_331_6 : sx_iB prog_14_method_13_code aI_331_6 = true := by decide +kernel
def aI_331_7 : sx_IL := [(73, .aload_n 0, 1), (74, .lconst 0, 1), (75, .putfield 547, 3), (78, .return_, 1)]
theorem aJ_331_7 : sx_iB prog_14_method_13_code aI_331_7 = true := by decide +kernel
def aS_331 (pc : Nat) : sx_IL := (if pc < 42 then (if pc < 19 then (if pc < 9 then aI_331_0 else aI_331_1) else (if pc < 30 then aI_331_2 else aI_331_3)) else (if pc < 61 then (if pc < 51 then aI_331_4 else aI_331_5) else (if pc < 73 then aI_331_6 else aI_331_7)))
theorem aT_331 (pc : Nat) : sx_iOk prog_14_method_13_code (aS_331 pc) := (sx_ite (p := fun l => sx_iOk prog_14_method_13_code l) (sx_ite (p := fun l => sx_iOk prog_14_method_13_code l) (sx_ite (p := fun l => sx_iOk prog_14_method_13_code l) (sx_iB_s aJ_331_0) (sx_iB_s aJ_331_1)) (sx_ite (p := fun l => sx_iOk prog_14_method_13_code l) (sx_iB_s aJ_331_2) (sx_iB_s aJ_331_3))) (sx_ite (p := fun l => sx_iOk prog_14_method_13_code l) (sx_ite (p := fun l => sx_iOk prog_14_method_13_code l) (sx_iB_s aJ_331_4) (sx_iB_s aJ_331_5)) (sx_ite (p := fun l => sx_iOk prog_14_method_13_code l) (sx_iB_s aJ_331_6) (sx_iB_s aJ_331_7))))
def aW_331 : Nat → Option (Instr × Nat) := fun pc => sx_iF (aS_331 pc) pc
theorem aX_331 : ∀ pc i len, aW_331 pc = some (i, len) → decode aM_331.1.2.1 pc = .ok (i, len) := fun pc i len h => sx_iF_s (aT_331 pc) h
def aI_332_0 : sx_IL := [(0, .iconst 1, 1), (1, .istore_n 1, 1), (2, .iload_n 1, 1), (3, .bipush 8, 2), (5, .if_icmp .gt 143, 3), (8, .aload_n 0, 1)]
theorem aJ_332_0 : sx_iB prog_14_method_9_code aI_332_0 = true := by decide +kernel
def aI_332_1 : sx_IL := [(9, .dup, 1), (10, .getfield 526, 3), (13, .aload_n 0, 1), (14, .getfield 529, 3), (17, .iadd, 1), (18, .putfield 526, 3)]
theorem aJ_332_1 : sx_iB prog_14_method_9_code aI_332_1 = true := by decide +kernel
def aI_332_2 : sx_IL := [(21, .aload_n 0, 1), (22, .aload_n 0, 1), (23, .getfield 532, 3), (26, .aload_n 0, 1), (27, .getfield 526, 3), (30, .ixor, 1)]
theorem aJ_332_2 : sx_iB prog_14_method_9_code aI_332_2 = true := by decide +kernel
def aI_332_3 : sx_IL := [(31, .bipush 16, 2), (33, .invokestatic 535, 3), (36, .putfield 532, 3), (39, .aload_n 0, 1), (40, .dup, 1), (41, .getfield 539, 3)]
theorem aJ_332_3 : sx_iB prog_14_method_9_code aI_332_3 = true := by decide +kernel
def aI_332_4 : sx_IL := [(44, .aload_n 0, 1), (45, .getfield 532, 3), (48, .iadd, 1), (49, .putfield 539, 3), (52, .aload_n 0, 1), (53, .aload_n 0, 1)]
theorem aJ_332_4 : sx_iB prog_14_method_9_code aI_332_4 = true := by decide +kernel
def aI_332_5 : sx_IL := [(54, .getfield 529, 3), (57, .aload_n 0, 1), (58, .getfield 539, 3), (61, .ixor, 1), (62, .bipush 12, 2), (64, .invokestatic 535, 3)]
theorem aJ_332_5 : sx_iB prog_14_method_9_code aI_332_5 = true := by decide +kernel
def aI_332_6 : sx_IL := [(67, .putfield 529, 3), (70, .aload_n 0, 1), (71, .dup, 1), (72, .getfield 526, 3), (75, .aload_n 0, 1), (76, .getfield 529, 3)]
theorem aJ_332_6 : sx_iB prog_14_method_9_code aI_332_6 = true := by decide +kernel
def aI_332_7 : sx_IL := [(79, .iadd, 1), (80, .putfield 526, 3), (83, .aload_n 0, 1), (84, .aload_n 0, 1), (85, .getfield 532, 3), (88, .aload_n 0, 1)]
theorem aJ_332_7 : sx_iB prog_14_method_9_code aI_332_7 = true := by decide +kernel
def aI_332_8 : sx_IL := [(89, .getfield 526, 3), (92, .ixor, 1), (93, .bipush 8, 2), (95, .invokestatic 535, 3), (98, .putfield 532, 3), (101, .aload_n 0, 1)]
theorem aJ_332_8 : sx_iB prog_14_method_9_code aI_332_8 = true := by decide +kernel
def aI_332_9 : sx_IL := [(102, .dup, 1), (103, .getfield 539, 3), (106, .aload_n 0, 1), (107, .getfield 532, 3), (110, .iadd, 1), (111, .putfield 539, 3)]
theorem aJ_332_9 : sx_iB prog_14_method_9_code aI_332_9 = true := by decide +kernel
def aI_332_10 : sx_IL := [(114, .aload_n 0, 1), (115, .aload_n 0, 1), (116, .getfield 529, 3), (119, .aload_n 0, 1), (120, .getfield 539, 3), (123, .ixor, 1)]
theorem aJ_332_10 : sx_iB prog_14_method_9_code aI_332_10 = true := by decide +kernel
def aI_332_11 : sx_IL := [(124, .bipush 7, 2), (126, .invokestatic 535, 3), (129, .putfield 529, 3), (132, .aload_n 0, 1), (133, .dup, 1), (134, .getfield 526, 3)]
theorem aJ_332_11 : sx_iB prog_14_method_9_code aI_332_11 = true := by decide +kernel
def aI_332_12 : sx_IL := [(137, .iload_n 1, 1), (138, .ixor, 1), (139, .putfield 526, 3), (142, .iinc 1 1, 3), (145, .goto (-143), 3), (148, .return_, 1)]
theorem aJ_332_12 : sx_iB prog_14_method_9_code aI_332_12 = true := by decide +kernel
def aS_332 (pc : Nat) : sx_IL := (if pc < 67 then (if pc < 31 then (if pc < 9 then aI_332_0 else (if pc < 21 then aI_332_1 else aI_332_2)) else (if pc < 44 then aI_332_3 else (if pc < 54 then aI_332_4 else aI_332_5))) else (if pc < 102 then (if pc < 79 then aI_332_6 else (if pc < 89 then aI_332_7 else aI_332_8)) else (if pc < 124 then (if pc < 114 then aI_332_9 else aI_332_10) else (if pc < 137 then aI_332_11 else aI_332_12))))
theorem aT_332 (pc : Nat) : sx_iOk prog_14_method_9_code (aS_332 pc) := (sx_ite (p := fun l => sx_iOk prog_14_method_9_code l) (sx_ite (p := fun l => sx_iOk prog_14_method_9_code l) (sx_ite (p := fun l => sx_iOk prog_14_method_9_code l) (sx_iB_s aJ_332_0) (sx_ite (p := fun l => sx_iOk prog_14_method_9_code l) (sx_iB_s aJ_332_1) (sx_iB_s aJ_332_2))) (sx_ite (p := fun l => sx_iOk prog_14_method_9_code l) (sx_iB_s aJ_332_3) (sx_ite (p := fun l => sx_iOk prog_14_method_9_code l) (sx_iB_s aJ_332_4) (sx_iB_s aJ_332_5)))) (sx_ite (p := fun l => sx_iOk prog_14_method_9_code l) (sx_ite (p := fun l => sx_iOk prog_14_method_9_code l) (sx_iB_s aJ_332_6) (sx_ite (p := fun l => sx_iOk prog_14_method_9_code l) (sx_iB_s aJ_332_7) (sx_iB_s aJ_332_8))) (sx_ite (p := fun l => sx_iOk prog_14_method_9_code l) (sx_ite (p := fun l => sx_iOk prog_14_method_9_code l) (sx_iB_s aJ_332_9) (sx_iB_s aJ_332_10)) (sx_ite (p := fun l => sx_iOk prog_14_method_9_code l) (sx_iB_s aJ_332_11) (sx_iB_s aJ_332_12)))))
def aW_332 : Nat → Option (Instr × Nat) := fun pc => sx_iF (aS_332 pc) pc
theorem aX_332 : ∀ pc i len, aW_332 pc = some (i, len) → decode aM_332.1.2.1 pc = .ok (i, len) := fun pc i len h => sx_iF_s (aT_332 pc) h
def aI_333_0 : sx_IL := [(0, .iload_n 0, 1), (1, .iload_n 1, 1), (2, .ishl, 1), (3, .iload_n 0, 1), (4, .bipush 32, 2), (6, .iload_n 1, 1)]
theorem aJ_333_0 : sx_iB prog_14_method_8_code aI_333_0 = true := by decide +kernel
def aI_333_1 : sx_IL := [(7, .isub, 1), (8, .iushr, 1), (9, .ior, 1), (10, .ireturn, 1)]
theorem aJ_333_1 : sx_iB prog_14_method_8_code aI_333_1 = true := by decide +kernel
def aS_333 (pc : Nat) : sx_IL := (if pc < 7 then aI_333_0 else aI_333_1)
theorem aT_333 (pc : Nat) : sx_iOk prog_14_method_8_code (aS_333 pc) := (sx_ite (p := fun l => sx_iOk prog_14_method_8_code l) (sx_iB_s aJ_333_0) (sx_iB_s aJ_333_1))
def aW_333 : Nat → Option (Instr × Nat) := fun pc => sx_iF (aS_333 pc) pc
theorem aX_333 : ∀ pc i len, aW_333 pc = some (i, len) → decode aM_333.1.2.1 pc = .ok (i, len) := fun pc i len h => sx_iF_s (aT_333 pc) h
def aI_334_0 : sx_IL := [(0, .aload_n 0, 1), (1, .sipush 128, 3), (4, .invokevirtual 554, 3), (7, .aload_n 0, 1), (8, .getfield 544, 3), (11, .ifCond .le 11, 3)]
theorem aJ_334_0 : sx_iB prog_14_method_17_code aI_334_0 = true := by decide +kernel
def aI_334_1 : sx_IL := [(14, .aload_n 0, 1), (15, .iconst 0, 1), (16, .invokevirtual 554, 3), (19, .goto (-12), 3), (22, .aload_n 0, 1), (23, .dup, 1)]
theorem aJ_334_1 : sx_iB prog_14_method_17_code aI_334_1 = true := by decide +kernel
def aI_334_2 : sx_IL := [(24, .getfield 539, 3), (27, .aload_n 0, 1), (28, .getfield 551, 3), (31, .ixor, 1), (32, .putfield 539, 3), (35, .aload_n 0, 1)]
theorem aJ_334_2 : sx_iB prog_14_method_17_code aI_334_2 = true := by decide +kernel
def aI_334_3 : sx_IL := [(36, .invokevirtual 558, 3), (39, .aload_n 0, 1), (40, .invokevirtual 564, 3), (43, .lreturn, 1)]
theorem aJ_334_3 : sx_iB prog_14_method_17_code aI_334_3 = true := by decide +kernel
def aS_334 (pc : Nat) : sx_IL := (if pc < 24 then (if pc < 14 then aI_334_0 else aI_334_1) else (if pc < 36 then aI_334_2 else aI_334_3))
theorem aT_334 (pc : Nat) : sx_iOk prog_14_method_17_code (aS_334 pc) := (sx_ite (p := fun l => sx_iOk prog_14_method_17_code l) (sx_ite (p := fun l => sx_iOk prog_14_method_17_code l) (sx_iB_s aJ_334_0) (sx_iB_s aJ_334_1)) (sx_ite (p := fun l => sx_iOk prog_14_method_17_code l) (sx_iB_s aJ_334_2) (sx_iB_s aJ_334_3)))
def aW_334 : Nat → Option (Instr × Nat) := fun pc => sx_iF (aS_334 pc) pc
theorem aX_334 : ∀ pc i len, aW_334 pc = some (i, len) → decode aM_334.1.2.1 pc = .ok (i, len) := fun pc i len h => sx_iF_s (aT_334 pc) h
def aI_335_0 : sx_IL := [(0, .aload_n 0, 1), (1, .getfield 526, 3), (4, .aload_n 0, 1), (5, .getfield 539, 3), (8, .ixor, 1), (9, .i2l, 1)]
theorem aJ_335_0 : sx_iB prog_14_method_10_code aI_335_0 = true := by decide +kernel
def aI_335_1 : sx_IL := [(10, .bipush 32, 2), (12, .lshl, 1), (13, .aload_n 0, 1), (14, .getfield 529, 3), (17, .aload_n 0, 1), (18, .getfield 532, 3)]
theorem aJ_335_1 : sx_iB prog_14_method_10_code aI_335_1 = true := by decide +kernel
def aI_335_2 : sx_IL := [(21, .ixor, 1), (22, .i2l, 1), (23, .ldc2_w 542, 3), (26, .land, 1), (27, .lor, 1), (28, .lreturn, 1)]
theorem aJ_335_2 : sx_iB prog_14_method_10_code aI_335_2 = true := by decide +kernel
def aS_335 (pc : Nat) : sx_IL := (if pc < 10 then aI_335_0 else (if pc < 21 then aI_335_1 else aI_335_2))
theorem aT_335 (pc : Nat) : sx_iOk prog_14_method_10_code (aS_335 pc) := (sx_ite (p := fun l => sx_iOk prog_14_method_10_code l) (sx_iB_s aJ_335_0) (sx_ite (p := fun l => sx_iOk prog_14_method_10_code l) (sx_iB_s aJ_335_1) (sx_iB_s aJ_335_2)))
def aW_335 : Nat → Option (Instr × Nat) := fun pc => sx_iF (aS_335 pc) pc
theorem aX_335 : ∀ pc i len, aW_335 pc = some (i, len) → decode aM_335.1.2.1 pc = .ok (i, len) := fun pc i len h => sx_iF_s (aT_335 pc) h
def aI_336_0 : sx_IL := [(0, .iload_n 1, 1), (1, .i2l, 1), (2, .lconst 0, 1), (3, .lconst 1, 1), (4, .invokestatic 513, 3), (7, .ifCond .ne 7, 3)]
theorem aJ_336_0 : sx_iB prog_14_method_23_code aI_336_0 = true := by decide +kernel
def aI_336_1 : sx_IL := [(10, .ldc2_w 590, 3), (13, .lreturn, 1), (14, .aload_n 0, 1), (15, .iload_n 1, 1), (16, .lload_n 2, 1), (17, .invokevirtual 578, 3)]
theorem aJ_336_1 : sx_iB prog_14_method_23_code aI_336_1 = true := by decide +kernel
def aI_336_2 : sx_IL := [(20, .aload_n 0, 1), (21, .aload_n 0, 1), (22, .getfield 7, 3), (25, .iconst 0, 1), (26, .aload_n 0, 1), (27, .getfield 517, 3)]
theorem aJ_336_2 : sx_iB prog_14_method_23_code aI_336_2 = true := by decide +kernel
def aI_336_3 : sx_IL := [(30, .invokevirtual 586, 3), (33, .aload_n 0, 1), (34, .iconst 0, 1), (35, .putfield 517, 3), (38, .aload_n 0, 1), (39, .iload_n 1, 1)]
theorem aJ_336_3 : sx_iB prog_14_method_23_code aI_336_3 = true := by decide +kernel
def aI_336_4 : sx_IL := [(40, .lload_n 2, 1), (41, .invokevirtual 582, 3), (44, .lreturn, 1)]
theorem aJ_336_4 : sx_iB prog_14_method_23_code aI_336_4 = true := by decide +kernel
def aS_336 (pc : Nat) : sx_IL := (if pc < 20 then (if pc < 10 then aI_336_0 else aI_336_1) else (if pc < 30 then aI_336_2 else (if pc < 40 then aI_336_3 else aI_336_4)))
theorem aT_336 (pc : Nat) : sx_iOk prog_14_method_23_code (aS_336 pc) := (sx_ite (p := fun l => sx_iOk prog_14_method_23_code l) (sx_ite (p := fun l => sx_iOk prog_14_method_23_code l) (sx_iB_s aJ_336_0) (sx_iB_s aJ_336_1)) (sx_ite (p := fun l => sx_iOk prog_14_method_23_code l) (sx_iB_s aJ_336_2) (sx_ite (p := fun l => sx_iOk prog_14_method_23_code l) (sx_iB_s aJ_336_3) (sx_iB_s aJ_336_4))))
def aW_336 : Nat → Option (Instr × Nat) := fun pc => sx_iF (aS_336 pc) pc
theorem aX_336 : ∀ pc i len, aW_336 pc = some (i, len) → decode aM_336.1.2.1 pc = .ok (i, len) := fun pc i len h => sx_iF_s (aT_336 pc) h
def aI_337_0 : sx_IL := [(0, .aload_n 0, 1), (1, .iload_n 1, 1), (2, .invokevirtual 568, 3), (5, .bipush 7, 2), (7, .istore 4, 2), (9, .iload 4, 2)]
theorem aJ_337_0 : sx_iB prog_14_method_18_code aI_337_0 = true := by decide +kernel
def aI_337_1 : sx_IL := [(11, .ifCond .lt 28, 3), (14, .aload_n 0, 1), (15, .lload_n 2, 1), (16, .bipush 8, 2), (18, .iload 4, 2), (20, .imul, 1)]
theorem aJ_337_1 : sx_iB prog_14_method_18_code aI_337_1 = true := by decide +kernel
def aI_337_2 : sx_IL := [(21, .lushr, 1), (22, .l2i, 1), (23, .sipush 255, 3), (26, .iand, 1), (27, .bipush 54, 2), (29, .ixor, 1)]
theorem aJ_337_2 : sx_iB prog_14_method_18_code aI_337_2 = true := by decide +kernel
def aI_337_3 : sx_IL := [(30, .invokevirtual 561, 3), (33, .iinc 4 (-1), 3), (36, .goto (-27), 3), (39, .return_, 1)]
theorem aJ_337_3 : sx_iB prog_14_method_18_code aI_337_3 = true := by decide +kernel
def aS_337 (pc : Nat) : sx_IL := (if pc < 21 then (if pc < 11 then aI_337_0 else aI_337_1) else (if pc < 30 then aI_337_2 else aI_337_3))
theorem aT_337 (pc : Nat) : sx_iOk prog_14_method_18_code (aS_337 pc) := (sx_ite (p := fun l => sx_iOk prog_14_method_18_code l) (sx_ite (p := fun l => sx_iOk prog_14_method_18_code l) (sx_iB_s aJ_337_0) (sx_iB_s aJ_337_1)) (sx_ite (p := fun l => sx_iOk prog_14_method_18_code l) (sx_iB_s aJ_337_2) (sx_iB_s aJ_337_3)))
def aW_337 : Nat → Option (Instr × Nat) := fun pc => sx_iF (aS_337 pc) pc
theorem aX_337 : ∀ pc i len, aW_337 pc = some (i, len) → decode aM_337.1.2.1 pc = .ok (i, len) := fun pc i len h => sx_iF_s (aT_337 pc) h
def aI_338_0 : sx_IL := [(0, .aload_n 0, 1), (1, .invokevirtual 571, 3), (4, .lstore 4, 2), (6, .aload_n 0, 1), (7, .iload_n 1, 1), (8, .invokevirtual 568, 3)]
theorem aJ_338_0 : sx_iB prog_14_method_19_code aI_338_0 = true := by decide +kernel
def aI_338_1 : sx_IL := [(11, .bipush 7, 2), (13, .istore 6, 2), (15, .iload 6, 2), (17, .ifCond .lt 28, 3), (20, .aload_n 0, 1), (21, .lload_n 2, 1)]
theorem aJ_338_1 : sx_iB prog_14_method_19_code aI_338_1 = true := by decide +kernel
def aI_338_2 : sx_IL := [(22, .bipush 8, 2), (24, .iload 6, 2), (26, .imul, 1), (27, .lushr, 1), (28, .l2i, 1), (29, .sipush 255, 3)]
theorem aJ_338_2 : sx_iB prog_14_method_19_code aI_338_2 = true := by decide +kernel
def aI_338_3 : sx_IL := [(32, .iand, 1), (33, .bipush 92, 2), (35, .ixor, 1), (36, .invokevirtual 561, 3), (39, .iinc 6 (-1), 3), (42, .goto (-27), 3)]
theorem aJ_338_3 : sx_iB prog_14_method_19_code aI_338_3 = true := by decide +kernel
def aI_338_4 : sx_IL := [(45, .aload_n 0, 1), (46, .lload 4, 2), (48, .invokevirtual 574, 3), (51, .aload_n 0, 1), (52, .invokevirtual 571, 3), (55, .lreturn, 1)]
theorem aJ_338_4 : sx_iB prog_14_method_19_code aI_338_4 = true := by decide +kernel
def aS_338 (pc : Nat) : sx_IL := (if pc < 22 then (if pc < 11 then aI_338_0 else aI_338_1) else (if pc < 32 then aI_338_2 else (if pc < 45 then aI_338_3 else aI_338_4)))
theorem aT_338 (pc : Nat) : sx_iOk prog_14_method_19_code (aS_338 pc) := (sx_ite (p := fun l => sx_iOk prog_14_method_19_code l) (sx_ite (p := fun l => sx_iOk prog_14_method_19_code l) (sx_iB_s aJ_338_0) (sx_iB_s aJ_338_1)) (sx_ite (p := fun l => sx_iOk prog_14_method_19_code l) (sx_iB_s aJ_338_2) (sx_ite (p := fun l => sx_iOk prog_14_method_19_code l) (sx_iB_s aJ_338_3) (sx_iB_s aJ_338_4))))
def aW_338 : Nat → Option (Instr × Nat) := fun pc => sx_iF (aS_338 pc) pc
theorem aX_338 : ∀ pc i len, aW_338 pc = some (i, len) → decode aM_338.1.2.1 pc = .ok (i, len) := fun pc i len h => sx_iF_s (aT_338 pc) h
def aI_339_0 : sx_IL := [(0, .bipush 7, 2), (2, .istore_n 3, 1), (3, .iload_n 3, 1), (4, .ifCond .lt 24, 3), (7, .aload_n 0, 1), (8, .lload_n 1, 1)]
theorem aJ_339_0 : sx_iB prog_14_method_15_code aI_339_0 = true := by decide +kernel
def aI_339_1 : sx_IL := [(9, .bipush 8, 2), (11, .iload_n 3, 1), (12, .imul, 1), (13, .lushr, 1), (14, .l2i, 1), (15, .sipush 255, 3)]
theorem aJ_339_1 : sx_iB prog_14_method_15_code aI_339_1 = true := by decide +kernel
def aI_339_2 : sx_IL := [(18, .iand, 1), (19, .invokevirtual 561, 3), (22, .iinc 3 (-1), 3), (25, .goto (-22), 3), (28, .return_, 1)]
theorem aJ_339_2 : sx_iB prog_14_method_15_code aI_339_2 = true := by decide +kernel
def aS_339 (pc : Nat) : sx_IL := (if pc < 9 then aI_339_0 else (if pc < 18 then aI_339_1 else aI_339_2))
theorem aT_339 (pc : Nat) : sx_iOk prog_14_method_15_code (aS_339 pc) := (sx_ite (p := fun l => sx_iOk prog_14_method_15_code l) (sx_iB_s aJ_339_0) (sx_ite (p := fun l => sx_iOk prog_14_method_15_code l) (sx_iB_s aJ_339_1) (sx_iB_s aJ_339_2)))
def aW_339 : Nat → Option (Instr × Nat) := fun pc => sx_iF (aS_339 pc) pc
theorem aX_339 : ∀ pc i len, aW_339 pc = some (i, len) → decode aM_339.1.2.1 pc = .ok (i, len) := fun pc i len h => sx_iF_s (aT_339 pc) h
def aI_340_0 : sx_IL := [(0, .iload_n 1, 1), (1, .i2l, 1), (2, .lconst 0, 1), (3, .lconst 1, 1), (4, .invokestatic 513, 3), (7, .ifCond .eq 29, 3)]
theorem aJ_340_0 : sx_iB prog_14_method_24_code aI_340_0 = true := by decide +kernel
def aI_340_1 : sx_IL := [(10, .iload 4, 2), (12, .i2l, 1), (13, .lconst 0, 1), (14, .ldc2_w 596, 3), (17, .invokestatic 513, 3), (20, .ifCond .eq 16, 3)]
theorem aJ_340_1 : sx_iB prog_14_method_24_code aI_340_1 = true := by decide +kernel
def aI_340_2 : sx_IL := [(23, .aload_n 0, 1), (24, .iload_n 1, 1), (25, .lload_n 2, 1), (26, .iload 4, 2), (28, .lload 5, 2), (30, .invokevirtual 598, 3)]
theorem aJ_340_2 : sx_iB prog_14_method_24_code aI_340_2 = true := by decide +kernel
def aI_340_3 : sx_IL := [(33, .goto 6, 3), (36, .ldc2_w 590, 3), (39, .lreturn, 1)]
theorem aJ_340_3 : sx_iB prog_14_method_24_code aI_340_3 = true := by decide +kernel
def aS_340 (pc : Nat) : sx_IL := (if pc < 23 then (if pc < 10 then aI_340_0 else aI_340_1) else (if pc < 33 then aI_340_2 else aI_340_3))
theorem aT_340 (pc : Nat) : sx_iOk prog_14_method_24_code (aS_340 pc) := (sx_ite (p := fun l => sx_iOk prog_14_method_24_code l) (sx_ite (p := fun l => sx_iOk prog_14_method_24_code l) (sx_iB_s aJ_340_0) (sx_iB_s aJ_340_1)) (sx_ite (p := fun l => sx_iOk prog_14_method_24_code l) (sx_iB_s aJ_340_2) (sx_iB_s aJ_340_3)))
def aW_340 : Nat → Option (Instr × Nat) := fun pc => sx_iF (aS_340 pc) pc
theorem aX_340 : ∀ pc i len, aW_340 pc = some (i, len) → decode aM_340.1.2.1 pc = .ok (i, len) := fun pc i len h => sx_iF_s (aT_340 pc) h
def aI_341_0 : sx_IL := [(0, .aload_n 0, 1), (1, .iload_n 1, 1), (2, .lload_n 2, 1), (3, .invokevirtual 578, 3), (6, .aload_n 0, 1), (7, .iload 4, 2)]
theorem aJ_341_0 : sx_iB prog_14_method_20_code aI_341_0 = true := by decide +kernel
def aI_341_1 : sx_IL := [(9, .invokevirtual 561, 3), (12, .aload_n 0, 1), (13, .lload 5, 2), (15, .invokevirtual 574, 3), (18, .aload_n 0, 1), (19, .iload_n 1, 1)]
theorem aJ_341_1 : sx_iB prog_14_method_20_code aI_341_1 = true := by decide +kernel
def aI_341_2 : sx_IL := [(20, .lload_n 2, 1), (21, .invokevirtual 582, 3), (24, .lreturn, 1)]
theorem aJ_341_2 : sx_iB prog_14_method_20_code aI_341_2 = true := by decide +kernel
def aS_341 (pc : Nat) : sx_IL := (if pc < 9 then aI_341_0 else (if pc < 20 then aI_341_1 else aI_341_2))
theorem aT_341 (pc : Nat) : sx_iOk prog_14_method_20_code (aS_341 pc) := (sx_ite (p := fun l => sx_iOk prog_14_method_20_code l) (sx_iB_s aJ_341_0) (sx_ite (p := fun l => sx_iOk prog_14_method_20_code l) (sx_iB_s aJ_341_1) (sx_iB_s aJ_341_2)))
def aW_341 : Nat → Option (Instr × Nat) := fun pc => sx_iF (aS_341 pc) pc
theorem aX_341 : ∀ pc i len, aW_341 pc = some (i, len) → decode aM_341.1.2.1 pc = .ok (i, len) := fun pc i len h => sx_iF_s (aT_341 pc) h
def aI_342_0 : sx_IL := [(0, .iload_n 1, 1), (1, .i2l, 1), (2, .lconst 1, 1), (3, .ldc2_w 609, 3), (6, .invokestatic 513, 3), (9, .ifCond .eq 18, 3)]
theorem aJ_342_0 : sx_iB prog_14_method_30_code aI_342_0 = true := by decide +kernel
def aI_342_1 : sx_IL := [(12, .iload 6, 2), (14, .i2l, 1), (15, .lconst 0, 1), (16, .aload_n 0, 1), (17, .getfield 517, 3), (20, .i2l, 1)]
theorem aJ_342_1 : sx_iB prog_14_method_30_code aI_342_1 = true := by decide +kernel
def aI_342_2 : sx_IL := [(21, .invokestatic 513, 3), (24, .ifCond .ne 5, 3), (27, .iconst (-1), 1), (28, .ireturn, 1), (29, .aload_n 0, 1), (30, .getfield 517, 3)]
theorem aJ_342_2 : sx_iB prog_14_method_30_code aI_342_2 = true := by decide +kernel
def aI_342_3 : sx_IL := [(33, .iload 6, 2), (35, .isub, 1), (36, .istore 7, 2), (38, .iconst 0, 1), (39, .istore 8, 2), (41, .iload 8, 2)]
theorem aJ_342_3 : sx_iB prog_14_method_30_code aI_342_3 = true := by decide +kernel
def aI_342_4 : sx_IL := [(43, .iload 7, 2), (45, .if_icmp .ge 26, 3), (48, .aload_n 0, 1), (49, .getfield 13, 3), (52, .iload 8, 2), (54, .aload_n 0, 1)]
theorem aJ_342_4 : sx_iB prog_14_method_30_code aI_342_4 = true := by decide +kernel
def aI_342_5 : sx_IL := [(55, .getfield 7, 3), (58, .iload 6, 2), (60, .iload 8, 2), (62, .iadd, 1), (63, .iaload, 1), (64, .iastore, 1)]
theorem aJ_342_5 : sx_iB prog_14_method_30_code aI_342_5 = true := by decide +kernel
def aI_342_6 : sx_IL := [(65, .iinc 8 1, 3), (68, .goto (-27), 3), (71, .aload_n 0, 1), (72, .lload_n 2, 1), (73, .lload 4, 2), (75, .aload_n 0, 1)]
theorem aJ_342_6 : sx_iB prog_14_method_30_code aI_342_6 = true := by decide +kernel
def aI_342_7 : sx_IL := [(76, .getfield 13, 3), (79, .iconst 0, 1), (80, .iload 7, 2), (82, .invokevirtual 611, 3), (85, .aload_n 0, 1), (86, .iload_n 1, 1)]
theorem aJ_342_7 : sx_iB prog_14_method_30_code aI_342_7 = true := by decide +kernel
def aI_342_8 : sx_IL := [(87, .lload_n 2, 1), (88, .lload 4, 2), (90, .aload_n 0, 1), (91, .getfield 7, 3), (94, .iconst 0, 1), (95, .iload 6, 2)]
theorem aJ_342_8 : sx_iB prog_14_method_30_code aI_342_8 = true := by decide +kernel
def aI_342_9 : sx_IL := [(97, .aload_n 0, 1), (98, .getfield 13, 3), (101, .iconst 0, 1), (102, .iload 7, 2), (104, .invokevirtual 615, 3), (107, .lstore 8, 2)]
theorem aJ_342_9 : sx_iB prog_14_method_30_code aI_342_9 = true := by decide +kernel
def aI_342_10 : sx_IL := [(109, .iconst 0, 1), (110, .istore 10, 2), (112, .iload 10, 2), (114, .iload_n 1, 1), (115, .invokestatic 619, 3), (118, .if_icmp .ge 26, 3)]
theorem aJ_342_10 : sx_iB prog_14_method_30_code aI_342_10 = true := by decide +kernel
def aI_342_11 : sx_IL := [(121, .aload_n 0, 1), (122, .getfield 13, 3), (125, .iload 7, 2), (127, .iload 10, 2), (129, .iadd, 1), (130, .lload 8, 2)]
theorem aJ_342_11 : sx_iB prog_14_method_30_code aI_342_11 = true := by decide +kernel
def aI_342_12 : sx_IL := [(132, .iload 10, 2), (134, .invokestatic 622, 3), (137, .iastore, 1), (138, .iinc 10 1, 3), (141, .goto (-29), 3), (144, .aload_n 0, 1)]
theorem aJ_342_12 : sx_iB prog_14_method_30_code aI_342_12 = true := by decide +kernel
def aI_342_13 : sx_IL := [(145, .iload 7, 2), (147, .iload_n 1, 1), (148, .invokestatic 619, 3), (151, .iadd, 1), (152, .putfield 520, 3), (155, .aload_n 0, 1)]
theorem aJ_342_13 : sx_iB prog_14_method_30_code aI_342_13 = true := by decide +kernel
def aI_342_14 : sx_IL := [(156, .iconst 0, 1), (157, .putfield 517, 3), (160, .aload_n 0, 1), (161, .getfield 520, 3), (164, .ireturn, 1)]
theorem aJ_342_14 : sx_iB prog_14_method_30_code aI_342_14 = true := by decide +kernel
def aS_342 (pc : Nat) : sx_IL := (if pc < 76 then (if pc < 33 then (if pc < 12 then aI_342_0 else (if pc < 21 then aI_342_1 else aI_342_2)) else (if pc < 55 then (if pc < 43 then aI_342_3 else aI_342_4) else (if pc < 65 then aI_342_5 else aI_342_6))) else (if pc < 121 then (if pc < 97 then (if pc < 87 then aI_342_7 else aI_342_8) else (if pc < 109 then aI_342_9 else aI_342_10)) else (if pc < 145 then (if pc < 132 then aI_342_11 else aI_342_12) else (if pc < 156 then aI_342_13 else aI_342_14))))
theorem aT_342 (pc : Nat) : sx_iOk prog_14_method_30_code (aS_342 pc) := (sx_ite (p := fun l => sx_iOk prog_14_method_30_code l) (sx_ite (p := fun l => sx_iOk prog_14_method_30_code l) (sx_ite (p := fun l => sx_iOk prog_14_method_30_code l) (sx_iB_s aJ_342_0) (sx_ite (p := fun l => sx_iOk prog_14_method_30_code l) (sx_iB_s aJ_342_1) (sx_iB_s aJ_342_2))) (sx_ite (p := fun l => sx_iOk prog_14_method_30_code l) (sx_ite (p := fun l => sx_iOk prog_14_method_30_code l) (sx_iB_s aJ_342_3) (sx_iB_s aJ_342_4)) (sx_ite (p := fun l => sx_iOk prog_14_method_30_code l) (sx_iB_s aJ_342_5) (sx_iB_s aJ_342_6)))) (sx_ite (p := fun l => sx_iOk prog_14_method_30_code l) (sx_ite (p := fun l => sx_iOk prog_14_method_30_code l) (sx_ite (p := fun l => sx_iOk prog_14_method_30_code l) (sx_iB_s aJ_342_7) (sx_iB_s aJ_342_8)) (sx_ite (p := fun l => sx_iOk prog_14_method_30_code l) (sx_iB_s aJ_342_9) (sx_iB_s aJ_342_10))) (sx_ite (p := fun l => sx_iOk prog_14_method_30_code l) (sx_ite (p := fun l => sx_iOk prog_14_method_30_code l) (sx_iB_s aJ_342_11) (sx_iB_s aJ_342_12)) (sx_ite (p := fun l => sx_iOk prog_14_method_30_code l) (sx_iB_s aJ_342_13) (sx_iB_s aJ_342_14)))))
def aW_342 : Nat → Option (Instr × Nat) := fun pc => sx_iF (aS_342 pc) pc
theorem aX_342 : ∀ pc i len, aW_342 pc = some (i, len) → decode aM_342.1.2.1 pc = .ok (i, len) := fun pc i len h => sx_iF_s (aT_342 pc) h
def aI_343_0 : sx_IL := [(0, .lconst 0, 1), (1, .lstore 8, 2), (3, .iconst 0, 1), (4, .istore 10, 2), (6, .iload 10, 2), (8, .iload 7, 2)]
theorem aJ_343_0 : sx_iB prog_14_method_27_code aI_343_0 = true := by decide +kernel
def aI_343_1 : sx_IL := [(10, .if_icmp .ge 87, 3), (13, .iload 10, 2), (15, .bipush 8, 2), (17, .irem, 1), (18, .ifCond .ne 43, 3), (21, .aload_n 0, 1)]
theorem aJ_343_1 : sx_iB prog_14_method_27_code aI_343_1 = true := by decide +kernel
def aI_343_2 : sx_IL := [(22, .lload_n 1, 1), (23, .bipush 32, 2), (25, .lushr, 1), (26, .l2i, 1), (27, .putfield 526, 3), (30, .aload_n 0, 1)]
theorem aJ_343_2 : sx_iB prog_14_method_27_code aI_343_2 = true := by decide +kernel
def aI_343_3 : sx_IL := [(31, .lload_n 1, 1), (32, .l2i, 1), (33, .putfield 529, 3), (36, .aload_n 0, 1), (37, .lload_n 3, 1), (38, .l2i, 1)]
theorem aJ_343_3 : sx_iB prog_14_method_27_code aI_343_3 = true := by decide +kernel
def aI_343_4 : sx_IL := [(39, .putfield 539, 3), (42, .aload_n 0, 1), (43, .iload 10, 2), (45, .bipush 8, 2), (47, .idiv, 1), (48, .putfield 532, 3)]
theorem aJ_343_4 : sx_iB prog_14_method_27_code aI_343_4 = true := by decide +kernel
def aI_343_5 : sx_IL := [(51, .aload_n 0, 1), (52, .invokevirtual 558, 3), (55, .aload_n 0, 1), (56, .invokevirtual 564, 3), (59, .lstore 8, 2), (61, .aload 5, 2)]
theorem aJ_343_5 : sx_iB prog_14_method_27_code aI_343_5 = true := by decide +kernel
def aI_343_6 : sx_IL := [(63, .iload 6, 2), (65, .iload 10, 2), (67, .iadd, 1), (68, .dup2, 1), (69, .iaload, 1), (70, .lload 8, 2)]
theorem aJ_343_6 : sx_iB prog_14_method_27_code aI_343_6 = true := by decide +kernel
def aI_343_7 : sx_IL := [(72, .bipush 56, 2), (74, .bipush 8, 2), (76, .iload 10, 2), (78, .bipush 8, 2), (80, .irem, 1), (81, .imul, 1)]
theorem aJ_343_7 : sx_iB prog_14_method_27_code aI_343_7 = true := by decide +kernel
def aI_343_8 : sx_IL := [(82, .isub, 1), (83, .lushr, 1), (84, .l2i, 1), (85, .sipush 255, 3), (88, .iand, 1), (89, .ixor, 1)]
theorem aJ_343_8 : sx_iB prog_14_method_27_code aI_343_8 = true := by decide +kernel
def aI_343_9 : sx_IL := [(90, .iastore, 1), (91, .iinc 10 1, 3), (94, .goto (-88), 3), (97, .return_, 1)]
theorem aJ_343_9 : sx_iB prog_14_method_27_code aI_343_9 = true := by decide +kernel
def aS_343 (pc : Nat) : sx_IL := (if pc < 51 then (if pc < 22 then (if pc < 10 then aI_343_0 else aI_343_1) else (if pc < 31 then aI_343_2 else (if pc < 39 then aI_343_3 else aI_343_4))) else (if pc < 72 then (if pc < 63 then aI_343_5 else aI_343_6) else (if pc < 82 then aI_343_7 else (if pc < 90 then aI_343_8 else aI_343_9))))
theorem aT_343 (pc : Nat) : sx_iOk prog_14_method_27_code (aS_343 pc) := (sx_ite (p := fun l => sx_iOk prog_14_method_27_code l) (sx_ite (p := fun l => sx_iOk prog_14_method_27_code l) (sx_ite (p := fun l => sx_iOk prog_14_method_27_code l) (sx_iB_s aJ_343_0) (sx_iB_s aJ_343_1)) (sx_ite (p := fun l => sx_iOk prog_14_method_27_code l) (sx_iB_s aJ_343_2) (sx_ite (p := fun l => sx_iOk prog_14_method_27_code l) (sx_iB_s aJ_343_3) (sx_iB_s aJ_343_4)))) (sx_ite (p := fun l => sx_iOk prog_14_method_27_code l) (sx_ite (p := fun l => sx_iOk prog_14_method_27_code l) (sx_iB_s aJ_343_5) (sx_iB_s aJ_343_6)) (sx_ite (p := fun l => sx_iOk prog_14_method_27_code l) (sx_iB_s aJ_343_7) (sx_ite (p := fun l => sx_iOk prog_14_method_27_code l) (sx_iB_s aJ_343_8) (sx_iB_s aJ_343_9)))))
def aW_343 : Nat → Option (Instr × Nat) := fun pc => sx_iF (aS_343 pc) pc
theorem aX_343 : ∀ pc i len, aW_343 pc = some (i, len) → decode aM_343.1.2.1 pc = .ok (i, len) := fun pc i len h => sx_iF_s (aT_343 pc) h
def aI_344_0 : sx_IL := [(0, .iload_n 1, 1), (1, .invokestatic 602, 3), (4, .istore 12, 2), (6, .aload_n 0, 1), (7, .iload 12, 2), (9, .lload_n 2, 1)]
theorem aJ_344_0 : sx_iB prog_14_method_28_code aI_344_0 = true := by decide +kernel
def aI_344_1 : sx_IL := [(10, .bipush 116, 2), (12, .lload 4, 2), (14, .invokevirtual 598, 3), (17, .lstore 13, 2), (19, .aload_n 0, 1), (20, .iload 12, 2)]
theorem aJ_344_1 : sx_iB prog_14_method_28_code aI_344_1 = true := by decide +kernel
def aI_344_2 : sx_IL := [(22, .lload 13, 2), (24, .invokevirtual 578, 3), (27, .aload_n 0, 1), (28, .aload 6, 2), (30, .iload 7, 2), (32, .iload 8, 2)]
theorem aJ_344_2 : sx_iB prog_14_method_28_code aI_344_2 = true := by decide +kernel
def aI_344_3 : sx_IL := [(34, .invokevirtual 586, 3), (37, .aload_n 0, 1), (38, .aload 9, 2), (40, .iload 10, 2), (42, .iload 11, 2), (44, .invokevirtual 586, 3)]
theorem aJ_344_3 : sx_iB prog_14_method_28_code aI_344_3 = true := by decide +kernel
def aI_344_4 : sx_IL := [(47, .aload_n 0, 1), (48, .iload 8, 2), (50, .invokevirtual 606, 3), (53, .aload_n 0, 1), (54, .iload 12, 2), (56, .lload 13, 2)]
theorem aJ_344_4 : sx_iB prog_14_method_28_code aI_344_4 = true := by decide +kernel
def aI_344_5 : sx_IL := [(58, .invokevirtual 582, 3), (61, .lreturn, 1)]
theorem aJ_344_5 : sx_iB prog_14_method_28_code aI_344_5 = true := by decide +kernel
def aS_344 (pc : Nat) : sx_IL := (if pc < 34 then (if pc < 10 then aI_344_0 else (if pc < 22 then aI_344_1 else aI_344_2)) else (if pc < 47 then aI_344_3 else (if pc < 58 then aI_344_4 else aI_344_5)))
theorem aT_344 (pc : Nat) : sx_iOk prog_14_method_28_code (aS_344 pc) := (sx_ite (p := fun l => sx_iOk prog_14_method_28_code l) (sx_ite (p := fun l => sx_iOk prog_14_method_28_code l) (sx_iB_s aJ_344_0) (sx_ite (p := fun l => sx_iOk prog_14_method_28_code l) (sx_iB_s aJ_344_1) (sx_iB_s aJ_344_2))) (sx_ite (p := fun l => sx_iOk prog_14_method_28_code l) (sx_iB_s aJ_344_3) (sx_ite (p := fun l => sx_iOk prog_14_method_28_code l) (sx_iB_s aJ_344_4) (sx_iB_s aJ_344_5))))
def aW_344 : Nat → Option (Instr × Nat) := fun pc => sx_iF (aS_344 pc) pc
theorem aX_344 : ∀ pc i len, aW_344 pc = some (i, len) → decode aM_344.1.2.1 pc = .ok (i, len) := fun pc i len h => sx_iF_s (aT_344 pc) h
def aI_345_0 : sx_IL := [(0, .iload_n 0, 1), (1, .iconst 3, 1), (2, .if_icmp .ne 7, 3), (5, .iconst 1, 1), (6, .goto 4, 3), (9, .iconst 0, 1)]
theorem aJ_345_0 : sx_iB prog_14_method_25_code aI_345_0 = true := by decide +kernel
def aI_345_1 : sx_IL := [(10, .ireturn, 1)]
theorem aJ_345_1 : sx_iB prog_14_method_25_code aI_345_1 = true := by decide +kernel
def aS_345 (pc : Nat) : sx_IL := (if pc < 10 then aI_345_0 else aI_345_1)
theorem aT_345 (pc : Nat) : sx_iOk prog_14_method_25_code (aS_345 pc) := (sx_ite (p := fun l => sx_iOk prog_14_method_25_code l) (sx_iB_s aJ_345_0) (sx_iB_s aJ_345_1))
def aW_345 : Nat → Option (Instr × Nat) := fun pc => sx_iF (aS_345 pc) pc
theorem aX_345 : ∀ pc i len, aW_345 pc = some (i, len) → decode aM_345.1.2.1 pc = .ok (i, len) := fun pc i len h => sx_iF_s (aT_345 pc) h
def aI_346_0 : sx_IL := [(0, .iconst 3, 1), (1, .istore_n 2, 1), (2, .iload_n 2, 1), (3, .ifCond .lt 23, 3), (6, .aload_n 0, 1), (7, .iload_n 1, 1)]
theorem aJ_346_0 : sx_iB prog_14_method_16_code aI_346_0 = true := by decide +kernel
def aI_346_1 : sx_IL := [(8, .bipush 8, 2), (10, .iload_n 2, 1), (11, .imul, 1), (12, .iushr, 1), (13, .sipush 255, 3), (16, .iand, 1)]
theorem aJ_346_1 : sx_iB prog_14_method_16_code aI_346_1 = true := by decide +kernel
def aI_346_2 : sx_IL := [(17, .invokevirtual 561, 3), (20, .iinc 2 (-1), 3), (23, .goto (-21), 3), (26, .return_, 1)]
theorem aJ_346_2 : sx_iB prog_14_method_16_code aI_346_2 = true := by decide +kernel
def aS_346 (pc : Nat) : sx_IL := (if pc < 8 then aI_346_0 else (if pc < 17 then aI_346_1 else aI_346_2))
theorem aT_346 (pc : Nat) : sx_iOk prog_14_method_16_code (aS_346 pc) := (sx_ite (p := fun l => sx_iOk prog_14_method_16_code l) (sx_iB_s aJ_346_0) (sx_ite (p := fun l => sx_iOk prog_14_method_16_code l) (sx_iB_s aJ_346_1) (sx_iB_s aJ_346_2)))
def aW_346 : Nat → Option (Instr × Nat) := fun pc => sx_iF (aS_346 pc) pc
theorem aX_346 : ∀ pc i len, aW_346 pc = some (i, len) → decode aM_346.1.2.1 pc = .ok (i, len) := fun pc i len h => sx_iF_s (aT_346 pc) h
def aI_347_0 : sx_IL := [(0, .iload_n 0, 1), (1, .iconst 2, 1), (2, .if_icmp .ne 7, 3), (5, .iconst 4, 1), (6, .goto 5, 3), (9, .bipush 8, 2)]
theorem aJ_347_0 : sx_iB prog_14_method_26_code aI_347_0 = true := by decide +kernel
def aI_347_1 : sx_IL := [(11, .ireturn, 1)]
theorem aJ_347_1 : sx_iB prog_14_method_26_code aI_347_1 = true := by decide +kernel
def aS_347 (pc : Nat) : sx_IL := (if pc < 11 then aI_347_0 else aI_347_1)
theorem aT_347 (pc : Nat) : sx_iOk prog_14_method_26_code (aS_347 pc) := (sx_ite (p := fun l => sx_iOk prog_14_method_26_code l) (sx_iB_s aJ_347_0) (sx_iB_s aJ_347_1))
def aW_347 : Nat → Option (Instr × Nat) := fun pc => sx_iF (aS_347 pc) pc
theorem aX_347 : ∀ pc i len, aW_347 pc = some (i, len) → decode aM_347.1.2.1 pc = .ok (i, len) := fun pc i len h => sx_iF_s (aT_347 pc) h
def aI_348_0 : sx_IL := [(0, .lload_n 0, 1), (1, .bipush 56, 2), (3, .bipush 8, 2), (5, .iload_n 2, 1), (6, .imul, 1), (7, .isub, 1)]
theorem aJ_348_0 : sx_iB prog_14_method_29_code aI_348_0 = true := by decide +kernel
def aI_348_1 : sx_IL := [(8, .lushr, 1), (9, .l2i, 1), (10, .sipush 255, 3), (13, .iand, 1), (14, .ireturn, 1)]
theorem aJ_348_1 : sx_iB prog_14_method_29_code aI_348_1 = true := by decide +kernel
def aS_348 (pc : Nat) : sx_IL := (if pc < 8 then aI_348_0 else aI_348_1)
theorem aT_348 (pc : Nat) : sx_iOk prog_14_method_29_code (aS_348 pc) := (sx_ite (p := fun l => sx_iOk prog_14_method_29_code l) (sx_iB_s aJ_348_0) (sx_iB_s aJ_348_1))
def aW_348 : Nat → Option (Instr × Nat) := fun pc => sx_iF (aS_348 pc) pc
theorem aX_348 : ∀ pc i len, aW_348 pc = some (i, len) → decode aM_348.1.2.1 pc = .ok (i, len) := fun pc i len h => sx_iF_s (aT_348 pc) h
def aI_349_0 : sx_IL := [(0, .iload_n 1, 1), (1, .i2l, 1), (2, .lconst 1, 1), (3, .ldc2_w 609, 3), (6, .invokestatic 513, 3), (9, .ifCond .eq 18, 3)]
theorem aJ_349_0 : sx_iB prog_14_method_31_code aI_349_0 = true := by decide +kernel
def aI_349_1 : sx_IL := [(12, .iload 6, 2), (14, .i2l, 1), (15, .lconst 0, 1), (16, .aload_n 0, 1), (17, .getfield 517, 3), (20, .i2l, 1)]
theorem aJ_349_1 : sx_iB prog_14_method_31_code aI_349_1 = true := by decide +kernel
def aI_349_2 : sx_IL := [(21, .invokestatic 513, 3), (24, .ifCond .ne 5, 3), (27, .iconst (-1), 1), (28, .ireturn, 1), (29, .aload_n 0, 1), (30, .getfield 517, 3)]
theorem aJ_349_2 : sx_iB prog_14_method_31_code aI_349_2 = true := by decide +kernel
def aI_349_3 : sx_IL := [(33, .iload 6, 2), (35, .isub, 1), (36, .iload_n 1, 1), (37, .invokestatic 619, 3), (40, .isub, 1), (41, .istore 7, 2)]
theorem aJ_349_3 : sx_iB prog_14_method_31_code aI_349_3 = true := by decide +kernel
def aI_349_4 : sx_IL := [(43, .iload 7, 2), (45, .ifCond .lt 7, 3), (48, .iconst 1, 1), (49, .goto 4, 3), (52, .iconst 0, 1), (53, .istore 8, 2)]
theorem aJ_349_4 : sx_iB prog_14_method_31_code aI_349_4 = true := by decide +kernel
def aI_349_5 : sx_IL := [(55, .iload 8, 2), (57, .ifCond .eq 81, 3), (60, .aload_n 0, 1), (61, .iload_n 1, 1), (62, .lload_n 2, 1), (63, .lload 4, 2)]
theorem aJ_349_5 : sx_iB prog_14_method_31_code aI_349_5 = true := by decide +kernel
def aI_349_6 : sx_IL := [(65, .aload_n 0, 1), (66, .getfield 7, 3), (69, .iconst 0, 1), (70, .iload 6, 2), (72, .aload_n 0, 1), (73, .getfield 7, 3)]
theorem aJ_349_6 : sx_iB prog_14_method_31_code aI_349_6 = true := by decide +kernel
def aI_349_7 : sx_IL := [(76, .iload 6, 2), (78, .iload 7, 2), (80, .invokevirtual 615, 3), (83, .lstore 9, 2), (85, .iconst 0, 1), (86, .istore 11, 2)]
theorem aJ_349_7 : sx_iB prog_14_method_31_code aI_349_7 = true := by decide +kernel
def aI_349_8 : sx_IL := [(88, .iload 11, 2), (90, .iload_n 1, 1), (91, .invokestatic 619, 3), (94, .if_icmp .ge 44, 3), (97, .iload 8, 2), (99, .ifCond .eq 30, 3)]
theorem aJ_349_8 : sx_iB prog_14_method_31_code aI_349_8 = true := by decide +kernel
def aI_349_9 : sx_IL := [(102, .aload_n 0, 1), (103, .getfield 7, 3), (106, .iload 6, 2), (108, .iload 7, 2), (110, .iadd, 1), (111, .iload 11, 2)]
theorem aJ_349_9 : sx_iB prog_14_method_31_code aI_349_9 = true := by decide +kernel
def aI_349_10 : sx_IL := [(113, .iadd, 1), (114, .iaload, 1), (115, .lload 9, 2), (117, .iload 11, 2), (119, .invokestatic 622, 3), (122, .if_icmp .ne 7, 3)]
theorem aJ_349_10 : sx_iB prog_14_method_31_code aI_349_10 = true := by decide +kernel
def aI_349_11 : sx_IL := [(125, .iconst 1, 1), (126, .goto 4, 3), (129, .iconst 0, 1), (130, .istore 8, 2), (132, .iinc 11 1, 3), (135, .goto (-47), 3)]
theorem aJ_349_11 : sx_iB prog_14_method_31_code aI_349_11 = true := by decide +kernel
def aI_349_12 : sx_IL := [(138, .iload 8, 2), (140, .ifCond .eq 57, 3), (143, .aload_n 0, 1), (144, .lload_n 2, 1), (145, .lload 4, 2), (147, .aload_n 0, 1)]
theorem aJ_349_12 : sx_iB prog_14_method_31_code aI_349_12 = true := by decide +kernel
def aI_349_13 : sx_IL := [(148, .getfield 7, 3), (151, .iload 6, 2), (153, .iload 7, 2), (155, .invokevirtual 611, 3), (158, .iconst 0, 1), (159, .istore 9, 2)]
theorem aJ_349_13 : sx_iB prog_14_method_31_code aI_349_13 = true := by decide +kernel
def aI_349_14 : sx_IL := [(161, .iload 9, 2), (163, .iload 7, 2), (165, .if_icmp .ge 26, 3), (168, .aload_n 0, 1), (169, .getfield 13, 3), (172, .iload 9, 2)]
theorem aJ_349_14 : sx_iB prog_14_method_31_code aI_349_14 = true := by decide +kernel
def aI_349_15 : sx_IL := [(174, .aload_n 0, 1), (175, .getfield 7, 3), (178, .iload 6, 2), (180, .iload 9, 2), (182, .iadd, 1), (183, .iaload, 1)]
theorem aJ_349_15 : sx_iB prog_14_method_31_code aI_349_15 = true := by decide +kernel
def aI_349_16 : sx_IL := [(184, .iastore, 1), (185, .iinc 9 1, 3), (188, .goto (-27), 3), (191, .aload_n 0, 1), (192, .iload 7, 2), (194, .putfield 520, 3)]
theorem aJ_349_16 : sx_iB prog_14_method_31_code aI_349_16 = true := by decide +kernel
def aI_349_17 : sx_IL := [(197, .aload_n 0, 1), (198, .iconst 0, 1), (199, .putfield 517, 3), (202, .iload 8, 2), (204, .ifCond .eq 7, 3), (207, .iconst 1, 1)]
theorem aJ_349_17 : sx_iB prog_14_method_31_code aI_349_17 = true := by decide +kernel
def aI_349_18 : sx_IL := [(208, .goto 4, 3), (211, .iconst 0, 1), (212, .ireturn, 1)]
theorem aJ_349_18 : sx_iB prog_14_method_31_code aI_349_18 = true := by decide +kernel
def aS_349 (pc : Nat) : sx_IL := (if pc < 102 then (if pc < 43 then (if pc < 21 then (if pc < 12 then aI_349_0 else aI_349_1) else (if pc < 33 then aI_349_2 else aI_349_3)) else (if pc < 65 then (if pc < 55 then aI_349_4 else aI_349_5) else (if pc < 76 then aI_349_6 else (if pc < 88 then aI_349_7 else aI_349_8)))) else (if pc < 161 then (if pc < 125 then (if pc < 113 then aI_349_9 else aI_349_10) else (if pc < 138 then aI_349_11 else (if pc < 148 then aI_349_12 else aI_349_13))) else (if pc < 184 then (if pc < 174 then aI_349_14 else aI_349_15) else (if pc < 197 then aI_349_16 else (if pc < 208 then aI_349_17 else aI_349_18)))))
theorem aT_349 (pc : Nat) : sx_iOk prog_14_method_31_code (aS_349 pc) := (sx_ite (p := fun l => sx_iOk prog_14_method_31_code l) (sx_ite (p := fun l => sx_iOk prog_14_method_31_code l) (sx_ite (p := fun l => sx_iOk prog_14_method_31_code l) (sx_ite (p := fun l => sx_iOk prog_14_method_31_code l) (sx_iB_s aJ_349_0) (sx_iB_s aJ_349_1)) (sx_ite (p := fun l => sx_iOk prog_14_method_31_code l) (sx_iB_s aJ_349_2) (sx_iB_s aJ_349_3))) (sx_ite (p := fun l => sx_iOk prog_14_method_31_code l) (sx_ite (p := fun l => sx_iOk prog_14_method_31_code l) (sx_iB_s aJ_349_4) (sx_iB_s aJ_349_5)) (sx_ite (p := fun l => sx_iOk prog_14_method_31_code l) (sx_iB_s aJ_349_6) (sx_ite (p := fun l => sx_iOk prog_14_method_31_code l) (sx_iB_s aJ_349_7) (sx_iB_s aJ_349_8))))) (sx_ite (p := fun l => sx_iOk prog_14_method_31_code l) (sx_ite (p := fun l => sx_iOk prog_14_method_31_code l) (sx_ite (p := fun l => sx_iOk prog_14_method_31_code l) (sx_iB_s aJ_349_9) (sx_iB_s aJ_349_10)) (sx_ite (p := fun l => sx_iOk prog_14_method_31_code l) (sx_iB_s aJ_349_11) (sx_ite (p := fun l => sx_iOk prog_14_method_31_code l) (sx_iB_s aJ_349_12) (sx_iB_s aJ_349_13)))) (sx_ite (p := fun l => sx_iOk prog_14_method_31_code l) (sx_ite (p := fun l => sx_iOk prog_14_method_31_code l) (sx_iB_s aJ_349_14) (sx_iB_s aJ_349_15)) (sx_ite (p := fun l => sx_iOk prog_14_method_31_code l) (sx_iB_s aJ_349_16) (sx_ite (p := fun l => sx_iOk prog_14_method_31_code l) (sx_iB_s aJ_349_17) (sx_iB_s aJ_349_18))))))
def aW_349 : Nat → Option (Instr × Nat) := fun pc => sx_iF (aS_349 pc) pc
theorem aX_349 : ∀ pc i len, aW_349 pc = some (i, len) → decode aM_349.1.2.1 pc = .ok (i, len) := fun pc i len h => sx_iF_s (aT_349 pc) h
def aI_350_0 : sx_IL := [(0, .iload_n 1, 1), (1, .i2l, 1), (2, .lconst 1, 1), (3, .ldc2_w 609, 3), (6, .invokestatic 513, 3), (9, .ifCond .eq 15, 3)]
theorem aJ_350_0 : sx_iB prog_14_method_36_code aI_350_0 = true := by decide +kernel
def aI_350_1 : sx_IL := [(12, .iload_n 2, 1), (13, .ifCond .lt 11, 3), (16, .iload_n 1, 1), (17, .iload_n 2, 1), (18, .invokestatic 640, 3), (21, .goto 4, 3)]
theorem aJ_350_1 : sx_iB prog_14_method_36_code aI_350_1 = true := by decide +kernel
def aI_350_2 : sx_IL := [(24, .iconst (-1), 1), (25, .ireturn, 1)]
theorem aJ_350_2 : sx_iB prog_14_method_36_code aI_350_2 = true := by decide +kernel
def aS_350 (pc : Nat) : sx_IL := (if pc < 12 then aI_350_0 else (if pc < 24 then aI_350_1 else aI_350_2))
theorem aT_350 (pc : Nat) : sx_iOk prog_14_method_36_code (aS_350 pc) := (sx_ite (p := fun l => sx_iOk prog_14_method_36_code l) (sx_iB_s aJ_350_0) (sx_ite (p := fun l => sx_iOk prog_14_method_36_code l) (sx_iB_s aJ_350_1) (sx_iB_s aJ_350_2)))
def aW_350 : Nat → Option (Instr × Nat) := fun pc => sx_iF (aS_350 pc) pc
theorem aX_350 : ∀ pc i len, aW_350 pc = some (i, len) → decode aM_350.1.2.1 pc = .ok (i, len) := fun pc i len h => sx_iF_s (aT_350 pc) h
def aI_351_0 : sx_IL := [(0, .iload_n 0, 1), (1, .iconst 1, 1), (2, .if_icmp .ne 9, 3), (5, .ldc2_w 629, 3), (8, .goto 6, 3), (11, .ldc2_w 631, 3)]
theorem aJ_351_0 : sx_iB prog_14_method_34_code aI_351_0 = true := by decide +kernel
def aI_351_1 : sx_IL := [(14, .iload_n 1, 1), (15, .iload_n 0, 1), (16, .invokestatic 633, 3), (19, .invokestatic 636, 3), (22, .ireturn, 1)]
theorem aJ_351_1 : sx_iB prog_14_method_34_code aI_351_1 = true := by decide +kernel
def aS_351 (pc : Nat) : sx_IL := (if pc < 14 then aI_351_0 else aI_351_1)
theorem aT_351 (pc : Nat) : sx_iOk prog_14_method_34_code (aS_351 pc) := (sx_ite (p := fun l => sx_iOk prog_14_method_34_code l) (sx_iB_s aJ_351_0) (sx_iB_s aJ_351_1))
def aW_351 : Nat → Option (Instr × Nat) := fun pc => sx_iF (aS_351 pc) pc
theorem aX_351 : ∀ pc i len, aW_351 pc = some (i, len) → decode aM_351.1.2.1 pc = .ok (i, len) := fun pc i len h => sx_iF_s (aT_351 pc) h
def aI_352_0 : sx_IL := [(0, .iload_n 0, 1), (1, .iconst 1, 1), (2, .if_icmp .ne 9, 3), (5, .ldc_w 626, 3), (8, .goto 17, 3), (11, .iload_n 0, 1)]
theorem aJ_352_0 : sx_iB prog_14_method_32_code aI_352_0 = true := by decide +kernel
def aI_352_1 : sx_IL := [(12, .iconst 2, 1), (13, .if_icmp .ne 9, 3), (16, .ldc_w 627, 3), (19, .goto 6, 3), (22, .ldc_w 628, 3), (25, .ireturn, 1)]
theorem aJ_352_1 : sx_iB prog_14_method_32_code aI_352_1 = true := by decide +kernel
def aS_352 (pc : Nat) : sx_IL := (if pc < 12 then aI_352_0 else aI_352_1)
theorem aT_352 (pc : Nat) : sx_iOk prog_14_method_32_code (aS_352 pc) := (sx_ite (p := fun l => sx_iOk prog_14_method_32_code l) (sx_iB_s aJ_352_0) (sx_iB_s aJ_352_1))
def aW_352 : Nat → Option (Instr × Nat) := fun pc => sx_iF (aS_352 pc) pc
theorem aX_352 : ∀ pc i len, aW_352 pc = some (i, len) → decode aM_352.1.2.1 pc = .ok (i, len) := fun pc i len h => sx_iF_s (aT_352 pc) h
def aI_353_0 : sx_IL := [(0, .lconst 1, 1), (1, .lstore 4, 2), (3, .bipush 30, 2), (5, .istore 6, 2), (7, .iload 6, 2), (9, .ifCond .lt 43, 3)]
theorem aJ_353_0 : sx_iB prog_14_method_33_code aI_353_0 = true := by decide +kernel
def aI_353_1 : sx_IL := [(12, .lload 4, 2), (14, .lload 4, 2), (16, .lmul, 1), (17, .iload_n 3, 1), (18, .i2l, 1), (19, .lrem, 1)]
theorem aJ_353_1 : sx_iB prog_14_method_33_code aI_353_1 = true := by decide +kernel
def aI_353_2 : sx_IL := [(20, .lstore 4, 2), (22, .iload_n 2, 1), (23, .iload 6, 2), (25, .ishr, 1), (26, .iconst 1, 1), (27, .iand, 1)]
theorem aJ_353_2 : sx_iB prog_14_method_33_code aI_353_2 = true := by decide +kernel
def aI_353_3 : sx_IL := [(28, .iconst 1, 1), (29, .if_icmp .ne 13, 3), (32, .lload 4, 2), (34, .lload_n 0, 1), (35, .lmul, 1), (36, .iload_n 3, 1)]
theorem aJ_353_3 : sx_iB prog_14_method_33_code aI_353_3 = true := by decide +kernel
def aI_353_4 : sx_IL := [(37, .i2l, 1), (38, .lrem, 1), (39, .goto 5, 3), (42, .lload 4, 2), (44, .lstore 4, 2), (46, .iinc 6 (-1), 3)]
theorem aJ_353_4 : sx_iB prog_14_method_33_code aI_353_4 = true := by decide +kernel
def aI_353_5 : sx_IL := [(49, .goto (-42), 3), (52, .lload 4, 2), (54, .l2i, 1), (55, .ireturn, 1)]
theorem aJ_353_5 : sx_iB prog_14_method_33_code aI_353_5 = true := by decide +kernel
def aS_353 (pc : Nat) : sx_IL := (if pc < 28 then (if pc < 12 then aI_353_0 else (if pc < 20 then aI_353_1 else aI_353_2)) else (if pc < 37 then aI_353_3 else (if pc < 49 then aI_353_4 else aI_353_5)))
theorem aT_353 (pc : Nat) : sx_iOk prog_14_method_33_code (aS_353 pc) := (sx_ite (p := fun l => sx_iOk prog_14_method_33_code l) (sx_ite (p := fun l => sx_iOk prog_14_method_33_code l) (sx_iB_s aJ_353_0) (sx_ite (p := fun l => sx_iOk prog_14_method_33_code l) (sx_iB_s aJ_353_1) (sx_iB_s aJ_353_2))) (sx_ite (p := fun l => sx_iOk prog_14_method_33_code l) (sx_iB_s aJ_353_3) (sx_ite (p := fun l => sx_iOk prog_14_method_33_code l) (sx_iB_s aJ_353_4) (sx_iB_s aJ_353_5))))
def aW_353 : Nat → Option (Instr × Nat) := fun pc => sx_iF (aS_353 pc) pc
theorem aX_353 : ∀ pc i len, aW_353 pc = some (i, len) → decode aM_353.1.2.1 pc = .ok (i, len) := fun pc i len h => sx_iF_s (aT_353 pc) h
def aI_354_0 : sx_IL := [(0, .iload_n 1, 1), (1, .i2l, 1), (2, .lconst 1, 1), (3, .ldc2_w 609, 3), (6, .invokestatic 513, 3), (9, .ifCond .eq 16, 3)]
theorem aJ_354_0 : sx_iB prog_14_method_37_code aI_354_0 = true := by decide +kernel
def aI_354_1 : sx_IL := [(12, .iload_n 2, 1), (13, .ifCond .lt 12, 3), (16, .iload_n 1, 1), (17, .iload_n 2, 1), (18, .iload_n 3, 1), (19, .invokestatic 643, 3)]
theorem aJ_354_1 : sx_iB prog_14_method_37_code aI_354_1 = true := by decide +kernel
def aI_354_2 : sx_IL := [(22, .goto 6, 3), (25, .ldc2_w 590, 3), (28, .lreturn, 1)]
theorem aJ_354_2 : sx_iB prog_14_method_37_code aI_354_2 = true := by decide +kernel
def aS_354 (pc : Nat) : sx_IL := (if pc < 12 then aI_354_0 else (if pc < 22 then aI_354_1 else aI_354_2))
theorem aT_354 (pc : Nat) : sx_iOk prog_14_method_37_code (aS_354 pc) := (sx_ite (p := fun l => sx_iOk prog_14_method_37_code l) (sx_iB_s aJ_354_0) (sx_ite (p := fun l => sx_iOk prog_14_method_37_code l) (sx_iB_s aJ_354_1) (sx_iB_s aJ_354_2)))
def aW_354 : Nat → Option (Instr × Nat) := fun pc => sx_iF (aS_354 pc) pc
theorem aX_354 : ∀ pc i len, aW_354 pc = some (i, len) → decode aM_354.1.2.1 pc = .ok (i, len) := fun pc i len h => sx_iF_s (aT_354 pc) h
def aI_355_0 : sx_IL := [(0, .iload_n 0, 1), (1, .invokestatic 633, 3), (4, .istore_n 3, 1), (5, .iload_n 2, 1), (6, .i2l, 1), (7, .ldc2_w 631, 3)]
theorem aJ_355_0 : sx_iB prog_14_method_35_code aI_355_0 = true := by decide +kernel
def aI_355_1 : sx_IL := [(10, .iload_n 3, 1), (11, .iconst 2, 1), (12, .isub, 1), (13, .i2l, 1), (14, .invokestatic 513, 3), (17, .ifCond .ne 5, 3)]
theorem aJ_355_1 : sx_iB prog_14_method_35_code aI_355_1 = true := by decide +kernel
def aI_355_2 : sx_IL := [(20, .lconst 0, 1), (21, .lreturn, 1), (22, .iload_n 2, 1), (23, .i2l, 1), (24, .iload_n 1, 1), (25, .iload_n 3, 1)]
theorem aJ_355_2 : sx_iB prog_14_method_35_code aI_355_2 = true := by decide +kernel
def aI_355_3 : sx_IL := [(26, .invokestatic 636, 3), (29, .istore 4, 2), (31, .iload 4, 2), (33, .i2l, 1), (34, .ldc2_w 631, 3), (37, .iload_n 3, 1)]
theorem aJ_355_3 : sx_iB prog_14_method_35_code aI_355_3 = true := by decide +kernel
def aI_355_4 : sx_IL := [(38, .iconst 2, 1), (39, .isub, 1), (40, .i2l, 1), (41, .invokestatic 513, 3), (44, .ifCond .eq 9, 3), (47, .iload 4, 2)]
theorem aJ_355_4 : sx_iB prog_14_method_35_code aI_355_4 = true := by decide +kernel
def aI_355_5 : sx_IL := [(49, .i2l, 1), (50, .goto 4, 3), (53, .lconst 0, 1), (54, .lreturn, 1)]
theorem aJ_355_5 : sx_iB prog_14_method_35_code aI_355_5 = true := by decide +kernel
def aS_355 (pc : Nat) : sx_IL := (if pc < 26 then (if pc < 10 then aI_355_0 else (if pc < 20 then aI_355_1 else aI_355_2)) else (if pc < 38 then aI_355_3 else (if pc < 49 then aI_355_4 else aI_355_5)))
theorem aT_355 (pc : Nat) : sx_iOk prog_14_method_35_code (aS_355 pc) := (sx_ite (p := fun l => sx_iOk prog_14_method_35_code l) (sx_ite (p := fun l => sx_iOk prog_14_method_35_code l) (sx_iB_s aJ_355_0) (sx_ite (p := fun l => sx_iOk prog_14_method_35_code l) (sx_iB_s aJ_355_1) (sx_iB_s aJ_355_2))) (sx_ite (p := fun l => sx_iOk prog_14_method_35_code l) (sx_iB_s aJ_355_3) (sx_ite (p := fun l => sx_iOk prog_14_method_35_code l) (sx_iB_s aJ_355_4) (sx_iB_s aJ_355_5))))
def aW_355 : Nat → Option (Instr × Nat) := fun pc => sx_iF (aS_355 pc) pc
theorem aX_355 : ∀ pc i len, aW_355 pc = some (i, len) → decode aM_355.1.2.1 pc = .ok (i, len) := fun pc i len h => sx_iF_s (aT_355 pc) h
def aI_356_0 : sx_IL := [(0, .iload_n 1, 1), (1, .invokestatic 652, 3), (4, .ifCond .eq 10, 3), (7, .iload_n 1, 1), (8, .invokestatic 656, 3), (11, .goto 4, 3)]
theorem aJ_356_0 : sx_iB prog_14_method_40_code aI_356_0 = true := by decide +kernel
def aI_356_1 : sx_IL := [(14, .iconst (-1), 1), (15, .ireturn, 1)]
theorem aJ_356_1 : sx_iB prog_14_method_40_code aI_356_1 = true := by decide +kernel
def aS_356 (pc : Nat) : sx_IL := (if pc < 14 then aI_356_0 else aI_356_1)
theorem aT_356 (pc : Nat) : sx_iOk prog_14_method_40_code (aS_356 pc) := (sx_ite (p := fun l => sx_iOk prog_14_method_40_code l) (sx_iB_s aJ_356_0) (sx_iB_s aJ_356_1))
def aW_356 : Nat → Option (Instr × Nat) := fun pc => sx_iF (aS_356 pc) pc
theorem aX_356 : ∀ pc i len, aW_356 pc = some (i, len) → decode aM_356.1.2.1 pc = .ok (i, len) := fun pc i len h => sx_iF_s (aT_356 pc) h
def aI_357_0 : sx_IL := [(0, .iload_n 0, 1), (1, .i2l, 1), (2, .lconst 1, 1), (3, .ldc2_w 647, 3), (6, .invokestatic 513, 3), (9, .ireturn, 1)]
theorem aJ_357_0 : sx_iB prog_14_method_38_code aI_357_0 = true := by decide +kernel
def aS_357 (pc : Nat) : sx_IL := aI_357_0
theorem aT_357 (pc : Nat) : sx_iOk prog_14_method_38_code (aS_357 pc) := (sx_iB_s aJ_357_0)
def aW_357 : Nat → Option (Instr × Nat) := fun pc => sx_iF (aS_357 pc) pc
theorem aX_357 : ∀ pc i len, aW_357 pc = some (i, len) → decode aM_357.1.2.1 pc = .ok (i, len) := fun pc i len h => sx_iF_s (aT_357 pc) h
def aI_358_0 : sx_IL := [(0, .ldc2_w 649, 3), (3, .iload_n 0, 1), (4, .ldc_w 651, 3), (7, .invokestatic 636, 3), (10, .ireturn, 1)]
theorem aJ_358_0 : sx_iB prog_14_method_39_code aI_358_0 = true := by decide +kernel
def aS_358 (pc : Nat) : sx_IL := aI_358_0
theorem aT_358 (pc : Nat) : sx_iOk prog_14_method_39_code (aS_358 pc) := (sx_iB_s aJ_358_0)
def aW_358 : Nat → Option (Instr × Nat) := fun pc => sx_iF (aS_358 pc) pc
theorem aX_358 : ∀ pc i len, aW_358 pc = some (i, len) → decode aM_358.1.2.1 pc = .ok (i, len) := fun pc i len h => sx_iF_s (aT_358 pc) h
def aI_359_0 : sx_IL := [(0, .iload_n 1, 1), (1, .i2l, 1), (2, .lconst 1, 1), (3, .ldc2_w 631, 3), (6, .invokestatic 513, 3), (9, .ifCond .eq 10, 3)]
theorem aJ_359_0 : sx_iB prog_14_method_45_code aI_359_0 = true := by decide +kernel
def aI_359_1 : sx_IL := [(12, .iload_n 2, 1), (13, .invokestatic 652, 3), (16, .ifCond .ne 7, 3), (19, .ldc2_w 590, 3), (22, .lreturn, 1), (23, .aload_n 0, 1)]
theorem aJ_359_1 : sx_iB prog_14_method_45_code aI_359_1 = true := by decide +kernel
def aI_359_2 : sx_IL := [(24, .iload_n 1, 1), (25, .iload_n 2, 1), (26, .aload_n 0, 1), (27, .getfield 7, 3), (30, .iconst 0, 1), (31, .aload_n 0, 1)]
theorem aJ_359_2 : sx_iB prog_14_method_45_code aI_359_2 = true := by decide +kernel
def aI_359_3 : sx_IL := [(32, .getfield 517, 3), (35, .invokevirtual 675, 3), (38, .lstore_n 3, 1), (39, .aload_n 0, 1), (40, .iconst 0, 1), (41, .putfield 517, 3)]
theorem aJ_359_3 : sx_iB prog_14_method_45_code aI_359_3 = true := by decide +kernel
def aI_359_4 : sx_IL := [(44, .lload_n 3, 1), (45, .lreturn, 1)]
theorem aJ_359_4 : sx_iB prog_14_method_45_code aI_359_4 = true := by decide +kernel
def aS_359 (pc : Nat) : sx_IL := (if pc < 24 then (if pc < 12 then aI_359_0 else aI_359_1) else (if pc < 32 then aI_359_2 else (if pc < 44 then aI_359_3 else aI_359_4)))
theorem aT_359 (pc : Nat) : sx_iOk prog_14_method_45_code (aS_359 pc) := (sx_ite (p := fun l => sx_iOk prog_14_method_45_code l) (sx_ite (p := fun l => sx_iOk prog_14_method_45_code l) (sx_iB_s aJ_359_0) (sx_iB_s aJ_359_1)) (sx_ite (p := fun l => sx_iOk prog_14_method_45_code l) (sx_iB_s aJ_359_2) (sx_ite (p := fun l => sx_iOk prog_14_method_45_code l) (sx_iB_s aJ_359_3) (sx_iB_s aJ_359_4))))
def aW_359 : Nat → Option (Instr × Nat) := fun pc => sx_iF (aS_359 pc) pc
theorem aX_359 : ∀ pc i len, aW_359 pc = some (i, len) → decode aM_359.1.2.1 pc = .ok (i, len) := fun pc i len h => sx_iF_s (aT_359 pc) h
def aI_360_0 : sx_IL := [(0, .iload_n 1, 1), (1, .iconst 1, 1), (2, .isub, 1), (3, .istore 6, 2), (5, .aload_n 0, 1), (6, .iload 6, 2)]
theorem aJ_360_0 : sx_iB prog_14_method_43_code aI_360_0 = true := by decide +kernel
def aI_360_1 : sx_IL := [(8, .iload_n 2, 1), (9, .i2l, 1), (10, .invokevirtual 578, 3), (13, .aload_n 0, 1), (14, .aload_n 3, 1), (15, .iload 4, 2)]
theorem aJ_360_1 : sx_iB prog_14_method_43_code aI_360_1 = true := by decide +kernel
def aI_360_2 : sx_IL := [(17, .iload 5, 2), (19, .invokevirtual 586, 3), (22, .aload_n 0, 1), (23, .iload 6, 2), (25, .iload_n 2, 1), (26, .i2l, 1)]
theorem aJ_360_2 : sx_iB prog_14_method_43_code aI_360_2 = true := by decide +kernel
def aI_360_3 : sx_IL := [(27, .invokevirtual 582, 3), (30, .invokestatic 659, 3), (33, .istore 7, 2), (35, .iconst 1, 1), (36, .iload 7, 2), (38, .ldc_w 664, 3)]
theorem aJ_360_3 : sx_iB prog_14_method_43_code aI_360_3 = true := by decide +kernel
def aI_360_4 : sx_IL := [(41, .irem, 1), (42, .iadd, 1), (43, .istore 8, 2), (45, .iload 8, 2), (47, .invokestatic 656, 3), (50, .istore 9, 2)]
theorem aJ_360_4 : sx_iB prog_14_method_43_code aI_360_4 = true := by decide +kernel
def aI_360_5 : sx_IL := [(52, .aload_n 0, 1), (53, .iload 6, 2), (55, .iload 9, 2), (57, .iload_n 2, 1), (58, .invokestatic 656, 3), (61, .aload_n 3, 1)]
theorem aJ_360_5 : sx_iB prog_14_method_43_code aI_360_5 = true := by decide +kernel
def aI_360_6 : sx_IL := [(62, .iload 4, 2), (64, .iload 5, 2), (66, .invokevirtual 665, 3), (69, .istore 10, 2), (71, .iload 8, 2), (73, .i2l, 1)]
theorem aJ_360_6 : sx_iB prog_14_method_43_code aI_360_6 = true := by decide +kernel
def aI_360_7 : sx_IL := [(74, .iload 10, 2), (76, .i2l, 1), (77, .iload_n 2, 1), (78, .i2l, 1), (79, .lmul, 1), (80, .ladd, 1)]
theorem aJ_360_7 : sx_iB prog_14_method_43_code aI_360_7 = true := by decide +kernel
def aI_360_8 : sx_IL := [(81, .ldc2_w 669, 3), (84, .lrem, 1), (85, .lstore 11, 2), (87, .iload 10, 2), (89, .i2l, 1), (90, .bipush 32, 2)]
theorem aJ_360_8 : sx_iB prog_14_method_43_code aI_360_8 = true := by decide +kernel
def aI_360_9 : sx_IL := [(92, .lshl, 1), (93, .lload 11, 2), (95, .lor, 1), (96, .lreturn, 1)]
theorem aJ_360_9 : sx_iB prog_14_method_43_code aI_360_9 = true := by decide +kernel
def aS_360 (pc : Nat) : sx_IL := (if pc < 52 then (if pc < 17 then (if pc < 8 then aI_360_0 else aI_360_1) else (if pc < 27 then aI_360_2 else (if pc < 41 then aI_360_3 else aI_360_4))) else (if pc < 74 then (if pc < 62 then aI_360_5 else aI_360_6) else (if pc < 81 then aI_360_7 else (if pc < 92 then aI_360_8 else aI_360_9))))
theorem aT_360 (pc : Nat) : sx_iOk prog_14_method_43_code (aS_360 pc) := (sx_ite (p := fun l => sx_iOk prog_14_method_43_code l) (sx_ite (p := fun l => sx_iOk prog_14_method_43_code l) (sx_ite (p := fun l => sx_iOk prog_14_method_43_code l) (sx_iB_s aJ_360_0) (sx_iB_s aJ_360_1)) (sx_ite (p := fun l => sx_iOk prog_14_method_43_code l) (sx_iB_s aJ_360_2) (sx_ite (p := fun l => sx_iOk prog_14_method_43_code l) (sx_iB_s aJ_360_3) (sx_iB_s aJ_360_4)))) (sx_ite (p := fun l => sx_iOk prog_14_method_43_code l) (sx_ite (p := fun l => sx_iOk prog_14_method_43_code l) (sx_iB_s aJ_360_5) (sx_iB_s aJ_360_6)) (sx_ite (p := fun l => sx_iOk prog_14_method_43_code l) (sx_iB_s aJ_360_7) (sx_ite (p := fun l => sx_iOk prog_14_method_43_code l) (sx_iB_s aJ_360_8) (sx_iB_s aJ_360_9)))))
def aW_360 : Nat → Option (Instr × Nat) := fun pc => sx_iF (aS_360 pc) pc
theorem aX_360 : ∀ pc i len, aW_360 pc = some (i, len) → decode aM_360.1.2.1 pc = .ok (i, len) := fun pc i len h => sx_iF_s (aT_360 pc) h
def aI_361_0 : sx_IL := [(0, .lload_n 0, 1), (1, .bipush 32, 2), (3, .lushr, 1), (4, .l2i, 1), (5, .ldc_w 626, 3), (8, .iand, 1)]
theorem aJ_361_0 : sx_iB prog_14_method_41_code aI_361_0 = true := by decide +kernel
def aI_361_1 : sx_IL := [(9, .ireturn, 1)]
theorem aJ_361_1 : sx_iB prog_14_method_41_code aI_361_1 = true := by decide +kernel
def aS_361 (pc : Nat) : sx_IL := (if pc < 9 then aI_361_0 else aI_361_1)
theorem aT_361 (pc : Nat) : sx_iOk prog_14_method_41_code (aS_361 pc) := (sx_ite (p := fun l => sx_iOk prog_14_method_41_code l) (sx_iB_s aJ_361_0) (sx_iB_s aJ_361_1))
def aW_361 : Nat → Option (Instr × Nat) := fun pc => sx_iF (aS_361 pc) pc
theorem aX_361 : ∀ pc i len, aW_361 pc = some (i, len) → decode aM_361.1.2.1 pc = .ok (i, len) := fun pc i len h => sx_iF_s (aT_361 pc) h
def aI_362_0 : sx_IL := [(0, .aload_n 0, 1), (1, .iload_n 1, 1), (2, .invokevirtual 568, 3), (5, .aload_n 0, 1), (6, .iload_n 2, 1), (7, .invokevirtual 606, 3)]
theorem aJ_362_0 : sx_iB prog_14_method_42_code aI_362_0 = true := by decide +kernel
def aI_362_1 : sx_IL := [(10, .aload_n 0, 1), (11, .iload_n 3, 1), (12, .invokevirtual 606, 3), (15, .aload_n 0, 1), (16, .aload 4, 2), (18, .iload 5, 2)]
theorem aJ_362_1 : sx_iB prog_14_method_42_code aI_362_1 = true := by decide +kernel
def aI_362_2 : sx_IL := [(20, .iload 6, 2), (22, .invokevirtual 586, 3), (25, .aload_n 0, 1), (26, .invokevirtual 571, 3), (29, .invokestatic 659, 3), (32, .ldc_w 663, 3)]
theorem aJ_362_2 : sx_iB prog_14_method_42_code aI_362_2 = true := by decide +kernel
def aI_362_3 : sx_IL := [(35, .irem, 1), (36, .ireturn, 1)]
theorem aJ_362_3 : sx_iB prog_14_method_42_code aI_362_3 = true := by decide +kernel
def aS_362 (pc : Nat) : sx_IL := (if pc < 20 then (if pc < 10 then aI_362_0 else aI_362_1) else (if pc < 35 then aI_362_2 else aI_362_3))
theorem aT_362 (pc : Nat) : sx_iOk prog_14_method_42_code (aS_362 pc) := (sx_ite (p := fun l => sx_iOk prog_14_method_42_code l) (sx_ite (p := fun l => sx_iOk prog_14_method_42_code l) (sx_iB_s aJ_362_0) (sx_iB_s aJ_362_1)) (sx_ite (p := fun l => sx_iOk prog_14_method_42_code l) (sx_iB_s aJ_362_2) (sx_iB_s aJ_362_3)))
def aW_362 : Nat → Option (Instr × Nat) := fun pc => sx_iF (aS_362 pc) pc
theorem aX_362 : ∀ pc i len, aW_362 pc = some (i, len) → decode aM_362.1.2.1 pc = .ok (i, len) := fun pc i len h => sx_iF_s (aT_362 pc) h
def aI_363_0 : sx_IL := [(0, .iload_n 1, 1), (1, .i2l, 1), (2, .lconst 1, 1), (3, .ldc2_w 631, 3), (6, .invokestatic 513, 3), (9, .ifCond .ne 5, 3)]
theorem aJ_363_0 : sx_iB prog_14_method_46_code aI_363_0 = true := by decide +kernel
def aI_363_1 : sx_IL := [(12, .iconst (-1), 1), (13, .ireturn, 1), (14, .aload_n 0, 1), (15, .iload_n 1, 1), (16, .iload_n 2, 1), (17, .lload_n 3, 1)]
theorem aJ_363_1 : sx_iB prog_14_method_46_code aI_363_1 = true := by decide +kernel
def aI_363_2 : sx_IL := [(18, .aload_n 0, 1), (19, .getfield 7, 3), (22, .iconst 0, 1), (23, .aload_n 0, 1), (24, .getfield 517, 3), (27, .invokevirtual 679, 3)]
theorem aJ_363_2 : sx_iB prog_14_method_46_code aI_363_2 = true := by decide +kernel
def aI_363_3 : sx_IL := [(30, .istore 5, 2), (32, .aload_n 0, 1), (33, .iconst 0, 1), (34, .putfield 517, 3), (37, .iload 5, 2), (39, .ifCond .eq 7, 3)]
theorem aJ_363_3 : sx_iB prog_14_method_46_code aI_363_3 = true := by decide +kernel
def aI_363_4 : sx_IL := [(42, .iconst 1, 1), (43, .goto 4, 3), (46, .iconst 0, 1), (47, .ireturn, 1)]
theorem aJ_363_4 : sx_iB prog_14_method_46_code aI_363_4 = true := by decide +kernel
def aS_363 (pc : Nat) : sx_IL := (if pc < 18 then (if pc < 12 then aI_363_0 else aI_363_1) else (if pc < 30 then aI_363_2 else (if pc < 42 then aI_363_3 else aI_363_4)))
theorem aT_363 (pc : Nat) : sx_iOk prog_14_method_46_code (aS_363 pc) := (sx_ite (p := fun l => sx_iOk prog_14_method_46_code l) (sx_ite (p := fun l => sx_iOk prog_14_method_46_code l) (sx_iB_s aJ_363_0) (sx_iB_s aJ_363_1)) (sx_ite (p := fun l => sx_iOk prog_14_method_46_code l) (sx_iB_s aJ_363_2) (sx_ite (p := fun l => sx_iOk prog_14_method_46_code l) (sx_iB_s aJ_363_3) (sx_iB_s aJ_363_4))))
def aW_363 : Nat → Option (Instr × Nat) := fun pc => sx_iF (aS_363 pc) pc
theorem aX_363 : ∀ pc i len, aW_363 pc = some (i, len) → decode aM_363.1.2.1 pc = .ok (i, len) := fun pc i len h => sx_iF_s (aT_363 pc) h
def aI_364_0 : sx_IL := [(0, .lload_n 3, 1), (1, .bipush 32, 2), (3, .lushr, 1), (4, .l2i, 1), (5, .istore 8, 2), (7, .lload_n 3, 1)]
theorem aJ_364_0 : sx_iB prog_14_method_44_code aI_364_0 = true := by decide +kernel
def aI_364_1 : sx_IL := [(8, .l2i, 1), (9, .istore 9, 2), (11, .iload_n 2, 1), (12, .i2l, 1), (13, .ldc2_w 631, 3), (16, .ldc2_w 671, 3)]
theorem aJ_364_1 : sx_iB prog_14_method_44_code aI_364_1 = true := by decide +kernel
def aI_364_2 : sx_IL := [(19, .invokestatic 513, 3), (22, .ifCond .eq 44, 3), (25, .iload_n 2, 1), (26, .i2l, 1), (27, .ldc_w 663, 3), (30, .ldc_w 651, 3)]
theorem aJ_364_2 : sx_iB prog_14_method_44_code aI_364_2 = true := by decide +kernel
def aI_364_3 : sx_IL := [(33, .invokestatic 636, 3), (36, .iconst 1, 1), (37, .if_icmp .ne 29, 3), (40, .iload 8, 2), (42, .i2l, 1), (43, .lconst 0, 1)]
theorem aJ_364_3 : sx_iB prog_14_method_44_code aI_364_3 = true := by decide +kernel
def aI_364_4 : sx_IL := [(44, .ldc2_w 647, 3), (47, .invokestatic 513, 3), (50, .ifCond .eq 16, 3), (53, .iload 9, 2), (55, .i2l, 1), (56, .lconst 0, 1)]
theorem aJ_364_4 : sx_iB prog_14_method_44_code aI_364_4 = true := by decide +kernel
def aI_364_5 : sx_IL := [(57, .ldc2_w 647, 3), (60, .invokestatic 513, 3), (63, .ifCond .ne 5, 3), (66, .iconst 0, 1), (67, .ireturn, 1), (68, .ldc2_w 649, 3)]
theorem aJ_364_5 : sx_iB prog_14_method_44_code aI_364_5 = true := by decide +kernel
def aI_364_6 : sx_IL := [(71, .iload 9, 2), (73, .ldc_w 651, 3), (76, .invokestatic 636, 3), (79, .i2l, 1), (80, .iload_n 2, 1), (81, .i2l, 1)]
theorem aJ_364_6 : sx_iB prog_14_method_44_code aI_364_6 = true := by decide +kernel
def aI_364_7 : sx_IL := [(82, .ldc_w 663, 3), (85, .iload 8, 2), (87, .isub, 1), (88, .ldc_w 651, 3), (91, .invokestatic 636, 3), (94, .i2l, 1)]
theorem aJ_364_7 : sx_iB prog_14_method_44_code aI_364_7 = true := by decide +kernel
def aI_364_8 : sx_IL := [(95, .lmul, 1), (96, .ldc2_w 673, 3), (99, .lrem, 1), (100, .lstore 10, 2), (102, .aload_n 0, 1), (103, .iload_n 1, 1)]
theorem aJ_364_8 : sx_iB prog_14_method_44_code aI_364_8 = true := by decide +kernel
def aI_364_9 : sx_IL := [(104, .iconst 1, 1), (105, .isub, 1), (106, .lload 10, 2), (108, .l2i, 1), (109, .iload_n 2, 1), (110, .aload 5, 2)]
theorem aJ_364_9 : sx_iB prog_14_method_44_code aI_364_9 = true := by decide +kernel
def aI_364_10 : sx_IL := [(112, .iload 6, 2), (114, .iload 7, 2), (116, .invokevirtual 665, 3), (119, .iload 8, 2), (121, .if_icmp .ne 7, 3), (124, .iconst 1, 1)]
theorem aJ_364_10 : sx_iB prog_14_method_44_code aI_364_10 = true := by decide +kernel
def aI_364_11 : sx_IL := [(125, .goto 4, 3), (128, .iconst 0, 1), (129, .ireturn, 1)]
theorem aJ_364_11 : sx_iB prog_14_method_44_code aI_364_11 = true := by decide +kernel
def aS_364 (pc : Nat) : sx_IL := (if pc < 71 then (if pc < 33 then (if pc < 8 then aI_364_0 else (if pc < 19 then aI_364_1 else aI_364_2)) else (if pc < 44 then aI_364_3 else (if pc < 57 then aI_364_4 else aI_364_5))) else (if pc < 104 then (if pc < 82 then aI_364_6 else (if pc < 95 then aI_364_7 else aI_364_8)) else (if pc < 112 then aI_364_9 else (if pc < 125 then aI_364_10 else aI_364_11))))
theorem aT_364 (pc : Nat) : sx_iOk prog_14_method_44_code (aS_364 pc) := (sx_ite (p := fun l => sx_iOk prog_14_method_44_code l) (sx_ite (p := fun l => sx_iOk prog_14_method_44_code l) (sx_ite (p := fun l => sx_iOk prog_14_method_44_code l) (sx_iB_s aJ_364_0) (sx_ite (p := fun l => sx_iOk prog_14_method_44_code l) (sx_iB_s aJ_364_1) (sx_iB_s aJ_364_2))) (sx_ite (p := fun l => sx_iOk prog_14_method_44_code l) (sx_iB_s aJ_364_3) (sx_ite (p := fun l => sx_iOk prog_14_method_44_code l) (sx_iB_s aJ_364_4) (sx_iB_s aJ_364_5)))) (sx_ite (p := fun l => sx_iOk prog_14_method_44_code l) (sx_ite (p := fun l => sx_iOk prog_14_method_44_code l) (sx_iB_s aJ_364_6) (sx_ite (p := fun l => sx_iOk prog_14_method_44_code l) (sx_iB_s aJ_364_7) (sx_iB_s aJ_364_8))) (sx_ite (p := fun l => sx_iOk prog_14_method_44_code l) (sx_iB_s aJ_364_9) (sx_ite (p := fun l => sx_iOk prog_14_method_44_code l) (sx_iB_s aJ_364_10) (sx_iB_s aJ_364_11)))))
def aW_364 : Nat → Option (Instr × Nat) := fun pc => sx_iF (aS_364 pc) pc
theorem aX_364 : ∀ pc i len, aW_364 pc = some (i, len) → decode aM_364.1.2.1 pc = .ok (i, len) := fun pc i len h => sx_iF_s (aT_364 pc) h
def aI_365_0 : sx_IL := [(0, .aload_n 0, 1), (1, .getfield 683, 3), (4, .iconst 4, 1), (5, .if_icmp .ne 6, 3), (8, .bipush (-3), 2), (10, .ireturn, 1)]
theorem aJ_365_0 : sx_iB prog_14_method_49_code aI_365_0 = true := by decide +kernel
def aI_365_1 : sx_IL := [(11, .aload_n 0, 1), (12, .dup, 1), (13, .getfield 683, 3), (16, .iconst 1, 1), (17, .iadd, 1), (18, .putfield 683, 3)]
theorem aJ_365_1 : sx_iB prog_14_method_49_code aI_365_1 = true := by decide +kernel
def aI_365_2 : sx_IL := [(21, .aload_n 0, 1), (22, .getfield 683, 3), (25, .iconst 1, 1), (26, .isub, 1), (27, .ireturn, 1)]
theorem aJ_365_2 : sx_iB prog_14_method_49_code aI_365_2 = true := by decide +kernel
def aS_365 (pc : Nat) : sx_IL := (if pc < 11 then aI_365_0 else (if pc < 21 then aI_365_1 else aI_365_2))
theorem aT_365 (pc : Nat) : sx_iOk prog_14_method_49_code (aS_365 pc) := (sx_ite (p := fun l => sx_iOk prog_14_method_49_code l) (sx_iB_s aJ_365_0) (sx_ite (p := fun l => sx_iOk prog_14_method_49_code l) (sx_iB_s aJ_365_1) (sx_iB_s aJ_365_2)))
def aW_365 : Nat → Option (Instr × Nat) := fun pc => sx_iF (aS_365 pc) pc
theorem aX_365 : ∀ pc i len, aW_365 pc = some (i, len) → decode aM_365.1.2.1 pc = .ok (i, len) := fun pc i len h => sx_iF_s (aT_365 pc) h
def aI_366_0 : sx_IL := [(0, .iload_n 1, 1), (1, .i2l, 1), (2, .lconst 0, 1), (3, .aload_n 0, 1), (4, .getfield 683, 3), (7, .iconst 1, 1)]
theorem aJ_366_0 : sx_iB prog_14_method_50_code aI_366_0 = true := by decide +kernel
def aI_366_1 : sx_IL := [(8, .isub, 1), (9, .i2l, 1), (10, .invokestatic 513, 3), (13, .ifCond .ne 5, 3), (16, .iconst (-1), 1), (17, .ireturn, 1)]
theorem aJ_366_1 : sx_iB prog_14_method_50_code aI_366_1 = true := by decide +kernel
def aI_366_2 : sx_IL := [(18, .aload_n 0, 1), (19, .getfield 16, 3), (22, .iload_n 1, 1), (23, .iaload, 1), (24, .bipush 64, 2), (26, .if_icmp .ne 6, 3)]
theorem aJ_366_2 : sx_iB prog_14_method_50_code aI_366_2 = true := by decide +kernel
def aI_366_3 : sx_IL := [(29, .bipush (-3), 2), (31, .ireturn, 1), (32, .aload_n 0, 1), (33, .getfield 19, 3), (36, .bipush 64, 2), (38, .iload_n 1, 1)]
theorem aJ_366_3 : sx_iB prog_14_method_50_code aI_366_3 = true := by decide +kernel
def aI_366_4 : sx_IL := [(39, .imul, 1), (40, .aload_n 0, 1), (41, .getfield 16, 3), (44, .iload_n 1, 1), (45, .iaload, 1), (46, .iadd, 1)]
theorem aJ_366_4 : sx_iB prog_14_method_50_code aI_366_4 = true := by decide +kernel
def aI_366_5 : sx_IL := [(47, .lload_n 2, 1), (48, .lastore, 1), (49, .aload_n 0, 1), (50, .getfield 16, 3), (53, .iload_n 1, 1), (54, .dup2, 1)]
theorem aJ_366_5 : sx_iB prog_14_method_50_code aI_366_5 = true := by decide +kernel
def aI_366_6 : sx_IL := [(55, .iaload, 1), (56, .iconst 1, 1), (57, .iadd, 1), (58, .iastore, 1), (59, .aload_n 0, 1), (60, .getfield 16, 3)]
theorem aJ_366_6 : sx_iB prog_14_method_50_code aI_366_6 = true := by decide +kernel
def aI_366_7 : sx_IL := [(63, .iload_n 1, 1), (64, .iaload, 1), (65, .ireturn, 1)]
theorem aJ_366_7 : sx_iB prog_14_method_50_code aI_366_7 = true := by decide +kernel
def aS_366 (pc : Nat) : sx_IL := (if pc < 39 then (if pc < 18 then (if pc < 8 then aI_366_0 else aI_366_1) else (if pc < 29 then aI_366_2 else aI_366_3)) else (if pc < 55 then (if pc < 47 then aI_366_4 else aI_366_5) else (if pc < 63 then aI_366_6 else aI_366_7)))
theorem aT_366 (pc : Nat) : sx_iOk prog_14_method_50_code (aS_366 pc) := (sx_ite (p := fun l => sx_iOk prog_14_method_50_code l) (sx_ite (p := fun l => sx_iOk prog_14_method_50_code l) (sx_ite (p := fun l => sx_iOk prog_14_method_50_code l) (sx_iB_s aJ_366_0) (sx_iB_s aJ_366_1)) (sx_ite (p := fun l => sx_iOk prog_14_method_50_code l) (sx_iB_s aJ_366_2) (sx_iB_s aJ_366_3))) (sx_ite (p := fun l => sx_iOk prog_14_method_50_code l) (sx_ite (p := fun l => sx_iOk prog_14_method_50_code l) (sx_iB_s aJ_366_4) (sx_iB_s aJ_366_5)) (sx_ite (p := fun l => sx_iOk prog_14_method_50_code l) (sx_iB_s aJ_366_6) (sx_iB_s aJ_366_7))))
def aW_366 : Nat → Option (Instr × Nat) := fun pc => sx_iF (aS_366 pc) pc
theorem aX_366 : ∀ pc i len, aW_366 pc = some (i, len) → decode aM_366.1.2.1 pc = .ok (i, len) := fun pc i len h => sx_iF_s (aT_366 pc) h
def aI_367_0 : sx_IL := [(0, .iload_n 1, 1), (1, .i2l, 1), (2, .lconst 0, 1), (3, .aload_n 0, 1), (4, .getfield 683, 3), (7, .iconst 1, 1)]
theorem aJ_367_0 : sx_iB prog_14_method_53_code aI_367_0 = true := by decide +kernel
def aI_367_1 : sx_IL := [(8, .isub, 1), (9, .i2l, 1), (10, .invokestatic 513, 3), (13, .ifCond .eq 29, 3), (16, .iload_n 2, 1), (17, .i2l, 1)]
theorem aJ_367_1 : sx_iB prog_14_method_53_code aI_367_1 = true := by decide +kernel
def aI_367_2 : sx_IL := [(18, .lconst 0, 1), (19, .aload_n 0, 1), (20, .getfield 16, 3), (23, .iload_n 1, 1), (24, .iaload, 1), (25, .i2l, 1)]
theorem aJ_367_2 : sx_iB prog_14_method_53_code aI_367_2 = true := by decide +kernel
def aI_367_3 : sx_IL := [(26, .invokestatic 513, 3), (29, .ifCond .eq 13, 3), (32, .aload_n 0, 1), (33, .iload_n 1, 1), (34, .iconst 0, 1), (35, .iload_n 2, 1)]
theorem aJ_367_3 : sx_iB prog_14_method_53_code aI_367_3 = true := by decide +kernel
def aI_367_4 : sx_IL := [(36, .invokevirtual 694, 3), (39, .goto 6, 3), (42, .ldc2_w 590, 3), (45, .lreturn, 1)]
theorem aJ_367_4 : sx_iB prog_14_method_53_code aI_367_4 = true := by decide +kernel
def aS_367 (pc : Nat) : sx_IL := (if pc < 18 then (if pc < 8 then aI_367_0 else aI_367_1) else (if pc < 26 then aI_367_2 else (if pc < 36 then aI_367_3 else aI_367_4)))
theorem aT_367 (pc : Nat) : sx_iOk prog_14_method_53_code (aS_367 pc) := (sx_ite (p := fun l => sx_iOk prog_14_method_53_code l) (sx_ite (p := fun l => sx_iOk prog_14_method_53_code l) (sx_iB_s aJ_367_0) (sx_iB_s aJ_367_1)) (sx_ite (p := fun l => sx_iOk prog_14_method_53_code l) (sx_iB_s aJ_367_2) (sx_ite (p := fun l => sx_iOk prog_14_method_53_code l) (sx_iB_s aJ_367_3) (sx_iB_s aJ_367_4))))
def aW_367 : Nat → Option (Instr × Nat) := fun pc => sx_iF (aS_367 pc) pc
theorem aX_367 : ∀ pc i len, aW_367 pc = some (i, len) → decode aM_367.1.2.1 pc = .ok (i, len) := fun pc i len h => sx_iF_s (aT_367 pc) h
def aI_368_0 : sx_IL := [(0, .iload_n 3, 1), (1, .ifCond .ne 13, 3), (4, .aload_n 0, 1), (5, .iconst 0, 1), (6, .invokevirtual 568, 3), (9, .aload_n 0, 1)]
theorem aJ_368_0 : sx_iB prog_14_method_51_code aI_368_0 = true := by decide +kernel
def aI_368_1 : sx_IL := [(10, .invokevirtual 571, 3), (13, .lreturn, 1), (14, .iconst 0, 1), (15, .istore 4, 2), (17, .iconst 0, 1), (18, .istore 5, 2)]
theorem aJ_368_1 : sx_iB prog_14_method_51_code aI_368_1 = true := by decide +kernel
def aI_368_2 : sx_IL := [(20, .iload 5, 2), (22, .iload_n 3, 1), (23, .if_icmp .ge 122, 3), (26, .aload_n 0, 1), (27, .getfield 23, 3), (30, .iload 4, 2)]
theorem aJ_368_2 : sx_iB prog_14_method_51_code aI_368_2 = true := by decide +kernel
def aI_368_3 : sx_IL := [(32, .aload_n 0, 1), (33, .aload_n 0, 1), (34, .getfield 19, 3), (37, .bipush 64, 2), (39, .iload_n 1, 1), (40, .imul, 1)]
theorem aJ_368_3 : sx_iB prog_14_method_51_code aI_368_3 = true := by decide +kernel
def aI_368_4 : sx_IL := [(41, .iload_n 2, 1), (42, .iadd, 1), (43, .iload 5, 2), (45, .iadd, 1), (46, .laload, 1), (47, .invokevirtual 686, 3)]
theorem aJ_368_4 : sx_iB prog_14_method_51_code aI_368_4 = true := by decide +kernel
def aI_368_5 : sx_IL := [(50, .lastore, 1), (51, .aload_n 0, 1), (52, .getfield 26, 3), (55, .iload 4, 2), (57, .iconst 1, 1), (58, .iastore, 1)]
theorem aJ_368_5 : sx_iB prog_14_method_51_code aI_368_5 = true := by decide +kernel
def aI_368_6 : sx_IL := [(59, .iinc 4 1, 3), (62, .iload 4, 2), (64, .iconst 1, 1), (65, .if_icmp .le 74, 3), (68, .aload_n 0, 1), (69, .getfield 26, 3)]
theorem aJ_368_6 : sx_iB prog_14_method_51_code aI_368_6 = true := by decide +kernel
def aI_368_7 : sx_IL := [(72, .iload 4, 2), (74, .iconst 1, 1), (75, .isub, 1), (76, .iaload, 1), (77, .aload_n 0, 1), (78, .getfield 26, 3)]
theorem aJ_368_7 : sx_iB prog_14_method_51_code aI_368_7 = true := by decide +kernel
def aI_368_8 : sx_IL := [(81, .iload 4, 2), (83, .iconst 2, 1), (84, .isub, 1), (85, .iaload, 1), (86, .if_icmp .ne 53, 3), (89, .aload_n 0, 1)]
theorem aJ_368_8 : sx_iB prog_14_method_51_code aI_368_8 = true := by decide +kernel
def aI_368_9 : sx_IL := [(90, .getfield 23, 3), (93, .iload 4, 2), (95, .iconst 2, 1), (96, .isub, 1), (97, .aload_n 0, 1), (98, .aload_n 0, 1)]
theorem aJ_368_9 : sx_iB prog_14_method_51_code aI_368_9 = true := by decide +kernel
def aI_368_10 : sx_IL := [(99, .getfield 23, 3), (102, .iload 4, 2), (104, .iconst 2, 1), (105, .isub, 1), (106, .laload, 1), (107, .aload_n 0, 1)]
theorem aJ_368_10 : sx_iB prog_14_method_51_code aI_368_10 = true := by decide +kernel
def aI_368_11 : sx_IL := [(108, .getfield 23, 3), (111, .iload 4, 2), (113, .iconst 1, 1), (114, .isub, 1), (115, .laload, 1), (116, .invokevirtual 690, 3)]
theorem aJ_368_11 : sx_iB prog_14_method_51_code aI_368_11 = true := by decide +kernel
def aI_368_12 : sx_IL := [(119, .lastore, 1), (120, .aload_n 0, 1), (121, .getfield 26, 3), (124, .iload 4, 2), (126, .iconst 2, 1), (127, .isub, 1)]
theorem aJ_368_12 : sx_iB prog_14_method_51_code aI_368_12 = true := by decide +kernel
def aI_368_13 : sx_IL := [(128, .dup2, 1), (129, .iaload, 1), (130, .iconst 2, 1), (131, .imul, 1), (132, .iastore, 1), (133, .iinc 4 (-1), 3)]
theorem aJ_368_13 : sx_iB prog_14_method_51_code aI_368_13 = true := by decide +kernel
def aI_368_14 : sx_IL := [(136, .goto (-74), 3), (139, .iinc 5 1, 3), (142, .goto (-122), 3), (145, .iload 4, 2), (147, .iconst 1, 1), (148, .if_icmp .le 40, 3)]
theorem aJ_368_14 : sx_iB prog_14_method_51_code aI_368_14 = true := by decide +kernel
def aI_368_15 : sx_IL := [(151, .aload_n 0, 1), (152, .getfield 23, 3), (155, .iload 4, 2), (157, .iconst 2, 1), (158, .isub, 1), (159, .aload_n 0, 1)]
theorem aJ_368_15 : sx_iB prog_14_method_51_code aI_368_15 = true := by decide +kernel
def aI_368_16 : sx_IL := [(160, .aload_n 0, 1), (161, .getfield 23, 3), (164, .iload 4, 2), (166, .iconst 2, 1), (167, .isub, 1), (168, .laload, 1)]
theorem aJ_368_16 : sx_iB prog_14_method_51_code aI_368_16 = true := by decide +kernel
def aI_368_17 : sx_IL := [(169, .aload_n 0, 1), (170, .getfield 23, 3), (173, .iload 4, 2), (175, .iconst 1, 1), (176, .isub, 1), (177, .laload, 1)]
theorem aJ_368_17 : sx_iB prog_14_method_51_code aI_368_17 = true := by decide +kernel
def aI_368_18 : sx_IL := [(178, .invokevirtual 690, 3), (181, .lastore, 1), (182, .iinc 4 (-1), 3), (185, .goto (-40), 3), (188, .aload_n 0, 1), (189, .getfield 23, 3)]
theorem aJ_368_18 : sx_iB prog_14_method_51_code aI_368_18 = true := by decide +kernel
def aI_368_19 : sx_IL := [(192, .iconst 0, 1), (193, .laload, 1), (194, .lreturn, 1)]
theorem aJ_368_19 : sx_iB prog_14_method_51_code aI_368_19 = true := by decide +kernel
def aS_368 (pc : Nat) : sx_IL := (if pc < 99 then (if pc < 50 then (if pc < 20 then (if pc < 10 then aI_368_0 else aI_368_1) else (if pc < 32 then aI_368_2 else (if pc < 41 then aI_368_3 else aI_368_4))) else (if pc < 72 then (if pc < 59 then aI_368_5 else aI_368_6) else (if pc < 81 then aI_368_7 else (if pc < 90 then aI_368_8 else aI_368_9)))) else (if pc < 151 then (if pc < 119 then (if pc < 108 then aI_368_10 else aI_368_11) else (if pc < 128 then aI_368_12 else (if pc < 136 then aI_368_13 else aI_368_14))) else (if pc < 169 then (if pc < 160 then aI_368_15 else aI_368_16) else (if pc < 178 then aI_368_17 else (if pc < 192 then aI_368_18 else aI_368_19)))))
theorem aT_368 (pc : Nat) : sx_iOk prog_14_method_51_code (aS_368 pc) := (sx_ite (p := fun l => sx_iOk prog_14_method_51_code l) (sx_ite (p := fun l => sx_iOk prog_14_method_51_code l) (sx_ite (p := fun l => sx_iOk prog_14_method_51_code l) (sx_ite (p := fun l => sx_iOk prog_14_method_51_code l) (sx_iB_s aJ_368_0) (sx_iB_s aJ_368_1)) (sx_ite (p := fun l => sx_iOk prog_14_method_51_code l) (sx_iB_s aJ_368_2) (sx_ite (p := fun l => sx_iOk prog_14_method_51_code l) (sx_iB_s aJ_368_3) (sx_iB_s aJ_368_4)))) (sx_ite (p := fun l => sx_iOk prog_14_method_51_code l) (sx_ite (p := fun l => sx_iOk prog_14_method_51_code l) (sx_iB_s aJ_368_5) (sx_iB_s aJ_368_6)) (sx_ite (p := fun l => sx_iOk prog_14_method_51_code l) (sx_iB_s aJ_368_7) (sx_ite (p := fun l => sx_iOk prog_14_method_51_code l) (sx_iB_s aJ_368_8) (sx_iB_s aJ_368_9))))) (sx_ite (p := fun l => sx_iOk prog_14_method_51_code l) (sx_ite (p := fun l => sx_iOk prog_14_method_51_code l) (sx_ite (p := fun l => sx_iOk prog_14_method_51_code l) (sx_iB_s aJ_368_10) (sx_iB_s aJ_368_11)) (sx_ite (p := fun l => sx_iOk prog_14_method_51_code l) (sx_iB_s aJ_368_12) (sx_ite (p := fun l => sx_iOk prog_14_method_51_code l) (sx_iB_s aJ_368_13) (sx_iB_s aJ_368_14)))) (sx_ite (p := fun l => sx_iOk prog_14_method_51_code l) (sx_ite (p := fun l => sx_iOk prog_14_method_51_code l) (sx_iB_s aJ_368_15) (sx_iB_s aJ_368_16)) (sx_ite (p := fun l => sx_iOk prog_14_method_51_code l) (sx_iB_s aJ_368_17) (sx_ite (p := fun l => sx_iOk prog_14_method_51_code l) (sx_iB_s aJ_368_18) (sx_iB_s aJ_368_19))))))
def aW_368 : Nat → Option (Instr × Nat) := fun pc => sx_iF (aS_368 pc) pc
theorem aX_368 : ∀ pc i len, aW_368 pc = some (i, len) → decode aM_368.1.2.1 pc = .ok (i, len) := fun pc i len h => sx_iF_s (aT_368 pc) h
def aI_369_0 : sx_IL := [(0, .aload_n 0, 1), (1, .iconst 0, 1), (2, .invokevirtual 568, 3), (5, .aload_n 0, 1), (6, .iconst 0, 1), (7, .invokevirtual 561, 3)]
theorem aJ_369_0 : sx_iB prog_14_method_47_code aI_369_0 = true := by decide +kernel
def aI_369_1 : sx_IL := [(10, .aload_n 0, 1), (11, .lload_n 1, 1), (12, .invokevirtual 574, 3), (15, .aload_n 0, 1), (16, .invokevirtual 571, 3), (19, .lreturn, 1)]
theorem aJ_369_1 : sx_iB prog_14_method_47_code aI_369_1 = true := by decide +kernel
def aS_369 (pc : Nat) : sx_IL := (if pc < 10 then aI_369_0 else aI_369_1)
theorem aT_369 (pc : Nat) : sx_iOk prog_14_method_47_code (aS_369 pc) := (sx_ite (p := fun l => sx_iOk prog_14_method_47_code l) (sx_iB_s aJ_369_0) (sx_iB_s aJ_369_1))
def aW_369 : Nat → Option (Instr × Nat) := fun pc => sx_iF (aS_369 pc) pc
theorem aX_369 : ∀ pc i len, aW_369 pc = some (i, len) → decode aM_369.1.2.1 pc = .ok (i, len) := fun pc i len h => sx_iF_s (aT_369 pc) h
def aI_370_0 : sx_IL := [(0, .aload_n 0, 1), (1, .iconst 0, 1), (2, .invokevirtual 568, 3), (5, .aload_n 0, 1), (6, .iconst 1, 1), (7, .invokevirtual 561, 3)]
theorem aJ_370_0 : sx_iB prog_14_method_48_code aI_370_0 = true := by decide +kernel
def aI_370_1 : sx_IL := [(10, .aload_n 0, 1), (11, .lload_n 1, 1), (12, .invokevirtual 574, 3), (15, .aload_n 0, 1), (16, .lload_n 3, 1), (17, .invokevirtual 574, 3)]
theorem aJ_370_1 : sx_iB prog_14_method_48_code aI_370_1 = true := by decide +kernel
def aI_370_2 : sx_IL := [(20, .aload_n 0, 1), (21, .invokevirtual 571, 3), (24, .lreturn, 1)]
theorem aJ_370_2 : sx_iB prog_14_method_48_code aI_370_2 = true := by decide +kernel
def aS_370 (pc : Nat) : sx_IL := (if pc < 10 then aI_370_0 else (if pc < 20 then aI_370_1 else aI_370_2))
theorem aT_370 (pc : Nat) : sx_iOk prog_14_method_48_code (aS_370 pc) := (sx_ite (p := fun l => sx_iOk prog_14_method_48_code l) (sx_iB_s aJ_370_0) (sx_ite (p := fun l => sx_iOk prog_14_method_48_code l) (sx_iB_s aJ_370_1) (sx_iB_s aJ_370_2)))
def aW_370 : Nat → Option (Instr × Nat) := fun pc => sx_iF (aS_370 pc) pc
theorem aX_370 : ∀ pc i len, aW_370 pc = some (i, len) → decode aM_370.1.2.1 pc = .ok (i, len) := fun pc i len h => sx_iF_s (aT_370 pc) h
def aI_371_0 : sx_IL := [(0, .iload_n 1, 1), (1, .i2l, 1), (2, .lconst 0, 1), (3, .aload_n 0, 1), (4, .getfield 683, 3), (7, .iconst 1, 1)]
theorem aJ_371_0 : sx_iB prog_14_method_55_code aI_371_0 = true := by decide +kernel
def aI_371_1 : sx_IL := [(8, .isub, 1), (9, .i2l, 1), (10, .invokestatic 513, 3), (13, .ifCond .eq 32, 3), (16, .iload_n 3, 1), (17, .i2l, 1)]
theorem aJ_371_1 : sx_iB prog_14_method_55_code aI_371_1 = true := by decide +kernel
def aI_371_2 : sx_IL := [(18, .lconst 1, 1), (19, .aload_n 0, 1), (20, .getfield 16, 3), (23, .iload_n 1, 1), (24, .iaload, 1), (25, .i2l, 1)]
theorem aJ_371_2 : sx_iB prog_14_method_55_code aI_371_2 = true := by decide +kernel
def aI_371_3 : sx_IL := [(26, .invokestatic 513, 3), (29, .ifCond .eq 16, 3), (32, .iload_n 2, 1), (33, .i2l, 1), (34, .lconst 0, 1), (35, .iload_n 3, 1)]
theorem aJ_371_3 : sx_iB prog_14_method_55_code aI_371_3 = true := by decide +kernel
def aI_371_4 : sx_IL := [(36, .iconst 1, 1), (37, .isub, 1), (38, .i2l, 1), (39, .invokestatic 513, 3), (42, .ifCond .ne 5, 3), (45, .iconst (-1), 1)]
theorem aJ_371_4 : sx_iB prog_14_method_55_code aI_371_4 = true := by decide +kernel
def aI_371_5 : sx_IL := [(46, .ireturn, 1), (47, .aload_n 0, 1), (48, .iconst 0, 1), (49, .putfield 697, 3), (52, .iconst 0, 1), (53, .istore 4, 2)]
theorem aJ_371_5 : sx_iB prog_14_method_55_code aI_371_5 = true := by decide +kernel
def aI_371_6 : sx_IL := [(55, .iload_n 3, 1), (56, .istore 5, 2), (58, .iload 5, 2), (60, .iconst 1, 1), (61, .if_icmp .le 114, 3), (64, .iload 5, 2)]
theorem aJ_371_6 : sx_iB prog_14_method_55_code aI_371_6 = true := by decide +kernel
def aI_371_7 : sx_IL := [(66, .invokestatic 700, 3), (69, .istore 6, 2), (71, .iload_n 2, 1), (72, .iload 4, 2), (74, .iload 6, 2), (76, .iadd, 1)]
theorem aJ_371_7 : sx_iB prog_14_method_55_code aI_371_7 = true := by decide +kernel
def aI_371_8 : sx_IL := [(77, .if_icmp .ge 7, 3), (80, .iconst 1, 1), (81, .goto 4, 3), (84, .iconst 0, 1), (85, .istore 7, 2), (87, .aload_n 0, 1)]
theorem aJ_371_8 : sx_iB prog_14_method_55_code aI_371_8 = true := by decide +kernel
def aI_371_9 : sx_IL := [(88, .getfield 29, 3), (91, .aload_n 0, 1), (92, .getfield 697, 3), (95, .iload 7, 2), (97, .ifCond .eq 21, 3), (100, .aload_n 0, 1)]
theorem aJ_371_9 : sx_iB prog_14_method_55_code aI_371_9 = true := by decide +kernel
def aI_371_10 : sx_IL := [(101, .iload_n 1, 1), (102, .iload 4, 2), (104, .iload 6, 2), (106, .iadd, 1), (107, .iload 5, 2), (109, .iload 6, 2)]
theorem aJ_371_10 : sx_iB prog_14_method_55_code aI_371_10 = true := by decide +kernel
def aI_371_11 : sx_IL := [(111, .isub, 1), (112, .invokevirtual 694, 3), (115, .goto 12, 3), (118, .aload_n 0, 1), (119, .iload_n 1, 1), (120, .iload 4, 2)]
theorem aJ_371_11 : sx_iB prog_14_method_55_code aI_371_11 = true := by decide +kernel
def aI_371_12 : sx_IL := [(122, .iload 6, 2), (124, .invokevirtual 694, 3), (127, .lastore, 1), (128, .aload_n 0, 1), (129, .dup, 1), (130, .getfield 697, 3)]
theorem aJ_371_12 : sx_iB prog_14_method_55_code aI_371_12 = true := by decide +kernel
def aI_371_13 : sx_IL := [(133, .iconst 1, 1), (134, .iadd, 1), (135, .putfield 697, 3), (138, .iload 7, 2), (140, .ifCond .eq 8, 3), (143, .iload 4, 2)]
theorem aJ_371_13 : sx_iB prog_14_method_55_code aI_371_13 = true := by decide +kernel
def aI_371_14 : sx_IL := [(145, .goto 8, 3), (148, .iload 4, 2), (150, .iload 6, 2), (152, .iadd, 1), (153, .istore 4, 2), (155, .iload 7, 2)]
theorem aJ_371_14 : sx_iB prog_14_method_55_code aI_371_14 = true := by decide +kernel
def aI_371_15 : sx_IL := [(157, .ifCond .eq 8, 3), (160, .iload 6, 2), (162, .goto 8, 3), (165, .iload 5, 2), (167, .iload 6, 2), (169, .isub, 1)]
theorem aJ_371_15 : sx_iB prog_14_method_55_code aI_371_15 = true := by decide +kernel
def aI_371_16 : sx_IL := [(170, .istore 5, 2), (172, .goto (-114), 3), (175, .aload_n 0, 1), (176, .invokevirtual 703, 3), (179, .ireturn, 1)]
theorem aJ_371_16 : sx_iB prog_14_method_55_code aI_371_16 = true := by decide +kernel
def aS_371 (pc : Nat) : sx_IL := (if pc < 77 then (if pc < 36 then (if pc < 18 then (if pc < 8 then aI_371_0 else aI_371_1) else (if pc < 26 then aI_371_2 else aI_371_3)) else (if pc < 55 then (if pc < 46 then aI_371_4 else aI_371_5) else (if pc < 66 then aI_371_6 else aI_371_7))) else (if pc < 122 then (if pc < 101 then (if pc < 88 then aI_371_8 else aI_371_9) else (if pc < 111 then aI_371_10 else aI_371_11)) else (if pc < 145 then (if pc < 133 then aI_371_12 else aI_371_13) else (if pc < 157 then aI_371_14 else (if pc < 170 then aI_371_15 else aI_371_16)))))
theorem aT_371 (pc : Nat) : sx_iOk prog_14_method_55_code (aS_371 pc) := (sx_ite (p := fun l => sx_iOk prog_14_method_55_code l) (sx_ite (p := fun l => sx_iOk prog_14_method_55_code l) (sx_ite (p := fun l => sx_iOk prog_14_method_55_code l) (sx_ite (p := fun l => sx_iOk prog_14_method_55_code l) (sx_iB_s aJ_371_0) (sx_iB_s aJ_371_1)) (sx_ite (p := fun l => sx_iOk prog_14_method_55_code l) (sx_iB_s aJ_371_2) (sx_iB_s aJ_371_3))) (sx_ite (p := fun l => sx_iOk prog_14_method_55_code l) (sx_ite (p := fun l => sx_iOk prog_14_method_55_code l) (sx_iB_s aJ_371_4) (sx_iB_s aJ_371_5)) (sx_ite (p := fun l => sx_iOk prog_14_method_55_code l) (sx_iB_s aJ_371_6) (sx_iB_s aJ_371_7)))) (sx_ite (p := fun l => sx_iOk prog_14_method_55_code l) (sx_ite (p := fun l => sx_iOk prog_14_method_55_code l) (sx_ite (p := fun l => sx_iOk prog_14_method_55_code l) (sx_iB_s aJ_371_8) (sx_iB_s aJ_371_9)) (sx_ite (p := fun l => sx_iOk prog_14_method_55_code l) (sx_iB_s aJ_371_10) (sx_iB_s aJ_371_11))) (sx_ite (p := fun l => sx_iOk prog_14_method_55_code l) (sx_ite (p := fun l => sx_iOk prog_14_method_55_code l) (sx_iB_s aJ_371_12) (sx_iB_s aJ_371_13)) (sx_ite (p := fun l => sx_iOk prog_14_method_55_code l) (sx_iB_s aJ_371_14) (sx_ite (p := fun l => sx_iOk prog_14_method_55_code l) (sx_iB_s aJ_371_15) (sx_iB_s aJ_371_16))))))
def aW_371 : Nat → Option (Instr × Nat) := fun pc => sx_iF (aS_371 pc) pc
theorem aX_371 : ∀ pc i len, aW_371 pc = some (i, len) → decode aM_371.1.2.1 pc = .ok (i, len) := fun pc i len h => sx_iF_s (aT_371 pc) h
def aI_372_0 : sx_IL := [(0, .iconst 1, 1), (1, .istore_n 1, 1), (2, .iconst 2, 1), (3, .iload_n 1, 1), (4, .imul, 1), (5, .iload_n 0, 1)]
theorem aJ_372_0 : sx_iB prog_14_method_52_code aI_372_0 = true := by decide +kernel
def aI_372_1 : sx_IL := [(6, .if_icmp .ge 10, 3), (9, .iconst 2, 1), (10, .iload_n 1, 1), (11, .imul, 1), (12, .istore_n 1, 1), (13, .goto (-11), 3)]
theorem aJ_372_1 : sx_iB prog_14_method_52_code aI_372_1 = true := by decide +kernel
def aI_372_2 : sx_IL := [(16, .iload_n 1, 1), (17, .ireturn, 1)]
theorem aJ_372_2 : sx_iB prog_14_method_52_code aI_372_2 = true := by decide +kernel
def aS_372 (pc : Nat) : sx_IL := (if pc < 6 then aI_372_0 else (if pc < 16 then aI_372_1 else aI_372_2))
theorem aT_372 (pc : Nat) : sx_iOk prog_14_method_52_code (aS_372 pc) := (sx_ite (p := fun l => sx_iOk prog_14_method_52_code l) (sx_iB_s aJ_372_0) (sx_ite (p := fun l => sx_iOk prog_14_method_52_code l) (sx_iB_s aJ_372_1) (sx_iB_s aJ_372_2)))
def aW_372 : Nat → Option (Instr × Nat) := fun pc => sx_iF (aS_372 pc) pc
theorem aX_372 : ∀ pc i len, aW_372 pc = some (i, len) → decode aM_372.1.2.1 pc = .ok (i, len) := fun pc i len h => sx_iF_s (aT_372 pc) h
def aI_373_0 : sx_IL := [(0, .aload_n 0, 1), (1, .iconst 0, 1), (2, .putfield 520, 3), (5, .aload_n 0, 1), (6, .getfield 697, 3), (9, .iconst 1, 1)]
theorem aJ_373_0 : sx_iB prog_14_method_54_code aI_373_0 = true := by decide +kernel
def aI_373_1 : sx_IL := [(10, .isub, 1), (11, .istore_n 1, 1), (12, .iload_n 1, 1), (13, .ifCond .lt 52, 3), (16, .iconst 0, 1), (17, .istore_n 2, 1)]
theorem aJ_373_1 : sx_iB prog_14_method_54_code aI_373_1 = true := by decide +kernel
def aI_373_2 : sx_IL := [(18, .iload_n 2, 1), (19, .bipush 8, 2), (21, .if_icmp .ge 38, 3), (24, .aload_n 0, 1), (25, .getfield 13, 3), (28, .aload_n 0, 1)]
theorem aJ_373_2 : sx_iB prog_14_method_54_code aI_373_2 = true := by decide +kernel
def aI_373_3 : sx_IL := [(29, .getfield 520, 3), (32, .aload_n 0, 1), (33, .getfield 29, 3), (36, .iload_n 1, 1), (37, .laload, 1), (38, .iload_n 2, 1)]
theorem aJ_373_3 : sx_iB prog_14_method_54_code aI_373_3 = true := by decide +kernel
def aI_373_4 : sx_IL := [(39, .invokestatic 622, 3), (42, .iastore, 1), (43, .aload_n 0, 1), (44, .dup, 1), (45, .getfield 520, 3), (48, .iconst 1, 1)]
theorem aJ_373_4 : sx_iB prog_14_method_54_code aI_373_4 = true := by decide +kernel
def aI_373_5 : sx_IL := [(49, .iadd, 1), (50, .putfield 520, 3), (53, .iinc 2 1, 3), (56, .goto (-38), 3), (59, .iinc 1 (-1), 3), (62, .goto (-50), 3)]
theorem aJ_373_5 : sx_iB prog_14_method_54_code aI_373_5 = true := by decide +kernel
def aI_373_6 : sx_IL := [(65, .aload_n 0, 1), (66, .getfield 520, 3), (69, .ireturn, 1)]
theorem aJ_373_6 : sx_iB prog_14_method_54_code aI_373_6 = true := by decide +kernel
def aS_373 (pc : Nat) : sx_IL := (if pc < 29 then (if pc < 10 then aI_373_0 else (if pc < 18 then aI_373_1 else aI_373_2)) else (if pc < 49 then (if pc < 39 then aI_373_3 else aI_373_4) else (if pc < 65 then aI_373_5 else aI_373_6)))
theorem aT_373 (pc : Nat) : sx_iOk prog_14_method_54_code (aS_373 pc) := (sx_ite (p := fun l => sx_iOk prog_14_method_54_code l) (sx_ite (p := fun l => sx_iOk prog_14_method_54_code l) (sx_iB_s aJ_373_0) (sx_ite (p := fun l => sx_iOk prog_14_method_54_code l) (sx_iB_s aJ_373_1) (sx_iB_s aJ_373_2))) (sx_ite (p := fun l => sx_iOk prog_14_method_54_code l) (sx_ite (p := fun l => sx_iOk prog_14_method_54_code l) (sx_iB_s aJ_373_3) (sx_iB_s aJ_373_4)) (sx_ite (p := fun l => sx_iOk prog_14_method_54_code l) (sx_iB_s aJ_373_5) (sx_iB_s aJ_373_6))))
def aW_373 : Nat → Option (Instr × Nat) := fun pc => sx_iF (aS_373 pc) pc
theorem aX_373 : ∀ pc i len, aW_373 pc = some (i, len) → decode aM_373.1.2.1 pc = .ok (i, len) := fun pc i len h => sx_iF_s (aT_373 pc) h
def aI_374_0 : sx_IL := [(0, .iload_n 1, 1), (1, .i2l, 1), (2, .lconst 0, 1), (3, .aload_n 0, 1), (4, .getfield 683, 3), (7, .iconst 1, 1)]
theorem aJ_374_0 : sx_iB prog_14_method_56_code aI_374_0 = true := by decide +kernel
def aI_374_1 : sx_IL := [(8, .isub, 1), (9, .i2l, 1), (10, .invokestatic 513, 3), (13, .ifCond .eq 30, 3), (16, .iload_n 3, 1), (17, .i2l, 1)]
theorem aJ_374_1 : sx_iB prog_14_method_56_code aI_374_1 = true := by decide +kernel
def aI_374_2 : sx_IL := [(18, .lconst 1, 1), (19, .aload_n 0, 1), (20, .getfield 16, 3), (23, .iload_n 1, 1), (24, .iaload, 1), (25, .i2l, 1)]
theorem aJ_374_2 : sx_iB prog_14_method_56_code aI_374_2 = true := by decide +kernel
def aI_374_3 : sx_IL := [(26, .invokestatic 513, 3), (29, .ifCond .eq 14, 3), (32, .iload_n 2, 1), (33, .i2l, 1), (34, .lconst 1, 1), (35, .iload_n 3, 1)]
theorem aJ_374_3 : sx_iB prog_14_method_56_code aI_374_3 = true := by decide +kernel
def aI_374_4 : sx_IL := [(36, .i2l, 1), (37, .invokestatic 513, 3), (40, .ifCond .ne 5, 3), (43, .iconst (-1), 1), (44, .ireturn, 1), (45, .aload_n 0, 1)]
theorem aJ_374_4 : sx_iB prog_14_method_56_code aI_374_4 = true := by decide +kernel
def aI_374_5 : sx_IL := [(46, .iconst 0, 1), (47, .putfield 697, 3), (50, .iconst 0, 1), (51, .istore 4, 2), (53, .iload_n 3, 1), (54, .istore 5, 2)]
theorem aJ_374_5 : sx_iB prog_14_method_56_code aI_374_5 = true := by decide +kernel
def aI_374_6 : sx_IL := [(56, .iload_n 2, 1), (57, .istore 6, 2), (59, .iconst 1, 1), (60, .istore 7, 2), (62, .iload 6, 2), (64, .iload 5, 2)]
theorem aJ_374_6 : sx_iB prog_14_method_56_code aI_374_6 = true := by decide +kernel
def aI_374_7 : sx_IL := [(66, .if_icmp .ge 146, 3), (69, .iload 5, 2), (71, .invokestatic 700, 3), (74, .istore 8, 2), (76, .iload 6, 2), (78, .iload 8, 2)]
theorem aJ_374_7 : sx_iB prog_14_method_56_code aI_374_7 = true := by decide +kernel
def aI_374_8 : sx_IL := [(80, .if_icmp .gt 7, 3), (83, .iconst 1, 1), (84, .goto 4, 3), (87, .iconst 0, 1), (88, .istore 9, 2), (90, .aload_n 0, 1)]
theorem aJ_374_8 : sx_iB prog_14_method_56_code aI_374_8 = true := by decide +kernel
def aI_374_9 : sx_IL := [(91, .getfield 29, 3), (94, .aload_n 0, 1), (95, .getfield 697, 3), (98, .iload 9, 2), (100, .ifCond .eq 21, 3), (103, .aload_n 0, 1)]
theorem aJ_374_9 : sx_iB prog_14_method_56_code aI_374_9 = true := by decide +kernel
def aI_374_10 : sx_IL := [(104, .iload_n 1, 1), (105, .iload 4, 2), (107, .iload 8, 2), (109, .iadd, 1), (110, .iload 5, 2), (112, .iload 8, 2)]
theorem aJ_374_10 : sx_iB prog_14_method_56_code aI_374_10 = true := by decide +kernel
def aI_374_11 : sx_IL := [(114, .isub, 1), (115, .invokevirtual 694, 3), (118, .goto 12, 3), (121, .aload_n 0, 1), (122, .iload_n 1, 1), (123, .iload 4, 2)]
theorem aJ_374_11 : sx_iB prog_14_method_56_code aI_374_11 = true := by decide +kernel
def aI_374_12 : sx_IL := [(125, .iload 8, 2), (127, .invokevirtual 694, 3), (130, .lastore, 1), (131, .aload_n 0, 1), (132, .dup, 1), (133, .getfield 697, 3)]
theorem aJ_374_12 : sx_iB prog_14_method_56_code aI_374_12 = true := by decide +kernel
def aI_374_13 : sx_IL := [(136, .iconst 1, 1), (137, .iadd, 1), (138, .putfield 697, 3), (141, .iload 7, 2), (143, .ifCond .eq 12, 3), (146, .iload 9, 2)]
theorem aJ_374_13 : sx_iB prog_14_method_56_code aI_374_13 = true := by decide +kernel
def aI_374_14 : sx_IL := [(148, .ifCond .eq 7, 3), (151, .iconst 1, 1), (152, .goto 4, 3), (155, .iconst 0, 1), (156, .istore 7, 2), (158, .iload 9, 2)]
theorem aJ_374_14 : sx_iB prog_14_method_56_code aI_374_14 = true := by decide +kernel
def aI_374_15 : sx_IL := [(160, .ifCond .eq 8, 3), (163, .iload 6, 2), (165, .goto 8, 3), (168, .iload 6, 2), (170, .iload 8, 2), (172, .isub, 1)]
theorem aJ_374_15 : sx_iB prog_14_method_56_code aI_374_15 = true := by decide +kernel
def aI_374_16 : sx_IL := [(173, .istore 6, 2), (175, .iload 9, 2), (177, .ifCond .eq 8, 3), (180, .iload 4, 2), (182, .goto 8, 3), (185, .iload 4, 2)]
theorem aJ_374_16 : sx_iB prog_14_method_56_code aI_374_16 = true := by decide +kernel
def aI_374_17 : sx_IL := [(187, .iload 8, 2), (189, .iadd, 1), (190, .istore 4, 2), (192, .iload 9, 2), (194, .ifCond .eq 8, 3), (197, .iload 8, 2)]
theorem aJ_374_17 : sx_iB prog_14_method_56_code aI_374_17 = true := by decide +kernel
def aI_374_18 : sx_IL := [(199, .goto 8, 3), (202, .iload 5, 2), (204, .iload 8, 2), (206, .isub, 1), (207, .istore 5, 2), (209, .goto (-147), 3)]
theorem aJ_374_18 : sx_iB prog_14_method_56_code aI_374_18 = true := by decide +kernel
def aI_374_19 : sx_IL := [(212, .iload 7, 2), (214, .ifCond .ne 31, 3), (217, .aload_n 0, 1), (218, .getfield 29, 3), (221, .aload_n 0, 1), (222, .getfield 697, 3)]
theorem aJ_374_19 : sx_iB prog_14_method_56_code aI_374_19 = true := by decide +kernel
def aI_374_20 : sx_IL := [(225, .aload_n 0, 1), (226, .iload_n 1, 1), (227, .iload 4, 2), (229, .iload 5, 2), (231, .invokevirtual 694, 3), (234, .lastore, 1)]
theorem aJ_374_20 : sx_iB prog_14_method_56_code aI_374_20 = true := by decide +kernel
def aI_374_21 : sx_IL := [(235, .aload_n 0, 1), (236, .dup, 1), (237, .getfield 697, 3), (240, .iconst 1, 1), (241, .iadd, 1), (242, .putfield 697, 3)]
theorem aJ_374_21 : sx_iB prog_14_method_56_code aI_374_21 = true := by decide +kernel
def aI_374_22 : sx_IL := [(245, .aload_n 0, 1), (246, .invokevirtual 703, 3), (249, .ireturn, 1)]
theorem aJ_374_22 : sx_iB prog_14_method_56_code aI_374_22 = true := by decide +kernel
def aS_374 (pc : Nat) : sx_IL := (if pc < 114 then (if pc < 46 then (if pc < 18 then (if pc < 8 then aI_374_0 else aI_374_1) else (if pc < 26 then aI_374_2 else (if pc < 36 then aI_374_3 else aI_374_4))) else (if pc < 80 then (if pc < 56 then aI_374_5 else (if pc < 66 then aI_374_6 else aI_374_7)) else (if pc < 91 then aI_374_8 else (if pc < 104 then aI_374_9 else aI_374_10)))) else (if pc < 187 then (if pc < 148 then (if pc < 125 then aI_374_11 else (if pc < 136 then aI_374_12 else aI_374_13)) else (if pc < 160 then aI_374_14 else (if pc < 173 then aI_374_15 else aI_374_16))) else (if pc < 225 then (if pc < 199 then aI_374_17 else (if pc < 212 then aI_374_18 else aI_374_19)) else (if pc < 235 then aI_374_20 else (if pc < 245 then aI_374_21 else aI_374_22)))))
theorem aT_374 (pc : Nat) : sx_iOk prog_14_method_56_code (aS_374 pc) := (sx_ite (p := fun l => sx_iOk prog_14_method_56_code l) (sx_ite (p := fun l => sx_iOk prog_14_method_56_code l) (sx_ite (p := fun l => sx_iOk prog_14_method_56_code l) (sx_ite (p := fun l => sx_iOk prog_14_method_56_code l) (sx_iB_s aJ_374_0) (sx_iB_s aJ_374_1)) (sx_ite (p := fun l => sx_iOk prog_14_method_56_code l) (sx_iB_s aJ_374_2) (sx_ite (p := fun l => sx_iOk prog_14_method_56_code l) (sx_iB_s aJ_374_3) (sx_iB_s aJ_374_4)))) (sx_ite (p := fun l => sx_iOk prog_14_method_56_code l) (sx_ite (p := fun l => sx_iOk prog_14_method_56_code l) (sx_iB_s aJ_374_5) (sx_ite (p := fun l => sx_iOk prog_14_method_56_code l) (sx_iB_s aJ_374_6) (sx_iB_s aJ_374_7))) (sx_ite (p := fun l => sx_iOk prog_14_method_56_code l) (sx_iB_s aJ_374_8) (sx_ite (p := fun l => sx_iOk prog_14_method_56_code l) (sx_iB_s aJ_374_9) (sx_iB_s aJ_374_10))))) (sx_ite (p := fun l => sx_iOk prog_14_method_56_code l) (sx_ite (p := fun l => sx_iOk prog_14_method_56_code l) (sx_ite (p := fun l => sx_iOk prog_14_method_56_code l) (sx_iB_s aJ_374_11) (sx_ite (p := fun l => sx_iOk prog_14_method_56_code l) (sx_iB_s aJ_374_12) (sx_iB_s aJ_374_13))) (sx_ite (p := fun l => sx_iOk prog_14_method_56_code l) (sx_iB_s aJ_374_14) (sx_ite (p := fun l => sx_iOk prog_14_method_56_code l) (sx_iB_s aJ_374_15) (sx_iB_s aJ_374_16)))) (sx_ite (p := fun l => sx_iOk prog_14_method_56_code l) (sx_ite (p := fun l => sx_iOk prog_14_method_56_code l) (sx_iB_s aJ_374_17) (sx_ite (p := fun l => sx_iOk prog_14_method_56_code l) (sx_iB_s aJ_374_18) (sx_iB_s aJ_374_19))) (sx_ite (p := fun l => sx_iOk prog_14_method_56_code l) (sx_iB_s aJ_374_20) (sx_ite (p := fun l => sx_iOk prog_14_method_56_code l) (sx_iB_s aJ_374_21) (sx_iB_s aJ_374_22))))))
def aW_374 : Nat → Option (Instr × Nat) := fun pc => sx_iF (aS_374 pc) pc
theorem aX_374 : ∀ pc i len, aW_374 pc = some (i, len) → decode aM_374.1.2.1 pc = .ok (i, len) := fun pc i len h => sx_iF_s (aT_374 pc) h
def aI_375_0 : sx_IL := [(0, .iload 4, 2), (2, .i2l, 1), (3, .lconst 1, 1), (4, .ldc2_w 707, 3), (7, .invokestatic 513, 3), (10, .ifCond .eq 17, 3)]
theorem aJ_375_0 : sx_iB prog_14_method_58_code aI_375_0 = true := by decide +kernel
def aI_375_1 : sx_IL := [(13, .iload_n 3, 1), (14, .i2l, 1), (15, .lconst 0, 1), (16, .iload 4, 2), (18, .iconst 1, 1), (19, .isub, 1)]
theorem aJ_375_1 : sx_iB prog_14_method_58_code aI_375_1 = true := by decide +kernel
def aI_375_2 : sx_IL := [(20, .i2l, 1), (21, .invokestatic 513, 3), (24, .ifCond .ne 5, 3), (27, .iconst (-1), 1), (28, .ireturn, 1), (29, .aload_n 0, 1)]
theorem aJ_375_2 : sx_iB prog_14_method_58_code aI_375_2 = true := by decide +kernel
def aI_375_3 : sx_IL := [(30, .getfield 517, 3), (33, .istore 7, 2), (35, .aload_n 0, 1), (36, .iconst 0, 1), (37, .putfield 517, 3), (40, .iconst 0, 1)]
theorem aJ_375_3 : sx_iB prog_14_method_58_code aI_375_3 = true := by decide +kernel
def aI_375_4 : sx_IL := [(41, .istore 8, 2), (43, .iload 4, 2), (45, .istore 9, 2), (47, .iload_n 3, 1), (48, .istore 10, 2), (50, .iload 9, 2)]
theorem aJ_375_4 : sx_iB prog_14_method_58_code aI_375_4 = true := by decide +kernel
def aI_375_5 : sx_IL := [(52, .iconst 1, 1), (53, .if_icmp .le 73, 3), (56, .iload 9, 2), (58, .invokestatic 700, 3), (61, .istore 11, 2), (63, .aload_n 0, 1)]
theorem aJ_375_5 : sx_iB prog_14_method_58_code aI_375_5 = true := by decide +kernel
def aI_375_6 : sx_IL := [(64, .getfield 32, 3), (67, .iload 8, 2), (69, .iload 10, 2), (71, .iload 11, 2), (73, .if_icmp .ge 7, 3), (76, .iconst 1, 1)]
theorem aJ_375_6 : sx_iB prog_14_method_58_code aI_375_6 = true := by decide +kernel
def aI_375_7 : sx_IL := [(77, .goto 4, 3), (80, .iconst 0, 1), (81, .bastore, 1), (82, .iload 10, 2), (84, .iload 11, 2), (86, .if_icmp .ge 8, 3)]
theorem aJ_375_7 : sx_iB prog_14_method_58_code aI_375_7 = true := by decide +kernel
def aI_375_8 : sx_IL := [(89, .iload 11, 2), (91, .goto 8, 3), (94, .iload 9, 2), (96, .iload 11, 2), (98, .isub, 1), (99, .istore 9, 2)]
theorem aJ_375_8 : sx_iB prog_14_method_58_code aI_375_8 = true := by decide +kernel
def aI_375_9 : sx_IL := [(101, .iload 10, 2), (103, .iload 11, 2), (105, .if_icmp .ge 8, 3), (108, .iload 10, 2), (110, .goto 8, 3), (113, .iload 10, 2)]
theorem aJ_375_9 : sx_iB prog_14_method_58_code aI_375_9 = true := by decide +kernel
def aI_375_10 : sx_IL := [(115, .iload 11, 2), (117, .isub, 1), (118, .istore 10, 2), (120, .iinc 8 1, 3), (123, .goto (-73), 3), (126, .iload 7, 2)]
theorem aJ_375_10 : sx_iB prog_14_method_58_code aI_375_10 = true := by decide +kernel
def aI_375_11 : sx_IL := [(128, .bipush 8, 2), (130, .iload 8, 2), (132, .imul, 1), (133, .if_icmp .eq 5, 3), (136, .iconst 0, 1), (137, .ireturn, 1)]
theorem aJ_375_11 : sx_iB prog_14_method_58_code aI_375_11 = true := by decide +kernel
def aI_375_12 : sx_IL := [(138, .aload_n 0, 1), (139, .lload_n 1, 1), (140, .invokevirtual 686, 3), (143, .lstore 11, 2), (145, .iconst 0, 1), (146, .istore 13, 2)]
theorem aJ_375_12 : sx_iB prog_14_method_58_code aI_375_12 = true := by decide +kernel
def aI_375_13 : sx_IL := [(148, .iload 13, 2), (150, .iload 8, 2), (152, .if_icmp .ge 53, 3), (155, .aload_n 0, 1), (156, .iload 13, 2), (158, .invokevirtual 709, 3)]
theorem aJ_375_13 : sx_iB prog_14_method_58_code aI_375_13 = true := by decide +kernel
def aI_375_14 : sx_IL := [(161, .lstore 14, 2), (163, .aload_n 0, 1), (164, .getfield 32, 3), (167, .iload 8, 2), (169, .iconst 1, 1), (170, .isub, 1)]
theorem aJ_375_14 : sx_iB prog_14_method_58_code aI_375_14 = true := by decide +kernel
def aI_375_15 : sx_IL := [(171, .iload 13, 2), (173, .isub, 1), (174, .baload, 1), (175, .ifCond .eq 14, 3), (178, .aload_n 0, 1), (179, .lload 11, 2)]
theorem aJ_375_15 : sx_iB prog_14_method_58_code aI_375_15 = true := by decide +kernel
def aI_375_16 : sx_IL := [(181, .lload 14, 2), (183, .invokevirtual 690, 3), (186, .goto 11, 3), (189, .aload_n 0, 1), (190, .lload 14, 2), (192, .lload 11, 2)]
theorem aJ_375_16 : sx_iB prog_14_method_58_code aI_375_16 = true := by decide +kernel
def aI_375_17 : sx_IL := [(194, .invokevirtual 690, 3), (197, .lstore 11, 2), (199, .iinc 13 1, 3), (202, .goto (-54), 3), (205, .lload 11, 2), (207, .lload 5, 2)]
theorem aJ_375_17 : sx_iB prog_14_method_58_code aI_375_17 = true := by decide +kernel
def aI_375_18 : sx_IL := [(209, .lcmp, 1), (210, .ifCond .ne 7, 3), (213, .iconst 1, 1), (214, .goto 4, 3), (217, .iconst 0, 1), (218, .ireturn, 1)]
theorem aJ_375_18 : sx_iB prog_14_method_58_code aI_375_18 = true := by decide +kernel
def aS_375 (pc : Nat) : sx_IL := (if pc < 101 then (if pc < 41 then (if pc < 20 then (if pc < 13 then aI_375_0 else aI_375_1) else (if pc < 30 then aI_375_2 else aI_375_3)) else (if pc < 64 then (if pc < 52 then aI_375_4 else aI_375_5) else (if pc < 77 then aI_375_6 else (if pc < 89 then aI_375_7 else aI_375_8)))) else (if pc < 161 then (if pc < 128 then (if pc < 115 then aI_375_9 else aI_375_10) else (if pc < 138 then aI_375_11 else (if pc < 148 then aI_375_12 else aI_375_13))) else (if pc < 181 then (if pc < 171 then aI_375_14 else aI_375_15) else (if pc < 194 then aI_375_16 else (if pc < 209 then aI_375_17 else aI_375_18)))))
theorem aT_375 (pc : Nat) : sx_iOk prog_14_method_58_code (aS_375 pc) := (sx_ite (p := fun l => sx_iOk prog_14_method_58_code l) (sx_ite (p := fun l => sx_iOk prog_14_method_58_code l) (sx_ite (p := fun l => sx_iOk prog_14_method_58_code l) (sx_ite (p := fun l => sx_iOk prog_14_method_58_code l) (sx_iB_s aJ_375_0) (sx_iB_s aJ_375_1)) (sx_ite (p := fun l => sx_iOk prog_14_method_58_code l) (sx_iB_s aJ_375_2) (sx_iB_s aJ_375_3))) (sx_ite (p := fun l => sx_iOk prog_14_method_58_code l) (sx_ite (p := fun l => sx_iOk prog_14_method_58_code l) (sx_iB_s aJ_375_4) (sx_iB_s aJ_375_5)) (sx_ite (p := fun l => sx_iOk prog_14_method_58_code l) (sx_iB_s aJ_375_6) (sx_ite (p := fun l => sx_iOk prog_14_method_58_code l) (sx_iB_s aJ_375_7) (sx_iB_s aJ_375_8))))) (sx_ite (p := fun l => sx_iOk prog_14_method_58_code l) (sx_ite (p := fun l => sx_iOk prog_14_method_58_code l) (sx_ite (p := fun l => sx_iOk prog_14_method_58_code l) (sx_iB_s aJ_375_9) (sx_iB_s aJ_375_10)) (sx_ite (p := fun l => sx_iOk prog_14_method_58_code l) (sx_iB_s aJ_375_11) (sx_ite (p := fun l => sx_iOk prog_14_method_58_code l) (sx_iB_s aJ_375_12) (sx_iB_s aJ_375_13)))) (sx_ite (p := fun l => sx_iOk prog_14_method_58_code l) (sx_ite (p := fun l => sx_iOk prog_14_method_58_code l) (sx_iB_s aJ_375_14) (sx_iB_s aJ_375_15)) (sx_ite (p := fun l => sx_iOk prog_14_method_58_code l) (sx_iB_s aJ_375_16) (sx_ite (p := fun l => sx_iOk prog_14_method_58_code l) (sx_iB_s aJ_375_17) (sx_iB_s aJ_375_18))))))
def aW_375 : Nat → Option (Instr × Nat) := fun pc => sx_iF (aS_375 pc) pc
theorem aX_375 : ∀ pc i len, aW_375 pc = some (i, len) → decode aM_375.1.2.1 pc = .ok (i, len) := fun pc i len h => sx_iF_s (aT_375 pc) h
def aI_376_0 : sx_IL := [(0, .lconst 0, 1), (1, .lstore_n 2, 1), (2, .iconst 0, 1), (3, .istore 4, 2), (5, .iload 4, 2), (7, .bipush 8, 2)]
theorem aJ_376_0 : sx_iB prog_14_method_57_code aI_376_0 = true := by decide +kernel
def aI_376_1 : sx_IL := [(9, .if_icmp .ge 28, 3), (12, .lload_n 2, 1), (13, .bipush 8, 2), (15, .lshl, 1), (16, .aload_n 0, 1), (17, .getfield 7, 3)]
theorem aJ_376_1 : sx_iB prog_14_method_57_code aI_376_1 = true := by decide +kernel
def aI_376_2 : sx_IL := [(20, .bipush 8, 2), (22, .iload_n 1, 1), (23, .imul, 1), (24, .iload 4, 2), (26, .iadd, 1), (27, .iaload, 1)]
theorem aJ_376_2 : sx_iB prog_14_method_57_code aI_376_2 = true := by decide +kernel
def aI_376_3 : sx_IL := [(28, .i2l, 1), (29, .lor, 1), (30, .lstore_n 2, 1), (31, .iinc 4 1, 3), (34, .goto (-29), 3), (37, .lload_n 2, 1)]
theorem aJ_376_3 : sx_iB prog_14_method_57_code aI_376_3 = true := by decide +kernel
def aI_376_4 : sx_IL := [(38, .lreturn, 1)]
theorem aJ_376_4 : sx_iB prog_14_method_57_code aI_376_4 = true := by decide +kernel
def aS_376 (pc : Nat) : sx_IL := (if pc < 20 then (if pc < 9 then aI_376_0 else aI_376_1) else (if pc < 28 then aI_376_2 else (if pc < 38 then aI_376_3 else aI_376_4)))
theorem aT_376 (pc : Nat) : sx_iOk prog_14_method_57_code (aS_376 pc) := (sx_ite (p := fun l => sx_iOk prog_14_method_57_code l) (sx_ite (p := fun l => sx_iOk prog_14_method_57_code l) (sx_iB_s aJ_376_0) (sx_iB_s aJ_376_1)) (sx_ite (p := fun l => sx_iOk prog_14_method_57_code l) (sx_iB_s aJ_376_2) (sx_ite (p := fun l => sx_iOk prog_14_method_57_code l) (sx_iB_s aJ_376_3) (sx_iB_s aJ_376_4))))
def aW_376 : Nat → Option (Instr × Nat) := fun pc => sx_iF (aS_376 pc) pc
theorem aX_376 : ∀ pc i len, aW_376 pc = some (i, len) → decode aM_376.1.2.1 pc = .ok (i, len) := fun pc i len h => sx_iF_s (aT_376 pc) h
def aI_377_0 : sx_IL := [(0, .iload_n 2, 1), (1, .i2l, 1), (2, .lconst 1, 1), (3, .ldc2_w 707, 3), (6, .invokestatic 513, 3), (9, .ifCond .eq 14, 3)]
theorem aJ_377_0 : sx_iB prog_14_method_59_code aI_377_0 = true := by decide +kernel
def aI_377_1 : sx_IL := [(12, .iload_n 1, 1), (13, .i2l, 1), (14, .lconst 1, 1), (15, .iload_n 2, 1), (16, .i2l, 1), (17, .invokestatic 513, 3)]
theorem aJ_377_1 : sx_iB prog_14_method_59_code aI_377_1 = true := by decide +kernel
def aI_377_2 : sx_IL := [(20, .ifCond .ne 5, 3), (23, .iconst (-1), 1), (24, .ireturn, 1), (25, .aload_n 0, 1), (26, .getfield 517, 3), (29, .istore 7, 2)]
theorem aJ_377_2 : sx_iB prog_14_method_59_code aI_377_2 = true := by decide +kernel
def aI_377_3 : sx_IL := [(31, .aload_n 0, 1), (32, .iconst 0, 1), (33, .putfield 517, 3), (36, .iconst 0, 1), (37, .istore 8, 2), (39, .iload_n 2, 1)]
theorem aJ_377_3 : sx_iB prog_14_method_59_code aI_377_3 = true := by decide +kernel
def aI_377_4 : sx_IL := [(40, .istore 9, 2), (42, .iload_n 1, 1), (43, .istore 10, 2), (45, .iconst 1, 1), (46, .istore 11, 2), (48, .iload 10, 2)]
theorem aJ_377_4 : sx_iB prog_14_method_59_code aI_377_4 = true := by decide +kernel
def aI_377_5 : sx_IL := [(50, .iload 9, 2), (52, .if_icmp .ge 92, 3), (55, .iload 9, 2), (57, .invokestatic 700, 3), (60, .istore 12, 2), (62, .aload_n 0, 1)]
theorem aJ_377_5 : sx_iB prog_14_method_59_code aI_377_5 = true := by decide +kernel
def aI_377_6 : sx_IL := [(63, .getfield 32, 3), (66, .iload 8, 2), (68, .iload 10, 2), (70, .iload 12, 2), (72, .if_icmp .gt 7, 3), (75, .iconst 1, 1)]
theorem aJ_377_6 : sx_iB prog_14_method_59_code aI_377_6 = true := by decide +kernel
def aI_377_7 : sx_IL := [(76, .goto 4, 3), (79, .iconst 0, 1), (80, .bastore, 1), (81, .iload 11, 2), (83, .ifCond .eq 14, 3), (86, .iload 10, 2)]
theorem aJ_377_7 : sx_iB prog_14_method_59_code aI_377_7 = true := by decide +kernel
def aI_377_8 : sx_IL := [(88, .iload 12, 2), (90, .if_icmp .gt 7, 3), (93, .iconst 1, 1), (94, .goto 4, 3), (97, .iconst 0, 1), (98, .istore 11, 2)]
theorem aJ_377_8 : sx_iB prog_14_method_59_code aI_377_8 = true := by decide +kernel
def aI_377_9 : sx_IL := [(100, .iload 10, 2), (102, .iload 12, 2), (104, .if_icmp .gt 8, 3), (107, .iload 12, 2), (109, .goto 8, 3), (112, .iload 9, 2)]
theorem aJ_377_9 : sx_iB prog_14_method_59_code aI_377_9 = true := by decide +kernel
def aI_377_10 : sx_IL := [(114, .iload 12, 2), (116, .isub, 1), (117, .istore 9, 2), (119, .iload 10, 2), (121, .iload 12, 2), (123, .if_icmp .gt 8, 3)]
theorem aJ_377_10 : sx_iB prog_14_method_59_code aI_377_10 = true := by decide +kernel
def aI_377_11 : sx_IL := [(126, .iload 10, 2), (128, .goto 8, 3), (131, .iload 10, 2), (133, .iload 12, 2), (135, .isub, 1), (136, .istore 10, 2)]
theorem aJ_377_11 : sx_iB prog_14_method_59_code aI_377_11 = true := by decide +kernel
def aI_377_12 : sx_IL := [(138, .iinc 8 1, 3), (141, .goto (-93), 3), (144, .iload 11, 2), (146, .ifCond .eq 7, 3), (149, .iconst 0, 1), (150, .goto 4, 3)]
theorem aJ_377_12 : sx_iB prog_14_method_59_code aI_377_12 = true := by decide +kernel
def aI_377_13 : sx_IL := [(153, .iconst 1, 1), (154, .istore 12, 2), (156, .iload 7, 2), (158, .bipush 8, 2), (160, .iload 8, 2), (162, .iload 12, 2)]
theorem aJ_377_13 : sx_iB prog_14_method_59_code aI_377_13 = true := by decide +kernel
def aI_377_14 : sx_IL := [(164, .iadd, 1), (165, .imul, 1), (166, .if_icmp .eq 5, 3), (169, .iconst 0, 1), (170, .ireturn, 1), (171, .iload 11, 2)]
theorem aJ_377_14 : sx_iB prog_14_method_59_code aI_377_14 = true := by decide +kernel
def aI_377_15 : sx_IL := [(173, .ifCond .eq 7, 3), (176, .lload_n 3, 1), (177, .goto 8, 3), (180, .aload_n 0, 1), (181, .iconst 0, 1), (182, .invokevirtual 709, 3)]
theorem aJ_377_15 : sx_iB prog_14_method_59_code aI_377_15 = true := by decide +kernel
def aI_377_16 : sx_IL := [(185, .lstore 13, 2), (187, .lload 13, 2), (189, .lstore 15, 2), (191, .iconst 0, 1), (192, .istore 17, 2), (194, .iload 17, 2)]
theorem aJ_377_16 : sx_iB prog_14_method_59_code aI_377_16 = true := by decide +kernel
def aI_377_17 : sx_IL := [(196, .iload 8, 2), (198, .if_icmp .ge 80, 3), (201, .aload_n 0, 1), (202, .iload 17, 2), (204, .iload 12, 2), (206, .iadd, 1)]
theorem aJ_377_17 : sx_iB prog_14_method_59_code aI_377_17 = true := by decide +kernel
def aI_377_18 : sx_IL := [(207, .invokevirtual 709, 3), (210, .lstore 18, 2), (212, .aload_n 0, 1), (213, .getfield 32, 3), (216, .iload 8, 2), (218, .iconst 1, 1)]
theorem aJ_377_18 : sx_iB prog_14_method_59_code aI_377_18 = true := by decide +kernel
def aI_377_19 : sx_IL := [(219, .isub, 1), (220, .iload 17, 2), (222, .isub, 1), (223, .baload, 1), (224, .istore 20, 2), (226, .iload 20, 2)]
theorem aJ_377_19 : sx_iB prog_14_method_59_code aI_377_19 = true := by decide +kernel
def aI_377_20 : sx_IL := [(228, .ifCond .eq 8, 3), (231, .lload 13, 2), (233, .goto 11, 3), (236, .aload_n 0, 1), (237, .lload 18, 2), (239, .lload 13, 2)]
theorem aJ_377_20 : sx_iB prog_14_method_59_code aI_377_20 = true := by decide +kernel
def aI_377_21 : sx_IL := [(241, .invokevirtual 690, 3), (244, .lstore 13, 2), (246, .iload 20, 2), (248, .ifCond .eq 14, 3), (251, .aload_n 0, 1), (252, .lload 15, 2)]
theorem aJ_377_21 : sx_iB prog_14_method_59_code aI_377_21 = true := by decide +kernel
def aI_377_22 : sx_IL := [(254, .lload 18, 2), (256, .invokevirtual 690, 3), (259, .goto 11, 3), (262, .aload_n 0, 1), (263, .lload 18, 2), (265, .lload 15, 2)]
theorem aJ_377_22 : sx_iB prog_14_method_59_code aI_377_22 = true := by decide +kernel
def aI_377_23 : sx_IL := [(267, .invokevirtual 690, 3), (270, .lstore 15, 2), (272, .iinc 17 1, 3), (275, .goto (-81), 3), (278, .lload 13, 2), (280, .lload_n 3, 1)]
theorem aJ_377_23 : sx_iB prog_14_method_59_code aI_377_23 = true := by decide +kernel
def aI_377_24 : sx_IL := [(281, .lcmp, 1), (282, .ifCond .ne 15, 3), (285, .lload 15, 2), (287, .lload 5, 2), (289, .lcmp, 1), (290, .ifCond .ne 7, 3)]
theorem aJ_377_24 : sx_iB prog_14_method_59_code aI_377_24 = true := by decide +kernel
def aI_377_25 : sx_IL := [(293, .iconst 1, 1), (294, .goto 4, 3), (297, .iconst 0, 1), (298, .ireturn, 1)]
theorem aJ_377_25 : sx_iB prog_14_method_59_code aI_377_25 = true := by decide +kernel
def aS_377 (pc : Nat) : sx_IL := (if pc < 153 then (if pc < 63 then (if pc < 31 then (if pc < 12 then aI_377_0 else (if pc < 20 then aI_377_1 else aI_377_2)) else (if pc < 40 then aI_377_3 else (if pc < 50 then aI_377_4 else aI_377_5))) else (if pc < 100 then (if pc < 76 then aI_377_6 else (if pc < 88 then aI_377_7 else aI_377_8)) else (if pc < 126 then (if pc < 114 then aI_377_9 else aI_377_10) else (if pc < 138 then aI_377_11 else aI_377_12)))) else (if pc < 219 then (if pc < 185 then (if pc < 164 then aI_377_13 else (if pc < 173 then aI_377_14 else aI_377_15)) else (if pc < 196 then aI_377_16 else (if pc < 207 then aI_377_17 else aI_377_18))) else (if pc < 254 then (if pc < 228 then aI_377_19 else (if pc < 241 then aI_377_20 else aI_377_21)) else (if pc < 281 then (if pc < 267 then aI_377_22 else aI_377_23) else (if pc < 293 then aI_377_24 else aI_377_25)))))
theorem aT_377 (pc : Nat) : sx_iOk prog_14_method_59_code (aS_377 pc) := (sx_ite (p := fun l => sx_iOk prog_14_method_59_code l) (sx_ite (p := fun l => sx_iOk prog_14_method_59_code l) (sx_ite (p := fun l => sx_iOk prog_14_method_59_code l) (sx_ite (p := fun l => sx_iOk prog_14_method_59_code l) (sx_iB_s aJ_377_0) (sx_ite (p := fun l => sx_iOk prog_14_method_59_code l) (sx_iB_s aJ_377_1) (sx_iB_s aJ_377_2))) (sx_ite (p := fun l => sx_iOk prog_14_method_59_code l) (sx_iB_s aJ_377_3) (sx_ite (p := fun l => sx_iOk prog_14_method_59_code l) (sx_iB_s aJ_377_4) (sx_iB_s aJ_377_5)))) (sx_ite (p := fun l => sx_iOk prog_14_method_59_code l) (sx_ite (p := fun l => sx_iOk prog_14_method_59_code l) (sx_iB_s aJ_377_6) (sx_ite (p := fun l => sx_iOk prog_14_method_59_code l) (sx_iB_s aJ_377_7) (sx_iB_s aJ_377_8))) (sx_ite (p := fun l => sx_iOk prog_14_method_59_code l) (sx_ite (p := fun l => sx_iOk prog_14_method_59_code l) (sx_iB_s aJ_377_9) (sx_iB_s aJ_377_10)) (sx_ite (p := fun l => sx_iOk prog_14_method_59_code l) (sx_iB_s aJ_377_11) (sx_iB_s aJ_377_12))))) (sx_ite (p := fun l => sx_iOk prog_14_method_59_code l) (sx_ite (p := fun l => sx_iOk prog_14_method_59_code l) (sx_ite (p := fun l => sx_iOk prog_14_method_59_code l) (sx_iB_s aJ_377_13) (sx_ite (p := fun l => sx_iOk prog_14_method_59_code l) (sx_iB_s aJ_377_14) (sx_iB_s aJ_377_15))) (sx_ite (p := fun l => sx_iOk prog_14_method_59_code l) (sx_iB_s aJ_377_16) (sx_ite (p := fun l => sx_iOk prog_14_method_59_code l) (sx_iB_s aJ_377_17) (sx_iB_s aJ_377_18)))) (sx_ite (p := fun l => sx_iOk prog_14_method_59_code l) (sx_ite (p := fun l => sx_iOk prog_14_method_59_code l) (sx_iB_s aJ_377_19) (sx_ite (p := fun l => sx_iOk prog_14_method_59_code l) (sx_iB_s aJ_377_20) (sx_iB_s aJ_377_21))) (sx_ite (p := fun l => sx_iOk prog_14_method_59_code l) (sx_ite (p := fun l => sx_iOk prog_14_method_59_code l) (sx_iB_s aJ_377_22) (sx_iB_s aJ_377_23)) (sx_ite (p := fun l => sx_iOk prog_14_method_59_code l) (sx_iB_s aJ_377_24) (sx_iB_s aJ_377_25))))))
def aW_377 : Nat → Option (Instr × Nat) := fun pc => sx_iF (aS_377 pc) pc
theorem aX_377 : ∀ pc i len, aW_377 pc = some (i, len) → decode aM_377.1.2.1 pc = .ok (i, len) := fun pc i len h => sx_iF_s (aT_377 pc) h
def aI_378_0 : sx_IL := [(0, .aload_n 0, 1), (1, .aload_n 0, 1), (2, .getfield 7, 3), (5, .iconst 0, 1), (6, .aload_n 0, 1), (7, .getfield 517, 3)]
theorem aJ_378_0 : sx_iB prog_14_method_66_code aI_378_0 = true := by decide +kernel
def aI_378_1 : sx_IL := [(10, .invokevirtual 744, 3), (13, .istore_n 1, 1), (14, .aload_n 0, 1), (15, .iconst 0, 1), (16, .putfield 517, 3), (19, .iload_n 1, 1)]
theorem aJ_378_1 : sx_iB prog_14_method_66_code aI_378_1 = true := by decide +kernel
def aI_378_2 : sx_IL := [(20, .bipush (-4), 2), (22, .if_icmp .ne 7, 3), (25, .iconst 0, 1), (26, .goto 7, 3), (29, .bipush (-10), 2), (31, .iload_n 1, 1)]
theorem aJ_378_2 : sx_iB prog_14_method_66_code aI_378_2 = true := by decide +kernel
def aI_378_3 : sx_IL := [(32, .isub, 1), (33, .ireturn, 1)]
theorem aJ_378_3 : sx_iB prog_14_method_66_code aI_378_3 = true := by decide +kernel
def aS_378 (pc : Nat) : sx_IL := (if pc < 20 then (if pc < 10 then aI_378_0 else aI_378_1) else (if pc < 32 then aI_378_2 else aI_378_3))
theorem aT_378 (pc : Nat) : sx_iOk prog_14_method_66_code (aS_378 pc) := (sx_ite (p := fun l => sx_iOk prog_14_method_66_code l) (sx_ite (p := fun l => sx_iOk prog_14_method_66_code l) (sx_iB_s aJ_378_0) (sx_iB_s aJ_378_1)) (sx_ite (p := fun l => sx_iOk prog_14_method_66_code l) (sx_iB_s aJ_378_2) (sx_iB_s aJ_378_3)))
def aW_378 : Nat → Option (Instr × Nat) := fun pc => sx_iF (aS_378 pc) pc
theorem aX_378 : ∀ pc i len, aW_378 pc = some (i, len) → decode aM_378.1.2.1 pc = .ok (i, len) := fun pc i len h => sx_iF_s (aT_378 pc) h
def aI_379_0 : sx_IL := [(0, .iconst 0, 1), (1, .istore 4, 2), (3, .aload_n 0, 1), (4, .getfield 36, 3), (7, .iconst 0, 1), (8, .iload_n 2, 1)]
theorem aJ_379_0 : sx_iB prog_14_method_65_code aI_379_0 = true := by decide +kernel
def aI_379_1 : sx_IL := [(9, .iload_n 3, 1), (10, .iadd, 1), (11, .iastore, 1), (12, .iload_n 2, 1), (13, .istore 5, 2), (15, .iconst 0, 1)]
theorem aJ_379_1 : sx_iB prog_14_method_65_code aI_379_1 = true := by decide +kernel
def aI_379_2 : sx_IL := [(16, .istore 6, 2), (18, .iload 6, 2), (20, .ifCond .ne 261, 3), (23, .aload_n 0, 1), (24, .getfield 36, 3), (27, .iload 4, 2)]
theorem aJ_379_2 : sx_iB prog_14_method_65_code aI_379_2 = true := by decide +kernel
def aI_379_3 : sx_IL := [(29, .iaload, 1), (30, .istore 7, 2), (32, .iload 5, 2), (34, .iload 7, 2), (36, .if_icmp .ne 26, 3), (39, .iload 4, 2)]
theorem aJ_379_3 : sx_iB prog_14_method_65_code aI_379_3 = true := by decide +kernel
def aI_379_4 : sx_IL := [(41, .ifCond .le 21, 3), (44, .iinc 4 (-1), 3), (47, .iload 4, 2), (49, .ifCond .ne 7, 3), (52, .iconst 1, 1), (53, .goto 4, 3)]
theorem aJ_379_4 : sx_iB prog_14_method_65_code aI_379_4 = true := by decide +kernel
def aI_379_5 : sx_IL := [(56, .iconst 0, 1), (57, .istore 6, 2), (59, .goto (-41), 3), (62, .iload 5, 2), (64, .iload 7, 2), (66, .if_icmp .eq 20, 3)]
theorem aJ_379_5 : sx_iB prog_14_method_65_code aI_379_5 = true := by decide +kernel
def aI_379_6 : sx_IL := [(69, .aload_n 1, 1), (70, .iload 5, 2), (72, .iaload, 1), (73, .invokestatic 738, 3), (76, .ifCond .eq 10, 3), (79, .iload 4, 2)]
theorem aJ_379_6 : sx_iB prog_14_method_65_code aI_379_6 = true := by decide +kernel
def aI_379_7 : sx_IL := [(81, .bipush 10, 2), (83, .if_icmp .ne 8, 3), (86, .iload 5, 2), (88, .iload_n 2, 1), (89, .isub, 1), (90, .ireturn, 1)]
theorem aJ_379_7 : sx_iB prog_14_method_65_code aI_379_7 = true := by decide +kernel
def aI_379_8 : sx_IL := [(91, .aload_n 1, 1), (92, .iload 5, 2), (94, .iaload, 1), (95, .istore 8, 2), (97, .aload_n 0, 1), (98, .aload_n 1, 1)]
theorem aJ_379_8 : sx_iB prog_14_method_65_code aI_379_8 = true := by decide +kernel
def aI_379_9 : sx_IL := [(99, .iload 5, 2), (101, .iconst 1, 1), (102, .iadd, 1), (103, .iload 7, 2), (105, .invokevirtual 741, 3), (108, .istore 9, 2)]
theorem aJ_379_9 : sx_iB prog_14_method_65_code aI_379_9 = true := by decide +kernel
def aI_379_10 : sx_IL := [(110, .iload 9, 2), (112, .bipush (-4), 2), (114, .if_icmp .eq 8, 3), (117, .iload 9, 2), (119, .iload_n 2, 1), (120, .isub, 1)]
theorem aJ_379_10 : sx_iB prog_14_method_65_code aI_379_10 = true := by decide +kernel
def aI_379_11 : sx_IL := [(121, .ireturn, 1), (122, .iload 5, 2), (124, .iconst 1, 1), (125, .aload_n 0, 1), (126, .getfield 732, 3), (129, .iadd, 1)]
theorem aJ_379_11 : sx_iB prog_14_method_65_code aI_379_11 = true := by decide +kernel
def aI_379_12 : sx_IL := [(130, .iadd, 1), (131, .istore 5, 2), (133, .aload_n 0, 1), (134, .getfield 735, 3), (137, .istore 10, 2), (139, .iload 8, 2)]
theorem aJ_379_12 : sx_iB prog_14_method_65_code aI_379_12 = true := by decide +kernel
def aI_379_13 : sx_IL := [(141, .bipush 48, 2), (143, .if_icmp .ne 21, 3), (146, .iinc 4 1, 3), (149, .aload_n 0, 1), (150, .getfield 36, 3), (153, .iload 4, 2)]
theorem aJ_379_13 : sx_iB prog_14_method_65_code aI_379_13 = true := by decide +kernel
def aI_379_14 : sx_IL := [(155, .iload 5, 2), (157, .iload 10, 2), (159, .iadd, 1), (160, .iastore, 1), (161, .goto (-143), 3), (164, .iload 8, 2)]
theorem aJ_379_14 : sx_iB prog_14_method_65_code aI_379_14 = true := by decide +kernel
def aI_379_15 : sx_IL := [(166, .iconst 2, 1), (167, .if_icmp .ne 55, 3), (170, .iload 10, 2), (172, .i2l, 1), (173, .lconst 1, 1), (174, .ldc2_w 649, 3)]
theorem aJ_379_15 : sx_iB prog_14_method_65_code aI_379_15 = true := by decide +kernel
def aI_379_16 : sx_IL := [(177, .invokestatic 513, 3), (180, .ifCond .eq 37, 3), (183, .aload_n 1, 1), (184, .iload 5, 2), (186, .iaload, 1), (187, .bipush 127, 2)]
theorem aJ_379_16 : sx_iB prog_14_method_65_code aI_379_16 = true := by decide +kernel
def aI_379_17 : sx_IL := [(189, .if_icmp .gt 28, 3), (192, .iload 10, 2), (194, .iconst 1, 1), (195, .if_icmp .le 27, 3), (198, .aload_n 1, 1), (199, .iload 5, 2)]
theorem aJ_379_17 : sx_iB prog_14_method_65_code aI_379_17 = true := by decide +kernel
def aI_379_18 : sx_IL := [(201, .iaload, 1), (202, .ifCond .ne 20, 3), (205, .aload_n 1, 1), (206, .iload 5, 2), (208, .iconst 1, 1), (209, .iadd, 1)]
theorem aJ_379_18 : sx_iB prog_14_method_65_code aI_379_18 = true := by decide +kernel
def aI_379_19 : sx_IL := [(210, .iaload, 1), (211, .sipush 128, 3), (214, .if_icmp .ge 8, 3), (217, .iload 5, 2), (219, .iload_n 2, 1), (220, .isub, 1)]
theorem aJ_379_19 : sx_iB prog_14_method_65_code aI_379_19 = true := by decide +kernel
def aI_379_20 : sx_IL := [(221, .ireturn, 1), (222, .iload 8, 2), (224, .bipush 12, 2), (226, .if_icmp .ne 14, 3), (229, .aload_n 1, 1), (230, .iload 5, 2)]
theorem aJ_379_20 : sx_iB prog_14_method_65_code aI_379_20 = true := by decide +kernel
def aI_379_21 : sx_IL := [(232, .iload 10, 2), (234, .invokestatic 724, 3), (237, .goto 5, 3), (240, .bipush (-4), 2), (242, .istore 11, 2), (244, .iload 11, 2)]
theorem aJ_379_21 : sx_iB prog_14_method_65_code aI_379_21 = true := by decide +kernel
def aI_379_22 : sx_IL := [(246, .bipush (-4), 2), (248, .if_icmp .eq 11, 3), (251, .iload 5, 2), (253, .iload 11, 2), (255, .iadd, 1), (256, .iload_n 2, 1)]
theorem aJ_379_22 : sx_iB prog_14_method_65_code aI_379_22 = true := by decide +kernel
def aI_379_23 : sx_IL := [(257, .isub, 1), (258, .ireturn, 1), (259, .iload 5, 2), (261, .iload 10, 2), (263, .iadd, 1), (264, .istore 5, 2)]
theorem aJ_379_23 : sx_iB prog_14_method_65_code aI_379_23 = true := by decide +kernel
def aI_379_24 : sx_IL := [(266, .iload 4, 2), (268, .ifCond .ne 7, 3), (271, .iconst 1, 1), (272, .goto 4, 3), (275, .iconst 0, 1), (276, .istore 6, 2)]
theorem aJ_379_24 : sx_iB prog_14_method_65_code aI_379_24 = true := by decide +kernel
def aI_379_25 : sx_IL := [(278, .goto (-260), 3), (281, .iload 5, 2), (283, .iload_n 2, 1), (284, .iload_n 3, 1), (285, .iadd, 1), (286, .if_icmp .ne 8, 3)]
theorem aJ_379_25 : sx_iB prog_14_method_65_code aI_379_25 = true := by decide +kernel
def aI_379_26 : sx_IL := [(289, .bipush (-4), 2), (291, .goto 7, 3), (294, .iload 5, 2), (296, .iload_n 2, 1), (297, .isub, 1), (298, .ireturn, 1)]
theorem aJ_379_26 : sx_iB prog_14_method_65_code aI_379_26 = true := by decide +kernel
def aS_379 (pc : Nat) : sx_IL := (if pc < 141 then (if pc < 69 then (if pc < 29 then (if pc < 9 then aI_379_0 else (if pc < 16 then aI_379_1 else aI_379_2)) else (if pc < 41 then aI_379_3 else (if pc < 56 then aI_379_4 else aI_379_5))) else (if pc < 99 then (if pc < 81 then aI_379_6 else (if pc < 91 then aI_379_7 else aI_379_8)) else (if pc < 121 then (if pc < 110 then aI_379_9 else aI_379_10) else (if pc < 130 then aI_379_11 else aI_379_12)))) else (if pc < 221 then (if pc < 177 then (if pc < 155 then aI_379_13 else (if pc < 166 then aI_379_14 else aI_379_15)) else (if pc < 201 then (if pc < 189 then aI_379_16 else aI_379_17) else (if pc < 210 then aI_379_18 else aI_379_19))) else (if pc < 257 then (if pc < 232 then aI_379_20 else (if pc < 246 then aI_379_21 else aI_379_22)) else (if pc < 278 then (if pc < 266 then aI_379_23 else aI_379_24) else (if pc < 289 then aI_379_25 else aI_379_26)))))
theorem aT_379 (pc : Nat) : sx_iOk prog_14_method_65_code (aS_379 pc) := (sx_ite (p := fun l => sx_iOk prog_14_method_65_code l) (sx_ite (p := fun l => sx_iOk prog_14_method_65_code l) (sx_ite (p := fun l => sx_iOk prog_14_method_65_code l) (sx_ite (p := fun l => sx_iOk prog_14_method_65_code l) (sx_iB_s aJ_379_0) (sx_ite (p := fun l => sx_iOk prog_14_method_65_code l) (sx_iB_s aJ_379_1) (sx_iB_s aJ_379_2))) (sx_ite (p := fun l => sx_iOk prog_14_method_65_code l) (sx_iB_s aJ_379_3) (sx_ite (p := fun l => sx_iOk prog_14_method_65_code l) (sx_iB_s aJ_379_4) (sx_iB_s aJ_379_5)))) (sx_ite (p := fun l => sx_iOk prog_14_method_65_code l) (sx_ite (p := fun l => sx_iOk prog_14_method_65_code l) (sx_iB_s aJ_379_6) (sx_ite (p := fun l => sx_iOk prog_14_method_65_code l) (sx_iB_s aJ_379_7) (sx_iB_s aJ_379_8))) (sx_ite (p := fun l => sx_iOk prog_14_method_65_code l) (sx_ite (p := fun l => sx_iOk prog_14_method_65_code l) (sx_iB_s aJ_379_9) (sx_iB_s aJ_379_10)) (sx_ite (p := fun l => sx_iOk prog_14_method_65_code l) (sx_iB_s aJ_379_11) (sx_iB_s aJ_379_12))))) (sx_ite (p := fun l => sx_iOk prog_14_method_65_code l) (sx_ite (p := fun l => sx_iOk prog_14_method_65_code l) (sx_ite (p := fun l => sx_iOk prog_14_method_65_code l) (sx_iB_s aJ_379_13) (sx_ite (p := fun l => sx_iOk prog_14_method_65_code l) (sx_iB_s aJ_379_14) (sx_iB_s aJ_379_15))) (sx_ite (p := fun l => sx_iOk prog_14_method_65_code l) (sx_ite (p := fun l => sx_iOk prog_14_method_65_code l) (sx_iB_s aJ_379_16) (sx_iB_s aJ_379_17)) (sx_ite (p := fun l => sx_iOk prog_14_method_65_code l) (sx_iB_s aJ_379_18) (sx_iB_s aJ_379_19)))) (sx_ite (p := fun l => sx_iOk prog_14_method_65_code l) (sx_ite (p := fun l => sx_iOk prog_14_method_65_code l) (sx_iB_s aJ_379_20) (sx_ite (p := fun l => sx_iOk prog_14_method_65_code l) (sx_iB_s aJ_379_21) (sx_iB_s aJ_379_22))) (sx_ite (p := fun l => sx_iOk prog_14_method_65_code l) (sx_ite (p := fun l => sx_iOk prog_14_method_65_code l) (sx_iB_s aJ_379_23) (sx_iB_s aJ_379_24)) (sx_ite (p := fun l => sx_iOk prog_14_method_65_code l) (sx_iB_s aJ_379_25) (sx_iB_s aJ_379_26))))))
def aW_379 : Nat → Option (Instr × Nat) := fun pc => sx_iF (aS_379 pc) pc
theorem aX_379 : ∀ pc i len, aW_379 pc = some (i, len) → decode aM_379.1.2.1 pc = .ok (i, len) := fun pc i len h => sx_iF_s (aT_379 pc) h
def aI_380_0 : sx_IL := [(0, .iload_n 0, 1), (1, .bipush 48, 2), (3, .if_icmp .eq 33, 3), (6, .iload_n 0, 1), (7, .iconst 2, 1), (8, .if_icmp .eq 28, 3)]
theorem aJ_380_0 : sx_iB prog_14_method_63_code aI_380_0 = true := by decide +kernel
def aI_380_1 : sx_IL := [(11, .iload_n 0, 1), (12, .iconst 4, 1), (13, .if_icmp .eq 23, 3), (16, .iload_n 0, 1), (17, .bipush 12, 2), (19, .if_icmp .eq 17, 3)]
theorem aJ_380_1 : sx_iB prog_14_method_63_code aI_380_1 = true := by decide +kernel
def aI_380_2 : sx_IL := [(22, .iload_n 0, 1), (23, .i2l, 1), (24, .ldc2_w 728, 3), (27, .ldc2_w 730, 3), (30, .invokestatic 513, 3), (33, .ifCond .eq 7, 3)]
theorem aJ_380_2 : sx_iB prog_14_method_63_code aI_380_2 = true := by decide +kernel
def aI_380_3 : sx_IL := [(36, .iconst 1, 1), (37, .goto 4, 3), (40, .iconst 0, 1), (41, .ireturn, 1)]
theorem aJ_380_3 : sx_iB prog_14_method_63_code aI_380_3 = true := by decide +kernel
def aS_380 (pc : Nat) : sx_IL := (if pc < 22 then (if pc < 11 then aI_380_0 else aI_380_1) else (if pc < 36 then aI_380_2 else aI_380_3))
theorem aT_380 (pc : Nat) : sx_iOk prog_14_method_63_code (aS_380 pc) := (sx_ite (p := fun l => sx_iOk prog_14_method_63_code l) (sx_ite (p := fun l => sx_iOk prog_14_method_63_code l) (sx_iB_s aJ_380_0) (sx_iB_s aJ_380_1)) (sx_ite (p := fun l => sx_iOk prog_14_method_63_code l) (sx_iB_s aJ_380_2) (sx_iB_s aJ_380_3)))
def aW_380 : Nat → Option (Instr × Nat) := fun pc => sx_iF (aS_380 pc) pc
theorem aX_380 : ∀ pc i len, aW_380 pc = some (i, len) → decode aM_380.1.2.1 pc = .ok (i, len) := fun pc i len h => sx_iF_s (aT_380 pc) h
def aI_381_0 : sx_IL := [(0, .iload_n 2, 1), (1, .iload_n 3, 1), (2, .if_icmp .lt 5, 3), (5, .iload_n 3, 1), (6, .ireturn, 1), (7, .aload_n 1, 1)]
theorem aJ_381_0 : sx_iB prog_14_method_64_code aI_381_0 = true := by decide +kernel
def aI_381_1 : sx_IL := [(8, .iload_n 2, 1), (9, .iaload, 1), (10, .istore 4, 2), (12, .aload_n 0, 1), (13, .iload 4, 2), (15, .sipush 128, 3)]
theorem aJ_381_1 : sx_iB prog_14_method_64_code aI_381_1 = true := by decide +kernel
def aI_381_2 : sx_IL := [(18, .if_icmp .ge 7, 3), (21, .iconst 1, 1), (22, .goto 16, 3), (25, .iload 4, 2), (27, .sipush 129, 3), (30, .if_icmp .ne 7, 3)]
theorem aJ_381_2 : sx_iB prog_14_method_64_code aI_381_2 = true := by decide +kernel
def aI_381_3 : sx_IL := [(33, .iconst 2, 1), (34, .goto 4, 3), (37, .iconst 3, 1), (38, .putfield 732, 3), (41, .iload 4, 2), (43, .sipush 128, 3)]
theorem aJ_381_3 : sx_iB prog_14_method_64_code aI_381_3 = true := by decide +kernel
def aI_381_4 : sx_IL := [(46, .if_icmp .eq 11, 3), (49, .iload 4, 2), (51, .sipush 130, 3), (54, .if_icmp .le 5, 3), (57, .iload_n 2, 1), (58, .ireturn, 1)]
theorem aJ_381_4 : sx_iB prog_14_method_64_code aI_381_4 = true := by decide +kernel
def aI_381_5 : sx_IL := [(59, .iload_n 2, 1), (60, .aload_n 0, 1), (61, .getfield 732, 3), (64, .iadd, 1), (65, .iload_n 3, 1), (66, .if_icmp .le 5, 3)]
theorem aJ_381_5 : sx_iB prog_14_method_64_code aI_381_5 = true := by decide +kernel
def aI_381_6 : sx_IL := [(69, .iload_n 3, 1), (70, .ireturn, 1), (71, .aload_n 0, 1), (72, .iload 4, 2), (74, .sipush 128, 3), (77, .if_icmp .ge 8, 3)]
theorem aJ_381_6 : sx_iB prog_14_method_64_code aI_381_6 = true := by decide +kernel
def aI_381_7 : sx_IL := [(80, .iload 4, 2), (82, .goto 33, 3), (85, .iload 4, 2), (87, .sipush 129, 3), (90, .if_icmp .ne 11, 3), (93, .aload_n 1, 1)]
theorem aJ_381_7 : sx_iB prog_14_method_64_code aI_381_7 = true := by decide +kernel
def aI_381_8 : sx_IL := [(94, .iload_n 2, 1), (95, .iconst 1, 1), (96, .iadd, 1), (97, .iaload, 1), (98, .goto 17, 3), (101, .aload_n 1, 1)]
theorem aJ_381_8 : sx_iB prog_14_method_64_code aI_381_8 = true := by decide +kernel
def aI_381_9 : sx_IL := [(102, .iload_n 2, 1), (103, .iconst 1, 1), (104, .iadd, 1), (105, .iaload, 1), (106, .bipush 8, 2), (108, .ishl, 1)]
theorem aJ_381_9 : sx_iB prog_14_method_64_code aI_381_9 = true := by decide +kernel
def aI_381_10 : sx_IL := [(109, .aload_n 1, 1), (110, .iload_n 2, 1), (111, .iconst 2, 1), (112, .iadd, 1), (113, .iaload, 1), (114, .ior, 1)]
theorem aJ_381_10 : sx_iB prog_14_method_64_code aI_381_10 = true := by decide +kernel
def aI_381_11 : sx_IL := [(115, .putfield 735, 3), (118, .iload 4, 2), (120, .sipush 128, 3), (123, .if_icmp .lt 33, 3), (126, .iload 4, 2), (128, .sipush 129, 3)]
theorem aJ_381_11 : sx_iB prog_14_method_64_code aI_381_11 = true := by decide +kernel
def aI_381_12 : sx_IL := [(131, .if_icmp .ne 15, 3), (134, .aload_n 0, 1), (135, .getfield 735, 3), (138, .bipush 127, 2), (140, .if_icmp .le 20, 3), (143, .goto 13, 3)]
theorem aJ_381_12 : sx_iB prog_14_method_64_code aI_381_12 = true := by decide +kernel
def aI_381_13 : sx_IL := [(146, .aload_n 0, 1), (147, .getfield 735, 3), (150, .sipush 255, 3), (153, .if_icmp .le 7, 3), (156, .iconst 1, 1), (157, .goto 4, 3)]
theorem aJ_381_13 : sx_iB prog_14_method_64_code aI_381_13 = true := by decide +kernel
def aI_381_14 : sx_IL := [(160, .iconst 0, 1), (161, .istore 5, 2), (163, .iload 5, 2), (165, .ifCond .eq 23, 3), (168, .iload_n 2, 1), (169, .aload_n 0, 1)]
theorem aJ_381_14 : sx_iB prog_14_method_64_code aI_381_14 = true := by decide +kernel
def aI_381_15 : sx_IL := [(170, .getfield 732, 3), (173, .iadd, 1), (174, .aload_n 0, 1), (175, .getfield 735, 3), (178, .iadd, 1), (179, .iload_n 3, 1)]
theorem aJ_381_15 : sx_iB prog_14_method_64_code aI_381_15 = true := by decide +kernel
def aI_381_16 : sx_IL := [(180, .if_icmp .gt 8, 3), (183, .bipush (-4), 2), (185, .goto 4, 3), (188, .iload_n 2, 1), (189, .ireturn, 1)]
theorem aJ_381_16 : sx_iB prog_14_method_64_code aI_381_16 = true := by decide +kernel
def aS_381 (pc : Nat) : sx_IL := (if pc < 94 then (if pc < 46 then (if pc < 18 then (if pc < 8 then aI_381_0 else aI_381_1) else (if pc < 33 then aI_381_2 else aI_381_3)) else (if pc < 69 then (if pc < 59 then aI_381_4 else aI_381_5) else (if pc < 80 then aI_381_6 else aI_381_7))) else (if pc < 131 then (if pc < 109 then (if pc < 102 then aI_381_8 else aI_381_9) else (if pc < 115 then aI_381_10 else aI_381_11)) else (if pc < 160 then (if pc < 146 then aI_381_12 else aI_381_13) else (if pc < 170 then aI_381_14 else (if pc < 180 then aI_381_15 else aI_381_16)))))
theorem aT_381 (pc : Nat) : sx_iOk prog_14_method_64_code (aS_381 pc) := (sx_ite (p := fun l => sx_iOk prog_14_method_64_code l) (sx_ite (p := fun l => sx_iOk prog_14_method_64_code l) (sx_ite (p := fun l => sx_iOk prog_14_method_64_code l) (sx_ite (p := fun l => sx_iOk prog_14_method_64_code l) (sx_iB_s aJ_381_0) (sx_iB_s aJ_381_1)) (sx_ite (p := fun l => sx_iOk prog_14_method_64_code l) (sx_iB_s aJ_381_2) (sx_iB_s aJ_381_3))) (sx_ite (p := fun l => sx_iOk prog_14_method_64_code l) (sx_ite (p := fun l => sx_iOk prog_14_method_64_code l) (sx_iB_s aJ_381_4) (sx_iB_s aJ_381_5)) (sx_ite (p := fun l => sx_iOk prog_14_method_64_code l) (sx_iB_s aJ_381_6) (sx_iB_s aJ_381_7)))) (sx_ite (p := fun l => sx_iOk prog_14_method_64_code l) (sx_ite (p := fun l => sx_iOk prog_14_method_64_code l) (sx_ite (p := fun l => sx_iOk prog_14_method_64_code l) (sx_iB_s aJ_381_8) (sx_iB_s aJ_381_9)) (sx_ite (p := fun l => sx_iOk prog_14_method_64_code l) (sx_iB_s aJ_381_10) (sx_iB_s aJ_381_11))) (sx_ite (p := fun l => sx_iOk prog_14_method_64_code l) (sx_ite (p := fun l => sx_iOk prog_14_method_64_code l) (sx_iB_s aJ_381_12) (sx_iB_s aJ_381_13)) (sx_ite (p := fun l => sx_iOk prog_14_method_64_code l) (sx_iB_s aJ_381_14) (sx_ite (p := fun l => sx_iOk prog_14_method_64_code l) (sx_iB_s aJ_381_15) (sx_iB_s aJ_381_16))))))
def aW_381 : Nat → Option (Instr × Nat) := fun pc => sx_iF (aS_381 pc) pc
theorem aX_381 : ∀ pc i len, aW_381 pc = some (i, len) → decode aM_381.1.2.1 pc = .ok (i, len) := fun pc i len h => sx_iF_s (aT_381 pc) h
def aI_382_0 : sx_IL := [(0, .iconst 0, 1), (1, .istore_n 3, 1), (2, .iconst 0, 1), (3, .istore 4, 2), (5, .iload 4, 2), (7, .iload_n 2, 1)]
theorem aJ_382_0 : sx_iB prog_14_method_61_code aI_382_0 = true := by decide +kernel
def aI_382_1 : sx_IL := [(8, .if_icmp .ge 61, 3), (11, .aload_n 0, 1), (12, .iload_n 1, 1), (13, .iload 4, 2), (15, .iadd, 1), (16, .iaload, 1)]
theorem aJ_382_1 : sx_iB prog_14_method_61_code aI_382_1 = true := by decide +kernel
def aI_382_2 : sx_IL := [(17, .istore 5, 2), (19, .iload 4, 2), (21, .bipush 40, 2), (23, .if_icmp .eq 22, 3), (26, .iload 5, 2), (28, .invokestatic 721, 3)]
theorem aJ_382_2 : sx_iB prog_14_method_61_code aI_382_2 = true := by decide +kernel
def aI_382_3 : sx_IL := [(31, .ifCond .ne 17, 3), (34, .iload 5, 2), (36, .bipush 46, 2), (38, .if_icmp .ne 7, 3), (41, .iload_n 3, 1), (42, .ifCond .ne 6, 3)]
theorem aJ_382_3 : sx_iB prog_14_method_61_code aI_382_3 = true := by decide +kernel
def aI_382_4 : sx_IL := [(45, .iload 4, 2), (47, .ireturn, 1), (48, .iload 5, 2), (50, .bipush 46, 2), (52, .if_icmp .ne 7, 3), (55, .iconst 0, 1)]
theorem aJ_382_4 : sx_iB prog_14_method_61_code aI_382_4 = true := by decide +kernel
def aI_382_5 : sx_IL := [(56, .goto 6, 3), (59, .iload_n 3, 1), (60, .iconst 1, 1), (61, .iadd, 1), (62, .istore_n 3, 1), (63, .iinc 4 1, 3)]
theorem aJ_382_5 : sx_iB prog_14_method_61_code aI_382_5 = true := by decide +kernel
def aI_382_6 : sx_IL := [(66, .goto (-61), 3), (69, .iload_n 3, 1), (70, .ifCond .ne 7, 3), (73, .iload_n 2, 1), (74, .goto 5, 3), (77, .bipush (-4), 2)]
theorem aJ_382_6 : sx_iB prog_14_method_61_code aI_382_6 = true := by decide +kernel
def aI_382_7 : sx_IL := [(79, .ireturn, 1)]
theorem aJ_382_7 : sx_iB prog_14_method_61_code aI_382_7 = true := by decide +kernel
def aS_382 (pc : Nat) : sx_IL := (if pc < 45 then (if pc < 17 then (if pc < 8 then aI_382_0 else aI_382_1) else (if pc < 31 then aI_382_2 else aI_382_3)) else (if pc < 66 then (if pc < 56 then aI_382_4 else aI_382_5) else (if pc < 79 then aI_382_6 else aI_382_7)))
theorem aT_382 (pc : Nat) : sx_iOk prog_14_method_61_code (aS_382 pc) := (sx_ite (p := fun l => sx_iOk prog_14_method_61_code l) (sx_ite (p := fun l => sx_iOk prog_14_method_61_code l) (sx_ite (p := fun l => sx_iOk prog_14_method_61_code l) (sx_iB_s aJ_382_0) (sx_iB_s aJ_382_1)) (sx_ite (p := fun l => sx_iOk prog_14_method_61_code l) (sx_iB_s aJ_382_2) (sx_iB_s aJ_382_3))) (sx_ite (p := fun l => sx_iOk prog_14_method_61_code l) (sx_ite (p := fun l => sx_iOk prog_14_method_61_code l) (sx_iB_s aJ_382_4) (sx_iB_s aJ_382_5)) (sx_ite (p := fun l => sx_iOk prog_14_method_61_code l) (sx_iB_s aJ_382_6) (sx_iB_s aJ_382_7))))
def aW_382 : Nat → Option (Instr × Nat) := fun pc => sx_iF (aS_382 pc) pc
theorem aX_382 : ∀ pc i len, aW_382 pc = some (i, len) → decode aM_382.1.2.1 pc = .ok (i, len) := fun pc i len h => sx_iF_s (aT_382 pc) h
def aI_383_0 : sx_IL := [(0, .iload_n 0, 1), (1, .i2l, 1), (2, .ldc2_w 713, 3), (5, .ldc2_w 715, 3), (8, .invokestatic 513, 3), (11, .ifCond .ne 23, 3)]
theorem aJ_383_0 : sx_iB prog_14_method_60_code aI_383_0 = true := by decide +kernel
def aI_383_1 : sx_IL := [(14, .iload_n 0, 1), (15, .i2l, 1), (16, .ldc2_w 717, 3), (19, .ldc2_w 719, 3), (22, .invokestatic 513, 3), (25, .ifCond .ne 9, 3)]
theorem aJ_383_1 : sx_iB prog_14_method_60_code aI_383_1 = true := by decide +kernel
def aI_383_2 : sx_IL := [(28, .iload_n 0, 1), (29, .bipush 45, 2), (31, .if_icmp .ne 7, 3), (34, .iconst 1, 1), (35, .goto 4, 3), (38, .iconst 0, 1)]
theorem aJ_383_2 : sx_iB prog_14_method_60_code aI_383_2 = true := by decide +kernel
def aI_383_3 : sx_IL := [(39, .ireturn, 1)]
theorem aJ_383_3 : sx_iB prog_14_method_60_code aI_383_3 = true := by decide +kernel
def aS_383 (pc : Nat) : sx_IL := (if pc < 28 then (if pc < 14 then aI_383_0 else aI_383_1) else (if pc < 39 then aI_383_2 else aI_383_3))
theorem aT_383 (pc : Nat) : sx_iOk prog_14_method_60_code (aS_383 pc) := (sx_ite (p := fun l => sx_iOk prog_14_method_60_code l) (sx_ite (p := fun l => sx_iOk prog_14_method_60_code l) (sx_iB_s aJ_383_0) (sx_iB_s aJ_383_1)) (sx_ite (p := fun l => sx_iOk prog_14_method_60_code l) (sx_iB_s aJ_383_2) (sx_iB_s aJ_383_3)))
def aW_383 : Nat → Option (Instr × Nat) := fun pc => sx_iF (aS_383 pc) pc
theorem aX_383 : ∀ pc i len, aW_383 pc = some (i, len) → decode aM_383.1.2.1 pc = .ok (i, len) := fun pc i len h => sx_iF_s (aT_383 pc) h
def aI_385_0 : sx_IL := [(0, .iload 4, 2), (2, .sipush 400, 3), (5, .if_icmp .le 5, 3), (8, .iconst 0, 1), (9, .ireturn, 1), (10, .aload_n 0, 1)]
theorem aJ_385_0 : sx_iB prog_14_method_69_code aI_385_0 = true := by decide +kernel
def aI_385_1 : sx_IL := [(11, .getfield 42, 3), (14, .iload_n 1, 1), (15, .iload 4, 2), (17, .iastore, 1), (18, .iconst 0, 1), (19, .istore 5, 2)]
theorem aJ_385_1 : sx_iB prog_14_method_69_code aI_385_1 = true := by decide +kernel
def aI_385_2 : sx_IL := [(21, .iload 5, 2), (23, .iload 4, 2), (25, .if_icmp .ge 28, 3), (28, .aload_n 0, 1), (29, .getfield 39, 3), (32, .sipush 400, 3)]
theorem aJ_385_2 : sx_iB prog_14_method_69_code aI_385_2 = true := by decide +kernel
def aI_385_3 : sx_IL := [(35, .iload_n 1, 1), (36, .imul, 1), (37, .iload 5, 2), (39, .iadd, 1), (40, .aload_n 2, 1), (41, .iload_n 3, 1)]
theorem aJ_385_3 : sx_iB prog_14_method_69_code aI_385_3 = true := by decide +kernel
def aI_385_4 : sx_IL := [(42, .iload 5, 2), (44, .iadd, 1), (45, .iaload, 1), (46, .iastore, 1), (47, .iinc 5 1, 3), (50, .goto (-29), 3)]
theorem aJ_385_4 : sx_iB prog_14_method_69_code aI_385_4 = true := by decide +kernel
def aI_385_5 : sx_IL := [(53, .aload_n 0, 1), (54, .aload_n 0, 1), (55, .getfield 39, 3), (58, .putfield 750, 3), (61, .aload_n 0, 1), (62, .sipush 400, 3)]
theorem aJ_385_5 : sx_iB prog_14_method_69_code aI_385_5 = true := by decide +kernel
def aI_385_6 : sx_IL := [(65, .iload_n 1, 1), (66, .imul, 1), (67, .putfield 747, 3), (70, .aload_n 0, 1), (71, .bipush 48, 2), (73, .aload_n 0, 1)]
theorem aJ_385_6 : sx_iB prog_14_method_69_code aI_385_6 = true := by decide +kernel
def aI_385_7 : sx_IL := [(74, .getfield 747, 3), (77, .iload 4, 2), (79, .iadd, 1), (80, .invokevirtual 759, 3), (83, .ifCond .ne 5, 3), (86, .iconst 0, 1)]
theorem aJ_385_7 : sx_iB prog_14_method_69_code aI_385_7 = true := by decide +kernel
def aI_385_8 : sx_IL := [(87, .ireturn, 1), (88, .aload_n 0, 1), (89, .getfield 747, 3), (92, .istore 5, 2), (94, .aload_n 0, 1), (95, .aload_n 0, 1)]
theorem aJ_385_8 : sx_iB prog_14_method_69_code aI_385_8 = true := by decide +kernel
def aI_385_9 : sx_IL := [(96, .getfield 753, 3), (99, .putfield 747, 3), (102, .aload_n 0, 1), (103, .getfield 54, 3), (106, .iconst 2, 1), (107, .iload_n 1, 1)]
theorem aJ_385_9 : sx_iB prog_14_method_69_code aI_385_9 = true := by decide +kernel
def aI_385_10 : sx_IL := [(108, .imul, 1), (109, .aload_n 0, 1), (110, .getfield 747, 3), (113, .iastore, 1), (114, .aload_n 0, 1), (115, .bipush 48, 2)]
theorem aJ_385_10 : sx_iB prog_14_method_69_code aI_385_10 = true := by decide +kernel
def aI_385_11 : sx_IL := [(117, .iload 5, 2), (119, .invokevirtual 759, 3), (122, .ifCond .ne 5, 3), (125, .iconst 0, 1), (126, .ireturn, 1), (127, .aload_n 0, 1)]
theorem aJ_385_11 : sx_iB prog_14_method_69_code aI_385_11 = true := by decide +kernel
def aI_385_12 : sx_IL := [(128, .getfield 54, 3), (131, .iconst 2, 1), (132, .iload_n 1, 1), (133, .imul, 1), (134, .iconst 1, 1), (135, .iadd, 1)]
theorem aJ_385_12 : sx_iB prog_14_method_69_code aI_385_12 = true := by decide +kernel
def aI_385_13 : sx_IL := [(136, .aload_n 0, 1), (137, .getfield 747, 3), (140, .aload_n 0, 1), (141, .getfield 54, 3), (144, .iconst 2, 1), (145, .iload_n 1, 1)]
theorem aJ_385_13 : sx_iB prog_14_method_69_code aI_385_13 = true := by decide +kernel
def aI_385_14 : sx_IL := [(146, .imul, 1), (147, .iaload, 1), (148, .isub, 1), (149, .iastore, 1), (150, .aload_n 0, 1), (151, .getfield 753, 3)]
theorem aJ_385_14 : sx_iB prog_14_method_69_code aI_385_14 = true := by decide +kernel
def aI_385_15 : sx_IL := [(154, .istore 6, 2), (156, .aload_n 0, 1), (157, .getfield 747, 3), (160, .istore 7, 2), (162, .aload_n 0, 1), (163, .iconst 4, 1)]
theorem aJ_385_15 : sx_iB prog_14_method_69_code aI_385_15 = true := by decide +kernel
def aI_385_16 : sx_IL := [(164, .iload 5, 2), (166, .invokevirtual 759, 3), (169, .ifCond .eq 21, 3), (172, .aload_n 0, 1), (173, .getfield 756, 3), (176, .bipush 8, 2)]
theorem aJ_385_16 : sx_iB prog_14_method_69_code aI_385_16 = true := by decide +kernel
def aI_385_17 : sx_IL := [(178, .if_icmp .ne 12, 3), (181, .aload_n 0, 1), (182, .getfield 747, 3), (185, .iload 5, 2), (187, .if_icmp .eq 5, 3), (190, .iconst 0, 1)]
theorem aJ_385_17 : sx_iB prog_14_method_69_code aI_385_17 = true := by decide +kernel
def aI_385_18 : sx_IL := [(191, .ireturn, 1), (192, .aload_n 0, 1), (193, .getfield 57, 3), (196, .iload_n 1, 1), (197, .aload_n 0, 1), (198, .getfield 753, 3)]
theorem aJ_385_18 : sx_iB prog_14_method_69_code aI_385_18 = true := by decide +kernel
def aI_385_19 : sx_IL := [(201, .iastore, 1), (202, .aload_n 0, 1), (203, .iload 6, 2), (205, .putfield 747, 3), (208, .aload_n 0, 1), (209, .iload_n 1, 1)]
theorem aJ_385_19 : sx_iB prog_14_method_69_code aI_385_19 = true := by decide +kernel
def aI_385_20 : sx_IL := [(210, .iload 7, 2), (212, .invokevirtual 763, 3), (215, .ireturn, 1)]
theorem aJ_385_20 : sx_iB prog_14_method_69_code aI_385_20 = true := by decide +kernel
def aS_385 (pc : Nat) : sx_IL := (if pc < 108 then (if pc < 53 then (if pc < 21 then (if pc < 11 then aI_385_0 else aI_385_1) else (if pc < 35 then aI_385_2 else (if pc < 42 then aI_385_3 else aI_385_4))) else (if pc < 74 then (if pc < 65 then aI_385_5 else aI_385_6) else (if pc < 87 then aI_385_7 else (if pc < 96 then aI_385_8 else aI_385_9)))) else (if pc < 154 then (if pc < 128 then (if pc < 117 then aI_385_10 else aI_385_11) else (if pc < 136 then aI_385_12 else (if pc < 146 then aI_385_13 else aI_385_14))) else (if pc < 191 then (if pc < 164 then aI_385_15 else (if pc < 178 then aI_385_16 else aI_385_17)) else (if pc < 201 then aI_385_18 else (if pc < 210 then aI_385_19 else aI_385_20)))))
theorem aT_385 (pc : Nat) : sx_iOk prog_14_method_69_code (aS_385 pc) := (sx_ite (p := fun l => sx_iOk prog_14_method_69_code l) (sx_ite (p := fun l => sx_iOk prog_14_method_69_code l) (sx_ite (p := fun l => sx_iOk prog_14_method_69_code l) (sx_ite (p := fun l => sx_iOk prog_14_method_69_code l) (sx_iB_s aJ_385_0) (sx_iB_s aJ_385_1)) (sx_ite (p := fun l => sx_iOk prog_14_method_69_code l) (sx_iB_s aJ_385_2) (sx_ite (p := fun l => sx_iOk prog_14_method_69_code l) (sx_iB_s aJ_385_3) (sx_iB_s aJ_385_4)))) (sx_ite (p := fun l => sx_iOk prog_14_method_69_code l) (sx_ite (p := fun l => sx_iOk prog_14_method_69_code l) (sx_iB_s aJ_385_5) (sx_iB_s aJ_385_6)) (sx_ite (p := fun l => sx_iOk prog_14_method_69_code l) (sx_iB_s aJ_385_7) (sx_ite (p := fun l => sx_iOk prog_14_method_69_code l) (sx_iB_s aJ_385_8) (sx_iB_s aJ_385_9))))) (sx_ite (p := fun l => sx_iOk prog_14_method_69_code l) (sx_ite (p := fun l => sx_iOk prog_14_method_69_code l) (sx_ite (p := fun l => sx_iOk prog_14_method_69_code l) (sx_iB_s aJ_385_10) (sx_iB_s aJ_385_11)) (sx_ite (p := fun l => sx_iOk prog_14_method_69_code l) (sx_iB_s aJ_385_12) (sx_ite (p := fun l => sx_iOk prog_14_method_69_code l) (sx_iB_s aJ_385_13) (sx_iB_s aJ_385_14)))) (sx_ite (p := fun l => sx_iOk prog_14_method_69_code l) (sx_ite (p := fun l => sx_iOk prog_14_method_69_code l) (sx_iB_s aJ_385_15) (sx_ite (p := fun l => sx_iOk prog_14_method_69_code l) (sx_iB_s aJ_385_16) (sx_iB_s aJ_385_17))) (sx_ite (p := fun l => sx_iOk prog_14_method_69_code l) (sx_iB_s aJ_385_18) (sx_ite (p := fun l => sx_iOk prog_14_method_69_code l) (sx_iB_s aJ_385_19) (sx_iB_s aJ_385_20))))))
def aW_385 : Nat → Option (Instr × Nat) := fun pc => sx_iF (aS_385 pc) pc
theorem aX_385 : ∀ pc i len, aW_385 pc = some (i, len) → decode aM_385.1.2.1 pc = .ok (i, len) := fun pc i len h => sx_iF_s (aT_385 pc) h
def aI_386_0 : sx_IL := [(0, .aload_n 0, 1), (1, .getfield 747, 3), (4, .iload_n 2, 1), (5, .if_icmp .ge 36, 3), (8, .aload_n 0, 1), (9, .getfield 750, 3)]
theorem aJ_386_0 : sx_iB prog_14_method_67_code aI_386_0 = true := by decide +kernel
def aI_386_1 : sx_IL := [(12, .aload_n 0, 1), (13, .getfield 747, 3), (16, .iaload, 1), (17, .iload_n 1, 1), (18, .if_icmp .ne 23, 3), (21, .aload_n 0, 1)]
theorem aJ_386_1 : sx_iB prog_14_method_67_code aI_386_1 = true := by decide +kernel
def aI_386_2 : sx_IL := [(22, .aload_n 0, 1), (23, .getfield 750, 3), (26, .aload_n 0, 1), (27, .getfield 747, 3), (30, .iconst 1, 1), (31, .iadd, 1)]
theorem aJ_386_2 : sx_iB prog_14_method_67_code aI_386_2 = true := by decide +kernel
def aI_386_3 : sx_IL := [(32, .iload_n 2, 1), (33, .invokevirtual 741, 3), (36, .bipush (-4), 2), (38, .if_icmp .eq 5, 3), (41, .iconst 0, 1), (42, .ireturn, 1)]
theorem aJ_386_3 : sx_iB prog_14_method_67_code aI_386_3 = true := by decide +kernel
def aI_386_4 : sx_IL := [(43, .aload_n 0, 1), (44, .aload_n 0, 1), (45, .getfield 747, 3), (48, .iconst 1, 1), (49, .iadd, 1), (50, .aload_n 0, 1)]
theorem aJ_386_4 : sx_iB prog_14_method_67_code aI_386_4 = true := by decide +kernel
def aI_386_5 : sx_IL := [(51, .getfield 732, 3), (54, .iadd, 1), (55, .putfield 753, 3), (58, .aload_n 0, 1), (59, .aload_n 0, 1), (60, .getfield 735, 3)]
theorem aJ_386_5 : sx_iB prog_14_method_67_code aI_386_5 = true := by decide +kernel
def aI_386_6 : sx_IL := [(63, .putfield 756, 3), (66, .aload_n 0, 1), (67, .aload_n 0, 1), (68, .getfield 753, 3), (71, .aload_n 0, 1), (72, .getfield 756, 3)]
theorem aJ_386_6 : sx_iB prog_14_method_67_code aI_386_6 = true := by decide +kernel
def aI_386_7 : sx_IL := [(75, .iadd, 1), (76, .putfield 747, 3), (79, .iconst 1, 1), (80, .ireturn, 1)]
theorem aJ_386_7 : sx_iB prog_14_method_67_code aI_386_7 = true := by decide +kernel
def aS_386 (pc : Nat) : sx_IL := (if pc < 43 then (if pc < 22 then (if pc < 12 then aI_386_0 else aI_386_1) else (if pc < 32 then aI_386_2 else aI_386_3)) else (if pc < 63 then (if pc < 51 then aI_386_4 else aI_386_5) else (if pc < 75 then aI_386_6 else aI_386_7)))
theorem aT_386 (pc : Nat) : sx_iOk prog_14_method_67_code (aS_386 pc) := (sx_ite (p := fun l => sx_iOk prog_14_method_67_code l) (sx_ite (p := fun l => sx_iOk prog_14_method_67_code l) (sx_ite (p := fun l => sx_iOk prog_14_method_67_code l) (sx_iB_s aJ_386_0) (sx_iB_s aJ_386_1)) (sx_ite (p := fun l => sx_iOk prog_14_method_67_code l) (sx_iB_s aJ_386_2) (sx_iB_s aJ_386_3))) (sx_ite (p := fun l => sx_iOk prog_14_method_67_code l) (sx_ite (p := fun l => sx_iOk prog_14_method_67_code l) (sx_iB_s aJ_386_4) (sx_iB_s aJ_386_5)) (sx_ite (p := fun l => sx_iOk prog_14_method_67_code l) (sx_iB_s aJ_386_6) (sx_iB_s aJ_386_7))))
def aW_386 : Nat → Option (Instr × Nat) := fun pc => sx_iF (aS_386 pc) pc
theorem aX_386 : ∀ pc i len, aW_386 pc = some (i, len) → decode aM_386.1.2.1 pc = .ok (i, len) := fun pc i len h => sx_iF_s (aT_386 pc) h
def aI_387_0 : sx_IL := [(0, .bipush 8, 2), (2, .iload_n 1, 1), (3, .imul, 1), (4, .istore_n 3, 1), (5, .aload_n 0, 1), (6, .iconst 2, 1)]
theorem aJ_387_0 : sx_iB prog_14_method_70_code aI_387_0 = true := by decide +kernel
def aI_387_1 : sx_IL := [(7, .iload_n 2, 1), (8, .invokevirtual 759, 3), (11, .ifCond .eq 11, 3), (14, .aload_n 0, 1), (15, .invokevirtual 766, 3), (18, .iconst 1, 1)]
theorem aJ_387_1 : sx_iB prog_14_method_70_code aI_387_1 = true := by decide +kernel
def aI_387_2 : sx_IL := [(19, .if_icmp .ge 5, 3), (22, .iconst 0, 1), (23, .ireturn, 1), (24, .aload_n 0, 1), (25, .getfield 45, 3), (28, .iload_n 3, 1)]
theorem aJ_387_2 : sx_iB prog_14_method_70_code aI_387_2 = true := by decide +kernel
def aI_387_3 : sx_IL := [(29, .aload_n 0, 1), (30, .invokevirtual 766, 3), (33, .iastore, 1), (34, .aload_n 0, 1), (35, .bipush 12, 2), (37, .iload_n 2, 1)]
theorem aJ_387_3 : sx_iB prog_14_method_70_code aI_387_3 = true := by decide +kernel
def aI_387_4 : sx_IL := [(38, .invokevirtual 759, 3), (41, .ifCond .ne 5, 3), (44, .iconst 0, 1), (45, .ireturn, 1), (46, .aload_n 0, 1), (47, .getfield 48, 3)]
theorem aJ_387_4 : sx_iB prog_14_method_70_code aI_387_4 = true := by decide +kernel
def aI_387_5 : sx_IL := [(50, .iconst 2, 1), (51, .iload_n 1, 1), (52, .imul, 1), (53, .aload_n 0, 1), (54, .getfield 753, 3), (57, .iastore, 1)]
theorem aJ_387_5 : sx_iB prog_14_method_70_code aI_387_5 = true := by decide +kernel
def aI_387_6 : sx_IL := [(58, .aload_n 0, 1), (59, .getfield 48, 3), (62, .iconst 2, 1), (63, .iload_n 1, 1), (64, .imul, 1), (65, .iconst 1, 1)]
theorem aJ_387_6 : sx_iB prog_14_method_70_code aI_387_6 = true := by decide +kernel
def aI_387_7 : sx_IL := [(66, .iadd, 1), (67, .aload_n 0, 1), (68, .getfield 756, 3), (71, .iastore, 1), (72, .aload_n 0, 1), (73, .bipush 12, 2)]
theorem aJ_387_7 : sx_iB prog_14_method_70_code aI_387_7 = true := by decide +kernel
def aI_387_8 : sx_IL := [(75, .iload_n 2, 1), (76, .invokevirtual 759, 3), (79, .ifCond .ne 5, 3), (82, .iconst 0, 1), (83, .ireturn, 1), (84, .aload_n 0, 1)]
theorem aJ_387_8 : sx_iB prog_14_method_70_code aI_387_8 = true := by decide +kernel
def aI_387_9 : sx_IL := [(85, .getfield 51, 3), (88, .iconst 2, 1), (89, .iload_n 1, 1), (90, .imul, 1), (91, .aload_n 0, 1), (92, .getfield 753, 3)]
theorem aJ_387_9 : sx_iB prog_14_method_70_code aI_387_9 = true := by decide +kernel
def aI_387_10 : sx_IL := [(95, .iastore, 1), (96, .aload_n 0, 1), (97, .getfield 51, 3), (100, .iconst 2, 1), (101, .iload_n 1, 1), (102, .imul, 1)]
theorem aJ_387_10 : sx_iB prog_14_method_70_code aI_387_10 = true := by decide +kernel
def aI_387_11 : sx_IL := [(103, .iconst 1, 1), (104, .iadd, 1), (105, .aload_n 0, 1), (106, .getfield 756, 3), (109, .iastore, 1), (110, .iconst 1, 1)]
theorem aJ_387_11 : sx_iB prog_14_method_70_code aI_387_11 = true := by decide +kernel
def aI_387_12 : sx_IL := [(111, .istore 4, 2), (113, .iload 4, 2), (115, .iconst 3, 1), (116, .if_icmp .gt 33, 3), (119, .aload_n 0, 1), (120, .iconst 2, 1)]
theorem aJ_387_12 : sx_iB prog_14_method_70_code aI_387_12 = true := by decide +kernel
def aI_387_13 : sx_IL := [(121, .iload_n 2, 1), (122, .invokevirtual 759, 3), (125, .ifCond .ne 5, 3), (128, .iconst 0, 1), (129, .ireturn, 1), (130, .aload_n 0, 1)]
theorem aJ_387_13 : sx_iB prog_14_method_70_code aI_387_13 = true := by decide +kernel
def aI_387_14 : sx_IL := [(131, .getfield 45, 3), (134, .iload_n 3, 1), (135, .iload 4, 2), (137, .iadd, 1), (138, .aload_n 0, 1), (139, .invokevirtual 766, 3)]
theorem aJ_387_14 : sx_iB prog_14_method_70_code aI_387_14 = true := by decide +kernel
def aI_387_15 : sx_IL := [(142, .iastore, 1), (143, .iinc 4 1, 3), (146, .goto (-33), 3), (149, .aload_n 0, 1), (150, .getfield 45, 3), (153, .iload_n 3, 1)]
theorem aJ_387_15 : sx_iB prog_14_method_70_code aI_387_15 = true := by decide +kernel
def aI_387_16 : sx_IL := [(154, .iconst 2, 1), (155, .iadd, 1), (156, .iaload, 1), (157, .aload_n 0, 1), (158, .getfield 45, 3), (161, .iload_n 3, 1)]
theorem aJ_387_16 : sx_iB prog_14_method_70_code aI_387_16 = true := by decide +kernel
def aI_387_17 : sx_IL := [(162, .iconst 1, 1), (163, .iadd, 1), (164, .iaload, 1), (165, .if_icmp .lt 39, 3), (168, .aload_n 0, 1), (169, .getfield 45, 3)]
theorem aJ_387_17 : sx_iB prog_14_method_70_code aI_387_17 = true := by decide +kernel
def aI_387_18 : sx_IL := [(172, .iload_n 3, 1), (173, .iconst 3, 1), (174, .iadd, 1), (175, .iaload, 1), (176, .i2l, 1), (177, .lconst 1, 1)]
theorem aJ_387_18 : sx_iB prog_14_method_70_code aI_387_18 = true := by decide +kernel
def aI_387_19 : sx_IL := [(178, .ldc2_w 631, 3), (181, .invokestatic 513, 3), (184, .ifCond .eq 20, 3), (187, .aload_n 0, 1), (188, .iconst 4, 1), (189, .iload_n 2, 1)]
theorem aJ_387_19 : sx_iB prog_14_method_70_code aI_387_19 = true := by decide +kernel
def aI_387_20 : sx_IL := [(190, .invokevirtual 759, 3), (193, .ifCond .eq 11, 3), (196, .aload_n 0, 1), (197, .getfield 756, 3), (200, .iconst 4, 1), (201, .if_icmp .eq 5, 3)]
theorem aJ_387_20 : sx_iB prog_14_method_70_code aI_387_20 = true := by decide +kernel
def aI_387_21 : sx_IL := [(204, .iconst 0, 1), (205, .ireturn, 1), (206, .aload_n 0, 1), (207, .getfield 45, 3), (210, .iload_n 3, 1), (211, .iconst 4, 1)]
theorem aJ_387_21 : sx_iB prog_14_method_70_code aI_387_21 = true := by decide +kernel
def aI_387_22 : sx_IL := [(212, .iadd, 1), (213, .aload_n 0, 1), (214, .invokevirtual 766, 3), (217, .iastore, 1), (218, .aload_n 0, 1), (219, .getfield 45, 3)]
theorem aJ_387_22 : sx_iB prog_14_method_70_code aI_387_22 = true := by decide +kernel
def aI_387_23 : sx_IL := [(222, .iload_n 3, 1), (223, .iconst 5, 1), (224, .iadd, 1), (225, .aload_n 0, 1), (226, .sipush 161, 3), (229, .iload_n 2, 1)]
theorem aJ_387_23 : sx_iB prog_14_method_70_code aI_387_23 = true := by decide +kernel
def aI_387_24 : sx_IL := [(230, .invokevirtual 759, 3), (233, .ifCond .eq 7, 3), (236, .iconst 1, 1), (237, .goto 4, 3), (240, .iconst 0, 1), (241, .iastore, 1)]
theorem aJ_387_24 : sx_iB prog_14_method_70_code aI_387_24 = true := by decide +kernel
def aI_387_25 : sx_IL := [(242, .aload_n 0, 1), (243, .getfield 45, 3), (246, .iload_n 3, 1), (247, .iconst 5, 1), (248, .iadd, 1), (249, .iaload, 1)]
theorem aJ_387_25 : sx_iB prog_14_method_70_code aI_387_25 = true := by decide +kernel
def aI_387_26 : sx_IL := [(250, .ifCond .eq 10, 3), (253, .aload_n 0, 1), (254, .getfield 756, 3), (257, .ifCond .ne 7, 3), (260, .iconst 1, 1), (261, .goto 4, 3)]
theorem aJ_387_26 : sx_iB prog_14_method_70_code aI_387_26 = true := by decide +kernel
def aI_387_27 : sx_IL := [(264, .iconst 0, 1), (265, .istore 4, 2), (267, .aload_n 0, 1), (268, .getfield 45, 3), (271, .iload_n 3, 1), (272, .bipush 6, 2)]
theorem aJ_387_27 : sx_iB prog_14_method_70_code aI_387_27 = true := by decide +kernel
def aI_387_28 : sx_IL := [(274, .iadd, 1), (275, .bipush (-4), 2), (277, .iastore, 1), (278, .aload_n 0, 1), (279, .sipush 162, 3), (282, .iload_n 2, 1)]
theorem aJ_387_28 : sx_iB prog_14_method_70_code aI_387_28 = true := by decide +kernel
def aI_387_29 : sx_IL := [(283, .invokevirtual 759, 3), (286, .ifCond .eq 67, 3), (289, .iload 4, 2), (291, .ifCond .eq 41, 3), (294, .aload_n 0, 1), (295, .getfield 45, 3)]
theorem aJ_387_29 : sx_iB prog_14_method_70_code aI_387_29 = true := by decide +kernel
def aI_387_30 : sx_IL := [(298, .iload_n 3, 1), (299, .iconst 5, 1), (300, .iadd, 1), (301, .iaload, 1), (302, .iconst 1, 1), (303, .if_icmp .ne 29, 3)]
theorem aJ_387_30 : sx_iB prog_14_method_70_code aI_387_30 = true := by decide +kernel
def aI_387_31 : sx_IL := [(306, .aload_n 0, 1), (307, .getfield 756, 3), (310, .iconst 1, 1), (311, .if_icmp .ne 21, 3), (314, .aload_n 0, 1), (315, .getfield 750, 3)]
theorem aJ_387_31 : sx_iB prog_14_method_70_code aI_387_31 = true := by decide +kernel
def aI_387_32 : sx_IL := [(318, .aload_n 0, 1), (319, .getfield 753, 3), (322, .iaload, 1), (323, .bipush 6, 2), (325, .if_icmp .gt 7, 3), (328, .iconst 1, 1)]
theorem aJ_387_32 : sx_iB prog_14_method_70_code aI_387_32 = true := by decide +kernel
def aI_387_33 : sx_IL := [(329, .goto 4, 3), (332, .iconst 0, 1), (333, .istore 4, 2), (335, .aload_n 0, 1), (336, .getfield 45, 3), (339, .iload_n 3, 1)]
theorem aJ_387_33 : sx_iB prog_14_method_70_code aI_387_33 = true := by decide +kernel
def aI_387_34 : sx_IL := [(340, .bipush 6, 2), (342, .iadd, 1), (343, .aload_n 0, 1), (344, .getfield 750, 3), (347, .aload_n 0, 1), (348, .getfield 753, 3)]
theorem aJ_387_34 : sx_iB prog_14_method_70_code aI_387_34 = true := by decide +kernel
def aI_387_35 : sx_IL := [(351, .iaload, 1), (352, .iastore, 1), (353, .aload_n 0, 1), (354, .getfield 45, 3), (357, .iload_n 3, 1), (358, .bipush 7, 2)]
theorem aJ_387_35 : sx_iB prog_14_method_70_code aI_387_35 = true := by decide +kernel
def aI_387_36 : sx_IL := [(360, .iadd, 1), (361, .bipush 15, 2), (363, .iastore, 1), (364, .aload_n 0, 1), (365, .sipush 163, 3), (368, .iload_n 2, 1)]
theorem aJ_387_36 : sx_iB prog_14_method_70_code aI_387_36 = true := by decide +kernel
def aI_387_37 : sx_IL := [(369, .invokevirtual 759, 3), (372, .ifCond .eq 61, 3), (375, .iload 4, 2), (377, .ifCond .eq 35, 3), (380, .aload_n 0, 1), (381, .getfield 756, 3)]
theorem aJ_387_37 : sx_iB prog_14_method_70_code aI_387_37 = true := by decide +kernel
def aI_387_38 : sx_IL := [(384, .iconst 1, 1), (385, .if_icmp .ne 27, 3), (388, .aload_n 0, 1), (389, .getfield 750, 3), (392, .aload_n 0, 1), (393, .getfield 753, 3)]
theorem aJ_387_38 : sx_iB prog_14_method_70_code aI_387_38 = true := by decide +kernel
def aI_387_39 : sx_IL := [(396, .iaload, 1), (397, .i2l, 1), (398, .lconst 1, 1), (399, .ldc2_w 769, 3), (402, .invokestatic 513, 3), (405, .ifCond .eq 7, 3)]
theorem aJ_387_39 : sx_iB prog_14_method_70_code aI_387_39 = true := by decide +kernel
def aI_387_40 : sx_IL := [(408, .iconst 1, 1), (409, .goto 4, 3), (412, .iconst 0, 1), (413, .istore 4, 2), (415, .aload_n 0, 1), (416, .getfield 45, 3)]
theorem aJ_387_40 : sx_iB prog_14_method_70_code aI_387_40 = true := by decide +kernel
def aI_387_41 : sx_IL := [(419, .iload_n 3, 1), (420, .bipush 7, 2), (422, .iadd, 1), (423, .aload_n 0, 1), (424, .getfield 750, 3), (427, .aload_n 0, 1)]
theorem aJ_387_41 : sx_iB prog_14_method_70_code aI_387_41 = true := by decide +kernel
def aI_387_42 : sx_IL := [(428, .getfield 753, 3), (431, .iaload, 1), (432, .iastore, 1), (433, .iconst 0, 1), (434, .istore 5, 2), (436, .iload 5, 2)]
theorem aJ_387_42 : sx_iB prog_14_method_70_code aI_387_42 = true := by decide +kernel
def aI_387_43 : sx_IL := [(438, .iconst 3, 1), (439, .if_icmp .ge 57, 3), (442, .aload_n 0, 1), (443, .getfield 60, 3), (446, .iconst 3, 1), (447, .iload_n 1, 1)]
theorem aJ_387_43 : sx_iB prog_14_method_70_code aI_387_43 = true := by decide +kernel
def aI_387_44 : sx_IL := [(448, .imul, 1), (449, .iload 5, 2), (451, .iadd, 1), (452, .iconst 0, 1), (453, .iastore, 1), (454, .aload_n 0, 1)]
theorem aJ_387_44 : sx_iB prog_14_method_70_code aI_387_44 = true := by decide +kernel
def aI_387_45 : sx_IL := [(455, .sipush 164, 3), (458, .iload 5, 2), (460, .iadd, 1), (461, .iload_n 2, 1), (462, .invokevirtual 759, 3), (465, .ifCond .eq 25, 3)]
theorem aJ_387_45 : sx_iB prog_14_method_70_code aI_387_45 = true := by decide +kernel
def aI_387_46 : sx_IL := [(468, .iload 4, 2), (470, .ifCond .eq 17, 3), (473, .aload_n 0, 1), (474, .iload_n 1, 1), (475, .iload 5, 2), (477, .invokevirtual 771, 3)]
theorem aJ_387_46 : sx_iB prog_14_method_70_code aI_387_46 = true := by decide +kernel
def aI_387_47 : sx_IL := [(480, .ifCond .eq 7, 3), (483, .iconst 1, 1), (484, .goto 4, 3), (487, .iconst 0, 1), (488, .istore 4, 2), (490, .iinc 5 1, 3)]
theorem aJ_387_47 : sx_iB prog_14_method_70_code aI_387_47 = true := by decide +kernel
def aI_387_48 : sx_IL := [(493, .goto (-57), 3), (496, .iload 4, 2), (498, .ifCond .eq 15, 3), (501, .aload_n 0, 1), (502, .getfield 747, 3), (505, .iload_n 2, 1)]
theorem aJ_387_48 : sx_iB prog_14_method_70_code aI_387_48 = true := by decide +kernel
def aI_387_49 : sx_IL := [(506, .if_icmp .ne 7, 3), (509, .iconst 1, 1), (510, .goto 4, 3), (513, .iconst 0, 1), (514, .ireturn, 1)]
theorem aJ_387_49 : sx_iB prog_14_method_70_code aI_387_49 = true := by decide +kernel
def aS_387 (pc : Nat) : sx_IL := (if pc < 242 then (if pc < 111 then (if pc < 58 then (if pc < 29 then (if pc < 7 then aI_387_0 else (if pc < 19 then aI_387_1 else aI_387_2)) else (if pc < 38 then aI_387_3 else (if pc < 50 then aI_387_4 else aI_387_5))) else (if pc < 85 then (if pc < 66 then aI_387_6 else (if pc < 75 then aI_387_7 else aI_387_8)) else (if pc < 95 then aI_387_9 else (if pc < 103 then aI_387_10 else aI_387_11)))) else (if pc < 172 then (if pc < 142 then (if pc < 121 then aI_387_12 else (if pc < 131 then aI_387_13 else aI_387_14)) else (if pc < 154 then aI_387_15 else (if pc < 162 then aI_387_16 else aI_387_17))) else (if pc < 204 then (if pc < 178 then aI_387_18 else (if pc < 190 then aI_387_19 else aI_387_20)) else (if pc < 222 then (if pc < 212 then aI_387_21 else aI_387_22) else (if pc < 230 then aI_387_23 else aI_387_24))))) else (if pc < 369 then (if pc < 306 then (if pc < 274 then (if pc < 250 then aI_387_25 else (if pc < 264 then aI_387_26 else aI_387_27)) else (if pc < 283 then aI_387_28 else (if pc < 298 then aI_387_29 else aI_387_30))) else (if pc < 340 then (if pc < 318 then aI_387_31 else (if pc < 329 then aI_387_32 else aI_387_33)) else (if pc < 351 then aI_387_34 else (if pc < 360 then aI_387_35 else aI_387_36)))) else (if pc < 438 then (if pc < 408 then (if pc < 384 then aI_387_37 else (if pc < 396 then aI_387_38 else aI_387_39)) else (if pc < 419 then aI_387_40 else (if pc < 428 then aI_387_41 else aI_387_42))) else (if pc < 468 then (if pc < 448 then aI_387_43 else (if pc < 455 then aI_387_44 else aI_387_45)) else (if pc < 493 then (if pc < 480 then aI_387_46 else aI_387_47) else (if pc < 506 then aI_387_48 else aI_387_49))))))
theorem aT_387 (pc : Nat) : sx_iOk prog_14_method_70_code (aS_387 pc) := (sx_ite (p := fun l => sx_iOk prog_14_method_70_code l) (sx_ite (p := fun l => sx_iOk prog_14_method_70_code l) (sx_ite (p := fun l => sx_iOk prog_14_method_70_code l) (sx_ite (p := fun l => sx_iOk prog_14_method_70_code l) (sx_ite (p := fun l => sx_iOk prog_14_method_70_code l) (sx_iB_s aJ_387_0) (sx_ite (p := fun l => sx_iOk prog_14_method_70_code l) (sx_iB_s aJ_387_1) (sx_iB_s aJ_387_2))) (sx_ite (p := fun l => sx_iOk prog_14_method_70_code l) (sx_iB_s aJ_387_3) (sx_ite (p := fun l => sx_iOk prog_14_method_70_code l) (sx_iB_s aJ_387_4) (sx_iB_s aJ_387_5)))) (sx_ite (p := fun l => sx_iOk prog_14_method_70_code l) (sx_ite (p := fun l => sx_iOk prog_14_method_70_code l) (sx_iB_s aJ_387_6) (sx_ite (p := fun l => sx_iOk prog_14_method_70_code l) (sx_iB_s aJ_387_7) (sx_iB_s aJ_387_8))) (sx_ite (p := fun l => sx_iOk prog_14_method_70_code l) (sx_iB_s aJ_387_9) (sx_ite (p := fun l => sx_iOk prog_14_method_70_code l) (sx_iB_s aJ_387_10) (sx_iB_s aJ_387_11))))) (sx_ite (p := fun l => sx_iOk prog_14_method_70_code l) (sx_ite (p := fun l => sx_iOk prog_14_method_70_code l) (sx_ite (p := fun l => sx_iOk prog_14_method_70_code l) (sx_iB_s aJ_387_12) (sx_ite (p := fun l => sx_iOk prog_14_method_70_code l) (sx_iB_s aJ_387_13) (sx_iB_s aJ_387_14))) (sx_ite (p := fun l => sx_iOk prog_14_method_70_code l) (sx_iB_s aJ_387_15) (sx_ite (p := fun l => sx_iOk prog_14_method_70_code l) (sx_iB_s aJ_387_16) (sx_iB_s aJ_387_17)))) (sx_ite (p := fun l => sx_iOk prog_14_method_70_code l) (sx_ite (p := fun l => sx_iOk prog_14_method_70_code l) (sx_iB_s aJ_387_18) (sx_ite (p := fun l => sx_iOk prog_14_method_70_code l) (sx_iB_s aJ_387_19) (sx_iB_s aJ_387_20))) (sx_ite (p := fun l => sx_iOk prog_14_method_70_code l) (sx_ite (p := fun l => sx_iOk prog_14_method_70_code l) (sx_iB_s aJ_387_21) (sx_iB_s aJ_387_22)) (sx_ite (p := fun l => sx_iOk prog_14_method_70_code l) (sx_iB_s aJ_387_23) (sx_iB_s aJ_387_24)))))) (sx_ite (p := fun l => sx_iOk prog_14_method_70_code l) (sx_ite (p := fun l => sx_iOk prog_14_method_70_code l) (sx_ite (p := fun l => sx_iOk prog_14_method_70_code l) (sx_ite (p := fun l => sx_iOk prog_14_method_70_code l) (sx_iB_s aJ_387_25) (sx_ite (p := fun l => sx_iOk prog_14_method_70_code l) (sx_iB_s aJ_387_26) (sx_iB_s aJ_387_27))) (sx_ite (p := fun l => sx_iOk prog_14_method_70_code l) (sx_iB_s aJ_387_28) (sx_ite (p := fun l => sx_iOk prog_14_method_70_code l) (sx_iB_s aJ_387_29) (sx_iB_s aJ_387_30)))) (sx_ite (p := fun l => sx_iOk prog_14_method_70_code l) (sx_ite (p := fun l => sx_iOk prog_14_method_70_code l) (sx_iB_s aJ_387_31) (sx_ite (p := fun l => sx_iOk prog_14_method_70_code l) (sx_iB_s aJ_387_32) (sx_iB_s aJ_387_33))) (sx_ite (p := fun l => sx_iOk prog_14_method_70_code l) (sx_iB_s aJ_387_34) (sx_ite (p := fun l => sx_iOk prog_14_method_70_code l) (sx_iB_s aJ_387_35) (sx_iB_s aJ_387_36))))) (sx_ite (p := fun l => sx_iOk prog_14_method_70_code l) (sx_ite (p := fun l => sx_iOk prog_14_method_70_code l) (sx_ite (p := fun l => sx_iOk prog_14_method_70_code l) (sx_iB_s aJ_387_37) (sx_ite (p := fun l => sx_iOk prog_14_method_70_code l) (sx_iB_s aJ_387_38) (sx_iB_s aJ_387_39))) (sx_ite (p := fun l => sx_iOk prog_14_method_70_code l) (sx_iB_s aJ_387_40) (sx_ite (p := fun l => sx_iOk prog_14_method_70_code l) (sx_iB_s aJ_387_41) (sx_iB_s aJ_387_42)))) (sx_ite (p := fun l => sx_iOk prog_14_method_70_code l) (sx_ite (p := fun l => sx_iOk prog_14_method_70_code l) (sx_iB_s aJ_387_43) (sx_ite (p := fun l => sx_iOk prog_14_method_70_code l) (sx_iB_s aJ_387_44) (sx_iB_s aJ_387_45))) (sx_ite (p := fun l => sx_iOk prog_14_method_70_code l) (sx_ite (p := fun l => sx_iOk prog_14_method_70_code l) (sx_iB_s aJ_387_46) (sx_iB_s aJ_387_47)) (sx_ite (p := fun l => sx_iOk prog_14_method_70_code l) (sx_iB_s aJ_387_48) (sx_iB_s aJ_387_49)))))))
def aW_387 : Nat → Option (Instr × Nat) := fun pc => sx_iF (aS_387 pc) pc
theorem aX_387 : ∀ pc i len, aW_387 pc = some (i, len) → decode aM_387.1.2.1 pc = .ok (i, len) := fun pc i len h => sx_iF_s (aT_387 pc) h
def aI_388_0 : sx_IL := [(0, .iconst 0, 1), (1, .istore_n 1, 1), (2, .iconst 0, 1), (3, .istore_n 2, 1), (4, .iload_n 2, 1), (5, .aload_n 0, 1)]
theorem aJ_388_0 : sx_iB prog_14_method_68_code aI_388_0 = true := by decide +kernel
def aI_388_1 : sx_IL := [(6, .getfield 756, 3), (9, .if_icmp .ge 26, 3), (12, .iload_n 1, 1), (13, .bipush 8, 2), (15, .ishl, 1), (16, .aload_n 0, 1)]
theorem aJ_388_1 : sx_iB prog_14_method_68_code aI_388_1 = true := by decide +kernel
def aI_388_2 : sx_IL := [(17, .getfield 750, 3), (20, .aload_n 0, 1), (21, .getfield 753, 3), (24, .iload_n 2, 1), (25, .iadd, 1), (26, .iaload, 1)]
theorem aJ_388_2 : sx_iB prog_14_method_68_code aI_388_2 = true := by decide +kernel
def aI_388_3 : sx_IL := [(27, .ior, 1), (28, .istore_n 1, 1), (29, .iinc 2 1, 3), (32, .goto (-28), 3), (35, .iload_n 1, 1), (36, .ireturn, 1)]
theorem aJ_388_3 : sx_iB prog_14_method_68_code aI_388_3 = true := by decide +kernel
def aS_388 (pc : Nat) : sx_IL := (if pc < 17 then (if pc < 6 then aI_388_0 else aI_388_1) else (if pc < 27 then aI_388_2 else aI_388_3))
theorem aT_388 (pc : Nat) : sx_iOk prog_14_method_68_code (aS_388 pc) := (sx_ite (p := fun l => sx_iOk prog_14_method_68_code l) (sx_ite (p := fun l => sx_iOk prog_14_method_68_code l) (sx_iB_s aJ_388_0) (sx_iB_s aJ_388_1)) (sx_ite (p := fun l => sx_iOk prog_14_method_68_code l) (sx_iB_s aJ_388_2) (sx_iB_s aJ_388_3)))
def aW_388 : Nat → Option (Instr × Nat) := fun pc => sx_iF (aS_388 pc) pc
theorem aX_388 : ∀ pc i len, aW_388 pc = some (i, len) → decode aM_388.1.2.1 pc = .ok (i, len) := fun pc i len h => sx_iF_s (aT_388 pc) h
def aI_389_0 : sx_IL := [(0, .aload_n 0, 1), (1, .getfield 747, 3), (4, .istore_n 3, 1), (5, .aload_n 0, 1), (6, .getfield 753, 3), (9, .aload_n 0, 1)]
theorem aJ_389_0 : sx_iB prog_14_method_71_code aI_389_0 = true := by decide +kernel
def aI_389_1 : sx_IL := [(10, .getfield 756, 3), (13, .iadd, 1), (14, .istore 4, 2), (16, .aload_n 0, 1), (17, .aload_n 0, 1), (18, .getfield 753, 3)]
theorem aJ_389_1 : sx_iB prog_14_method_71_code aI_389_1 = true := by decide +kernel
def aI_389_2 : sx_IL := [(21, .putfield 747, 3), (24, .iconst 0, 1), (25, .istore 5, 2), (27, .iconst 1, 1), (28, .istore 6, 2), (30, .iload 6, 2)]
theorem aJ_389_2 : sx_iB prog_14_method_71_code aI_389_2 = true := by decide +kernel
def aI_389_3 : sx_IL := [(32, .ifCond .eq 152, 3), (35, .aload_n 0, 1), (36, .getfield 747, 3), (39, .iload 4, 2), (41, .if_icmp .ge 143, 3), (44, .iload 5, 2)]
theorem aJ_389_3 : sx_iB prog_14_method_71_code aI_389_3 = true := by decide +kernel
def aI_389_4 : sx_IL := [(46, .iconst 4, 1), (47, .if_icmp .ge 18, 3), (50, .aload_n 0, 1), (51, .bipush 12, 2), (53, .iload 4, 2), (55, .invokevirtual 759, 3)]
theorem aJ_389_4 : sx_iB prog_14_method_71_code aI_389_4 = true := by decide +kernel
def aI_389_5 : sx_IL := [(58, .ifCond .eq 7, 3), (61, .iconst 1, 1), (62, .goto 4, 3), (65, .iconst 0, 1), (66, .istore 6, 2), (68, .iload 6, 2)]
theorem aJ_389_5 : sx_iB prog_14_method_71_code aI_389_5 = true := by decide +kernel
def aI_389_6 : sx_IL := [(70, .ifCond .eq 52, 3), (73, .iload_n 2, 1), (74, .ifCond .ne 24, 3), (77, .aload_n 0, 1), (78, .getfield 750, 3), (81, .aload_n 0, 1)]
theorem aJ_389_6 : sx_iB prog_14_method_71_code aI_389_6 = true := by decide +kernel
def aI_389_7 : sx_IL := [(82, .getfield 753, 3), (85, .aload_n 0, 1), (86, .getfield 756, 3), (89, .invokestatic 774, 3), (92, .ifCond .eq 30, 3), (95, .goto 23, 3)]
theorem aJ_389_7 : sx_iB prog_14_method_71_code aI_389_7 = true := by decide +kernel
def aI_389_8 : sx_IL := [(98, .aload_n 0, 1), (99, .getfield 750, 3), (102, .aload_n 0, 1), (103, .getfield 753, 3), (106, .aload_n 0, 1), (107, .getfield 756, 3)]
theorem aJ_389_8 : sx_iB prog_14_method_71_code aI_389_8 = true := by decide +kernel
def aI_389_9 : sx_IL := [(110, .invokestatic 724, 3), (113, .bipush (-4), 2), (115, .if_icmp .ne 7, 3), (118, .iconst 1, 1), (119, .goto 4, 3), (122, .iconst 0, 1)]
theorem aJ_389_9 : sx_iB prog_14_method_71_code aI_389_9 = true := by decide +kernel
def aI_389_10 : sx_IL := [(123, .istore 6, 2), (125, .iload 6, 2), (127, .ifCond .eq (-97), 3), (130, .aload_n 0, 1), (131, .getfield 63, 3), (134, .bipush 24, 2)]
theorem aJ_389_10 : sx_iB prog_14_method_71_code aI_389_10 = true := by decide +kernel
def aI_389_11 : sx_IL := [(136, .iload_n 1, 1), (137, .imul, 1), (138, .bipush 8, 2), (140, .iload_n 2, 1), (141, .imul, 1), (142, .iadd, 1)]
theorem aJ_389_11 : sx_iB prog_14_method_71_code aI_389_11 = true := by decide +kernel
def aI_389_12 : sx_IL := [(143, .iconst 2, 1), (144, .iload 5, 2), (146, .imul, 1), (147, .iadd, 1), (148, .aload_n 0, 1), (149, .getfield 753, 3)]
theorem aJ_389_12 : sx_iB prog_14_method_71_code aI_389_12 = true := by decide +kernel
def aI_389_13 : sx_IL := [(152, .iastore, 1), (153, .aload_n 0, 1), (154, .getfield 63, 3), (157, .bipush 24, 2), (159, .iload_n 1, 1), (160, .imul, 1)]
theorem aJ_389_13 : sx_iB prog_14_method_71_code aI_389_13 = true := by decide +kernel
def aI_389_14 : sx_IL := [(161, .bipush 8, 2), (163, .iload_n 2, 1), (164, .imul, 1), (165, .iadd, 1), (166, .iconst 2, 1), (167, .iload 5, 2)]
theorem aJ_389_14 : sx_iB prog_14_method_71_code aI_389_14 = true := by decide +kernel
def aI_389_15 : sx_IL := [(169, .imul, 1), (170, .iadd, 1), (171, .iconst 1, 1), (172, .iadd, 1), (173, .aload_n 0, 1), (174, .getfield 756, 3)]
theorem aJ_389_15 : sx_iB prog_14_method_71_code aI_389_15 = true := by decide +kernel
def aI_389_16 : sx_IL := [(177, .iastore, 1), (178, .iinc 5 1, 3), (181, .goto (-151), 3), (184, .aload_n 0, 1), (185, .getfield 60, 3), (188, .iconst 3, 1)]
theorem aJ_389_16 : sx_iB prog_14_method_71_code aI_389_16 = true := by decide +kernel
def aI_389_17 : sx_IL := [(189, .iload_n 1, 1), (190, .imul, 1), (191, .iload_n 2, 1), (192, .iadd, 1), (193, .iload 5, 2), (195, .iastore, 1)]
theorem aJ_389_17 : sx_iB prog_14_method_71_code aI_389_17 = true := by decide +kernel
def aI_389_18 : sx_IL := [(196, .aload_n 0, 1), (197, .iload_n 3, 1), (198, .putfield 747, 3), (201, .iload 6, 2), (203, .ifCond .eq 12, 3), (206, .iload 5, 2)]
theorem aJ_389_18 : sx_iB prog_14_method_71_code aI_389_18 = true := by decide +kernel
def aI_389_19 : sx_IL := [(208, .ifCond .le 7, 3), (211, .iconst 1, 1), (212, .goto 4, 3), (215, .iconst 0, 1), (216, .ireturn, 1)]
theorem aJ_389_19 : sx_iB prog_14_method_71_code aI_389_19 = true := by decide +kernel
def aS_389 (pc : Nat) : sx_IL := (if pc < 123 then (if pc < 58 then (if pc < 21 then (if pc < 10 then aI_389_0 else aI_389_1) else (if pc < 32 then aI_389_2 else (if pc < 46 then aI_389_3 else aI_389_4))) else (if pc < 82 then (if pc < 70 then aI_389_5 else aI_389_6) else (if pc < 98 then aI_389_7 else (if pc < 110 then aI_389_8 else aI_389_9)))) else (if pc < 169 then (if pc < 143 then (if pc < 136 then aI_389_10 else aI_389_11) else (if pc < 152 then aI_389_12 else (if pc < 161 then aI_389_13 else aI_389_14))) else (if pc < 189 then (if pc < 177 then aI_389_15 else aI_389_16) else (if pc < 196 then aI_389_17 else (if pc < 208 then aI_389_18 else aI_389_19)))))
theorem aT_389 (pc : Nat) : sx_iOk prog_14_method_71_code (aS_389 pc) := (sx_ite (p := fun l => sx_iOk prog_14_method_71_code l) (sx_ite (p := fun l => sx_iOk prog_14_method_71_code l) (sx_ite (p := fun l => sx_iOk prog_14_method_71_code l) (sx_ite (p := fun l => sx_iOk prog_14_method_71_code l) (sx_iB_s aJ_389_0) (sx_iB_s aJ_389_1)) (sx_ite (p := fun l => sx_iOk prog_14_method_71_code l) (sx_iB_s aJ_389_2) (sx_ite (p := fun l => sx_iOk prog_14_method_71_code l) (sx_iB_s aJ_389_3) (sx_iB_s aJ_389_4)))) (sx_ite (p := fun l => sx_iOk prog_14_method_71_code l) (sx_ite (p := fun l => sx_iOk prog_14_method_71_code l) (sx_iB_s aJ_389_5) (sx_iB_s aJ_389_6)) (sx_ite (p := fun l => sx_iOk prog_14_method_71_code l) (sx_iB_s aJ_389_7) (sx_ite (p := fun l => sx_iOk prog_14_method_71_code l) (sx_iB_s aJ_389_8) (sx_iB_s aJ_389_9))))) (sx_ite (p := fun l => sx_iOk prog_14_method_71_code l) (sx_ite (p := fun l => sx_iOk prog_14_method_71_code l) (sx_ite (p := fun l => sx_iOk prog_14_method_71_code l) (sx_iB_s aJ_389_10) (sx_iB_s aJ_389_11)) (sx_ite (p := fun l => sx_iOk prog_14_method_71_code l) (sx_iB_s aJ_389_12) (sx_ite (p := fun l => sx_iOk prog_14_method_71_code l) (sx_iB_s aJ_389_13) (sx_iB_s aJ_389_14)))) (sx_ite (p := fun l => sx_iOk prog_14_method_71_code l) (sx_ite (p := fun l => sx_iOk prog_14_method_71_code l) (sx_iB_s aJ_389_15) (sx_iB_s aJ_389_16)) (sx_ite (p := fun l => sx_iOk prog_14_method_71_code l) (sx_iB_s aJ_389_17) (sx_ite (p := fun l => sx_iOk prog_14_method_71_code l) (sx_iB_s aJ_389_18) (sx_iB_s aJ_389_19))))))
def aW_389 : Nat → Option (Instr × Nat) := fun pc => sx_iF (aS_389 pc) pc
theorem aX_389 : ∀ pc i len, aW_389 pc = some (i, len) → decode aM_389.1.2.1 pc = .ok (i, len) := fun pc i len h => sx_iF_s (aT_389 pc) h
def aI_390_0 : sx_IL := [(0, .iload_n 2, 1), (1, .iconst 2, 1), (2, .if_icmp .lt 21, 3), (5, .aload_n 0, 1), (6, .iload_n 1, 1), (7, .iaload, 1)]
theorem aJ_390_0 : sx_iB prog_14_method_62_code aI_390_0 = true := by decide +kernel
def aI_390_1 : sx_IL := [(8, .bipush 42, 2), (10, .if_icmp .ne 13, 3), (13, .aload_n 0, 1), (14, .iload_n 1, 1), (15, .iconst 1, 1), (16, .iadd, 1)]
theorem aJ_390_1 : sx_iB prog_14_method_62_code aI_390_1 = true := by decide +kernel
def aI_390_2 : sx_IL := [(17, .iaload, 1), (18, .bipush 46, 2), (20, .if_icmp .eq 20, 3), (23, .aload_n 0, 1), (24, .iload_n 1, 1), (25, .iload_n 2, 1)]
theorem aJ_390_2 : sx_iB prog_14_method_62_code aI_390_2 = true := by decide +kernel
def aI_390_3 : sx_IL := [(26, .invokestatic 724, 3), (29, .bipush (-4), 2), (31, .if_icmp .ne 7, 3), (34, .iconst 1, 1), (35, .goto 4, 3), (38, .iconst 0, 1)]
theorem aJ_390_3 : sx_iB prog_14_method_62_code aI_390_3 = true := by decide +kernel
def aI_390_4 : sx_IL := [(39, .ireturn, 1), (40, .iconst 0, 1), (41, .istore_n 3, 1), (42, .iconst 2, 1), (43, .istore 4, 2), (45, .iload 4, 2)]
theorem aJ_390_4 : sx_iB prog_14_method_62_code aI_390_4 = true := by decide +kernel
def aI_390_5 : sx_IL := [(47, .iload_n 2, 1), (48, .if_icmp .ge 30, 3), (51, .iload_n 3, 1), (52, .ifCond .ne 14, 3), (55, .aload_n 0, 1), (56, .iload_n 1, 1)]
theorem aJ_390_5 : sx_iB prog_14_method_62_code aI_390_5 = true := by decide +kernel
def aI_390_6 : sx_IL := [(57, .iload 4, 2), (59, .iadd, 1), (60, .iaload, 1), (61, .bipush 46, 2), (63, .if_icmp .ne 7, 3), (66, .iconst 1, 1)]
theorem aJ_390_6 : sx_iB prog_14_method_62_code aI_390_6 = true := by decide +kernel
def aI_390_7 : sx_IL := [(67, .goto 4, 3), (70, .iconst 0, 1), (71, .istore_n 3, 1), (72, .iinc 4 1, 3), (75, .goto (-30), 3), (78, .iload_n 3, 1)]
theorem aJ_390_7 : sx_iB prog_14_method_62_code aI_390_7 = true := by decide +kernel
def aI_390_8 : sx_IL := [(79, .ifCond .eq 22, 3), (82, .aload_n 0, 1), (83, .iload_n 1, 1), (84, .iconst 2, 1), (85, .iadd, 1), (86, .iload_n 2, 1)]
theorem aJ_390_8 : sx_iB prog_14_method_62_code aI_390_8 = true := by decide +kernel
def aI_390_9 : sx_IL := [(87, .iconst 2, 1), (88, .isub, 1), (89, .invokestatic 724, 3), (92, .bipush (-4), 2), (94, .if_icmp .ne 7, 3), (97, .iconst 1, 1)]
theorem aJ_390_9 : sx_iB prog_14_method_62_code aI_390_9 = true := by decide +kernel
def aI_390_10 : sx_IL := [(98, .goto 4, 3), (101, .iconst 0, 1), (102, .ireturn, 1)]
theorem aJ_390_10 : sx_iB prog_14_method_62_code aI_390_10 = true := by decide +kernel
def aS_390 (pc : Nat) : sx_IL := (if pc < 47 then (if pc < 17 then (if pc < 8 then aI_390_0 else aI_390_1) else (if pc < 26 then aI_390_2 else (if pc < 39 then aI_390_3 else aI_390_4))) else (if pc < 79 then (if pc < 57 then aI_390_5 else (if pc < 67 then aI_390_6 else aI_390_7)) else (if pc < 87 then aI_390_8 else (if pc < 98 then aI_390_9 else aI_390_10))))
theorem aT_390 (pc : Nat) : sx_iOk prog_14_method_62_code (aS_390 pc) := (sx_ite (p := fun l => sx_iOk prog_14_method_62_code l) (sx_ite (p := fun l => sx_iOk prog_14_method_62_code l) (sx_ite (p := fun l => sx_iOk prog_14_method_62_code l) (sx_iB_s aJ_390_0) (sx_iB_s aJ_390_1)) (sx_ite (p := fun l => sx_iOk prog_14_method_62_code l) (sx_iB_s aJ_390_2) (sx_ite (p := fun l => sx_iOk prog_14_method_62_code l) (sx_iB_s aJ_390_3) (sx_iB_s aJ_390_4)))) (sx_ite (p := fun l => sx_iOk prog_14_method_62_code l) (sx_ite (p := fun l => sx_iOk prog_14_method_62_code l) (sx_iB_s aJ_390_5) (sx_ite (p := fun l => sx_iOk prog_14_method_62_code l) (sx_iB_s aJ_390_6) (sx_iB_s aJ_390_7))) (sx_ite (p := fun l => sx_iOk prog_14_method_62_code l) (sx_iB_s aJ_390_8) (sx_ite (p := fun l => sx_iOk prog_14_method_62_code l) (sx_iB_s aJ_390_9) (sx_iB_s aJ_390_10)))))
def aW_390 : Nat → Option (Instr × Nat) := fun pc => sx_iF (aS_390 pc) pc
theorem aX_390 : ∀ pc i len, aW_390 pc = some (i, len) → decode aM_390.1.2.1 pc = .ok (i, len) := fun pc i len h => sx_iF_s (aT_390 pc) h
def aI_395_0 : sx_IL := [(0, .aload_n 0, 1), (1, .iload_n 1, 1), (2, .iaload, 1), (3, .bipush 24, 2), (5, .ishl, 1), (6, .aload_n 0, 1)]
theorem aJ_395_0 : sx_iB prog_14_method_76_code aI_395_0 = true := by decide +kernel
def aI_395_1 : sx_IL := [(7, .iload_n 1, 1), (8, .iconst 1, 1), (9, .iadd, 1), (10, .iaload, 1), (11, .bipush 16, 2), (13, .ishl, 1)]
theorem aJ_395_1 : sx_iB prog_14_method_76_code aI_395_1 = true := by decide +kernel
def aI_395_2 : sx_IL := [(14, .ior, 1), (15, .aload_n 0, 1), (16, .iload_n 1, 1), (17, .iconst 2, 1), (18, .iadd, 1), (19, .iaload, 1)]
theorem aJ_395_2 : sx_iB prog_14_method_76_code aI_395_2 = true := by decide +kernel
def aI_395_3 : sx_IL := [(20, .bipush 8, 2), (22, .ishl, 1), (23, .ior, 1), (24, .aload_n 0, 1), (25, .iload_n 1, 1), (26, .iconst 3, 1)]
theorem aJ_395_3 : sx_iB prog_14_method_76_code aI_395_3 = true := by decide +kernel
def aI_395_4 : sx_IL := [(27, .iadd, 1), (28, .iaload, 1), (29, .ior, 1), (30, .ireturn, 1)]
theorem aJ_395_4 : sx_iB prog_14_method_76_code aI_395_4 = true := by decide +kernel
def aS_395 (pc : Nat) : sx_IL := (if pc < 14 then (if pc < 7 then aI_395_0 else aI_395_1) else (if pc < 20 then aI_395_2 else (if pc < 27 then aI_395_3 else aI_395_4)))
theorem aT_395 (pc : Nat) : sx_iOk prog_14_method_76_code (aS_395 pc) := (sx_ite (p := fun l => sx_iOk prog_14_method_76_code l) (sx_ite (p := fun l => sx_iOk prog_14_method_76_code l) (sx_iB_s aJ_395_0) (sx_iB_s aJ_395_1)) (sx_ite (p := fun l => sx_iOk prog_14_method_76_code l) (sx_iB_s aJ_395_2) (sx_ite (p := fun l => sx_iOk prog_14_method_76_code l) (sx_iB_s aJ_395_3) (sx_iB_s aJ_395_4))))
def aW_395 : Nat → Option (Instr × Nat) := fun pc => sx_iF (aS_395 pc) pc
theorem aX_395 : ∀ pc i len, aW_395 pc = some (i, len) → decode aM_395.1.2.1 pc = .ok (i, len) := fun pc i len h => sx_iF_s (aT_395 pc) h
def aI_398_0 : sx_IL := [(0, .bipush 8, 2), (2, .iload_n 1, 1), (3, .imul, 1), (4, .istore 5, 2), (6, .iload 4, 2), (8, .sipush 400, 3)]
theorem aJ_398_0 : sx_iB prog_14_method_77_code aI_398_0 = true := by decide +kernel
def aI_398_1 : sx_IL := [(11, .if_icmp .le 5, 3), (14, .iconst 0, 1), (15, .ireturn, 1), (16, .aload_n 0, 1), (17, .getfield 78, 3), (20, .iload_n 1, 1)]
theorem aJ_398_1 : sx_iB prog_14_method_77_code aI_398_1 = true := by decide +kernel
def aI_398_2 : sx_IL := [(21, .iload 4, 2), (23, .iastore, 1), (24, .iconst 0, 1), (25, .istore 6, 2), (27, .iload 6, 2), (29, .iload 4, 2)]
theorem aJ_398_2 : sx_iB prog_14_method_77_code aI_398_2 = true := by decide +kernel
def aI_398_3 : sx_IL := [(31, .if_icmp .ge 28, 3), (34, .aload_n 0, 1), (35, .getfield 75, 3), (38, .sipush 400, 3), (41, .iload_n 1, 1), (42, .imul, 1)]
theorem aJ_398_3 : sx_iB prog_14_method_77_code aI_398_3 = true := by decide +kernel
def aI_398_4 : sx_IL := [(43, .iload 6, 2), (45, .iadd, 1), (46, .aload_n 2, 1), (47, .iload_n 3, 1), (48, .iload 6, 2), (50, .iadd, 1)]
theorem aJ_398_4 : sx_iB prog_14_method_77_code aI_398_4 = true := by decide +kernel
def aI_398_5 : sx_IL := [(51, .iaload, 1), (52, .iastore, 1), (53, .iinc 6 1, 3), (56, .goto (-29), 3), (59, .aload_n 0, 1), (60, .aload_n 0, 1)]
theorem aJ_398_5 : sx_iB prog_14_method_77_code aI_398_5 = true := by decide +kernel
def aI_398_6 : sx_IL := [(61, .getfield 75, 3), (64, .putfield 750, 3), (67, .aload_n 0, 1), (68, .sipush 400, 3), (71, .iload_n 1, 1), (72, .imul, 1)]
theorem aJ_398_6 : sx_iB prog_14_method_77_code aI_398_6 = true := by decide +kernel
def aI_398_7 : sx_IL := [(73, .putfield 747, 3), (76, .aload_n 0, 1), (77, .getfield 747, 3), (80, .iload 4, 2), (82, .iadd, 1), (83, .istore 6, 2)]
theorem aJ_398_7 : sx_iB prog_14_method_77_code aI_398_7 = true := by decide +kernel
def aI_398_8 : sx_IL := [(85, .aload_n 0, 1), (86, .bipush 48, 2), (88, .iload 6, 2), (90, .invokevirtual 759, 3), (93, .ifCond .ne 5, 3), (96, .iconst 0, 1)]
theorem aJ_398_8 : sx_iB prog_14_method_77_code aI_398_8 = true := by decide +kernel
def aI_398_9 : sx_IL := [(97, .ireturn, 1), (98, .aload_n 0, 1), (99, .getfield 747, 3), (102, .istore 6, 2), (104, .aload_n 0, 1), (105, .aload_n 0, 1)]
theorem aJ_398_9 : sx_iB prog_14_method_77_code aI_398_9 = true := by decide +kernel
def aI_398_10 : sx_IL := [(106, .getfield 753, 3), (109, .putfield 747, 3), (112, .aload_n 0, 1), (113, .bipush 48, 2), (115, .iload 6, 2), (117, .invokevirtual 759, 3)]
theorem aJ_398_10 : sx_iB prog_14_method_77_code aI_398_10 = true := by decide +kernel
def aI_398_11 : sx_IL := [(120, .ifCond .ne 5, 3), (123, .iconst 0, 1), (124, .ireturn, 1), (125, .aload_n 0, 1), (126, .getfield 753, 3), (129, .istore 7, 2)]
theorem aJ_398_11 : sx_iB prog_14_method_77_code aI_398_11 = true := by decide +kernel
def aI_398_12 : sx_IL := [(131, .aload_n 0, 1), (132, .getfield 747, 3), (135, .istore 8, 2), (137, .aload_n 0, 1), (138, .iconst 4, 1), (139, .iload 6, 2)]
theorem aJ_398_12 : sx_iB prog_14_method_77_code aI_398_12 = true := by decide +kernel
def aI_398_13 : sx_IL := [(141, .invokevirtual 759, 3), (144, .ifCond .eq 21, 3), (147, .aload_n 0, 1), (148, .getfield 756, 3), (151, .bipush 8, 2), (153, .if_icmp .ne 12, 3)]
theorem aJ_398_13 : sx_iB prog_14_method_77_code aI_398_13 = true := by decide +kernel
def aI_398_14 : sx_IL := [(156, .aload_n 0, 1), (157, .getfield 747, 3), (160, .iload 6, 2), (162, .if_icmp .eq 5, 3), (165, .iconst 0, 1), (166, .ireturn, 1)]
theorem aJ_398_14 : sx_iB prog_14_method_77_code aI_398_14 = true := by decide +kernel
def aI_398_15 : sx_IL := [(167, .aload_n 0, 1), (168, .getfield 81, 3), (171, .iload 5, 2), (173, .bipush 6, 2), (175, .iadd, 1), (176, .aload_n 0, 1)]
theorem aJ_398_15 : sx_iB prog_14_method_77_code aI_398_15 = true := by decide +kernel
def aI_398_16 : sx_IL := [(177, .getfield 753, 3), (180, .iastore, 1), (181, .aload_n 0, 1), (182, .iload 7, 2), (184, .putfield 747, 3), (187, .aload_n 0, 1)]
theorem aJ_398_16 : sx_iB prog_14_method_77_code aI_398_16 = true := by decide +kernel
def aI_398_17 : sx_IL := [(188, .bipush 12, 2), (190, .iload 8, 2), (192, .invokevirtual 759, 3), (195, .ifCond .ne 5, 3), (198, .iconst 0, 1), (199, .ireturn, 1)]
theorem aJ_398_17 : sx_iB prog_14_method_77_code aI_398_17 = true := by decide +kernel
def aI_398_18 : sx_IL := [(200, .aload_n 0, 1), (201, .getfield 81, 3), (204, .iload 5, 2), (206, .aload_n 0, 1), (207, .getfield 753, 3), (210, .iastore, 1)]
theorem aJ_398_18 : sx_iB prog_14_method_77_code aI_398_18 = true := by decide +kernel
def aI_398_19 : sx_IL := [(211, .aload_n 0, 1), (212, .getfield 81, 3), (215, .iload 5, 2), (217, .iconst 1, 1), (218, .iadd, 1), (219, .aload_n 0, 1)]
theorem aJ_398_19 : sx_iB prog_14_method_77_code aI_398_19 = true := by decide +kernel
def aI_398_20 : sx_IL := [(220, .getfield 756, 3), (223, .iastore, 1), (224, .aload_n 0, 1), (225, .iconst 2, 1), (226, .iload 8, 2), (228, .invokevirtual 759, 3)]
theorem aJ_398_20 : sx_iB prog_14_method_77_code aI_398_20 = true := by decide +kernel
def aI_398_21 : sx_IL := [(231, .ifCond .ne 5, 3), (234, .iconst 0, 1), (235, .ireturn, 1), (236, .aload_n 0, 1), (237, .getfield 81, 3), (240, .iload 5, 2)]
theorem aJ_398_21 : sx_iB prog_14_method_77_code aI_398_21 = true := by decide +kernel
def aI_398_22 : sx_IL := [(242, .iconst 2, 1), (243, .iadd, 1), (244, .aload_n 0, 1), (245, .invokevirtual 766, 3), (248, .iastore, 1), (249, .aload_n 0, 1)]
theorem aJ_398_22 : sx_iB prog_14_method_77_code aI_398_22 = true := by decide +kernel
def aI_398_23 : sx_IL := [(250, .iconst 2, 1), (251, .iload 8, 2), (253, .invokevirtual 759, 3), (256, .ifCond .eq 11, 3), (259, .aload_n 0, 1), (260, .invokevirtual 766, 3)]
theorem aJ_398_23 : sx_iB prog_14_method_77_code aI_398_23 = true := by decide +kernel
def aI_398_24 : sx_IL := [(263, .iconst 1, 1), (264, .if_icmp .le 5, 3), (267, .iconst 0, 1), (268, .ireturn, 1), (269, .aload_n 0, 1), (270, .getfield 81, 3)]
theorem aJ_398_24 : sx_iB prog_14_method_77_code aI_398_24 = true := by decide +kernel
def aI_398_25 : sx_IL := [(273, .iload 5, 2), (275, .bipush 7, 2), (277, .iadd, 1), (278, .aload_n 0, 1), (279, .invokevirtual 766, 3), (282, .iastore, 1)]
theorem aJ_398_25 : sx_iB prog_14_method_77_code aI_398_25 = true := by decide +kernel
def aI_398_26 : sx_IL := [(283, .iconst 3, 1), (284, .istore 9, 2), (286, .iload 9, 2), (288, .iconst 5, 1), (289, .if_icmp .gt 35, 3), (292, .aload_n 0, 1)]
theorem aJ_398_26 : sx_iB prog_14_method_77_code aI_398_26 = true := by decide +kernel
def aI_398_27 : sx_IL := [(293, .iconst 2, 1), (294, .iload 8, 2), (296, .invokevirtual 759, 3), (299, .ifCond .ne 5, 3), (302, .iconst 0, 1), (303, .ireturn, 1)]
theorem aJ_398_27 : sx_iB prog_14_method_77_code aI_398_27 = true := by decide +kernel
def aI_398_28 : sx_IL := [(304, .aload_n 0, 1), (305, .getfield 81, 3), (308, .iload 5, 2), (310, .iload 9, 2), (312, .iadd, 1), (313, .aload_n 0, 1)]
theorem aJ_398_28 : sx_iB prog_14_method_77_code aI_398_28 = true := by decide +kernel
def aI_398_29 : sx_IL := [(314, .invokevirtual 766, 3), (317, .iastore, 1), (318, .iinc 9 1, 3), (321, .goto (-35), 3), (324, .aload_n 0, 1), (325, .getfield 81, 3)]
theorem aJ_398_29 : sx_iB prog_14_method_77_code aI_398_29 = true := by decide +kernel
def aI_398_30 : sx_IL := [(328, .iload 5, 2), (330, .iconst 4, 1), (331, .iadd, 1), (332, .iaload, 1), (333, .aload_n 0, 1), (334, .getfield 81, 3)]
theorem aJ_398_30 : sx_iB prog_14_method_77_code aI_398_30 = true := by decide +kernel
def aI_398_31 : sx_IL := [(337, .iload 5, 2), (339, .iconst 3, 1), (340, .iadd, 1), (341, .iaload, 1), (342, .if_icmp .lt 36, 3), (345, .aload_n 0, 1)]
theorem aJ_398_31 : sx_iB prog_14_method_77_code aI_398_31 = true := by decide +kernel
def aI_398_32 : sx_IL := [(346, .getfield 81, 3), (349, .iload 5, 2), (351, .iconst 5, 1), (352, .iadd, 1), (353, .iaload, 1), (354, .i2l, 1)]
theorem aJ_398_32 : sx_iB prog_14_method_77_code aI_398_32 = true := by decide +kernel
def aI_398_33 : sx_IL := [(355, .lconst 1, 1), (356, .ldc2_w 631, 3), (359, .invokestatic 513, 3), (362, .ifCond .eq 16, 3), (365, .aload_n 0, 1), (366, .getfield 747, 3)]
theorem aJ_398_33 : sx_iB prog_14_method_77_code aI_398_33 = true := by decide +kernel
def aI_398_34 : sx_IL := [(369, .iload 8, 2), (371, .if_icmp .ne 7, 3), (374, .iconst 1, 1), (375, .goto 4, 3), (378, .iconst 0, 1), (379, .ireturn, 1)]
theorem aJ_398_34 : sx_iB prog_14_method_77_code aI_398_34 = true := by decide +kernel
def aS_398 (pc : Nat) : sx_IL := (if pc < 188 then (if pc < 85 then (if pc < 43 then (if pc < 21 then (if pc < 11 then aI_398_0 else aI_398_1) else (if pc < 31 then aI_398_2 else aI_398_3)) else (if pc < 61 then (if pc < 51 then aI_398_4 else aI_398_5) else (if pc < 73 then aI_398_6 else aI_398_7))) else (if pc < 131 then (if pc < 106 then (if pc < 97 then aI_398_8 else aI_398_9) else (if pc < 120 then aI_398_10 else aI_398_11)) else (if pc < 156 then (if pc < 141 then aI_398_12 else aI_398_13) else (if pc < 167 then aI_398_14 else (if pc < 177 then aI_398_15 else aI_398_16))))) else (if pc < 283 then (if pc < 231 then (if pc < 211 then (if pc < 200 then aI_398_17 else aI_398_18) else (if pc < 220 then aI_398_19 else aI_398_20)) else (if pc < 250 then (if pc < 242 then aI_398_21 else aI_398_22) else (if pc < 263 then aI_398_23 else (if pc < 273 then aI_398_24 else aI_398_25)))) else (if pc < 328 then (if pc < 304 then (if pc < 293 then aI_398_26 else aI_398_27) else (if pc < 314 then aI_398_28 else aI_398_29)) else (if pc < 346 then (if pc < 337 then aI_398_30 else aI_398_31) else (if pc < 355 then aI_398_32 else (if pc < 369 then aI_398_33 else aI_398_34))))))
theorem aT_398 (pc : Nat) : sx_iOk prog_14_method_77_code (aS_398 pc) := (sx_ite (p := fun l => sx_iOk prog_14_method_77_code l) (sx_ite (p := fun l => sx_iOk prog_14_method_77_code l) (sx_ite (p := fun l => sx_iOk prog_14_method_77_code l) (sx_ite (p := fun l => sx_iOk prog_14_method_77_code l) (sx_ite (p := fun l => sx_iOk prog_14_method_77_code l) (sx_iB_s aJ_398_0) (sx_iB_s aJ_398_1)) (sx_ite (p := fun l => sx_iOk prog_14_method_77_code l) (sx_iB_s aJ_398_2) (sx_iB_s aJ_398_3))) (sx_ite (p := fun l => sx_iOk prog_14_method_77_code l) (sx_ite (p := fun l => sx_iOk prog_14_method_77_code l) (sx_iB_s aJ_398_4) (sx_iB_s aJ_398_5)) (sx_ite (p := fun l => sx_iOk prog_14_method_77_code l) (sx_iB_s aJ_398_6) (sx_iB_s aJ_398_7)))) (sx_ite (p := fun l => sx_iOk prog_14_method_77_code l) (sx_ite (p := fun l => sx_iOk prog_14_method_77_code l) (sx_ite (p := fun l => sx_iOk prog_14_method_77_code l) (sx_iB_s aJ_398_8) (sx_iB_s aJ_398_9)) (sx_ite (p := fun l => sx_iOk prog_14_method_77_code l) (sx_iB_s aJ_398_10) (sx_iB_s aJ_398_11))) (sx_ite (p := fun l => sx_iOk prog_14_method_77_code l) (sx_ite (p := fun l => sx_iOk prog_14_method_77_code l) (sx_iB_s aJ_398_12) (sx_iB_s aJ_398_13)) (sx_ite (p := fun l => sx_iOk prog_14_method_77_code l) (sx_iB_s aJ_398_14) (sx_ite (p := fun l => sx_iOk prog_14_method_77_code l) (sx_iB_s aJ_398_15) (sx_iB_s aJ_398_16)))))) (sx_ite (p := fun l => sx_iOk prog_14_method_77_code l) (sx_ite (p := fun l => sx_iOk prog_14_method_77_code l) (sx_ite (p := fun l => sx_iOk prog_14_method_77_code l) (sx_ite (p := fun l => sx_iOk prog_14_method_77_code l) (sx_iB_s aJ_398_17) (sx_iB_s aJ_398_18)) (sx_ite (p := fun l => sx_iOk prog_14_method_77_code l) (sx_iB_s aJ_398_19) (sx_iB_s aJ_398_20))) (sx_ite (p := fun l => sx_iOk prog_14_method_77_code l) (sx_ite (p := fun l => sx_iOk prog_14_method_77_code l) (sx_iB_s aJ_398_21) (sx_iB_s aJ_398_22)) (sx_ite (p := fun l => sx_iOk prog_14_method_77_code l) (sx_iB_s aJ_398_23) (sx_ite (p := fun l => sx_iOk prog_14_method_77_code l) (sx_iB_s aJ_398_24) (sx_iB_s aJ_398_25))))) (sx_ite (p := fun l => sx_iOk prog_14_method_77_code l) (sx_ite (p := fun l => sx_iOk prog_14_method_77_code l) (sx_ite (p := fun l => sx_iOk prog_14_method_77_code l) (sx_iB_s aJ_398_26) (sx_iB_s aJ_398_27)) (sx_ite (p := fun l => sx_iOk prog_14_method_77_code l) (sx_iB_s aJ_398_28) (sx_iB_s aJ_398_29))) (sx_ite (p := fun l => sx_iOk prog_14_method_77_code l) (sx_ite (p := fun l => sx_iOk prog_14_method_77_code l) (sx_iB_s aJ_398_30) (sx_iB_s aJ_398_31)) (sx_ite (p := fun l => sx_iOk prog_14_method_77_code l) (sx_iB_s aJ_398_32) (sx_ite (p := fun l => sx_iOk prog_14_method_77_code l) (sx_iB_s aJ_398_33) (sx_iB_s aJ_398_34)))))))
def aW_398 : Nat → Option (Instr × Nat) := fun pc => sx_iF (aS_398 pc) pc
theorem aX_398 : ∀ pc i len, aW_398 pc = some (i, len) → decode aM_398.1.2.1 pc = .ok (i, len) := fun pc i len h => sx_iF_s (aT_398 pc) h
def aI_400_0 : sx_IL := [(0, .iload_n 1, 1), (1, .i2l, 1), (2, .lconst 1, 1), (3, .ldc2_w 631, 3), (6, .invokestatic 513, 3), (9, .ifCond .eq 10, 3)]
theorem aJ_400_0 : sx_iB prog_14_method_91_code aI_400_0 = true := by decide +kernel
def aI_400_1 : sx_IL := [(12, .iload_n 2, 1), (13, .invokestatic 652, 3), (16, .ifCond .ne 5, 3), (19, .iconst (-1), 1), (20, .ireturn, 1), (21, .aload_n 0, 1)]
theorem aJ_400_1 : sx_iB prog_14_method_91_code aI_400_1 = true := by decide +kernel
def aI_400_2 : sx_IL := [(22, .iconst 0, 1), (23, .putfield 814, 3), (26, .aload_n 0, 1), (27, .aload_n 0, 1), (28, .getfield 7, 3), (31, .iconst 0, 1)]
theorem aJ_400_2 : sx_iB prog_14_method_91_code aI_400_2 = true := by decide +kernel
def aI_400_3 : sx_IL := [(32, .aload_n 0, 1), (33, .getfield 517, 3), (36, .invokevirtual 828, 3), (39, .aload_n 0, 1), (40, .iload_n 1, 1), (41, .iload_n 2, 1)]
theorem aJ_400_3 : sx_iB prog_14_method_91_code aI_400_3 = true := by decide +kernel
def aI_400_4 : sx_IL := [(42, .invokevirtual 837, 3), (45, .aload_n 0, 1), (46, .getfield 814, 3), (49, .sipush 800, 3), (52, .if_icmp .le 6, 3), (55, .bipush (-3), 2)]
theorem aJ_400_4 : sx_iB prog_14_method_91_code aI_400_4 = true := by decide +kernel
def aI_400_5 : sx_IL := [(57, .ireturn, 1), (58, .iconst 0, 1), (59, .istore_n 3, 1), (60, .iload_n 3, 1), (61, .aload_n 0, 1), (62, .getfield 814, 3)]
theorem aJ_400_5 : sx_iB prog_14_method_91_code aI_400_5 = true := by decide +kernel
def aI_400_6 : sx_IL := [(65, .if_icmp .ge 21, 3), (68, .aload_n 0, 1), (69, .getfield 7, 3), (72, .iload_n 3, 1), (73, .aload_n 0, 1), (74, .getfield 84, 3)]
theorem aJ_400_6 : sx_iB prog_14_method_91_code aI_400_6 = true := by decide +kernel
def aI_400_7 : sx_IL := [(77, .iload_n 3, 1), (78, .iaload, 1), (79, .iastore, 1), (80, .iinc 3 1, 3), (83, .goto (-23), 3), (86, .aload_n 0, 1)]
theorem aJ_400_7 : sx_iB prog_14_method_91_code aI_400_7 = true := by decide +kernel
def aI_400_8 : sx_IL := [(87, .aload_n 0, 1), (88, .getfield 814, 3), (91, .putfield 517, 3), (94, .aload_n 0, 1), (95, .getfield 517, 3), (98, .ireturn, 1)]
theorem aJ_400_8 : sx_iB prog_14_method_91_code aI_400_8 = true := by decide +kernel
def aS_400 (pc : Nat) : sx_IL := (if pc < 42 then (if pc < 22 then (if pc < 12 then aI_400_0 else aI_400_1) else (if pc < 32 then aI_400_2 else aI_400_3)) else (if pc < 65 then (if pc < 57 then aI_400_4 else aI_400_5) else (if pc < 77 then aI_400_6 else (if pc < 87 then aI_400_7 else aI_400_8))))
theorem aT_400 (pc : Nat) : sx_iOk prog_14_method_91_code (aS_400 pc) := (sx_ite (p := fun l => sx_iOk prog_14_method_91_code l) (sx_ite (p := fun l => sx_iOk prog_14_method_91_code l) (sx_ite (p := fun l => sx_iOk prog_14_method_91_code l) (sx_iB_s aJ_400_0) (sx_iB_s aJ_400_1)) (sx_ite (p := fun l => sx_iOk prog_14_method_91_code l) (sx_iB_s aJ_400_2) (sx_iB_s aJ_400_3))) (sx_ite (p := fun l => sx_iOk prog_14_method_91_code l) (sx_ite (p := fun l => sx_iOk prog_14_method_91_code l) (sx_iB_s aJ_400_4) (sx_iB_s aJ_400_5)) (sx_ite (p := fun l => sx_iOk prog_14_method_91_code l) (sx_iB_s aJ_400_6) (sx_ite (p := fun l => sx_iOk prog_14_method_91_code l) (sx_iB_s aJ_400_7) (sx_iB_s aJ_400_8)))))
def aW_400 : Nat → Option (Instr × Nat) := fun pc => sx_iF (aS_400 pc) pc
theorem aX_400 : ∀ pc i len, aW_400 pc = some (i, len) → decode aM_400.1.2.1 pc = .ok (i, len) := fun pc i len h => sx_iF_s (aT_400 pc) h
def aI_401_0 : sx_IL := [(0, .iconst 0, 1), (1, .istore 4, 2), (3, .iload 4, 2), (5, .iload_n 3, 1), (6, .if_icmp .ge 19, 3), (9, .aload_n 0, 1)]
theorem aJ_401_0 : sx_iB prog_14_method_86_code aI_401_0 = true := by decide +kernel
def aI_401_1 : sx_IL := [(10, .aload_n 1, 1), (11, .iload_n 2, 1), (12, .iload 4, 2), (14, .iadd, 1), (15, .iaload, 1), (16, .invokevirtual 817, 3)]
theorem aJ_401_1 : sx_iB prog_14_method_86_code aI_401_1 = true := by decide +kernel
def aI_401_2 : sx_IL := [(19, .iinc 4 1, 3), (22, .goto (-19), 3), (25, .return_, 1)]
theorem aJ_401_2 : sx_iB prog_14_method_86_code aI_401_2 = true := by decide +kernel
def aS_401 (pc : Nat) : sx_IL := (if pc < 10 then aI_401_0 else (if pc < 19 then aI_401_1 else aI_401_2))
theorem aT_401 (pc : Nat) : sx_iOk prog_14_method_86_code (aS_401 pc) := (sx_ite (p := fun l => sx_iOk prog_14_method_86_code l) (sx_iB_s aJ_401_0) (sx_ite (p := fun l => sx_iOk prog_14_method_86_code l) (sx_iB_s aJ_401_1) (sx_iB_s aJ_401_2)))
def aW_401 : Nat → Option (Instr × Nat) := fun pc => sx_iF (aS_401 pc) pc
theorem aX_401 : ∀ pc i len, aW_401 pc = some (i, len) → decode aM_401.1.2.1 pc = .ok (i, len) := fun pc i len h => sx_iF_s (aT_401 pc) h
def aI_402_0 : sx_IL := [(0, .aload_n 0, 1), (1, .getfield 84, 3), (4, .aload_n 0, 1), (5, .getfield 814, 3), (8, .iload_n 1, 1), (9, .sipush 255, 3)]
theorem aJ_402_0 : sx_iB prog_14_method_82_code aI_402_0 = true := by decide +kernel
def aI_402_1 : sx_IL := [(12, .iand, 1), (13, .iastore, 1), (14, .aload_n 0, 1), (15, .dup, 1), (16, .getfield 814, 3), (19, .iconst 1, 1)]
theorem aJ_402_1 : sx_iB prog_14_method_82_code aI_402_1 = true := by decide +kernel
def aI_402_2 : sx_IL := [(20, .iadd, 1), (21, .putfield 814, 3), (24, .return_, 1)]
theorem aJ_402_2 : sx_iB prog_14_method_82_code aI_402_2 = true := by decide +kernel
def aS_402 (pc : Nat) : sx_IL := (if pc < 12 then aI_402_0 else (if pc < 20 then aI_402_1 else aI_402_2))
theorem aT_402 (pc : Nat) : sx_iOk prog_14_method_82_code (aS_402 pc) := (sx_ite (p := fun l => sx_iOk prog_14_method_82_code l) (sx_iB_s aJ_402_0) (sx_ite (p := fun l => sx_iOk prog_14_method_82_code l) (sx_iB_s aJ_402_1) (sx_iB_s aJ_402_2)))
def aW_402 : Nat → Option (Instr × Nat) := fun pc => sx_iF (aS_402 pc) pc
theorem aX_402 : ∀ pc i len, aW_402 pc = some (i, len) → decode aM_402.1.2.1 pc = .ok (i, len) := fun pc i len h => sx_iF_s (aT_402 pc) h
def aI_403_0 : sx_IL := [(0, .aload_n 0, 1), (1, .iload_n 1, 1), (2, .iload_n 2, 1), (3, .aload_n 0, 1), (4, .getfield 84, 3), (7, .iconst 0, 1)]
theorem aJ_403_0 : sx_iB prog_14_method_90_code aI_403_0 = true := by decide +kernel
def aI_403_1 : sx_IL := [(8, .aload_n 0, 1), (9, .getfield 814, 3), (12, .invokevirtual 675, 3), (15, .lstore_n 3, 1), (16, .aload_n 0, 1), (17, .iconst 4, 1)]
theorem aJ_403_1 : sx_iB prog_14_method_90_code aI_403_1 = true := by decide +kernel
def aI_403_2 : sx_IL := [(18, .invokevirtual 817, 3), (21, .aload_n 0, 1), (22, .bipush 8, 2), (24, .invokevirtual 817, 3), (27, .aload_n 0, 1), (28, .lload_n 3, 1)]
theorem aJ_403_2 : sx_iB prog_14_method_90_code aI_403_2 = true := by decide +kernel
def aI_403_3 : sx_IL := [(29, .invokevirtual 831, 3), (32, .aload_n 0, 1), (33, .iconst 0, 1), (34, .bipush 48, 2), (36, .invokevirtual 834, 3), (39, .return_, 1)]
theorem aJ_403_3 : sx_iB prog_14_method_90_code aI_403_3 = true := by decide +kernel
def aS_403 (pc : Nat) : sx_IL := (if pc < 18 then (if pc < 8 then aI_403_0 else aI_403_1) else (if pc < 29 then aI_403_2 else aI_403_3))
theorem aT_403 (pc : Nat) : sx_iOk prog_14_method_90_code (aS_403 pc) := (sx_ite (p := fun l => sx_iOk prog_14_method_90_code l) (sx_ite (p := fun l => sx_iOk prog_14_method_90_code l) (sx_iB_s aJ_403_0) (sx_iB_s aJ_403_1)) (sx_ite (p := fun l => sx_iOk prog_14_method_90_code l) (sx_iB_s aJ_403_2) (sx_iB_s aJ_403_3)))
def aW_403 : Nat → Option (Instr × Nat) := fun pc => sx_iF (aS_403 pc) pc
theorem aX_403 : ∀ pc i len, aW_403 pc = some (i, len) → decode aM_403.1.2.1 pc = .ok (i, len) := fun pc i len h => sx_iF_s (aT_403 pc) h
def aI_404_0 : sx_IL := [(0, .aload_n 0, 1), (1, .lload_n 1, 1), (2, .bipush 32, 2), (4, .lshr, 1), (5, .l2i, 1), (6, .invokevirtual 823, 3)]
theorem aJ_404_0 : sx_iB prog_14_method_85_code aI_404_0 = true := by decide +kernel
def aI_404_1 : sx_IL := [(9, .aload_n 0, 1), (10, .lload_n 1, 1), (11, .l2i, 1), (12, .invokevirtual 823, 3), (15, .return_, 1)]
theorem aJ_404_1 : sx_iB prog_14_method_85_code aI_404_1 = true := by decide +kernel
def aS_404 (pc : Nat) : sx_IL := (if pc < 9 then aI_404_0 else aI_404_1)
theorem aT_404 (pc : Nat) : sx_iOk prog_14_method_85_code (aS_404 pc) := (sx_ite (p := fun l => sx_iOk prog_14_method_85_code l) (sx_iB_s aJ_404_0) (sx_iB_s aJ_404_1))
def aW_404 : Nat → Option (Instr × Nat) := fun pc => sx_iF (aS_404 pc) pc
theorem aX_404 : ∀ pc i len, aW_404 pc = some (i, len) → decode aM_404.1.2.1 pc = .ok (i, len) := fun pc i len h => sx_iF_s (aT_404 pc) h
def aI_405_0 : sx_IL := [(0, .aload_n 0, 1), (1, .iload_n 1, 1), (2, .bipush 16, 2), (4, .ishr, 1), (5, .invokevirtual 820, 3), (8, .aload_n 0, 1)]
theorem aJ_405_0 : sx_iB prog_14_method_84_code aI_405_0 = true := by decide +kernel
def aI_405_1 : sx_IL := [(9, .iload_n 1, 1), (10, .invokevirtual 820, 3), (13, .return_, 1)]
theorem aJ_405_1 : sx_iB prog_14_method_84_code aI_405_1 = true := by decide +kernel
def aS_405 (pc : Nat) : sx_IL := (if pc < 9 then aI_405_0 else aI_405_1)
theorem aT_405 (pc : Nat) : sx_iOk prog_14_method_84_code (aS_405 pc) := (sx_ite (p := fun l => sx_iOk prog_14_method_84_code l) (sx_iB_s aJ_405_0) (sx_iB_s aJ_405_1))
def aW_405 : Nat → Option (Instr × Nat) := fun pc => sx_iF (aS_405 pc) pc
theorem aX_405 : ∀ pc i len, aW_405 pc = some (i, len) → decode aM_405.1.2.1 pc = .ok (i, len) := fun pc i len h => sx_iF_s (aT_405 pc) h
def aI_406_0 : sx_IL := [(0, .aload_n 0, 1), (1, .iload_n 1, 1), (2, .bipush 8, 2), (4, .ishr, 1), (5, .invokevirtual 817, 3), (8, .aload_n 0, 1)]
theorem aJ_406_0 : sx_iB prog_14_method_83_code aI_406_0 = true := by decide +kernel
def aI_406_1 : sx_IL := [(9, .iload_n 1, 1), (10, .invokevirtual 817, 3), (13, .return_, 1)]
theorem aJ_406_1 : sx_iB prog_14_method_83_code aI_406_1 = true := by decide +kernel
def aS_406 (pc : Nat) : sx_IL := (if pc < 9 then aI_406_0 else aI_406_1)
theorem aT_406 (pc : Nat) : sx_iOk prog_14_method_83_code (aS_406 pc) := (sx_ite (p := fun l => sx_iOk prog_14_method_83_code l) (sx_iB_s aJ_406_0) (sx_iB_s aJ_406_1))
def aW_406 : Nat → Option (Instr × Nat) := fun pc => sx_iF (aS_406 pc) pc
theorem aX_406 : ∀ pc i len, aW_406 pc = some (i, len) → decode aM_406.1.2.1 pc = .ok (i, len) := fun pc i len h => sx_iF_s (aT_406 pc) h
def aI_407_0 : sx_IL := [(0, .aload_n 0, 1), (1, .getfield 814, 3), (4, .iload_n 1, 1), (5, .isub, 1), (6, .istore_n 3, 1), (7, .iload_n 3, 1)]
theorem aJ_407_0 : sx_iB prog_14_method_89_code aI_407_0 = true := by decide +kernel
def aI_407_1 : sx_IL := [(8, .sipush 128, 3), (11, .if_icmp .ge 7, 3), (14, .iconst 2, 1), (15, .goto 15, 3), (18, .iload_n 3, 1), (19, .sipush 256, 3)]
theorem aJ_407_1 : sx_iB prog_14_method_89_code aI_407_1 = true := by decide +kernel
def aI_407_2 : sx_IL := [(22, .if_icmp .ge 7, 3), (25, .iconst 3, 1), (26, .goto 4, 3), (29, .iconst 4, 1), (30, .istore 4, 2), (32, .aload_n 0, 1)]
theorem aJ_407_2 : sx_iB prog_14_method_89_code aI_407_2 = true := by decide +kernel
def aI_407_3 : sx_IL := [(33, .getfield 814, 3), (36, .iconst 1, 1), (37, .isub, 1), (38, .istore 5, 2), (40, .iload 5, 2), (42, .iload_n 1, 1)]
theorem aJ_407_3 : sx_iB prog_14_method_89_code aI_407_3 = true := by decide +kernel
def aI_407_4 : sx_IL := [(43, .if_icmp .lt 26, 3), (46, .aload_n 0, 1), (47, .getfield 84, 3), (50, .iload 5, 2), (52, .iload 4, 2), (54, .iadd, 1)]
theorem aJ_407_4 : sx_iB prog_14_method_89_code aI_407_4 = true := by decide +kernel
def aI_407_5 : sx_IL := [(55, .aload_n 0, 1), (56, .getfield 84, 3), (59, .iload 5, 2), (61, .iaload, 1), (62, .iastore, 1), (63, .iinc 5 (-1), 3)]
theorem aJ_407_5 : sx_iB prog_14_method_89_code aI_407_5 = true := by decide +kernel
def aI_407_6 : sx_IL := [(66, .goto (-26), 3), (69, .aload_n 0, 1), (70, .iload_n 1, 1), (71, .putfield 814, 3), (74, .aload_n 0, 1), (75, .iload_n 2, 1)]
theorem aJ_407_6 : sx_iB prog_14_method_89_code aI_407_6 = true := by decide +kernel
def aI_407_7 : sx_IL := [(76, .invokevirtual 817, 3), (79, .iload 4, 2), (81, .iconst 2, 1), (82, .if_icmp .ne 11, 3), (85, .aload_n 0, 1), (86, .iload_n 3, 1)]
theorem aJ_407_7 : sx_iB prog_14_method_89_code aI_407_7 = true := by decide +kernel
def aI_407_8 : sx_IL := [(87, .invokevirtual 817, 3), (90, .goto 36, 3), (93, .iload 4, 2), (95, .iconst 3, 1), (96, .if_icmp .ne 18, 3), (99, .aload_n 0, 1)]
theorem aJ_407_8 : sx_iB prog_14_method_89_code aI_407_8 = true := by decide +kernel
def aI_407_9 : sx_IL := [(100, .sipush 129, 3), (103, .invokevirtual 817, 3), (106, .aload_n 0, 1), (107, .iload_n 3, 1), (108, .invokevirtual 817, 3), (111, .goto 15, 3)]
theorem aJ_407_9 : sx_iB prog_14_method_89_code aI_407_9 = true := by decide +kernel
def aI_407_10 : sx_IL := [(114, .aload_n 0, 1), (115, .sipush 130, 3), (118, .invokevirtual 817, 3), (121, .aload_n 0, 1), (122, .iload_n 3, 1), (123, .invokevirtual 820, 3)]
theorem aJ_407_10 : sx_iB prog_14_method_89_code aI_407_10 = true := by decide +kernel
def aI_407_11 : sx_IL := [(126, .aload_n 0, 1), (127, .dup, 1), (128, .getfield 814, 3), (131, .iload_n 3, 1), (132, .iadd, 1), (133, .putfield 814, 3)]
theorem aJ_407_11 : sx_iB prog_14_method_89_code aI_407_11 = true := by decide +kernel
def aI_407_12 : sx_IL := [(136, .return_, 1)]
theorem aJ_407_12 : sx_iB prog_14_method_89_code aI_407_12 = true := by decide +kernel
def aS_407 (pc : Nat) : sx_IL := (if pc < 66 then (if pc < 33 then (if pc < 8 then aI_407_0 else (if pc < 22 then aI_407_1 else aI_407_2)) else (if pc < 43 then aI_407_3 else (if pc < 55 then aI_407_4 else aI_407_5))) else (if pc < 100 then (if pc < 76 then aI_407_6 else (if pc < 87 then aI_407_7 else aI_407_8)) else (if pc < 126 then (if pc < 114 then aI_407_9 else aI_407_10) else (if pc < 136 then aI_407_11 else aI_407_12))))
theorem aT_407 (pc : Nat) : sx_iOk prog_14_method_89_code (aS_407 pc) := (sx_ite (p := fun l => sx_iOk prog_14_method_89_code l) (sx_ite (p := fun l => sx_iOk prog_14_method_89_code l) (sx_ite (p := fun l => sx_iOk prog_14_method_89_code l) (sx_iB_s aJ_407_0) (sx_ite (p := fun l => sx_iOk prog_14_method_89_code l) (sx_iB_s aJ_407_1) (sx_iB_s aJ_407_2))) (sx_ite (p := fun l => sx_iOk prog_14_method_89_code l) (sx_iB_s aJ_407_3) (sx_ite (p := fun l => sx_iOk prog_14_method_89_code l) (sx_iB_s aJ_407_4) (sx_iB_s aJ_407_5)))) (sx_ite (p := fun l => sx_iOk prog_14_method_89_code l) (sx_ite (p := fun l => sx_iOk prog_14_method_89_code l) (sx_iB_s aJ_407_6) (sx_ite (p := fun l => sx_iOk prog_14_method_89_code l) (sx_iB_s aJ_407_7) (sx_iB_s aJ_407_8))) (sx_ite (p := fun l => sx_iOk prog_14_method_89_code l) (sx_ite (p := fun l => sx_iOk prog_14_method_89_code l) (sx_iB_s aJ_407_9) (sx_iB_s aJ_407_10)) (sx_ite (p := fun l => sx_iOk prog_14_method_89_code l) (sx_iB_s aJ_407_11) (sx_iB_s aJ_407_12)))))
def aW_407 : Nat → Option (Instr × Nat) := fun pc => sx_iF (aS_407 pc) pc
theorem aX_407 : ∀ pc i len, aW_407 pc = some (i, len) → decode aM_407.1.2.1 pc = .ok (i, len) := fun pc i len h => sx_iF_s (aT_407 pc) h
def aI_408_0 : sx_IL := [(0, .aload_n 0, 1), (1, .iload_n 1, 1), (2, .invokevirtual 840, 3), (5, .ifCond .eq 15, 3), (8, .iload_n 2, 1), (9, .i2l, 1)]
theorem aJ_408_0 : sx_iB prog_14_method_93_code aI_408_0 = true := by decide +kernel
def aI_408_1 : sx_IL := [(10, .lconst 0, 1), (11, .ldc2_w 843, 3), (14, .invokestatic 513, 3), (17, .ifCond .ne 5, 3), (20, .iconst (-1), 1), (21, .ireturn, 1)]
theorem aJ_408_1 : sx_iB prog_14_method_93_code aI_408_1 = true := by decide +kernel
def aI_408_2 : sx_IL := [(22, .iload_n 2, 1), (23, .bipush 8, 2), (25, .if_icmp .ge 17, 3), (28, .aload_n 0, 1), (29, .getfield 45, 3), (32, .bipush 8, 2)]
theorem aJ_408_2 : sx_iB prog_14_method_93_code aI_408_2 = true := by decide +kernel
def aI_408_3 : sx_IL := [(34, .iload_n 1, 1), (35, .imul, 1), (36, .iload_n 2, 1), (37, .iadd, 1), (38, .iaload, 1), (39, .goto 31, 3)]
theorem aJ_408_3 : sx_iB prog_14_method_93_code aI_408_3 = true := by decide +kernel
def aI_408_4 : sx_IL := [(42, .iload_n 2, 1), (43, .bipush 11, 2), (45, .if_icmp .ne 12, 3), (48, .aload_n 0, 1), (49, .getfield 42, 3), (52, .iload_n 1, 1)]
theorem aJ_408_4 : sx_iB prog_14_method_93_code aI_408_4 = true := by decide +kernel
def aI_408_5 : sx_IL := [(53, .iaload, 1), (54, .goto 16, 3), (57, .aload_n 0, 1), (58, .getfield 60, 3), (61, .iconst 3, 1), (62, .iload_n 1, 1)]
theorem aJ_408_5 : sx_iB prog_14_method_93_code aI_408_5 = true := by decide +kernel
def aI_408_6 : sx_IL := [(63, .imul, 1), (64, .iload_n 2, 1), (65, .iadd, 1), (66, .bipush 8, 2), (68, .isub, 1), (69, .iaload, 1)]
theorem aJ_408_6 : sx_iB prog_14_method_93_code aI_408_6 = true := by decide +kernel
def aI_408_7 : sx_IL := [(70, .ireturn, 1)]
theorem aJ_408_7 : sx_iB prog_14_method_93_code aI_408_7 = true := by decide +kernel
def aS_408 (pc : Nat) : sx_IL := (if pc < 42 then (if pc < 22 then (if pc < 10 then aI_408_0 else aI_408_1) else (if pc < 34 then aI_408_2 else aI_408_3)) else (if pc < 63 then (if pc < 53 then aI_408_4 else aI_408_5) else (if pc < 70 then aI_408_6 else aI_408_7)))
theorem aT_408 (pc : Nat) : sx_iOk prog_14_method_93_code (aS_408 pc) := (sx_ite (p := fun l => sx_iOk prog_14_method_93_code l) (sx_ite (p := fun l => sx_iOk prog_14_method_93_code l) (sx_ite (p := fun l => sx_iOk prog_14_method_93_code l) (sx_iB_s aJ_408_0) (sx_iB_s aJ_408_1)) (sx_ite (p := fun l => sx_iOk prog_14_method_93_code l) (sx_iB_s aJ_408_2) (sx_iB_s aJ_408_3))) (sx_ite (p := fun l => sx_iOk prog_14_method_93_code l) (sx_ite (p := fun l => sx_iOk prog_14_method_93_code l) (sx_iB_s aJ_408_4) (sx_iB_s aJ_408_5)) (sx_ite (p := fun l => sx_iOk prog_14_method_93_code l) (sx_iB_s aJ_408_6) (sx_iB_s aJ_408_7))))
def aW_408 : Nat → Option (Instr × Nat) := fun pc => sx_iF (aS_408 pc) pc
theorem aX_408 : ∀ pc i len, aW_408 pc = some (i, len) → decode aM_408.1.2.1 pc = .ok (i, len) := fun pc i len h => sx_iF_s (aT_408 pc) h
def aI_409_0 : sx_IL := [(0, .iload_n 1, 1), (1, .i2l, 1), (2, .lconst 0, 1), (3, .aload_n 0, 1), (4, .getfield 782, 3), (7, .iconst 1, 1)]
theorem aJ_409_0 : sx_iB prog_14_method_92_code aI_409_0 = true := by decide +kernel
def aI_409_1 : sx_IL := [(8, .isub, 1), (9, .i2l, 1), (10, .invokestatic 513, 3), (13, .ireturn, 1)]
theorem aJ_409_1 : sx_iB prog_14_method_92_code aI_409_1 = true := by decide +kernel
def aS_409 (pc : Nat) : sx_IL := (if pc < 8 then aI_409_0 else aI_409_1)
theorem aT_409 (pc : Nat) : sx_iOk prog_14_method_92_code (aS_409 pc) := (sx_ite (p := fun l => sx_iOk prog_14_method_92_code l) (sx_iB_s aJ_409_0) (sx_iB_s aJ_409_1))
def aW_409 : Nat → Option (Instr × Nat) := fun pc => sx_iF (aS_409 pc) pc
theorem aX_409 : ∀ pc i len, aW_409 pc = some (i, len) → decode aM_409.1.2.1 pc = .ok (i, len) := fun pc i len h => sx_iF_s (aT_409 pc) h
def aI_410_0 : sx_IL := [(0, .iload_n 2, 1), (1, .ifCond .eq 61, 3), (4, .iload_n 2, 1), (5, .iconst 1, 1), (6, .if_icmp .eq 56, 3), (9, .iload_n 2, 1)]
theorem aJ_410_0 : sx_iB prog_14_method_94_code aI_410_0 = true := by decide +kernel
def aI_410_1 : sx_IL := [(10, .bipush 11, 2), (12, .if_icmp .eq 50, 3), (15, .iload_n 2, 1), (16, .i2l, 1), (17, .ldc2_w 511, 3), (20, .ldc2_w 845, 3)]
theorem aJ_410_1 : sx_iB prog_14_method_94_code aI_410_1 = true := by decide +kernel
def aI_410_2 : sx_IL := [(23, .invokestatic 513, 3), (26, .ifCond .eq 40, 3), (29, .aload_n 0, 1), (30, .iload_n 1, 1), (31, .invokevirtual 840, 3), (34, .ifCond .eq 32, 3)]
theorem aJ_410_2 : sx_iB prog_14_method_94_code aI_410_2 = true := by decide +kernel
def aI_410_3 : sx_IL := [(37, .iload_n 3, 1), (38, .i2l, 1), (39, .lconst 0, 1), (40, .aload_n 0, 1), (41, .getfield 60, 3), (44, .iconst 3, 1)]
theorem aJ_410_3 : sx_iB prog_14_method_94_code aI_410_3 = true := by decide +kernel
def aI_410_4 : sx_IL := [(45, .iload_n 1, 1), (46, .imul, 1), (47, .iload_n 2, 1), (48, .iadd, 1), (49, .bipush 8, 2), (51, .isub, 1)]
theorem aJ_410_4 : sx_iB prog_14_method_94_code aI_410_4 = true := by decide +kernel
def aI_410_5 : sx_IL := [(52, .iaload, 1), (53, .iconst 1, 1), (54, .isub, 1), (55, .i2l, 1), (56, .invokestatic 513, 3), (59, .ifCond .eq 7, 3)]
theorem aJ_410_5 : sx_iB prog_14_method_94_code aI_410_5 = true := by decide +kernel
def aI_410_6 : sx_IL := [(62, .iconst 1, 1), (63, .goto 4, 3), (66, .iconst 0, 1), (67, .istore 4, 2), (69, .aload_n 0, 1), (70, .iload_n 1, 1)]
theorem aJ_410_6 : sx_iB prog_14_method_94_code aI_410_6 = true := by decide +kernel
def aI_410_7 : sx_IL := [(71, .invokevirtual 840, 3), (74, .ifCond .eq 8, 3), (77, .iload 4, 2), (79, .ifCond .ne 5, 3), (82, .iconst (-1), 1), (83, .ireturn, 1)]
theorem aJ_410_7 : sx_iB prog_14_method_94_code aI_410_7 = true := by decide +kernel
def aI_410_8 : sx_IL := [(84, .iload_n 2, 1), (85, .ifCond .ne 14, 3), (88, .aload_n 0, 1), (89, .getfield 48, 3), (92, .iconst 2, 1), (93, .iload_n 1, 1)]
theorem aJ_410_8 : sx_iB prog_14_method_94_code aI_410_8 = true := by decide +kernel
def aI_410_9 : sx_IL := [(94, .imul, 1), (95, .iaload, 1), (96, .goto 54, 3), (99, .iload_n 2, 1), (100, .iconst 1, 1), (101, .if_icmp .ne 14, 3)]
theorem aJ_410_9 : sx_iB prog_14_method_94_code aI_410_9 = true := by decide +kernel
def aI_410_10 : sx_IL := [(104, .aload_n 0, 1), (105, .getfield 51, 3), (108, .iconst 2, 1), (109, .iload_n 1, 1), (110, .imul, 1), (111, .iaload, 1)]
theorem aJ_410_10 : sx_iB prog_14_method_94_code aI_410_10 = true := by decide +kernel
def aI_410_11 : sx_IL := [(112, .goto 38, 3), (115, .iload_n 2, 1), (116, .bipush 11, 2), (118, .if_icmp .ne 11, 3), (121, .sipush 400, 3), (124, .iload_n 1, 1)]
theorem aJ_410_11 : sx_iB prog_14_method_94_code aI_410_11 = true := by decide +kernel
def aI_410_12 : sx_IL := [(125, .imul, 1), (126, .goto 24, 3), (129, .aload_n 0, 1), (130, .getfield 63, 3), (133, .bipush 24, 2), (135, .iload_n 1, 1)]
theorem aJ_410_12 : sx_iB prog_14_method_94_code aI_410_12 = true := by decide +kernel
def aI_410_13 : sx_IL := [(136, .imul, 1), (137, .bipush 8, 2), (139, .iload_n 2, 1), (140, .bipush 8, 2), (142, .isub, 1), (143, .imul, 1)]
theorem aJ_410_13 : sx_iB prog_14_method_94_code aI_410_13 = true := by decide +kernel
def aI_410_14 : sx_IL := [(144, .iadd, 1), (145, .iconst 2, 1), (146, .iload_n 3, 1), (147, .imul, 1), (148, .iadd, 1), (149, .iaload, 1)]
theorem aJ_410_14 : sx_iB prog_14_method_94_code aI_410_14 = true := by decide +kernel
def aI_410_15 : sx_IL := [(150, .istore 5, 2), (152, .iload_n 2, 1), (153, .ifCond .ne 16, 3), (156, .aload_n 0, 1), (157, .getfield 48, 3), (160, .iconst 2, 1)]
theorem aJ_410_15 : sx_iB prog_14_method_94_code aI_410_15 = true := by decide +kernel
def aI_410_16 : sx_IL := [(161, .iload_n 1, 1), (162, .imul, 1), (163, .iconst 1, 1), (164, .iadd, 1), (165, .iaload, 1), (166, .goto 59, 3)]
theorem aJ_410_16 : sx_iB prog_14_method_94_code aI_410_16 = true := by decide +kernel
def aI_410_17 : sx_IL := [(169, .iload_n 2, 1), (170, .iconst 1, 1), (171, .if_icmp .ne 16, 3), (174, .aload_n 0, 1), (175, .getfield 51, 3), (178, .iconst 2, 1)]
theorem aJ_410_17 : sx_iB prog_14_method_94_code aI_410_17 = true := by decide +kernel
def aI_410_18 : sx_IL := [(179, .iload_n 1, 1), (180, .imul, 1), (181, .iconst 1, 1), (182, .iadd, 1), (183, .iaload, 1), (184, .goto 41, 3)]
theorem aJ_410_18 : sx_iB prog_14_method_94_code aI_410_18 = true := by decide +kernel
def aI_410_19 : sx_IL := [(187, .iload_n 2, 1), (188, .bipush 11, 2), (190, .if_icmp .ne 12, 3), (193, .aload_n 0, 1), (194, .getfield 42, 3), (197, .iload_n 1, 1)]
theorem aJ_410_19 : sx_iB prog_14_method_94_code aI_410_19 = true := by decide +kernel
def aI_410_20 : sx_IL := [(198, .iaload, 1), (199, .goto 26, 3), (202, .aload_n 0, 1), (203, .getfield 63, 3), (206, .bipush 24, 2), (208, .iload_n 1, 1)]
theorem aJ_410_20 : sx_iB prog_14_method_94_code aI_410_20 = true := by decide +kernel
def aI_410_21 : sx_IL := [(209, .imul, 1), (210, .bipush 8, 2), (212, .iload_n 2, 1), (213, .bipush 8, 2), (215, .isub, 1), (216, .imul, 1)]
theorem aJ_410_21 : sx_iB prog_14_method_94_code aI_410_21 = true := by decide +kernel
def aI_410_22 : sx_IL := [(217, .iadd, 1), (218, .iconst 2, 1), (219, .iload_n 3, 1), (220, .imul, 1), (221, .iadd, 1), (222, .iconst 1, 1)]
theorem aJ_410_22 : sx_iB prog_14_method_94_code aI_410_22 = true := by decide +kernel
def aI_410_23 : sx_IL := [(223, .iadd, 1), (224, .iaload, 1), (225, .istore 6, 2), (227, .aload_n 0, 1), (228, .iload 6, 2), (230, .putfield 520, 3)]
theorem aJ_410_23 : sx_iB prog_14_method_94_code aI_410_23 = true := by decide +kernel
def aI_410_24 : sx_IL := [(233, .iconst 0, 1), (234, .istore 7, 2), (236, .iload 7, 2), (238, .iload 6, 2), (240, .if_icmp .ge 26, 3), (243, .aload_n 0, 1)]
theorem aJ_410_24 : sx_iB prog_14_method_94_code aI_410_24 = true := by decide +kernel
def aI_410_25 : sx_IL := [(244, .getfield 13, 3), (247, .iload 7, 2), (249, .aload_n 0, 1), (250, .getfield 39, 3), (253, .iload 5, 2), (255, .iload 7, 2)]
theorem aJ_410_25 : sx_iB prog_14_method_94_code aI_410_25 = true := by decide +kernel
def aI_410_26 : sx_IL := [(257, .iadd, 1), (258, .iaload, 1), (259, .iastore, 1), (260, .iinc 7 1, 3), (263, .goto (-27), 3), (266, .iload 6, 2)]
theorem aJ_410_26 : sx_iB prog_14_method_94_code aI_410_26 = true := by decide +kernel
def aI_410_27 : sx_IL := [(268, .ireturn, 1)]
theorem aJ_410_27 : sx_iB prog_14_method_94_code aI_410_27 = true := by decide +kernel
def aS_410 (pc : Nat) : sx_IL := (if pc < 144 then (if pc < 71 then (if pc < 37 then (if pc < 10 then aI_410_0 else (if pc < 23 then aI_410_1 else aI_410_2)) else (if pc < 52 then (if pc < 45 then aI_410_3 else aI_410_4) else (if pc < 62 then aI_410_5 else aI_410_6))) else (if pc < 104 then (if pc < 84 then aI_410_7 else (if pc < 94 then aI_410_8 else aI_410_9)) else (if pc < 125 then (if pc < 112 then aI_410_10 else aI_410_11) else (if pc < 136 then aI_410_12 else aI_410_13)))) else (if pc < 209 then (if pc < 169 then (if pc < 150 then aI_410_14 else (if pc < 161 then aI_410_15 else aI_410_16)) else (if pc < 187 then (if pc < 179 then aI_410_17 else aI_410_18) else (if pc < 198 then aI_410_19 else aI_410_20))) else (if pc < 233 then (if pc < 217 then aI_410_21 else (if pc < 223 then aI_410_22 else aI_410_23)) else (if pc < 257 then (if pc < 244 then aI_410_24 else aI_410_25) else (if pc < 268 then aI_410_26 else aI_410_27)))))
theorem aT_410 (pc : Nat) : sx_iOk prog_14_method_94_code (aS_410 pc) := (sx_ite (p := fun l => sx_iOk prog_14_method_94_code l) (sx_ite (p := fun l => sx_iOk prog_14_method_94_code l) (sx_ite (p := fun l => sx_iOk prog_14_method_94_code l) (sx_ite (p := fun l => sx_iOk prog_14_method_94_code l) (sx_iB_s aJ_410_0) (sx_ite (p := fun l => sx_iOk prog_14_method_94_code l) (sx_iB_s aJ_410_1) (sx_iB_s aJ_410_2))) (sx_ite (p := fun l => sx_iOk prog_14_method_94_code l) (sx_ite (p := fun l => sx_iOk prog_14_method_94_code l) (sx_iB_s aJ_410_3) (sx_iB_s aJ_410_4)) (sx_ite (p := fun l => sx_iOk prog_14_method_94_code l) (sx_iB_s aJ_410_5) (sx_iB_s aJ_410_6)))) (sx_ite (p := fun l => sx_iOk prog_14_method_94_code l) (sx_ite (p := fun l => sx_iOk prog_14_method_94_code l) (sx_iB_s aJ_410_7) (sx_ite (p := fun l => sx_iOk prog_14_method_94_code l) (sx_iB_s aJ_410_8) (sx_iB_s aJ_410_9))) (sx_ite (p := fun l => sx_iOk prog_14_method_94_code l) (sx_ite (p := fun l => sx_iOk prog_14_method_94_code l) (sx_iB_s aJ_410_10) (sx_iB_s aJ_410_11)) (sx_ite (p := fun l => sx_iOk prog_14_method_94_code l) (sx_iB_s aJ_410_12) (sx_iB_s aJ_410_13))))) (sx_ite (p := fun l => sx_iOk prog_14_method_94_code l) (sx_ite (p := fun l => sx_iOk prog_14_method_94_code l) (sx_ite (p := fun l => sx_iOk prog_14_method_94_code l) (sx_iB_s aJ_410_14) (sx_ite (p := fun l => sx_iOk prog_14_method_94_code l) (sx_iB_s aJ_410_15) (sx_iB_s aJ_410_16))) (sx_ite (p := fun l => sx_iOk prog_14_method_94_code l) (sx_ite (p := fun l => sx_iOk prog_14_method_94_code l) (sx_iB_s aJ_410_17) (sx_iB_s aJ_410_18)) (sx_ite (p := fun l => sx_iOk prog_14_method_94_code l) (sx_iB_s aJ_410_19) (sx_iB_s aJ_410_20)))) (sx_ite (p := fun l => sx_iOk prog_14_method_94_code l) (sx_ite (p := fun l => sx_iOk prog_14_method_94_code l) (sx_iB_s aJ_410_21) (sx_ite (p := fun l => sx_iOk prog_14_method_94_code l) (sx_iB_s aJ_410_22) (sx_iB_s aJ_410_23))) (sx_ite (p := fun l => sx_iOk prog_14_method_94_code l) (sx_ite (p := fun l => sx_iOk prog_14_method_94_code l) (sx_iB_s aJ_410_24) (sx_iB_s aJ_410_25)) (sx_ite (p := fun l => sx_iOk prog_14_method_94_code l) (sx_iB_s aJ_410_26) (sx_iB_s aJ_410_27))))))
def aW_410 : Nat → Option (Instr × Nat) := fun pc => sx_iF (aS_410 pc) pc
theorem aX_410 : ∀ pc i len, aW_410 pc = some (i, len) → decode aM_410.1.2.1 pc = .ok (i, len) := fun pc i len h => sx_iF_s (aT_410 pc) h
def aI_411_0 : sx_IL := [(0, .aload_n 0, 1), (1, .iload_n 1, 1), (2, .invokevirtual 840, 3), (5, .ifCond .eq 11, 3), (8, .aload_n 0, 1), (9, .iload_n 2, 1)]
theorem aJ_411_0 : sx_iB prog_14_method_102_code aI_411_0 = true := by decide +kernel
def aI_411_1 : sx_IL := [(10, .invokevirtual 840, 3), (13, .ifCond .ne 5, 3), (16, .iconst (-1), 1), (17, .ireturn, 1), (18, .aload_n 0, 1), (19, .iconst 0, 1)]
theorem aJ_411_1 : sx_iB prog_14_method_102_code aI_411_1 = true := by decide +kernel
def aI_411_2 : sx_IL := [(20, .putfield 855, 3), (23, .aload_n 0, 1), (24, .iload_n 1, 1), (25, .iload_n 2, 1), (26, .iload_n 3, 1), (27, .invokevirtual 863, 3)]
theorem aJ_411_2 : sx_iB prog_14_method_102_code aI_411_2 = true := by decide +kernel
def aI_411_3 : sx_IL := [(30, .ireturn, 1)]
theorem aJ_411_3 : sx_iB prog_14_method_102_code aI_411_3 = true := by decide +kernel
def aS_411 (pc : Nat) : sx_IL := (if pc < 20 then (if pc < 10 then aI_411_0 else aI_411_1) else (if pc < 30 then aI_411_2 else aI_411_3))
theorem aT_411 (pc : Nat) : sx_iOk prog_14_method_102_code (aS_411 pc) := (sx_ite (p := fun l => sx_iOk prog_14_method_102_code l) (sx_ite (p := fun l => sx_iOk prog_14_method_102_code l) (sx_iB_s aJ_411_0) (sx_iB_s aJ_411_1)) (sx_ite (p := fun l => sx_iOk prog_14_method_102_code l) (sx_iB_s aJ_411_2) (sx_iB_s aJ_411_3)))
def aW_411 : Nat → Option (Instr × Nat) := fun pc => sx_iF (aS_411 pc) pc
theorem aX_411 : ∀ pc i len, aW_411 pc = some (i, len) → decode aM_411.1.2.1 pc = .ok (i, len) := fun pc i len h => sx_iF_s (aT_411 pc) h
def aI_412_0 : sx_IL := [(0, .aload_n 0, 1), (1, .getfield 855, 3), (4, .ifCond .eq 8, 3), (7, .bipush 12, 2), (9, .goto 9, 3), (12, .aload_n 0, 1)]
theorem aJ_412_0 : sx_iB prog_14_method_101_code aI_412_0 = true := by decide +kernel
def aI_412_1 : sx_IL := [(13, .getfield 811, 3), (16, .iconst 1, 1), (17, .isub, 1), (18, .istore 4, 2), (20, .iload 4, 2), (22, .ifCond .lt 89, 3)]
theorem aJ_412_1 : sx_iB prog_14_method_101_code aI_412_1 = true := by decide +kernel
def aI_412_2 : sx_IL := [(25, .aload_n 0, 1), (26, .getfield 81, 3), (29, .bipush 8, 2), (31, .iload 4, 2), (33, .imul, 1), (34, .iconst 2, 1)]
theorem aJ_412_2 : sx_iB prog_14_method_101_code aI_412_2 = true := by decide +kernel
def aI_412_3 : sx_IL := [(35, .iadd, 1), (36, .iaload, 1), (37, .aload_n 0, 1), (38, .getfield 45, 3), (41, .bipush 8, 2), (43, .iload_n 1, 1)]
theorem aJ_412_3 : sx_iB prog_14_method_101_code aI_412_3 = true := by decide +kernel
def aI_412_4 : sx_IL := [(44, .imul, 1), (45, .iaload, 1), (46, .if_icmp .ne 40, 3), (49, .aload_n 0, 1), (50, .iload_n 1, 1), (51, .iload_n 2, 1)]
theorem aJ_412_4 : sx_iB prog_14_method_101_code aI_412_4 = true := by decide +kernel
def aI_412_5 : sx_IL := [(52, .iload_n 3, 1), (53, .aload_n 0, 1), (54, .getfield 81, 3), (57, .bipush 8, 2), (59, .iload 4, 2), (61, .imul, 1)]
theorem aJ_412_5 : sx_iB prog_14_method_101_code aI_412_5 = true := by decide +kernel
def aI_412_6 : sx_IL := [(62, .aload_n 0, 1), (63, .getfield 75, 3), (66, .invokevirtual 859, 3), (69, .ifCond .eq 17, 3), (72, .aload_n 0, 1), (73, .getfield 81, 3)]
theorem aJ_412_6 : sx_iB prog_14_method_101_code aI_412_6 = true := by decide +kernel
def aI_412_7 : sx_IL := [(76, .bipush 8, 2), (78, .iload 4, 2), (80, .imul, 1), (81, .bipush 7, 2), (83, .iadd, 1), (84, .iaload, 1)]
theorem aJ_412_7 : sx_iB prog_14_method_101_code aI_412_7 = true := by decide +kernel
def aI_412_8 : sx_IL := [(85, .ireturn, 1), (86, .iload 4, 2), (88, .bipush 12, 2), (90, .if_icmp .ne 12, 3), (93, .aload_n 0, 1), (94, .getfield 811, 3)]
theorem aJ_412_8 : sx_iB prog_14_method_101_code aI_412_8 = true := by decide +kernel
def aI_412_9 : sx_IL := [(97, .iconst 1, 1), (98, .isub, 1), (99, .goto 7, 3), (102, .iload 4, 2), (104, .iconst 1, 1), (105, .isub, 1)]
theorem aJ_412_9 : sx_iB prog_14_method_101_code aI_412_9 = true := by decide +kernel
def aI_412_10 : sx_IL := [(106, .istore 4, 2), (108, .goto (-88), 3), (111, .bipush (-4), 2), (113, .istore 4, 2), (115, .iconst 0, 1), (116, .istore 5, 2)]
theorem aJ_412_10 : sx_iB prog_14_method_101_code aI_412_10 = true := by decide +kernel
def aI_412_11 : sx_IL := [(118, .iload 5, 2), (120, .aload_n 0, 1), (121, .getfield 802, 3), (124, .if_icmp .ge 70, 3), (127, .iload 4, 2), (129, .bipush (-4), 2)]
theorem aJ_412_11 : sx_iB prog_14_method_101_code aI_412_11 = true := by decide +kernel
def aI_412_12 : sx_IL := [(131, .if_icmp .eq 30, 3), (134, .aload_n 0, 1), (135, .getfield 72, 3), (138, .bipush 8, 2), (140, .iload 5, 2), (142, .imul, 1)]
theorem aJ_412_12 : sx_iB prog_14_method_101_code aI_412_12 = true := by decide +kernel
def aI_412_13 : sx_IL := [(143, .iconst 2, 1), (144, .iadd, 1), (145, .iaload, 1), (146, .aload_n 0, 1), (147, .getfield 72, 3), (150, .bipush 8, 2)]
theorem aJ_412_13 : sx_iB prog_14_method_101_code aI_412_13 = true := by decide +kernel
def aI_412_14 : sx_IL := [(152, .iload 4, 2), (154, .imul, 1), (155, .iconst 2, 1), (156, .iadd, 1), (157, .iaload, 1), (158, .if_icmp .lt 30, 3)]
theorem aJ_412_14 : sx_iB prog_14_method_101_code aI_412_14 = true := by decide +kernel
def aI_412_15 : sx_IL := [(161, .aload_n 0, 1), (162, .iload_n 1, 1), (163, .iload_n 2, 1), (164, .iload_n 3, 1), (165, .aload_n 0, 1), (166, .getfield 72, 3)]
theorem aJ_412_15 : sx_iB prog_14_method_101_code aI_412_15 = true := by decide +kernel
def aI_412_16 : sx_IL := [(169, .bipush 8, 2), (171, .iload 5, 2), (173, .imul, 1), (174, .aload_n 0, 1), (175, .getfield 66, 3), (178, .invokevirtual 859, 3)]
theorem aJ_412_16 : sx_iB prog_14_method_101_code aI_412_16 = true := by decide +kernel
def aI_412_17 : sx_IL := [(181, .ifCond .eq 7, 3), (184, .iload 5, 2), (186, .istore 4, 2), (188, .iinc 5 1, 3), (191, .goto (-73), 3), (194, .iload 4, 2)]
theorem aJ_412_17 : sx_iB prog_14_method_101_code aI_412_17 = true := by decide +kernel
def aI_412_18 : sx_IL := [(196, .bipush (-4), 2), (198, .if_icmp .ne 5, 3), (201, .iconst 2, 1), (202, .ireturn, 1), (203, .aload_n 0, 1), (204, .getfield 72, 3)]
theorem aJ_412_18 : sx_iB prog_14_method_101_code aI_412_18 = true := by decide +kernel
def aI_412_19 : sx_IL := [(207, .bipush 8, 2), (209, .iload 4, 2), (211, .imul, 1), (212, .bipush 7, 2), (214, .iadd, 1), (215, .iaload, 1)]
theorem aJ_412_19 : sx_iB prog_14_method_101_code aI_412_19 = true := by decide +kernel
def aI_412_20 : sx_IL := [(216, .istore 5, 2), (218, .iconst 0, 1), (219, .istore 6, 2), (221, .iload 5, 2), (223, .istore 7, 2), (225, .iload 7, 2)]
theorem aJ_412_20 : sx_iB prog_14_method_101_code aI_412_20 = true := by decide +kernel
def aI_412_21 : sx_IL := [(227, .aload_n 0, 1), (228, .getfield 72, 3), (231, .bipush 8, 2), (233, .iload 4, 2), (235, .imul, 1), (236, .bipush 6, 2)]
theorem aJ_412_21 : sx_iB prog_14_method_101_code aI_412_21 = true := by decide +kernel
def aI_412_22 : sx_IL := [(238, .iadd, 1), (239, .iaload, 1), (240, .iconst 2, 1), (241, .isub, 1), (242, .if_icmp .ge 42, 3), (245, .iload 6, 2)]
theorem aJ_412_22 : sx_iB prog_14_method_101_code aI_412_22 = true := by decide +kernel
def aI_412_23 : sx_IL := [(247, .ifCond .ne 24, 3), (250, .aload_n 0, 1), (251, .getfield 66, 3), (254, .iload 7, 2), (256, .invokestatic 792, 3), (259, .aload_n 0, 1)]
theorem aJ_412_23 : sx_iB prog_14_method_101_code aI_412_23 = true := by decide +kernel
def aI_412_24 : sx_IL := [(260, .getfield 45, 3), (263, .bipush 8, 2), (265, .iload_n 1, 1), (266, .imul, 1), (267, .iaload, 1), (268, .if_icmp .ne 7, 3)]
theorem aJ_412_24 : sx_iB prog_14_method_101_code aI_412_24 = true := by decide +kernel
def aI_412_25 : sx_IL := [(271, .iconst 1, 1), (272, .goto 4, 3), (275, .iconst 0, 1), (276, .istore 6, 2), (278, .iinc 7 4, 3), (281, .goto (-56), 3)]
theorem aJ_412_25 : sx_iB prog_14_method_101_code aI_412_25 = true := by decide +kernel
def aI_412_26 : sx_IL := [(284, .iload 6, 2), (286, .ifCond .eq 7, 3), (289, .iconst 1, 1), (290, .goto 4, 3), (293, .iconst 0, 1), (294, .ireturn, 1)]
theorem aJ_412_26 : sx_iB prog_14_method_101_code aI_412_26 = true := by decide +kernel
def aS_412 (pc : Nat) : sx_IL := (if pc < 143 then (if pc < 62 then (if pc < 35 then (if pc < 13 then aI_412_0 else (if pc < 25 then aI_412_1 else aI_412_2)) else (if pc < 44 then aI_412_3 else (if pc < 52 then aI_412_4 else aI_412_5))) else (if pc < 97 then (if pc < 76 then aI_412_6 else (if pc < 85 then aI_412_7 else aI_412_8)) else (if pc < 118 then (if pc < 106 then aI_412_9 else aI_412_10) else (if pc < 131 then aI_412_11 else aI_412_12)))) else (if pc < 216 then (if pc < 169 then (if pc < 152 then aI_412_13 else (if pc < 161 then aI_412_14 else aI_412_15)) else (if pc < 196 then (if pc < 181 then aI_412_16 else aI_412_17) else (if pc < 207 then aI_412_18 else aI_412_19))) else (if pc < 247 then (if pc < 227 then aI_412_20 else (if pc < 238 then aI_412_21 else aI_412_22)) else (if pc < 271 then (if pc < 260 then aI_412_23 else aI_412_24) else (if pc < 284 then aI_412_25 else aI_412_26)))))
theorem aT_412 (pc : Nat) : sx_iOk prog_14_method_101_code (aS_412 pc) := (sx_ite (p := fun l => sx_iOk prog_14_method_101_code l) (sx_ite (p := fun l => sx_iOk prog_14_method_101_code l) (sx_ite (p := fun l => sx_iOk prog_14_method_101_code l) (sx_ite (p := fun l => sx_iOk prog_14_method_101_code l) (sx_iB_s aJ_412_0) (sx_ite (p := fun l => sx_iOk prog_14_method_101_code l) (sx_iB_s aJ_412_1) (sx_iB_s aJ_412_2))) (sx_ite (p := fun l => sx_iOk prog_14_method_101_code l) (sx_iB_s aJ_412_3) (sx_ite (p := fun l => sx_iOk prog_14_method_101_code l) (sx_iB_s aJ_412_4) (sx_iB_s aJ_412_5)))) (sx_ite (p := fun l => sx_iOk prog_14_method_101_code l) (sx_ite (p := fun l => sx_iOk prog_14_method_101_code l) (sx_iB_s aJ_412_6) (sx_ite (p := fun l => sx_iOk prog_14_method_101_code l) (sx_iB_s aJ_412_7) (sx_iB_s aJ_412_8))) (sx_ite (p := fun l => sx_iOk prog_14_method_101_code l) (sx_ite (p := fun l => sx_iOk prog_14_method_101_code l) (sx_iB_s aJ_412_9) (sx_iB_s aJ_412_10)) (sx_ite (p := fun l => sx_iOk prog_14_method_101_code l) (sx_iB_s aJ_412_11) (sx_iB_s aJ_412_12))))) (sx_ite (p := fun l => sx_iOk prog_14_method_101_code l) (sx_ite (p := fun l => sx_iOk prog_14_method_101_code l) (sx_ite (p := fun l => sx_iOk prog_14_method_101_code l) (sx_iB_s aJ_412_13) (sx_ite (p := fun l => sx_iOk prog_14_method_101_code l) (sx_iB_s aJ_412_14) (sx_iB_s aJ_412_15))) (sx_ite (p := fun l => sx_iOk prog_14_method_101_code l) (sx_ite (p := fun l => sx_iOk prog_14_method_101_code l) (sx_iB_s aJ_412_16) (sx_iB_s aJ_412_17)) (sx_ite (p := fun l => sx_iOk prog_14_method_101_code l) (sx_iB_s aJ_412_18) (sx_iB_s aJ_412_19)))) (sx_ite (p := fun l => sx_iOk prog_14_method_101_code l) (sx_ite (p := fun l => sx_iOk prog_14_method_101_code l) (sx_iB_s aJ_412_20) (sx_ite (p := fun l => sx_iOk prog_14_method_101_code l) (sx_iB_s aJ_412_21) (sx_iB_s aJ_412_22))) (sx_ite (p := fun l => sx_iOk prog_14_method_101_code l) (sx_ite (p := fun l => sx_iOk prog_14_method_101_code l) (sx_iB_s aJ_412_23) (sx_iB_s aJ_412_24)) (sx_ite (p := fun l => sx_iOk prog_14_method_101_code l) (sx_iB_s aJ_412_25) (sx_iB_s aJ_412_26))))))
def aW_412 : Nat → Option (Instr × Nat) := fun pc => sx_iF (aS_412 pc) pc
theorem aX_412 : ∀ pc i len, aW_412 pc = some (i, len) → decode aM_412.1.2.1 pc = .ok (i, len) := fun pc i len h => sx_iF_s (aT_412 pc) h
def aI_413_0 : sx_IL := [(0, .aload_n 0, 1), (1, .getfield 39, 3), (4, .aload_n 0, 1), (5, .getfield 48, 3), (8, .iconst 2, 1), (9, .iload_n 1, 1)]
theorem aJ_413_0 : sx_iB prog_14_method_100_code aI_413_0 = true := by decide +kernel
def aI_413_1 : sx_IL := [(10, .imul, 1), (11, .iaload, 1), (12, .aload_n 0, 1), (13, .getfield 48, 3), (16, .iconst 2, 1), (17, .iload_n 1, 1)]
theorem aJ_413_1 : sx_iB prog_14_method_100_code aI_413_1 = true := by decide +kernel
def aI_413_2 : sx_IL := [(18, .imul, 1), (19, .iconst 1, 1), (20, .iadd, 1), (21, .iaload, 1), (22, .aload 6, 2), (24, .aload 4, 2)]
theorem aJ_413_2 : sx_iB prog_14_method_100_code aI_413_2 = true := by decide +kernel
def aI_413_3 : sx_IL := [(26, .iload 5, 2), (28, .iaload, 1), (29, .aload 4, 2), (31, .iload 5, 2), (33, .iconst 1, 1), (34, .iadd, 1)]
theorem aJ_413_3 : sx_iB prog_14_method_100_code aI_413_3 = true := by decide +kernel
def aI_413_4 : sx_IL := [(35, .iaload, 1), (36, .invokestatic 847, 3), (39, .ifCond .eq 49, 3), (42, .iload_n 3, 1), (43, .i2l, 1), (44, .aload 4, 2)]
theorem aJ_413_4 : sx_iB prog_14_method_100_code aI_413_4 = true := by decide +kernel
def aI_413_5 : sx_IL := [(46, .iload 5, 2), (48, .iconst 3, 1), (49, .iadd, 1), (50, .iaload, 1), (51, .i2l, 1), (52, .aload 4, 2)]
theorem aJ_413_5 : sx_iB prog_14_method_100_code aI_413_5 = true := by decide +kernel
def aI_413_6 : sx_IL := [(54, .iload 5, 2), (56, .iconst 4, 1), (57, .iadd, 1), (58, .iaload, 1), (59, .i2l, 1), (60, .invokestatic 513, 3)]
theorem aJ_413_6 : sx_iB prog_14_method_100_code aI_413_6 = true := by decide +kernel
def aI_413_7 : sx_IL := [(63, .ifCond .eq 25, 3), (66, .aload_n 0, 1), (67, .getfield 45, 3), (70, .bipush 8, 2), (72, .iload_n 2, 1), (73, .imul, 1)]
theorem aJ_413_7 : sx_iB prog_14_method_100_code aI_413_7 = true := by decide +kernel
def aI_413_8 : sx_IL := [(74, .bipush 7, 2), (76, .iadd, 1), (77, .iaload, 1), (78, .bipush 8, 2), (80, .iand, 1), (81, .ifCond .eq 7, 3)]
theorem aJ_413_8 : sx_iB prog_14_method_100_code aI_413_8 = true := by decide +kernel
def aI_413_9 : sx_IL := [(84, .iconst 1, 1), (85, .goto 4, 3), (88, .iconst 0, 1), (89, .istore 7, 2), (91, .iload 7, 2), (93, .ifCond .ne 5, 3)]
theorem aJ_413_9 : sx_iB prog_14_method_100_code aI_413_9 = true := by decide +kernel
def aI_413_10 : sx_IL := [(96, .iconst 0, 1), (97, .ireturn, 1), (98, .iload 5, 2), (100, .bipush 8, 2), (102, .idiv, 1), (103, .sipush 400, 3)]
theorem aJ_413_10 : sx_iB prog_14_method_100_code aI_413_10 = true := by decide +kernel
def aI_413_11 : sx_IL := [(106, .imul, 1), (107, .istore 8, 2), (109, .aload 6, 2), (111, .iload 8, 2), (113, .iconst 1, 1), (114, .iadd, 1)]
theorem aJ_413_11 : sx_iB prog_14_method_100_code aI_413_11 = true := by decide +kernel
def aI_413_12 : sx_IL := [(115, .iaload, 1), (116, .sipush 128, 3), (119, .if_icmp .ge 7, 3), (122, .iconst 2, 1), (123, .goto 21, 3), (126, .aload 6, 2)]
theorem aJ_413_12 : sx_iB prog_14_method_100_code aI_413_12 = true := by decide +kernel
def aI_413_13 : sx_IL := [(128, .iload 8, 2), (130, .iconst 1, 1), (131, .iadd, 1), (132, .iaload, 1), (133, .sipush 129, 3), (136, .if_icmp .ne 7, 3)]
theorem aJ_413_13 : sx_iB prog_14_method_100_code aI_413_13 = true := by decide +kernel
def aI_413_14 : sx_IL := [(139, .iconst 3, 1), (140, .goto 4, 3), (143, .iconst 4, 1), (144, .istore 9, 2), (146, .aload_n 0, 1), (147, .aload 4, 2)]
theorem aJ_413_14 : sx_iB prog_14_method_100_code aI_413_14 = true := by decide +kernel
def aI_413_15 : sx_IL := [(149, .iload 5, 2), (151, .iconst 5, 1), (152, .iadd, 1), (153, .iaload, 1), (154, .aload_n 0, 1), (155, .getfield 45, 3)]
theorem aJ_413_15 : sx_iB prog_14_method_100_code aI_413_15 = true := by decide +kernel
def aI_413_16 : sx_IL := [(158, .bipush 8, 2), (160, .iload_n 2, 1), (161, .imul, 1), (162, .iconst 4, 1), (163, .iadd, 1), (164, .iaload, 1)]
theorem aJ_413_16 : sx_iB prog_14_method_100_code aI_413_16 = true := by decide +kernel
def aI_413_17 : sx_IL := [(165, .aload 6, 2), (167, .aload 4, 2), (169, .iload 5, 2), (171, .bipush 6, 2), (173, .iadd, 1), (174, .iaload, 1)]
theorem aJ_413_17 : sx_iB prog_14_method_100_code aI_413_17 = true := by decide +kernel
def aI_413_18 : sx_IL := [(175, .invokestatic 851, 3), (178, .aload 6, 2), (180, .iload 8, 2), (182, .iload 9, 2), (184, .iadd, 1), (185, .aload 4, 2)]
theorem aJ_413_18 : sx_iB prog_14_method_100_code aI_413_18 = true := by decide +kernel
def aI_413_19 : sx_IL := [(187, .iload 5, 2), (189, .bipush 6, 2), (191, .iadd, 1), (192, .iaload, 1), (193, .iconst 2, 1), (194, .isub, 1)]
theorem aJ_413_19 : sx_iB prog_14_method_100_code aI_413_19 = true := by decide +kernel
def aI_413_20 : sx_IL := [(195, .iload 8, 2), (197, .isub, 1), (198, .iload 9, 2), (200, .isub, 1), (201, .invokevirtual 679, 3), (204, .ireturn, 1)]
theorem aJ_413_20 : sx_iB prog_14_method_100_code aI_413_20 = true := by decide +kernel
def aS_413 (pc : Nat) : sx_IL := (if pc < 96 then (if pc < 46 then (if pc < 18 then (if pc < 10 then aI_413_0 else aI_413_1) else (if pc < 26 then aI_413_2 else (if pc < 35 then aI_413_3 else aI_413_4))) else (if pc < 63 then (if pc < 54 then aI_413_5 else aI_413_6) else (if pc < 74 then aI_413_7 else (if pc < 84 then aI_413_8 else aI_413_9)))) else (if pc < 149 then (if pc < 115 then (if pc < 106 then aI_413_10 else aI_413_11) else (if pc < 128 then aI_413_12 else (if pc < 139 then aI_413_13 else aI_413_14))) else (if pc < 175 then (if pc < 158 then aI_413_15 else (if pc < 165 then aI_413_16 else aI_413_17)) else (if pc < 187 then aI_413_18 else (if pc < 195 then aI_413_19 else aI_413_20)))))
theorem aT_413 (pc : Nat) : sx_iOk prog_14_method_100_code (aS_413 pc) := (sx_ite (p := fun l => sx_iOk prog_14_method_100_code l) (sx_ite (p := fun l => sx_iOk prog_14_method_100_code l) (sx_ite (p := fun l => sx_iOk prog_14_method_100_code l) (sx_ite (p := fun l => sx_iOk prog_14_method_100_code l) (sx_iB_s aJ_413_0) (sx_iB_s aJ_413_1)) (sx_ite (p := fun l => sx_iOk prog_14_method_100_code l) (sx_iB_s aJ_413_2) (sx_ite (p := fun l => sx_iOk prog_14_method_100_code l) (sx_iB_s aJ_413_3) (sx_iB_s aJ_413_4)))) (sx_ite (p := fun l => sx_iOk prog_14_method_100_code l) (sx_ite (p := fun l => sx_iOk prog_14_method_100_code l) (sx_iB_s aJ_413_5) (sx_iB_s aJ_413_6)) (sx_ite (p := fun l => sx_iOk prog_14_method_100_code l) (sx_iB_s aJ_413_7) (sx_ite (p := fun l => sx_iOk prog_14_method_100_code l) (sx_iB_s aJ_413_8) (sx_iB_s aJ_413_9))))) (sx_ite (p := fun l => sx_iOk prog_14_method_100_code l) (sx_ite (p := fun l => sx_iOk prog_14_method_100_code l) (sx_ite (p := fun l => sx_iOk prog_14_method_100_code l) (sx_iB_s aJ_413_10) (sx_iB_s aJ_413_11)) (sx_ite (p := fun l => sx_iOk prog_14_method_100_code l) (sx_iB_s aJ_413_12) (sx_ite (p := fun l => sx_iOk prog_14_method_100_code l) (sx_iB_s aJ_413_13) (sx_iB_s aJ_413_14)))) (sx_ite (p := fun l => sx_iOk prog_14_method_100_code l) (sx_ite (p := fun l => sx_iOk prog_14_method_100_code l) (sx_iB_s aJ_413_15) (sx_ite (p := fun l => sx_iOk prog_14_method_100_code l) (sx_iB_s aJ_413_16) (sx_iB_s aJ_413_17))) (sx_ite (p := fun l => sx_iOk prog_14_method_100_code l) (sx_iB_s aJ_413_18) (sx_ite (p := fun l => sx_iOk prog_14_method_100_code l) (sx_iB_s aJ_413_19) (sx_iB_s aJ_413_20))))))
def aW_413 : Nat → Option (Instr × Nat) := fun pc => sx_iF (aS_413 pc) pc
theorem aX_413 : ∀ pc i len, aW_413 pc = some (i, len) → decode aM_413.1.2.1 pc = .ok (i, len) := fun pc i len h => sx_iF_s (aT_413 pc) h
def aI_414_0 : sx_IL := [(0, .iload_n 2, 1), (1, .iload 5, 2), (3, .if_icmp .ne 7, 3), (6, .iconst 1, 1), (7, .goto 4, 3), (10, .iconst 0, 1)]
theorem aJ_414_0 : sx_iB prog_14_method_95_code aI_414_0 = true := by decide +kernel
def aI_414_1 : sx_IL := [(11, .istore 6, 2), (13, .iconst 0, 1), (14, .istore 7, 2), (16, .iload 6, 2), (18, .ifCond .eq 38, 3), (21, .iload 7, 2)]
theorem aJ_414_1 : sx_iB prog_14_method_95_code aI_414_1 = true := by decide +kernel
def aI_414_2 : sx_IL := [(23, .iload_n 2, 1), (24, .if_icmp .ge 32, 3), (27, .aload_n 0, 1), (28, .iload_n 1, 1), (29, .iload 7, 2), (31, .iadd, 1)]
theorem aJ_414_2 : sx_iB prog_14_method_95_code aI_414_2 = true := by decide +kernel
def aI_414_3 : sx_IL := [(32, .iaload, 1), (33, .aload_n 3, 1), (34, .iload 4, 2), (36, .iload 7, 2), (38, .iadd, 1), (39, .iaload, 1)]
theorem aJ_414_3 : sx_iB prog_14_method_95_code aI_414_3 = true := by decide +kernel
def aI_414_4 : sx_IL := [(40, .if_icmp .ne 7, 3), (43, .iconst 1, 1), (44, .goto 4, 3), (47, .iconst 0, 1), (48, .istore 6, 2), (50, .iinc 7 1, 3)]
theorem aJ_414_4 : sx_iB prog_14_method_95_code aI_414_4 = true := by decide +kernel
def aI_414_5 : sx_IL := [(53, .goto (-37), 3), (56, .iload 6, 2), (58, .ireturn, 1)]
theorem aJ_414_5 : sx_iB prog_14_method_95_code aI_414_5 = true := by decide +kernel
def aS_414 (pc : Nat) : sx_IL := (if pc < 32 then (if pc < 11 then aI_414_0 else (if pc < 23 then aI_414_1 else aI_414_2)) else (if pc < 40 then aI_414_3 else (if pc < 53 then aI_414_4 else aI_414_5)))
theorem aT_414 (pc : Nat) : sx_iOk prog_14_method_95_code (aS_414 pc) := (sx_ite (p := fun l => sx_iOk prog_14_method_95_code l) (sx_ite (p := fun l => sx_iOk prog_14_method_95_code l) (sx_iB_s aJ_414_0) (sx_ite (p := fun l => sx_iOk prog_14_method_95_code l) (sx_iB_s aJ_414_1) (sx_iB_s aJ_414_2))) (sx_ite (p := fun l => sx_iOk prog_14_method_95_code l) (sx_iB_s aJ_414_3) (sx_ite (p := fun l => sx_iOk prog_14_method_95_code l) (sx_iB_s aJ_414_4) (sx_iB_s aJ_414_5))))
def aW_414 : Nat → Option (Instr × Nat) := fun pc => sx_iF (aS_414 pc) pc
theorem aX_414 : ∀ pc i len, aW_414 pc = some (i, len) → decode aM_414.1.2.1 pc = .ok (i, len) := fun pc i len h => sx_iF_s (aT_414 pc) h
def aI_415_0 : sx_IL := [(0, .aload_n 0, 1), (1, .iload_n 1, 1), (2, .invokestatic 792, 3), (5, .i2l, 1), (6, .bipush 32, 2), (8, .lshl, 1)]
theorem aJ_415_0 : sx_iB prog_14_method_96_code aI_415_0 = true := by decide +kernel
def aI_415_1 : sx_IL := [(9, .aload_n 0, 1), (10, .iload_n 1, 1), (11, .iconst 4, 1), (12, .iadd, 1), (13, .invokestatic 792, 3), (16, .i2l, 1)]
theorem aJ_415_1 : sx_iB prog_14_method_96_code aI_415_1 = true := by decide +kernel
def aI_415_2 : sx_IL := [(17, .ldc2_w 542, 3), (20, .land, 1), (21, .lor, 1), (22, .lreturn, 1)]
theorem aJ_415_2 : sx_iB prog_14_method_96_code aI_415_2 = true := by decide +kernel
def aS_415 (pc : Nat) : sx_IL := (if pc < 9 then aI_415_0 else (if pc < 17 then aI_415_1 else aI_415_2))
theorem aT_415 (pc : Nat) : sx_iOk prog_14_method_96_code (aS_415 pc) := (sx_ite (p := fun l => sx_iOk prog_14_method_96_code l) (sx_iB_s aJ_415_0) (sx_ite (p := fun l => sx_iOk prog_14_method_96_code l) (sx_iB_s aJ_415_1) (sx_iB_s aJ_415_2)))
def aW_415 : Nat → Option (Instr × Nat) := fun pc => sx_iF (aS_415 pc) pc
theorem aX_415 : ∀ pc i len, aW_415 pc = some (i, len) → decode aM_415.1.2.1 pc = .ok (i, len) := fun pc i len h => sx_iF_s (aT_415 pc) h
def aI_416_0 : sx_IL := [(0, .aload_n 0, 1), (1, .iload_n 1, 1), (2, .invokevirtual 840, 3), (5, .ifCond .ne 5, 3), (8, .iconst (-1), 1), (9, .ireturn, 1)]
theorem aJ_416_0 : sx_iB prog_14_method_108_code aI_416_0 = true := by decide +kernel
def aI_416_1 : sx_IL := [(10, .aload_n 0, 1), (11, .getfield 891, 3), (14, .bipush 6, 2), (16, .if_icmp .ne 6, 3), (19, .bipush (-3), 2), (21, .ireturn, 1)]
theorem aJ_416_1 : sx_iB prog_14_method_108_code aI_416_1 = true := by decide +kernel
def aI_416_2 : sx_IL := [(22, .aload_n 0, 1), (23, .getfield 90, 3), (26, .aload_n 0, 1), (27, .getfield 891, 3), (30, .iload_n 1, 1), (31, .iastore, 1)]
theorem aJ_416_2 : sx_iB prog_14_method_108_code aI_416_2 = true := by decide +kernel
def aI_416_3 : sx_IL := [(32, .aload_n 0, 1), (33, .dup, 1), (34, .getfield 891, 3), (37, .iconst 1, 1), (38, .iadd, 1), (39, .putfield 891, 3)]
theorem aJ_416_3 : sx_iB prog_14_method_108_code aI_416_3 = true := by decide +kernel
def aI_416_4 : sx_IL := [(42, .aload_n 0, 1), (43, .getfield 891, 3), (46, .ireturn, 1)]
theorem aJ_416_4 : sx_iB prog_14_method_108_code aI_416_4 = true := by decide +kernel
def aS_416 (pc : Nat) : sx_IL := (if pc < 22 then (if pc < 10 then aI_416_0 else aI_416_1) else (if pc < 32 then aI_416_2 else (if pc < 42 then aI_416_3 else aI_416_4)))
theorem aT_416 (pc : Nat) : sx_iOk prog_14_method_108_code (aS_416 pc) := (sx_ite (p := fun l => sx_iOk prog_14_method_108_code l) (sx_ite (p := fun l => sx_iOk prog_14_method_108_code l) (sx_iB_s aJ_416_0) (sx_iB_s aJ_416_1)) (sx_ite (p := fun l => sx_iOk prog_14_method_108_code l) (sx_iB_s aJ_416_2) (sx_ite (p := fun l => sx_iOk prog_14_method_108_code l) (sx_iB_s aJ_416_3) (sx_iB_s aJ_416_4))))
def aW_416 : Nat → Option (Instr × Nat) := fun pc => sx_iF (aS_416 pc) pc
theorem aX_416 : ∀ pc i len, aW_416 pc = some (i, len) → decode aM_416.1.2.1 pc = .ok (i, len) := fun pc i len h => sx_iF_s (aT_416 pc) h
def aI_417_0 : sx_IL := [(0, .iload_n 1, 1), (1, .iconst (-1), 1), (2, .if_icmp .ne 10, 3), (5, .aload_n 0, 1), (6, .getfield 891, 3), (9, .goto 29, 3)]
theorem aJ_417_0 : sx_iB prog_14_method_109_code aI_417_0 = true := by decide +kernel
def aI_417_1 : sx_IL := [(12, .iload_n 1, 1), (13, .i2l, 1), (14, .lconst 0, 1), (15, .aload_n 0, 1), (16, .getfield 891, 3), (19, .iconst 1, 1)]
theorem aJ_417_1 : sx_iB prog_14_method_109_code aI_417_1 = true := by decide +kernel
def aI_417_2 : sx_IL := [(20, .isub, 1), (21, .i2l, 1), (22, .invokestatic 513, 3), (25, .ifCond .eq 12, 3), (28, .aload_n 0, 1), (29, .getfield 90, 3)]
theorem aJ_417_2 : sx_iB prog_14_method_109_code aI_417_2 = true := by decide +kernel
def aI_417_3 : sx_IL := [(32, .iload_n 1, 1), (33, .iaload, 1), (34, .goto 4, 3), (37, .iconst (-1), 1), (38, .ireturn, 1)]
theorem aJ_417_3 : sx_iB prog_14_method_109_code aI_417_3 = true := by decide +kernel
def aS_417 (pc : Nat) : sx_IL := (if pc < 20 then (if pc < 12 then aI_417_0 else aI_417_1) else (if pc < 32 then aI_417_2 else aI_417_3))
theorem aT_417 (pc : Nat) : sx_iOk prog_14_method_109_code (aS_417 pc) := (sx_ite (p := fun l => sx_iOk prog_14_method_109_code l) (sx_ite (p := fun l => sx_iOk prog_14_method_109_code l) (sx_iB_s aJ_417_0) (sx_iB_s aJ_417_1)) (sx_ite (p := fun l => sx_iOk prog_14_method_109_code l) (sx_iB_s aJ_417_2) (sx_iB_s aJ_417_3)))
def aW_417 : Nat → Option (Instr × Nat) := fun pc => sx_iF (aS_417 pc) pc
theorem aX_417 : ∀ pc i len, aW_417 pc = some (i, len) → decode aM_417.1.2.1 pc = .ok (i, len) := fun pc i len h => sx_iF_s (aT_417 pc) h
def aI_418_0 : sx_IL := [(0, .aload_n 0, 1), (1, .iload_n 1, 1), (2, .invokevirtual 894, 3), (5, .ifCond .eq 22, 3), (8, .iload_n 3, 1), (9, .i2l, 1)]
theorem aJ_418_0 : sx_iB prog_14_method_110_code aI_418_0 = true := by decide +kernel
def aI_418_1 : sx_IL := [(10, .lconst 0, 1), (11, .ldc2_w 631, 3), (14, .invokestatic 513, 3), (17, .ifCond .eq 10, 3), (20, .aload_n 0, 1), (21, .getfield 891, 3)]
theorem aJ_418_1 : sx_iB prog_14_method_110_code aI_418_1 = true := by decide +kernel
def aI_418_2 : sx_IL := [(24, .ifCond .ne 5, 3), (27, .iconst (-1), 1), (28, .ireturn, 1), (29, .aload_n 0, 1), (30, .aload_n 0, 1), (31, .getfield 891, 3)]
theorem aJ_418_2 : sx_iB prog_14_method_110_code aI_418_2 = true := by decide +kernel
def aI_418_3 : sx_IL := [(34, .putfield 881, 3), (37, .iconst 0, 1), (38, .istore 4, 2), (40, .iload 4, 2), (42, .aload_n 0, 1), (43, .getfield 891, 3)]
theorem aJ_418_3 : sx_iB prog_14_method_110_code aI_418_3 = true := by decide +kernel
def aI_418_4 : sx_IL := [(46, .if_icmp .ge 23, 3), (49, .aload_n 0, 1), (50, .getfield 87, 3), (53, .iload 4, 2), (55, .aload_n 0, 1), (56, .getfield 90, 3)]
theorem aJ_418_4 : sx_iB prog_14_method_110_code aI_418_4 = true := by decide +kernel
def aI_418_5 : sx_IL := [(59, .iload 4, 2), (61, .iaload, 1), (62, .iastore, 1), (63, .iinc 4 1, 3), (66, .goto (-26), 3), (69, .aload_n 0, 1)]
theorem aJ_418_5 : sx_iB prog_14_method_110_code aI_418_5 = true := by decide +kernel
def aI_418_6 : sx_IL := [(70, .iconst 0, 1), (71, .putfield 891, 3), (74, .aload_n 0, 1), (75, .iconst 0, 1), (76, .putfield 855, 3), (79, .aload_n 0, 1)]
theorem aJ_418_6 : sx_iB prog_14_method_110_code aI_418_6 = true := by decide +kernel
def aI_418_7 : sx_IL := [(80, .invokevirtual 897, 3), (83, .ifCond .eq 49, 3), (86, .aload_n 0, 1), (87, .iload_n 1, 1), (88, .aload_n 0, 1), (89, .getfield 87, 3)]
theorem aJ_418_7 : sx_iB prog_14_method_110_code aI_418_7 = true := by decide +kernel
def aI_418_8 : sx_IL := [(92, .aload_n 0, 1), (93, .getfield 881, 3), (96, .iconst 1, 1), (97, .isub, 1), (98, .iaload, 1), (99, .invokevirtual 901, 3)]
theorem aJ_418_8 : sx_iB prog_14_method_110_code aI_418_8 = true := by decide +kernel
def aI_418_9 : sx_IL := [(102, .ifCond .eq 30, 3), (105, .aload_n 0, 1), (106, .iload_n 2, 1), (107, .iload_n 3, 1), (108, .aload_n 0, 1), (109, .getfield 102, 3)]
theorem aJ_418_9 : sx_iB prog_14_method_110_code aI_418_9 = true := by decide +kernel
def aI_418_10 : sx_IL := [(112, .bipush 8, 2), (114, .iload_n 1, 1), (115, .imul, 1), (116, .iaload, 1), (117, .iconst 1, 1), (118, .if_icmp .ne 7, 3)]
theorem aJ_418_10 : sx_iB prog_14_method_110_code aI_418_10 = true := by decide +kernel
def aI_418_11 : sx_IL := [(121, .iconst 1, 1), (122, .goto 4, 3), (125, .iconst 0, 1), (126, .invokevirtual 904, 3), (129, .goto 5, 3), (132, .bipush (-5), 2)]
theorem aJ_418_11 : sx_iB prog_14_method_110_code aI_418_11 = true := by decide +kernel
def aI_418_12 : sx_IL := [(134, .ireturn, 1)]
theorem aJ_418_12 : sx_iB prog_14_method_110_code aI_418_12 = true := by decide +kernel
def aS_418 (pc : Nat) : sx_IL := (if pc < 70 then (if pc < 34 then (if pc < 10 then aI_418_0 else (if pc < 24 then aI_418_1 else aI_418_2)) else (if pc < 46 then aI_418_3 else (if pc < 59 then aI_418_4 else aI_418_5))) else (if pc < 102 then (if pc < 80 then aI_418_6 else (if pc < 92 then aI_418_7 else aI_418_8)) else (if pc < 121 then (if pc < 112 then aI_418_9 else aI_418_10) else (if pc < 134 then aI_418_11 else aI_418_12))))
theorem aT_418 (pc : Nat) : sx_iOk prog_14_method_110_code (aS_418 pc) := (sx_ite (p := fun l => sx_iOk prog_14_method_110_code l) (sx_ite (p := fun l => sx_iOk prog_14_method_110_code l) (sx_ite (p := fun l => sx_iOk prog_14_method_110_code l) (sx_iB_s aJ_418_0) (sx_ite (p := fun l => sx_iOk prog_14_method_110_code l) (sx_iB_s aJ_418_1) (sx_iB_s aJ_418_2))) (sx_ite (p := fun l => sx_iOk prog_14_method_110_code l) (sx_iB_s aJ_418_3) (sx_ite (p := fun l => sx_iOk prog_14_method_110_code l) (sx_iB_s aJ_418_4) (sx_iB_s aJ_418_5)))) (sx_ite (p := fun l => sx_iOk prog_14_method_110_code l) (sx_ite (p := fun l => sx_iOk prog_14_method_110_code l) (sx_iB_s aJ_418_6) (sx_ite (p := fun l => sx_iOk prog_14_method_110_code l) (sx_iB_s aJ_418_7) (sx_iB_s aJ_418_8))) (sx_ite (p := fun l => sx_iOk prog_14_method_110_code l) (sx_ite (p := fun l => sx_iOk prog_14_method_110_code l) (sx_iB_s aJ_418_9) (sx_iB_s aJ_418_10)) (sx_ite (p := fun l => sx_iOk prog_14_method_110_code l) (sx_iB_s aJ_418_11) (sx_iB_s aJ_418_12)))))
def aW_418 : Nat → Option (Instr × Nat) := fun pc => sx_iF (aS_418 pc) pc
theorem aX_418 : ∀ pc i len, aW_418 pc = some (i, len) → decode aM_418.1.2.1 pc = .ok (i, len) := fun pc i len h => sx_iF_s (aT_418 pc) h
def aI_419_0 : sx_IL := [(0, .iload_n 1, 1), (1, .i2l, 1), (2, .lconst 0, 1), (3, .aload_n 0, 1), (4, .getfield 916, 3), (7, .iconst 1, 1)]
theorem aJ_419_0 : sx_iB prog_14_method_114_code aI_419_0 = true := by decide +kernel
def aI_419_1 : sx_IL := [(8, .isub, 1), (9, .i2l, 1), (10, .invokestatic 513, 3), (13, .ireturn, 1)]
theorem aJ_419_1 : sx_iB prog_14_method_114_code aI_419_1 = true := by decide +kernel
def aS_419 (pc : Nat) : sx_IL := (if pc < 8 then aI_419_0 else aI_419_1)
theorem aT_419 (pc : Nat) : sx_iOk prog_14_method_114_code (aS_419 pc) := (sx_ite (p := fun l => sx_iOk prog_14_method_114_code l) (sx_iB_s aJ_419_0) (sx_iB_s aJ_419_1))
def aW_419 : Nat → Option (Instr × Nat) := fun pc => sx_iF (aS_419 pc) pc
theorem aX_419 : ∀ pc i len, aW_419 pc = some (i, len) → decode aM_419.1.2.1 pc = .ok (i, len) := fun pc i len h => sx_iF_s (aT_419 pc) h
def aI_420_0 : sx_IL := [(0, .iconst 1, 1), (1, .istore_n 1, 1), (2, .iconst 0, 1), (3, .istore_n 2, 1), (4, .iload_n 2, 1), (5, .aload_n 0, 1)]
theorem aJ_420_0 : sx_iB prog_14_method_107_code aI_420_0 = true := by decide +kernel
def aI_420_1 : sx_IL := [(6, .getfield 881, 3), (9, .if_icmp .ge 88, 3), (12, .iconst 0, 1), (13, .istore_n 3, 1), (14, .iload_n 3, 1), (15, .iload_n 2, 1)]
theorem aJ_420_1 : sx_iB prog_14_method_107_code aI_420_1 = true := by decide +kernel
def aI_420_2 : sx_IL := [(16, .if_icmp .ge 34, 3), (19, .iload_n 1, 1), (20, .ifCond .eq 22, 3), (23, .aload_n 0, 1), (24, .getfield 87, 3), (27, .iload_n 2, 1)]
theorem aJ_420_2 : sx_iB prog_14_method_107_code aI_420_2 = true := by decide +kernel
def aI_420_3 : sx_IL := [(28, .iaload, 1), (29, .aload_n 0, 1), (30, .getfield 87, 3), (33, .iload_n 3, 1), (34, .iaload, 1), (35, .if_icmp .eq 7, 3)]
theorem aJ_420_3 : sx_iB prog_14_method_107_code aI_420_3 = true := by decide +kernel
def aI_420_4 : sx_IL := [(38, .iconst 1, 1), (39, .goto 4, 3), (42, .iconst 0, 1), (43, .istore_n 1, 1), (44, .iinc 3 1, 3), (47, .goto (-33), 3)]
theorem aJ_420_4 : sx_iB prog_14_method_107_code aI_420_4 = true := by decide +kernel
def aI_420_5 : sx_IL := [(50, .iload_n 1, 1), (51, .ifCond .eq 38, 3), (54, .iload_n 2, 1), (55, .aload_n 0, 1), (56, .getfield 881, 3), (59, .iconst 1, 1)]
theorem aJ_420_5 : sx_iB prog_14_method_107_code aI_420_5 = true := by decide +kernel
def aI_420_6 : sx_IL := [(60, .isub, 1), (61, .if_icmp .eq 24, 3), (64, .aload_n 0, 1), (65, .aload_n 0, 1), (66, .getfield 87, 3), (69, .iload_n 2, 1)]
theorem aJ_420_6 : sx_iB prog_14_method_107_code aI_420_6 = true := by decide +kernel
def aI_420_7 : sx_IL := [(70, .iaload, 1), (71, .aload_n 0, 1), (72, .getfield 87, 3), (75, .iload_n 2, 1), (76, .iconst 1, 1), (77, .iadd, 1)]
theorem aJ_420_7 : sx_iB prog_14_method_107_code aI_420_7 = true := by decide +kernel
def aI_420_8 : sx_IL := [(78, .iaload, 1), (79, .invokevirtual 888, 3), (82, .ifCond .eq 7, 3), (85, .iconst 1, 1), (86, .goto 4, 3), (89, .iconst 0, 1)]
theorem aJ_420_8 : sx_iB prog_14_method_107_code aI_420_8 = true := by decide +kernel
def aI_420_9 : sx_IL := [(90, .istore_n 1, 1), (91, .iinc 2 1, 3), (94, .goto (-90), 3), (97, .iload_n 1, 1), (98, .ireturn, 1)]
theorem aJ_420_9 : sx_iB prog_14_method_107_code aI_420_9 = true := by decide +kernel
def aS_420 (pc : Nat) : sx_IL := (if pc < 50 then (if pc < 16 then (if pc < 6 then aI_420_0 else aI_420_1) else (if pc < 28 then aI_420_2 else (if pc < 38 then aI_420_3 else aI_420_4))) else (if pc < 70 then (if pc < 60 then aI_420_5 else aI_420_6) else (if pc < 78 then aI_420_7 else (if pc < 90 then aI_420_8 else aI_420_9))))
theorem aT_420 (pc : Nat) : sx_iOk prog_14_method_107_code (aS_420 pc) := (sx_ite (p := fun l => sx_iOk prog_14_method_107_code l) (sx_ite (p := fun l => sx_iOk prog_14_method_107_code l) (sx_ite (p := fun l => sx_iOk prog_14_method_107_code l) (sx_iB_s aJ_420_0) (sx_iB_s aJ_420_1)) (sx_ite (p := fun l => sx_iOk prog_14_method_107_code l) (sx_iB_s aJ_420_2) (sx_ite (p := fun l => sx_iOk prog_14_method_107_code l) (sx_iB_s aJ_420_3) (sx_iB_s aJ_420_4)))) (sx_ite (p := fun l => sx_iOk prog_14_method_107_code l) (sx_ite (p := fun l => sx_iOk prog_14_method_107_code l) (sx_iB_s aJ_420_5) (sx_iB_s aJ_420_6)) (sx_ite (p := fun l => sx_iOk prog_14_method_107_code l) (sx_iB_s aJ_420_7) (sx_ite (p := fun l => sx_iOk prog_14_method_107_code l) (sx_iB_s aJ_420_8) (sx_iB_s aJ_420_9)))))
def aW_420 : Nat → Option (Instr × Nat) := fun pc => sx_iF (aS_420 pc) pc
theorem aX_420 : ∀ pc i len, aW_420 pc = some (i, len) → decode aM_420.1.2.1 pc = .ok (i, len) := fun pc i len h => sx_iF_s (aT_420 pc) h
def aI_421_0 : sx_IL := [(0, .aload_n 0, 1), (1, .getfield 39, 3), (4, .aload_n 0, 1), (5, .getfield 48, 3), (8, .iconst 2, 1), (9, .iload_n 1, 1)]
theorem aJ_421_0 : sx_iB prog_14_method_98_code aI_421_0 = true := by decide +kernel
def aI_421_1 : sx_IL := [(10, .imul, 1), (11, .iaload, 1), (12, .aload_n 0, 1), (13, .getfield 48, 3), (16, .iconst 2, 1), (17, .iload_n 1, 1)]
theorem aJ_421_1 : sx_iB prog_14_method_98_code aI_421_1 = true := by decide +kernel
def aI_421_2 : sx_IL := [(18, .imul, 1), (19, .iconst 1, 1), (20, .iadd, 1), (21, .iaload, 1), (22, .aload_n 0, 1), (23, .getfield 39, 3)]
theorem aJ_421_2 : sx_iB prog_14_method_98_code aI_421_2 = true := by decide +kernel
def aI_421_3 : sx_IL := [(26, .aload_n 0, 1), (27, .getfield 51, 3), (30, .iconst 2, 1), (31, .iload_n 2, 1), (32, .imul, 1), (33, .iaload, 1)]
theorem aJ_421_3 : sx_iB prog_14_method_98_code aI_421_3 = true := by decide +kernel
def aI_421_4 : sx_IL := [(34, .aload_n 0, 1), (35, .getfield 51, 3), (38, .iconst 2, 1), (39, .iload_n 2, 1), (40, .imul, 1), (41, .iconst 1, 1)]
theorem aJ_421_4 : sx_iB prog_14_method_98_code aI_421_4 = true := by decide +kernel
def aI_421_5 : sx_IL := [(42, .iadd, 1), (43, .iaload, 1), (44, .invokestatic 847, 3), (47, .ireturn, 1)]
theorem aJ_421_5 : sx_iB prog_14_method_98_code aI_421_5 = true := by decide +kernel
def aS_421 (pc : Nat) : sx_IL := (if pc < 26 then (if pc < 10 then aI_421_0 else (if pc < 18 then aI_421_1 else aI_421_2)) else (if pc < 34 then aI_421_3 else (if pc < 42 then aI_421_4 else aI_421_5)))
theorem aT_421 (pc : Nat) : sx_iOk prog_14_method_98_code (aS_421 pc) := (sx_ite (p := fun l => sx_iOk prog_14_method_98_code l) (sx_ite (p := fun l => sx_iOk prog_14_method_98_code l) (sx_iB_s aJ_421_0) (sx_ite (p := fun l => sx_iOk prog_14_method_98_code l) (sx_iB_s aJ_421_1) (sx_iB_s aJ_421_2))) (sx_ite (p := fun l => sx_iOk prog_14_method_98_code l) (sx_iB_s aJ_421_3) (sx_ite (p := fun l => sx_iOk prog_14_method_98_code l) (sx_iB_s aJ_421_4) (sx_iB_s aJ_421_5))))
def aW_421 : Nat → Option (Instr × Nat) := fun pc => sx_iF (aS_421 pc) pc
theorem aX_421 : ∀ pc i len, aW_421 pc = some (i, len) → decode aM_421.1.2.1 pc = .ok (i, len) := fun pc i len h => sx_iF_s (aT_421 pc) h
def aI_422_0 : sx_IL := [(0, .iconst 0, 1), (1, .istore_n 3, 1), (2, .iconst 0, 1), (3, .istore 4, 2), (5, .iload 4, 2), (7, .aload_n 0, 1)]
theorem aJ_422_0 : sx_iB prog_14_method_115_code aI_422_0 = true := by decide +kernel
def aI_422_1 : sx_IL := [(8, .getfield 114, 3), (11, .iload_n 1, 1), (12, .iaload, 1), (13, .if_icmp .ge 71, 3), (16, .aload_n 0, 1), (17, .getfield 111, 3)]
theorem aJ_422_1 : sx_iB prog_14_method_115_code aI_422_1 = true := by decide +kernel
def aI_422_2 : sx_IL := [(20, .bipush 30, 2), (22, .iload_n 1, 1), (23, .imul, 1), (24, .iload 4, 2), (26, .iadd, 1), (27, .iaload, 1)]
theorem aJ_422_2 : sx_iB prog_14_method_115_code aI_422_2 = true := by decide +kernel
def aI_422_3 : sx_IL := [(28, .istore 5, 2), (30, .iload_n 3, 1), (31, .ifCond .ne 41, 3), (34, .aload_n 0, 1), (35, .getfield 39, 3), (38, .sipush 400, 3)]
theorem aJ_422_3 : sx_iB prog_14_method_115_code aI_422_3 = true := by decide +kernel
def aI_422_4 : sx_IL := [(41, .iload 5, 2), (43, .imul, 1), (44, .aload_n 0, 1), (45, .getfield 42, 3), (48, .iload 5, 2), (50, .iaload, 1)]
theorem aJ_422_4 : sx_iB prog_14_method_115_code aI_422_4 = true := by decide +kernel
def aI_422_5 : sx_IL := [(51, .aload_n 0, 1), (52, .getfield 39, 3), (55, .sipush 400, 3), (58, .iload_n 2, 1), (59, .imul, 1), (60, .aload_n 0, 1)]
theorem aJ_422_5 : sx_iB prog_14_method_115_code aI_422_5 = true := by decide +kernel
def aI_422_6 : sx_IL := [(61, .getfield 42, 3), (64, .iload_n 2, 1), (65, .iaload, 1), (66, .invokestatic 847, 3), (69, .ifCond .eq 7, 3), (72, .iconst 1, 1)]
theorem aJ_422_6 : sx_iB prog_14_method_115_code aI_422_6 = true := by decide +kernel
def aI_422_7 : sx_IL := [(73, .goto 4, 3), (76, .iconst 0, 1), (77, .istore_n 3, 1), (78, .iinc 4 1, 3), (81, .goto (-76), 3), (84, .iload_n 3, 1)]
theorem aJ_422_7 : sx_iB prog_14_method_115_code aI_422_7 = true := by decide +kernel
def aI_422_8 : sx_IL := [(85, .ireturn, 1)]
theorem aJ_422_8 : sx_iB prog_14_method_115_code aI_422_8 = true := by decide +kernel
def aS_422 (pc : Nat) : sx_IL := (if pc < 41 then (if pc < 20 then (if pc < 8 then aI_422_0 else aI_422_1) else (if pc < 28 then aI_422_2 else aI_422_3)) else (if pc < 61 then (if pc < 51 then aI_422_4 else aI_422_5) else (if pc < 73 then aI_422_6 else (if pc < 85 then aI_422_7 else aI_422_8))))
theorem aT_422 (pc : Nat) : sx_iOk prog_14_method_115_code (aS_422 pc) := (sx_ite (p := fun l => sx_iOk prog_14_method_115_code l) (sx_ite (p := fun l => sx_iOk prog_14_method_115_code l) (sx_ite (p := fun l => sx_iOk prog_14_method_115_code l) (sx_iB_s aJ_422_0) (sx_iB_s aJ_422_1)) (sx_ite (p := fun l => sx_iOk prog_14_method_115_code l) (sx_iB_s aJ_422_2) (sx_iB_s aJ_422_3))) (sx_ite (p := fun l => sx_iOk prog_14_method_115_code l) (sx_ite (p := fun l => sx_iOk prog_14_method_115_code l) (sx_iB_s aJ_422_4) (sx_iB_s aJ_422_5)) (sx_ite (p := fun l => sx_iOk prog_14_method_115_code l) (sx_iB_s aJ_422_6) (sx_ite (p := fun l => sx_iOk prog_14_method_115_code l) (sx_iB_s aJ_422_7) (sx_iB_s aJ_422_8)))))
def aW_422 : Nat → Option (Instr × Nat) := fun pc => sx_iF (aS_422 pc) pc
theorem aX_422 : ∀ pc i len, aW_422 pc = some (i, len) → decode aM_422.1.2.1 pc = .ok (i, len) := fun pc i len h => sx_iF_s (aT_422 pc) h
def aI_423_0 : sx_IL := [(0, .iconst 0, 1), (1, .istore 4, 2), (3, .iload 4, 2), (5, .aload_n 0, 1), (6, .getfield 881, 3), (9, .if_icmp .ge 50, 3)]
theorem aJ_423_0 : sx_iB prog_14_method_106_code aI_423_0 = true := by decide +kernel
def aI_423_1 : sx_IL := [(12, .aload_n 0, 1), (13, .iload 4, 2), (15, .iload 4, 2), (17, .aload_n 0, 1), (18, .getfield 881, 3), (21, .iconst 1, 1)]
theorem aJ_423_1 : sx_iB prog_14_method_106_code aI_423_1 = true := by decide +kernel
def aI_423_2 : sx_IL := [(22, .isub, 1), (23, .if_icmp .ne 7, 3), (26, .iconst 1, 1), (27, .goto 4, 3), (30, .iconst 0, 1), (31, .iload_n 1, 1)]
theorem aJ_423_2 : sx_iB prog_14_method_106_code aI_423_2 = true := by decide +kernel
def aI_423_3 : sx_IL := [(32, .iload_n 2, 1), (33, .iload_n 3, 1), (34, .invokevirtual 884, 3), (37, .istore 5, 2), (39, .iload 5, 2), (41, .ifCond .eq 12, 3)]
theorem aJ_423_3 : sx_iB prog_14_method_106_code aI_423_3 = true := by decide +kernel
def aI_423_4 : sx_IL := [(44, .bipush 100, 2), (46, .iload 4, 2), (48, .imul, 1), (49, .iload 5, 2), (51, .iadd, 1), (52, .ireturn, 1)]
theorem aJ_423_4 : sx_iB prog_14_method_106_code aI_423_4 = true := by decide +kernel
def aI_423_5 : sx_IL := [(53, .iinc 4 1, 3), (56, .goto (-53), 3), (59, .iconst 0, 1), (60, .ireturn, 1)]
theorem aJ_423_5 : sx_iB prog_14_method_106_code aI_423_5 = true := by decide +kernel
def aS_423 (pc : Nat) : sx_IL := (if pc < 32 then (if pc < 12 then aI_423_0 else (if pc < 22 then aI_423_1 else aI_423_2)) else (if pc < 44 then aI_423_3 else (if pc < 53 then aI_423_4 else aI_423_5)))
theorem aT_423 (pc : Nat) : sx_iOk prog_14_method_106_code (aS_423 pc) := (sx_ite (p := fun l => sx_iOk prog_14_method_106_code l) (sx_ite (p := fun l => sx_iOk prog_14_method_106_code l) (sx_iB_s aJ_423_0) (sx_ite (p := fun l => sx_iOk prog_14_method_106_code l) (sx_iB_s aJ_423_1) (sx_iB_s aJ_423_2))) (sx_ite (p := fun l => sx_iOk prog_14_method_106_code l) (sx_iB_s aJ_423_3) (sx_ite (p := fun l => sx_iOk prog_14_method_106_code l) (sx_iB_s aJ_423_4) (sx_iB_s aJ_423_5))))
def aW_423 : Nat → Option (Instr × Nat) := fun pc => sx_iF (aS_423 pc) pc
theorem aX_423 : ∀ pc i len, aW_423 pc = some (i, len) → decode aM_423.1.2.1 pc = .ok (i, len) := fun pc i len h => sx_iF_s (aT_423 pc) h
def aI_424_0 : sx_IL := [(0, .aload_n 0, 1), (1, .getfield 87, 3), (4, .iload_n 1, 1), (5, .iaload, 1), (6, .istore 6, 2), (8, .iload_n 2, 1)]
theorem aJ_424_0 : sx_iB prog_14_method_105_code aI_424_0 = true := by decide +kernel
def aI_424_1 : sx_IL := [(9, .ifCond .ne 58, 3), (12, .aload_n 0, 1), (13, .iload 6, 2), (15, .aload_n 0, 1), (16, .getfield 87, 3), (19, .iload_n 1, 1)]
theorem aJ_424_1 : sx_iB prog_14_method_105_code aI_424_1 = true := by decide +kernel
def aI_424_2 : sx_IL := [(20, .iconst 1, 1), (21, .iadd, 1), (22, .iaload, 1), (23, .invokevirtual 875, 3), (26, .ifCond .ne 5, 3), (29, .iconst 1, 1)]
theorem aJ_424_2 : sx_iB prog_14_method_105_code aI_424_2 = true := by decide +kernel
def aI_424_3 : sx_IL := [(30, .ireturn, 1), (31, .iload_n 3, 1), (32, .aload_n 0, 1), (33, .getfield 45, 3), (36, .bipush 8, 2), (38, .iload 6, 2)]
theorem aJ_424_3 : sx_iB prog_14_method_105_code aI_424_3 = true := by decide +kernel
def aI_424_4 : sx_IL := [(40, .imul, 1), (41, .iconst 1, 1), (42, .iadd, 1), (43, .iaload, 1), (44, .if_icmp .ge 5, 3), (47, .iconst 2, 1)]
theorem aJ_424_4 : sx_iB prog_14_method_105_code aI_424_4 = true := by decide +kernel
def aI_424_5 : sx_IL := [(48, .ireturn, 1), (49, .iload_n 3, 1), (50, .aload_n 0, 1), (51, .getfield 45, 3), (54, .bipush 8, 2), (56, .iload 6, 2)]
theorem aJ_424_5 : sx_iB prog_14_method_105_code aI_424_5 = true := by decide +kernel
def aI_424_6 : sx_IL := [(58, .imul, 1), (59, .iconst 2, 1), (60, .iadd, 1), (61, .iaload, 1), (62, .if_icmp .le 5, 3), (65, .iconst 3, 1)]
theorem aJ_424_6 : sx_iB prog_14_method_105_code aI_424_6 = true := by decide +kernel
def aI_424_7 : sx_IL := [(66, .ireturn, 1), (67, .aload_n 0, 1), (68, .iload_n 1, 1), (69, .iload 4, 2), (71, .invokevirtual 878, 3), (74, .istore 7, 2)]
theorem aJ_424_7 : sx_iB prog_14_method_105_code aI_424_7 = true := by decide +kernel
def aI_424_8 : sx_IL := [(76, .iload 7, 2), (78, .ifCond .ne 7, 3), (81, .iload_n 2, 1), (82, .ifCond .eq 6, 3), (85, .iload 7, 2), (87, .ireturn, 1)]
theorem aJ_424_8 : sx_iB prog_14_method_105_code aI_424_8 = true := by decide +kernel
def aI_424_9 : sx_IL := [(88, .aload_n 0, 1), (89, .iload 6, 2), (91, .aload_n 0, 1), (92, .getfield 87, 3), (95, .iload_n 1, 1), (96, .iconst 1, 1)]
theorem aJ_424_9 : sx_iB prog_14_method_105_code aI_424_9 = true := by decide +kernel
def aI_424_10 : sx_IL := [(97, .iadd, 1), (98, .iaload, 1), (99, .iload_n 3, 1), (100, .invokevirtual 863, 3), (103, .istore 8, 2), (105, .iload 8, 2)]
theorem aJ_424_10 : sx_iB prog_14_method_105_code aI_424_10 = true := by decide +kernel
def aI_424_11 : sx_IL := [(107, .iconst 1, 1), (108, .if_icmp .ne 8, 3), (111, .bipush 8, 2), (113, .goto 20, 3), (116, .iload 8, 2), (118, .iconst 2, 1)]
theorem aJ_424_11 : sx_iB prog_14_method_105_code aI_424_11 = true := by decide +kernel
def aI_424_12 : sx_IL := [(119, .if_icmp .ne 13, 3), (122, .iload 5, 2), (124, .ifCond .eq 8, 3), (127, .bipush 9, 2), (129, .goto 4, 3), (132, .iconst 0, 1)]
theorem aJ_424_12 : sx_iB prog_14_method_105_code aI_424_12 = true := by decide +kernel
def aI_424_13 : sx_IL := [(133, .ireturn, 1)]
theorem aJ_424_13 : sx_iB prog_14_method_105_code aI_424_13 = true := by decide +kernel
def aS_424 (pc : Nat) : sx_IL := (if pc < 66 then (if pc < 30 then (if pc < 9 then aI_424_0 else (if pc < 20 then aI_424_1 else aI_424_2)) else (if pc < 48 then (if pc < 40 then aI_424_3 else aI_424_4) else (if pc < 58 then aI_424_5 else aI_424_6))) else (if pc < 97 then (if pc < 76 then aI_424_7 else (if pc < 88 then aI_424_8 else aI_424_9)) else (if pc < 119 then (if pc < 107 then aI_424_10 else aI_424_11) else (if pc < 133 then aI_424_12 else aI_424_13))))
theorem aT_424 (pc : Nat) : sx_iOk prog_14_method_105_code (aS_424 pc) := (sx_ite (p := fun l => sx_iOk prog_14_method_105_code l) (sx_ite (p := fun l => sx_iOk prog_14_method_105_code l) (sx_ite (p := fun l => sx_iOk prog_14_method_105_code l) (sx_iB_s aJ_424_0) (sx_ite (p := fun l => sx_iOk prog_14_method_105_code l) (sx_iB_s aJ_424_1) (sx_iB_s aJ_424_2))) (sx_ite (p := fun l => sx_iOk prog_14_method_105_code l) (sx_ite (p := fun l => sx_iOk prog_14_method_105_code l) (sx_iB_s aJ_424_3) (sx_iB_s aJ_424_4)) (sx_ite (p := fun l => sx_iOk prog_14_method_105_code l) (sx_iB_s aJ_424_5) (sx_iB_s aJ_424_6)))) (sx_ite (p := fun l => sx_iOk prog_14_method_105_code l) (sx_ite (p := fun l => sx_iOk prog_14_method_105_code l) (sx_iB_s aJ_424_7) (sx_ite (p := fun l => sx_iOk prog_14_method_105_code l) (sx_iB_s aJ_424_8) (sx_iB_s aJ_424_9))) (sx_ite (p := fun l => sx_iOk prog_14_method_105_code l) (sx_ite (p := fun l => sx_iOk prog_14_method_105_code l) (sx_iB_s aJ_424_10) (sx_iB_s aJ_424_11)) (sx_ite (p := fun l => sx_iOk prog_14_method_105_code l) (sx_iB_s aJ_424_12) (sx_iB_s aJ_424_13)))))
def aW_424 : Nat → Option (Instr × Nat) := fun pc => sx_iF (aS_424 pc) pc
theorem aX_424 : ∀ pc i len, aW_424 pc = some (i, len) → decode aM_424.1.2.1 pc = .ok (i, len) := fun pc i len h => sx_iF_s (aT_424 pc) h
def aI_425_0 : sx_IL := [(0, .aload_n 0, 1), (1, .aload_n 0, 1), (2, .getfield 45, 3), (5, .bipush 8, 2), (7, .iload_n 1, 1), (8, .imul, 1)]
theorem aJ_425_0 : sx_iB prog_14_method_99_code aI_425_0 = true := by decide +kernel
def aI_425_1 : sx_IL := [(9, .iconst 3, 1), (10, .iadd, 1), (11, .iaload, 1), (12, .aload_n 0, 1), (13, .getfield 45, 3), (16, .bipush 8, 2)]
theorem aJ_425_1 : sx_iB prog_14_method_99_code aI_425_1 = true := by decide +kernel
def aI_425_2 : sx_IL := [(18, .iload_n 2, 1), (19, .imul, 1), (20, .iconst 4, 1), (21, .iadd, 1), (22, .iaload, 1), (23, .aload_n 0, 1)]
theorem aJ_425_2 : sx_iB prog_14_method_99_code aI_425_2 = true := by decide +kernel
def aI_425_3 : sx_IL := [(24, .getfield 39, 3), (27, .aload_n 0, 1), (28, .getfield 57, 3), (31, .iload_n 1, 1), (32, .iaload, 1), (33, .invokestatic 851, 3)]
theorem aJ_425_3 : sx_iB prog_14_method_99_code aI_425_3 = true := by decide +kernel
def aI_425_4 : sx_IL := [(36, .aload_n 0, 1), (37, .getfield 39, 3), (40, .aload_n 0, 1), (41, .getfield 54, 3), (44, .iconst 2, 1), (45, .iload_n 1, 1)]
theorem aJ_425_4 : sx_iB prog_14_method_99_code aI_425_4 = true := by decide +kernel
def aI_425_5 : sx_IL := [(46, .imul, 1), (47, .iaload, 1), (48, .aload_n 0, 1), (49, .getfield 54, 3), (52, .iconst 2, 1), (53, .iload_n 1, 1)]
theorem aJ_425_5 : sx_iB prog_14_method_99_code aI_425_5 = true := by decide +kernel
def aI_425_6 : sx_IL := [(54, .imul, 1), (55, .iconst 1, 1), (56, .iadd, 1), (57, .iaload, 1), (58, .invokevirtual 679, 3), (61, .ireturn, 1)]
theorem aJ_425_6 : sx_iB prog_14_method_99_code aI_425_6 = true := by decide +kernel
def aS_425 (pc : Nat) : sx_IL := (if pc < 24 then (if pc < 9 then aI_425_0 else (if pc < 18 then aI_425_1 else aI_425_2)) else (if pc < 46 then (if pc < 36 then aI_425_3 else aI_425_4) else (if pc < 54 then aI_425_5 else aI_425_6)))
theorem aT_425 (pc : Nat) : sx_iOk prog_14_method_99_code (aS_425 pc) := (sx_ite (p := fun l => sx_iOk prog_14_method_99_code l) (sx_ite (p := fun l => sx_iOk prog_14_method_99_code l) (sx_iB_s aJ_425_0) (sx_ite (p := fun l => sx_iOk prog_14_method_99_code l) (sx_iB_s aJ_425_1) (sx_iB_s aJ_425_2))) (sx_ite (p := fun l => sx_iOk prog_14_method_99_code l) (sx_ite (p := fun l => sx_iOk prog_14_method_99_code l) (sx_iB_s aJ_425_3) (sx_iB_s aJ_425_4)) (sx_ite (p := fun l => sx_iOk prog_14_method_99_code l) (sx_iB_s aJ_425_5) (sx_iB_s aJ_425_6))))
def aW_425 : Nat → Option (Instr × Nat) := fun pc => sx_iF (aS_425 pc) pc
theorem aX_425 : ∀ pc i len, aW_425 pc = some (i, len) → decode aM_425.1.2.1 pc = .ok (i, len) := fun pc i len h => sx_iF_s (aT_425 pc) h
def aI_426_0 : sx_IL := [(0, .bipush 8, 2), (2, .aload_n 0, 1), (3, .getfield 87, 3), (6, .iload_n 1, 1), (7, .iaload, 1), (8, .imul, 1)]
theorem aJ_426_0 : sx_iB prog_14_method_103_code aI_426_0 = true := by decide +kernel
def aI_426_1 : sx_IL := [(9, .istore_n 3, 1), (10, .iload_n 1, 1), (11, .ifCond .le 16, 3), (14, .aload_n 0, 1), (15, .getfield 45, 3), (18, .iload_n 3, 1)]
theorem aJ_426_1 : sx_iB prog_14_method_103_code aI_426_1 = true := by decide +kernel
def aI_426_2 : sx_IL := [(19, .iconst 5, 1), (20, .iadd, 1), (21, .iaload, 1), (22, .ifCond .ne 5, 3), (25, .iconst 4, 1), (26, .ireturn, 1)]
theorem aJ_426_2 : sx_iB prog_14_method_103_code aI_426_2 = true := by decide +kernel
def aI_426_3 : sx_IL := [(27, .iload_n 1, 1), (28, .ifCond .ne 7, 3), (31, .iload_n 2, 1), (32, .goto 4, 3), (35, .iconst 4, 1), (36, .istore 4, 2)]
theorem aJ_426_3 : sx_iB prog_14_method_103_code aI_426_3 = true := by decide +kernel
def aI_426_4 : sx_IL := [(38, .aload_n 0, 1), (39, .getfield 45, 3), (42, .iload_n 3, 1), (43, .bipush 7, 2), (45, .iadd, 1), (46, .iaload, 1)]
theorem aJ_426_4 : sx_iB prog_14_method_103_code aI_426_4 = true := by decide +kernel
def aI_426_5 : sx_IL := [(47, .iload 4, 2), (49, .iand, 1), (50, .iload 4, 2), (52, .if_icmp .eq 5, 3), (55, .iconst 5, 1), (56, .ireturn, 1)]
theorem aJ_426_5 : sx_iB prog_14_method_103_code aI_426_5 = true := by decide +kernel
def aI_426_6 : sx_IL := [(57, .iload_n 1, 1), (58, .ifCond .le 35, 3), (61, .aload_n 0, 1), (62, .getfield 45, 3), (65, .iload_n 3, 1), (66, .bipush 6, 2)]
theorem aJ_426_6 : sx_iB prog_14_method_103_code aI_426_6 = true := by decide +kernel
def aI_426_7 : sx_IL := [(68, .iadd, 1), (69, .iaload, 1), (70, .bipush (-4), 2), (72, .if_icmp .eq 21, 3), (75, .aload_n 0, 1), (76, .getfield 45, 3)]
theorem aJ_426_7 : sx_iB prog_14_method_103_code aI_426_7 = true := by decide +kernel
def aI_426_8 : sx_IL := [(79, .iload_n 3, 1), (80, .bipush 6, 2), (82, .iadd, 1), (83, .iaload, 1), (84, .iload_n 1, 1), (85, .iconst 1, 1)]
theorem aJ_426_8 : sx_iB prog_14_method_103_code aI_426_8 = true := by decide +kernel
def aI_426_9 : sx_IL := [(86, .isub, 1), (87, .if_icmp .ge 6, 3), (90, .bipush 6, 2), (92, .ireturn, 1), (93, .iconst 0, 1), (94, .istore 5, 2)]
theorem aJ_426_9 : sx_iB prog_14_method_103_code aI_426_9 = true := by decide +kernel
def aI_426_10 : sx_IL := [(96, .iload 5, 2), (98, .iload_n 1, 1), (99, .if_icmp .ge 95, 3), (102, .iconst 0, 1), (103, .istore 6, 2), (105, .iload 6, 2)]
theorem aJ_426_10 : sx_iB prog_14_method_103_code aI_426_10 = true := by decide +kernel
def aI_426_11 : sx_IL := [(107, .aload_n 0, 1), (108, .getfield 60, 3), (111, .iconst 3, 1), (112, .aload_n 0, 1), (113, .getfield 87, 3), (116, .iload 5, 2)]
theorem aJ_426_11 : sx_iB prog_14_method_103_code aI_426_11 = true := by decide +kernel
def aI_426_12 : sx_IL := [(118, .iaload, 1), (119, .imul, 1), (120, .iaload, 1), (121, .if_icmp .ge 67, 3), (124, .aload_n 0, 1), (125, .aload_n 0, 1)]
theorem aJ_426_12 : sx_iB prog_14_method_103_code aI_426_12 = true := by decide +kernel
def aI_426_13 : sx_IL := [(126, .getfield 87, 3), (129, .iload_n 1, 1), (130, .iaload, 1), (131, .aload_n 0, 1), (132, .getfield 63, 3), (135, .bipush 24, 2)]
theorem aJ_426_13 : sx_iB prog_14_method_103_code aI_426_13 = true := by decide +kernel
def aI_426_14 : sx_IL := [(137, .aload_n 0, 1), (138, .getfield 87, 3), (141, .iload 5, 2), (143, .iaload, 1), (144, .imul, 1), (145, .iconst 2, 1)]
theorem aJ_426_14 : sx_iB prog_14_method_103_code aI_426_14 = true := by decide +kernel
def aI_426_15 : sx_IL := [(146, .iload 6, 2), (148, .imul, 1), (149, .iadd, 1), (150, .iaload, 1), (151, .aload_n 0, 1), (152, .getfield 63, 3)]
theorem aJ_426_15 : sx_iB prog_14_method_103_code aI_426_15 = true := by decide +kernel
def aI_426_16 : sx_IL := [(155, .bipush 24, 2), (157, .aload_n 0, 1), (158, .getfield 87, 3), (161, .iload 5, 2), (163, .iaload, 1), (164, .imul, 1)]
theorem aJ_426_16 : sx_iB prog_14_method_103_code aI_426_16 = true := by decide +kernel
def aI_426_17 : sx_IL := [(165, .iconst 2, 1), (166, .iload 6, 2), (168, .imul, 1), (169, .iadd, 1), (170, .iconst 1, 1), (171, .iadd, 1)]
theorem aJ_426_17 : sx_iB prog_14_method_103_code aI_426_17 = true := by decide +kernel
def aI_426_18 : sx_IL := [(172, .iaload, 1), (173, .invokevirtual 867, 3), (176, .ifCond .eq 6, 3), (179, .bipush 7, 2), (181, .ireturn, 1), (182, .iinc 6 1, 3)]
theorem aJ_426_18 : sx_iB prog_14_method_103_code aI_426_18 = true := by decide +kernel
def aI_426_19 : sx_IL := [(185, .goto (-80), 3), (188, .iinc 5 1, 3), (191, .goto (-95), 3), (194, .iconst 0, 1), (195, .ireturn, 1)]
theorem aJ_426_19 : sx_iB prog_14_method_103_code aI_426_19 = true := by decide +kernel
def aS_426 (pc : Nat) : sx_IL := (if pc < 96 then (if pc < 47 then (if pc < 19 then (if pc < 9 then aI_426_0 else aI_426_1) else (if pc < 27 then aI_426_2 else (if pc < 38 then aI_426_3 else aI_426_4))) else (if pc < 68 then (if pc < 57 then aI_426_5 else aI_426_6) else (if pc < 79 then aI_426_7 else (if pc < 86 then aI_426_8 else aI_426_9)))) else (if pc < 146 then (if pc < 118 then (if pc < 107 then aI_426_10 else aI_426_11) else (if pc < 126 then aI_426_12 else (if pc < 137 then aI_426_13 else aI_426_14))) else (if pc < 165 then (if pc < 155 then aI_426_15 else aI_426_16) else (if pc < 172 then aI_426_17 else (if pc < 185 then aI_426_18 else aI_426_19)))))
theorem aT_426 (pc : Nat) : sx_iOk prog_14_method_103_code (aS_426 pc) := (sx_ite (p := fun l => sx_iOk prog_14_method_103_code l) (sx_ite (p := fun l => sx_iOk prog_14_method_103_code l) (sx_ite (p := fun l => sx_iOk prog_14_method_103_code l) (sx_ite (p := fun l => sx_iOk prog_14_method_103_code l) (sx_iB_s aJ_426_0) (sx_iB_s aJ_426_1)) (sx_ite (p := fun l => sx_iOk prog_14_method_103_code l) (sx_iB_s aJ_426_2) (sx_ite (p := fun l => sx_iOk prog_14_method_103_code l) (sx_iB_s aJ_426_3) (sx_iB_s aJ_426_4)))) (sx_ite (p := fun l => sx_iOk prog_14_method_103_code l) (sx_ite (p := fun l => sx_iOk prog_14_method_103_code l) (sx_iB_s aJ_426_5) (sx_iB_s aJ_426_6)) (sx_ite (p := fun l => sx_iOk prog_14_method_103_code l) (sx_iB_s aJ_426_7) (sx_ite (p := fun l => sx_iOk prog_14_method_103_code l) (sx_iB_s aJ_426_8) (sx_iB_s aJ_426_9))))) (sx_ite (p := fun l => sx_iOk prog_14_method_103_code l) (sx_ite (p := fun l => sx_iOk prog_14_method_103_code l) (sx_ite (p := fun l => sx_iOk prog_14_method_103_code l) (sx_iB_s aJ_426_10) (sx_iB_s aJ_426_11)) (sx_ite (p := fun l => sx_iOk prog_14_method_103_code l) (sx_iB_s aJ_426_12) (sx_ite (p := fun l => sx_iOk prog_14_method_103_code l) (sx_iB_s aJ_426_13) (sx_iB_s aJ_426_14)))) (sx_ite (p := fun l => sx_iOk prog_14_method_103_code l) (sx_ite (p := fun l => sx_iOk prog_14_method_103_code l) (sx_iB_s aJ_426_15) (sx_iB_s aJ_426_16)) (sx_ite (p := fun l => sx_iOk prog_14_method_103_code l) (sx_iB_s aJ_426_17) (sx_ite (p := fun l => sx_iOk prog_14_method_103_code l) (sx_iB_s aJ_426_18) (sx_iB_s aJ_426_19))))))
def aW_426 : Nat → Option (Instr × Nat) := fun pc => sx_iF (aS_426 pc) pc
theorem aX_426 : ∀ pc i len, aW_426 pc = some (i, len) → decode aM_426.1.2.1 pc = .ok (i, len) := fun pc i len h => sx_iF_s (aT_426 pc) h
def aI_427_0 : sx_IL := [(0, .aload_n 0, 1), (1, .getfield 60, 3), (4, .iconst 3, 1), (5, .iload_n 1, 1), (6, .imul, 1), (7, .iconst 1, 1)]
theorem aJ_427_0 : sx_iB prog_14_method_104_code aI_427_0 = true := by decide +kernel
def aI_427_1 : sx_IL := [(8, .iadd, 1), (9, .iaload, 1), (10, .ifCond .ne 7, 3), (13, .iconst 1, 1), (14, .goto 4, 3), (17, .iconst 0, 1)]
theorem aJ_427_1 : sx_iB prog_14_method_104_code aI_427_1 = true := by decide +kernel
def aI_427_2 : sx_IL := [(18, .istore 4, 2), (20, .iconst 0, 1), (21, .istore 5, 2), (23, .iload 5, 2), (25, .aload_n 0, 1), (26, .getfield 60, 3)]
theorem aJ_427_2 : sx_iB prog_14_method_104_code aI_427_2 = true := by decide +kernel
def aI_427_3 : sx_IL := [(29, .iconst 3, 1), (30, .iload_n 1, 1), (31, .imul, 1), (32, .iconst 1, 1), (33, .iadd, 1), (34, .iaload, 1)]
theorem aJ_427_3 : sx_iB prog_14_method_104_code aI_427_3 = true := by decide +kernel
def aI_427_4 : sx_IL := [(35, .if_icmp .ge 64, 3), (38, .iload 4, 2), (40, .ifCond .ne 46, 3), (43, .aload_n 0, 1), (44, .iload_n 2, 1), (45, .iload_n 3, 1)]
theorem aJ_427_4 : sx_iB prog_14_method_104_code aI_427_4 = true := by decide +kernel
def aI_427_5 : sx_IL := [(46, .aload_n 0, 1), (47, .getfield 63, 3), (50, .bipush 24, 2), (52, .iload_n 1, 1), (53, .imul, 1), (54, .bipush 8, 2)]
theorem aJ_427_5 : sx_iB prog_14_method_104_code aI_427_5 = true := by decide +kernel
def aI_427_6 : sx_IL := [(56, .iadd, 1), (57, .iconst 2, 1), (58, .iload 5, 2), (60, .imul, 1), (61, .iadd, 1), (62, .iaload, 1)]
theorem aJ_427_6 : sx_iB prog_14_method_104_code aI_427_6 = true := by decide +kernel
def aI_427_7 : sx_IL := [(63, .aload_n 0, 1), (64, .getfield 63, 3), (67, .bipush 24, 2), (69, .iload_n 1, 1), (70, .imul, 1), (71, .bipush 9, 2)]
theorem aJ_427_7 : sx_iB prog_14_method_104_code aI_427_7 = true := by decide +kernel
def aI_427_8 : sx_IL := [(73, .iadd, 1), (74, .iconst 2, 1), (75, .iload 5, 2), (77, .imul, 1), (78, .iadd, 1), (79, .iaload, 1)]
theorem aJ_427_8 : sx_iB prog_14_method_104_code aI_427_8 = true := by decide +kernel
def aI_427_9 : sx_IL := [(80, .invokevirtual 871, 3), (83, .ifCond .eq 7, 3), (86, .iconst 1, 1), (87, .goto 4, 3), (90, .iconst 0, 1), (91, .istore 4, 2)]
theorem aJ_427_9 : sx_iB prog_14_method_104_code aI_427_9 = true := by decide +kernel
def aI_427_10 : sx_IL := [(93, .iinc 5 1, 3), (96, .goto (-73), 3), (99, .iconst 0, 1), (100, .istore 5, 2), (102, .iload 5, 2), (104, .aload_n 0, 1)]
theorem aJ_427_10 : sx_iB prog_14_method_104_code aI_427_10 = true := by decide +kernel
def aI_427_11 : sx_IL := [(105, .getfield 60, 3), (108, .iconst 3, 1), (109, .iload_n 1, 1), (110, .imul, 1), (111, .iconst 2, 1), (112, .iadd, 1)]
theorem aJ_427_11 : sx_iB prog_14_method_104_code aI_427_11 = true := by decide +kernel
def aI_427_12 : sx_IL := [(113, .iaload, 1), (114, .if_icmp .ge 64, 3), (117, .iload 4, 2), (119, .ifCond .eq 50, 3), (122, .aload_n 0, 1), (123, .iload_n 2, 1)]
theorem aJ_427_12 : sx_iB prog_14_method_104_code aI_427_12 = true := by decide +kernel
def aI_427_13 : sx_IL := [(124, .iload_n 3, 1), (125, .aload_n 0, 1), (126, .getfield 63, 3), (129, .bipush 24, 2), (131, .iload_n 1, 1), (132, .imul, 1)]
theorem aJ_427_13 : sx_iB prog_14_method_104_code aI_427_13 = true := by decide +kernel
def aI_427_14 : sx_IL := [(133, .bipush 16, 2), (135, .iadd, 1), (136, .iconst 2, 1), (137, .iload 5, 2), (139, .imul, 1), (140, .iadd, 1)]
theorem aJ_427_14 : sx_iB prog_14_method_104_code aI_427_14 = true := by decide +kernel
def aI_427_15 : sx_IL := [(141, .iaload, 1), (142, .aload_n 0, 1), (143, .getfield 63, 3), (146, .bipush 24, 2), (148, .iload_n 1, 1), (149, .imul, 1)]
theorem aJ_427_15 : sx_iB prog_14_method_104_code aI_427_15 = true := by decide +kernel
def aI_427_16 : sx_IL := [(150, .bipush 17, 2), (152, .iadd, 1), (153, .iconst 2, 1), (154, .iload 5, 2), (156, .imul, 1), (157, .iadd, 1)]
theorem aJ_427_16 : sx_iB prog_14_method_104_code aI_427_16 = true := by decide +kernel
def aI_427_17 : sx_IL := [(158, .iaload, 1), (159, .invokevirtual 871, 3), (162, .ifCond .ne 7, 3), (165, .iconst 1, 1), (166, .goto 4, 3), (169, .iconst 0, 1)]
theorem aJ_427_17 : sx_iB prog_14_method_104_code aI_427_17 = true := by decide +kernel
def aI_427_18 : sx_IL := [(170, .istore 4, 2), (172, .iinc 5 1, 3), (175, .goto (-73), 3), (178, .iload 4, 2), (180, .ifCond .ne 7, 3), (183, .iconst 1, 1)]
theorem aJ_427_18 : sx_iB prog_14_method_104_code aI_427_18 = true := by decide +kernel
def aI_427_19 : sx_IL := [(184, .goto 4, 3), (187, .iconst 0, 1), (188, .ireturn, 1)]
theorem aJ_427_19 : sx_iB prog_14_method_104_code aI_427_19 = true := by decide +kernel
def aS_427 (pc : Nat) : sx_IL := (if pc < 93 then (if pc < 46 then (if pc < 18 then (if pc < 8 then aI_427_0 else aI_427_1) else (if pc < 29 then aI_427_2 else (if pc < 35 then aI_427_3 else aI_427_4))) else (if pc < 63 then (if pc < 56 then aI_427_5 else aI_427_6) else (if pc < 73 then aI_427_7 else (if pc < 80 then aI_427_8 else aI_427_9)))) else (if pc < 141 then (if pc < 113 then (if pc < 105 then aI_427_10 else aI_427_11) else (if pc < 124 then aI_427_12 else (if pc < 133 then aI_427_13 else aI_427_14))) else (if pc < 158 then (if pc < 150 then aI_427_15 else aI_427_16) else (if pc < 170 then aI_427_17 else (if pc < 184 then aI_427_18 else aI_427_19)))))
theorem aT_427 (pc : Nat) : sx_iOk prog_14_method_104_code (aS_427 pc) := (sx_ite (p := fun l => sx_iOk prog_14_method_104_code l) (sx_ite (p := fun l => sx_iOk prog_14_method_104_code l) (sx_ite (p := fun l => sx_iOk prog_14_method_104_code l) (sx_ite (p := fun l => sx_iOk prog_14_method_104_code l) (sx_iB_s aJ_427_0) (sx_iB_s aJ_427_1)) (sx_ite (p := fun l => sx_iOk prog_14_method_104_code l) (sx_iB_s aJ_427_2) (sx_ite (p := fun l => sx_iOk prog_14_method_104_code l) (sx_iB_s aJ_427_3) (sx_iB_s aJ_427_4)))) (sx_ite (p := fun l => sx_iOk prog_14_method_104_code l) (sx_ite (p := fun l => sx_iOk prog_14_method_104_code l) (sx_iB_s aJ_427_5) (sx_iB_s aJ_427_6)) (sx_ite (p := fun l => sx_iOk prog_14_method_104_code l) (sx_iB_s aJ_427_7) (sx_ite (p := fun l => sx_iOk prog_14_method_104_code l) (sx_iB_s aJ_427_8) (sx_iB_s aJ_427_9))))) (sx_ite (p := fun l => sx_iOk prog_14_method_104_code l) (sx_ite (p := fun l => sx_iOk prog_14_method_104_code l) (sx_ite (p := fun l => sx_iOk prog_14_method_104_code l) (sx_iB_s aJ_427_10) (sx_iB_s aJ_427_11)) (sx_ite (p := fun l => sx_iOk prog_14_method_104_code l) (sx_iB_s aJ_427_12) (sx_ite (p := fun l => sx_iOk prog_14_method_104_code l) (sx_iB_s aJ_427_13) (sx_iB_s aJ_427_14)))) (sx_ite (p := fun l => sx_iOk prog_14_method_104_code l) (sx_ite (p := fun l => sx_iOk prog_14_method_104_code l) (sx_iB_s aJ_427_15) (sx_iB_s aJ_427_16)) (sx_ite (p := fun l => sx_iOk prog_14_method_104_code l) (sx_iB_s aJ_427_17) (sx_ite (p := fun l => sx_iOk prog_14_method_104_code l) (sx_iB_s aJ_427_18) (sx_iB_s aJ_427_19))))))
def aW_427 : Nat → Option (Instr × Nat) := fun pc => sx_iF (aS_427 pc) pc
theorem aX_427 : ∀ pc i len, aW_427 pc = some (i, len) → decode aM_427.1.2.1 pc = .ok (i, len) := fun pc i len h => sx_iF_s (aT_427 pc) h
def aI_428_0 : sx_IL := [(0, .aload_n 0, 1), (1, .getfield 39, 3), (4, .iload_n 1, 1), (5, .iaload, 1), (6, .bipush 42, 2), (8, .if_icmp .ne 7, 3)]
theorem aJ_428_0 : sx_iB prog_14_method_97_code aI_428_0 = true := by decide +kernel
def aI_428_1 : sx_IL := [(11, .iconst 1, 1), (12, .goto 4, 3), (15, .iconst 0, 1), (16, .istore 5, 2), (18, .iload 5, 2), (20, .ifCond .eq 9, 3)]
theorem aJ_428_1 : sx_iB prog_14_method_97_code aI_428_1 = true := by decide +kernel
def aI_428_2 : sx_IL := [(23, .iload_n 1, 1), (24, .iconst 2, 1), (25, .iadd, 1), (26, .goto 4, 3), (29, .iload_n 1, 1), (30, .istore 6, 2)]
theorem aJ_428_2 : sx_iB prog_14_method_97_code aI_428_2 = true := by decide +kernel
def aI_428_3 : sx_IL := [(32, .iload 5, 2), (34, .ifCond .eq 9, 3), (37, .iload_n 2, 1), (38, .iconst 2, 1), (39, .isub, 1), (40, .goto 4, 3)]
theorem aJ_428_3 : sx_iB prog_14_method_97_code aI_428_3 = true := by decide +kernel
def aI_428_4 : sx_IL := [(43, .iload_n 2, 1), (44, .istore 7, 2), (46, .iload 7, 2), (48, .iload 4, 2), (50, .if_icmp .ne 22, 3), (53, .aload_n 0, 1)]
theorem aJ_428_4 : sx_iB prog_14_method_97_code aI_428_4 = true := by decide +kernel
def aI_428_5 : sx_IL := [(54, .getfield 39, 3), (57, .iload 6, 2), (59, .iload 7, 2), (61, .aload_n 0, 1), (62, .getfield 39, 3), (65, .iload_n 3, 1)]
theorem aJ_428_5 : sx_iB prog_14_method_97_code aI_428_5 = true := by decide +kernel
def aI_428_6 : sx_IL := [(66, .iload 4, 2), (68, .invokestatic 847, 3), (71, .ireturn, 1), (72, .iload 7, 2), (74, .iload 4, 2), (76, .if_icmp .le 54, 3)]
theorem aJ_428_6 : sx_iB prog_14_method_97_code aI_428_6 = true := by decide +kernel
def aI_428_7 : sx_IL := [(79, .aload_n 0, 1), (80, .getfield 39, 3), (83, .iload 6, 2), (85, .iload 7, 2), (87, .iadd, 1), (88, .iload 4, 2)]
theorem aJ_428_7 : sx_iB prog_14_method_97_code aI_428_7 = true := by decide +kernel
def aI_428_8 : sx_IL := [(90, .isub, 1), (91, .iconst 1, 1), (92, .isub, 1), (93, .iaload, 1), (94, .bipush 46, 2), (96, .if_icmp .ne 34, 3)]
theorem aJ_428_8 : sx_iB prog_14_method_97_code aI_428_8 = true := by decide +kernel
def aI_428_9 : sx_IL := [(99, .aload_n 0, 1), (100, .getfield 39, 3), (103, .iload 6, 2), (105, .iload 7, 2), (107, .iadd, 1), (108, .iload 4, 2)]
theorem aJ_428_9 : sx_iB prog_14_method_97_code aI_428_9 = true := by decide +kernel
def aI_428_10 : sx_IL := [(110, .isub, 1), (111, .iload 4, 2), (113, .aload_n 0, 1), (114, .getfield 39, 3), (117, .iload_n 3, 1), (118, .iload 4, 2)]
theorem aJ_428_10 : sx_iB prog_14_method_97_code aI_428_10 = true := by decide +kernel
def aI_428_11 : sx_IL := [(120, .invokestatic 847, 3), (123, .ifCond .eq 7, 3), (126, .iconst 1, 1), (127, .goto 4, 3), (130, .iconst 0, 1), (131, .ireturn, 1)]
theorem aJ_428_11 : sx_iB prog_14_method_97_code aI_428_11 = true := by decide +kernel
def aS_428 (pc : Nat) : sx_IL := (if pc < 66 then (if pc < 32 then (if pc < 11 then aI_428_0 else (if pc < 23 then aI_428_1 else aI_428_2)) else (if pc < 43 then aI_428_3 else (if pc < 54 then aI_428_4 else aI_428_5))) else (if pc < 99 then (if pc < 79 then aI_428_6 else (if pc < 90 then aI_428_7 else aI_428_8)) else (if pc < 110 then aI_428_9 else (if pc < 120 then aI_428_10 else aI_428_11))))
theorem aT_428 (pc : Nat) : sx_iOk prog_14_method_97_code (aS_428 pc) := (sx_ite (p := fun l => sx_iOk prog_14_method_97_code l) (sx_ite (p := fun l => sx_iOk prog_14_method_97_code l) (sx_ite (p := fun l => sx_iOk prog_14_method_97_code l) (sx_iB_s aJ_428_0) (sx_ite (p := fun l => sx_iOk prog_14_method_97_code l) (sx_iB_s aJ_428_1) (sx_iB_s aJ_428_2))) (sx_ite (p := fun l => sx_iOk prog_14_method_97_code l) (sx_iB_s aJ_428_3) (sx_ite (p := fun l => sx_iOk prog_14_method_97_code l) (sx_iB_s aJ_428_4) (sx_iB_s aJ_428_5)))) (sx_ite (p := fun l => sx_iOk prog_14_method_97_code l) (sx_ite (p := fun l => sx_iOk prog_14_method_97_code l) (sx_iB_s aJ_428_6) (sx_ite (p := fun l => sx_iOk prog_14_method_97_code l) (sx_iB_s aJ_428_7) (sx_iB_s aJ_428_8))) (sx_ite (p := fun l => sx_iOk prog_14_method_97_code l) (sx_iB_s aJ_428_9) (sx_ite (p := fun l => sx_iOk prog_14_method_97_code l) (sx_iB_s aJ_428_10) (sx_iB_s aJ_428_11)))))
def aW_428 : Nat → Option (Instr × Nat) := fun pc => sx_iF (aS_428 pc) pc
theorem aX_428 : ∀ pc i len, aW_428 pc = some (i, len) → decode aM_428.1.2.1 pc = .ok (i, len) := fun pc i len h => sx_iF_s (aT_428 pc) h
def aI_429_0 : sx_IL := [(0, .aload_n 0, 1), (1, .iload_n 1, 1), (2, .invokevirtual 894, 3), (5, .ifCond .eq 24, 3), (8, .aload_n 0, 1), (9, .iload_n 2, 1)]
theorem aJ_429_0 : sx_iB prog_14_method_111_code aI_429_0 = true := by decide +kernel
def aI_429_1 : sx_IL := [(10, .invokevirtual 840, 3), (13, .ifCond .eq 16, 3), (16, .iload 4, 2), (18, .i2l, 1), (19, .lconst 0, 1), (20, .ldc2_w 631, 3)]
theorem aJ_429_1 : sx_iB prog_14_method_111_code aI_429_1 = true := by decide +kernel
def aI_429_2 : sx_IL := [(23, .invokestatic 513, 3), (26, .ifCond .ne 5, 3), (29, .iconst (-1), 1), (30, .ireturn, 1), (31, .aload_n 0, 1), (32, .iconst 0, 1)]
theorem aJ_429_2 : sx_iB prog_14_method_111_code aI_429_2 = true := by decide +kernel
def aI_429_3 : sx_IL := [(33, .putfield 855, 3), (36, .aload_n 0, 1), (37, .iconst 0, 1), (38, .putfield 891, 3), (41, .iconst 0, 1), (42, .istore 5, 2)]
theorem aJ_429_3 : sx_iB prog_14_method_111_code aI_429_3 = true := by decide +kernel
def aI_429_4 : sx_IL := [(44, .iload 5, 2), (46, .iconst 4, 1), (47, .if_icmp .ge 68, 3), (50, .aload_n 0, 1), (51, .getfield 891, 3), (54, .ifCond .ne 61, 3)]
theorem aJ_429_4 : sx_iB prog_14_method_111_code aI_429_4 = true := by decide +kernel
def aI_429_5 : sx_IL := [(57, .aload_n 0, 1), (58, .iload_n 1, 1), (59, .iload_n 2, 1), (60, .iload_n 3, 1), (61, .iload 4, 2), (63, .iload 5, 2)]
theorem aJ_429_5 : sx_iB prog_14_method_111_code aI_429_5 = true := by decide +kernel
def aI_429_6 : sx_IL := [(65, .invokevirtual 908, 3), (68, .ifCond .eq 41, 3), (71, .aload_n 0, 1), (72, .iload 5, 2), (74, .iconst 1, 1), (75, .iadd, 1)]
theorem aJ_429_6 : sx_iB prog_14_method_111_code aI_429_6 = true := by decide +kernel
def aI_429_7 : sx_IL := [(76, .putfield 891, 3), (79, .iconst 0, 1), (80, .istore 6, 2), (82, .iload 6, 2), (84, .iload 5, 2), (86, .if_icmp .gt 23, 3)]
theorem aJ_429_7 : sx_iB prog_14_method_111_code aI_429_7 = true := by decide +kernel
def aI_429_8 : sx_IL := [(89, .aload_n 0, 1), (90, .getfield 90, 3), (93, .iload 6, 2), (95, .aload_n 0, 1), (96, .getfield 87, 3), (99, .iload 6, 2)]
theorem aJ_429_8 : sx_iB prog_14_method_111_code aI_429_8 = true := by decide +kernel
def aI_429_9 : sx_IL := [(101, .iaload, 1), (102, .iastore, 1), (103, .iinc 6 1, 3), (106, .goto (-24), 3), (109, .iinc 5 1, 3), (112, .goto (-68), 3)]
theorem aJ_429_9 : sx_iB prog_14_method_111_code aI_429_9 = true := by decide +kernel
def aI_429_10 : sx_IL := [(115, .aload_n 0, 1), (116, .getfield 891, 3), (119, .ireturn, 1)]
theorem aJ_429_10 : sx_iB prog_14_method_111_code aI_429_10 = true := by decide +kernel
def aS_429 (pc : Nat) : sx_IL := (if pc < 57 then (if pc < 23 then (if pc < 10 then aI_429_0 else aI_429_1) else (if pc < 33 then aI_429_2 else (if pc < 44 then aI_429_3 else aI_429_4))) else (if pc < 89 then (if pc < 65 then aI_429_5 else (if pc < 76 then aI_429_6 else aI_429_7)) else (if pc < 101 then aI_429_8 else (if pc < 115 then aI_429_9 else aI_429_10))))
theorem aT_429 (pc : Nat) : sx_iOk prog_14_method_111_code (aS_429 pc) := (sx_ite (p := fun l => sx_iOk prog_14_method_111_code l) (sx_ite (p := fun l => sx_iOk prog_14_method_111_code l) (sx_ite (p := fun l => sx_iOk prog_14_method_111_code l) (sx_iB_s aJ_429_0) (sx_iB_s aJ_429_1)) (sx_ite (p := fun l => sx_iOk prog_14_method_111_code l) (sx_iB_s aJ_429_2) (sx_ite (p := fun l => sx_iOk prog_14_method_111_code l) (sx_iB_s aJ_429_3) (sx_iB_s aJ_429_4)))) (sx_ite (p := fun l => sx_iOk prog_14_method_111_code l) (sx_ite (p := fun l => sx_iOk prog_14_method_111_code l) (sx_iB_s aJ_429_5) (sx_ite (p := fun l => sx_iOk prog_14_method_111_code l) (sx_iB_s aJ_429_6) (sx_iB_s aJ_429_7))) (sx_ite (p := fun l => sx_iOk prog_14_method_111_code l) (sx_iB_s aJ_429_8) (sx_ite (p := fun l => sx_iOk prog_14_method_111_code l) (sx_iB_s aJ_429_9) (sx_iB_s aJ_429_10)))))
def aW_429 : Nat → Option (Instr × Nat) := fun pc => sx_iF (aS_429 pc) pc
theorem aX_429 : ∀ pc i len, aW_429 pc = some (i, len) → decode aM_429.1.2.1 pc = .ok (i, len) := fun pc i len h => sx_iF_s (aT_429 pc) h
def aI_430_0 : sx_IL := [(0, .aload_n 0, 1), (1, .getfield 102, 3), (4, .bipush 8, 2), (6, .iload_n 1, 1), (7, .imul, 1), (8, .iaload, 1)]
theorem aJ_430_0 : sx_iB prog_14_method_112_code aI_430_0 = true := by decide +kernel
def aI_430_1 : sx_IL := [(9, .iconst 1, 1), (10, .if_icmp .ne 7, 3), (13, .iconst 1, 1), (14, .goto 4, 3), (17, .iconst 0, 1), (18, .istore 6, 2)]
theorem aJ_430_1 : sx_iB prog_14_method_112_code aI_430_1 = true := by decide +kernel
def aI_430_2 : sx_IL := [(20, .aload_n 0, 1), (21, .getfield 87, 3), (24, .iconst 0, 1), (25, .iload_n 2, 1), (26, .iastore, 1), (27, .iload 5, 2)]
theorem aJ_430_2 : sx_iB prog_14_method_112_code aI_430_2 = true := by decide +kernel
def aI_430_3 : sx_IL := [(29, .ifCond .ne 37, 3), (32, .aload_n 0, 1), (33, .iconst 1, 1), (34, .putfield 881, 3), (37, .aload_n 0, 1), (38, .iload_n 1, 1)]
theorem aJ_430_3 : sx_iB prog_14_method_112_code aI_430_3 = true := by decide +kernel
def aI_430_4 : sx_IL := [(39, .iload_n 2, 1), (40, .invokevirtual 901, 3), (43, .ifCond .eq 21, 3), (46, .aload_n 0, 1), (47, .iconst 0, 1), (48, .iconst 1, 1)]
theorem aJ_430_4 : sx_iB prog_14_method_112_code aI_430_4 = true := by decide +kernel
def aI_430_5 : sx_IL := [(49, .iload_n 3, 1), (50, .iload 4, 2), (52, .iload 6, 2), (54, .invokevirtual 884, 3), (57, .ifCond .ne 7, 3), (60, .iconst 1, 1)]
theorem aJ_430_5 : sx_iB prog_14_method_112_code aI_430_5 = true := by decide +kernel
def aI_430_6 : sx_IL := [(61, .goto 4, 3), (64, .iconst 0, 1), (65, .ireturn, 1), (66, .iconst 1, 1), (67, .istore 7, 2), (69, .aload_n 0, 1)]
theorem aJ_430_6 : sx_iB prog_14_method_112_code aI_430_6 = true := by decide +kernel
def aI_430_7 : sx_IL := [(70, .getfield 87, 3), (73, .iconst 1, 1), (74, .iconst (-1), 1), (75, .iastore, 1), (76, .iload 7, 2), (78, .ifCond .le 109, 3)]
theorem aJ_430_7 : sx_iB prog_14_method_112_code aI_430_7 = true := by decide +kernel
def aI_430_8 : sx_IL := [(81, .aload_n 0, 1), (82, .getfield 87, 3), (85, .iload 7, 2), (87, .dup2, 1), (88, .iaload, 1), (89, .iconst 1, 1)]
theorem aJ_430_8 : sx_iB prog_14_method_112_code aI_430_8 = true := by decide +kernel
def aI_430_9 : sx_IL := [(90, .iadd, 1), (91, .iastore, 1), (92, .aload_n 0, 1), (93, .getfield 87, 3), (96, .iload 7, 2), (98, .iaload, 1)]
theorem aJ_430_9 : sx_iB prog_14_method_112_code aI_430_9 = true := by decide +kernel
def aI_430_10 : sx_IL := [(99, .aload_n 0, 1), (100, .getfield 782, 3), (103, .if_icmp .ne 9, 3), (106, .iinc 7 (-1), 3), (109, .goto (-33), 3), (112, .aload_n 0, 1)]
theorem aJ_430_10 : sx_iB prog_14_method_112_code aI_430_10 = true := by decide +kernel
def aI_430_11 : sx_IL := [(113, .iload 7, 2), (115, .iload_n 3, 1), (116, .iload 4, 2), (118, .iload 6, 2), (120, .invokevirtual 912, 3), (123, .ifCond .eq (-47), 3)]
theorem aJ_430_11 : sx_iB prog_14_method_112_code aI_430_11 = true := by decide +kernel
def aI_430_12 : sx_IL := [(126, .iload 7, 2), (128, .iload 5, 2), (130, .if_icmp .ge 17, 3), (133, .iinc 7 1, 3), (136, .aload_n 0, 1), (137, .getfield 87, 3)]
theorem aJ_430_12 : sx_iB prog_14_method_112_code aI_430_12 = true := by decide +kernel
def aI_430_13 : sx_IL := [(140, .iload 7, 2), (142, .iconst (-1), 1), (143, .iastore, 1), (144, .goto (-68), 3), (147, .aload_n 0, 1), (148, .iload_n 1, 1)]
theorem aJ_430_13 : sx_iB prog_14_method_112_code aI_430_13 = true := by decide +kernel
def aI_430_14 : sx_IL := [(149, .aload_n 0, 1), (150, .getfield 87, 3), (153, .iload 7, 2), (155, .iaload, 1), (156, .invokevirtual 901, 3), (159, .ifCond .eq (-83), 3)]
theorem aJ_430_14 : sx_iB prog_14_method_112_code aI_430_14 = true := by decide +kernel
def aI_430_15 : sx_IL := [(162, .aload_n 0, 1), (163, .iload 7, 2), (165, .iconst 1, 1), (166, .iload_n 3, 1), (167, .iload 4, 2), (169, .iload 6, 2)]
theorem aJ_430_15 : sx_iB prog_14_method_112_code aI_430_15 = true := by decide +kernel
def aI_430_16 : sx_IL := [(171, .invokevirtual 884, 3), (174, .ifCond .ne (-98), 3), (177, .aload_n 0, 1), (178, .iload 5, 2), (180, .iconst 1, 1), (181, .iadd, 1)]
theorem aJ_430_16 : sx_iB prog_14_method_112_code aI_430_16 = true := by decide +kernel
def aI_430_17 : sx_IL := [(182, .putfield 881, 3), (185, .iconst 1, 1), (186, .ireturn, 1), (187, .iconst 0, 1), (188, .ireturn, 1)]
theorem aJ_430_17 : sx_iB prog_14_method_112_code aI_430_17 = true := by decide +kernel
def aS_430 (pc : Nat) : sx_IL := (if pc < 90 then (if pc < 39 then (if pc < 20 then (if pc < 9 then aI_430_0 else aI_430_1) else (if pc < 29 then aI_430_2 else aI_430_3)) else (if pc < 61 then (if pc < 49 then aI_430_4 else aI_430_5) else (if pc < 70 then aI_430_6 else (if pc < 81 then aI_430_7 else aI_430_8)))) else (if pc < 140 then (if pc < 113 then (if pc < 99 then aI_430_9 else aI_430_10) else (if pc < 126 then aI_430_11 else aI_430_12)) else (if pc < 162 then (if pc < 149 then aI_430_13 else aI_430_14) else (if pc < 171 then aI_430_15 else (if pc < 182 then aI_430_16 else aI_430_17)))))
theorem aT_430 (pc : Nat) : sx_iOk prog_14_method_112_code (aS_430 pc) := (sx_ite (p := fun l => sx_iOk prog_14_method_112_code l) (sx_ite (p := fun l => sx_iOk prog_14_method_112_code l) (sx_ite (p := fun l => sx_iOk prog_14_method_112_code l) (sx_ite (p := fun l => sx_iOk prog_14_method_112_code l) (sx_iB_s aJ_430_0) (sx_iB_s aJ_430_1)) (sx_ite (p := fun l => sx_iOk prog_14_method_112_code l) (sx_iB_s aJ_430_2) (sx_iB_s aJ_430_3))) (sx_ite (p := fun l => sx_iOk prog_14_method_112_code l) (sx_ite (p := fun l => sx_iOk prog_14_method_112_code l) (sx_iB_s aJ_430_4) (sx_iB_s aJ_430_5)) (sx_ite (p := fun l => sx_iOk prog_14_method_112_code l) (sx_iB_s aJ_430_6) (sx_ite (p := fun l => sx_iOk prog_14_method_112_code l) (sx_iB_s aJ_430_7) (sx_iB_s aJ_430_8))))) (sx_ite (p := fun l => sx_iOk prog_14_method_112_code l) (sx_ite (p := fun l => sx_iOk prog_14_method_112_code l) (sx_ite (p := fun l => sx_iOk prog_14_method_112_code l) (sx_iB_s aJ_430_9) (sx_iB_s aJ_430_10)) (sx_ite (p := fun l => sx_iOk prog_14_method_112_code l) (sx_iB_s aJ_430_11) (sx_iB_s aJ_430_12))) (sx_ite (p := fun l => sx_iOk prog_14_method_112_code l) (sx_ite (p := fun l => sx_iOk prog_14_method_112_code l) (sx_iB_s aJ_430_13) (sx_iB_s aJ_430_14)) (sx_ite (p := fun l => sx_iOk prog_14_method_112_code l) (sx_iB_s aJ_430_15) (sx_ite (p := fun l => sx_iOk prog_14_method_112_code l) (sx_iB_s aJ_430_16) (sx_iB_s aJ_430_17))))))
def aW_430 : Nat → Option (Instr × Nat) := fun pc => sx_iF (aS_430 pc) pc
theorem aX_430 : ∀ pc i len, aW_430 pc = some (i, len) → decode aM_430.1.2.1 pc = .ok (i, len) := fun pc i len h => sx_iF_s (aT_430 pc) h
def aI_431_0 : sx_IL := [(0, .aload_n 0, 1), (1, .aload_n 0, 1), (2, .getfield 87, 3), (5, .iload_n 1, 1), (6, .iconst 1, 1), (7, .isub, 1)]
theorem aJ_431_0 : sx_iB prog_14_method_113_code aI_431_0 = true := by decide +kernel
def aI_431_1 : sx_IL := [(8, .iaload, 1), (9, .aload_n 0, 1), (10, .getfield 87, 3), (13, .iload_n 1, 1), (14, .iaload, 1), (15, .invokevirtual 888, 3)]
theorem aJ_431_1 : sx_iB prog_14_method_113_code aI_431_1 = true := by decide +kernel
def aI_431_2 : sx_IL := [(18, .istore 5, 2), (20, .iconst 0, 1), (21, .istore 6, 2), (23, .iload 6, 2), (25, .iload_n 1, 1), (26, .if_icmp .ge 37, 3)]
theorem aJ_431_2 : sx_iB prog_14_method_113_code aI_431_2 = true := by decide +kernel
def aI_431_3 : sx_IL := [(29, .iload 5, 2), (31, .ifCond .eq 23, 3), (34, .aload_n 0, 1), (35, .getfield 87, 3), (38, .iload 6, 2), (40, .iaload, 1)]
theorem aJ_431_3 : sx_iB prog_14_method_113_code aI_431_3 = true := by decide +kernel
def aI_431_4 : sx_IL := [(41, .aload_n 0, 1), (42, .getfield 87, 3), (45, .iload_n 1, 1), (46, .iaload, 1), (47, .if_icmp .eq 7, 3), (50, .iconst 1, 1)]
theorem aJ_431_4 : sx_iB prog_14_method_113_code aI_431_4 = true := by decide +kernel
def aI_431_5 : sx_IL := [(51, .goto 4, 3), (54, .iconst 0, 1), (55, .istore 5, 2), (57, .iinc 6 1, 3), (60, .goto (-37), 3), (63, .iload 5, 2)]
theorem aJ_431_5 : sx_iB prog_14_method_113_code aI_431_5 = true := by decide +kernel
def aI_431_6 : sx_IL := [(65, .ifCond .eq 22, 3), (68, .aload_n 0, 1), (69, .iload_n 1, 1), (70, .iconst 1, 1), (71, .isub, 1), (72, .iconst 0, 1)]
theorem aJ_431_6 : sx_iB prog_14_method_113_code aI_431_6 = true := by decide +kernel
def aI_431_7 : sx_IL := [(73, .iload_n 2, 1), (74, .iload_n 3, 1), (75, .iload 4, 2), (77, .invokevirtual 884, 3), (80, .ifCond .ne 7, 3), (83, .iconst 1, 1)]
theorem aJ_431_7 : sx_iB prog_14_method_113_code aI_431_7 = true := by decide +kernel
def aI_431_8 : sx_IL := [(84, .goto 4, 3), (87, .iconst 0, 1), (88, .ireturn, 1)]
theorem aJ_431_8 : sx_iB prog_14_method_113_code aI_431_8 = true := by decide +kernel
def aS_431 (pc : Nat) : sx_IL := (if pc < 41 then (if pc < 18 then (if pc < 8 then aI_431_0 else aI_431_1) else (if pc < 29 then aI_431_2 else aI_431_3)) else (if pc < 65 then (if pc < 51 then aI_431_4 else aI_431_5) else (if pc < 73 then aI_431_6 else (if pc < 84 then aI_431_7 else aI_431_8))))
theorem aT_431 (pc : Nat) : sx_iOk prog_14_method_113_code (aS_431 pc) := (sx_ite (p := fun l => sx_iOk prog_14_method_113_code l) (sx_ite (p := fun l => sx_iOk prog_14_method_113_code l) (sx_ite (p := fun l => sx_iOk prog_14_method_113_code l) (sx_iB_s aJ_431_0) (sx_iB_s aJ_431_1)) (sx_ite (p := fun l => sx_iOk prog_14_method_113_code l) (sx_iB_s aJ_431_2) (sx_iB_s aJ_431_3))) (sx_ite (p := fun l => sx_iOk prog_14_method_113_code l) (sx_ite (p := fun l => sx_iOk prog_14_method_113_code l) (sx_iB_s aJ_431_4) (sx_iB_s aJ_431_5)) (sx_ite (p := fun l => sx_iOk prog_14_method_113_code l) (sx_iB_s aJ_431_6) (sx_ite (p := fun l => sx_iOk prog_14_method_113_code l) (sx_iB_s aJ_431_7) (sx_iB_s aJ_431_8)))))
def aW_431 : Nat → Option (Instr × Nat) := fun pc => sx_iF (aS_431 pc) pc
theorem aX_431 : ∀ pc i len, aW_431 pc = some (i, len) → decode aM_431.1.2.1 pc = .ok (i, len) := fun pc i len h => sx_iF_s (aT_431 pc) h
def aI_432_0 : sx_IL := [(0, .iload_n 1, 1), (1, .i2l, 1), (2, .lconst 0, 1), (3, .lconst 1, 1), (4, .invokestatic 513, 3), (7, .ifCond .ne 5, 3)]
theorem aJ_432_0 : sx_iB prog_14_method_116_code aI_432_0 = true := by decide +kernel
def aI_432_1 : sx_IL := [(10, .iconst (-1), 1), (11, .ireturn, 1), (12, .aload_n 0, 1), (13, .getfield 916, 3), (16, .bipush 8, 2), (18, .if_icmp .ne 6, 3)]
theorem aJ_432_1 : sx_iB prog_14_method_116_code aI_432_1 = true := by decide +kernel
def aI_432_2 : sx_IL := [(21, .bipush (-3), 2), (23, .ireturn, 1), (24, .aload_n 0, 1), (25, .getfield 916, 3), (28, .istore_n 2, 1), (29, .aload_n 0, 1)]
theorem aJ_432_2 : sx_iB prog_14_method_116_code aI_432_2 = true := by decide +kernel
def aI_432_3 : sx_IL := [(30, .getfield 93, 3), (33, .iload_n 2, 1), (34, .iload_n 1, 1), (35, .iastore, 1), (36, .iconst 0, 1), (37, .istore_n 3, 1)]
theorem aJ_432_3 : sx_iB prog_14_method_116_code aI_432_3 = true := by decide +kernel
def aI_432_4 : sx_IL := [(38, .iload_n 3, 1), (39, .iconst 3, 1), (40, .if_icmp .ge 64, 3), (43, .aload_n 0, 1), (44, .getfield 99, 3), (47, .iconst 3, 1)]
theorem aJ_432_4 : sx_iB prog_14_method_116_code aI_432_4 = true := by decide +kernel
def aI_432_5 : sx_IL := [(48, .iload_n 2, 1), (49, .imul, 1), (50, .iload_n 3, 1), (51, .iadd, 1), (52, .iload_n 3, 1), (53, .iconst 2, 1)]
theorem aJ_432_5 : sx_iB prog_14_method_116_code aI_432_5 = true := by decide +kernel
def aI_432_6 : sx_IL := [(54, .if_icmp .ne 7, 3), (57, .iconst 2, 1), (58, .goto 4, 3), (61, .iconst 3, 1), (62, .iastore, 1), (63, .iconst 0, 1)]
theorem aJ_432_6 : sx_iB prog_14_method_116_code aI_432_6 = true := by decide +kernel
def aI_432_7 : sx_IL := [(64, .istore 4, 2), (66, .iload 4, 2), (68, .iconst 3, 1), (69, .if_icmp .ge 29, 3), (72, .aload_n 0, 1), (73, .getfield 96, 3)]
theorem aJ_432_7 : sx_iB prog_14_method_116_code aI_432_7 = true := by decide +kernel
def aI_432_8 : sx_IL := [(76, .bipush 12, 2), (78, .iload_n 2, 1), (79, .imul, 1), (80, .iconst 4, 1), (81, .iload_n 3, 1), (82, .imul, 1)]
theorem aJ_432_8 : sx_iB prog_14_method_116_code aI_432_8 = true := by decide +kernel
def aI_432_9 : sx_IL := [(83, .iadd, 1), (84, .iload 4, 2), (86, .iadd, 1), (87, .iload 4, 2), (89, .iconst 1, 1), (90, .iadd, 1)]
theorem aJ_432_9 : sx_iB prog_14_method_116_code aI_432_9 = true := by decide +kernel
def aI_432_10 : sx_IL := [(91, .iastore, 1), (92, .iinc 4 1, 3), (95, .goto (-29), 3), (98, .iinc 3 1, 3), (101, .goto (-63), 3), (104, .aload_n 0, 1)]
theorem aJ_432_10 : sx_iB prog_14_method_116_code aI_432_10 = true := by decide +kernel
def aI_432_11 : sx_IL := [(105, .getfield 102, 3), (108, .bipush 8, 2), (110, .iload_n 2, 1), (111, .imul, 1), (112, .iconst 2, 1), (113, .iadd, 1)]
theorem aJ_432_11 : sx_iB prog_14_method_116_code aI_432_11 = true := by decide +kernel
def aI_432_12 : sx_IL := [(114, .iconst 1, 1), (115, .iastore, 1), (116, .aload_n 0, 1), (117, .getfield 102, 3), (120, .bipush 8, 2), (122, .iload_n 2, 1)]
theorem aJ_432_12 : sx_iB prog_14_method_116_code aI_432_12 = true := by decide +kernel
def aI_432_13 : sx_IL := [(123, .imul, 1), (124, .iconst 3, 1), (125, .iadd, 1), (126, .bipush 60, 2), (128, .iastore, 1), (129, .aload_n 0, 1)]
theorem aJ_432_13 : sx_iB prog_14_method_116_code aI_432_13 = true := by decide +kernel
def aI_432_14 : sx_IL := [(130, .getfield 102, 3), (133, .bipush 8, 2), (135, .iload_n 2, 1), (136, .imul, 1), (137, .iconst 5, 1), (138, .iadd, 1)]
theorem aJ_432_14 : sx_iB prog_14_method_116_code aI_432_14 = true := by decide +kernel
def aI_432_15 : sx_IL := [(139, .iconst 1, 1), (140, .iastore, 1), (141, .aload_n 0, 1), (142, .getfield 102, 3), (145, .bipush 8, 2), (147, .iload_n 2, 1)]
theorem aJ_432_15 : sx_iB prog_14_method_116_code aI_432_15 = true := by decide +kernel
def aI_432_16 : sx_IL := [(148, .imul, 1), (149, .bipush 7, 2), (151, .iadd, 1), (152, .iconst 2, 1), (153, .iastore, 1), (154, .aload_n 0, 1)]
theorem aJ_432_16 : sx_iB prog_14_method_116_code aI_432_16 = true := by decide +kernel
def aI_432_17 : sx_IL := [(155, .dup, 1), (156, .getfield 916, 3), (159, .iconst 1, 1), (160, .iadd, 1), (161, .putfield 916, 3), (164, .iload_n 2, 1)]
theorem aJ_432_17 : sx_iB prog_14_method_116_code aI_432_17 = true := by decide +kernel
def aI_432_18 : sx_IL := [(165, .ireturn, 1)]
theorem aJ_432_18 : sx_iB prog_14_method_116_code aI_432_18 = true := by decide +kernel
def aS_432 (pc : Nat) : sx_IL := (if pc < 83 then (if pc < 38 then (if pc < 21 then (if pc < 10 then aI_432_0 else aI_432_1) else (if pc < 30 then aI_432_2 else aI_432_3)) else (if pc < 54 then (if pc < 48 then aI_432_4 else aI_432_5) else (if pc < 64 then aI_432_6 else (if pc < 76 then aI_432_7 else aI_432_8)))) else (if pc < 130 then (if pc < 105 then (if pc < 91 then aI_432_9 else aI_432_10) else (if pc < 114 then aI_432_11 else (if pc < 123 then aI_432_12 else aI_432_13))) else (if pc < 148 then (if pc < 139 then aI_432_14 else aI_432_15) else (if pc < 155 then aI_432_16 else (if pc < 165 then aI_432_17 else aI_432_18)))))
theorem aT_432 (pc : Nat) : sx_iOk prog_14_method_116_code (aS_432 pc) := (sx_ite (p := fun l => sx_iOk prog_14_method_116_code l) (sx_ite (p := fun l => sx_iOk prog_14_method_116_code l) (sx_ite (p := fun l => sx_iOk prog_14_method_116_code l) (sx_ite (p := fun l => sx_iOk prog_14_method_116_code l) (sx_iB_s aJ_432_0) (sx_iB_s aJ_432_1)) (sx_ite (p := fun l => sx_iOk prog_14_method_116_code l) (sx_iB_s aJ_432_2) (sx_iB_s aJ_432_3))) (sx_ite (p := fun l => sx_iOk prog_14_method_116_code l) (sx_ite (p := fun l => sx_iOk prog_14_method_116_code l) (sx_iB_s aJ_432_4) (sx_iB_s aJ_432_5)) (sx_ite (p := fun l => sx_iOk prog_14_method_116_code l) (sx_iB_s aJ_432_6) (sx_ite (p := fun l => sx_iOk prog_14_method_116_code l) (sx_iB_s aJ_432_7) (sx_iB_s aJ_432_8))))) (sx_ite (p := fun l => sx_iOk prog_14_method_116_code l) (sx_ite (p := fun l => sx_iOk prog_14_method_116_code l) (sx_ite (p := fun l => sx_iOk prog_14_method_116_code l) (sx_iB_s aJ_432_9) (sx_iB_s aJ_432_10)) (sx_ite (p := fun l => sx_iOk prog_14_method_116_code l) (sx_iB_s aJ_432_11) (sx_ite (p := fun l => sx_iOk prog_14_method_116_code l) (sx_iB_s aJ_432_12) (sx_iB_s aJ_432_13)))) (sx_ite (p := fun l => sx_iOk prog_14_method_116_code l) (sx_ite (p := fun l => sx_iOk prog_14_method_116_code l) (sx_iB_s aJ_432_14) (sx_iB_s aJ_432_15)) (sx_ite (p := fun l => sx_iOk prog_14_method_116_code l) (sx_iB_s aJ_432_16) (sx_ite (p := fun l => sx_iOk prog_14_method_116_code l) (sx_iB_s aJ_432_17) (sx_iB_s aJ_432_18))))))
def aW_432 : Nat → Option (Instr × Nat) := fun pc => sx_iF (aS_432 pc) pc
theorem aX_432 : ∀ pc i len, aW_432 pc = some (i, len) → decode aM_432.1.2.1 pc = .ok (i, len) := fun pc i len h => sx_iF_s (aT_432 pc) h
def aI_433_0 : sx_IL := [(0, .aload_n 0, 1), (1, .iload_n 1, 1), (2, .invokevirtual 894, 3), (5, .ifCond .eq 15, 3), (8, .iload_n 2, 1), (9, .i2l, 1)]
theorem aJ_433_0 : sx_iB prog_14_method_117_code aI_433_0 = true := by decide +kernel
def aI_433_1 : sx_IL := [(10, .lconst 0, 1), (11, .ldc2_w 631, 3), (14, .invokestatic 513, 3), (17, .ifCond .ne 5, 3), (20, .iconst (-1), 1), (21, .ireturn, 1)]
theorem aJ_433_1 : sx_iB prog_14_method_117_code aI_433_1 = true := by decide +kernel
def aI_433_2 : sx_IL := [(22, .iconst 0, 1), (23, .istore 4, 2), (25, .iconst 0, 1), (26, .istore 5, 2), (28, .iconst 1, 1), (29, .istore 6, 2)]
theorem aJ_433_2 : sx_iB prog_14_method_117_code aI_433_2 = true := by decide +kernel
def aI_433_3 : sx_IL := [(31, .iconst 3, 1), (32, .istore 7, 2), (34, .iload 7, 2), (36, .ifCond .lt 82, 3), (39, .iload_n 3, 1), (40, .bipush 8, 2)]
theorem aJ_433_3 : sx_iB prog_14_method_117_code aI_433_3 = true := by decide +kernel
def aI_433_4 : sx_IL := [(42, .iload 7, 2), (44, .imul, 1), (45, .iushr, 1), (46, .sipush 255, 3), (49, .iand, 1), (50, .istore 8, 2)]
theorem aJ_433_4 : sx_iB prog_14_method_117_code aI_433_4 = true := by decide +kernel
def aI_433_5 : sx_IL := [(52, .iload 8, 2), (54, .ifCond .eq 58, 3), (57, .iload 6, 2), (59, .ifCond .eq 35, 3), (62, .iload 8, 2), (64, .iload_n 2, 1)]
theorem aJ_433_5 : sx_iB prog_14_method_117_code aI_433_5 = true := by decide +kernel
def aI_433_6 : sx_IL := [(65, .iconst 2, 1), (66, .if_icmp .ne 7, 3), (69, .iconst 2, 1), (70, .goto 4, 3), (73, .iconst 3, 1), (74, .if_icmp .gt 20, 3)]
theorem aJ_433_6 : sx_iB prog_14_method_117_code aI_433_6 = true := by decide +kernel
def aI_433_7 : sx_IL := [(77, .iload 5, 2), (79, .iload 8, 2), (81, .bipush 7, 2), (83, .iand, 1), (84, .ishr, 1), (85, .iconst 1, 1)]
theorem aJ_433_7 : sx_iB prog_14_method_117_code aI_433_7 = true := by decide +kernel
def aI_433_8 : sx_IL := [(86, .iand, 1), (87, .ifCond .ne 7, 3), (90, .iconst 1, 1), (91, .goto 4, 3), (94, .iconst 0, 1), (95, .istore 6, 2)]
theorem aJ_433_8 : sx_iB prog_14_method_117_code aI_433_8 = true := by decide +kernel
def aI_433_9 : sx_IL := [(97, .iload 5, 2), (99, .iconst 1, 1), (100, .iload 8, 2), (102, .bipush 7, 2), (104, .iand, 1), (105, .ishl, 1)]
theorem aJ_433_9 : sx_iB prog_14_method_117_code aI_433_9 = true := by decide +kernel
def aI_433_10 : sx_IL := [(106, .ior, 1), (107, .istore 5, 2), (109, .iinc 4 1, 3), (112, .iinc 7 (-1), 3), (115, .goto (-81), 3), (118, .iload 6, 2)]
theorem aJ_433_10 : sx_iB prog_14_method_117_code aI_433_10 = true := by decide +kernel
def aI_433_11 : sx_IL := [(120, .ifCond .eq 8, 3), (123, .iload 4, 2), (125, .ifCond .ne 5, 3), (128, .iconst (-1), 1), (129, .ireturn, 1), (130, .iconst 0, 1)]
theorem aJ_433_11 : sx_iB prog_14_method_117_code aI_433_11 = true := by decide +kernel
def aI_433_12 : sx_IL := [(131, .istore 4, 2), (133, .iconst 3, 1), (134, .istore 7, 2), (136, .iload 7, 2), (138, .ifCond .lt 48, 3), (141, .iload_n 3, 1)]
theorem aJ_433_12 : sx_iB prog_14_method_117_code aI_433_12 = true := by decide +kernel
def aI_433_13 : sx_IL := [(142, .bipush 8, 2), (144, .iload 7, 2), (146, .imul, 1), (147, .iushr, 1), (148, .sipush 255, 3), (151, .iand, 1)]
theorem aJ_433_13 : sx_iB prog_14_method_117_code aI_433_13 = true := by decide +kernel
def aI_433_14 : sx_IL := [(152, .istore 8, 2), (154, .iload 8, 2), (156, .ifCond .eq 24, 3), (159, .aload_n 0, 1), (160, .getfield 96, 3), (163, .bipush 12, 2)]
theorem aJ_433_14 : sx_iB prog_14_method_117_code aI_433_14 = true := by decide +kernel
def aI_433_15 : sx_IL := [(165, .iload_n 1, 1), (166, .imul, 1), (167, .iconst 4, 1), (168, .iload_n 2, 1), (169, .imul, 1), (170, .iadd, 1)]
theorem aJ_433_15 : sx_iB prog_14_method_117_code aI_433_15 = true := by decide +kernel
def aI_433_16 : sx_IL := [(171, .iload 4, 2), (173, .iadd, 1), (174, .iload 8, 2), (176, .iastore, 1), (177, .iinc 4 1, 3), (180, .iinc 7 (-1), 3)]
theorem aJ_433_16 : sx_iB prog_14_method_117_code aI_433_16 = true := by decide +kernel
def aI_433_17 : sx_IL := [(183, .goto (-47), 3), (186, .aload_n 0, 1), (187, .getfield 99, 3), (190, .iconst 3, 1), (191, .iload_n 1, 1), (192, .imul, 1)]
theorem aJ_433_17 : sx_iB prog_14_method_117_code aI_433_17 = true := by decide +kernel
def aI_433_18 : sx_IL := [(193, .iload_n 2, 1), (194, .iadd, 1), (195, .iload 4, 2), (197, .iastore, 1), (198, .iload 4, 2), (200, .ireturn, 1)]
theorem aJ_433_18 : sx_iB prog_14_method_117_code aI_433_18 = true := by decide +kernel
def aS_433 (pc : Nat) : sx_IL := (if pc < 97 then (if pc < 42 then (if pc < 22 then (if pc < 10 then aI_433_0 else aI_433_1) else (if pc < 31 then aI_433_2 else aI_433_3)) else (if pc < 65 then (if pc < 52 then aI_433_4 else aI_433_5) else (if pc < 77 then aI_433_6 else (if pc < 86 then aI_433_7 else aI_433_8)))) else (if pc < 152 then (if pc < 120 then (if pc < 106 then aI_433_9 else aI_433_10) else (if pc < 131 then aI_433_11 else (if pc < 142 then aI_433_12 else aI_433_13))) else (if pc < 171 then (if pc < 165 then aI_433_14 else aI_433_15) else (if pc < 183 then aI_433_16 else (if pc < 193 then aI_433_17 else aI_433_18)))))
theorem aT_433 (pc : Nat) : sx_iOk prog_14_method_117_code (aS_433 pc) := (sx_ite (p := fun l => sx_iOk prog_14_method_117_code l) (sx_ite (p := fun l => sx_iOk prog_14_method_117_code l) (sx_ite (p := fun l => sx_iOk prog_14_method_117_code l) (sx_ite (p := fun l => sx_iOk prog_14_method_117_code l) (sx_iB_s aJ_433_0) (sx_iB_s aJ_433_1)) (sx_ite (p := fun l => sx_iOk prog_14_method_117_code l) (sx_iB_s aJ_433_2) (sx_iB_s aJ_433_3))) (sx_ite (p := fun l => sx_iOk prog_14_method_117_code l) (sx_ite (p := fun l => sx_iOk prog_14_method_117_code l) (sx_iB_s aJ_433_4) (sx_iB_s aJ_433_5)) (sx_ite (p := fun l => sx_iOk prog_14_method_117_code l) (sx_iB_s aJ_433_6) (sx_ite (p := fun l => sx_iOk prog_14_method_117_code l) (sx_iB_s aJ_433_7) (sx_iB_s aJ_433_8))))) (sx_ite (p := fun l => sx_iOk prog_14_method_117_code l) (sx_ite (p := fun l => sx_iOk prog_14_method_117_code l) (sx_ite (p := fun l => sx_iOk prog_14_method_117_code l) (sx_iB_s aJ_433_9) (sx_iB_s aJ_433_10)) (sx_ite (p := fun l => sx_iOk prog_14_method_117_code l) (sx_iB_s aJ_433_11) (sx_ite (p := fun l => sx_iOk prog_14_method_117_code l) (sx_iB_s aJ_433_12) (sx_iB_s aJ_433_13)))) (sx_ite (p := fun l => sx_iOk prog_14_method_117_code l) (sx_ite (p := fun l => sx_iOk prog_14_method_117_code l) (sx_iB_s aJ_433_14) (sx_iB_s aJ_433_15)) (sx_ite (p := fun l => sx_iOk prog_14_method_117_code l) (sx_iB_s aJ_433_16) (sx_ite (p := fun l => sx_iOk prog_14_method_117_code l) (sx_iB_s aJ_433_17) (sx_iB_s aJ_433_18))))))
def aW_433 : Nat → Option (Instr × Nat) := fun pc => sx_iF (aS_433 pc) pc
theorem aX_433 : ∀ pc i len, aW_433 pc = some (i, len) → decode aM_433.1.2.1 pc = .ok (i, len) := fun pc i len h => sx_iF_s (aT_433 pc) h
def aI_434_0 : sx_IL := [(0, .aload_n 0, 1), (1, .iload_n 1, 1), (2, .invokevirtual 894, 3), (5, .ifCond .eq 15, 3), (8, .iload_n 2, 1), (9, .i2l, 1)]
theorem aJ_434_0 : sx_iB prog_14_method_119_code aI_434_0 = true := by decide +kernel
def aI_434_1 : sx_IL := [(10, .lconst 0, 1), (11, .ldc2_w 629, 3), (14, .invokestatic 513, 3), (17, .ifCond .ne 5, 3), (20, .iconst (-1), 1), (21, .ireturn, 1)]
theorem aJ_434_1 : sx_iB prog_14_method_119_code aI_434_1 = true := by decide +kernel
def aI_434_2 : sx_IL := [(22, .iload_n 2, 1), (23, .ifCond .eq 36, 3), (26, .iload_n 2, 1), (27, .bipush 6, 2), (29, .if_icmp .eq 30, 3), (32, .iload_n 2, 1)]
theorem aJ_434_2 : sx_iB prog_14_method_119_code aI_434_2 = true := by decide +kernel
def aI_434_3 : sx_IL := [(33, .iconst 5, 1), (34, .if_icmp .ne 15, 3), (37, .aload_n 0, 1), (38, .getfield 93, 3), (41, .iload_n 1, 1), (42, .iaload, 1)]
theorem aJ_434_3 : sx_iB prog_14_method_119_code aI_434_3 = true := by decide +kernel
def aI_434_4 : sx_IL := [(43, .ifCond .ne 20, 3), (46, .goto 13, 3), (49, .aload_n 0, 1), (50, .getfield 93, 3), (53, .iload_n 1, 1), (54, .iaload, 1)]
theorem aJ_434_4 : sx_iB prog_14_method_119_code aI_434_4 = true := by decide +kernel
def aI_434_5 : sx_IL := [(55, .iconst 1, 1), (56, .if_icmp .ne 7, 3), (59, .iconst 1, 1), (60, .goto 4, 3), (63, .iconst 0, 1), (64, .istore 4, 2)]
theorem aJ_434_5 : sx_iB prog_14_method_119_code aI_434_5 = true := by decide +kernel
def aI_434_6 : sx_IL := [(66, .iload_n 2, 1), (67, .iconst 1, 1), (68, .if_icmp .ne 7, 3), (71, .iconst 2, 1), (72, .goto 46, 3), (75, .iload_n 2, 1)]
theorem aJ_434_6 : sx_iB prog_14_method_119_code aI_434_6 = true := by decide +kernel
def aI_434_7 : sx_IL := [(76, .iconst 2, 1), (77, .if_icmp .ne 7, 3), (80, .iconst 3, 1), (81, .goto 37, 3), (84, .iload_n 2, 1), (85, .iconst 3, 1)]
theorem aJ_434_7 : sx_iB prog_14_method_119_code aI_434_7 = true := by decide +kernel
def aI_434_8 : sx_IL := [(86, .if_icmp .ne 9, 3), (89, .sipush 10000, 3), (92, .goto 26, 3), (95, .iload_n 2, 1), (96, .iconst 4, 1), (97, .if_icmp .ne 9, 3)]
theorem aJ_434_8 : sx_iB prog_14_method_119_code aI_434_8 = true := by decide +kernel
def aI_434_9 : sx_IL := [(100, .sipush 400, 3), (103, .goto 15, 3), (106, .iload_n 2, 1), (107, .bipush 7, 2), (109, .if_icmp .ne 8, 3), (112, .bipush 100, 2)]
theorem aJ_434_9 : sx_iB prog_14_method_119_code aI_434_9 = true := by decide +kernel
def aI_434_10 : sx_IL := [(114, .goto 4, 3), (117, .iconst 1, 1), (118, .istore 5, 2), (120, .iload 4, 2), (122, .ifCond .eq 15, 3), (125, .iload_n 3, 1)]
theorem aJ_434_10 : sx_iB prog_14_method_119_code aI_434_10 = true := by decide +kernel
def aI_434_11 : sx_IL := [(126, .i2l, 1), (127, .lconst 0, 1), (128, .iload 5, 2), (130, .i2l, 1), (131, .invokestatic 513, 3), (134, .ifCond .ne 5, 3)]
theorem aJ_434_11 : sx_iB prog_14_method_119_code aI_434_11 = true := by decide +kernel
def aI_434_12 : sx_IL := [(137, .iconst (-1), 1), (138, .ireturn, 1), (139, .aload_n 0, 1), (140, .getfield 102, 3), (143, .bipush 8, 2), (145, .iload_n 1, 1)]
theorem aJ_434_12 : sx_iB prog_14_method_119_code aI_434_12 = true := by decide +kernel
def aI_434_13 : sx_IL := [(146, .imul, 1), (147, .iload_n 2, 1), (148, .iadd, 1), (149, .iaload, 1), (150, .istore 6, 2), (152, .aload_n 0, 1)]
theorem aJ_434_13 : sx_iB prog_14_method_119_code aI_434_13 = true := by decide +kernel
def aI_434_14 : sx_IL := [(153, .getfield 102, 3), (156, .bipush 8, 2), (158, .iload_n 1, 1), (159, .imul, 1), (160, .iload_n 2, 1), (161, .iadd, 1)]
theorem aJ_434_14 : sx_iB prog_14_method_119_code aI_434_14 = true := by decide +kernel
def aI_434_15 : sx_IL := [(162, .iload_n 3, 1), (163, .iastore, 1), (164, .iload 6, 2), (166, .ireturn, 1)]
theorem aJ_434_15 : sx_iB prog_14_method_119_code aI_434_15 = true := by decide +kernel
def aS_434 (pc : Nat) : sx_IL := (if pc < 86 then (if pc < 43 then (if pc < 22 then (if pc < 10 then aI_434_0 else aI_434_1) else (if pc < 33 then aI_434_2 else aI_434_3)) else (if pc < 66 then (if pc < 55 then aI_434_4 else aI_434_5) else (if pc < 76 then aI_434_6 else aI_434_7))) else (if pc < 137 then (if pc < 114 then (if pc < 100 then aI_434_8 else aI_434_9) else (if pc < 126 then aI_434_10 else aI_434_11)) else (if pc < 153 then (if pc < 146 then aI_434_12 else aI_434_13) else (if pc < 162 then aI_434_14 else aI_434_15))))
theorem aT_434 (pc : Nat) : sx_iOk prog_14_method_119_code (aS_434 pc) := (sx_ite (p := fun l => sx_iOk prog_14_method_119_code l) (sx_ite (p := fun l => sx_iOk prog_14_method_119_code l) (sx_ite (p := fun l => sx_iOk prog_14_method_119_code l) (sx_ite (p := fun l => sx_iOk prog_14_method_119_code l) (sx_iB_s aJ_434_0) (sx_iB_s aJ_434_1)) (sx_ite (p := fun l => sx_iOk prog_14_method_119_code l) (sx_iB_s aJ_434_2) (sx_iB_s aJ_434_3))) (sx_ite (p := fun l => sx_iOk prog_14_method_119_code l) (sx_ite (p := fun l => sx_iOk prog_14_method_119_code l) (sx_iB_s aJ_434_4) (sx_iB_s aJ_434_5)) (sx_ite (p := fun l => sx_iOk prog_14_method_119_code l) (sx_iB_s aJ_434_6) (sx_iB_s aJ_434_7)))) (sx_ite (p := fun l => sx_iOk prog_14_method_119_code l) (sx_ite (p := fun l => sx_iOk prog_14_method_119_code l) (sx_ite (p := fun l => sx_iOk prog_14_method_119_code l) (sx_iB_s aJ_434_8) (sx_iB_s aJ_434_9)) (sx_ite (p := fun l => sx_iOk prog_14_method_119_code l) (sx_iB_s aJ_434_10) (sx_iB_s aJ_434_11))) (sx_ite (p := fun l => sx_iOk prog_14_method_119_code l) (sx_ite (p := fun l => sx_iOk prog_14_method_119_code l) (sx_iB_s aJ_434_12) (sx_iB_s aJ_434_13)) (sx_ite (p := fun l => sx_iOk prog_14_method_119_code l) (sx_iB_s aJ_434_14) (sx_iB_s aJ_434_15)))))
def aW_434 : Nat → Option (Instr × Nat) := fun pc => sx_iF (aS_434 pc) pc
theorem aX_434 : ∀ pc i len, aW_434 pc = some (i, len) → decode aM_434.1.2.1 pc = .ok (i, len) := fun pc i len h => sx_iF_s (aT_434 pc) h
def aI_435_0 : sx_IL := [(0, .aload_n 0, 1), (1, .iload_n 1, 1), (2, .invokevirtual 894, 3), (5, .ifCond .ne 5, 3), (8, .iconst (-1), 1), (9, .ireturn, 1)]
theorem aJ_435_0 : sx_iB prog_14_method_120_code aI_435_0 = true := by decide +kernel
def aI_435_1 : sx_IL := [(10, .aload_n 0, 1), (11, .getfield 108, 3), (14, .iload_n 1, 1), (15, .iaload, 1), (16, .aload_n 0, 1), (17, .getfield 517, 3)]
theorem aJ_435_1 : sx_iB prog_14_method_120_code aI_435_1 = true := by decide +kernel
def aI_435_2 : sx_IL := [(20, .iadd, 1), (21, .sipush 200, 3), (24, .if_icmp .le 6, 3), (27, .bipush (-3), 2), (29, .ireturn, 1), (30, .iconst 0, 1)]
theorem aJ_435_2 : sx_iB prog_14_method_120_code aI_435_2 = true := by decide +kernel
def aI_435_3 : sx_IL := [(31, .istore_n 2, 1), (32, .iload_n 2, 1), (33, .aload_n 0, 1), (34, .getfield 517, 3), (37, .if_icmp .ge 34, 3), (40, .aload_n 0, 1)]
theorem aJ_435_3 : sx_iB prog_14_method_120_code aI_435_3 = true := by decide +kernel
def aI_435_4 : sx_IL := [(41, .getfield 105, 3), (44, .sipush 200, 3), (47, .iload_n 1, 1), (48, .imul, 1), (49, .aload_n 0, 1), (50, .getfield 108, 3)]
theorem aJ_435_4 : sx_iB prog_14_method_120_code aI_435_4 = true := by decide +kernel
def aI_435_5 : sx_IL := [(53, .iload_n 1, 1), (54, .iaload, 1), (55, .iadd, 1), (56, .iload_n 2, 1), (57, .iadd, 1), (58, .aload_n 0, 1)]
theorem aJ_435_5 : sx_iB prog_14_method_120_code aI_435_5 = true := by decide +kernel
def aI_435_6 : sx_IL := [(59, .getfield 7, 3), (62, .iload_n 2, 1), (63, .iaload, 1), (64, .iastore, 1), (65, .iinc 2 1, 3), (68, .goto (-36), 3)]
theorem aJ_435_6 : sx_iB prog_14_method_120_code aI_435_6 = true := by decide +kernel
def aI_435_7 : sx_IL := [(71, .aload_n 0, 1), (72, .getfield 108, 3), (75, .iload_n 1, 1), (76, .dup2, 1), (77, .iaload, 1), (78, .aload_n 0, 1)]
theorem aJ_435_7 : sx_iB prog_14_method_120_code aI_435_7 = true := by decide +kernel
def aI_435_8 : sx_IL := [(79, .getfield 517, 3), (82, .iadd, 1), (83, .iastore, 1), (84, .aload_n 0, 1), (85, .iconst 0, 1), (86, .putfield 517, 3)]
theorem aJ_435_8 : sx_iB prog_14_method_120_code aI_435_8 = true := by decide +kernel
def aI_435_9 : sx_IL := [(89, .aload_n 0, 1), (90, .getfield 108, 3), (93, .iload_n 1, 1), (94, .iaload, 1), (95, .ireturn, 1)]
theorem aJ_435_9 : sx_iB prog_14_method_120_code aI_435_9 = true := by decide +kernel
def aS_435 (pc : Nat) : sx_IL := (if pc < 53 then (if pc < 20 then (if pc < 10 then aI_435_0 else aI_435_1) else (if pc < 31 then aI_435_2 else (if pc < 41 then aI_435_3 else aI_435_4))) else (if pc < 71 then (if pc < 59 then aI_435_5 else aI_435_6) else (if pc < 79 then aI_435_7 else (if pc < 89 then aI_435_8 else aI_435_9))))
theorem aT_435 (pc : Nat) : sx_iOk prog_14_method_120_code (aS_435 pc) := (sx_ite (p := fun l => sx_iOk prog_14_method_120_code l) (sx_ite (p := fun l => sx_iOk prog_14_method_120_code l) (sx_ite (p := fun l => sx_iOk prog_14_method_120_code l) (sx_iB_s aJ_435_0) (sx_iB_s aJ_435_1)) (sx_ite (p := fun l => sx_iOk prog_14_method_120_code l) (sx_iB_s aJ_435_2) (sx_ite (p := fun l => sx_iOk prog_14_method_120_code l) (sx_iB_s aJ_435_3) (sx_iB_s aJ_435_4)))) (sx_ite (p := fun l => sx_iOk prog_14_method_120_code l) (sx_ite (p := fun l => sx_iOk prog_14_method_120_code l) (sx_iB_s aJ_435_5) (sx_iB_s aJ_435_6)) (sx_ite (p := fun l => sx_iOk prog_14_method_120_code l) (sx_iB_s aJ_435_7) (sx_ite (p := fun l => sx_iOk prog_14_method_120_code l) (sx_iB_s aJ_435_8) (sx_iB_s aJ_435_9)))))
def aW_435 : Nat → Option (Instr × Nat) := fun pc => sx_iF (aS_435 pc) pc
theorem aX_435 : ∀ pc i len, aW_435 pc = some (i, len) → decode aM_435.1.2.1 pc = .ok (i, len) := fun pc i len h => sx_iF_s (aT_435 pc) h
def aI_436_0 : sx_IL := [(0, .aload_n 0, 1), (1, .iload_n 1, 1), (2, .invokevirtual 894, 3), (5, .ifCond .eq 11, 3), (8, .aload_n 0, 1), (9, .iload_n 2, 1)]
theorem aJ_436_0 : sx_iB prog_14_method_124_code aI_436_0 = true := by decide +kernel
def aI_436_1 : sx_IL := [(10, .invokevirtual 840, 3), (13, .ifCond .ne 5, 3), (16, .iconst (-1), 1), (17, .ireturn, 1), (18, .aload_n 0, 1), (19, .iload_n 1, 1)]
theorem aJ_436_1 : sx_iB prog_14_method_124_code aI_436_1 = true := by decide +kernel
def aI_436_2 : sx_IL := [(20, .iload_n 2, 1), (21, .invokevirtual 901, 3), (24, .ifCond .ne 30, 3), (27, .aload_n 0, 1), (28, .getfield 111, 3), (31, .bipush 30, 2)]
theorem aJ_436_2 : sx_iB prog_14_method_124_code aI_436_2 = true := by decide +kernel
def aI_436_3 : sx_IL := [(33, .iload_n 1, 1), (34, .imul, 1), (35, .aload_n 0, 1), (36, .getfield 114, 3), (39, .iload_n 1, 1), (40, .iaload, 1)]
theorem aJ_436_3 : sx_iB prog_14_method_124_code aI_436_3 = true := by decide +kernel
def aI_436_4 : sx_IL := [(41, .iadd, 1), (42, .iload_n 2, 1), (43, .iastore, 1), (44, .aload_n 0, 1), (45, .getfield 114, 3), (48, .iload_n 1, 1)]
theorem aJ_436_4 : sx_iB prog_14_method_124_code aI_436_4 = true := by decide +kernel
def aI_436_5 : sx_IL := [(49, .dup2, 1), (50, .iaload, 1), (51, .iconst 1, 1), (52, .iadd, 1), (53, .iastore, 1), (54, .aload_n 0, 1)]
theorem aJ_436_5 : sx_iB prog_14_method_124_code aI_436_5 = true := by decide +kernel
def aI_436_6 : sx_IL := [(55, .getfield 114, 3), (58, .iload_n 1, 1), (59, .iaload, 1), (60, .ireturn, 1)]
theorem aJ_436_6 : sx_iB prog_14_method_124_code aI_436_6 = true := by decide +kernel
def aS_436 (pc : Nat) : sx_IL := (if pc < 33 then (if pc < 10 then aI_436_0 else (if pc < 20 then aI_436_1 else aI_436_2)) else (if pc < 49 then (if pc < 41 then aI_436_3 else aI_436_4) else (if pc < 55 then aI_436_5 else aI_436_6)))
theorem aT_436 (pc : Nat) : sx_iOk prog_14_method_124_code (aS_436 pc) := (sx_ite (p := fun l => sx_iOk prog_14_method_124_code l) (sx_ite (p := fun l => sx_iOk prog_14_method_124_code l) (sx_iB_s aJ_436_0) (sx_ite (p := fun l => sx_iOk prog_14_method_124_code l) (sx_iB_s aJ_436_1) (sx_iB_s aJ_436_2))) (sx_ite (p := fun l => sx_iOk prog_14_method_124_code l) (sx_ite (p := fun l => sx_iOk prog_14_method_124_code l) (sx_iB_s aJ_436_3) (sx_iB_s aJ_436_4)) (sx_ite (p := fun l => sx_iOk prog_14_method_124_code l) (sx_iB_s aJ_436_5) (sx_iB_s aJ_436_6))))
def aW_436 : Nat → Option (Instr × Nat) := fun pc => sx_iF (aS_436 pc) pc
theorem aX_436 : ∀ pc i len, aW_436 pc = some (i, len) → decode aM_436.1.2.1 pc = .ok (i, len) := fun pc i len h => sx_iF_s (aT_436 pc) h
def aI_437_0 : sx_IL := [(0, .aload_n 0, 1), (1, .iload_n 1, 1), (2, .invokevirtual 894, 3), (5, .ifCond .eq 10, 3), (8, .iload_n 2, 1), (9, .invokestatic 652, 3)]
theorem aJ_437_0 : sx_iB prog_14_method_125_code aI_437_0 = true := by decide +kernel
def aI_437_1 : sx_IL := [(12, .ifCond .ne 5, 3), (15, .iconst (-1), 1), (16, .ireturn, 1), (17, .aload_n 0, 1), (18, .getfield 891, 3), (21, .i2l, 1)]
theorem aJ_437_1 : sx_iB prog_14_method_125_code aI_437_1 = true := by decide +kernel
def aI_437_2 : sx_IL := [(22, .lconst 1, 1), (23, .ldc2_w 649, 3), (26, .invokestatic 513, 3), (29, .ifCond .eq 26, 3), (32, .iload_n 2, 1), (33, .invokestatic 656, 3)]
theorem aJ_437_2 : sx_iB prog_14_method_125_code aI_437_2 = true := by decide +kernel
def aI_437_3 : sx_IL := [(36, .aload_n 0, 1), (37, .getfield 45, 3), (40, .bipush 8, 2), (42, .aload_n 0, 1), (43, .getfield 90, 3), (46, .iconst 0, 1)]
theorem aJ_437_3 : sx_iB prog_14_method_125_code aI_437_3 = true := by decide +kernel
def aI_437_4 : sx_IL := [(47, .iaload, 1), (48, .imul, 1), (49, .iconst 4, 1), (50, .iadd, 1), (51, .iaload, 1), (52, .if_icmp .eq 6, 3)]
theorem aJ_437_4 : sx_iB prog_14_method_125_code aI_437_4 = true := by decide +kernel
def aI_437_5 : sx_IL := [(55, .bipush (-2), 2), (57, .ireturn, 1), (58, .aload_n 0, 1), (59, .getfield 120, 3), (62, .iload_n 1, 1), (63, .aload_n 0, 1)]
theorem aJ_437_5 : sx_iB prog_14_method_125_code aI_437_5 = true := by decide +kernel
def aI_437_6 : sx_IL := [(64, .getfield 891, 3), (67, .iastore, 1), (68, .iconst 0, 1), (69, .istore_n 3, 1), (70, .iload_n 3, 1), (71, .aload_n 0, 1)]
theorem aJ_437_6 : sx_iB prog_14_method_125_code aI_437_6 = true := by decide +kernel
def aI_437_7 : sx_IL := [(72, .getfield 891, 3), (75, .if_icmp .ge 25, 3), (78, .aload_n 0, 1), (79, .getfield 117, 3), (82, .iconst 4, 1), (83, .iload_n 1, 1)]
theorem aJ_437_7 : sx_iB prog_14_method_125_code aI_437_7 = true := by decide +kernel
def aI_437_8 : sx_IL := [(84, .imul, 1), (85, .iload_n 3, 1), (86, .iadd, 1), (87, .aload_n 0, 1), (88, .getfield 90, 3), (91, .iload_n 3, 1)]
theorem aJ_437_8 : sx_iB prog_14_method_125_code aI_437_8 = true := by decide +kernel
def aI_437_9 : sx_IL := [(92, .iaload, 1), (93, .iastore, 1), (94, .iinc 3 1, 3), (97, .goto (-27), 3), (100, .aload_n 0, 1), (101, .getfield 123, 3)]
theorem aJ_437_9 : sx_iB prog_14_method_125_code aI_437_9 = true := by decide +kernel
def aI_437_10 : sx_IL := [(104, .iload_n 1, 1), (105, .iload_n 2, 1), (106, .iastore, 1), (107, .aload_n 0, 1), (108, .iconst 0, 1), (109, .putfield 891, 3)]
theorem aJ_437_10 : sx_iB prog_14_method_125_code aI_437_10 = true := by decide +kernel
def aI_437_11 : sx_IL := [(112, .aload_n 0, 1), (113, .getfield 120, 3), (116, .iload_n 1, 1), (117, .iaload, 1), (118, .ireturn, 1)]
theorem aJ_437_11 : sx_iB prog_14_method_125_code aI_437_11 = true := by decide +kernel
def aS_437 (pc : Nat) : sx_IL := (if pc < 64 then (if pc < 36 then (if pc < 12 then aI_437_0 else (if pc < 22 then aI_437_1 else aI_437_2)) else (if pc < 47 then aI_437_3 else (if pc < 55 then aI_437_4 else aI_437_5))) else (if pc < 92 then (if pc < 72 then aI_437_6 else (if pc < 84 then aI_437_7 else aI_437_8)) else (if pc < 104 then aI_437_9 else (if pc < 112 then aI_437_10 else aI_437_11))))
theorem aT_437 (pc : Nat) : sx_iOk prog_14_method_125_code (aS_437 pc) := (sx_ite (p := fun l => sx_iOk prog_14_method_125_code l) (sx_ite (p := fun l => sx_iOk prog_14_method_125_code l) (sx_ite (p := fun l => sx_iOk prog_14_method_125_code l) (sx_iB_s aJ_437_0) (sx_ite (p := fun l => sx_iOk prog_14_method_125_code l) (sx_iB_s aJ_437_1) (sx_iB_s aJ_437_2))) (sx_ite (p := fun l => sx_iOk prog_14_method_125_code l) (sx_iB_s aJ_437_3) (sx_ite (p := fun l => sx_iOk prog_14_method_125_code l) (sx_iB_s aJ_437_4) (sx_iB_s aJ_437_5)))) (sx_ite (p := fun l => sx_iOk prog_14_method_125_code l) (sx_ite (p := fun l => sx_iOk prog_14_method_125_code l) (sx_iB_s aJ_437_6) (sx_ite (p := fun l => sx_iOk prog_14_method_125_code l) (sx_iB_s aJ_437_7) (sx_iB_s aJ_437_8))) (sx_ite (p := fun l => sx_iOk prog_14_method_125_code l) (sx_iB_s aJ_437_9) (sx_ite (p := fun l => sx_iOk prog_14_method_125_code l) (sx_iB_s aJ_437_10) (sx_iB_s aJ_437_11)))))
def aW_437 : Nat → Option (Instr × Nat) := fun pc => sx_iF (aS_437 pc) pc
theorem aX_437 : ∀ pc i len, aW_437 pc = some (i, len) → decode aM_437.1.2.1 pc = .ok (i, len) := fun pc i len h => sx_iF_s (aT_437 pc) h
def aI_438_0 : sx_IL := [(0, .aload_n 0, 1), (1, .iload_n 1, 1), (2, .invokevirtual 894, 3), (5, .ifCond .eq 12, 3), (8, .aload_n 0, 1), (9, .getfield 93, 3)]
theorem aJ_438_0 : sx_iB prog_14_method_126_code aI_438_0 = true := by decide +kernel
def aI_438_1 : sx_IL := [(12, .iload_n 1, 1), (13, .iaload, 1), (14, .ifCond .eq 5, 3), (17, .iconst (-1), 1), (18, .ireturn, 1), (19, .aload_n 0, 1)]
theorem aJ_438_1 : sx_iB prog_14_method_126_code aI_438_1 = true := by decide +kernel
def aI_438_2 : sx_IL := [(20, .getfield 7, 3), (23, .iconst 0, 1), (24, .aload_n 0, 1), (25, .getfield 517, 3), (28, .invokestatic 724, 3), (31, .bipush (-4), 2)]
theorem aJ_438_2 : sx_iB prog_14_method_126_code aI_438_2 = true := by decide +kernel
def aI_438_3 : sx_IL := [(33, .if_icmp .eq 6, 3), (36, .bipush (-2), 2), (38, .ireturn, 1), (39, .aload_n 0, 1), (40, .getfield 129, 3), (43, .iload_n 1, 1)]
theorem aJ_438_3 : sx_iB prog_14_method_126_code aI_438_3 = true := by decide +kernel
def aI_438_4 : sx_IL := [(44, .aload_n 0, 1), (45, .getfield 517, 3), (48, .iastore, 1), (49, .iconst 0, 1), (50, .istore_n 2, 1), (51, .iload_n 2, 1)]
theorem aJ_438_4 : sx_iB prog_14_method_126_code aI_438_4 = true := by decide +kernel
def aI_438_5 : sx_IL := [(52, .aload_n 0, 1), (53, .getfield 517, 3), (56, .if_icmp .ge 26, 3), (59, .aload_n 0, 1), (60, .getfield 126, 3), (63, .bipush 40, 2)]
theorem aJ_438_5 : sx_iB prog_14_method_126_code aI_438_5 = true := by decide +kernel
def aI_438_6 : sx_IL := [(65, .iload_n 1, 1), (66, .imul, 1), (67, .iload_n 2, 1), (68, .iadd, 1), (69, .aload_n 0, 1), (70, .getfield 7, 3)]
theorem aJ_438_6 : sx_iB prog_14_method_126_code aI_438_6 = true := by decide +kernel
def aI_438_7 : sx_IL := [(73, .iload_n 2, 1), (74, .iaload, 1), (75, .iastore, 1), (76, .iinc 2 1, 3), (79, .goto (-28), 3), (82, .aload_n 0, 1)]
theorem aJ_438_7 : sx_iB prog_14_method_126_code aI_438_7 = true := by decide +kernel
def aI_438_8 : sx_IL := [(83, .iconst 0, 1), (84, .putfield 517, 3), (87, .iconst 1, 1), (88, .ireturn, 1)]
theorem aJ_438_8 : sx_iB prog_14_method_126_code aI_438_8 = true := by decide +kernel
def aS_438 (pc : Nat) : sx_IL := (if pc < 44 then (if pc < 20 then (if pc < 12 then aI_438_0 else aI_438_1) else (if pc < 33 then aI_438_2 else aI_438_3)) else (if pc < 65 then (if pc < 52 then aI_438_4 else aI_438_5) else (if pc < 73 then aI_438_6 else (if pc < 83 then aI_438_7 else aI_438_8))))
theorem aT_438 (pc : Nat) : sx_iOk prog_14_method_126_code (aS_438 pc) := (sx_ite (p := fun l => sx_iOk prog_14_method_126_code l) (sx_ite (p := fun l => sx_iOk prog_14_method_126_code l) (sx_ite (p := fun l => sx_iOk prog_14_method_126_code l) (sx_iB_s aJ_438_0) (sx_iB_s aJ_438_1)) (sx_ite (p := fun l => sx_iOk prog_14_method_126_code l) (sx_iB_s aJ_438_2) (sx_iB_s aJ_438_3))) (sx_ite (p := fun l => sx_iOk prog_14_method_126_code l) (sx_ite (p := fun l => sx_iOk prog_14_method_126_code l) (sx_iB_s aJ_438_4) (sx_iB_s aJ_438_5)) (sx_ite (p := fun l => sx_iOk prog_14_method_126_code l) (sx_iB_s aJ_438_6) (sx_ite (p := fun l => sx_iOk prog_14_method_126_code l) (sx_iB_s aJ_438_7) (sx_iB_s aJ_438_8)))))
def aW_438 : Nat → Option (Instr × Nat) := fun pc => sx_iF (aS_438 pc) pc
theorem aX_438 : ∀ pc i len, aW_438 pc = some (i, len) → decode aM_438.1.2.1 pc = .ok (i, len) := fun pc i len h => sx_iF_s (aT_438 pc) h
def aI_439_0 : sx_IL := [(0, .aload_n 0, 1), (1, .iload_n 1, 1), (2, .invokevirtual 894, 3), (5, .ifCond .eq 13, 3), (8, .iload_n 2, 1), (9, .i2l, 1)]
theorem aJ_439_0 : sx_iB prog_14_method_127_code aI_439_0 = true := by decide +kernel
def aI_439_1 : sx_IL := [(10, .lconst 0, 1), (11, .lconst 1, 1), (12, .invokestatic 513, 3), (15, .ifCond .ne 5, 3), (18, .iconst (-1), 1), (19, .ireturn, 1)]
theorem aJ_439_1 : sx_iB prog_14_method_127_code aI_439_1 = true := by decide +kernel
def aI_439_2 : sx_IL := [(20, .aload_n 0, 1), (21, .getfield 517, 3), (24, .i2l, 1), (25, .lconst 1, 1), (26, .ldc2_w 923, 3), (29, .invokestatic 513, 3)]
theorem aJ_439_2 : sx_iB prog_14_method_127_code aI_439_2 = true := by decide +kernel
def aI_439_3 : sx_IL := [(32, .ifCond .ne 6, 3), (35, .bipush (-2), 2), (37, .ireturn, 1), (38, .aload_n 0, 1), (39, .getfield 132, 3), (42, .iload_n 1, 1)]
theorem aJ_439_3 : sx_iB prog_14_method_127_code aI_439_3 = true := by decide +kernel
def aI_439_4 : sx_IL := [(43, .iaload, 1), (44, .bipush 6, 2), (46, .if_icmp .ne 6, 3), (49, .bipush (-3), 2), (51, .ireturn, 1), (52, .bipush 6, 2)]
theorem aJ_439_4 : sx_iB prog_14_method_127_code aI_439_4 = true := by decide +kernel
def aI_439_5 : sx_IL := [(54, .iload_n 1, 1), (55, .imul, 1), (56, .aload_n 0, 1), (57, .getfield 132, 3), (60, .iload_n 1, 1), (61, .iaload, 1)]
theorem aJ_439_5 : sx_iB prog_14_method_127_code aI_439_5 = true := by decide +kernel
def aI_439_6 : sx_IL := [(62, .iadd, 1), (63, .istore 5, 2), (65, .aload_n 0, 1), (66, .getfield 138, 3), (69, .iload 5, 2), (71, .aload_n 0, 1)]
theorem aJ_439_6 : sx_iB prog_14_method_127_code aI_439_6 = true := by decide +kernel
def aI_439_7 : sx_IL := [(72, .getfield 517, 3), (75, .iastore, 1), (76, .iconst 0, 1), (77, .istore 6, 2), (79, .iload 6, 2), (81, .aload_n 0, 1)]
theorem aJ_439_7 : sx_iB prog_14_method_127_code aI_439_7 = true := by decide +kernel
def aI_439_8 : sx_IL := [(82, .getfield 517, 3), (85, .if_icmp .ge 29, 3), (88, .aload_n 0, 1), (89, .getfield 135, 3), (92, .bipush 16, 2), (94, .iload 5, 2)]
theorem aJ_439_8 : sx_iB prog_14_method_127_code aI_439_8 = true := by decide +kernel
def aI_439_9 : sx_IL := [(96, .imul, 1), (97, .iload 6, 2), (99, .iadd, 1), (100, .aload_n 0, 1), (101, .getfield 7, 3), (104, .iload 6, 2)]
theorem aJ_439_9 : sx_iB prog_14_method_127_code aI_439_9 = true := by decide +kernel
def aI_439_10 : sx_IL := [(106, .iaload, 1), (107, .iastore, 1), (108, .iinc 6 1, 3), (111, .goto (-32), 3), (114, .aload_n 0, 1), (115, .iconst 0, 1)]
theorem aJ_439_10 : sx_iB prog_14_method_127_code aI_439_10 = true := by decide +kernel
def aI_439_11 : sx_IL := [(116, .putfield 517, 3), (119, .aload_n 0, 1), (120, .getfield 141, 3), (123, .iload 5, 2), (125, .lload_n 3, 1), (126, .lastore, 1)]
theorem aJ_439_11 : sx_iB prog_14_method_127_code aI_439_11 = true := by decide +kernel
def aI_439_12 : sx_IL := [(127, .aload_n 0, 1), (128, .getfield 144, 3), (131, .iload 5, 2), (133, .iload_n 2, 1), (134, .iastore, 1), (135, .aload_n 0, 1)]
theorem aJ_439_12 : sx_iB prog_14_method_127_code aI_439_12 = true := by decide +kernel
def aI_439_13 : sx_IL := [(136, .getfield 147, 3), (139, .iload 5, 2), (141, .iconst 0, 1), (142, .bastore, 1), (143, .iconst 0, 1), (144, .istore 6, 2)]
theorem aJ_439_13 : sx_iB prog_14_method_127_code aI_439_13 = true := by decide +kernel
def aI_439_14 : sx_IL := [(146, .iload 6, 2), (148, .iconst 5, 1), (149, .if_icmp .ge 22, 3), (152, .aload_n 0, 1), (153, .getfield 150, 3), (156, .iconst 5, 1)]
theorem aJ_439_14 : sx_iB prog_14_method_127_code aI_439_14 = true := by decide +kernel
def aI_439_15 : sx_IL := [(157, .iload 5, 2), (159, .imul, 1), (160, .iload 6, 2), (162, .iadd, 1), (163, .iconst 0, 1), (164, .iastore, 1)]
theorem aJ_439_15 : sx_iB prog_14_method_127_code aI_439_15 = true := by decide +kernel
def aI_439_16 : sx_IL := [(165, .iinc 6 1, 3), (168, .goto (-22), 3), (171, .aload_n 0, 1), (172, .getfield 132, 3), (175, .iload_n 1, 1), (176, .dup2, 1)]
theorem aJ_439_16 : sx_iB prog_14_method_127_code aI_439_16 = true := by decide +kernel
def aI_439_17 : sx_IL := [(177, .iaload, 1), (178, .iconst 1, 1), (179, .iadd, 1), (180, .iastore, 1), (181, .aload_n 0, 1), (182, .getfield 132, 3)]
theorem aJ_439_17 : sx_iB prog_14_method_127_code aI_439_17 = true := by decide +kernel
def aI_439_18 : sx_IL := [(185, .iload_n 1, 1), (186, .iaload, 1), (187, .ireturn, 1)]
theorem aJ_439_18 : sx_iB prog_14_method_127_code aI_439_18 = true := by decide +kernel
def aS_439 (pc : Nat) : sx_IL := (if pc < 96 then (if pc < 43 then (if pc < 20 then (if pc < 10 then aI_439_0 else aI_439_1) else (if pc < 32 then aI_439_2 else aI_439_3)) else (if pc < 62 then (if pc < 54 then aI_439_4 else aI_439_5) else (if pc < 72 then aI_439_6 else (if pc < 82 then aI_439_7 else aI_439_8)))) else (if pc < 146 then (if pc < 116 then (if pc < 106 then aI_439_9 else aI_439_10) else (if pc < 127 then aI_439_11 else (if pc < 136 then aI_439_12 else aI_439_13))) else (if pc < 165 then (if pc < 157 then aI_439_14 else aI_439_15) else (if pc < 177 then aI_439_16 else (if pc < 185 then aI_439_17 else aI_439_18)))))
theorem aT_439 (pc : Nat) : sx_iOk prog_14_method_127_code (aS_439 pc) := (sx_ite (p := fun l => sx_iOk prog_14_method_127_code l) (sx_ite (p := fun l => sx_iOk prog_14_method_127_code l) (sx_ite (p := fun l => sx_iOk prog_14_method_127_code l) (sx_ite (p := fun l => sx_iOk prog_14_method_127_code l) (sx_iB_s aJ_439_0) (sx_iB_s aJ_439_1)) (sx_ite (p := fun l => sx_iOk prog_14_method_127_code l) (sx_iB_s aJ_439_2) (sx_iB_s aJ_439_3))) (sx_ite (p := fun l => sx_iOk prog_14_method_127_code l) (sx_ite (p := fun l => sx_iOk prog_14_method_127_code l) (sx_iB_s aJ_439_4) (sx_iB_s aJ_439_5)) (sx_ite (p := fun l => sx_iOk prog_14_method_127_code l) (sx_iB_s aJ_439_6) (sx_ite (p := fun l => sx_iOk prog_14_method_127_code l) (sx_iB_s aJ_439_7) (sx_iB_s aJ_439_8))))) (sx_ite (p := fun l => sx_iOk prog_14_method_127_code l) (sx_ite (p := fun l => sx_iOk prog_14_method_127_code l) (sx_ite (p := fun l => sx_iOk prog_14_method_127_code l) (sx_iB_s aJ_439_9) (sx_iB_s aJ_439_10)) (sx_ite (p := fun l => sx_iOk prog_14_method_127_code l) (sx_iB_s aJ_439_11) (sx_ite (p := fun l => sx_iOk prog_14_method_127_code l) (sx_iB_s aJ_439_12) (sx_iB_s aJ_439_13)))) (sx_ite (p := fun l => sx_iOk prog_14_method_127_code l) (sx_ite (p := fun l => sx_iOk prog_14_method_127_code l) (sx_iB_s aJ_439_14) (sx_iB_s aJ_439_15)) (sx_ite (p := fun l => sx_iOk prog_14_method_127_code l) (sx_iB_s aJ_439_16) (sx_ite (p := fun l => sx_iOk prog_14_method_127_code l) (sx_iB_s aJ_439_17) (sx_iB_s aJ_439_18))))))
def aW_439 : Nat → Option (Instr × Nat) := fun pc => sx_iF (aS_439 pc) pc
theorem aX_439 : ∀ pc i len, aW_439 pc = some (i, len) → decode aM_439.1.2.1 pc = .ok (i, len) := fun pc i len h => sx_iF_s (aT_439 pc) h
def aI_440_0 : sx_IL := [(0, .aload_n 0, 1), (1, .iload_n 1, 1), (2, .invokevirtual 894, 3), (5, .ifCond .eq 21, 3), (8, .iload_n 2, 1), (9, .i2l, 1)]
theorem aJ_440_0 : sx_iB prog_14_method_128_code aI_440_0 = true := by decide +kernel
def aI_440_1 : sx_IL := [(10, .lconst 0, 1), (11, .aload_n 0, 1), (12, .getfield 132, 3), (15, .iload_n 1, 1), (16, .iaload, 1), (17, .iconst 1, 1)]
theorem aJ_440_1 : sx_iB prog_14_method_128_code aI_440_1 = true := by decide +kernel
def aI_440_2 : sx_IL := [(18, .isub, 1), (19, .i2l, 1), (20, .invokestatic 513, 3), (23, .ifCond .ne 5, 3), (26, .iconst (-1), 1), (27, .ireturn, 1)]
theorem aJ_440_2 : sx_iB prog_14_method_128_code aI_440_2 = true := by decide +kernel
def aI_440_3 : sx_IL := [(28, .aload_n 0, 1), (29, .getfield 132, 3), (32, .iload_n 1, 1), (33, .dup2, 1), (34, .iaload, 1), (35, .iconst 1, 1)]
theorem aJ_440_3 : sx_iB prog_14_method_128_code aI_440_3 = true := by decide +kernel
def aI_440_4 : sx_IL := [(36, .isub, 1), (37, .iastore, 1), (38, .bipush 6, 2), (40, .iload_n 1, 1), (41, .imul, 1), (42, .iload_n 2, 1)]
theorem aJ_440_4 : sx_iB prog_14_method_128_code aI_440_4 = true := by decide +kernel
def aI_440_5 : sx_IL := [(43, .iadd, 1), (44, .istore_n 3, 1), (45, .iload_n 3, 1), (46, .bipush 6, 2), (48, .iload_n 1, 1), (49, .imul, 1)]
theorem aJ_440_5 : sx_iB prog_14_method_128_code aI_440_5 = true := by decide +kernel
def aI_440_6 : sx_IL := [(50, .aload_n 0, 1), (51, .getfield 132, 3), (54, .iload_n 1, 1), (55, .iaload, 1), (56, .iadd, 1), (57, .if_icmp .ge 147, 3)]
theorem aJ_440_6 : sx_iB prog_14_method_128_code aI_440_6 = true := by decide +kernel
def aI_440_7 : sx_IL := [(60, .aload_n 0, 1), (61, .getfield 138, 3), (64, .iload_n 3, 1), (65, .aload_n 0, 1), (66, .getfield 138, 3), (69, .iload_n 3, 1)]
theorem aJ_440_7 : sx_iB prog_14_method_128_code aI_440_7 = true := by decide +kernel
def aI_440_8 : sx_IL := [(70, .iconst 1, 1), (71, .iadd, 1), (72, .iaload, 1), (73, .iastore, 1), (74, .aload_n 0, 1), (75, .getfield 141, 3)]
theorem aJ_440_8 : sx_iB prog_14_method_128_code aI_440_8 = true := by decide +kernel
def aI_440_9 : sx_IL := [(78, .iload_n 3, 1), (79, .aload_n 0, 1), (80, .getfield 141, 3), (83, .iload_n 3, 1), (84, .iconst 1, 1), (85, .iadd, 1)]
theorem aJ_440_9 : sx_iB prog_14_method_128_code aI_440_9 = true := by decide +kernel
def aI_440_10 : sx_IL := [(86, .laload, 1), (87, .lastore, 1), (88, .aload_n 0, 1), (89, .getfield 144, 3), (92, .iload_n 3, 1), (93, .aload_n 0, 1)]
theorem aJ_440_10 : sx_iB prog_14_method_128_code aI_440_10 = true := by decide +kernel
def aI_440_11 : sx_IL := [(94, .getfield 144, 3), (97, .iload_n 3, 1), (98, .iconst 1, 1), (99, .iadd, 1), (100, .iaload, 1), (101, .iastore, 1)]
theorem aJ_440_11 : sx_iB prog_14_method_128_code aI_440_11 = true := by decide +kernel
def aI_440_12 : sx_IL := [(102, .aload_n 0, 1), (103, .getfield 147, 3), (106, .iload_n 3, 1), (107, .aload_n 0, 1), (108, .getfield 147, 3), (111, .iload_n 3, 1)]
theorem aJ_440_12 : sx_iB prog_14_method_128_code aI_440_12 = true := by decide +kernel
def aI_440_13 : sx_IL := [(112, .iconst 1, 1), (113, .iadd, 1), (114, .baload, 1), (115, .bastore, 1), (116, .iconst 0, 1), (117, .istore 4, 2)]
theorem aJ_440_13 : sx_iB prog_14_method_128_code aI_440_13 = true := by decide +kernel
def aI_440_14 : sx_IL := [(119, .iload 4, 2), (121, .bipush 16, 2), (123, .if_icmp .ge 36, 3), (126, .aload_n 0, 1), (127, .getfield 135, 3), (130, .bipush 16, 2)]
theorem aJ_440_14 : sx_iB prog_14_method_128_code aI_440_14 = true := by decide +kernel
def aI_440_15 : sx_IL := [(132, .iload_n 3, 1), (133, .imul, 1), (134, .iload 4, 2), (136, .iadd, 1), (137, .aload_n 0, 1), (138, .getfield 135, 3)]
theorem aJ_440_15 : sx_iB prog_14_method_128_code aI_440_15 = true := by decide +kernel
def aI_440_16 : sx_IL := [(141, .bipush 16, 2), (143, .iload_n 3, 1), (144, .imul, 1), (145, .bipush 16, 2), (147, .iadd, 1), (148, .iload 4, 2)]
theorem aJ_440_16 : sx_iB prog_14_method_128_code aI_440_16 = true := by decide +kernel
def aI_440_17 : sx_IL := [(150, .iadd, 1), (151, .iaload, 1), (152, .iastore, 1), (153, .iinc 4 1, 3), (156, .goto (-37), 3), (159, .iconst 0, 1)]
theorem aJ_440_17 : sx_iB prog_14_method_128_code aI_440_17 = true := by decide +kernel
def aI_440_18 : sx_IL := [(160, .istore 4, 2), (162, .iload 4, 2), (164, .iconst 5, 1), (165, .if_icmp .ge 33, 3), (168, .aload_n 0, 1), (169, .getfield 150, 3)]
theorem aJ_440_18 : sx_iB prog_14_method_128_code aI_440_18 = true := by decide +kernel
def aI_440_19 : sx_IL := [(172, .iconst 5, 1), (173, .iload_n 3, 1), (174, .imul, 1), (175, .iload 4, 2), (177, .iadd, 1), (178, .aload_n 0, 1)]
theorem aJ_440_19 : sx_iB prog_14_method_128_code aI_440_19 = true := by decide +kernel
def aI_440_20 : sx_IL := [(179, .getfield 150, 3), (182, .iconst 5, 1), (183, .iload_n 3, 1), (184, .imul, 1), (185, .iconst 5, 1), (186, .iadd, 1)]
theorem aJ_440_20 : sx_iB prog_14_method_128_code aI_440_20 = true := by decide +kernel
def aI_440_21 : sx_IL := [(187, .iload 4, 2), (189, .iadd, 1), (190, .iaload, 1), (191, .iastore, 1), (192, .iinc 4 1, 3), (195, .goto (-33), 3)]
theorem aJ_440_21 : sx_iB prog_14_method_128_code aI_440_21 = true := by decide +kernel
def aI_440_22 : sx_IL := [(198, .iinc 3 1, 3), (201, .goto (-156), 3), (204, .aload_n 0, 1), (205, .getfield 132, 3), (208, .iload_n 1, 1), (209, .iaload, 1)]
theorem aJ_440_22 : sx_iB prog_14_method_128_code aI_440_22 = true := by decide +kernel
def aI_440_23 : sx_IL := [(210, .ireturn, 1)]
theorem aJ_440_23 : sx_iB prog_14_method_128_code aI_440_23 = true := by decide +kernel
def aS_440 (pc : Nat) : sx_IL := (if pc < 102 then (if pc < 50 then (if pc < 28 then (if pc < 10 then aI_440_0 else (if pc < 18 then aI_440_1 else aI_440_2)) else (if pc < 36 then aI_440_3 else (if pc < 43 then aI_440_4 else aI_440_5))) else (if pc < 78 then (if pc < 60 then aI_440_6 else (if pc < 70 then aI_440_7 else aI_440_8)) else (if pc < 86 then aI_440_9 else (if pc < 94 then aI_440_10 else aI_440_11)))) else (if pc < 160 then (if pc < 132 then (if pc < 112 then aI_440_12 else (if pc < 119 then aI_440_13 else aI_440_14)) else (if pc < 141 then aI_440_15 else (if pc < 150 then aI_440_16 else aI_440_17))) else (if pc < 187 then (if pc < 172 then aI_440_18 else (if pc < 179 then aI_440_19 else aI_440_20)) else (if pc < 198 then aI_440_21 else (if pc < 210 then aI_440_22 else aI_440_23)))))
theorem aT_440 (pc : Nat) : sx_iOk prog_14_method_128_code (aS_440 pc) := (sx_ite (p := fun l => sx_iOk prog_14_method_128_code l) (sx_ite (p := fun l => sx_iOk prog_14_method_128_code l) (sx_ite (p := fun l => sx_iOk prog_14_method_128_code l) (sx_ite (p := fun l => sx_iOk prog_14_method_128_code l) (sx_iB_s aJ_440_0) (sx_ite (p := fun l => sx_iOk prog_14_method_128_code l) (sx_iB_s aJ_440_1) (sx_iB_s aJ_440_2))) (sx_ite (p := fun l => sx_iOk prog_14_method_128_code l) (sx_iB_s aJ_440_3) (sx_ite (p := fun l => sx_iOk prog_14_method_128_code l) (sx_iB_s aJ_440_4) (sx_iB_s aJ_440_5)))) (sx_ite (p := fun l => sx_iOk prog_14_method_128_code l) (sx_ite (p := fun l => sx_iOk prog_14_method_128_code l) (sx_iB_s aJ_440_6) (sx_ite (p := fun l => sx_iOk prog_14_method_128_code l) (sx_iB_s aJ_440_7) (sx_iB_s aJ_440_8))) (sx_ite (p := fun l => sx_iOk prog_14_method_128_code l) (sx_iB_s aJ_440_9) (sx_ite (p := fun l => sx_iOk prog_14_method_128_code l) (sx_iB_s aJ_440_10) (sx_iB_s aJ_440_11))))) (sx_ite (p := fun l => sx_iOk prog_14_method_128_code l) (sx_ite (p := fun l => sx_iOk prog_14_method_128_code l) (sx_ite (p := fun l => sx_iOk prog_14_method_128_code l) (sx_iB_s aJ_440_12) (sx_ite (p := fun l => sx_iOk prog_14_method_128_code l) (sx_iB_s aJ_440_13) (sx_iB_s aJ_440_14))) (sx_ite (p := fun l => sx_iOk prog_14_method_128_code l) (sx_iB_s aJ_440_15) (sx_ite (p := fun l => sx_iOk prog_14_method_128_code l) (sx_iB_s aJ_440_16) (sx_iB_s aJ_440_17)))) (sx_ite (p := fun l => sx_iOk prog_14_method_128_code l) (sx_ite (p := fun l => sx_iOk prog_14_method_128_code l) (sx_iB_s aJ_440_18) (sx_ite (p := fun l => sx_iOk prog_14_method_128_code l) (sx_iB_s aJ_440_19) (sx_iB_s aJ_440_20))) (sx_ite (p := fun l => sx_iOk prog_14_method_128_code l) (sx_iB_s aJ_440_21) (sx_ite (p := fun l => sx_iOk prog_14_method_128_code l) (sx_iB_s aJ_440_22) (sx_iB_s aJ_440_23))))))
def aW_440 : Nat → Option (Instr × Nat) := fun pc => sx_iF (aS_440 pc) pc
theorem aX_440 : ∀ pc i len, aW_440 pc = some (i, len) → decode aM_440.1.2.1 pc = .ok (i, len) := fun pc i len h => sx_iF_s (aT_440 pc) h
def aI_441_0 : sx_IL := [(0, .aload_n 0, 1), (1, .iload_n 1, 1), (2, .invokevirtual 894, 3), (5, .ifCond .eq 33, 3), (8, .iload_n 2, 1), (9, .i2l, 1)]
theorem aJ_441_0 : sx_iB prog_14_method_129_code aI_441_0 = true := by decide +kernel
def aI_441_1 : sx_IL := [(10, .lconst 0, 1), (11, .aload_n 0, 1), (12, .getfield 132, 3), (15, .iload_n 1, 1), (16, .iaload, 1), (17, .iconst 1, 1)]
theorem aJ_441_1 : sx_iB prog_14_method_129_code aI_441_1 = true := by decide +kernel
def aI_441_2 : sx_IL := [(18, .isub, 1), (19, .i2l, 1), (20, .invokestatic 513, 3), (23, .ifCond .eq 15, 3), (26, .iload_n 3, 1), (27, .i2l, 1)]
theorem aJ_441_2 : sx_iB prog_14_method_129_code aI_441_2 = true := by decide +kernel
def aI_441_3 : sx_IL := [(28, .lconst 0, 1), (29, .ldc2_w 925, 3), (32, .invokestatic 513, 3), (35, .ifCond .ne 5, 3), (38, .iconst (-1), 1), (39, .ireturn, 1)]
theorem aJ_441_3 : sx_iB prog_14_method_129_code aI_441_3 = true := by decide +kernel
def aI_441_4 : sx_IL := [(40, .bipush 6, 2), (42, .iload_n 1, 1), (43, .imul, 1), (44, .iload_n 2, 1), (45, .iadd, 1), (46, .istore 4, 2)]
theorem aJ_441_4 : sx_iB prog_14_method_129_code aI_441_4 = true := by decide +kernel
def aI_441_5 : sx_IL := [(48, .aload_n 0, 1), (49, .aload_n 0, 1), (50, .getfield 138, 3), (53, .iload 4, 2), (55, .iaload, 1), (56, .putfield 520, 3)]
theorem aJ_441_5 : sx_iB prog_14_method_129_code aI_441_5 = true := by decide +kernel
def aI_441_6 : sx_IL := [(59, .iconst 0, 1), (60, .istore 5, 2), (62, .iload 5, 2), (64, .aload_n 0, 1), (65, .getfield 520, 3), (68, .if_icmp .ge 29, 3)]
theorem aJ_441_6 : sx_iB prog_14_method_129_code aI_441_6 = true := by decide +kernel
def aI_441_7 : sx_IL := [(71, .aload_n 0, 1), (72, .getfield 13, 3), (75, .iload 5, 2), (77, .aload_n 0, 1), (78, .getfield 135, 3), (81, .bipush 16, 2)]
theorem aJ_441_7 : sx_iB prog_14_method_129_code aI_441_7 = true := by decide +kernel
def aI_441_8 : sx_IL := [(83, .iload 4, 2), (85, .imul, 1), (86, .iload 5, 2), (88, .iadd, 1), (89, .iaload, 1), (90, .iastore, 1)]
theorem aJ_441_8 : sx_iB prog_14_method_129_code aI_441_8 = true := by decide +kernel
def aI_441_9 : sx_IL := [(91, .iinc 5 1, 3), (94, .goto (-32), 3), (97, .iload_n 3, 1), (98, .ifCond .ne 13, 3), (101, .aload_n 0, 1), (102, .getfield 144, 3)]
theorem aJ_441_9 : sx_iB prog_14_method_129_code aI_441_9 = true := by decide +kernel
def aI_441_10 : sx_IL := [(105, .iload 4, 2), (107, .iaload, 1), (108, .goto 37, 3), (111, .iload_n 3, 1), (112, .iconst 5, 1), (113, .if_icmp .ne 21, 3)]
theorem aJ_441_10 : sx_iB prog_14_method_129_code aI_441_10 = true := by decide +kernel
def aI_441_11 : sx_IL := [(116, .aload_n 0, 1), (117, .getfield 147, 3), (120, .iload 4, 2), (122, .baload, 1), (123, .ifCond .eq 7, 3), (126, .iconst 1, 1)]
theorem aJ_441_11 : sx_iB prog_14_method_129_code aI_441_11 = true := by decide +kernel
def aI_441_12 : sx_IL := [(127, .goto 18, 3), (130, .iconst 0, 1), (131, .goto 14, 3), (134, .aload_n 0, 1), (135, .getfield 150, 3), (138, .iconst 5, 1)]
theorem aJ_441_12 : sx_iB prog_14_method_129_code aI_441_12 = true := by decide +kernel
def aI_441_13 : sx_IL := [(139, .iload 4, 2), (141, .imul, 1), (142, .iload_n 3, 1), (143, .iadd, 1), (144, .iaload, 1), (145, .ireturn, 1)]
theorem aJ_441_13 : sx_iB prog_14_method_129_code aI_441_13 = true := by decide +kernel
def aS_441 (pc : Nat) : sx_IL := (if pc < 71 then (if pc < 28 then (if pc < 10 then aI_441_0 else (if pc < 18 then aI_441_1 else aI_441_2)) else (if pc < 48 then (if pc < 40 then aI_441_3 else aI_441_4) else (if pc < 59 then aI_441_5 else aI_441_6))) else (if pc < 105 then (if pc < 83 then aI_441_7 else (if pc < 91 then aI_441_8 else aI_441_9)) else (if pc < 127 then (if pc < 116 then aI_441_10 else aI_441_11) else (if pc < 139 then aI_441_12 else aI_441_13))))
theorem aT_441 (pc : Nat) : sx_iOk prog_14_method_129_code (aS_441 pc) := (sx_ite (p := fun l => sx_iOk prog_14_method_129_code l) (sx_ite (p := fun l => sx_iOk prog_14_method_129_code l) (sx_ite (p := fun l => sx_iOk prog_14_method_129_code l) (sx_iB_s aJ_441_0) (sx_ite (p := fun l => sx_iOk prog_14_method_129_code l) (sx_iB_s aJ_441_1) (sx_iB_s aJ_441_2))) (sx_ite (p := fun l => sx_iOk prog_14_method_129_code l) (sx_ite (p := fun l => sx_iOk prog_14_method_129_code l) (sx_iB_s aJ_441_3) (sx_iB_s aJ_441_4)) (sx_ite (p := fun l => sx_iOk prog_14_method_129_code l) (sx_iB_s aJ_441_5) (sx_iB_s aJ_441_6)))) (sx_ite (p := fun l => sx_iOk prog_14_method_129_code l) (sx_ite (p := fun l => sx_iOk prog_14_method_129_code l) (sx_iB_s aJ_441_7) (sx_ite (p := fun l => sx_iOk prog_14_method_129_code l) (sx_iB_s aJ_441_8) (sx_iB_s aJ_441_9))) (sx_ite (p := fun l => sx_iOk prog_14_method_129_code l) (sx_ite (p := fun l => sx_iOk prog_14_method_129_code l) (sx_iB_s aJ_441_10) (sx_iB_s aJ_441_11)) (sx_ite (p := fun l => sx_iOk prog_14_method_129_code l) (sx_iB_s aJ_441_12) (sx_iB_s aJ_441_13)))))
def aW_441 : Nat → Option (Instr × Nat) := fun pc => sx_iF (aS_441 pc) pc
theorem aX_441 : ∀ pc i len, aW_441 pc = some (i, len) → decode aM_441.1.2.1 pc = .ok (i, len) := fun pc i len h => sx_iF_s (aT_441 pc) h
def aI_442_0 : sx_IL := [(0, .aload_n 0, 1), (1, .iload_n 1, 1), (2, .invokevirtual 894, 3), (5, .ifCond .eq 12, 3), (8, .aload_n 0, 1), (9, .getfield 93, 3)]
theorem aJ_442_0 : sx_iB prog_14_method_130_code aI_442_0 = true := by decide +kernel
def aI_442_1 : sx_IL := [(12, .iload_n 1, 1), (13, .iaload, 1), (14, .ifCond .eq 5, 3), (17, .iconst (-1), 1), (18, .ireturn, 1), (19, .aload_n 0, 1)]
theorem aJ_442_1 : sx_iB prog_14_method_130_code aI_442_1 = true := by decide +kernel
def aI_442_2 : sx_IL := [(20, .getfield 517, 3), (23, .sipush 400, 3), (26, .if_icmp .le 6, 3), (29, .bipush (-2), 2), (31, .ireturn, 1), (32, .aload_n 0, 1)]
theorem aJ_442_2 : sx_iB prog_14_method_130_code aI_442_2 = true := by decide +kernel
def aI_442_3 : sx_IL := [(33, .getfield 156, 3), (36, .iload_n 1, 1), (37, .aload_n 0, 1), (38, .getfield 517, 3), (41, .iastore, 1), (42, .iconst 0, 1)]
theorem aJ_442_3 : sx_iB prog_14_method_130_code aI_442_3 = true := by decide +kernel
def aI_442_4 : sx_IL := [(43, .istore_n 2, 1), (44, .iload_n 2, 1), (45, .aload_n 0, 1), (46, .getfield 517, 3), (49, .if_icmp .ge 27, 3), (52, .aload_n 0, 1)]
theorem aJ_442_4 : sx_iB prog_14_method_130_code aI_442_4 = true := by decide +kernel
def aI_442_5 : sx_IL := [(53, .getfield 153, 3), (56, .sipush 400, 3), (59, .iload_n 1, 1), (60, .imul, 1), (61, .iload_n 2, 1), (62, .iadd, 1)]
theorem aJ_442_5 : sx_iB prog_14_method_130_code aI_442_5 = true := by decide +kernel
def aI_442_6 : sx_IL := [(63, .aload_n 0, 1), (64, .getfield 7, 3), (67, .iload_n 2, 1), (68, .iaload, 1), (69, .iastore, 1), (70, .iinc 2 1, 3)]
theorem aJ_442_6 : sx_iB prog_14_method_130_code aI_442_6 = true := by decide +kernel
def aI_442_7 : sx_IL := [(73, .goto (-29), 3), (76, .aload_n 0, 1), (77, .iconst 0, 1), (78, .putfield 517, 3), (81, .aload_n 0, 1), (82, .getfield 156, 3)]
theorem aJ_442_7 : sx_iB prog_14_method_130_code aI_442_7 = true := by decide +kernel
def aI_442_8 : sx_IL := [(85, .iload_n 1, 1), (86, .iaload, 1), (87, .ireturn, 1)]
theorem aJ_442_8 : sx_iB prog_14_method_130_code aI_442_8 = true := by decide +kernel
def aS_442 (pc : Nat) : sx_IL := (if pc < 43 then (if pc < 20 then (if pc < 12 then aI_442_0 else aI_442_1) else (if pc < 33 then aI_442_2 else aI_442_3)) else (if pc < 63 then (if pc < 53 then aI_442_4 else aI_442_5) else (if pc < 73 then aI_442_6 else (if pc < 85 then aI_442_7 else aI_442_8))))
theorem aT_442 (pc : Nat) : sx_iOk prog_14_method_130_code (aS_442 pc) := (sx_ite (p := fun l => sx_iOk prog_14_method_130_code l) (sx_ite (p := fun l => sx_iOk prog_14_method_130_code l) (sx_ite (p := fun l => sx_iOk prog_14_method_130_code l) (sx_iB_s aJ_442_0) (sx_iB_s aJ_442_1)) (sx_ite (p := fun l => sx_iOk prog_14_method_130_code l) (sx_iB_s aJ_442_2) (sx_iB_s aJ_442_3))) (sx_ite (p := fun l => sx_iOk prog_14_method_130_code l) (sx_ite (p := fun l => sx_iOk prog_14_method_130_code l) (sx_iB_s aJ_442_4) (sx_iB_s aJ_442_5)) (sx_ite (p := fun l => sx_iOk prog_14_method_130_code l) (sx_iB_s aJ_442_6) (sx_ite (p := fun l => sx_iOk prog_14_method_130_code l) (sx_iB_s aJ_442_7) (sx_iB_s aJ_442_8)))))
def aW_442 : Nat → Option (Instr × Nat) := fun pc => sx_iF (aS_442 pc) pc
theorem aX_442 : ∀ pc i len, aW_442 pc = some (i, len) → decode aM_442.1.2.1 pc = .ok (i, len) := fun pc i len h => sx_iF_s (aT_442 pc) h
def aI_443_0 : sx_IL := [(0, .aload_n 0, 1), (1, .iload_n 1, 1), (2, .invokevirtual 840, 3), (5, .ifCond .eq 22, 3), (8, .iload_n 2, 1), (9, .invokestatic 652, 3)]
theorem aJ_443_0 : sx_iB prog_14_method_132_code aI_443_0 = true := by decide +kernel
def aI_443_1 : sx_IL := [(12, .ifCond .eq 15, 3), (15, .iload_n 3, 1), (16, .i2l, 1), (17, .lconst 1, 1), (18, .ldc2_w 631, 3), (21, .invokestatic 513, 3)]
theorem aJ_443_1 : sx_iB prog_14_method_132_code aI_443_1 = true := by decide +kernel
def aI_443_2 : sx_IL := [(24, .ifCond .ne 5, 3), (27, .iconst (-1), 1), (28, .ireturn, 1), (29, .aload_n 0, 1), (30, .getfield 45, 3), (33, .bipush 8, 2)]
theorem aJ_443_2 : sx_iB prog_14_method_132_code aI_443_2 = true := by decide +kernel
def aI_443_3 : sx_IL := [(35, .iload_n 1, 1), (36, .imul, 1), (37, .iconst 5, 1), (38, .iadd, 1), (39, .iaload, 1), (40, .ifCond .eq 21, 3)]
theorem aJ_443_3 : sx_iB prog_14_method_132_code aI_443_3 = true := by decide +kernel
def aI_443_4 : sx_IL := [(43, .iload_n 2, 1), (44, .invokestatic 656, 3), (47, .aload_n 0, 1), (48, .getfield 45, 3), (51, .bipush 8, 2), (53, .iload_n 1, 1)]
theorem aJ_443_4 : sx_iB prog_14_method_132_code aI_443_4 = true := by decide +kernel
def aI_443_5 : sx_IL := [(54, .imul, 1), (55, .iconst 4, 1), (56, .iadd, 1), (57, .iaload, 1), (58, .if_icmp .eq 6, 3), (61, .bipush (-2), 2)]
theorem aJ_443_5 : sx_iB prog_14_method_132_code aI_443_5 = true := by decide +kernel
def aI_443_6 : sx_IL := [(63, .ireturn, 1), (64, .aload_n 0, 1), (65, .getfield 927, 3), (68, .iconst 4, 1), (69, .if_icmp .ne 6, 3), (72, .bipush (-3), 2)]
theorem aJ_443_6 : sx_iB prog_14_method_132_code aI_443_6 = true := by decide +kernel
def aI_443_7 : sx_IL := [(74, .ireturn, 1), (75, .aload_n 0, 1), (76, .getfield 189, 3), (79, .aload_n 0, 1), (80, .getfield 927, 3), (83, .iload_n 1, 1)]
theorem aJ_443_7 : sx_iB prog_14_method_132_code aI_443_7 = true := by decide +kernel
def aI_443_8 : sx_IL := [(84, .iastore, 1), (85, .aload_n 0, 1), (86, .getfield 192, 3), (89, .aload_n 0, 1), (90, .getfield 927, 3), (93, .iload_n 2, 1)]
theorem aJ_443_8 : sx_iB prog_14_method_132_code aI_443_8 = true := by decide +kernel
def aI_443_9 : sx_IL := [(94, .iastore, 1), (95, .aload_n 0, 1), (96, .getfield 195, 3), (99, .aload_n 0, 1), (100, .getfield 927, 3), (103, .iload_n 3, 1)]
theorem aJ_443_9 : sx_iB prog_14_method_132_code aI_443_9 = true := by decide +kernel
def aI_443_10 : sx_IL := [(104, .iastore, 1), (105, .aload_n 0, 1), (106, .getfield 198, 3), (109, .aload_n 0, 1), (110, .getfield 927, 3), (113, .iconst 1, 1)]
theorem aJ_443_10 : sx_iB prog_14_method_132_code aI_443_10 = true := by decide +kernel
def aI_443_11 : sx_IL := [(114, .iastore, 1), (115, .aload_n 0, 1), (116, .getfield 201, 3), (119, .aload_n 0, 1), (120, .getfield 927, 3), (123, .iconst 1, 1)]
theorem aJ_443_11 : sx_iB prog_14_method_132_code aI_443_11 = true := by decide +kernel
def aI_443_12 : sx_IL := [(124, .iastore, 1), (125, .aload_n 0, 1), (126, .getfield 204, 3), (129, .aload_n 0, 1), (130, .getfield 927, 3), (133, .iconst 1, 1)]
theorem aJ_443_12 : sx_iB prog_14_method_132_code aI_443_12 = true := by decide +kernel
def aI_443_13 : sx_IL := [(134, .iastore, 1), (135, .aload_n 0, 1), (136, .dup, 1), (137, .getfield 927, 3), (140, .iconst 1, 1), (141, .iadd, 1)]
theorem aJ_443_13 : sx_iB prog_14_method_132_code aI_443_13 = true := by decide +kernel
def aI_443_14 : sx_IL := [(142, .putfield 927, 3), (145, .aload_n 0, 1), (146, .getfield 927, 3), (149, .iconst 1, 1), (150, .isub, 1), (151, .ireturn, 1)]
theorem aJ_443_14 : sx_iB prog_14_method_132_code aI_443_14 = true := by decide +kernel
def aS_443 (pc : Nat) : sx_IL := (if pc < 74 then (if pc < 35 then (if pc < 12 then aI_443_0 else (if pc < 24 then aI_443_1 else aI_443_2)) else (if pc < 54 then (if pc < 43 then aI_443_3 else aI_443_4) else (if pc < 63 then aI_443_5 else aI_443_6))) else (if pc < 114 then (if pc < 94 then (if pc < 84 then aI_443_7 else aI_443_8) else (if pc < 104 then aI_443_9 else aI_443_10)) else (if pc < 134 then (if pc < 124 then aI_443_11 else aI_443_12) else (if pc < 142 then aI_443_13 else aI_443_14))))
theorem aT_443 (pc : Nat) : sx_iOk prog_14_method_132_code (aS_443 pc) := (sx_ite (p := fun l => sx_iOk prog_14_method_132_code l) (sx_ite (p := fun l => sx_iOk prog_14_method_132_code l) (sx_ite (p := fun l => sx_iOk prog_14_method_132_code l) (sx_iB_s aJ_443_0) (sx_ite (p := fun l => sx_iOk prog_14_method_132_code l) (sx_iB_s aJ_443_1) (sx_iB_s aJ_443_2))) (sx_ite (p := fun l => sx_iOk prog_14_method_132_code l) (sx_ite (p := fun l => sx_iOk prog_14_method_132_code l) (sx_iB_s aJ_443_3) (sx_iB_s aJ_443_4)) (sx_ite (p := fun l => sx_iOk prog_14_method_132_code l) (sx_iB_s aJ_443_5) (sx_iB_s aJ_443_6)))) (sx_ite (p := fun l => sx_iOk prog_14_method_132_code l) (sx_ite (p := fun l => sx_iOk prog_14_method_132_code l) (sx_ite (p := fun l => sx_iOk prog_14_method_132_code l) (sx_iB_s aJ_443_7) (sx_iB_s aJ_443_8)) (sx_ite (p := fun l => sx_iOk prog_14_method_132_code l) (sx_iB_s aJ_443_9) (sx_iB_s aJ_443_10))) (sx_ite (p := fun l => sx_iOk prog_14_method_132_code l) (sx_ite (p := fun l => sx_iOk prog_14_method_132_code l) (sx_iB_s aJ_443_11) (sx_iB_s aJ_443_12)) (sx_ite (p := fun l => sx_iOk prog_14_method_132_code l) (sx_iB_s aJ_443_13) (sx_iB_s aJ_443_14)))))
def aW_443 : Nat → Option (Instr × Nat) := fun pc => sx_iF (aS_443 pc) pc
theorem aX_443 : ∀ pc i len, aW_443 pc = some (i, len) → decode aM_443.1.2.1 pc = .ok (i, len) := fun pc i len h => sx_iF_s (aT_443 pc) h
def aI_444_0 : sx_IL := [(0, .aload_n 0, 1), (1, .iload_n 1, 1), (2, .invokevirtual 930, 3), (5, .ifCond .ne 5, 3), (8, .iconst (-1), 1), (9, .ireturn, 1)]
theorem aJ_444_0 : sx_iB prog_14_method_133_code aI_444_0 = true := by decide +kernel
def aI_444_1 : sx_IL := [(10, .aload_n 0, 1), (11, .getfield 207, 3), (14, .iload_n 1, 1), (15, .iaload, 1), (16, .bipush 8, 2), (18, .if_icmp .ne 6, 3)]
theorem aJ_444_1 : sx_iB prog_14_method_133_code aI_444_1 = true := by decide +kernel
def aI_444_2 : sx_IL := [(21, .bipush (-3), 2), (23, .ireturn, 1), (24, .aload_n 0, 1), (25, .getfield 210, 3), (28, .bipush 8, 2), (30, .iload_n 1, 1)]
theorem aJ_444_2 : sx_iB prog_14_method_133_code aI_444_2 = true := by decide +kernel
def aI_444_3 : sx_IL := [(31, .imul, 1), (32, .aload_n 0, 1), (33, .getfield 207, 3), (36, .iload_n 1, 1), (37, .iaload, 1), (38, .iadd, 1)]
theorem aJ_444_3 : sx_iB prog_14_method_133_code aI_444_3 = true := by decide +kernel
def aI_444_4 : sx_IL := [(39, .lload_n 2, 1), (40, .lastore, 1), (41, .aload_n 0, 1), (42, .getfield 207, 3), (45, .iload_n 1, 1), (46, .dup2, 1)]
theorem aJ_444_4 : sx_iB prog_14_method_133_code aI_444_4 = true := by decide +kernel
def aI_444_5 : sx_IL := [(47, .iaload, 1), (48, .iconst 1, 1), (49, .iadd, 1), (50, .iastore, 1), (51, .aload_n 0, 1), (52, .getfield 207, 3)]
theorem aJ_444_5 : sx_iB prog_14_method_133_code aI_444_5 = true := by decide +kernel
def aI_444_6 : sx_IL := [(55, .iload_n 1, 1), (56, .iaload, 1), (57, .iconst 1, 1), (58, .isub, 1), (59, .ireturn, 1)]
theorem aJ_444_6 : sx_iB prog_14_method_133_code aI_444_6 = true := by decide +kernel
def aS_444 (pc : Nat) : sx_IL := (if pc < 31 then (if pc < 10 then aI_444_0 else (if pc < 21 then aI_444_1 else aI_444_2)) else (if pc < 47 then (if pc < 39 then aI_444_3 else aI_444_4) else (if pc < 55 then aI_444_5 else aI_444_6)))
theorem aT_444 (pc : Nat) : sx_iOk prog_14_method_133_code (aS_444 pc) := (sx_ite (p := fun l => sx_iOk prog_14_method_133_code l) (sx_ite (p := fun l => sx_iOk prog_14_method_133_code l) (sx_iB_s aJ_444_0) (sx_ite (p := fun l => sx_iOk prog_14_method_133_code l) (sx_iB_s aJ_444_1) (sx_iB_s aJ_444_2))) (sx_ite (p := fun l => sx_iOk prog_14_method_133_code l) (sx_ite (p := fun l => sx_iOk prog_14_method_133_code l) (sx_iB_s aJ_444_3) (sx_iB_s aJ_444_4)) (sx_ite (p := fun l => sx_iOk prog_14_method_133_code l) (sx_iB_s aJ_444_5) (sx_iB_s aJ_444_6))))
def aW_444 : Nat → Option (Instr × Nat) := fun pc => sx_iF (aS_444 pc) pc
theorem aX_444 : ∀ pc i len, aW_444 pc = some (i, len) → decode aM_444.1.2.1 pc = .ok (i, len) := fun pc i len h => sx_iF_s (aT_444 pc) h
def aI_445_0 : sx_IL := [(0, .iload_n 1, 1), (1, .i2l, 1), (2, .lconst 0, 1), (3, .aload_n 0, 1), (4, .getfield 927, 3), (7, .iconst 1, 1)]
theorem aJ_445_0 : sx_iB prog_14_method_131_code aI_445_0 = true := by decide +kernel
def aI_445_1 : sx_IL := [(8, .isub, 1), (9, .i2l, 1), (10, .invokestatic 513, 3), (13, .ireturn, 1)]
theorem aJ_445_1 : sx_iB prog_14_method_131_code aI_445_1 = true := by decide +kernel
def aS_445 (pc : Nat) : sx_IL := (if pc < 8 then aI_445_0 else aI_445_1)
theorem aT_445 (pc : Nat) : sx_iOk prog_14_method_131_code (aS_445 pc) := (sx_ite (p := fun l => sx_iOk prog_14_method_131_code l) (sx_iB_s aJ_445_0) (sx_iB_s aJ_445_1))
def aW_445 : Nat → Option (Instr × Nat) := fun pc => sx_iF (aS_445 pc) pc
theorem aX_445 : ∀ pc i len, aW_445 pc = some (i, len) → decode aM_445.1.2.1 pc = .ok (i, len) := fun pc i len h => sx_iF_s (aT_445 pc) h
def aI_447_0 : sx_IL := [(0, .aload_n 0, 1), (1, .iload_n 1, 1), (2, .iload_n 2, 1), (3, .invokevirtual 933, 3), (6, .ifCond .ne 5, 3), (9, .iconst (-1), 1)]
theorem aJ_447_0 : sx_iB prog_14_method_136_code aI_447_0 = true := by decide +kernel
def aI_447_1 : sx_IL := [(10, .ireturn, 1), (11, .bipush 12, 2), (13, .iload_n 1, 1), (14, .imul, 1), (15, .iload_n 2, 1), (16, .iadd, 1)]
theorem aJ_447_1 : sx_iB prog_14_method_136_code aI_447_1 = true := by decide +kernel
def aI_447_2 : sx_IL := [(17, .istore 4, 2), (19, .iload_n 3, 1), (20, .i2l, 1), (21, .lconst 0, 1), (22, .ldc2_w 609, 3), (25, .invokestatic 513, 3)]
theorem aJ_447_2 : sx_iB prog_14_method_136_code aI_447_2 = true := by decide +kernel
def aI_447_3 : sx_IL := [(28, .ifCond .eq 55, 3), (31, .iload_n 3, 1), (32, .ifCond .ne 13, 3), (35, .aload_n 0, 1), (36, .getfield 219, 3), (39, .iload 4, 2)]
theorem aJ_447_3 : sx_iB prog_14_method_136_code aI_447_3 = true := by decide +kernel
def aI_447_4 : sx_IL := [(41, .iaload, 1), (42, .goto 40, 3), (45, .iload_n 3, 1), (46, .iconst 1, 1), (47, .if_icmp .ne 13, 3), (50, .aload_n 0, 1)]
theorem aJ_447_4 : sx_iB prog_14_method_136_code aI_447_4 = true := by decide +kernel
def aI_447_5 : sx_IL := [(51, .getfield 216, 3), (54, .iload 4, 2), (56, .iaload, 1), (57, .goto 25, 3), (60, .iload_n 3, 1), (61, .iconst 2, 1)]
theorem aJ_447_5 : sx_iB prog_14_method_136_code aI_447_5 = true := by decide +kernel
def aI_447_6 : sx_IL := [(62, .if_icmp .ne 13, 3), (65, .aload_n 0, 1), (66, .getfield 225, 3), (69, .iload 4, 2), (71, .iaload, 1), (72, .goto 10, 3)]
theorem aJ_447_6 : sx_iB prog_14_method_136_code aI_447_6 = true := by decide +kernel
def aI_447_7 : sx_IL := [(75, .aload_n 0, 1), (76, .getfield 222, 3), (79, .iload 4, 2), (81, .iaload, 1), (82, .ireturn, 1), (83, .iload_n 3, 1)]
theorem aJ_447_7 : sx_iB prog_14_method_136_code aI_447_7 = true := by decide +kernel
def aI_447_8 : sx_IL := [(84, .i2l, 1), (85, .ldc2_w 845, 3), (88, .bipush 9, 2), (90, .aload_n 0, 1), (91, .getfield 225, 3), (94, .iload 4, 2)]
theorem aJ_447_8 : sx_iB prog_14_method_136_code aI_447_8 = true := by decide +kernel
def aI_447_9 : sx_IL := [(96, .iaload, 1), (97, .iadd, 1), (98, .i2l, 1), (99, .invokestatic 513, 3), (102, .ifCond .eq 18, 3), (105, .aload_n 0, 1)]
theorem aJ_447_9 : sx_iB prog_14_method_136_code aI_447_9 = true := by decide +kernel
def aI_447_10 : sx_IL := [(106, .getfield 234, 3), (109, .iconst 3, 1), (110, .iload 4, 2), (112, .imul, 1), (113, .iload_n 3, 1), (114, .iadd, 1)]
theorem aJ_447_10 : sx_iB prog_14_method_136_code aI_447_10 = true := by decide +kernel
def aI_447_11 : sx_IL := [(115, .bipush 10, 2), (117, .isub, 1), (118, .iaload, 1), (119, .ireturn, 1), (120, .iload_n 3, 1), (121, .i2l, 1)]
theorem aJ_447_11 : sx_iB prog_14_method_136_code aI_447_11 = true := by decide +kernel
def aI_447_12 : sx_IL := [(122, .ldc2_w 936, 3), (125, .bipush 19, 2), (127, .aload_n 0, 1), (128, .getfield 225, 3), (131, .iload 4, 2), (133, .iaload, 1)]
theorem aJ_447_12 : sx_iB prog_14_method_136_code aI_447_12 = true := by decide +kernel
def aI_447_13 : sx_IL := [(134, .iadd, 1), (135, .i2l, 1), (136, .invokestatic 513, 3), (139, .ifCond .eq 20, 3), (142, .aload_n 0, 1), (143, .getfield 237, 3)]
theorem aJ_447_13 : sx_iB prog_14_method_136_code aI_447_13 = true := by decide +kernel
def aI_447_14 : sx_IL := [(146, .iconst 3, 1), (147, .iload 4, 2), (149, .imul, 1), (150, .iload_n 3, 1), (151, .iadd, 1), (152, .bipush 20, 2)]
theorem aJ_447_14 : sx_iB prog_14_method_136_code aI_447_14 = true := by decide +kernel
def aI_447_15 : sx_IL := [(154, .isub, 1), (155, .iaload, 1), (156, .goto 4, 3), (159, .iconst (-1), 1), (160, .ireturn, 1)]
theorem aJ_447_15 : sx_iB prog_14_method_136_code aI_447_15 = true := by decide +kernel
def aS_447 (pc : Nat) : sx_IL := (if pc < 84 then (if pc < 41 then (if pc < 17 then (if pc < 10 then aI_447_0 else aI_447_1) else (if pc < 28 then aI_447_2 else aI_447_3)) else (if pc < 62 then (if pc < 51 then aI_447_4 else aI_447_5) else (if pc < 75 then aI_447_6 else aI_447_7))) else (if pc < 122 then (if pc < 106 then (if pc < 96 then aI_447_8 else aI_447_9) else (if pc < 115 then aI_447_10 else aI_447_11)) else (if pc < 146 then (if pc < 134 then aI_447_12 else aI_447_13) else (if pc < 154 then aI_447_14 else aI_447_15))))
theorem aT_447 (pc : Nat) : sx_iOk prog_14_method_136_code (aS_447 pc) := (sx_ite (p := fun l => sx_iOk prog_14_method_136_code l) (sx_ite (p := fun l => sx_iOk prog_14_method_136_code l) (sx_ite (p := fun l => sx_iOk prog_14_method_136_code l) (sx_ite (p := fun l => sx_iOk prog_14_method_136_code l) (sx_iB_s aJ_447_0) (sx_iB_s aJ_447_1)) (sx_ite (p := fun l => sx_iOk prog_14_method_136_code l) (sx_iB_s aJ_447_2) (sx_iB_s aJ_447_3))) (sx_ite (p := fun l => sx_iOk prog_14_method_136_code l) (sx_ite (p := fun l => sx_iOk prog_14_method_136_code l) (sx_iB_s aJ_447_4) (sx_iB_s aJ_447_5)) (sx_ite (p := fun l => sx_iOk prog_14_method_136_code l) (sx_iB_s aJ_447_6) (sx_iB_s aJ_447_7)))) (sx_ite (p := fun l => sx_iOk prog_14_method_136_code l) (sx_ite (p := fun l => sx_iOk prog_14_method_136_code l) (sx_ite (p := fun l => sx_iOk prog_14_method_136_code l) (sx_iB_s aJ_447_8) (sx_iB_s aJ_447_9)) (sx_ite (p := fun l => sx_iOk prog_14_method_136_code l) (sx_iB_s aJ_447_10) (sx_iB_s aJ_447_11))) (sx_ite (p := fun l => sx_iOk prog_14_method_136_code l) (sx_ite (p := fun l => sx_iOk prog_14_method_136_code l) (sx_iB_s aJ_447_12) (sx_iB_s aJ_447_13)) (sx_ite (p := fun l => sx_iOk prog_14_method_136_code l) (sx_iB_s aJ_447_14) (sx_iB_s aJ_447_15)))))
def aW_447 : Nat → Option (Instr × Nat) := fun pc => sx_iF (aS_447 pc) pc
theorem aX_447 : ∀ pc i len, aW_447 pc = some (i, len) → decode aM_447.1.2.1 pc = .ok (i, len) := fun pc i len h => sx_iF_s (aT_447 pc) h
def aI_448_0 : sx_IL := [(0, .aload_n 0, 1), (1, .iload_n 1, 1), (2, .invokevirtual 930, 3), (5, .ifCond .eq 25, 3), (8, .iload_n 2, 1), (9, .i2l, 1)]
theorem aJ_448_0 : sx_iB prog_14_method_135_code aI_448_0 = true := by decide +kernel
def aI_448_1 : sx_IL := [(10, .lconst 0, 1), (11, .aload_n 0, 1), (12, .getfield 213, 3), (15, .iload_n 1, 1), (16, .iaload, 1), (17, .iconst 1, 1)]
theorem aJ_448_1 : sx_iB prog_14_method_135_code aI_448_1 = true := by decide +kernel
def aI_448_2 : sx_IL := [(18, .isub, 1), (19, .i2l, 1), (20, .invokestatic 513, 3), (23, .ifCond .eq 7, 3), (26, .iconst 1, 1), (27, .goto 4, 3)]
theorem aJ_448_2 : sx_iB prog_14_method_135_code aI_448_2 = true := by decide +kernel
def aI_448_3 : sx_IL := [(30, .iconst 0, 1), (31, .ireturn, 1)]
theorem aJ_448_3 : sx_iB prog_14_method_135_code aI_448_3 = true := by decide +kernel
def aS_448 (pc : Nat) : sx_IL := (if pc < 18 then (if pc < 10 then aI_448_0 else aI_448_1) else (if pc < 30 then aI_448_2 else aI_448_3))
theorem aT_448 (pc : Nat) : sx_iOk prog_14_method_135_code (aS_448 pc) := (sx_ite (p := fun l => sx_iOk prog_14_method_135_code l) (sx_ite (p := fun l => sx_iOk prog_14_method_135_code l) (sx_iB_s aJ_448_0) (sx_iB_s aJ_448_1)) (sx_ite (p := fun l => sx_iOk prog_14_method_135_code l) (sx_iB_s aJ_448_2) (sx_iB_s aJ_448_3)))
def aW_448 : Nat → Option (Instr × Nat) := fun pc => sx_iF (aS_448 pc) pc
theorem aX_448 : ∀ pc i len, aW_448 pc = some (i, len) → decode aM_448.1.2.1 pc = .ok (i, len) := fun pc i len h => sx_iF_s (aT_448 pc) h
def aI_449_0 : sx_IL := [(0, .aload_n 0, 1), (1, .getfield 7, 3), (4, .iconst 0, 1), (5, .aload_n 0, 1), (6, .getfield 517, 3), (9, .invokestatic 724, 3)]
theorem aJ_449_0 : sx_iB prog_14_method_137_code aI_449_0 = true := by decide +kernel
def aI_449_1 : sx_IL := [(12, .bipush (-4), 2), (14, .if_icmp .eq 6, 3), (17, .bipush (-2), 2), (19, .ireturn, 1), (20, .aload_n 0, 1), (21, .getfield 938, 3)]
theorem aJ_449_1 : sx_iB prog_14_method_137_code aI_449_1 = true := by decide +kernel
def aI_449_2 : sx_IL := [(24, .istore_n 3, 1), (25, .iconst 0, 1), (26, .istore 4, 2), (28, .iload 4, 2), (30, .aload_n 0, 1), (31, .getfield 938, 3)]
theorem aJ_449_2 : sx_iB prog_14_method_137_code aI_449_2 = true := by decide +kernel
def aI_449_3 : sx_IL := [(34, .if_icmp .ge 47, 3), (37, .aload_n 0, 1), (38, .getfield 7, 3), (41, .iconst 0, 1), (42, .aload_n 0, 1), (43, .getfield 517, 3)]
theorem aJ_449_3 : sx_iB prog_14_method_137_code aI_449_3 = true := by decide +kernel
def aI_449_4 : sx_IL := [(46, .aload_n 0, 1), (47, .getfield 246, 3), (50, .bipush 40, 2), (52, .iload 4, 2), (54, .imul, 1), (55, .aload_n 0, 1)]
theorem aJ_449_4 : sx_iB prog_14_method_137_code aI_449_4 = true := by decide +kernel
def aI_449_5 : sx_IL := [(56, .getfield 249, 3), (59, .iload 4, 2), (61, .iaload, 1), (62, .invokestatic 847, 3), (65, .ifCond .eq 8, 3), (68, .iload 4, 2)]
theorem aJ_449_5 : sx_iB prog_14_method_137_code aI_449_5 = true := by decide +kernel
def aI_449_6 : sx_IL := [(70, .goto 4, 3), (73, .iload_n 3, 1), (74, .istore_n 3, 1), (75, .iinc 4 1, 3), (78, .goto (-50), 3), (81, .iload_n 3, 1)]
theorem aJ_449_6 : sx_iB prog_14_method_137_code aI_449_6 = true := by decide +kernel
def aI_449_7 : sx_IL := [(82, .bipush 16, 2), (84, .if_icmp .ne 6, 3), (87, .bipush (-3), 2), (89, .ireturn, 1), (90, .aload_n 0, 1), (91, .getfield 249, 3)]
theorem aJ_449_7 : sx_iB prog_14_method_137_code aI_449_7 = true := by decide +kernel
def aI_449_8 : sx_IL := [(94, .iload_n 3, 1), (95, .aload_n 0, 1), (96, .getfield 517, 3), (99, .iastore, 1), (100, .iconst 0, 1), (101, .istore 4, 2)]
theorem aJ_449_8 : sx_iB prog_14_method_137_code aI_449_8 = true := by decide +kernel
def aI_449_9 : sx_IL := [(103, .iload 4, 2), (105, .aload_n 0, 1), (106, .getfield 517, 3), (109, .if_icmp .ge 28, 3), (112, .aload_n 0, 1), (113, .getfield 246, 3)]
theorem aJ_449_9 : sx_iB prog_14_method_137_code aI_449_9 = true := by decide +kernel
def aI_449_10 : sx_IL := [(116, .bipush 40, 2), (118, .iload_n 3, 1), (119, .imul, 1), (120, .iload 4, 2), (122, .iadd, 1), (123, .aload_n 0, 1)]
theorem aJ_449_10 : sx_iB prog_14_method_137_code aI_449_10 = true := by decide +kernel
def aI_449_11 : sx_IL := [(124, .getfield 7, 3), (127, .iload 4, 2), (129, .iaload, 1), (130, .iastore, 1), (131, .iinc 4 1, 3), (134, .goto (-31), 3)]
theorem aJ_449_11 : sx_iB prog_14_method_137_code aI_449_11 = true := by decide +kernel
def aI_449_12 : sx_IL := [(137, .aload_n 0, 1), (138, .getfield 252, 3), (141, .iload_n 3, 1), (142, .lload_n 1, 1), (143, .lastore, 1), (144, .aload_n 0, 1)]
theorem aJ_449_12 : sx_iB prog_14_method_137_code aI_449_12 = true := by decide +kernel
def aI_449_13 : sx_IL := [(145, .iload_n 3, 1), (146, .aload_n 0, 1), (147, .getfield 938, 3), (150, .if_icmp .ne 12, 3), (153, .aload_n 0, 1), (154, .getfield 938, 3)]
theorem aJ_449_13 : sx_iB prog_14_method_137_code aI_449_13 = true := by decide +kernel
def aI_449_14 : sx_IL := [(157, .iconst 1, 1), (158, .iadd, 1), (159, .goto 7, 3), (162, .aload_n 0, 1), (163, .getfield 938, 3), (166, .putfield 938, 3)]
theorem aJ_449_14 : sx_iB prog_14_method_137_code aI_449_14 = true := by decide +kernel
def aI_449_15 : sx_IL := [(169, .aload_n 0, 1), (170, .iconst 0, 1), (171, .putfield 517, 3), (174, .aload_n 0, 1), (175, .getfield 938, 3), (178, .ireturn, 1)]
theorem aJ_449_15 : sx_iB prog_14_method_137_code aI_449_15 = true := by decide +kernel
def aS_449 (pc : Nat) : sx_IL := (if pc < 94 then (if pc < 46 then (if pc < 24 then (if pc < 12 then aI_449_0 else aI_449_1) else (if pc < 34 then aI_449_2 else aI_449_3)) else (if pc < 70 then (if pc < 56 then aI_449_4 else aI_449_5) else (if pc < 82 then aI_449_6 else aI_449_7))) else (if pc < 137 then (if pc < 116 then (if pc < 103 then aI_449_8 else aI_449_9) else (if pc < 124 then aI_449_10 else aI_449_11)) else (if pc < 157 then (if pc < 145 then aI_449_12 else aI_449_13) else (if pc < 169 then aI_449_14 else aI_449_15))))
theorem aT_449 (pc : Nat) : sx_iOk prog_14_method_137_code (aS_449 pc) := (sx_ite (p := fun l => sx_iOk prog_14_method_137_code l) (sx_ite (p := fun l => sx_iOk prog_14_method_137_code l) (sx_ite (p := fun l => sx_iOk prog_14_method_137_code l) (sx_ite (p := fun l => sx_iOk prog_14_method_137_code l) (sx_iB_s aJ_449_0) (sx_iB_s aJ_449_1)) (sx_ite (p := fun l => sx_iOk prog_14_method_137_code l) (sx_iB_s aJ_449_2) (sx_iB_s aJ_449_3))) (sx_ite (p := fun l => sx_iOk prog_14_method_137_code l) (sx_ite (p := fun l => sx_iOk prog_14_method_137_code l) (sx_iB_s aJ_449_4) (sx_iB_s aJ_449_5)) (sx_ite (p := fun l => sx_iOk prog_14_method_137_code l) (sx_iB_s aJ_449_6) (sx_iB_s aJ_449_7)))) (sx_ite (p := fun l => sx_iOk prog_14_method_137_code l) (sx_ite (p := fun l => sx_iOk prog_14_method_137_code l) (sx_ite (p := fun l => sx_iOk prog_14_method_137_code l) (sx_iB_s aJ_449_8) (sx_iB_s aJ_449_9)) (sx_ite (p := fun l => sx_iOk prog_14_method_137_code l) (sx_iB_s aJ_449_10) (sx_iB_s aJ_449_11))) (sx_ite (p := fun l => sx_iOk prog_14_method_137_code l) (sx_ite (p := fun l => sx_iOk prog_14_method_137_code l) (sx_iB_s aJ_449_12) (sx_iB_s aJ_449_13)) (sx_ite (p := fun l => sx_iOk prog_14_method_137_code l) (sx_iB_s aJ_449_14) (sx_iB_s aJ_449_15)))))
def aW_449 : Nat → Option (Instr × Nat) := fun pc => sx_iF (aS_449 pc) pc
theorem aX_449 : ∀ pc i len, aW_449 pc = some (i, len) → decode aM_449.1.2.1 pc = .ok (i, len) := fun pc i len h => sx_iF_s (aT_449 pc) h
def aI_450_0 : sx_IL := [(0, .aload_n 0, 1), (1, .iload_n 1, 1), (2, .iload_n 2, 1), (3, .invokevirtual 933, 3), (6, .ifCond .eq 26, 3), (9, .iload_n 3, 1)]
theorem aJ_450_0 : sx_iB prog_14_method_139_code aI_450_0 = true := by decide +kernel
def aI_450_1 : sx_IL := [(10, .i2l, 1), (11, .lconst 0, 1), (12, .aload_n 0, 1), (13, .getfield 225, 3), (16, .bipush 12, 2), (18, .iload_n 1, 1)]
theorem aJ_450_1 : sx_iB prog_14_method_139_code aI_450_1 = true := by decide +kernel
def aI_450_2 : sx_IL := [(19, .imul, 1), (20, .iload_n 2, 1), (21, .iadd, 1), (22, .iaload, 1), (23, .iconst 1, 1), (24, .isub, 1)]
theorem aJ_450_2 : sx_iB prog_14_method_139_code aI_450_2 = true := by decide +kernel
def aI_450_3 : sx_IL := [(25, .i2l, 1), (26, .invokestatic 513, 3), (29, .ifCond .ne 5, 3), (32, .iconst (-1), 1), (33, .ireturn, 1), (34, .bipush 12, 2)]
theorem aJ_450_3 : sx_iB prog_14_method_139_code aI_450_3 = true := by decide +kernel
def aI_450_4 : sx_IL := [(36, .iload_n 1, 1), (37, .imul, 1), (38, .iload_n 2, 1), (39, .iadd, 1), (40, .istore 4, 2), (42, .iconst 3, 1)]
theorem aJ_450_4 : sx_iB prog_14_method_139_code aI_450_4 = true := by decide +kernel
def aI_450_5 : sx_IL := [(43, .iload 4, 2), (45, .imul, 1), (46, .iload_n 3, 1), (47, .iadd, 1), (48, .istore 5, 2), (50, .aload_n 0, 1)]
theorem aJ_450_5 : sx_iB prog_14_method_139_code aI_450_5 = true := by decide +kernel
def aI_450_6 : sx_IL := [(51, .getfield 219, 3), (54, .iload 4, 2), (56, .iaload, 1), (57, .ifCond .ne 13, 3), (60, .aload_n 0, 1), (61, .getfield 237, 3)]
theorem aJ_450_6 : sx_iB prog_14_method_139_code aI_450_6 = true := by decide +kernel
def aI_450_7 : sx_IL := [(64, .iload 5, 2), (66, .iaload, 1), (67, .ifCond .eq 6, 3), (70, .bipush (-2), 2), (72, .ireturn, 1), (73, .aload_n 0, 1)]
theorem aJ_450_7 : sx_iB prog_14_method_139_code aI_450_7 = true := by decide +kernel
def aI_450_8 : sx_IL := [(74, .getfield 228, 3), (77, .bipush 42, 2), (79, .iload 5, 2), (81, .imul, 1), (82, .invokestatic 941, 3), (85, .istore 6, 2)]
theorem aJ_450_8 : sx_iB prog_14_method_139_code aI_450_8 = true := by decide +kernel
def aI_450_9 : sx_IL := [(87, .aload_n 0, 1), (88, .iconst 0, 1), (89, .aload_n 0, 1), (90, .getfield 210, 3), (93, .bipush 8, 2), (95, .iload_n 1, 1)]
theorem aJ_450_9 : sx_iB prog_14_method_139_code aI_450_9 = true := by decide +kernel
def aI_450_10 : sx_IL := [(96, .imul, 1), (97, .aload_n 0, 1), (98, .getfield 216, 3), (101, .iload 4, 2), (103, .iaload, 1), (104, .iadd, 1)]
theorem aJ_450_10 : sx_iB prog_14_method_139_code aI_450_10 = true := by decide +kernel
def aI_450_11 : sx_IL := [(105, .laload, 1), (106, .bipush 122, 2), (108, .aload_n 0, 1), (109, .getfield 234, 3), (112, .iload 5, 2), (114, .iaload, 1)]
theorem aJ_450_11 : sx_iB prog_14_method_139_code aI_450_11 = true := by decide +kernel
def aI_450_12 : sx_IL := [(115, .i2l, 1), (116, .invokevirtual 598, 3), (119, .lstore 7, 2), (121, .aload_n 0, 1), (122, .getfield 237, 3), (125, .iload 5, 2)]
theorem aJ_450_12 : sx_iB prog_14_method_139_code aI_450_12 = true := by decide +kernel
def aI_450_13 : sx_IL := [(127, .iconst 2, 1), (128, .iastore, 1), (129, .iconst 0, 1), (130, .istore 9, 2), (132, .iload 9, 2), (134, .aload_n 0, 1)]
theorem aJ_450_13 : sx_iB prog_14_method_139_code aI_450_13 = true := by decide +kernel
def aI_450_14 : sx_IL := [(135, .getfield 938, 3), (138, .if_icmp .ge 74, 3), (141, .aload_n 0, 1), (142, .getfield 252, 3), (145, .iload 9, 2), (147, .laload, 1)]
theorem aJ_450_14 : sx_iB prog_14_method_139_code aI_450_14 = true := by decide +kernel
def aI_450_15 : sx_IL := [(148, .lload 7, 2), (150, .lcmp, 1), (151, .ifCond .ne 55, 3), (154, .aload_n 0, 1), (155, .getfield 228, 3), (158, .bipush 42, 2)]
theorem aJ_450_15 : sx_iB prog_14_method_139_code aI_450_15 = true := by decide +kernel
def aI_450_16 : sx_IL := [(160, .iload 5, 2), (162, .imul, 1), (163, .iload 6, 2), (165, .iadd, 1), (166, .aload_n 0, 1), (167, .getfield 231, 3)]
theorem aJ_450_16 : sx_iB prog_14_method_139_code aI_450_16 = true := by decide +kernel
def aI_450_17 : sx_IL := [(170, .iload 5, 2), (172, .iaload, 1), (173, .iload 6, 2), (175, .isub, 1), (176, .aload_n 0, 1), (177, .getfield 246, 3)]
theorem aJ_450_17 : sx_iB prog_14_method_139_code aI_450_17 = true := by decide +kernel
def aI_450_18 : sx_IL := [(180, .bipush 40, 2), (182, .iload 9, 2), (184, .imul, 1), (185, .aload_n 0, 1), (186, .getfield 249, 3), (189, .iload 9, 2)]
theorem aJ_450_18 : sx_iB prog_14_method_139_code aI_450_18 = true := by decide +kernel
def aI_450_19 : sx_IL := [(191, .iaload, 1), (192, .invokestatic 847, 3), (195, .ifCond .eq 11, 3), (198, .aload_n 0, 1), (199, .getfield 237, 3), (202, .iload 5, 2)]
theorem aJ_450_19 : sx_iB prog_14_method_139_code aI_450_19 = true := by decide +kernel
def aI_450_20 : sx_IL := [(204, .iconst 1, 1), (205, .iastore, 1), (206, .iinc 9 1, 3), (209, .goto (-77), 3), (212, .iconst 1, 1), (213, .istore 9, 2)]
theorem aJ_450_20 : sx_iB prog_14_method_139_code aI_450_20 = true := by decide +kernel
def aI_450_21 : sx_IL := [(215, .iconst 0, 1), (216, .istore 10, 2), (218, .iload 10, 2), (220, .aload_n 0, 1), (221, .getfield 225, 3), (224, .iload 4, 2)]
theorem aJ_450_21 : sx_iB prog_14_method_139_code aI_450_21 = true := by decide +kernel
def aI_450_22 : sx_IL := [(226, .iaload, 1), (227, .if_icmp .ge 37, 3), (230, .iload 9, 2), (232, .ifCond .eq 23, 3), (235, .aload_n 0, 1), (236, .getfield 237, 3)]
theorem aJ_450_22 : sx_iB prog_14_method_139_code aI_450_22 = true := by decide +kernel
def aI_450_23 : sx_IL := [(239, .iconst 3, 1), (240, .iload 4, 2), (242, .imul, 1), (243, .iload 10, 2), (245, .iadd, 1), (246, .iaload, 1)]
theorem aJ_450_23 : sx_iB prog_14_method_139_code aI_450_23 = true := by decide +kernel
def aI_450_24 : sx_IL := [(247, .iconst 1, 1), (248, .if_icmp .ne 7, 3), (251, .iconst 1, 1), (252, .goto 4, 3), (255, .iconst 0, 1), (256, .istore 9, 2)]
theorem aJ_450_24 : sx_iB prog_14_method_139_code aI_450_24 = true := by decide +kernel
def aI_450_25 : sx_IL := [(258, .iinc 10 1, 3), (261, .goto (-43), 3), (264, .aload_n 0, 1), (265, .getfield 219, 3), (268, .iload 4, 2), (270, .aload_n 0, 1)]
theorem aJ_450_25 : sx_iB prog_14_method_139_code aI_450_25 = true := by decide +kernel
def aI_450_26 : sx_IL := [(271, .getfield 237, 3), (274, .iload 5, 2), (276, .iaload, 1), (277, .iconst 2, 1), (278, .if_icmp .ne 7, 3), (281, .iconst 3, 1)]
theorem aJ_450_26 : sx_iB prog_14_method_139_code aI_450_26 = true := by decide +kernel
def aI_450_27 : sx_IL := [(282, .goto 13, 3), (285, .iload 9, 2), (287, .ifCond .eq 7, 3), (290, .iconst 1, 1), (291, .goto 4, 3), (294, .iconst 0, 1)]
theorem aJ_450_27 : sx_iB prog_14_method_139_code aI_450_27 = true := by decide +kernel
def aI_450_28 : sx_IL := [(295, .iastore, 1), (296, .aload_n 0, 1), (297, .getfield 237, 3), (300, .iload 5, 2), (302, .iaload, 1), (303, .ireturn, 1)]
theorem aJ_450_28 : sx_iB prog_14_method_139_code aI_450_28 = true := by decide +kernel
def aS_450 (pc : Nat) : sx_IL := (if pc < 135 then (if pc < 64 then (if pc < 25 then (if pc < 10 then aI_450_0 else (if pc < 19 then aI_450_1 else aI_450_2)) else (if pc < 43 then (if pc < 36 then aI_450_3 else aI_450_4) else (if pc < 51 then aI_450_5 else aI_450_6))) else (if pc < 96 then (if pc < 74 then aI_450_7 else (if pc < 87 then aI_450_8 else aI_450_9)) else (if pc < 115 then (if pc < 105 then aI_450_10 else aI_450_11) else (if pc < 127 then aI_450_12 else aI_450_13)))) else (if pc < 215 then (if pc < 170 then (if pc < 148 then aI_450_14 else (if pc < 160 then aI_450_15 else aI_450_16)) else (if pc < 191 then (if pc < 180 then aI_450_17 else aI_450_18) else (if pc < 204 then aI_450_19 else aI_450_20))) else (if pc < 258 then (if pc < 239 then (if pc < 226 then aI_450_21 else aI_450_22) else (if pc < 247 then aI_450_23 else aI_450_24)) else (if pc < 282 then (if pc < 271 then aI_450_25 else aI_450_26) else (if pc < 295 then aI_450_27 else aI_450_28)))))
theorem aT_450 (pc : Nat) : sx_iOk prog_14_method_139_code (aS_450 pc) := (sx_ite (p := fun l => sx_iOk prog_14_method_139_code l) (sx_ite (p := fun l => sx_iOk prog_14_method_139_code l) (sx_ite (p := fun l => sx_iOk prog_14_method_139_code l) (sx_ite (p := fun l => sx_iOk prog_14_method_139_code l) (sx_iB_s aJ_450_0) (sx_ite (p := fun l => sx_iOk prog_14_method_139_code l) (sx_iB_s aJ_450_1) (sx_iB_s aJ_450_2))) (sx_ite (p := fun l => sx_iOk prog_14_method_139_code l) (sx_ite (p := fun l => sx_iOk prog_14_method_139_code l) (sx_iB_s aJ_450_3) (sx_iB_s aJ_450_4)) (sx_ite (p := fun l => sx_iOk prog_14_method_139_code l) (sx_iB_s aJ_450_5) (sx_iB_s aJ_450_6)))) (sx_ite (p := fun l => sx_iOk prog_14_method_139_code l) (sx_ite (p := fun l => sx_iOk prog_14_method_139_code l) (sx_iB_s aJ_450_7) (sx_ite (p := fun l => sx_iOk prog_14_method_139_code l) (sx_iB_s aJ_450_8) (sx_iB_s aJ_450_9))) (sx_ite (p := fun l => sx_iOk prog_14_method_139_code l) (sx_ite (p := fun l => sx_iOk prog_14_method_139_code l) (sx_iB_s aJ_450_10) (sx_iB_s aJ_450_11)) (sx_ite (p := fun l => sx_iOk prog_14_method_139_code l) (sx_iB_s aJ_450_12) (sx_iB_s aJ_450_13))))) (sx_ite (p := fun l => sx_iOk prog_14_method_139_code l) (sx_ite (p := fun l => sx_iOk prog_14_method_139_code l) (sx_ite (p := fun l => sx_iOk prog_14_method_139_code l) (sx_iB_s aJ_450_14) (sx_ite (p := fun l => sx_iOk prog_14_method_139_code l) (sx_iB_s aJ_450_15) (sx_iB_s aJ_450_16))) (sx_ite (p := fun l => sx_iOk prog_14_method_139_code l) (sx_ite (p := fun l => sx_iOk prog_14_method_139_code l) (sx_iB_s aJ_450_17) (sx_iB_s aJ_450_18)) (sx_ite (p := fun l => sx_iOk prog_14_method_139_code l) (sx_iB_s aJ_450_19) (sx_iB_s aJ_450_20)))) (sx_ite (p := fun l => sx_iOk prog_14_method_139_code l) (sx_ite (p := fun l => sx_iOk prog_14_method_139_code l) (sx_ite (p := fun l => sx_iOk prog_14_method_139_code l) (sx_iB_s aJ_450_21) (sx_iB_s aJ_450_22)) (sx_ite (p := fun l => sx_iOk prog_14_method_139_code l) (sx_iB_s aJ_450_23) (sx_iB_s aJ_450_24))) (sx_ite (p := fun l => sx_iOk prog_14_method_139_code l) (sx_ite (p := fun l => sx_iOk prog_14_method_139_code l) (sx_iB_s aJ_450_25) (sx_iB_s aJ_450_26)) (sx_ite (p := fun l => sx_iOk prog_14_method_139_code l) (sx_iB_s aJ_450_27) (sx_iB_s aJ_450_28))))))
def aW_450 : Nat → Option (Instr × Nat) := fun pc => sx_iF (aS_450 pc) pc
theorem aX_450 : ∀ pc i len, aW_450 pc = some (i, len) → decode aM_450.1.2.1 pc = .ok (i, len) := fun pc i len h => sx_iF_s (aT_450 pc) h
def aI_451_0 : sx_IL := [(0, .aload_n 0, 1), (1, .iload_n 1, 1), (2, .iaload, 1), (3, .bipush 42, 2), (5, .if_icmp .ne 7, 3), (8, .iconst 2, 1)]
theorem aJ_451_0 : sx_iB prog_14_method_138_code aI_451_0 = true := by decide +kernel
def aI_451_1 : sx_IL := [(9, .goto 4, 3), (12, .iconst 0, 1), (13, .ireturn, 1)]
theorem aJ_451_1 : sx_iB prog_14_method_138_code aI_451_1 = true := by decide +kernel
def aS_451 (pc : Nat) : sx_IL := (if pc < 9 then aI_451_0 else aI_451_1)
theorem aT_451 (pc : Nat) : sx_iOk prog_14_method_138_code (aS_451 pc) := (sx_ite (p := fun l => sx_iOk prog_14_method_138_code l) (sx_iB_s aJ_451_0) (sx_iB_s aJ_451_1))
def aW_451 : Nat → Option (Instr × Nat) := fun pc => sx_iF (aS_451 pc) pc
theorem aX_451 : ∀ pc i len, aW_451 pc = some (i, len) → decode aM_451.1.2.1 pc = .ok (i, len) := fun pc i len h => sx_iF_s (aT_451 pc) h
def aI_457_0 : sx_IL := [(0, .aload_n 0, 1), (1, .iload_n 1, 1), (2, .invokevirtual 930, 3), (5, .ifCond .eq 21, 3), (8, .iload_n 2, 1), (9, .i2l, 1)]
theorem aJ_457_0 : sx_iB prog_14_method_143_code aI_457_0 = true := by decide +kernel
def aI_457_1 : sx_IL := [(10, .lconst 1, 1), (11, .aload_n 0, 1), (12, .getfield 198, 3), (15, .iload_n 1, 1), (16, .iaload, 1), (17, .iconst 1, 1)]
theorem aJ_457_1 : sx_iB prog_14_method_143_code aI_457_1 = true := by decide +kernel
def aI_457_2 : sx_IL := [(18, .isub, 1), (19, .i2l, 1), (20, .invokestatic 513, 3), (23, .ifCond .ne 5, 3), (26, .iconst (-1), 1), (27, .ireturn, 1)]
theorem aJ_457_2 : sx_iB prog_14_method_143_code aI_457_2 = true := by decide +kernel
def aI_457_3 : sx_IL := [(28, .aload_n 0, 1), (29, .iload_n 1, 1), (30, .iload_n 2, 1), (31, .invokevirtual 958, 3), (34, .ifCond .eq 6, 3), (37, .bipush (-2), 2)]
theorem aJ_457_3 : sx_iB prog_14_method_143_code aI_457_3 = true := by decide +kernel
def aI_457_4 : sx_IL := [(39, .ireturn, 1), (40, .aload_n 0, 1), (41, .getfield 240, 3), (44, .iload_n 1, 1), (45, .iaload, 1), (46, .bipush 40, 2)]
theorem aJ_457_4 : sx_iB prog_14_method_143_code aI_457_4 = true := by decide +kernel
def aI_457_5 : sx_IL := [(48, .if_icmp .ne 6, 3), (51, .bipush (-3), 2), (53, .ireturn, 1), (54, .aload_n 0, 1), (55, .getfield 240, 3), (58, .iload_n 1, 1)]
theorem aJ_457_5 : sx_iB prog_14_method_143_code aI_457_5 = true := by decide +kernel
def aI_457_6 : sx_IL := [(59, .iaload, 1), (60, .istore_n 3, 1), (61, .iload_n 3, 1), (62, .ifCond .le 50, 3), (65, .aload_n 0, 1), (66, .getfield 243, 3)]
theorem aJ_457_6 : sx_iB prog_14_method_143_code aI_457_6 = true := by decide +kernel
def aI_457_7 : sx_IL := [(69, .bipush 40, 2), (71, .iload_n 1, 1), (72, .imul, 1), (73, .iload_n 3, 1), (74, .iadd, 1), (75, .iconst 1, 1)]
theorem aJ_457_7 : sx_iB prog_14_method_143_code aI_457_7 = true := by decide +kernel
def aI_457_8 : sx_IL := [(76, .isub, 1), (77, .iaload, 1), (78, .iload_n 2, 1), (79, .if_icmp .le 33, 3), (82, .aload_n 0, 1), (83, .getfield 243, 3)]
theorem aJ_457_8 : sx_iB prog_14_method_143_code aI_457_8 = true := by decide +kernel
def aI_457_9 : sx_IL := [(86, .bipush 40, 2), (88, .iload_n 1, 1), (89, .imul, 1), (90, .iload_n 3, 1), (91, .iadd, 1), (92, .aload_n 0, 1)]
theorem aJ_457_9 : sx_iB prog_14_method_143_code aI_457_9 = true := by decide +kernel
def aI_457_10 : sx_IL := [(93, .getfield 243, 3), (96, .bipush 40, 2), (98, .iload_n 1, 1), (99, .imul, 1), (100, .iload_n 3, 1), (101, .iadd, 1)]
theorem aJ_457_10 : sx_iB prog_14_method_143_code aI_457_10 = true := by decide +kernel
def aI_457_11 : sx_IL := [(102, .iconst 1, 1), (103, .isub, 1), (104, .iaload, 1), (105, .iastore, 1), (106, .iinc 3 (-1), 3), (109, .goto (-48), 3)]
theorem aJ_457_11 : sx_iB prog_14_method_143_code aI_457_11 = true := by decide +kernel
def aI_457_12 : sx_IL := [(112, .aload_n 0, 1), (113, .getfield 243, 3), (116, .bipush 40, 2), (118, .iload_n 1, 1), (119, .imul, 1), (120, .iload_n 3, 1)]
theorem aJ_457_12 : sx_iB prog_14_method_143_code aI_457_12 = true := by decide +kernel
def aI_457_13 : sx_IL := [(121, .iadd, 1), (122, .iload_n 2, 1), (123, .iastore, 1), (124, .aload_n 0, 1), (125, .getfield 240, 3), (128, .iload_n 1, 1)]
theorem aJ_457_13 : sx_iB prog_14_method_143_code aI_457_13 = true := by decide +kernel
def aI_457_14 : sx_IL := [(129, .dup2, 1), (130, .iaload, 1), (131, .iconst 1, 1), (132, .iadd, 1), (133, .iastore, 1), (134, .aload_n 0, 1)]
theorem aJ_457_14 : sx_iB prog_14_method_143_code aI_457_14 = true := by decide +kernel
def aI_457_15 : sx_IL := [(135, .getfield 240, 3), (138, .iload_n 1, 1), (139, .iaload, 1), (140, .ireturn, 1)]
theorem aJ_457_15 : sx_iB prog_14_method_143_code aI_457_15 = true := by decide +kernel
def aS_457 (pc : Nat) : sx_IL := (if pc < 76 then (if pc < 39 then (if pc < 18 then (if pc < 10 then aI_457_0 else aI_457_1) else (if pc < 28 then aI_457_2 else aI_457_3)) else (if pc < 59 then (if pc < 48 then aI_457_4 else aI_457_5) else (if pc < 69 then aI_457_6 else aI_457_7))) else (if pc < 112 then (if pc < 93 then (if pc < 86 then aI_457_8 else aI_457_9) else (if pc < 102 then aI_457_10 else aI_457_11)) else (if pc < 129 then (if pc < 121 then aI_457_12 else aI_457_13) else (if pc < 135 then aI_457_14 else aI_457_15))))
theorem aT_457 (pc : Nat) : sx_iOk prog_14_method_143_code (aS_457 pc) := (sx_ite (p := fun l => sx_iOk prog_14_method_143_code l) (sx_ite (p := fun l => sx_iOk prog_14_method_143_code l) (sx_ite (p := fun l => sx_iOk prog_14_method_143_code l) (sx_ite (p := fun l => sx_iOk prog_14_method_143_code l) (sx_iB_s aJ_457_0) (sx_iB_s aJ_457_1)) (sx_ite (p := fun l => sx_iOk prog_14_method_143_code l) (sx_iB_s aJ_457_2) (sx_iB_s aJ_457_3))) (sx_ite (p := fun l => sx_iOk prog_14_method_143_code l) (sx_ite (p := fun l => sx_iOk prog_14_method_143_code l) (sx_iB_s aJ_457_4) (sx_iB_s aJ_457_5)) (sx_ite (p := fun l => sx_iOk prog_14_method_143_code l) (sx_iB_s aJ_457_6) (sx_iB_s aJ_457_7)))) (sx_ite (p := fun l => sx_iOk prog_14_method_143_code l) (sx_ite (p := fun l => sx_iOk prog_14_method_143_code l) (sx_ite (p := fun l => sx_iOk prog_14_method_143_code l) (sx_iB_s aJ_457_8) (sx_iB_s aJ_457_9)) (sx_ite (p := fun l => sx_iOk prog_14_method_143_code l) (sx_iB_s aJ_457_10) (sx_iB_s aJ_457_11))) (sx_ite (p := fun l => sx_iOk prog_14_method_143_code l) (sx_ite (p := fun l => sx_iOk prog_14_method_143_code l) (sx_iB_s aJ_457_12) (sx_iB_s aJ_457_13)) (sx_ite (p := fun l => sx_iOk prog_14_method_143_code l) (sx_iB_s aJ_457_14) (sx_iB_s aJ_457_15)))))
def aW_457 : Nat → Option (Instr × Nat) := fun pc => sx_iF (aS_457 pc) pc
theorem aX_457 : ∀ pc i len, aW_457 pc = some (i, len) → decode aM_457.1.2.1 pc = .ok (i, len) := fun pc i len h => sx_iF_s (aT_457 pc) h
def aI_458_0 : sx_IL := [(0, .iconst 0, 1), (1, .istore_n 3, 1), (2, .iconst 0, 1), (3, .istore 4, 2), (5, .iload 4, 2), (7, .aload_n 0, 1)]
theorem aJ_458_0 : sx_iB prog_14_method_144_code aI_458_0 = true := by decide +kernel
def aI_458_1 : sx_IL := [(8, .getfield 240, 3), (11, .iload_n 1, 1), (12, .iaload, 1), (13, .if_icmp .ge 35, 3), (16, .iload_n 3, 1), (17, .ifCond .ne 19, 3)]
theorem aJ_458_1 : sx_iB prog_14_method_144_code aI_458_1 = true := by decide +kernel
def aI_458_2 : sx_IL := [(20, .aload_n 0, 1), (21, .getfield 243, 3), (24, .bipush 40, 2), (26, .iload_n 1, 1), (27, .imul, 1), (28, .iload 4, 2)]
theorem aJ_458_2 : sx_iB prog_14_method_144_code aI_458_2 = true := by decide +kernel
def aI_458_3 : sx_IL := [(30, .iadd, 1), (31, .iaload, 1), (32, .iload_n 2, 1), (33, .if_icmp .ne 7, 3), (36, .iconst 1, 1), (37, .goto 4, 3)]
theorem aJ_458_3 : sx_iB prog_14_method_144_code aI_458_3 = true := by decide +kernel
def aI_458_4 : sx_IL := [(40, .iconst 0, 1), (41, .istore_n 3, 1), (42, .iinc 4 1, 3), (45, .goto (-40), 3), (48, .iload_n 3, 1), (49, .ireturn, 1)]
theorem aJ_458_4 : sx_iB prog_14_method_144_code aI_458_4 = true := by decide +kernel
def aS_458 (pc : Nat) : sx_IL := (if pc < 20 then (if pc < 8 then aI_458_0 else aI_458_1) else (if pc < 30 then aI_458_2 else (if pc < 40 then aI_458_3 else aI_458_4)))
theorem aT_458 (pc : Nat) : sx_iOk prog_14_method_144_code (aS_458 pc) := (sx_ite (p := fun l => sx_iOk prog_14_method_144_code l) (sx_ite (p := fun l => sx_iOk prog_14_method_144_code l) (sx_iB_s aJ_458_0) (sx_iB_s aJ_458_1)) (sx_ite (p := fun l => sx_iOk prog_14_method_144_code l) (sx_iB_s aJ_458_2) (sx_ite (p := fun l => sx_iOk prog_14_method_144_code l) (sx_iB_s aJ_458_3) (sx_iB_s aJ_458_4))))
def aW_458 : Nat → Option (Instr × Nat) := fun pc => sx_iF (aS_458 pc) pc
theorem aX_458 : ∀ pc i len, aW_458 pc = some (i, len) → decode aM_458.1.2.1 pc = .ok (i, len) := fun pc i len h => sx_iF_s (aT_458 pc) h
def aI_461_0 : sx_IL := [(0, .iload_n 1, 1), (1, .iconst (-1), 1), (2, .if_icmp .eq 20, 3), (5, .aload_n 0, 1), (6, .iload_n 1, 1), (7, .invokevirtual 894, 3)]
theorem aJ_461_0 : sx_iB prog_14_method_176_code aI_461_0 = true := by decide +kernel
def aI_461_1 : sx_IL := [(10, .ifCond .eq 16, 3), (13, .aload_n 0, 1), (14, .getfield 93, 3), (17, .iload_n 1, 1), (18, .iaload, 1), (19, .ifCond .ne 7, 3)]
theorem aJ_461_1 : sx_iB prog_14_method_176_code aI_461_1 = true := by decide +kernel
def aI_461_2 : sx_IL := [(22, .iconst 1, 1), (23, .goto 4, 3), (26, .iconst 0, 1), (27, .istore_n 3, 1), (28, .iload_n 2, 1), (29, .iconst (-1), 1)]
theorem aJ_461_2 : sx_iB prog_14_method_176_code aI_461_2 = true := by decide +kernel
def aI_461_3 : sx_IL := [(30, .if_icmp .eq 21, 3), (33, .aload_n 0, 1), (34, .iload_n 2, 1), (35, .invokevirtual 894, 3), (38, .ifCond .eq 17, 3), (41, .aload_n 0, 1)]
theorem aJ_461_3 : sx_iB prog_14_method_176_code aI_461_3 = true := by decide +kernel
def aI_461_4 : sx_IL := [(42, .getfield 93, 3), (45, .iload_n 2, 1), (46, .iaload, 1), (47, .iconst 1, 1), (48, .if_icmp .ne 7, 3), (51, .iconst 1, 1)]
theorem aJ_461_4 : sx_iB prog_14_method_176_code aI_461_4 = true := by decide +kernel
def aI_461_5 : sx_IL := [(52, .goto 4, 3), (55, .iconst 0, 1), (56, .istore 4, 2), (58, .iload_n 3, 1), (59, .ifCond .eq 18, 3), (62, .iload 4, 2)]
theorem aJ_461_5 : sx_iB prog_14_method_176_code aI_461_5 = true := by decide +kernel
def aI_461_6 : sx_IL := [(64, .ifCond .eq 13, 3), (67, .iload_n 1, 1), (68, .iconst (-1), 1), (69, .if_icmp .ne 10, 3), (72, .iload_n 2, 1), (73, .iconst (-1), 1)]
theorem aJ_461_6 : sx_iB prog_14_method_176_code aI_461_6 = true := by decide +kernel
def aI_461_7 : sx_IL := [(74, .if_icmp .ne 5, 3), (77, .iconst (-1), 1), (78, .ireturn, 1), (79, .aload_n 0, 1), (80, .getfield 961, 3), (83, .bipush 12, 2)]
theorem aJ_461_7 : sx_iB prog_14_method_176_code aI_461_7 = true := by decide +kernel
def aI_461_8 : sx_IL := [(85, .if_icmp .ne 6, 3), (88, .bipush (-3), 2), (90, .ireturn, 1), (91, .aload_n 0, 1), (92, .getfield 961, 3), (95, .istore 5, 2)]
theorem aJ_461_8 : sx_iB prog_14_method_176_code aI_461_8 = true := by decide +kernel
def aI_461_9 : sx_IL := [(97, .aload_n 0, 1), (98, .dup, 1), (99, .getfield 961, 3), (102, .iconst 1, 1), (103, .iadd, 1), (104, .putfield 961, 3)]
theorem aJ_461_9 : sx_iB prog_14_method_176_code aI_461_9 = true := by decide +kernel
def aI_461_10 : sx_IL := [(107, .iconst 2, 1), (108, .iload 5, 2), (110, .imul, 1), (111, .istore 6, 2), (113, .iload 6, 2), (115, .iconst 2, 1)]
theorem aJ_461_10 : sx_iB prog_14_method_176_code aI_461_10 = true := by decide +kernel
def aI_461_11 : sx_IL := [(116, .iload 5, 2), (118, .imul, 1), (119, .iconst 2, 1), (120, .iadd, 1), (121, .if_icmp .ge 80, 3), (124, .aload_n 0, 1)]
theorem aJ_461_11 : sx_iB prog_14_method_176_code aI_461_11 = true := by decide +kernel
def aI_461_12 : sx_IL := [(125, .getfield 261, 3), (128, .iload 6, 2), (130, .iload 6, 2), (132, .iconst 2, 1), (133, .iload 5, 2), (135, .imul, 1)]
theorem aJ_461_12 : sx_iB prog_14_method_176_code aI_461_12 = true := by decide +kernel
def aI_461_13 : sx_IL := [(136, .if_icmp .ne 7, 3), (139, .iload_n 1, 1), (140, .goto 4, 3), (143, .iload_n 2, 1), (144, .iastore, 1), (145, .aload_n 0, 1)]
theorem aJ_461_13 : sx_iB prog_14_method_176_code aI_461_13 = true := by decide +kernel
def aI_461_14 : sx_IL := [(146, .getfield 303, 3), (149, .iload 6, 2), (151, .bipush (-4), 2), (153, .iastore, 1), (154, .aload_n 0, 1), (155, .getfield 306, 3)]
theorem aJ_461_14 : sx_iB prog_14_method_176_code aI_461_14 = true := by decide +kernel
def aI_461_15 : sx_IL := [(158, .iload 6, 2), (160, .bipush (-4), 2), (162, .iastore, 1), (163, .iconst 0, 1), (164, .istore 7, 2), (166, .iload 7, 2)]
theorem aJ_461_15 : sx_iB prog_14_method_176_code aI_461_15 = true := by decide +kernel
def aI_461_16 : sx_IL := [(168, .iconst 2, 1), (169, .if_icmp .ge 26, 3), (172, .aload_n 0, 1), (173, .iload 7, 2), (175, .invokevirtual 568, 3), (178, .aload_n 0, 1)]
theorem aJ_461_16 : sx_iB prog_14_method_176_code aI_461_16 = true := by decide +kernel
def aI_461_17 : sx_IL := [(179, .iconst 2, 1), (180, .iload 6, 2), (182, .imul, 1), (183, .iload 7, 2), (185, .iadd, 1), (186, .invokevirtual 970, 3)]
theorem aJ_461_17 : sx_iB prog_14_method_176_code aI_461_17 = true := by decide +kernel
def aI_461_18 : sx_IL := [(189, .iinc 7 1, 3), (192, .goto (-26), 3), (195, .iinc 6 1, 3), (198, .goto (-85), 3), (201, .aload_n 0, 1), (202, .getfield 453, 3)]
theorem aJ_461_18 : sx_iB prog_14_method_176_code aI_461_18 = true := by decide +kernel
def aI_461_19 : sx_IL := [(205, .iload 5, 2), (207, .bipush (-4), 2), (209, .iastore, 1), (210, .iload_n 1, 1), (211, .ifCond .lt 9, 3), (214, .aload_n 0, 1)]
theorem aJ_461_19 : sx_iB prog_14_method_176_code aI_461_19 = true := by decide +kernel
def aI_461_20 : sx_IL := [(215, .iload 5, 2), (217, .invokevirtual 1038, 3), (220, .iload 5, 2), (222, .ireturn, 1)]
theorem aJ_461_20 : sx_iB prog_14_method_176_code aI_461_20 = true := by decide +kernel
def aS_461 (pc : Nat) : sx_IL := (if pc < 107 then (if pc < 52 then (if pc < 22 then (if pc < 10 then aI_461_0 else aI_461_1) else (if pc < 30 then aI_461_2 else (if pc < 42 then aI_461_3 else aI_461_4))) else (if pc < 74 then (if pc < 64 then aI_461_5 else aI_461_6) else (if pc < 85 then aI_461_7 else (if pc < 97 then aI_461_8 else aI_461_9)))) else (if pc < 158 then (if pc < 125 then (if pc < 116 then aI_461_10 else aI_461_11) else (if pc < 136 then aI_461_12 else (if pc < 146 then aI_461_13 else aI_461_14))) else (if pc < 189 then (if pc < 168 then aI_461_15 else (if pc < 179 then aI_461_16 else aI_461_17)) else (if pc < 205 then aI_461_18 else (if pc < 215 then aI_461_19 else aI_461_20)))))
theorem aT_461 (pc : Nat) : sx_iOk prog_14_method_176_code (aS_461 pc) := (sx_ite (p := fun l => sx_iOk prog_14_method_176_code l) (sx_ite (p := fun l => sx_iOk prog_14_method_176_code l) (sx_ite (p := fun l => sx_iOk prog_14_method_176_code l) (sx_ite (p := fun l => sx_iOk prog_14_method_176_code l) (sx_iB_s aJ_461_0) (sx_iB_s aJ_461_1)) (sx_ite (p := fun l => sx_iOk prog_14_method_176_code l) (sx_iB_s aJ_461_2) (sx_ite (p := fun l => sx_iOk prog_14_method_176_code l) (sx_iB_s aJ_461_3) (sx_iB_s aJ_461_4)))) (sx_ite (p := fun l => sx_iOk prog_14_method_176_code l) (sx_ite (p := fun l => sx_iOk prog_14_method_176_code l) (sx_iB_s aJ_461_5) (sx_iB_s aJ_461_6)) (sx_ite (p := fun l => sx_iOk prog_14_method_176_code l) (sx_iB_s aJ_461_7) (sx_ite (p := fun l => sx_iOk prog_14_method_176_code l) (sx_iB_s aJ_461_8) (sx_iB_s aJ_461_9))))) (sx_ite (p := fun l => sx_iOk prog_14_method_176_code l) (sx_ite (p := fun l => sx_iOk prog_14_method_176_code l) (sx_ite (p := fun l => sx_iOk prog_14_method_176_code l) (sx_iB_s aJ_461_10) (sx_iB_s aJ_461_11)) (sx_ite (p := fun l => sx_iOk prog_14_method_176_code l) (sx_iB_s aJ_461_12) (sx_ite (p := fun l => sx_iOk prog_14_method_176_code l) (sx_iB_s aJ_461_13) (sx_iB_s aJ_461_14)))) (sx_ite (p := fun l => sx_iOk prog_14_method_176_code l) (sx_ite (p := fun l => sx_iOk prog_14_method_176_code l) (sx_iB_s aJ_461_15) (sx_ite (p := fun l => sx_iOk prog_14_method_176_code l) (sx_iB_s aJ_461_16) (sx_iB_s aJ_461_17))) (sx_ite (p := fun l => sx_iOk prog_14_method_176_code l) (sx_iB_s aJ_461_18) (sx_ite (p := fun l => sx_iOk prog_14_method_176_code l) (sx_iB_s aJ_461_19) (sx_iB_s aJ_461_20))))))
def aW_461 : Nat → Option (Instr × Nat) := fun pc => sx_iF (aS_461 pc) pc
theorem aX_461 : ∀ pc i len, aW_461 pc = some (i, len) → decode aM_461.1.2.1 pc = .ok (i, len) := fun pc i len h => sx_iF_s (aT_461 pc) h
def aI_462_0 : sx_IL := [(0, .aload_n 0, 1), (1, .getfield 387, 3), (4, .iload_n 1, 1), (5, .aload_n 0, 1), (6, .getfield 526, 3), (9, .iastore, 1)]
theorem aJ_462_0 : sx_iB prog_14_method_149_code aI_462_0 = true := by decide +kernel
def aI_462_1 : sx_IL := [(10, .aload_n 0, 1), (11, .getfield 390, 3), (14, .iload_n 1, 1), (15, .aload_n 0, 1), (16, .getfield 529, 3), (19, .iastore, 1)]
theorem aJ_462_1 : sx_iB prog_14_method_149_code aI_462_1 = true := by decide +kernel
def aI_462_2 : sx_IL := [(20, .aload_n 0, 1), (21, .getfield 393, 3), (24, .iload_n 1, 1), (25, .aload_n 0, 1), (26, .getfield 539, 3), (29, .iastore, 1)]
theorem aJ_462_2 : sx_iB prog_14_method_149_code aI_462_2 = true := by decide +kernel
def aI_462_3 : sx_IL := [(30, .aload_n 0, 1), (31, .getfield 396, 3), (34, .iload_n 1, 1), (35, .aload_n 0, 1), (36, .getfield 532, 3), (39, .iastore, 1)]
theorem aJ_462_3 : sx_iB prog_14_method_149_code aI_462_3 = true := by decide +kernel
def aI_462_4 : sx_IL := [(40, .aload_n 0, 1), (41, .getfield 399, 3), (44, .iload_n 1, 1), (45, .aload_n 0, 1), (46, .getfield 544, 3), (49, .iastore, 1)]
theorem aJ_462_4 : sx_iB prog_14_method_149_code aI_462_4 = true := by decide +kernel
def aI_462_5 : sx_IL := [(50, .aload_n 0, 1), (51, .getfield 402, 3), (54, .iload_n 1, 1), (55, .aload_n 0, 1), (56, .getfield 551, 3), (59, .iastore, 1)]
theorem aJ_462_5 : sx_iB prog_14_method_149_code aI_462_5 = true := by decide +kernel
def aI_462_6 : sx_IL := [(60, .aload_n 0, 1), (61, .getfield 405, 3), (64, .iload_n 1, 1), (65, .aload_n 0, 1), (66, .getfield 547, 3), (69, .lastore, 1)]
theorem aJ_462_6 : sx_iB prog_14_method_149_code aI_462_6 = true := by decide +kernel
def aI_462_7 : sx_IL := [(70, .return_, 1)]
theorem aJ_462_7 : sx_iB prog_14_method_149_code aI_462_7 = true := by decide +kernel
def aS_462 (pc : Nat) : sx_IL := (if pc < 40 then (if pc < 20 then (if pc < 10 then aI_462_0 else aI_462_1) else (if pc < 30 then aI_462_2 else aI_462_3)) else (if pc < 60 then (if pc < 50 then aI_462_4 else aI_462_5) else (if pc < 70 then aI_462_6 else aI_462_7)))
theorem aT_462 (pc : Nat) : sx_iOk prog_14_method_149_code (aS_462 pc) := (sx_ite (p := fun l => sx_iOk prog_14_method_149_code l) (sx_ite (p := fun l => sx_iOk prog_14_method_149_code l) (sx_ite (p := fun l => sx_iOk prog_14_method_149_code l) (sx_iB_s aJ_462_0) (sx_iB_s aJ_462_1)) (sx_ite (p := fun l => sx_iOk prog_14_method_149_code l) (sx_iB_s aJ_462_2) (sx_iB_s aJ_462_3))) (sx_ite (p := fun l => sx_iOk prog_14_method_149_code l) (sx_ite (p := fun l => sx_iOk prog_14_method_149_code l) (sx_iB_s aJ_462_4) (sx_iB_s aJ_462_5)) (sx_ite (p := fun l => sx_iOk prog_14_method_149_code l) (sx_iB_s aJ_462_6) (sx_iB_s aJ_462_7))))
def aW_462 : Nat → Option (Instr × Nat) := fun pc => sx_iF (aS_462 pc) pc
theorem aX_462 : ∀ pc i len, aW_462 pc = some (i, len) → decode aM_462.1.2.1 pc = .ok (i, len) := fun pc i len h => sx_iF_s (aT_462 pc) h
def aI_463_0 : sx_IL := [(0, .iconst 2, 1), (1, .iload_n 1, 1), (2, .imul, 1), (3, .istore_n 2, 1), (4, .aload_n 0, 1), (5, .getfield 261, 3)]
theorem aJ_463_0 : sx_iB prog_14_method_174_code aI_463_0 = true := by decide +kernel
def aI_463_1 : sx_IL := [(8, .iload_n 2, 1), (9, .iaload, 1), (10, .istore_n 3, 1), (11, .aload_n 0, 1), (12, .getfield 408, 3), (15, .iload_n 1, 1)]
theorem aJ_463_1 : sx_iB prog_14_method_174_code aI_463_1 = true := by decide +kernel
def aI_463_2 : sx_IL := [(16, .aload_n 0, 1), (17, .iload_n 3, 1), (18, .invokevirtual 1018, 3), (21, .lastore, 1), (22, .aload_n 0, 1), (23, .getfield 411, 3)]
theorem aJ_463_2 : sx_iB prog_14_method_174_code aI_463_2 = true := by decide +kernel
def aI_463_3 : sx_IL := [(26, .iload_n 1, 1), (27, .aload_n 0, 1), (28, .getfield 102, 3), (31, .bipush 8, 2), (33, .iload_n 3, 1), (34, .imul, 1)]
theorem aJ_463_3 : sx_iB prog_14_method_174_code aI_463_3 = true := by decide +kernel
def aI_463_4 : sx_IL := [(35, .iconst 5, 1), (36, .iadd, 1), (37, .iaload, 1), (38, .iconst 1, 1), (39, .if_icmp .ne 17, 3), (42, .aload_n 0, 1)]
theorem aJ_463_4 : sx_iB prog_14_method_174_code aI_463_4 = true := by decide +kernel
def aI_463_5 : sx_IL := [(43, .getfield 96, 3), (46, .bipush 12, 2), (48, .iload_n 3, 1), (49, .imul, 1), (50, .iconst 4, 1), (51, .iadd, 1)]
theorem aJ_463_5 : sx_iB prog_14_method_174_code aI_463_5 = true := by decide +kernel
def aI_463_6 : sx_IL := [(52, .iaload, 1), (53, .goto 4, 3), (56, .iconst 0, 1), (57, .iastore, 1), (58, .aload_n 0, 1), (59, .getfield 414, 3)]
theorem aJ_463_6 : sx_iB prog_14_method_174_code aI_463_6 = true := by decide +kernel
def aI_463_7 : sx_IL := [(62, .iload_n 1, 1), (63, .aload_n 0, 1), (64, .getfield 411, 3), (67, .iload_n 1, 1), (68, .iaload, 1), (69, .ifCond .le 11, 3)]
theorem aJ_463_7 : sx_iB prog_14_method_174_code aI_463_7 = true := by decide +kernel
def aI_463_8 : sx_IL := [(72, .aload_n 0, 1), (73, .iload_n 3, 1), (74, .invokevirtual 1021, 3), (77, .goto 4, 3), (80, .iconst 0, 1), (81, .iastore, 1)]
theorem aJ_463_8 : sx_iB prog_14_method_174_code aI_463_8 = true := by decide +kernel
def aI_463_9 : sx_IL := [(82, .aload_n 0, 1), (83, .getfield 420, 3), (86, .iload_n 1, 1), (87, .iconst 0, 1), (88, .iastore, 1), (89, .iconst 0, 1)]
theorem aJ_463_9 : sx_iB prog_14_method_174_code aI_463_9 = true := by decide +kernel
def aI_463_10 : sx_IL := [(90, .istore 4, 2), (92, .iconst 0, 1), (93, .istore 5, 2), (95, .iconst 0, 1), (96, .istore 6, 2), (98, .iload 6, 2)]
theorem aJ_463_10 : sx_iB prog_14_method_174_code aI_463_10 = true := by decide +kernel
def aI_463_11 : sx_IL := [(100, .aload_n 0, 1), (101, .getfield 132, 3), (104, .iload_n 3, 1), (105, .iaload, 1), (106, .if_icmp .ge 151, 3), (109, .bipush 6, 2)]
theorem aJ_463_11 : sx_iB prog_14_method_174_code aI_463_11 = true := by decide +kernel
def aI_463_12 : sx_IL := [(111, .iload_n 3, 1), (112, .imul, 1), (113, .iload 6, 2), (115, .iadd, 1), (116, .istore 7, 2), (118, .iconst 0, 1)]
theorem aJ_463_12 : sx_iB prog_14_method_174_code aI_463_12 = true := by decide +kernel
def aI_463_13 : sx_IL := [(119, .istore 8, 2), (121, .iconst 0, 1), (122, .istore 9, 2), (124, .iload 9, 2), (126, .aload_n 0, 1), (127, .getfield 99, 3)]
theorem aJ_463_13 : sx_iB prog_14_method_174_code aI_463_13 = true := by decide +kernel
def aI_463_14 : sx_IL := [(130, .iconst 3, 1), (131, .iload_n 3, 1), (132, .imul, 1), (133, .iaload, 1), (134, .if_icmp .ge 46, 3), (137, .iload 8, 2)]
theorem aJ_463_14 : sx_iB prog_14_method_174_code aI_463_14 = true := by decide +kernel
def aI_463_15 : sx_IL := [(139, .ifCond .ne 28, 3), (142, .aload_n 0, 1), (143, .getfield 96, 3), (146, .bipush 12, 2), (148, .iload_n 3, 1), (149, .imul, 1)]
theorem aJ_463_15 : sx_iB prog_14_method_174_code aI_463_15 = true := by decide +kernel
def aI_463_16 : sx_IL := [(150, .iload 9, 2), (152, .iadd, 1), (153, .iaload, 1), (154, .invokestatic 602, 3), (157, .aload_n 0, 1), (158, .getfield 144, 3)]
theorem aJ_463_16 : sx_iB prog_14_method_174_code aI_463_16 = true := by decide +kernel
def aI_463_17 : sx_IL := [(161, .iload 7, 2), (163, .iaload, 1), (164, .if_icmp .ne 7, 3), (167, .iconst 1, 1), (168, .goto 4, 3), (171, .iconst 0, 1)]
theorem aJ_463_17 : sx_iB prog_14_method_174_code aI_463_17 = true := by decide +kernel
def aI_463_18 : sx_IL := [(172, .istore 8, 2), (174, .iinc 9 1, 3), (177, .goto (-53), 3), (180, .iload 8, 2), (182, .ifCond .eq 69, 3), (185, .aload_n 0, 1)]
theorem aJ_463_18 : sx_iB prog_14_method_174_code aI_463_18 = true := by decide +kernel
def aI_463_19 : sx_IL := [(186, .getfield 420, 3), (189, .iload_n 1, 1), (190, .iaload, 1), (191, .ifCond .ne 53, 3), (194, .aload_n 0, 1), (195, .getfield 147, 3)]
theorem aJ_463_19 : sx_iB prog_14_method_174_code aI_463_19 = true := by decide +kernel
def aI_463_20 : sx_IL := [(198, .iload 7, 2), (200, .baload, 1), (201, .ifCond .eq 27, 3), (204, .aload_n 0, 1), (205, .getfield 150, 3), (208, .iconst 5, 1)]
theorem aJ_463_20 : sx_iB prog_14_method_174_code aI_463_20 = true := by decide +kernel
def aI_463_21 : sx_IL := [(209, .iload 7, 2), (211, .imul, 1), (212, .iconst 2, 1), (213, .iadd, 1), (214, .iaload, 1), (215, .aload_n 0, 1)]
theorem aJ_463_21 : sx_iB prog_14_method_174_code aI_463_21 = true := by decide +kernel
def aI_463_22 : sx_IL := [(216, .getfield 156, 3), (219, .iload_n 3, 1), (220, .iaload, 1), (221, .if_icmp .lt 7, 3), (224, .iconst 1, 1), (225, .goto 4, 3)]
theorem aJ_463_22 : sx_iB prog_14_method_174_code aI_463_22 = true := by decide +kernel
def aI_463_23 : sx_IL := [(228, .iconst 0, 1), (229, .istore 5, 2), (231, .aload_n 0, 1), (232, .getfield 150, 3), (235, .iconst 5, 1), (236, .iload 7, 2)]
theorem aJ_463_23 : sx_iB prog_14_method_174_code aI_463_23 = true := by decide +kernel
def aI_463_24 : sx_IL := [(238, .imul, 1), (239, .iconst 3, 1), (240, .iadd, 1), (241, .iaload, 1), (242, .istore 4, 2), (244, .aload_n 0, 1)]
theorem aJ_463_24 : sx_iB prog_14_method_174_code aI_463_24 = true := by decide +kernel
def aI_463_25 : sx_IL := [(245, .iload_n 1, 1), (246, .iload 7, 2), (248, .invokevirtual 1024, 3), (251, .iinc 6 1, 3), (254, .goto (-156), 3), (257, .aload_n 0, 1)]
theorem aJ_463_25 : sx_iB prog_14_method_174_code aI_463_25 = true := by decide +kernel
def aI_463_26 : sx_IL := [(258, .getfield 417, 3), (261, .iload_n 1, 1), (262, .aload_n 0, 1), (263, .getfield 420, 3), (266, .iload_n 1, 1), (267, .iaload, 1)]
theorem aJ_463_26 : sx_iB prog_14_method_174_code aI_463_26 = true := by decide +kernel
def aI_463_27 : sx_IL := [(268, .ifCond .ne 7, 3), (271, .iconst 0, 1), (272, .goto 24, 3), (275, .aload_n 0, 1), (276, .getfield 102, 3), (279, .bipush 8, 2)]
theorem aJ_463_27 : sx_iB prog_14_method_174_code aI_463_27 = true := by decide +kernel
def aI_463_28 : sx_IL := [(281, .iload_n 3, 1), (282, .imul, 1), (283, .bipush 6, 2), (285, .iadd, 1), (286, .iaload, 1), (287, .iconst 1, 1)]
theorem aJ_463_28 : sx_iB prog_14_method_174_code aI_463_28 = true := by decide +kernel
def aI_463_29 : sx_IL := [(288, .if_icmp .ne 7, 3), (291, .iconst 3, 1), (292, .goto 4, 3), (295, .iconst 2, 1), (296, .iastore, 1), (297, .aload_n 0, 1)]
theorem aJ_463_29 : sx_iB prog_14_method_174_code aI_463_29 = true := by decide +kernel
def aI_463_30 : sx_IL := [(298, .getfield 441, 3), (301, .iload_n 1, 1), (302, .iload 5, 2), (304, .ifCond .eq 16, 3), (307, .aload_n 0, 1), (308, .getfield 156, 3)]
theorem aJ_463_30 : sx_iB prog_14_method_174_code aI_463_30 = true := by decide +kernel
def aI_463_31 : sx_IL := [(311, .iload_n 3, 1), (312, .iaload, 1), (313, .ifCond .le 7, 3), (316, .iconst 1, 1), (317, .goto 4, 3), (320, .iconst 0, 1)]
theorem aJ_463_31 : sx_iB prog_14_method_174_code aI_463_31 = true := by decide +kernel
def aI_463_32 : sx_IL := [(321, .bastore, 1), (322, .aload_n 0, 1), (323, .iload_n 1, 1), (324, .aload_n 0, 1), (325, .getfield 441, 3), (328, .iload_n 1, 1)]
theorem aJ_463_32 : sx_iB prog_14_method_174_code aI_463_32 = true := by decide +kernel
def aI_463_33 : sx_IL := [(329, .baload, 1), (330, .invokevirtual 1027, 3), (333, .aload_n 0, 1), (334, .iload_n 2, 1), (335, .iconst 1, 1), (336, .invokevirtual 1031, 3)]
theorem aJ_463_33 : sx_iB prog_14_method_174_code aI_463_33 = true := by decide +kernel
def aI_463_34 : sx_IL := [(339, .aload_n 0, 1), (340, .getfield 441, 3), (343, .iload_n 1, 1), (344, .baload, 1), (345, .ifCond .eq 123, 3), (348, .aload_n 0, 1)]
theorem aJ_463_34 : sx_iB prog_14_method_174_code aI_463_34 = true := by decide +kernel
def aI_463_35 : sx_IL := [(349, .getfield 432, 3), (352, .bipush 6, 2), (354, .iload_n 1, 1), (355, .imul, 1), (356, .iaload, 1), (357, .istore 6, 2)]
theorem aJ_463_35 : sx_iB prog_14_method_174_code aI_463_35 = true := by decide +kernel
def aI_463_36 : sx_IL := [(359, .aload_n 0, 1), (360, .iload_n 2, 1), (361, .iload 4, 2), (363, .aload_n 0, 1), (364, .iload 6, 2), (366, .aload_n 0, 1)]
theorem aJ_463_36 : sx_iB prog_14_method_174_code aI_463_36 = true := by decide +kernel
def aI_463_37 : sx_IL := [(367, .iload 6, 2), (369, .aload_n 0, 1), (370, .getfield 429, 3), (373, .bipush 6, 2), (375, .iload_n 1, 1), (376, .imul, 1)]
theorem aJ_463_37 : sx_iB prog_14_method_174_code aI_463_37 = true := by decide +kernel
def aI_463_38 : sx_IL := [(377, .laload, 1), (378, .invokevirtual 1001, 3), (381, .bipush 101, 2), (383, .aload_n 0, 1), (384, .iload_n 2, 1), (385, .iload 6, 2)]
theorem aJ_463_38 : sx_iB prog_14_method_174_code aI_463_38 = true := by decide +kernel
def aI_463_39 : sx_IL := [(387, .invokevirtual 973, 3), (390, .invokevirtual 598, 3), (393, .invokevirtual 1034, 3), (396, .iconst 0, 1), (397, .istore 7, 2), (399, .iload 7, 2)]
theorem aJ_463_39 : sx_iB prog_14_method_174_code aI_463_39 = true := by decide +kernel
def aI_463_40 : sx_IL := [(401, .aload_n 0, 1), (402, .getfield 156, 3), (405, .iload_n 3, 1), (406, .iaload, 1), (407, .if_icmp .ge 61, 3), (410, .aload_n 0, 1)]
theorem aJ_463_40 : sx_iB prog_14_method_174_code aI_463_40 = true := by decide +kernel
def aI_463_41 : sx_IL := [(411, .iload_n 2, 1), (412, .bipush 23, 2), (414, .aload_n 0, 1), (415, .getfield 153, 3), (418, .sipush 400, 3), (421, .iload_n 3, 1)]
theorem aJ_463_41 : sx_iB prog_14_method_174_code aI_463_41 = true := by decide +kernel
def aI_463_42 : sx_IL := [(422, .imul, 1), (423, .iload 7, 2), (425, .iadd, 1), (426, .aload_n 0, 1), (427, .getfield 156, 3), (430, .iload_n 3, 1)]
theorem aJ_463_42 : sx_iB prog_14_method_174_code aI_463_42 = true := by decide +kernel
def aI_463_43 : sx_IL := [(431, .iaload, 1), (432, .iload 7, 2), (434, .isub, 1), (435, .sipush 200, 3), (438, .if_icmp .ge 15, 3), (441, .aload_n 0, 1)]
theorem aJ_463_43 : sx_iB prog_14_method_174_code aI_463_43 = true := by decide +kernel
def aI_463_44 : sx_IL := [(442, .getfield 156, 3), (445, .iload_n 3, 1), (446, .iaload, 1), (447, .iload 7, 2), (449, .isub, 1), (450, .goto 6, 3)]
theorem aJ_463_44 : sx_iB prog_14_method_174_code aI_463_44 = true := by decide +kernel
def aI_463_45 : sx_IL := [(453, .sipush 200, 3), (456, .invokevirtual 987, 3), (459, .iinc 7 200, 6), (465, .goto (-66), 3), (468, .aload_n 0, 1), (469, .getfield 156, 3)]
theorem aJ_463_45 : sx_iB prog_14_method_174_code aI_463_45 = true := by decide +kernel
def aI_463_46 : sx_IL := [(472, .iload_n 3, 1), (473, .iconst 0, 1), (474, .iastore, 1), (475, .return_, 1)]
theorem aJ_463_46 : sx_iB prog_14_method_174_code aI_463_46 = true := by decide +kernel
def aS_463 (pc : Nat) : sx_IL := (if pc < 228 then (if pc < 100 then (if pc < 43 then (if pc < 16 then (if pc < 8 then aI_463_0 else aI_463_1) else (if pc < 26 then aI_463_2 else (if pc < 35 then aI_463_3 else aI_463_4))) else (if pc < 72 then (if pc < 52 then aI_463_5 else (if pc < 62 then aI_463_6 else aI_463_7)) else (if pc < 82 then aI_463_8 else (if pc < 90 then aI_463_9 else aI_463_10)))) else (if pc < 161 then (if pc < 130 then (if pc < 111 then aI_463_11 else (if pc < 119 then aI_463_12 else aI_463_13)) else (if pc < 139 then aI_463_14 else (if pc < 150 then aI_463_15 else aI_463_16))) else (if pc < 198 then (if pc < 172 then aI_463_17 else (if pc < 186 then aI_463_18 else aI_463_19)) else (if pc < 209 then aI_463_20 else (if pc < 216 then aI_463_21 else aI_463_22))))) else (if pc < 349 then (if pc < 288 then (if pc < 258 then (if pc < 238 then aI_463_23 else (if pc < 245 then aI_463_24 else aI_463_25)) else (if pc < 268 then aI_463_26 else (if pc < 281 then aI_463_27 else aI_463_28))) else (if pc < 321 then (if pc < 298 then aI_463_29 else (if pc < 311 then aI_463_30 else aI_463_31)) else (if pc < 329 then aI_463_32 else (if pc < 339 then aI_463_33 else aI_463_34)))) else (if pc < 411 then (if pc < 377 then (if pc < 359 then aI_463_35 else (if pc < 367 then aI_463_36 else aI_463_37)) else (if pc < 387 then aI_463_38 else (if pc < 401 then aI_463_39 else aI_463_40))) else (if pc < 442 then (if pc < 422 then aI_463_41 else (if pc < 431 then aI_463_42 else aI_463_43)) else (if pc < 453 then aI_463_44 else (if pc < 472 then aI_463_45 else aI_463_46))))))
theorem aT_463 (pc : Nat) : sx_iOk prog_14_method_174_code (aS_463 pc) := (sx_ite (p := fun l => sx_iOk prog_14_method_174_code l) (sx_ite (p := fun l => sx_iOk prog_14_method_174_code l) (sx_ite (p := fun l => sx_iOk prog_14_method_174_code l) (sx_ite (p := fun l => sx_iOk prog_14_method_174_code l) (sx_ite (p := fun l => sx_iOk prog_14_method_174_code l) (sx_iB_s aJ_463_0) (sx_iB_s aJ_463_1)) (sx_ite (p := fun l => sx_iOk prog_14_method_174_code l) (sx_iB_s aJ_463_2) (sx_ite (p := fun l => sx_iOk prog_14_method_174_code l) (sx_iB_s aJ_463_3) (sx_iB_s aJ_463_4)))) (sx_ite (p := fun l => sx_iOk prog_14_method_174_code l) (sx_ite (p := fun l => sx_iOk prog_14_method_174_code l) (sx_iB_s aJ_463_5) (sx_ite (p := fun l => sx_iOk prog_14_method_174_code l) (sx_iB_s aJ_463_6) (sx_iB_s aJ_463_7))) (sx_ite (p := fun l => sx_iOk prog_14_method_174_code l) (sx_iB_s aJ_463_8) (sx_ite (p := fun l => sx_iOk prog_14_method_174_code l) (sx_iB_s aJ_463_9) (sx_iB_s aJ_463_10))))) (sx_ite (p := fun l => sx_iOk prog_14_method_174_code l) (sx_ite (p := fun l => sx_iOk prog_14_method_174_code l) (sx_ite (p := fun l => sx_iOk prog_14_method_174_code l) (sx_iB_s aJ_463_11) (sx_ite (p := fun l => sx_iOk prog_14_method_174_code l) (sx_iB_s aJ_463_12) (sx_iB_s aJ_463_13))) (sx_ite (p := fun l => sx_iOk prog_14_method_174_code l) (sx_iB_s aJ_463_14) (sx_ite (p := fun l => sx_iOk prog_14_method_174_code l) (sx_iB_s aJ_463_15) (sx_iB_s aJ_463_16)))) (sx_ite (p := fun l => sx_iOk prog_14_method_174_code l) (sx_ite (p := fun l => sx_iOk prog_14_method_174_code l) (sx_iB_s aJ_463_17) (sx_ite (p := fun l => sx_iOk prog_14_method_174_code l) (sx_iB_s aJ_463_18) (sx_iB_s aJ_463_19))) (sx_ite (p := fun l => sx_iOk prog_14_method_174_code l) (sx_iB_s aJ_463_20) (sx_ite (p := fun l => sx_iOk prog_14_method_174_code l) (sx_iB_s aJ_463_21) (sx_iB_s aJ_463_22)))))) (sx_ite (p := fun l => sx_iOk prog_14_method_174_code l) (sx_ite (p := fun l => sx_iOk prog_14_method_174_code l) (sx_ite (p := fun l => sx_iOk prog_14_method_174_code l) (sx_ite (p := fun l => sx_iOk prog_14_method_174_code l) (sx_iB_s aJ_463_23) (sx_ite (p := fun l => sx_iOk prog_14_method_174_code l) (sx_iB_s aJ_463_24) (sx_iB_s aJ_463_25))) (sx_ite (p := fun l => sx_iOk prog_14_method_174_code l) (sx_iB_s aJ_463_26) (sx_ite (p := fun l => sx_iOk prog_14_method_174_code l) (sx_iB_s aJ_463_27) (sx_iB_s aJ_463_28)))) (sx_ite (p := fun l => sx_iOk prog_14_method_174_code l) (sx_ite (p := fun l => sx_iOk prog_14_method_174_code l) (sx_iB_s aJ_463_29) (sx_ite (p := fun l => sx_iOk prog_14_method_174_code l) (sx_iB_s aJ_463_30) (sx_iB_s aJ_463_31))) (sx_ite (p := fun l => sx_iOk prog_14_method_174_code l) (sx_iB_s aJ_463_32) (sx_ite (p := fun l => sx_iOk prog_14_method_174_code l) (sx_iB_s aJ_463_33) (sx_iB_s aJ_463_34))))) (sx_ite (p := fun l => sx_iOk prog_14_method_174_code l) (sx_ite (p := fun l => sx_iOk prog_14_method_174_code l) (sx_ite (p := fun l => sx_iOk prog_14_method_174_code l) (sx_iB_s aJ_463_35) (sx_ite (p := fun l => sx_iOk prog_14_method_174_code l) (sx_iB_s aJ_463_36) (sx_iB_s aJ_463_37))) (sx_ite (p := fun l => sx_iOk prog_14_method_174_code l) (sx_iB_s aJ_463_38) (sx_ite (p := fun l => sx_iOk prog_14_method_174_code l) (sx_iB_s aJ_463_39) (sx_iB_s aJ_463_40)))) (sx_ite (p := fun l => sx_iOk prog_14_method_174_code l) (sx_ite (p := fun l => sx_iOk prog_14_method_174_code l) (sx_iB_s aJ_463_41) (sx_ite (p := fun l => sx_iOk prog_14_method_174_code l) (sx_iB_s aJ_463_42) (sx_iB_s aJ_463_43))) (sx_ite (p := fun l => sx_iOk prog_14_method_174_code l) (sx_iB_s aJ_463_44) (sx_ite (p := fun l => sx_iOk prog_14_method_174_code l) (sx_iB_s aJ_463_45) (sx_iB_s aJ_463_46)))))))
def aW_463 : Nat → Option (Instr × Nat) := fun pc => sx_iF (aS_463 pc) pc
theorem aX_463 : ∀ pc i len, aW_463 pc = some (i, len) → decode aM_463.1.2.1 pc = .ok (i, len) := fun pc i len h => sx_iF_s (aT_463 pc) h
def aI_464_0 : sx_IL := [(0, .lconst 0, 1), (1, .lstore_n 2, 1), (2, .iconst 0, 1), (3, .istore 4, 2), (5, .iload 4, 2), (7, .bipush 8, 2)]
theorem aJ_464_0 : sx_iB prog_14_method_122_code aI_464_0 = true := by decide +kernel
def aI_464_1 : sx_IL := [(9, .if_icmp .ge 21, 3), (12, .lload_n 2, 1), (13, .bipush 8, 2), (15, .lshl, 1), (16, .aload_n 0, 1), (17, .iload_n 1, 1)]
theorem aJ_464_1 : sx_iB prog_14_method_122_code aI_464_1 = true := by decide +kernel
def aI_464_2 : sx_IL := [(18, .invokevirtual 919, 3), (21, .i2l, 1), (22, .lor, 1), (23, .lstore_n 2, 1), (24, .iinc 4 1, 3), (27, .goto (-22), 3)]
theorem aJ_464_2 : sx_iB prog_14_method_122_code aI_464_2 = true := by decide +kernel
def aI_464_3 : sx_IL := [(30, .lload_n 2, 1), (31, .lreturn, 1)]
theorem aJ_464_3 : sx_iB prog_14_method_122_code aI_464_3 = true := by decide +kernel
def aS_464 (pc : Nat) : sx_IL := (if pc < 18 then (if pc < 9 then aI_464_0 else aI_464_1) else (if pc < 30 then aI_464_2 else aI_464_3))
theorem aT_464 (pc : Nat) : sx_iOk prog_14_method_122_code (aS_464 pc) := (sx_ite (p := fun l => sx_iOk prog_14_method_122_code l) (sx_ite (p := fun l => sx_iOk prog_14_method_122_code l) (sx_iB_s aJ_464_0) (sx_iB_s aJ_464_1)) (sx_ite (p := fun l => sx_iOk prog_14_method_122_code l) (sx_iB_s aJ_464_2) (sx_iB_s aJ_464_3)))
def aW_464 : Nat → Option (Instr × Nat) := fun pc => sx_iF (aS_464 pc) pc
theorem aX_464 : ∀ pc i len, aW_464 pc = some (i, len) → decode aM_464.1.2.1 pc = .ok (i, len) := fun pc i len h => sx_iF_s (aT_464 pc) h
def aI_465_0 : sx_IL := [(0, .aload_n 0, 1), (1, .getfield 108, 3), (4, .iload_n 1, 1), (5, .iaload, 1), (6, .ifCond .ne 5, 3), (9, .iconst 0, 1)]
theorem aJ_465_0 : sx_iB prog_14_method_121_code aI_465_0 = true := by decide +kernel
def aI_465_1 : sx_IL := [(10, .ireturn, 1), (11, .aload_n 0, 1), (12, .getfield 105, 3), (15, .sipush 200, 3), (18, .iload_n 1, 1), (19, .imul, 1)]
theorem aJ_465_1 : sx_iB prog_14_method_121_code aI_465_1 = true := by decide +kernel
def aI_465_2 : sx_IL := [(20, .iaload, 1), (21, .istore_n 2, 1), (22, .aload_n 0, 1), (23, .getfield 108, 3), (26, .iload_n 1, 1), (27, .dup2, 1)]
theorem aJ_465_2 : sx_iB prog_14_method_121_code aI_465_2 = true := by decide +kernel
def aI_465_3 : sx_IL := [(28, .iaload, 1), (29, .iconst 1, 1), (30, .isub, 1), (31, .iastore, 1), (32, .iconst 0, 1), (33, .istore_n 3, 1)]
theorem aJ_465_3 : sx_iB prog_14_method_121_code aI_465_3 = true := by decide +kernel
def aI_465_4 : sx_IL := [(34, .iload_n 3, 1), (35, .aload_n 0, 1), (36, .getfield 108, 3), (39, .iload_n 1, 1), (40, .iaload, 1), (41, .if_icmp .ge 35, 3)]
theorem aJ_465_4 : sx_iB prog_14_method_121_code aI_465_4 = true := by decide +kernel
def aI_465_5 : sx_IL := [(44, .aload_n 0, 1), (45, .getfield 105, 3), (48, .sipush 200, 3), (51, .iload_n 1, 1), (52, .imul, 1), (53, .iload_n 3, 1)]
theorem aJ_465_5 : sx_iB prog_14_method_121_code aI_465_5 = true := by decide +kernel
def aI_465_6 : sx_IL := [(54, .iadd, 1), (55, .aload_n 0, 1), (56, .getfield 105, 3), (59, .sipush 200, 3), (62, .iload_n 1, 1), (63, .imul, 1)]
theorem aJ_465_6 : sx_iB prog_14_method_121_code aI_465_6 = true := by decide +kernel
def aI_465_7 : sx_IL := [(64, .iload_n 3, 1), (65, .iadd, 1), (66, .iconst 1, 1), (67, .iadd, 1), (68, .iaload, 1), (69, .iastore, 1)]
theorem aJ_465_7 : sx_iB prog_14_method_121_code aI_465_7 = true := by decide +kernel
def aI_465_8 : sx_IL := [(70, .iinc 3 1, 3), (73, .goto (-39), 3), (76, .iload_n 2, 1), (77, .ireturn, 1)]
theorem aJ_465_8 : sx_iB prog_14_method_121_code aI_465_8 = true := by decide +kernel
def aS_465 (pc : Nat) : sx_IL := (if pc < 34 then (if pc < 20 then (if pc < 10 then aI_465_0 else aI_465_1) else (if pc < 28 then aI_465_2 else aI_465_3)) else (if pc < 54 then (if pc < 44 then aI_465_4 else aI_465_5) else (if pc < 64 then aI_465_6 else (if pc < 70 then aI_465_7 else aI_465_8))))
theorem aT_465 (pc : Nat) : sx_iOk prog_14_method_121_code (aS_465 pc) := (sx_ite (p := fun l => sx_iOk prog_14_method_121_code l) (sx_ite (p := fun l => sx_iOk prog_14_method_121_code l) (sx_ite (p := fun l => sx_iOk prog_14_method_121_code l) (sx_iB_s aJ_465_0) (sx_iB_s aJ_465_1)) (sx_ite (p := fun l => sx_iOk prog_14_method_121_code l) (sx_iB_s aJ_465_2) (sx_iB_s aJ_465_3))) (sx_ite (p := fun l => sx_iOk prog_14_method_121_code l) (sx_ite (p := fun l => sx_iOk prog_14_method_121_code l) (sx_iB_s aJ_465_4) (sx_iB_s aJ_465_5)) (sx_ite (p := fun l => sx_iOk prog_14_method_121_code l) (sx_iB_s aJ_465_6) (sx_ite (p := fun l => sx_iOk prog_14_method_121_code l) (sx_iB_s aJ_465_7) (sx_iB_s aJ_465_8)))))
def aW_465 : Nat → Option (Instr × Nat) := fun pc => sx_iF (aS_465 pc) pc
theorem aX_465 : ∀ pc i len, aW_465 pc = some (i, len) → decode aM_465.1.2.1 pc = .ok (i, len) := fun pc i len h => sx_iF_s (aT_465 pc) h
def aI_466_0 : sx_IL := [(0, .iconst 0, 1), (1, .istore_n 2, 1), (2, .iconst 0, 1), (3, .istore_n 3, 1), (4, .iload_n 3, 1), (5, .iconst 4, 1)]
theorem aJ_466_0 : sx_iB prog_14_method_123_code aI_466_0 = true := by decide +kernel
def aI_466_1 : sx_IL := [(6, .if_icmp .ge 20, 3), (9, .iload_n 2, 1), (10, .bipush 8, 2), (12, .ishl, 1), (13, .aload_n 0, 1), (14, .iload_n 1, 1)]
theorem aJ_466_1 : sx_iB prog_14_method_123_code aI_466_1 = true := by decide +kernel
def aI_466_2 : sx_IL := [(15, .invokevirtual 919, 3), (18, .ior, 1), (19, .istore_n 2, 1), (20, .iinc 3 1, 3), (23, .goto (-19), 3), (26, .iconst 2, 1)]
theorem aJ_466_2 : sx_iB prog_14_method_123_code aI_466_2 = true := by decide +kernel
def aI_466_3 : sx_IL := [(27, .iload_n 2, 1), (28, .ldc_w 922, 3), (31, .iand, 1), (32, .iadd, 1), (33, .ireturn, 1)]
theorem aJ_466_3 : sx_iB prog_14_method_123_code aI_466_3 = true := by decide +kernel
def aS_466 (pc : Nat) : sx_IL := (if pc < 15 then (if pc < 6 then aI_466_0 else aI_466_1) else (if pc < 27 then aI_466_2 else aI_466_3))
theorem aT_466 (pc : Nat) : sx_iOk prog_14_method_123_code (aS_466 pc) := (sx_ite (p := fun l => sx_iOk prog_14_method_123_code l) (sx_ite (p := fun l => sx_iOk prog_14_method_123_code l) (sx_iB_s aJ_466_0) (sx_iB_s aJ_466_1)) (sx_ite (p := fun l => sx_iOk prog_14_method_123_code l) (sx_iB_s aJ_466_2) (sx_iB_s aJ_466_3)))
def aW_466 : Nat → Option (Instr × Nat) := fun pc => sx_iF (aS_466 pc) pc
theorem aX_466 : ∀ pc i len, aW_466 pc = some (i, len) → decode aM_466.1.2.1 pc = .ok (i, len) := fun pc i len h => sx_iF_s (aT_466 pc) h
def aI_467_0 : sx_IL := [(0, .bipush 6, 2), (2, .iload_n 1, 1), (3, .imul, 1), (4, .aload_n 0, 1), (5, .getfield 420, 3), (8, .iload_n 1, 1)]
theorem aJ_467_0 : sx_iB prog_14_method_175_code aI_467_0 = true := by decide +kernel
def aI_467_1 : sx_IL := [(9, .iaload, 1), (10, .iadd, 1), (11, .istore_n 3, 1), (12, .aload_n 0, 1), (13, .getfield 426, 3), (16, .iload_n 3, 1)]
theorem aJ_467_1 : sx_iB prog_14_method_175_code aI_467_1 = true := by decide +kernel
def aI_467_2 : sx_IL := [(17, .aload_n 0, 1), (18, .getfield 138, 3), (21, .iload_n 2, 1), (22, .iaload, 1), (23, .iastore, 1), (24, .iconst 0, 1)]
theorem aJ_467_2 : sx_iB prog_14_method_175_code aI_467_2 = true := by decide +kernel
def aI_467_3 : sx_IL := [(25, .istore 4, 2), (27, .iload 4, 2), (29, .aload_n 0, 1), (30, .getfield 138, 3), (33, .iload_n 2, 1), (34, .iaload, 1)]
theorem aJ_467_3 : sx_iB prog_14_method_175_code aI_467_3 = true := by decide +kernel
def aI_467_4 : sx_IL := [(35, .if_icmp .ge 33, 3), (38, .aload_n 0, 1), (39, .getfield 423, 3), (42, .bipush 16, 2), (44, .iload_n 3, 1), (45, .imul, 1)]
theorem aJ_467_4 : sx_iB prog_14_method_175_code aI_467_4 = true := by decide +kernel
def aI_467_5 : sx_IL := [(46, .iload 4, 2), (48, .iadd, 1), (49, .aload_n 0, 1), (50, .getfield 135, 3), (53, .bipush 16, 2), (55, .iload_n 2, 1)]
theorem aJ_467_5 : sx_iB prog_14_method_175_code aI_467_5 = true := by decide +kernel
def aI_467_6 : sx_IL := [(56, .imul, 1), (57, .iload 4, 2), (59, .iadd, 1), (60, .iaload, 1), (61, .iastore, 1), (62, .iinc 4 1, 3)]
theorem aJ_467_6 : sx_iB prog_14_method_175_code aI_467_6 = true := by decide +kernel
def aI_467_7 : sx_IL := [(65, .goto (-38), 3), (68, .aload_n 0, 1), (69, .getfield 429, 3), (72, .iload_n 3, 1), (73, .aload_n 0, 1), (74, .getfield 141, 3)]
theorem aJ_467_7 : sx_iB prog_14_method_175_code aI_467_7 = true := by decide +kernel
def aI_467_8 : sx_IL := [(77, .iload_n 2, 1), (78, .laload, 1), (79, .lastore, 1), (80, .aload_n 0, 1), (81, .getfield 432, 3), (84, .iload_n 3, 1)]
theorem aJ_467_8 : sx_iB prog_14_method_175_code aI_467_8 = true := by decide +kernel
def aI_467_9 : sx_IL := [(85, .aload_n 0, 1), (86, .getfield 144, 3), (89, .iload_n 2, 1), (90, .iaload, 1), (91, .iastore, 1), (92, .aload_n 0, 1)]
theorem aJ_467_9 : sx_iB prog_14_method_175_code aI_467_9 = true := by decide +kernel
def aI_467_10 : sx_IL := [(93, .getfield 435, 3), (96, .iload_n 3, 1), (97, .aload_n 0, 1), (98, .getfield 147, 3), (101, .iload_n 2, 1), (102, .baload, 1)]
theorem aJ_467_10 : sx_iB prog_14_method_175_code aI_467_10 = true := by decide +kernel
def aI_467_11 : sx_IL := [(103, .bastore, 1), (104, .aload_n 0, 1), (105, .getfield 438, 3), (108, .iload_n 3, 1), (109, .aload_n 0, 1), (110, .getfield 150, 3)]
theorem aJ_467_11 : sx_iB prog_14_method_175_code aI_467_11 = true := by decide +kernel
def aI_467_12 : sx_IL := [(113, .iconst 5, 1), (114, .iload_n 2, 1), (115, .imul, 1), (116, .iconst 4, 1), (117, .iadd, 1), (118, .iaload, 1)]
theorem aJ_467_12 : sx_iB prog_14_method_175_code aI_467_12 = true := by decide +kernel
def aI_467_13 : sx_IL := [(119, .iastore, 1), (120, .aload_n 0, 1), (121, .getfield 420, 3), (124, .iload_n 1, 1), (125, .dup2, 1), (126, .iaload, 1)]
theorem aJ_467_13 : sx_iB prog_14_method_175_code aI_467_13 = true := by decide +kernel
def aI_467_14 : sx_IL := [(127, .iconst 1, 1), (128, .iadd, 1), (129, .iastore, 1), (130, .return_, 1)]
theorem aJ_467_14 : sx_iB prog_14_method_175_code aI_467_14 = true := by decide +kernel
def aS_467 (pc : Nat) : sx_IL := (if pc < 65 then (if pc < 25 then (if pc < 9 then aI_467_0 else (if pc < 17 then aI_467_1 else aI_467_2)) else (if pc < 46 then (if pc < 35 then aI_467_3 else aI_467_4) else (if pc < 56 then aI_467_5 else aI_467_6))) else (if pc < 103 then (if pc < 85 then (if pc < 77 then aI_467_7 else aI_467_8) else (if pc < 93 then aI_467_9 else aI_467_10)) else (if pc < 119 then (if pc < 113 then aI_467_11 else aI_467_12) else (if pc < 127 then aI_467_13 else aI_467_14))))
theorem aT_467 (pc : Nat) : sx_iOk prog_14_method_175_code (aS_467 pc) := (sx_ite (p := fun l => sx_iOk prog_14_method_175_code l) (sx_ite (p := fun l => sx_iOk prog_14_method_175_code l) (sx_ite (p := fun l => sx_iOk prog_14_method_175_code l) (sx_iB_s aJ_467_0) (sx_ite (p := fun l => sx_iOk prog_14_method_175_code l) (sx_iB_s aJ_467_1) (sx_iB_s aJ_467_2))) (sx_ite (p := fun l => sx_iOk prog_14_method_175_code l) (sx_ite (p := fun l => sx_iOk prog_14_method_175_code l) (sx_iB_s aJ_467_3) (sx_iB_s aJ_467_4)) (sx_ite (p := fun l => sx_iOk prog_14_method_175_code l) (sx_iB_s aJ_467_5) (sx_iB_s aJ_467_6)))) (sx_ite (p := fun l => sx_iOk prog_14_method_175_code l) (sx_ite (p := fun l => sx_iOk prog_14_method_175_code l) (sx_ite (p := fun l => sx_iOk prog_14_method_175_code l) (sx_iB_s aJ_467_7) (sx_iB_s aJ_467_8)) (sx_ite (p := fun l => sx_iOk prog_14_method_175_code l) (sx_iB_s aJ_467_9) (sx_iB_s aJ_467_10))) (sx_ite (p := fun l => sx_iOk prog_14_method_175_code l) (sx_ite (p := fun l => sx_iOk prog_14_method_175_code l) (sx_iB_s aJ_467_11) (sx_iB_s aJ_467_12)) (sx_ite (p := fun l => sx_iOk prog_14_method_175_code l) (sx_iB_s aJ_467_13) (sx_iB_s aJ_467_14)))))
def aW_467 : Nat → Option (Instr × Nat) := fun pc => sx_iF (aS_467 pc) pc
theorem aX_467 : ∀ pc i len, aW_467 pc = some (i, len) → decode aM_467.1.2.1 pc = .ok (i, len) := fun pc i len h => sx_iF_s (aT_467 pc) h
def aI_468_0 : sx_IL := [(0, .iconst 2, 1), (1, .iload_n 1, 1), (2, .imul, 1), (3, .istore_n 3, 1), (4, .aload_n 0, 1), (5, .getfield 261, 3)]
theorem aJ_468_0 : sx_iB prog_14_method_171_code aI_468_0 = true := by decide +kernel
def aI_468_1 : sx_IL := [(8, .iload_n 3, 1), (9, .iaload, 1), (10, .istore 4, 2), (12, .aload_n 0, 1), (13, .iconst 0, 1), (14, .putfield 814, 3)]
theorem aJ_468_1 : sx_iB prog_14_method_171_code aI_468_1 = true := by decide +kernel
def aI_468_2 : sx_IL := [(17, .aload_n 0, 1), (18, .aload_n 0, 1), (19, .getfield 408, 3), (22, .iload_n 1, 1), (23, .laload, 1), (24, .invokevirtual 831, 3)]
theorem aJ_468_2 : sx_iB prog_14_method_171_code aI_468_2 = true := by decide +kernel
def aI_468_3 : sx_IL := [(27, .aload_n 0, 1), (28, .iconst 1, 1), (29, .iconst 1, 1), (30, .invokevirtual 1004, 3), (33, .aload_n 0, 1), (34, .iconst 4, 1)]
theorem aJ_468_3 : sx_iB prog_14_method_171_code aI_468_3 = true := by decide +kernel
def aI_468_4 : sx_IL := [(35, .invokevirtual 817, 3), (38, .aload_n 0, 1), (39, .iload 4, 2), (41, .iconst 2, 1), (42, .iconst 0, 1), (43, .invokevirtual 1007, 3)]
theorem aJ_468_4 : sx_iB prog_14_method_171_code aI_468_4 = true := by decide +kernel
def aI_468_5 : sx_IL := [(46, .aload_n 0, 1), (47, .iload 4, 2), (49, .iconst 3, 1), (50, .iconst 1, 1), (51, .invokevirtual 1007, 3), (54, .aload_n 0, 1)]
theorem aJ_468_5 : sx_iB prog_14_method_171_code aI_468_5 = true := by decide +kernel
def aI_468_6 : sx_IL := [(55, .getfield 411, 3), (58, .iload_n 1, 1), (59, .iaload, 1), (60, .ifCond .le 38, 3), (63, .aload_n 0, 1), (64, .iconst 4, 1)]
theorem aJ_468_6 : sx_iB prog_14_method_171_code aI_468_6 = true := by decide +kernel
def aI_468_7 : sx_IL := [(65, .iconst 5, 1), (66, .invokevirtual 1004, 3), (69, .aload_n 0, 1), (70, .aload_n 0, 1), (71, .getfield 411, 3), (74, .iload_n 1, 1)]
theorem aJ_468_7 : sx_iB prog_14_method_171_code aI_468_7 = true := by decide +kernel
def aI_468_8 : sx_IL := [(75, .iaload, 1), (76, .invokevirtual 817, 3), (79, .aload_n 0, 1), (80, .aload_n 0, 1), (81, .getfield 411, 3), (84, .iload_n 1, 1)]
theorem aJ_468_8 : sx_iB prog_14_method_171_code aI_468_8 = true := by decide +kernel
def aI_468_9 : sx_IL := [(85, .iaload, 1), (86, .aload_n 0, 1), (87, .getfield 414, 3), (90, .iload_n 1, 1), (91, .iaload, 1), (92, .invokestatic 640, 3)]
theorem aJ_468_9 : sx_iB prog_14_method_171_code aI_468_9 = true := by decide +kernel
def aI_468_10 : sx_IL := [(95, .invokevirtual 823, 3), (98, .aload_n 0, 1), (99, .iload 4, 2), (101, .iconst 5, 1), (102, .iconst 2, 1), (103, .invokevirtual 1007, 3)]
theorem aJ_468_10 : sx_iB prog_14_method_171_code aI_468_10 = true := by decide +kernel
def aI_468_11 : sx_IL := [(106, .aload_n 0, 1), (107, .getfield 129, 3), (110, .iload 4, 2), (112, .iaload, 1), (113, .ifCond .le 36, 3), (116, .aload_n 0, 1)]
theorem aJ_468_11 : sx_iB prog_14_method_171_code aI_468_11 = true := by decide +kernel
def aI_468_12 : sx_IL := [(117, .bipush 6, 2), (119, .aload_n 0, 1), (120, .getfield 129, 3), (123, .iload 4, 2), (125, .iaload, 1), (126, .invokevirtual 1004, 3)]
theorem aJ_468_12 : sx_iB prog_14_method_171_code aI_468_12 = true := by decide +kernel
def aI_468_13 : sx_IL := [(129, .aload_n 0, 1), (130, .aload_n 0, 1), (131, .getfield 126, 3), (134, .bipush 40, 2), (136, .iload 4, 2), (138, .imul, 1)]
theorem aJ_468_13 : sx_iB prog_14_method_171_code aI_468_13 = true := by decide +kernel
def aI_468_14 : sx_IL := [(139, .aload_n 0, 1), (140, .getfield 129, 3), (143, .iload 4, 2), (145, .iaload, 1), (146, .invokevirtual 828, 3), (149, .aload_n 0, 1)]
theorem aJ_468_14 : sx_iB prog_14_method_171_code aI_468_14 = true := by decide +kernel
def aI_468_15 : sx_IL := [(150, .getfield 417, 3), (153, .iload_n 1, 1), (154, .iaload, 1), (155, .ifCond .le 20, 3), (158, .aload_n 0, 1), (159, .bipush 7, 2)]
theorem aJ_468_15 : sx_iB prog_14_method_171_code aI_468_15 = true := by decide +kernel
def aI_468_16 : sx_IL := [(161, .iconst 1, 1), (162, .invokevirtual 1004, 3), (165, .aload_n 0, 1), (166, .aload_n 0, 1), (167, .getfield 417, 3), (170, .iload_n 1, 1)]
theorem aJ_468_16 : sx_iB prog_14_method_171_code aI_468_16 = true := by decide +kernel
def aI_468_17 : sx_IL := [(171, .iaload, 1), (172, .invokevirtual 817, 3), (175, .iload_n 2, 1), (176, .ifCond .eq 10, 3), (179, .aload_n 0, 1), (180, .bipush 8, 2)]
theorem aJ_468_17 : sx_iB prog_14_method_171_code aI_468_17 = true := by decide +kernel
def aI_468_18 : sx_IL := [(182, .iconst 0, 1), (183, .invokevirtual 1004, 3), (186, .aload_n 0, 1), (187, .getfield 450, 3), (190, .iload_n 1, 1), (191, .baload, 1)]
theorem aJ_468_18 : sx_iB prog_14_method_171_code aI_468_18 = true := by decide +kernel
def aI_468_19 : sx_IL := [(192, .ifCond .eq 21, 3), (195, .aload_n 0, 1), (196, .bipush 9, 2), (198, .bipush 8, 2), (200, .invokevirtual 1004, 3), (203, .aload_n 0, 1)]
theorem aJ_468_19 : sx_iB prog_14_method_171_code aI_468_19 = true := by decide +kernel
def aI_468_20 : sx_IL := [(204, .aload_n 0, 1), (205, .getfield 447, 3), (208, .iload_n 1, 1), (209, .laload, 1), (210, .invokevirtual 831, 3), (213, .aload_n 0, 1)]
theorem aJ_468_20 : sx_iB prog_14_method_171_code aI_468_20 = true := by decide +kernel
def aI_468_21 : sx_IL := [(214, .getfield 420, 3), (217, .iload_n 1, 1), (218, .iaload, 1), (219, .ifCond .le 8, 3), (222, .aload_n 0, 1), (223, .iload_n 1, 1)]
theorem aJ_468_21 : sx_iB prog_14_method_171_code aI_468_21 = true := by decide +kernel
def aI_468_22 : sx_IL := [(224, .invokevirtual 1011, 3), (227, .return_, 1)]
theorem aJ_468_22 : sx_iB prog_14_method_171_code aI_468_22 = true := by decide +kernel
def aS_468 (pc : Nat) : sx_IL := (if pc < 106 then (if pc < 46 then (if pc < 17 then (if pc < 8 then aI_468_0 else aI_468_1) else (if pc < 27 then aI_468_2 else (if pc < 35 then aI_468_3 else aI_468_4))) else (if pc < 75 then (if pc < 55 then aI_468_5 else (if pc < 65 then aI_468_6 else aI_468_7)) else (if pc < 85 then aI_468_8 else (if pc < 95 then aI_468_9 else aI_468_10)))) else (if pc < 171 then (if pc < 139 then (if pc < 117 then aI_468_11 else (if pc < 129 then aI_468_12 else aI_468_13)) else (if pc < 150 then aI_468_14 else (if pc < 161 then aI_468_15 else aI_468_16))) else (if pc < 204 then (if pc < 182 then aI_468_17 else (if pc < 192 then aI_468_18 else aI_468_19)) else (if pc < 214 then aI_468_20 else (if pc < 224 then aI_468_21 else aI_468_22)))))
theorem aT_468 (pc : Nat) : sx_iOk prog_14_method_171_code (aS_468 pc) := (sx_ite (p := fun l => sx_iOk prog_14_method_171_code l) (sx_ite (p := fun l => sx_iOk prog_14_method_171_code l) (sx_ite (p := fun l => sx_iOk prog_14_method_171_code l) (sx_ite (p := fun l => sx_iOk prog_14_method_171_code l) (sx_iB_s aJ_468_0) (sx_iB_s aJ_468_1)) (sx_ite (p := fun l => sx_iOk prog_14_method_171_code l) (sx_iB_s aJ_468_2) (sx_ite (p := fun l => sx_iOk prog_14_method_171_code l) (sx_iB_s aJ_468_3) (sx_iB_s aJ_468_4)))) (sx_ite (p := fun l => sx_iOk prog_14_method_171_code l) (sx_ite (p := fun l => sx_iOk prog_14_method_171_code l) (sx_iB_s aJ_468_5) (sx_ite (p := fun l => sx_iOk prog_14_method_171_code l) (sx_iB_s aJ_468_6) (sx_iB_s aJ_468_7))) (sx_ite (p := fun l => sx_iOk prog_14_method_171_code l) (sx_iB_s aJ_468_8) (sx_ite (p := fun l => sx_iOk prog_14_method_171_code l) (sx_iB_s aJ_468_9) (sx_iB_s aJ_468_10))))) (sx_ite (p := fun l => sx_iOk prog_14_method_171_code l) (sx_ite (p := fun l => sx_iOk prog_14_method_171_code l) (sx_ite (p := fun l => sx_iOk prog_14_method_171_code l) (sx_iB_s aJ_468_11) (sx_ite (p := fun l => sx_iOk prog_14_method_171_code l) (sx_iB_s aJ_468_12) (sx_iB_s aJ_468_13))) (sx_ite (p := fun l => sx_iOk prog_14_method_171_code l) (sx_iB_s aJ_468_14) (sx_ite (p := fun l => sx_iOk prog_14_method_171_code l) (sx_iB_s aJ_468_15) (sx_iB_s aJ_468_16)))) (sx_ite (p := fun l => sx_iOk prog_14_method_171_code l) (sx_ite (p := fun l => sx_iOk prog_14_method_171_code l) (sx_iB_s aJ_468_17) (sx_ite (p := fun l => sx_iOk prog_14_method_171_code l) (sx_iB_s aJ_468_18) (sx_iB_s aJ_468_19))) (sx_ite (p := fun l => sx_iOk prog_14_method_171_code l) (sx_iB_s aJ_468_20) (sx_ite (p := fun l => sx_iOk prog_14_method_171_code l) (sx_iB_s aJ_468_21) (sx_iB_s aJ_468_22))))))
def aW_468 : Nat → Option (Instr × Nat) := fun pc => sx_iF (aS_468 pc) pc
theorem aX_468 : ∀ pc i len, aW_468 pc = some (i, len) → decode aM_468.1.2.1 pc = .ok (i, len) := fun pc i len h => sx_iF_s (aT_468 pc) h
def aI_469_0 : sx_IL := [(0, .aload_n 0, 1), (1, .iload_n 1, 1), (2, .invokevirtual 817, 3), (5, .aload_n 0, 1), (6, .iload_n 2, 1), (7, .invokevirtual 820, 3)]
theorem aJ_469_0 : sx_iB prog_14_method_169_code aI_469_0 = true := by decide +kernel
def aI_469_1 : sx_IL := [(10, .return_, 1)]
theorem aJ_469_1 : sx_iB prog_14_method_169_code aI_469_1 = true := by decide +kernel
def aS_469 (pc : Nat) : sx_IL := (if pc < 10 then aI_469_0 else aI_469_1)
theorem aT_469 (pc : Nat) : sx_iOk prog_14_method_169_code (aS_469 pc) := (sx_ite (p := fun l => sx_iOk prog_14_method_169_code l) (sx_iB_s aJ_469_0) (sx_iB_s aJ_469_1))
def aW_469 : Nat → Option (Instr × Nat) := fun pc => sx_iF (aS_469 pc) pc
theorem aX_469 : ∀ pc i len, aW_469 pc = some (i, len) → decode aM_469.1.2.1 pc = .ok (i, len) := fun pc i len h => sx_iF_s (aT_469 pc) h
def aI_470_0 : sx_IL := [(0, .aload_n 0, 1), (1, .iload_n 2, 1), (2, .aload_n 0, 1), (3, .getfield 99, 3), (6, .iconst 3, 1), (7, .iload_n 1, 1)]
theorem aJ_470_0 : sx_iB prog_14_method_170_code aI_470_0 = true := by decide +kernel
def aI_470_1 : sx_IL := [(8, .imul, 1), (9, .iload_n 3, 1), (10, .iadd, 1), (11, .iaload, 1), (12, .invokevirtual 1004, 3), (15, .iconst 0, 1)]
theorem aJ_470_1 : sx_iB prog_14_method_170_code aI_470_1 = true := by decide +kernel
def aI_470_2 : sx_IL := [(16, .istore 4, 2), (18, .iload 4, 2), (20, .aload_n 0, 1), (21, .getfield 99, 3), (24, .iconst 3, 1), (25, .iload_n 1, 1)]
theorem aJ_470_2 : sx_iB prog_14_method_170_code aI_470_2 = true := by decide +kernel
def aI_470_3 : sx_IL := [(26, .imul, 1), (27, .iload_n 3, 1), (28, .iadd, 1), (29, .iaload, 1), (30, .if_icmp .ge 29, 3), (33, .aload_n 0, 1)]
theorem aJ_470_3 : sx_iB prog_14_method_170_code aI_470_3 = true := by decide +kernel
def aI_470_4 : sx_IL := [(34, .aload_n 0, 1), (35, .getfield 96, 3), (38, .bipush 12, 2), (40, .iload_n 1, 1), (41, .imul, 1), (42, .iconst 4, 1)]
theorem aJ_470_4 : sx_iB prog_14_method_170_code aI_470_4 = true := by decide +kernel
def aI_470_5 : sx_IL := [(43, .iload_n 3, 1), (44, .imul, 1), (45, .iadd, 1), (46, .iload 4, 2), (48, .iadd, 1), (49, .iaload, 1)]
theorem aJ_470_5 : sx_iB prog_14_method_170_code aI_470_5 = true := by decide +kernel
def aI_470_6 : sx_IL := [(50, .invokevirtual 817, 3), (53, .iinc 4 1, 3), (56, .goto (-38), 3), (59, .return_, 1)]
theorem aJ_470_6 : sx_iB prog_14_method_170_code aI_470_6 = true := by decide +kernel
def aS_470 (pc : Nat) : sx_IL := (if pc < 26 then (if pc < 8 then aI_470_0 else (if pc < 16 then aI_470_1 else aI_470_2)) else (if pc < 43 then (if pc < 34 then aI_470_3 else aI_470_4) else (if pc < 50 then aI_470_5 else aI_470_6)))
theorem aT_470 (pc : Nat) : sx_iOk prog_14_method_170_code (aS_470 pc) := (sx_ite (p := fun l => sx_iOk prog_14_method_170_code l) (sx_ite (p := fun l => sx_iOk prog_14_method_170_code l) (sx_iB_s aJ_470_0) (sx_ite (p := fun l => sx_iOk prog_14_method_170_code l) (sx_iB_s aJ_470_1) (sx_iB_s aJ_470_2))) (sx_ite (p := fun l => sx_iOk prog_14_method_170_code l) (sx_ite (p := fun l => sx_iOk prog_14_method_170_code l) (sx_iB_s aJ_470_3) (sx_iB_s aJ_470_4)) (sx_ite (p := fun l => sx_iOk prog_14_method_170_code l) (sx_iB_s aJ_470_5) (sx_iB_s aJ_470_6))))
def aW_470 : Nat → Option (Instr × Nat) := fun pc => sx_iF (aS_470 pc) pc
theorem aX_470 : ∀ pc i len, aW_470 pc = some (i, len) → decode aM_470.1.2.1 pc = .ok (i, len) := fun pc i len h => sx_iF_s (aT_470 pc) h
def aI_471_0 : sx_IL := [(0, .aload_n 0, 1), (1, .getfield 420, 3), (4, .iload_n 1, 1), (5, .iaload, 1), (6, .istore_n 2, 1), (7, .iconst 1, 1)]
theorem aJ_471_0 : sx_iB prog_14_method_172_code aI_471_0 = true := by decide +kernel
def aI_471_1 : sx_IL := [(8, .bipush 8, 2), (10, .iload_n 2, 1), (11, .imul, 1), (12, .iadd, 1), (13, .istore_n 3, 1), (14, .iconst 0, 1)]
theorem aJ_471_1 : sx_iB prog_14_method_172_code aI_471_1 = true := by decide +kernel
def aI_471_2 : sx_IL := [(15, .istore 4, 2), (17, .iload 4, 2), (19, .iload_n 2, 1), (20, .if_icmp .ge 26, 3), (23, .iload_n 3, 1), (24, .iconst 5, 1)]
theorem aJ_471_2 : sx_iB prog_14_method_172_code aI_471_2 = true := by decide +kernel
def aI_471_3 : sx_IL := [(25, .aload_n 0, 1), (26, .getfield 426, 3), (29, .bipush 6, 2), (31, .iload_n 1, 1), (32, .imul, 1), (33, .iload 4, 2)]
theorem aJ_471_3 : sx_iB prog_14_method_172_code aI_471_3 = true := by decide +kernel
def aI_471_4 : sx_IL := [(35, .iadd, 1), (36, .iaload, 1), (37, .iadd, 1), (38, .iadd, 1), (39, .istore_n 3, 1), (40, .iinc 4 1, 3)]
theorem aJ_471_4 : sx_iB prog_14_method_172_code aI_471_4 = true := by decide +kernel
def aI_471_5 : sx_IL := [(43, .goto (-26), 3), (46, .aload_n 0, 1), (47, .bipush 10, 2), (49, .iload_n 3, 1), (50, .invokevirtual 1004, 3), (53, .aload_n 0, 1)]
theorem aJ_471_5 : sx_iB prog_14_method_172_code aI_471_5 = true := by decide +kernel
def aI_471_6 : sx_IL := [(54, .iload_n 2, 1), (55, .invokevirtual 817, 3), (58, .iconst 0, 1), (59, .istore 4, 2), (61, .iload 4, 2), (63, .iload_n 2, 1)]
theorem aJ_471_6 : sx_iB prog_14_method_172_code aI_471_6 = true := by decide +kernel
def aI_471_7 : sx_IL := [(64, .if_icmp .ge 79, 3), (67, .bipush 6, 2), (69, .iload_n 1, 1), (70, .imul, 1), (71, .iload 4, 2), (73, .iadd, 1)]
theorem aJ_471_7 : sx_iB prog_14_method_172_code aI_471_7 = true := by decide +kernel
def aI_471_8 : sx_IL := [(74, .istore 5, 2), (76, .aload_n 0, 1), (77, .aload_n 0, 1), (78, .getfield 426, 3), (81, .iload 5, 2), (83, .iaload, 1)]
theorem aJ_471_8 : sx_iB prog_14_method_172_code aI_471_8 = true := by decide +kernel
def aI_471_9 : sx_IL := [(84, .invokevirtual 817, 3), (87, .aload_n 0, 1), (88, .aload_n 0, 1), (89, .getfield 423, 3), (92, .bipush 16, 2), (94, .iload 5, 2)]
theorem aJ_471_9 : sx_iB prog_14_method_172_code aI_471_9 = true := by decide +kernel
def aI_471_10 : sx_IL := [(96, .imul, 1), (97, .aload_n 0, 1), (98, .getfield 426, 3), (101, .iload 5, 2), (103, .iaload, 1), (104, .invokevirtual 828, 3)]
theorem aJ_471_10 : sx_iB prog_14_method_172_code aI_471_10 = true := by decide +kernel
def aI_471_11 : sx_IL := [(107, .aload_n 0, 1), (108, .aload_n 0, 1), (109, .getfield 435, 3), (112, .iload 5, 2), (114, .baload, 1), (115, .ifCond .eq 18, 3)]
theorem aJ_471_11 : sx_iB prog_14_method_172_code aI_471_11 = true := by decide +kernel
def aI_471_12 : sx_IL := [(118, .aload_n 0, 1), (119, .getfield 507, 3), (122, .aload_n 0, 1), (123, .getfield 438, 3), (126, .iload 5, 2), (128, .iaload, 1)]
theorem aJ_471_12 : sx_iB prog_14_method_172_code aI_471_12 = true := by decide +kernel
def aI_471_13 : sx_IL := [(129, .isub, 1), (130, .goto 4, 3), (133, .iconst 0, 1), (134, .invokevirtual 823, 3), (137, .iinc 4 1, 3), (140, .goto (-79), 3)]
theorem aJ_471_13 : sx_iB prog_14_method_172_code aI_471_13 = true := by decide +kernel
def aI_471_14 : sx_IL := [(143, .aload_n 0, 1), (144, .getfield 814, 3), (147, .bipush 8, 2), (149, .iload_n 2, 1), (150, .imul, 1), (151, .iadd, 1)]
theorem aJ_471_14 : sx_iB prog_14_method_172_code aI_471_14 = true := by decide +kernel
def aI_471_15 : sx_IL := [(152, .istore 4, 2), (154, .aload_n 0, 1), (155, .getfield 814, 3), (158, .istore 5, 2), (160, .aload_n 0, 1), (161, .getfield 483, 3)]
theorem aJ_471_15 : sx_iB prog_14_method_172_code aI_471_15 = true := by decide +kernel
def aI_471_16 : sx_IL := [(164, .iconst 0, 1), (165, .iconst 1, 1), (166, .iastore, 1), (167, .aload_n 0, 1), (168, .getfield 483, 3), (171, .iconst 1, 1)]
theorem aJ_471_16 : sx_iB prog_14_method_172_code aI_471_16 = true := by decide +kernel
def aI_471_17 : sx_IL := [(172, .iload 4, 2), (174, .bipush 8, 2), (176, .ishr, 1), (177, .iastore, 1), (178, .aload_n 0, 1), (179, .getfield 483, 3)]
theorem aJ_471_17 : sx_iB prog_14_method_172_code aI_471_17 = true := by decide +kernel
def aI_471_18 : sx_IL := [(182, .iconst 2, 1), (183, .iload 4, 2), (185, .sipush 255, 3), (188, .iand, 1), (189, .iastore, 1), (190, .iconst 0, 1)]
theorem aJ_471_18 : sx_iB prog_14_method_172_code aI_471_18 = true := by decide +kernel
def aI_471_19 : sx_IL := [(191, .istore 6, 2), (193, .iload 6, 2), (195, .iload 5, 2), (197, .if_icmp .ge 25, 3), (200, .aload_n 0, 1), (201, .getfield 483, 3)]
theorem aJ_471_19 : sx_iB prog_14_method_172_code aI_471_19 = true := by decide +kernel
def aI_471_20 : sx_IL := [(204, .iconst 3, 1), (205, .iload 6, 2), (207, .iadd, 1), (208, .aload_n 0, 1), (209, .getfield 84, 3), (212, .iload 6, 2)]
theorem aJ_471_20 : sx_iB prog_14_method_172_code aI_471_20 = true := by decide +kernel
def aI_471_21 : sx_IL := [(214, .iaload, 1), (215, .iastore, 1), (216, .iinc 6 1, 3), (219, .goto (-26), 3), (222, .iconst 0, 1), (223, .istore 6, 2)]
theorem aJ_471_21 : sx_iB prog_14_method_172_code aI_471_21 = true := by decide +kernel
def aI_471_22 : sx_IL := [(225, .iload 6, 2), (227, .iload_n 2, 1), (228, .if_icmp .ge 52, 3), (231, .bipush 6, 2), (233, .iload_n 1, 1), (234, .imul, 1)]
theorem aJ_471_22 : sx_iB prog_14_method_172_code aI_471_22 = true := by decide +kernel
def aI_471_23 : sx_IL := [(235, .iload 6, 2), (237, .iadd, 1), (238, .istore 7, 2), (240, .aload_n 0, 1), (241, .aload_n 0, 1), (242, .iconst 2, 1)]
theorem aJ_471_23 : sx_iB prog_14_method_172_code aI_471_23 = true := by decide +kernel
def aI_471_24 : sx_IL := [(243, .iload_n 1, 1), (244, .imul, 1), (245, .aload_n 0, 1), (246, .getfield 432, 3), (249, .iload 7, 2), (251, .iaload, 1)]
theorem aJ_471_24 : sx_iB prog_14_method_172_code aI_471_24 = true := by decide +kernel
def aI_471_25 : sx_IL := [(252, .aload_n 0, 1), (253, .getfield 429, 3), (256, .iload 7, 2), (258, .laload, 1), (259, .aload_n 0, 1), (260, .getfield 483, 3)]
theorem aJ_471_25 : sx_iB prog_14_method_172_code aI_471_25 = true := by decide +kernel
def aI_471_26 : sx_IL := [(263, .iconst 0, 1), (264, .iconst 3, 1), (265, .iload 5, 2), (267, .iadd, 1), (268, .invokevirtual 1014, 3), (271, .invokevirtual 831, 3)]
theorem aJ_471_26 : sx_iB prog_14_method_172_code aI_471_26 = true := by decide +kernel
def aI_471_27 : sx_IL := [(274, .iinc 6 1, 3), (277, .goto (-52), 3), (280, .return_, 1)]
theorem aJ_471_27 : sx_iB prog_14_method_172_code aI_471_27 = true := by decide +kernel
def aS_471 (pc : Nat) : sx_IL := (if pc < 143 then (if pc < 64 then (if pc < 25 then (if pc < 8 then aI_471_0 else (if pc < 15 then aI_471_1 else aI_471_2)) else (if pc < 43 then (if pc < 35 then aI_471_3 else aI_471_4) else (if pc < 54 then aI_471_5 else aI_471_6))) else (if pc < 96 then (if pc < 74 then aI_471_7 else (if pc < 84 then aI_471_8 else aI_471_9)) else (if pc < 118 then (if pc < 107 then aI_471_10 else aI_471_11) else (if pc < 129 then aI_471_12 else aI_471_13)))) else (if pc < 214 then (if pc < 172 then (if pc < 152 then aI_471_14 else (if pc < 164 then aI_471_15 else aI_471_16)) else (if pc < 191 then (if pc < 182 then aI_471_17 else aI_471_18) else (if pc < 204 then aI_471_19 else aI_471_20))) else (if pc < 243 then (if pc < 225 then aI_471_21 else (if pc < 235 then aI_471_22 else aI_471_23)) else (if pc < 263 then (if pc < 252 then aI_471_24 else aI_471_25) else (if pc < 274 then aI_471_26 else aI_471_27)))))
theorem aT_471 (pc : Nat) : sx_iOk prog_14_method_172_code (aS_471 pc) := (sx_ite (p := fun l => sx_iOk prog_14_method_172_code l) (sx_ite (p := fun l => sx_iOk prog_14_method_172_code l) (sx_ite (p := fun l => sx_iOk prog_14_method_172_code l) (sx_ite (p := fun l => sx_iOk prog_14_method_172_code l) (sx_iB_s aJ_471_0) (sx_ite (p := fun l => sx_iOk prog_14_method_172_code l) (sx_iB_s aJ_471_1) (sx_iB_s aJ_471_2))) (sx_ite (p := fun l => sx_iOk prog_14_method_172_code l) (sx_ite (p := fun l => sx_iOk prog_14_method_172_code l) (sx_iB_s aJ_471_3) (sx_iB_s aJ_471_4)) (sx_ite (p := fun l => sx_iOk prog_14_method_172_code l) (sx_iB_s aJ_471_5) (sx_iB_s aJ_471_6)))) (sx_ite (p := fun l => sx_iOk prog_14_method_172_code l) (sx_ite (p := fun l => sx_iOk prog_14_method_172_code l) (sx_iB_s aJ_471_7) (sx_ite (p := fun l => sx_iOk prog_14_method_172_code l) (sx_iB_s aJ_471_8) (sx_iB_s aJ_471_9))) (sx_ite (p := fun l => sx_iOk prog_14_method_172_code l) (sx_ite (p := fun l => sx_iOk prog_14_method_172_code l) (sx_iB_s aJ_471_10) (sx_iB_s aJ_471_11)) (sx_ite (p := fun l => sx_iOk prog_14_method_172_code l) (sx_iB_s aJ_471_12) (sx_iB_s aJ_471_13))))) (sx_ite (p := fun l => sx_iOk prog_14_method_172_code l) (sx_ite (p := fun l => sx_iOk prog_14_method_172_code l) (sx_ite (p := fun l => sx_iOk prog_14_method_172_code l) (sx_iB_s aJ_471_14) (sx_ite (p := fun l => sx_iOk prog_14_method_172_code l) (sx_iB_s aJ_471_15) (sx_iB_s aJ_471_16))) (sx_ite (p := fun l => sx_iOk prog_14_method_172_code l) (sx_ite (p := fun l => sx_iOk prog_14_method_172_code l) (sx_iB_s aJ_471_17) (sx_iB_s aJ_471_18)) (sx_ite (p := fun l => sx_iOk prog_14_method_172_code l) (sx_iB_s aJ_471_19) (sx_iB_s aJ_471_20)))) (sx_ite (p := fun l => sx_iOk prog_14_method_172_code l) (sx_ite (p := fun l => sx_iOk prog_14_method_172_code l) (sx_iB_s aJ_471_21) (sx_ite (p := fun l => sx_iOk prog_14_method_172_code l) (sx_iB_s aJ_471_22) (sx_iB_s aJ_471_23))) (sx_ite (p := fun l => sx_iOk prog_14_method_172_code l) (sx_ite (p := fun l => sx_iOk prog_14_method_172_code l) (sx_iB_s aJ_471_24) (sx_iB_s aJ_471_25)) (sx_ite (p := fun l => sx_iOk prog_14_method_172_code l) (sx_iB_s aJ_471_26) (sx_iB_s aJ_471_27))))))
def aW_471 : Nat → Option (Instr × Nat) := fun pc => sx_iF (aS_471 pc) pc
theorem aX_471 : ∀ pc i len, aW_471 pc = some (i, len) → decode aM_471.1.2.1 pc = .ok (i, len) := fun pc i len h => sx_iF_s (aT_471 pc) h
def aI_472_0 : sx_IL := [(0, .aload_n 0, 1), (1, .iconst 2, 1), (2, .iload_n 1, 1), (3, .imul, 1), (4, .iload_n 2, 1), (5, .iadd, 1)]
theorem aJ_472_0 : sx_iB prog_14_method_173_code aI_472_0 = true := by decide +kernel
def aI_472_1 : sx_IL := [(6, .invokevirtual 967, 3), (9, .aload_n 0, 1), (10, .aload 5, 2), (12, .iload 6, 2), (14, .iload 7, 2), (16, .invokevirtual 586, 3)]
theorem aJ_472_1 : sx_iB prog_14_method_173_code aI_472_1 = true := by decide +kernel
def aI_472_2 : sx_IL := [(19, .aload_n 0, 1), (20, .invokevirtual 571, 3), (23, .lstore 8, 2), (25, .aload_n 0, 1), (26, .iload_n 2, 1), (27, .aload_n 0, 1)]
theorem aJ_472_2 : sx_iB prog_14_method_173_code aI_472_2 = true := by decide +kernel
def aI_472_3 : sx_IL := [(28, .iload_n 2, 1), (29, .aload_n 0, 1), (30, .iload_n 2, 1), (31, .aload_n 0, 1), (32, .iload_n 2, 1), (33, .lload_n 3, 1)]
theorem aJ_472_3 : sx_iB prog_14_method_173_code aI_472_3 = true := by decide +kernel
def aI_472_4 : sx_IL := [(34, .invokevirtual 1001, 3), (37, .bipush 98, 2), (39, .lconst 0, 1), (40, .invokevirtual 598, 3), (43, .bipush 102, 2), (45, .lconst 0, 1)]
theorem aJ_472_4 : sx_iB prog_14_method_173_code aI_472_4 = true := by decide +kernel
def aI_472_5 : sx_IL := [(46, .invokevirtual 598, 3), (49, .lload 8, 2), (51, .invokevirtual 994, 3), (54, .lreturn, 1)]
theorem aJ_472_5 : sx_iB prog_14_method_173_code aI_472_5 = true := by decide +kernel
def aS_472 (pc : Nat) : sx_IL := (if pc < 28 then (if pc < 6 then aI_472_0 else (if pc < 19 then aI_472_1 else aI_472_2)) else (if pc < 34 then aI_472_3 else (if pc < 46 then aI_472_4 else aI_472_5)))
theorem aT_472 (pc : Nat) : sx_iOk prog_14_method_173_code (aS_472 pc) := (sx_ite (p := fun l => sx_iOk prog_14_method_173_code l) (sx_ite (p := fun l => sx_iOk prog_14_method_173_code l) (sx_iB_s aJ_472_0) (sx_ite (p := fun l => sx_iOk prog_14_method_173_code l) (sx_iB_s aJ_472_1) (sx_iB_s aJ_472_2))) (sx_ite (p := fun l => sx_iOk prog_14_method_173_code l) (sx_iB_s aJ_472_3) (sx_ite (p := fun l => sx_iOk prog_14_method_173_code l) (sx_iB_s aJ_472_4) (sx_iB_s aJ_472_5))))
def aW_472 : Nat → Option (Instr × Nat) := fun pc => sx_iF (aS_472 pc) pc
theorem aX_472 : ∀ pc i len, aW_472 pc = some (i, len) → decode aM_472.1.2.1 pc = .ok (i, len) := fun pc i len h => sx_iF_s (aT_472 pc) h
def aI_473_0 : sx_IL := [(0, .aload_n 0, 1), (1, .aload_n 0, 1), (2, .getfield 387, 3), (5, .iload_n 1, 1), (6, .iaload, 1), (7, .putfield 526, 3)]
theorem aJ_473_0 : sx_iB prog_14_method_150_code aI_473_0 = true := by decide +kernel
def aI_473_1 : sx_IL := [(10, .aload_n 0, 1), (11, .aload_n 0, 1), (12, .getfield 390, 3), (15, .iload_n 1, 1), (16, .iaload, 1), (17, .putfield 529, 3)]
theorem aJ_473_1 : sx_iB prog_14_method_150_code aI_473_1 = true := by decide +kernel
def aI_473_2 : sx_IL := [(20, .aload_n 0, 1), (21, .aload_n 0, 1), (22, .getfield 393, 3), (25, .iload_n 1, 1), (26, .iaload, 1), (27, .putfield 539, 3)]
theorem aJ_473_2 : sx_iB prog_14_method_150_code aI_473_2 = true := by decide +kernel
def aI_473_3 : sx_IL := [(30, .aload_n 0, 1), (31, .aload_n 0, 1), (32, .getfield 396, 3), (35, .iload_n 1, 1), (36, .iaload, 1), (37, .putfield 532, 3)]
theorem aJ_473_3 : sx_iB prog_14_method_150_code aI_473_3 = true := by decide +kernel
def aI_473_4 : sx_IL := [(40, .aload_n 0, 1), (41, .aload_n 0, 1), (42, .getfield 399, 3), (45, .iload_n 1, 1), (46, .iaload, 1), (47, .putfield 544, 3)]
theorem aJ_473_4 : sx_iB prog_14_method_150_code aI_473_4 = true := by decide +kernel
def aI_473_5 : sx_IL := [(50, .aload_n 0, 1), (51, .aload_n 0, 1), (52, .getfield 402, 3), (55, .iload_n 1, 1), (56, .iaload, 1), (57, .putfield 551, 3)]
theorem aJ_473_5 : sx_iB prog_14_method_150_code aI_473_5 = true := by decide +kernel
def aI_473_6 : sx_IL := [(60, .aload_n 0, 1), (61, .aload_n 0, 1), (62, .getfield 405, 3), (65, .iload_n 1, 1), (66, .laload, 1), (67, .putfield 547, 3)]
theorem aJ_473_6 : sx_iB prog_14_method_150_code aI_473_6 = true := by decide +kernel
def aI_473_7 : sx_IL := [(70, .return_, 1)]
theorem aJ_473_7 : sx_iB prog_14_method_150_code aI_473_7 = true := by decide +kernel
def aS_473 (pc : Nat) : sx_IL := (if pc < 40 then (if pc < 20 then (if pc < 10 then aI_473_0 else aI_473_1) else (if pc < 30 then aI_473_2 else aI_473_3)) else (if pc < 60 then (if pc < 50 then aI_473_4 else aI_473_5) else (if pc < 70 then aI_473_6 else aI_473_7)))
theorem aT_473 (pc : Nat) : sx_iOk prog_14_method_150_code (aS_473 pc) := (sx_ite (p := fun l => sx_iOk prog_14_method_150_code l) (sx_ite (p := fun l => sx_iOk prog_14_method_150_code l) (sx_ite (p := fun l => sx_iOk prog_14_method_150_code l) (sx_iB_s aJ_473_0) (sx_iB_s aJ_473_1)) (sx_ite (p := fun l => sx_iOk prog_14_method_150_code l) (sx_iB_s aJ_473_2) (sx_iB_s aJ_473_3))) (sx_ite (p := fun l => sx_iOk prog_14_method_150_code l) (sx_ite (p := fun l => sx_iOk prog_14_method_150_code l) (sx_iB_s aJ_473_4) (sx_iB_s aJ_473_5)) (sx_ite (p := fun l => sx_iOk prog_14_method_150_code l) (sx_iB_s aJ_473_6) (sx_iB_s aJ_473_7))))
def aW_473 : Nat → Option (Instr × Nat) := fun pc => sx_iF (aS_473 pc) pc
theorem aX_473 : ∀ pc i len, aW_473 pc = some (i, len) → decode aM_473.1.2.1 pc = .ok (i, len) := fun pc i len h => sx_iF_s (aT_473 pc) h
def aI_474_0 : sx_IL := [(0, .aload_n 0, 1), (1, .iload_n 1, 1), (2, .lconst 0, 1), (3, .lload_n 2, 1), (4, .invokevirtual 994, 3), (7, .lreturn, 1)]
theorem aJ_474_0 : sx_iB prog_14_method_164_code aI_474_0 = true := by decide +kernel
def aS_474 (pc : Nat) : sx_IL := aI_474_0
theorem aT_474 (pc : Nat) : sx_iOk prog_14_method_164_code (aS_474 pc) := (sx_iB_s aJ_474_0)
def aW_474 : Nat → Option (Instr × Nat) := fun pc => sx_iF (aS_474 pc) pc
theorem aX_474 : ∀ pc i len, aW_474 pc = some (i, len) → decode aM_474.1.2.1 pc = .ok (i, len) := fun pc i len h => sx_iF_s (aT_474 pc) h
def aI_475_0 : sx_IL := [(0, .aload_n 0, 1), (1, .iload_n 1, 1), (2, .lload_n 2, 1), (3, .invokevirtual 578, 3), (6, .aload_n 0, 1), (7, .lload 4, 2)]
theorem aJ_475_0 : sx_iB prog_14_method_163_code aI_475_0 = true := by decide +kernel
def aI_475_1 : sx_IL := [(9, .invokevirtual 574, 3), (12, .aload_n 0, 1), (13, .iload_n 1, 1), (14, .lload_n 2, 1), (15, .invokevirtual 582, 3), (18, .lreturn, 1)]
theorem aJ_475_1 : sx_iB prog_14_method_163_code aI_475_1 = true := by decide +kernel
def aS_475 (pc : Nat) : sx_IL := (if pc < 9 then aI_475_0 else aI_475_1)
theorem aT_475 (pc : Nat) : sx_iOk prog_14_method_163_code (aS_475 pc) := (sx_ite (p := fun l => sx_iOk prog_14_method_163_code l) (sx_iB_s aJ_475_0) (sx_iB_s aJ_475_1))
def aW_475 : Nat → Option (Instr × Nat) := fun pc => sx_iF (aS_475 pc) pc
theorem aX_475 : ∀ pc i len, aW_475 pc = some (i, len) → decode aM_475.1.2.1 pc = .ok (i, len) := fun pc i len h => sx_iF_s (aT_475 pc) h
def aI_476_0 : sx_IL := [(0, .iconst 3, 1), (1, .aload_n 0, 1), (2, .getfield 814, 3), (5, .iadd, 1), (6, .istore_n 3, 1), (7, .aload_n 0, 1)]
theorem aJ_476_0 : sx_iB prog_14_method_159_code aI_476_0 = true := by decide +kernel
def aI_476_1 : sx_IL := [(8, .getfield 483, 3), (11, .iconst 0, 1), (12, .iload_n 2, 1), (13, .iastore, 1), (14, .aload_n 0, 1), (15, .getfield 483, 3)]
theorem aJ_476_1 : sx_iB prog_14_method_159_code aI_476_1 = true := by decide +kernel
def aI_476_2 : sx_IL := [(18, .iconst 1, 1), (19, .aload_n 0, 1), (20, .getfield 814, 3), (23, .bipush 8, 2), (25, .ishr, 1), (26, .iastore, 1)]
theorem aJ_476_2 : sx_iB prog_14_method_159_code aI_476_2 = true := by decide +kernel
def aI_476_3 : sx_IL := [(27, .aload_n 0, 1), (28, .getfield 483, 3), (31, .iconst 2, 1), (32, .aload_n 0, 1), (33, .getfield 814, 3), (36, .sipush 255, 3)]
theorem aJ_476_3 : sx_iB prog_14_method_159_code aI_476_3 = true := by decide +kernel
def aI_476_4 : sx_IL := [(39, .iand, 1), (40, .iastore, 1), (41, .iconst 0, 1), (42, .istore 4, 2), (44, .iload 4, 2), (46, .aload_n 0, 1)]
theorem aJ_476_4 : sx_iB prog_14_method_159_code aI_476_4 = true := by decide +kernel
def aI_476_5 : sx_IL := [(47, .getfield 814, 3), (50, .if_icmp .ge 25, 3), (53, .aload_n 0, 1), (54, .getfield 483, 3), (57, .iconst 3, 1), (58, .iload 4, 2)]
theorem aJ_476_5 : sx_iB prog_14_method_159_code aI_476_5 = true := by decide +kernel
def aI_476_6 : sx_IL := [(60, .iadd, 1), (61, .aload_n 0, 1), (62, .getfield 84, 3), (65, .iload 4, 2), (67, .iaload, 1), (68, .iastore, 1)]
theorem aJ_476_6 : sx_iB prog_14_method_159_code aI_476_6 = true := by decide +kernel
def aI_476_7 : sx_IL := [(69, .iinc 4 1, 3), (72, .goto (-28), 3), (75, .iload_n 2, 1), (76, .invokestatic 980, 3), (79, .ifCond .eq 14, 3), (82, .aload_n 0, 1)]
theorem aJ_476_7 : sx_iB prog_14_method_159_code aI_476_7 = true := by decide +kernel
def aI_476_8 : sx_IL := [(83, .iload_n 1, 1), (84, .aload_n 0, 1), (85, .getfield 483, 3), (88, .iconst 0, 1), (89, .iload_n 3, 1), (90, .invokevirtual 983, 3)]
theorem aJ_476_8 : sx_iB prog_14_method_159_code aI_476_8 = true := by decide +kernel
def aI_476_9 : sx_IL := [(93, .iconst 0, 1), (94, .istore 4, 2), (96, .iload 4, 2), (98, .iload_n 3, 1), (99, .if_icmp .ge 45, 3), (102, .aload_n 0, 1)]
theorem aJ_476_9 : sx_iB prog_14_method_159_code aI_476_9 = true := by decide +kernel
def aI_476_10 : sx_IL := [(103, .iload_n 1, 1), (104, .bipush 22, 2), (106, .aload_n 0, 1), (107, .getfield 483, 3), (110, .iload 4, 2), (112, .iload_n 3, 1)]
theorem aJ_476_10 : sx_iB prog_14_method_159_code aI_476_10 = true := by decide +kernel
def aI_476_11 : sx_IL := [(113, .iload 4, 2), (115, .isub, 1), (116, .sipush 200, 3), (119, .if_icmp .ge 10, 3), (122, .iload_n 3, 1), (123, .iload 4, 2)]
theorem aJ_476_11 : sx_iB prog_14_method_159_code aI_476_11 = true := by decide +kernel
def aI_476_12 : sx_IL := [(125, .isub, 1), (126, .goto 6, 3), (129, .sipush 200, 3), (132, .invokevirtual 987, 3), (135, .iinc 4 200, 6), (141, .goto (-45), 3)]
theorem aJ_476_12 : sx_iB prog_14_method_159_code aI_476_12 = true := by decide +kernel
def aI_476_13 : sx_IL := [(144, .return_, 1)]
theorem aJ_476_13 : sx_iB prog_14_method_159_code aI_476_13 = true := by decide +kernel
def aS_476 (pc : Nat) : sx_IL := (if pc < 69 then (if pc < 27 then (if pc < 8 then aI_476_0 else (if pc < 18 then aI_476_1 else aI_476_2)) else (if pc < 47 then (if pc < 39 then aI_476_3 else aI_476_4) else (if pc < 60 then aI_476_5 else aI_476_6))) else (if pc < 103 then (if pc < 83 then aI_476_7 else (if pc < 93 then aI_476_8 else aI_476_9)) else (if pc < 125 then (if pc < 113 then aI_476_10 else aI_476_11) else (if pc < 144 then aI_476_12 else aI_476_13))))
theorem aT_476 (pc : Nat) : sx_iOk prog_14_method_159_code (aS_476 pc) := (sx_ite (p := fun l => sx_iOk prog_14_method_159_code l) (sx_ite (p := fun l => sx_iOk prog_14_method_159_code l) (sx_ite (p := fun l => sx_iOk prog_14_method_159_code l) (sx_iB_s aJ_476_0) (sx_ite (p := fun l => sx_iOk prog_14_method_159_code l) (sx_iB_s aJ_476_1) (sx_iB_s aJ_476_2))) (sx_ite (p := fun l => sx_iOk prog_14_method_159_code l) (sx_ite (p := fun l => sx_iOk prog_14_method_159_code l) (sx_iB_s aJ_476_3) (sx_iB_s aJ_476_4)) (sx_ite (p := fun l => sx_iOk prog_14_method_159_code l) (sx_iB_s aJ_476_5) (sx_iB_s aJ_476_6)))) (sx_ite (p := fun l => sx_iOk prog_14_method_159_code l) (sx_ite (p := fun l => sx_iOk prog_14_method_159_code l) (sx_iB_s aJ_476_7) (sx_ite (p := fun l => sx_iOk prog_14_method_159_code l) (sx_iB_s aJ_476_8) (sx_iB_s aJ_476_9))) (sx_ite (p := fun l => sx_iOk prog_14_method_159_code l) (sx_ite (p := fun l => sx_iOk prog_14_method_159_code l) (sx_iB_s aJ_476_10) (sx_iB_s aJ_476_11)) (sx_ite (p := fun l => sx_iOk prog_14_method_159_code l) (sx_iB_s aJ_476_12) (sx_iB_s aJ_476_13)))))
def aW_476 : Nat → Option (Instr × Nat) := fun pc => sx_iF (aS_476 pc) pc
theorem aX_476 : ∀ pc i len, aW_476 pc = some (i, len) → decode aM_476.1.2.1 pc = .ok (i, len) := fun pc i len h => sx_iF_s (aT_476 pc) h
def aI_477_0 : sx_IL := [(0, .iload_n 0, 1), (1, .iconst 4, 1), (2, .if_icmp .eq 13, 3), (5, .iload_n 0, 1), (6, .bipush 24, 2), (8, .if_icmp .eq 7, 3)]
theorem aJ_477_0 : sx_iB prog_14_method_160_code aI_477_0 = true := by decide +kernel
def aI_477_1 : sx_IL := [(11, .iconst 1, 1), (12, .goto 4, 3), (15, .iconst 0, 1), (16, .ireturn, 1)]
theorem aJ_477_1 : sx_iB prog_14_method_160_code aI_477_1 = true := by decide +kernel
def aS_477 (pc : Nat) : sx_IL := (if pc < 11 then aI_477_0 else aI_477_1)
theorem aT_477 (pc : Nat) : sx_iOk prog_14_method_160_code (aS_477 pc) := (sx_ite (p := fun l => sx_iOk prog_14_method_160_code l) (sx_iB_s aJ_477_0) (sx_iB_s aJ_477_1))
def aW_477 : Nat → Option (Instr × Nat) := fun pc => sx_iF (aS_477 pc) pc
theorem aX_477 : ∀ pc i len, aW_477 pc = some (i, len) → decode aM_477.1.2.1 pc = .ok (i, len) := fun pc i len h => sx_iF_s (aT_477 pc) h
def aI_478_0 : sx_IL := [(0, .iconst 0, 1), (1, .istore 5, 2), (3, .iload 5, 2), (5, .iconst 2, 1), (6, .if_icmp .ge 37, 3), (9, .aload_n 0, 1)]
theorem aJ_478_0 : sx_iB prog_14_method_151_code aI_478_0 = true := by decide +kernel
def aI_478_1 : sx_IL := [(10, .iconst 2, 1), (11, .iload_n 1, 1), (12, .imul, 1), (13, .iload 5, 2), (15, .iadd, 1), (16, .invokevirtual 967, 3)]
theorem aJ_478_1 : sx_iB prog_14_method_151_code aI_478_1 = true := by decide +kernel
def aI_478_2 : sx_IL := [(19, .aload_n 0, 1), (20, .aload_n 2, 1), (21, .iload_n 3, 1), (22, .iload 4, 2), (24, .invokevirtual 586, 3), (27, .aload_n 0, 1)]
theorem aJ_478_2 : sx_iB prog_14_method_151_code aI_478_2 = true := by decide +kernel
def aI_478_3 : sx_IL := [(28, .iconst 2, 1), (29, .iload_n 1, 1), (30, .imul, 1), (31, .iload 5, 2), (33, .iadd, 1), (34, .invokevirtual 970, 3)]
theorem aJ_478_3 : sx_iB prog_14_method_151_code aI_478_3 = true := by decide +kernel
def aI_478_4 : sx_IL := [(37, .iinc 5 1, 3), (40, .goto (-37), 3), (43, .return_, 1)]
theorem aJ_478_4 : sx_iB prog_14_method_151_code aI_478_4 = true := by decide +kernel
def aS_478 (pc : Nat) : sx_IL := (if pc < 19 then (if pc < 10 then aI_478_0 else aI_478_1) else (if pc < 28 then aI_478_2 else (if pc < 37 then aI_478_3 else aI_478_4)))
theorem aT_478 (pc : Nat) : sx_iOk prog_14_method_151_code (aS_478 pc) := (sx_ite (p := fun l => sx_iOk prog_14_method_151_code l) (sx_ite (p := fun l => sx_iOk prog_14_method_151_code l) (sx_iB_s aJ_478_0) (sx_iB_s aJ_478_1)) (sx_ite (p := fun l => sx_iOk prog_14_method_151_code l) (sx_iB_s aJ_478_2) (sx_ite (p := fun l => sx_iOk prog_14_method_151_code l) (sx_iB_s aJ_478_3) (sx_iB_s aJ_478_4))))
def aW_478 : Nat → Option (Instr × Nat) := fun pc => sx_iF (aS_478 pc) pc
theorem aX_478 : ∀ pc i len, aW_478 pc = some (i, len) → decode aM_478.1.2.1 pc = .ok (i, len) := fun pc i len h => sx_iF_s (aT_478 pc) h
def aI_479_0 : sx_IL := [(0, .aload_n 0, 1), (1, .getfield 309, 3), (4, .iload_n 1, 1), (5, .baload, 1), (6, .ifCond .ne 55, 3), (9, .aload_n 0, 1)]
theorem aJ_479_0 : sx_iB prog_14_method_156_code aI_479_0 = true := by decide +kernel
def aI_479_1 : sx_IL := [(10, .iload_n 1, 1), (11, .iload_n 2, 1), (12, .invokevirtual 977, 3), (15, .aload_n 0, 1), (16, .iload_n 1, 1), (17, .iload 5, 2)]
theorem aJ_479_1 : sx_iB prog_14_method_156_code aI_479_1 = true := by decide +kernel
def aI_479_2 : sx_IL := [(19, .bipush 8, 2), (21, .ishr, 1), (22, .invokevirtual 977, 3), (25, .aload_n 0, 1), (26, .iload_n 1, 1), (27, .iload 5, 2)]
theorem aJ_479_2 : sx_iB prog_14_method_156_code aI_479_2 = true := by decide +kernel
def aI_479_3 : sx_IL := [(29, .invokevirtual 977, 3), (32, .iconst 0, 1), (33, .istore 6, 2), (35, .iload 6, 2), (37, .iload 5, 2), (39, .if_icmp .ge 21, 3)]
theorem aJ_479_3 : sx_iB prog_14_method_156_code aI_479_3 = true := by decide +kernel
def aI_479_4 : sx_IL := [(42, .aload_n 0, 1), (43, .iload_n 1, 1), (44, .aload_n 3, 1), (45, .iload 4, 2), (47, .iload 6, 2), (49, .iadd, 1)]
theorem aJ_479_4 : sx_iB prog_14_method_156_code aI_479_4 = true := by decide +kernel
def aI_479_5 : sx_IL := [(50, .iaload, 1), (51, .invokevirtual 977, 3), (54, .iinc 6 1, 3), (57, .goto (-22), 3), (60, .return_, 1), (61, .aload_n 0, 1)]
theorem aJ_479_5 : sx_iB prog_14_method_156_code aI_479_5 = true := by decide +kernel
def aI_479_6 : sx_IL := [(62, .getfield 327, 3), (65, .iload_n 1, 1), (66, .iaload, 1), (67, .istore 6, 2), (69, .iload 5, 2), (71, .iconst 1, 1)]
theorem aJ_479_6 : sx_iB prog_14_method_156_code aI_479_6 = true := by decide +kernel
def aI_479_7 : sx_IL := [(72, .iadd, 1), (73, .iload 6, 2), (75, .invokestatic 619, 3), (78, .iadd, 1), (79, .istore 7, 2), (81, .aload_n 0, 1)]
theorem aJ_479_7 : sx_iB prog_14_method_156_code aI_479_7 = true := by decide +kernel
def aI_479_8 : sx_IL := [(82, .getfield 480, 3), (85, .iconst 0, 1), (86, .bipush 23, 2), (88, .iastore, 1), (89, .aload_n 0, 1), (90, .getfield 480, 3)]
theorem aJ_479_8 : sx_iB prog_14_method_156_code aI_479_8 = true := by decide +kernel
def aI_479_9 : sx_IL := [(93, .iconst 1, 1), (94, .iload 7, 2), (96, .bipush 8, 2), (98, .ishr, 1), (99, .iastore, 1), (100, .aload_n 0, 1)]
theorem aJ_479_9 : sx_iB prog_14_method_156_code aI_479_9 = true := by decide +kernel
def aI_479_10 : sx_IL := [(101, .getfield 480, 3), (104, .iconst 2, 1), (105, .iload 7, 2), (107, .sipush 255, 3), (110, .iand, 1), (111, .iastore, 1)]
theorem aJ_479_10 : sx_iB prog_14_method_156_code aI_479_10 = true := by decide +kernel
def aI_479_11 : sx_IL := [(112, .iconst 0, 1), (113, .istore 8, 2), (115, .iload 8, 2), (117, .iload 5, 2), (119, .if_icmp .ge 25, 3), (122, .aload_n 0, 1)]
theorem aJ_479_11 : sx_iB prog_14_method_156_code aI_479_11 = true := by decide +kernel
def aI_479_12 : sx_IL := [(123, .getfield 480, 3), (126, .iconst 3, 1), (127, .iload 8, 2), (129, .iadd, 1), (130, .aload_n 3, 1), (131, .iload 4, 2)]
theorem aJ_479_12 : sx_iB prog_14_method_156_code aI_479_12 = true := by decide +kernel
def aI_479_13 : sx_IL := [(133, .iload 8, 2), (135, .iadd, 1), (136, .iaload, 1), (137, .iastore, 1), (138, .iinc 8 1, 3), (141, .goto (-26), 3)]
theorem aJ_479_13 : sx_iB prog_14_method_156_code aI_479_13 = true := by decide +kernel
def aI_479_14 : sx_IL := [(144, .aload_n 0, 1), (145, .getfield 480, 3), (148, .iconst 3, 1), (149, .iload 5, 2), (151, .iadd, 1), (152, .iload_n 2, 1)]
theorem aJ_479_14 : sx_iB prog_14_method_156_code aI_479_14 = true := by decide +kernel
def aI_479_15 : sx_IL := [(153, .iastore, 1), (154, .aload_n 0, 1), (155, .aload_n 0, 1), (156, .getfield 315, 3), (159, .iload_n 1, 1), (160, .laload, 1)]
theorem aJ_479_15 : sx_iB prog_14_method_156_code aI_479_15 = true := by decide +kernel
def aI_479_16 : sx_IL := [(161, .aload_n 0, 1), (162, .getfield 321, 3), (165, .iload_n 1, 1), (166, .iaload, 1), (167, .i2l, 1), (168, .aload_n 0, 1)]
theorem aJ_479_16 : sx_iB prog_14_method_156_code aI_479_16 = true := by decide +kernel
def aI_479_17 : sx_IL := [(169, .getfield 480, 3), (172, .iconst 3, 1), (173, .iload 5, 2), (175, .iconst 1, 1), (176, .iadd, 1), (177, .invokevirtual 611, 3)]
theorem aJ_479_17 : sx_iB prog_14_method_156_code aI_479_17 = true := by decide +kernel
def aI_479_18 : sx_IL := [(180, .aload_n 0, 1), (181, .iload 6, 2), (183, .aload_n 0, 1), (184, .getfield 315, 3), (187, .iload_n 1, 1), (188, .laload, 1)]
theorem aJ_479_18 : sx_iB prog_14_method_156_code aI_479_18 = true := by decide +kernel
def aI_479_19 : sx_IL := [(189, .aload_n 0, 1), (190, .getfield 321, 3), (193, .iload_n 1, 1), (194, .iaload, 1), (195, .i2l, 1), (196, .aload_n 0, 1)]
theorem aJ_479_19 : sx_iB prog_14_method_156_code aI_479_19 = true := by decide +kernel
def aI_479_20 : sx_IL := [(197, .getfield 480, 3), (200, .iconst 0, 1), (201, .iconst 3, 1), (202, .aload_n 0, 1), (203, .getfield 480, 3), (206, .iconst 3, 1)]
theorem aJ_479_20 : sx_iB prog_14_method_156_code aI_479_20 = true := by decide +kernel
def aI_479_21 : sx_IL := [(207, .iload 5, 2), (209, .iconst 1, 1), (210, .iadd, 1), (211, .invokevirtual 615, 3), (214, .lstore 8, 2), (216, .iconst 0, 1)]
theorem aJ_479_21 : sx_iB prog_14_method_156_code aI_479_21 = true := by decide +kernel
def aI_479_22 : sx_IL := [(217, .istore 10, 2), (219, .iload 10, 2), (221, .iload 6, 2), (223, .invokestatic 619, 3), (226, .if_icmp .ge 28, 3), (229, .aload_n 0, 1)]
theorem aJ_479_22 : sx_iB prog_14_method_156_code aI_479_22 = true := by decide +kernel
def aI_479_23 : sx_IL := [(230, .getfield 480, 3), (233, .iconst 4, 1), (234, .iload 5, 2), (236, .iadd, 1), (237, .iload 10, 2), (239, .iadd, 1)]
theorem aJ_479_23 : sx_iB prog_14_method_156_code aI_479_23 = true := by decide +kernel
def aI_479_24 : sx_IL := [(240, .lload 8, 2), (242, .iload 10, 2), (244, .invokestatic 622, 3), (247, .iastore, 1), (248, .iinc 10 1, 3), (251, .goto (-32), 3)]
theorem aJ_479_24 : sx_iB prog_14_method_156_code aI_479_24 = true := by decide +kernel
def aI_479_25 : sx_IL := [(254, .iconst 0, 1), (255, .istore 10, 2), (257, .iload 10, 2), (259, .iconst 3, 1), (260, .iload 7, 2), (262, .iadd, 1)]
theorem aJ_479_25 : sx_iB prog_14_method_156_code aI_479_25 = true := by decide +kernel
def aI_479_26 : sx_IL := [(263, .if_icmp .ge 21, 3), (266, .aload_n 0, 1), (267, .iload_n 1, 1), (268, .aload_n 0, 1), (269, .getfield 480, 3), (272, .iload 10, 2)]
theorem aJ_479_26 : sx_iB prog_14_method_156_code aI_479_26 = true := by decide +kernel
def aI_479_27 : sx_IL := [(274, .iaload, 1), (275, .invokevirtual 977, 3), (278, .iinc 10 1, 3), (281, .goto (-24), 3), (284, .aload_n 0, 1), (285, .getfield 321, 3)]
theorem aJ_479_27 : sx_iB prog_14_method_156_code aI_479_27 = true := by decide +kernel
def aI_479_28 : sx_IL := [(288, .iload_n 1, 1), (289, .dup2, 1), (290, .iaload, 1), (291, .iconst 1, 1), (292, .iadd, 1), (293, .iastore, 1)]
theorem aJ_479_28 : sx_iB prog_14_method_156_code aI_479_28 = true := by decide +kernel
def aI_479_29 : sx_IL := [(294, .return_, 1)]
theorem aJ_479_29 : sx_iB prog_14_method_156_code aI_479_29 = true := by decide +kernel
def aS_479 (pc : Nat) : sx_IL := (if pc < 153 then (if pc < 72 then (if pc < 29 then (if pc < 10 then aI_479_0 else (if pc < 19 then aI_479_1 else aI_479_2)) else (if pc < 50 then (if pc < 42 then aI_479_3 else aI_479_4) else (if pc < 62 then aI_479_5 else aI_479_6))) else (if pc < 112 then (if pc < 93 then (if pc < 82 then aI_479_7 else aI_479_8) else (if pc < 101 then aI_479_9 else aI_479_10)) else (if pc < 133 then (if pc < 123 then aI_479_11 else aI_479_12) else (if pc < 144 then aI_479_13 else aI_479_14)))) else (if pc < 217 then (if pc < 180 then (if pc < 161 then aI_479_15 else (if pc < 169 then aI_479_16 else aI_479_17)) else (if pc < 197 then (if pc < 189 then aI_479_18 else aI_479_19) else (if pc < 207 then aI_479_20 else aI_479_21))) else (if pc < 263 then (if pc < 240 then (if pc < 230 then aI_479_22 else aI_479_23) else (if pc < 254 then aI_479_24 else aI_479_25)) else (if pc < 288 then (if pc < 274 then aI_479_26 else aI_479_27) else (if pc < 294 then aI_479_28 else aI_479_29)))))
theorem aT_479 (pc : Nat) : sx_iOk prog_14_method_156_code (aS_479 pc) := (sx_ite (p := fun l => sx_iOk prog_14_method_156_code l) (sx_ite (p := fun l => sx_iOk prog_14_method_156_code l) (sx_ite (p := fun l => sx_iOk prog_14_method_156_code l) (sx_ite (p := fun l => sx_iOk prog_14_method_156_code l) (sx_iB_s aJ_479_0) (sx_ite (p := fun l => sx_iOk prog_14_method_156_code l) (sx_iB_s aJ_479_1) (sx_iB_s aJ_479_2))) (sx_ite (p := fun l => sx_iOk prog_14_method_156_code l) (sx_ite (p := fun l => sx_iOk prog_14_method_156_code l) (sx_iB_s aJ_479_3) (sx_iB_s aJ_479_4)) (sx_ite (p := fun l => sx_iOk prog_14_method_156_code l) (sx_iB_s aJ_479_5) (sx_iB_s aJ_479_6)))) (sx_ite (p := fun l => sx_iOk prog_14_method_156_code l) (sx_ite (p := fun l => sx_iOk prog_14_method_156_code l) (sx_ite (p := fun l => sx_iOk prog_14_method_156_code l) (sx_iB_s aJ_479_7) (sx_iB_s aJ_479_8)) (sx_ite (p := fun l => sx_iOk prog_14_method_156_code l) (sx_iB_s aJ_479_9) (sx_iB_s aJ_479_10))) (sx_ite (p := fun l => sx_iOk prog_14_method_156_code l) (sx_ite (p := fun l => sx_iOk prog_14_method_156_code l) (sx_iB_s aJ_479_11) (sx_iB_s aJ_479_12)) (sx_ite (p := fun l => sx_iOk prog_14_method_156_code l) (sx_iB_s aJ_479_13) (sx_iB_s aJ_479_14))))) (sx_ite (p := fun l => sx_iOk prog_14_method_156_code l) (sx_ite (p := fun l => sx_iOk prog_14_method_156_code l) (sx_ite (p := fun l => sx_iOk prog_14_method_156_code l) (sx_iB_s aJ_479_15) (sx_ite (p := fun l => sx_iOk prog_14_method_156_code l) (sx_iB_s aJ_479_16) (sx_iB_s aJ_479_17))) (sx_ite (p := fun l => sx_iOk prog_14_method_156_code l) (sx_ite (p := fun l => sx_iOk prog_14_method_156_code l) (sx_iB_s aJ_479_18) (sx_iB_s aJ_479_19)) (sx_ite (p := fun l => sx_iOk prog_14_method_156_code l) (sx_iB_s aJ_479_20) (sx_iB_s aJ_479_21)))) (sx_ite (p := fun l => sx_iOk prog_14_method_156_code l) (sx_ite (p := fun l => sx_iOk prog_14_method_156_code l) (sx_ite (p := fun l => sx_iOk prog_14_method_156_code l) (sx_iB_s aJ_479_22) (sx_iB_s aJ_479_23)) (sx_ite (p := fun l => sx_iOk prog_14_method_156_code l) (sx_iB_s aJ_479_24) (sx_iB_s aJ_479_25))) (sx_ite (p := fun l => sx_iOk prog_14_method_156_code l) (sx_ite (p := fun l => sx_iOk prog_14_method_156_code l) (sx_iB_s aJ_479_26) (sx_iB_s aJ_479_27)) (sx_ite (p := fun l => sx_iOk prog_14_method_156_code l) (sx_iB_s aJ_479_28) (sx_iB_s aJ_479_29))))))
def aW_479 : Nat → Option (Instr × Nat) := fun pc => sx_iF (aS_479 pc) pc
theorem aX_479 : ∀ pc i len, aW_479 pc = some (i, len) → decode aM_479.1.2.1 pc = .ok (i, len) := fun pc i len h => sx_iF_s (aT_479 pc) h
def aI_480_0 : sx_IL := [(0, .aload_n 0, 1), (1, .getfield 265, 3), (4, .sipush 16000, 3), (7, .iload_n 1, 1), (8, .imul, 1), (9, .aload_n 0, 1)]
theorem aJ_480_0 : sx_iB prog_14_method_155_code aI_480_0 = true := by decide +kernel
def aI_480_1 : sx_IL := [(10, .getfield 268, 3), (13, .iload_n 1, 1), (14, .iaload, 1), (15, .iadd, 1), (16, .iload_n 2, 1), (17, .sipush 255, 3)]
theorem aJ_480_1 : sx_iB prog_14_method_155_code aI_480_1 = true := by decide +kernel
def aI_480_2 : sx_IL := [(20, .iand, 1), (21, .iastore, 1), (22, .aload_n 0, 1), (23, .getfield 268, 3), (26, .iload_n 1, 1), (27, .dup2, 1)]
theorem aJ_480_2 : sx_iB prog_14_method_155_code aI_480_2 = true := by decide +kernel
def aI_480_3 : sx_IL := [(28, .iaload, 1), (29, .iconst 1, 1), (30, .iadd, 1), (31, .iastore, 1), (32, .return_, 1)]
theorem aJ_480_3 : sx_iB prog_14_method_155_code aI_480_3 = true := by decide +kernel
def aS_480 (pc : Nat) : sx_IL := (if pc < 20 then (if pc < 10 then aI_480_0 else aI_480_1) else (if pc < 28 then aI_480_2 else aI_480_3))
theorem aT_480 (pc : Nat) : sx_iOk prog_14_method_155_code (aS_480 pc) := (sx_ite (p := fun l => sx_iOk prog_14_method_155_code l) (sx_ite (p := fun l => sx_iOk prog_14_method_155_code l) (sx_iB_s aJ_480_0) (sx_iB_s aJ_480_1)) (sx_ite (p := fun l => sx_iOk prog_14_method_155_code l) (sx_iB_s aJ_480_2) (sx_iB_s aJ_480_3)))
def aW_480 : Nat → Option (Instr × Nat) := fun pc => sx_iF (aS_480 pc) pc
theorem aX_480 : ∀ pc i len, aW_480 pc = some (i, len) → decode aM_480.1.2.1 pc = .ok (i, len) := fun pc i len h => sx_iF_s (aT_480 pc) h
def aI_481_0 : sx_IL := [(0, .aload_n 0, 1), (1, .iconst 2, 1), (2, .iload_n 1, 1), (3, .imul, 1), (4, .iload_n 2, 1), (5, .iadd, 1)]
theorem aJ_481_0 : sx_iB prog_14_method_152_code aI_481_0 = true := by decide +kernel
def aI_481_1 : sx_IL := [(6, .invokevirtual 967, 3), (9, .aload_n 0, 1), (10, .invokevirtual 571, 3), (13, .lreturn, 1)]
theorem aJ_481_1 : sx_iB prog_14_method_152_code aI_481_1 = true := by decide +kernel
def aS_481 (pc : Nat) : sx_IL := (if pc < 6 then aI_481_0 else aI_481_1)
theorem aT_481 (pc : Nat) : sx_iOk prog_14_method_152_code (aS_481 pc) := (sx_ite (p := fun l => sx_iOk prog_14_method_152_code l) (sx_iB_s aJ_481_0) (sx_iB_s aJ_481_1))
def aW_481 : Nat → Option (Instr × Nat) := fun pc => sx_iF (aS_481 pc) pc
theorem aX_481 : ∀ pc i len, aW_481 pc = some (i, len) → decode aM_481.1.2.1 pc = .ok (i, len) := fun pc i len h => sx_iF_s (aT_481 pc) h
def aI_482_0 : sx_IL := [(0, .aload_n 0, 1), (1, .getfield 309, 3), (4, .iload_n 1, 1), (5, .iconst 1, 1), (6, .bastore, 1), (7, .aload_n 0, 1)]
theorem aJ_482_0 : sx_iB prog_14_method_157_code aI_482_0 = true := by decide +kernel
def aI_482_1 : sx_IL := [(8, .getfield 327, 3), (11, .iload_n 1, 1), (12, .iload_n 2, 1), (13, .iastore, 1), (14, .aload_n 0, 1), (15, .getfield 315, 3)]
theorem aJ_482_1 : sx_iB prog_14_method_157_code aI_482_1 = true := by decide +kernel
def aI_482_2 : sx_IL := [(18, .iload_n 1, 1), (19, .lload_n 3, 1), (20, .lastore, 1), (21, .aload_n 0, 1), (22, .getfield 321, 3), (25, .iload_n 1, 1)]
theorem aJ_482_2 : sx_iB prog_14_method_157_code aI_482_2 = true := by decide +kernel
def aI_482_3 : sx_IL := [(26, .iconst 0, 1), (27, .iastore, 1), (28, .return_, 1)]
theorem aJ_482_3 : sx_iB prog_14_method_157_code aI_482_3 = true := by decide +kernel
def aS_482 (pc : Nat) : sx_IL := (if pc < 18 then (if pc < 8 then aI_482_0 else aI_482_1) else (if pc < 26 then aI_482_2 else aI_482_3))
theorem aT_482 (pc : Nat) : sx_iOk prog_14_method_157_code (aS_482 pc) := (sx_ite (p := fun l => sx_iOk prog_14_method_157_code l) (sx_ite (p := fun l => sx_iOk prog_14_method_157_code l) (sx_iB_s aJ_482_0) (sx_iB_s aJ_482_1)) (sx_ite (p := fun l => sx_iOk prog_14_method_157_code l) (sx_iB_s aJ_482_2) (sx_iB_s aJ_482_3)))
def aW_482 : Nat → Option (Instr × Nat) := fun pc => sx_iF (aS_482 pc) pc
theorem aX_482 : ∀ pc i len, aW_482 pc = some (i, len) → decode aM_482.1.2.1 pc = .ok (i, len) := fun pc i len h => sx_iF_s (aT_482 pc) h
def aI_483_0 : sx_IL := [(0, .aload_n 0, 1), (1, .iload_n 1, 1), (2, .iload_n 2, 1), (3, .invokevirtual 1272, 3), (6, .ifCond .ne 5, 3), (9, .iconst (-1), 1)]
theorem aJ_483_0 : sx_iB prog_14_method_231_code aI_483_0 = true := by decide +kernel
def aI_483_1 : sx_IL := [(10, .ireturn, 1), (11, .aload_n 0, 1), (12, .iload_n 1, 1), (13, .iload_n 2, 1), (14, .invokevirtual 1275, 3), (17, .ifCond .ne 6, 3)]
theorem aJ_483_1 : sx_iB prog_14_method_231_code aI_483_1 = true := by decide +kernel
def aI_483_2 : sx_IL := [(20, .bipush (-2), 2), (22, .ireturn, 1), (23, .iconst 2, 1), (24, .iload_n 1, 1), (25, .imul, 1), (26, .iload_n 2, 1)]
theorem aJ_483_2 : sx_iB prog_14_method_231_code aI_483_2 = true := by decide +kernel
def aI_483_3 : sx_IL := [(27, .iadd, 1), (28, .istore_n 3, 1), (29, .aload_n 0, 1), (30, .getfield 268, 3), (33, .iload_n 3, 1), (34, .iaload, 1)]
theorem aJ_483_3 : sx_iB prog_14_method_231_code aI_483_3 = true := by decide +kernel
def aI_483_4 : sx_IL := [(35, .sipush 2000, 3), (38, .if_icmp .le 6, 3), (41, .bipush (-3), 2), (43, .ireturn, 1), (44, .aload_n 0, 1), (45, .getfield 517, 3)]
theorem aJ_483_4 : sx_iB prog_14_method_231_code aI_483_4 = true := by decide +kernel
def aI_483_5 : sx_IL := [(48, .istore 4, 2), (50, .aload_n 0, 1), (51, .iconst 0, 1), (52, .putfield 517, 3), (55, .iconst 0, 1), (56, .istore 5, 2)]
theorem aJ_483_5 : sx_iB prog_14_method_231_code aI_483_5 = true := by decide +kernel
def aI_483_6 : sx_IL := [(58, .iload 5, 2), (60, .iload 4, 2), (62, .if_icmp .ge 21, 3), (65, .aload_n 0, 1), (66, .iload_n 3, 1), (67, .aload_n 0, 1)]
theorem aJ_483_6 : sx_iB prog_14_method_231_code aI_483_6 = true := by decide +kernel
def aI_483_7 : sx_IL := [(68, .getfield 7, 3), (71, .iload 5, 2), (73, .iaload, 1), (74, .invokevirtual 1278, 3), (77, .iinc 5 1, 3), (80, .goto (-22), 3)]
theorem aJ_483_7 : sx_iB prog_14_method_231_code aI_483_7 = true := by decide +kernel
def aI_483_8 : sx_IL := [(83, .aload_n 0, 1), (84, .getfield 268, 3), (87, .iload_n 3, 1), (88, .iaload, 1), (89, .ireturn, 1)]
theorem aJ_483_8 : sx_iB prog_14_method_231_code aI_483_8 = true := by decide +kernel
def aS_483 (pc : Nat) : sx_IL := (if pc < 35 then (if pc < 20 then (if pc < 10 then aI_483_0 else aI_483_1) else (if pc < 27 then aI_483_2 else aI_483_3)) else (if pc < 58 then (if pc < 48 then aI_483_4 else aI_483_5) else (if pc < 68 then aI_483_6 else (if pc < 83 then aI_483_7 else aI_483_8))))
theorem aT_483 (pc : Nat) : sx_iOk prog_14_method_231_code (aS_483 pc) := (sx_ite (p := fun l => sx_iOk prog_14_method_231_code l) (sx_ite (p := fun l => sx_iOk prog_14_method_231_code l) (sx_ite (p := fun l => sx_iOk prog_14_method_231_code l) (sx_iB_s aJ_483_0) (sx_iB_s aJ_483_1)) (sx_ite (p := fun l => sx_iOk prog_14_method_231_code l) (sx_iB_s aJ_483_2) (sx_iB_s aJ_483_3))) (sx_ite (p := fun l => sx_iOk prog_14_method_231_code l) (sx_ite (p := fun l => sx_iOk prog_14_method_231_code l) (sx_iB_s aJ_483_4) (sx_iB_s aJ_483_5)) (sx_ite (p := fun l => sx_iOk prog_14_method_231_code l) (sx_iB_s aJ_483_6) (sx_ite (p := fun l => sx_iOk prog_14_method_231_code l) (sx_iB_s aJ_483_7) (sx_iB_s aJ_483_8)))))
def aW_483 : Nat → Option (Instr × Nat) := fun pc => sx_iF (aS_483 pc) pc
theorem aX_483 : ∀ pc i len, aW_483 pc = some (i, len) → decode aM_483.1.2.1 pc = .ok (i, len) := fun pc i len h => sx_iF_s (aT_483 pc) h
def aI_484_0 : sx_IL := [(0, .aload_n 0, 1), (1, .iload_n 1, 1), (2, .invokevirtual 964, 3), (5, .ifCond .eq 17, 3), (8, .iload_n 2, 1), (9, .i2l, 1)]
theorem aJ_484_0 : sx_iB prog_14_method_148_code aI_484_0 = true := by decide +kernel
def aI_484_1 : sx_IL := [(10, .lconst 0, 1), (11, .lconst 1, 1), (12, .invokestatic 513, 3), (15, .ifCond .eq 7, 3), (18, .iconst 1, 1), (19, .goto 4, 3)]
theorem aJ_484_1 : sx_iB prog_14_method_148_code aI_484_1 = true := by decide +kernel
def aI_484_2 : sx_IL := [(22, .iconst 0, 1), (23, .ireturn, 1)]
theorem aJ_484_2 : sx_iB prog_14_method_148_code aI_484_2 = true := by decide +kernel
def aS_484 (pc : Nat) : sx_IL := (if pc < 10 then aI_484_0 else (if pc < 22 then aI_484_1 else aI_484_2))
theorem aT_484 (pc : Nat) : sx_iOk prog_14_method_148_code (aS_484 pc) := (sx_ite (p := fun l => sx_iOk prog_14_method_148_code l) (sx_iB_s aJ_484_0) (sx_ite (p := fun l => sx_iOk prog_14_method_148_code l) (sx_iB_s aJ_484_1) (sx_iB_s aJ_484_2)))
def aW_484 : Nat → Option (Instr × Nat) := fun pc => sx_iF (aS_484 pc) pc
theorem aX_484 : ∀ pc i len, aW_484 pc = some (i, len) → decode aM_484.1.2.1 pc = .ok (i, len) := fun pc i len h => sx_iF_s (aT_484 pc) h
def aI_485_0 : sx_IL := [(0, .iload_n 1, 1), (1, .i2l, 1), (2, .lconst 0, 1), (3, .aload_n 0, 1), (4, .getfield 961, 3), (7, .iconst 1, 1)]
theorem aJ_485_0 : sx_iB prog_14_method_147_code aI_485_0 = true := by decide +kernel
def aI_485_1 : sx_IL := [(8, .isub, 1), (9, .i2l, 1), (10, .invokestatic 513, 3), (13, .ireturn, 1)]
theorem aJ_485_1 : sx_iB prog_14_method_147_code aI_485_1 = true := by decide +kernel
def aS_485 (pc : Nat) : sx_IL := (if pc < 8 then aI_485_0 else aI_485_1)
theorem aT_485 (pc : Nat) : sx_iOk prog_14_method_147_code (aS_485 pc) := (sx_ite (p := fun l => sx_iOk prog_14_method_147_code l) (sx_iB_s aJ_485_0) (sx_iB_s aJ_485_1))
def aW_485 : Nat → Option (Instr × Nat) := fun pc => sx_iF (aS_485 pc) pc
theorem aX_485 : ∀ pc i len, aW_485 pc = some (i, len) → decode aM_485.1.2.1 pc = .ok (i, len) := fun pc i len h => sx_iF_s (aT_485 pc) h
def aI_486_0 : sx_IL := [(0, .aload_n 0, 1), (1, .getfield 261, 3), (4, .iconst 2, 1), (5, .iload_n 1, 1), (6, .imul, 1), (7, .iload_n 2, 1)]
theorem aJ_486_0 : sx_iB prog_14_method_230_code aI_486_0 = true := by decide +kernel
def aI_486_1 : sx_IL := [(8, .iadd, 1), (9, .iaload, 1), (10, .ifCond .lt 7, 3), (13, .iconst 1, 1), (14, .goto 4, 3), (17, .iconst 0, 1)]
theorem aJ_486_1 : sx_iB prog_14_method_230_code aI_486_1 = true := by decide +kernel
def aI_486_2 : sx_IL := [(18, .ireturn, 1)]
theorem aJ_486_2 : sx_iB prog_14_method_230_code aI_486_2 = true := by decide +kernel
def aS_486 (pc : Nat) : sx_IL := (if pc < 8 then aI_486_0 else (if pc < 18 then aI_486_1 else aI_486_2))
theorem aT_486 (pc : Nat) : sx_iOk prog_14_method_230_code (aS_486 pc) := (sx_ite (p := fun l => sx_iOk prog_14_method_230_code l) (sx_iB_s aJ_486_0) (sx_ite (p := fun l => sx_iOk prog_14_method_230_code l) (sx_iB_s aJ_486_1) (sx_iB_s aJ_486_2)))
def aW_486 : Nat → Option (Instr × Nat) := fun pc => sx_iF (aS_486 pc) pc
theorem aX_486 : ∀ pc i len, aW_486 pc = some (i, len) → decode aM_486.1.2.1 pc = .ok (i, len) := fun pc i len h => sx_iF_s (aT_486 pc) h
def aI_487_0 : sx_IL := [(0, .aload_n 0, 1), (1, .iload_n 1, 1), (2, .invokevirtual 1041, 3), (5, .ifCond .eq 4, 3), (8, .return_, 1), (9, .sipush 320, 3)]
theorem aJ_487_0 : sx_iB prog_14_method_178_code aI_487_0 = true := by decide +kernel
def aI_487_1 : sx_IL := [(12, .iload_n 1, 1), (13, .imul, 1), (14, .istore_n 3, 1), (15, .aload_n 0, 1), (16, .getfield 271, 3), (19, .iload_n 3, 1)]
theorem aJ_487_1 : sx_iB prog_14_method_178_code aI_487_1 = true := by decide +kernel
def aI_487_2 : sx_IL := [(20, .aload_n 0, 1), (21, .getfield 274, 3), (24, .iload_n 1, 1), (25, .iaload, 1), (26, .iadd, 1), (27, .iload_n 2, 1)]
theorem aJ_487_2 : sx_iB prog_14_method_178_code aI_487_2 = true := by decide +kernel
def aI_487_3 : sx_IL := [(28, .iastore, 1), (29, .aload_n 0, 1), (30, .getfield 274, 3), (33, .iload_n 1, 1), (34, .dup2, 1), (35, .iaload, 1)]
theorem aJ_487_3 : sx_iB prog_14_method_178_code aI_487_3 = true := by decide +kernel
def aI_487_4 : sx_IL := [(36, .iconst 1, 1), (37, .iadd, 1), (38, .iastore, 1), (39, .aload_n 0, 1), (40, .getfield 274, 3), (43, .iload_n 1, 1)]
theorem aJ_487_4 : sx_iB prog_14_method_178_code aI_487_4 = true := by decide +kernel
def aI_487_5 : sx_IL := [(44, .iaload, 1), (45, .iconst 3, 1), (46, .if_icmp .ge 4, 3), (49, .return_, 1), (50, .aload_n 0, 1), (51, .getfield 271, 3)]
theorem aJ_487_5 : sx_iB prog_14_method_178_code aI_487_5 = true := by decide +kernel
def aI_487_6 : sx_IL := [(54, .iload_n 3, 1), (55, .iaload, 1), (56, .istore 4, 2), (58, .aload_n 0, 1), (59, .getfield 271, 3), (62, .iload_n 3, 1)]
theorem aJ_487_6 : sx_iB prog_14_method_178_code aI_487_6 = true := by decide +kernel
def aI_487_7 : sx_IL := [(63, .iconst 1, 1), (64, .iadd, 1), (65, .iaload, 1), (66, .bipush 8, 2), (68, .ishl, 1), (69, .aload_n 0, 1)]
theorem aJ_487_7 : sx_iB prog_14_method_178_code aI_487_7 = true := by decide +kernel
def aI_487_8 : sx_IL := [(70, .getfield 271, 3), (73, .iload_n 3, 1), (74, .iconst 2, 1), (75, .iadd, 1), (76, .iaload, 1), (77, .ior, 1)]
theorem aJ_487_8 : sx_iB prog_14_method_178_code aI_487_8 = true := by decide +kernel
def aI_487_9 : sx_IL := [(78, .istore 5, 2), (80, .iload 4, 2), (82, .i2l, 1), (83, .ldc2_w 1044, 3), (86, .ldc2_w 1046, 3), (89, .invokestatic 513, 3)]
theorem aJ_487_9 : sx_iB prog_14_method_178_code aI_487_9 = true := by decide +kernel
def aI_487_10 : sx_IL := [(92, .ifCond .ne 13, 3), (95, .aload_n 0, 1), (96, .iload_n 1, 1), (97, .bipush 10, 2), (99, .invokevirtual 1048, 3), (102, .goto 50, 3)]
theorem aJ_487_10 : sx_iB prog_14_method_178_code aI_487_10 = true := by decide +kernel
def aI_487_11 : sx_IL := [(105, .iload 5, 2), (107, .sipush 300, 3), (110, .if_icmp .le 13, 3), (113, .aload_n 0, 1), (114, .iload_n 1, 1), (115, .bipush 22, 2)]
theorem aJ_487_11 : sx_iB prog_14_method_178_code aI_487_11 = true := by decide +kernel
def aI_487_12 : sx_IL := [(117, .invokevirtual 1048, 3), (120, .goto 32, 3), (123, .aload_n 0, 1), (124, .getfield 274, 3), (127, .iload_n 1, 1), (128, .iaload, 1)]
theorem aJ_487_12 : sx_iB prog_14_method_178_code aI_487_12 = true := by decide +kernel
def aI_487_13 : sx_IL := [(129, .iconst 3, 1), (130, .iload 5, 2), (132, .iadd, 1), (133, .if_icmp .ne 19, 3), (136, .aload_n 0, 1), (137, .getfield 274, 3)]
theorem aJ_487_13 : sx_iB prog_14_method_178_code aI_487_13 = true := by decide +kernel
def aI_487_14 : sx_IL := [(140, .iload_n 1, 1), (141, .iconst 0, 1), (142, .iastore, 1), (143, .aload_n 0, 1), (144, .iload_n 1, 1), (145, .iload 4, 2)]
theorem aJ_487_14 : sx_iB prog_14_method_178_code aI_487_14 = true := by decide +kernel
def aI_487_15 : sx_IL := [(147, .iload 5, 2), (149, .invokevirtual 1051, 3), (152, .return_, 1)]
theorem aJ_487_15 : sx_iB prog_14_method_178_code aI_487_15 = true := by decide +kernel
def aS_487 (pc : Nat) : sx_IL := (if pc < 70 then (if pc < 36 then (if pc < 20 then (if pc < 12 then aI_487_0 else aI_487_1) else (if pc < 28 then aI_487_2 else aI_487_3)) else (if pc < 54 then (if pc < 44 then aI_487_4 else aI_487_5) else (if pc < 63 then aI_487_6 else aI_487_7))) else (if pc < 117 then (if pc < 92 then (if pc < 78 then aI_487_8 else aI_487_9) else (if pc < 105 then aI_487_10 else aI_487_11)) else (if pc < 140 then (if pc < 129 then aI_487_12 else aI_487_13) else (if pc < 147 then aI_487_14 else aI_487_15))))
theorem aT_487 (pc : Nat) : sx_iOk prog_14_method_178_code (aS_487 pc) := (sx_ite (p := fun l => sx_iOk prog_14_method_178_code l) (sx_ite (p := fun l => sx_iOk prog_14_method_178_code l) (sx_ite (p := fun l => sx_iOk prog_14_method_178_code l) (sx_ite (p := fun l => sx_iOk prog_14_method_178_code l) (sx_iB_s aJ_487_0) (sx_iB_s aJ_487_1)) (sx_ite (p := fun l => sx_iOk prog_14_method_178_code l) (sx_iB_s aJ_487_2) (sx_iB_s aJ_487_3))) (sx_ite (p := fun l => sx_iOk prog_14_method_178_code l) (sx_ite (p := fun l => sx_iOk prog_14_method_178_code l) (sx_iB_s aJ_487_4) (sx_iB_s aJ_487_5)) (sx_ite (p := fun l => sx_iOk prog_14_method_178_code l) (sx_iB_s aJ_487_6) (sx_iB_s aJ_487_7)))) (sx_ite (p := fun l => sx_iOk prog_14_method_178_code l) (sx_ite (p := fun l => sx_iOk prog_14_method_178_code l) (sx_ite (p := fun l => sx_iOk prog_14_method_178_code l) (sx_iB_s aJ_487_8) (sx_iB_s aJ_487_9)) (sx_ite (p := fun l => sx_iOk prog_14_method_178_code l) (sx_iB_s aJ_487_10) (sx_iB_s aJ_487_11))) (sx_ite (p := fun l => sx_iOk prog_14_method_178_code l) (sx_ite (p := fun l => sx_iOk prog_14_method_178_code l) (sx_iB_s aJ_487_12) (sx_iB_s aJ_487_13)) (sx_ite (p := fun l => sx_iOk prog_14_method_178_code l) (sx_iB_s aJ_487_14) (sx_iB_s aJ_487_15)))))
def aW_487 : Nat → Option (Instr × Nat) := fun pc => sx_iF (aS_487 pc) pc
theorem aX_487 : ∀ pc i len, aW_487 pc = some (i, len) → decode aM_487.1.2.1 pc = .ok (i, len) := fun pc i len h => sx_iF_s (aT_487 pc) h
def aI_488_0 : sx_IL := [(0, .aload_n 0, 1), (1, .getfield 294, 3), (4, .iload_n 1, 1), (5, .baload, 1), (6, .ifCond .ne 12, 3), (9, .aload_n 0, 1)]
theorem aJ_488_0 : sx_iB prog_14_method_177_code aI_488_0 = true := by decide +kernel
def aI_488_1 : sx_IL := [(10, .getfield 300, 3), (13, .iload_n 1, 1), (14, .baload, 1), (15, .ifCond .eq 7, 3), (18, .iconst 1, 1), (19, .goto 4, 3)]
theorem aJ_488_1 : sx_iB prog_14_method_177_code aI_488_1 = true := by decide +kernel
def aI_488_2 : sx_IL := [(22, .iconst 0, 1), (23, .ireturn, 1)]
theorem aJ_488_2 : sx_iB prog_14_method_177_code aI_488_2 = true := by decide +kernel
def aS_488 (pc : Nat) : sx_IL := (if pc < 10 then aI_488_0 else (if pc < 22 then aI_488_1 else aI_488_2))
theorem aT_488 (pc : Nat) : sx_iOk prog_14_method_177_code (aS_488 pc) := (sx_ite (p := fun l => sx_iOk prog_14_method_177_code l) (sx_iB_s aJ_488_0) (sx_ite (p := fun l => sx_iOk prog_14_method_177_code l) (sx_iB_s aJ_488_1) (sx_iB_s aJ_488_2)))
def aW_488 : Nat → Option (Instr × Nat) := fun pc => sx_iF (aS_488 pc) pc
theorem aX_488 : ∀ pc i len, aW_488 pc = some (i, len) → decode aM_488.1.2.1 pc = .ok (i, len) := fun pc i len h => sx_iF_s (aT_488 pc) h
def aI_489_0 : sx_IL := [(0, .aload_n 0, 1), (1, .iload_n 1, 1), (2, .iload_n 2, 1), (3, .invokevirtual 991, 3), (6, .aload_n 0, 1), (7, .getfield 294, 3)]
theorem aJ_489_0 : sx_iB prog_14_method_162_code aI_489_0 = true := by decide +kernel
def aI_489_1 : sx_IL := [(10, .iload_n 1, 1), (11, .iconst 1, 1), (12, .bastore, 1), (13, .return_, 1)]
theorem aJ_489_1 : sx_iB prog_14_method_162_code aI_489_1 = true := by decide +kernel
def aS_489 (pc : Nat) : sx_IL := (if pc < 10 then aI_489_0 else aI_489_1)
theorem aT_489 (pc : Nat) : sx_iOk prog_14_method_162_code (aS_489 pc) := (sx_ite (p := fun l => sx_iOk prog_14_method_162_code l) (sx_iB_s aJ_489_0) (sx_iB_s aJ_489_1))
def aW_489 : Nat → Option (Instr × Nat) := fun pc => sx_iF (aS_489 pc) pc
theorem aX_489 : ∀ pc i len, aW_489 pc = some (i, len) → decode aM_489.1.2.1 pc = .ok (i, len) := fun pc i len h => sx_iF_s (aT_489 pc) h
def aI_490_0 : sx_IL := [(0, .aload_n 0, 1), (1, .getfield 486, 3), (4, .iconst 0, 1), (5, .iload_n 2, 1), (6, .iastore, 1), (7, .aload_n 0, 1)]
theorem aJ_490_0 : sx_iB prog_14_method_161_code aI_490_0 = true := by decide +kernel
def aI_490_1 : sx_IL := [(8, .iload_n 1, 1), (9, .bipush 21, 2), (11, .aload_n 0, 1), (12, .getfield 486, 3), (15, .iconst 0, 1), (16, .iconst 1, 1)]
theorem aJ_490_1 : sx_iB prog_14_method_161_code aI_490_1 = true := by decide +kernel
def aI_490_2 : sx_IL := [(17, .invokevirtual 987, 3), (20, .aload_n 0, 1), (21, .getfield 303, 3), (24, .iload_n 1, 1), (25, .iload_n 2, 1), (26, .iastore, 1)]
theorem aJ_490_2 : sx_iB prog_14_method_161_code aI_490_2 = true := by decide +kernel
def aI_490_3 : sx_IL := [(27, .return_, 1)]
theorem aJ_490_3 : sx_iB prog_14_method_161_code aI_490_3 = true := by decide +kernel
def aS_490 (pc : Nat) : sx_IL := (if pc < 17 then (if pc < 8 then aI_490_0 else aI_490_1) else (if pc < 27 then aI_490_2 else aI_490_3))
theorem aT_490 (pc : Nat) : sx_iOk prog_14_method_161_code (aS_490 pc) := (sx_ite (p := fun l => sx_iOk prog_14_method_161_code l) (sx_ite (p := fun l => sx_iOk prog_14_method_161_code l) (sx_iB_s aJ_490_0) (sx_iB_s aJ_490_1)) (sx_ite (p := fun l => sx_iOk prog_14_method_161_code l) (sx_iB_s aJ_490_2) (sx_iB_s aJ_490_3)))
def aW_490 : Nat → Option (Instr × Nat) := fun pc => sx_iF (aS_490 pc) pc
theorem aX_490 : ∀ pc i len, aW_490 pc = some (i, len) → decode aM_490.1.2.1 pc = .ok (i, len) := fun pc i len h => sx_iF_s (aT_490 pc) h
def aI_491_0 : sx_IL := [(0, .sipush 320, 3), (3, .iload_n 1, 1), (4, .imul, 1), (5, .iconst 3, 1), (6, .iadd, 1), (7, .istore 4, 2)]
theorem aJ_491_0 : sx_iB prog_14_method_180_code aI_491_0 = true := by decide +kernel
def aI_491_1 : sx_IL := [(9, .iload_n 2, 1), (10, .bipush 23, 2), (12, .if_icmp .ne 43, 3), (15, .aload_n 0, 1), (16, .getfield 312, 3), (19, .iload_n 1, 1)]
theorem aJ_491_1 : sx_iB prog_14_method_180_code aI_491_1 = true := by decide +kernel
def aI_491_2 : sx_IL := [(20, .baload, 1), (21, .ifCond .ne 34, 3), (24, .aload_n 0, 1), (25, .iload_n 1, 1), (26, .iload_n 3, 1), (27, .invokevirtual 1054, 3)]
theorem aJ_491_2 : sx_iB prog_14_method_180_code aI_491_2 = true := by decide +kernel
def aI_491_3 : sx_IL := [(30, .ifCond .ne 13, 3), (33, .aload_n 0, 1), (34, .iload_n 1, 1), (35, .bipush 10, 2), (37, .invokevirtual 1048, 3), (40, .goto 14, 3)]
theorem aJ_491_3 : sx_iB prog_14_method_180_code aI_491_3 = true := by decide +kernel
def aI_491_4 : sx_IL := [(43, .iload_n 3, 1), (44, .ifCond .ne 10, 3), (47, .aload_n 0, 1), (48, .iload_n 1, 1), (49, .bipush 50, 2), (51, .invokevirtual 1048, 3)]
theorem aJ_491_4 : sx_iB prog_14_method_180_code aI_491_4 = true := by decide +kernel
def aI_491_5 : sx_IL := [(54, .return_, 1), (55, .iload_n 2, 1), (56, .bipush 23, 2), (58, .if_icmp .eq 20, 3), (61, .aload_n 0, 1), (62, .getfield 312, 3)]
theorem aJ_491_5 : sx_iB prog_14_method_180_code aI_491_5 = true := by decide +kernel
def aI_491_6 : sx_IL := [(65, .iload_n 1, 1), (66, .baload, 1), (67, .ifCond .eq 11, 3), (70, .aload_n 0, 1), (71, .iload_n 1, 1), (72, .bipush 10, 2)]
theorem aJ_491_6 : sx_iB prog_14_method_180_code aI_491_6 = true := by decide +kernel
def aI_491_7 : sx_IL := [(74, .invokevirtual 1048, 3), (77, .return_, 1), (78, .iload_n 3, 1), (79, .ifCond .eq 14, 3), (82, .iload_n 2, 1), (83, .bipush 21, 2)]
theorem aJ_491_7 : sx_iB prog_14_method_180_code aI_491_7 = true := by decide +kernel
def aI_491_8 : sx_IL := [(85, .if_icmp .ne 16, 3), (88, .iload_n 3, 1), (89, .iconst 1, 1), (90, .if_icmp .eq 11, 3), (93, .aload_n 0, 1), (94, .iload_n 1, 1)]
theorem aJ_491_8 : sx_iB prog_14_method_180_code aI_491_8 = true := by decide +kernel
def aI_491_9 : sx_IL := [(95, .bipush 50, 2), (97, .invokevirtual 1048, 3), (100, .return_, 1), (101, .iload_n 2, 1), (102, .bipush 23, 2), (104, .if_icmp .eq 13, 3)]
theorem aJ_491_9 : sx_iB prog_14_method_180_code aI_491_9 = true := by decide +kernel
def aI_491_10 : sx_IL := [(107, .aload_n 0, 1), (108, .iload_n 1, 1), (109, .iload_n 2, 1), (110, .iload 4, 2), (112, .iload_n 3, 1), (113, .invokevirtual 1057, 3)]
theorem aJ_491_10 : sx_iB prog_14_method_180_code aI_491_10 = true := by decide +kernel
def aI_491_11 : sx_IL := [(116, .return_, 1), (117, .aload_n 0, 1), (118, .getfield 330, 3), (121, .iload_n 1, 1), (122, .iaload, 1), (123, .istore 5, 2)]
theorem aJ_491_11 : sx_iB prog_14_method_180_code aI_491_11 = true := by decide +kernel
def aI_491_12 : sx_IL := [(125, .iload_n 3, 1), (126, .iload 5, 2), (128, .invokestatic 619, 3), (131, .isub, 1), (132, .istore 6, 2), (134, .iload 6, 2)]
theorem aJ_491_12 : sx_iB prog_14_method_180_code aI_491_12 = true := by decide +kernel
def aI_491_13 : sx_IL := [(136, .iconst 1, 1), (137, .if_icmp .lt 7, 3), (140, .iconst 1, 1), (141, .goto 4, 3), (144, .iconst 0, 1), (145, .istore 7, 2)]
theorem aJ_491_13 : sx_iB prog_14_method_180_code aI_491_13 = true := by decide +kernel
def aI_491_14 : sx_IL := [(147, .iload 7, 2), (149, .ifCond .eq 95, 3), (152, .aload_n 0, 1), (153, .iload 5, 2), (155, .aload_n 0, 1), (156, .getfield 318, 3)]
theorem aJ_491_14 : sx_iB prog_14_method_180_code aI_491_14 = true := by decide +kernel
def aI_491_15 : sx_IL := [(159, .iload_n 1, 1), (160, .laload, 1), (161, .aload_n 0, 1), (162, .getfield 324, 3), (165, .iload_n 1, 1), (166, .iaload, 1)]
theorem aJ_491_15 : sx_iB prog_14_method_180_code aI_491_15 = true := by decide +kernel
def aI_491_16 : sx_IL := [(167, .i2l, 1), (168, .aload_n 0, 1), (169, .getfield 271, 3), (172, .iload 4, 2), (174, .iconst 3, 1), (175, .isub, 1)]
theorem aJ_491_16 : sx_iB prog_14_method_180_code aI_491_16 = true := by decide +kernel
def aI_491_17 : sx_IL := [(176, .iconst 3, 1), (177, .aload_n 0, 1), (178, .getfield 271, 3), (181, .iload 4, 2), (183, .iload 6, 2), (185, .invokevirtual 615, 3)]
theorem aJ_491_17 : sx_iB prog_14_method_180_code aI_491_17 = true := by decide +kernel
def aI_491_18 : sx_IL := [(188, .lstore 8, 2), (190, .iconst 0, 1), (191, .istore 10, 2), (193, .iload 10, 2), (195, .iload 5, 2), (197, .invokestatic 619, 3)]
theorem aJ_491_18 : sx_iB prog_14_method_180_code aI_491_18 = true := by decide +kernel
def aI_491_19 : sx_IL := [(200, .if_icmp .ge 44, 3), (203, .iload 7, 2), (205, .ifCond .eq 30, 3), (208, .aload_n 0, 1), (209, .getfield 271, 3), (212, .iload 4, 2)]
theorem aJ_491_19 : sx_iB prog_14_method_180_code aI_491_19 = true := by decide +kernel
def aI_491_20 : sx_IL := [(214, .iload 6, 2), (216, .iadd, 1), (217, .iload 10, 2), (219, .iadd, 1), (220, .iaload, 1), (221, .lload 8, 2)]
theorem aJ_491_20 : sx_iB prog_14_method_180_code aI_491_20 = true := by decide +kernel
def aI_491_21 : sx_IL := [(223, .iload 10, 2), (225, .invokestatic 622, 3), (228, .if_icmp .ne 7, 3), (231, .iconst 1, 1), (232, .goto 4, 3), (235, .iconst 0, 1)]
theorem aJ_491_21 : sx_iB prog_14_method_180_code aI_491_21 = true := by decide +kernel
def aI_491_22 : sx_IL := [(236, .istore 7, 2), (238, .iinc 10 1, 3), (241, .goto (-48), 3), (244, .iload 7, 2), (246, .ifCond .ne 20, 3), (249, .aload_n 0, 1)]
theorem aJ_491_22 : sx_iB prog_14_method_180_code aI_491_22 = true := by decide +kernel
def aI_491_23 : sx_IL := [(250, .iload_n 1, 1), (251, .iload_n 3, 1), (252, .invokevirtual 1054, 3), (255, .ifCond .ne 10, 3), (258, .aload_n 0, 1), (259, .iload_n 1, 1)]
theorem aJ_491_23 : sx_iB prog_14_method_180_code aI_491_23 = true := by decide +kernel
def aI_491_24 : sx_IL := [(260, .bipush 20, 2), (262, .invokevirtual 1048, 3), (265, .return_, 1), (266, .aload_n 0, 1), (267, .getfield 354, 3), (270, .iload_n 1, 1)]
theorem aJ_491_24 : sx_iB prog_14_method_180_code aI_491_24 = true := by decide +kernel
def aI_491_25 : sx_IL := [(271, .iconst 0, 1), (272, .bastore, 1), (273, .aload_n 0, 1), (274, .aload_n 0, 1), (275, .getfield 318, 3), (278, .iload_n 1, 1)]
theorem aJ_491_25 : sx_iB prog_14_method_180_code aI_491_25 = true := by decide +kernel
def aI_491_26 : sx_IL := [(279, .laload, 1), (280, .aload_n 0, 1), (281, .getfield 324, 3), (284, .iload_n 1, 1), (285, .iaload, 1), (286, .i2l, 1)]
theorem aJ_491_26 : sx_iB prog_14_method_180_code aI_491_26 = true := by decide +kernel
def aI_491_27 : sx_IL := [(287, .aload_n 0, 1), (288, .getfield 271, 3), (291, .iload 4, 2), (293, .iload 6, 2), (295, .invokevirtual 611, 3), (298, .aload_n 0, 1)]
theorem aJ_491_27 : sx_iB prog_14_method_180_code aI_491_27 = true := by decide +kernel
def aI_491_28 : sx_IL := [(299, .getfield 324, 3), (302, .iload_n 1, 1), (303, .dup2, 1), (304, .iaload, 1), (305, .iconst 1, 1), (306, .iadd, 1)]
theorem aJ_491_28 : sx_iB prog_14_method_180_code aI_491_28 = true := by decide +kernel
def aI_491_29 : sx_IL := [(307, .iastore, 1), (308, .aload_n 0, 1), (309, .getfield 271, 3), (312, .iload 4, 2), (314, .iload 6, 2), (316, .iadd, 1)]
theorem aJ_491_29 : sx_iB prog_14_method_180_code aI_491_29 = true := by decide +kernel
def aI_491_30 : sx_IL := [(317, .iconst 1, 1), (318, .isub, 1), (319, .iaload, 1), (320, .istore 8, 2), (322, .iload 8, 2), (324, .i2l, 1)]
theorem aJ_491_30 : sx_iB prog_14_method_180_code aI_491_30 = true := by decide +kernel
def aI_491_31 : sx_IL := [(325, .ldc2_w 1044, 3), (328, .ldc2_w 1046, 3), (331, .invokestatic 513, 3), (334, .ifCond .ne 13, 3), (337, .aload_n 0, 1), (338, .iload_n 1, 1)]
theorem aJ_491_31 : sx_iB prog_14_method_180_code aI_491_31 = true := by decide +kernel
def aI_491_32 : sx_IL := [(339, .bipush 10, 2), (341, .invokevirtual 1048, 3), (344, .goto 52, 3), (347, .iload 8, 2), (349, .bipush 21, 2), (351, .if_icmp .ne 9, 3)]
theorem aJ_491_32 : sx_iB prog_14_method_180_code aI_491_32 = true := by decide +kernel
def aI_491_33 : sx_IL := [(354, .iload 6, 2), (356, .iconst 2, 1), (357, .if_icmp .ne 16, 3), (360, .iload 8, 2), (362, .bipush 22, 2), (364, .if_icmp .ne 19, 3)]
theorem aJ_491_33 : sx_iB prog_14_method_180_code aI_491_33 = true := by decide +kernel
def aI_491_34 : sx_IL := [(367, .iload 6, 2), (369, .iconst 1, 1), (370, .if_icmp .ne 13, 3), (373, .aload_n 0, 1), (374, .iload_n 1, 1), (375, .bipush 50, 2)]
theorem aJ_491_34 : sx_iB prog_14_method_180_code aI_491_34 = true := by decide +kernel
def aI_491_35 : sx_IL := [(377, .invokevirtual 1048, 3), (380, .goto 16, 3), (383, .aload_n 0, 1), (384, .iload_n 1, 1), (385, .iload 8, 2), (387, .iload 4, 2)]
theorem aJ_491_35 : sx_iB prog_14_method_180_code aI_491_35 = true := by decide +kernel
def aI_491_36 : sx_IL := [(389, .iload 6, 2), (391, .iconst 1, 1), (392, .isub, 1), (393, .invokevirtual 1057, 3), (396, .return_, 1)]
theorem aJ_491_36 : sx_iB prog_14_method_180_code aI_491_36 = true := by decide +kernel
def aS_491 (pc : Nat) : sx_IL := (if pc < 188 then (if pc < 95 then (if pc < 43 then (if pc < 20 then (if pc < 9 then aI_491_0 else aI_491_1) else (if pc < 30 then aI_491_2 else aI_491_3)) else (if pc < 65 then (if pc < 54 then aI_491_4 else aI_491_5) else (if pc < 74 then aI_491_6 else (if pc < 85 then aI_491_7 else aI_491_8)))) else (if pc < 136 then (if pc < 116 then (if pc < 107 then aI_491_9 else aI_491_10) else (if pc < 125 then aI_491_11 else aI_491_12)) else (if pc < 159 then (if pc < 147 then aI_491_13 else aI_491_14) else (if pc < 167 then aI_491_15 else (if pc < 176 then aI_491_16 else aI_491_17))))) else (if pc < 287 then (if pc < 236 then (if pc < 214 then (if pc < 200 then aI_491_18 else aI_491_19) else (if pc < 223 then aI_491_20 else aI_491_21)) else (if pc < 260 then (if pc < 250 then aI_491_22 else aI_491_23) else (if pc < 271 then aI_491_24 else (if pc < 279 then aI_491_25 else aI_491_26)))) else (if pc < 339 then (if pc < 307 then (if pc < 299 then aI_491_27 else aI_491_28) else (if pc < 317 then aI_491_29 else (if pc < 325 then aI_491_30 else aI_491_31))) else (if pc < 367 then (if pc < 354 then aI_491_32 else aI_491_33) else (if pc < 377 then aI_491_34 else (if pc < 389 then aI_491_35 else aI_491_36))))))
theorem aT_491 (pc : Nat) : sx_iOk prog_14_method_180_code (aS_491 pc) := (sx_ite (p := fun l => sx_iOk prog_14_method_180_code l) (sx_ite (p := fun l => sx_iOk prog_14_method_180_code l) (sx_ite (p := fun l => sx_iOk prog_14_method_180_code l) (sx_ite (p := fun l => sx_iOk prog_14_method_180_code l) (sx_ite (p := fun l => sx_iOk prog_14_method_180_code l) (sx_iB_s aJ_491_0) (sx_iB_s aJ_491_1)) (sx_ite (p := fun l => sx_iOk prog_14_method_180_code l) (sx_iB_s aJ_491_2) (sx_iB_s aJ_491_3))) (sx_ite (p := fun l => sx_iOk prog_14_method_180_code l) (sx_ite (p := fun l => sx_iOk prog_14_method_180_code l) (sx_iB_s aJ_491_4) (sx_iB_s aJ_491_5)) (sx_ite (p := fun l => sx_iOk prog_14_method_180_code l) (sx_iB_s aJ_491_6) (sx_ite (p := fun l => sx_iOk prog_14_method_180_code l) (sx_iB_s aJ_491_7) (sx_iB_s aJ_491_8))))) (sx_ite (p := fun l => sx_iOk prog_14_method_180_code l) (sx_ite (p := fun l => sx_iOk prog_14_method_180_code l) (sx_ite (p := fun l => sx_iOk prog_14_method_180_code l) (sx_iB_s aJ_491_9) (sx_iB_s aJ_491_10)) (sx_ite (p := fun l => sx_iOk prog_14_method_180_code l) (sx_iB_s aJ_491_11) (sx_iB_s aJ_491_12))) (sx_ite (p := fun l => sx_iOk prog_14_method_180_code l) (sx_ite (p := fun l => sx_iOk prog_14_method_180_code l) (sx_iB_s aJ_491_13) (sx_iB_s aJ_491_14)) (sx_ite (p := fun l => sx_iOk prog_14_method_180_code l) (sx_iB_s aJ_491_15) (sx_ite (p := fun l => sx_iOk prog_14_method_180_code l) (sx_iB_s aJ_491_16) (sx_iB_s aJ_491_17)))))) (sx_ite (p := fun l => sx_iOk prog_14_method_180_code l) (sx_ite (p := fun l => sx_iOk prog_14_method_180_code l) (sx_ite (p := fun l => sx_iOk prog_14_method_180_code l) (sx_ite (p := fun l => sx_iOk prog_14_method_180_code l) (sx_iB_s aJ_491_18) (sx_iB_s aJ_491_19)) (sx_ite (p := fun l => sx_iOk prog_14_method_180_code l) (sx_iB_s aJ_491_20) (sx_iB_s aJ_491_21))) (sx_ite (p := fun l => sx_iOk prog_14_method_180_code l) (sx_ite (p := fun l => sx_iOk prog_14_method_180_code l) (sx_iB_s aJ_491_22) (sx_iB_s aJ_491_23)) (sx_ite (p := fun l => sx_iOk prog_14_method_180_code l) (sx_iB_s aJ_491_24) (sx_ite (p := fun l => sx_iOk prog_14_method_180_code l) (sx_iB_s aJ_491_25) (sx_iB_s aJ_491_26))))) (sx_ite (p := fun l => sx_iOk prog_14_method_180_code l) (sx_ite (p := fun l => sx_iOk prog_14_method_180_code l) (sx_ite (p := fun l => sx_iOk prog_14_method_180_code l) (sx_iB_s aJ_491_27) (sx_iB_s aJ_491_28)) (sx_ite (p := fun l => sx_iOk prog_14_method_180_code l) (sx_iB_s aJ_491_29) (sx_ite (p := fun l => sx_iOk prog_14_method_180_code l) (sx_iB_s aJ_491_30) (sx_iB_s aJ_491_31)))) (sx_ite (p := fun l => sx_iOk prog_14_method_180_code l) (sx_ite (p := fun l => sx_iOk prog_14_method_180_code l) (sx_iB_s aJ_491_32) (sx_iB_s aJ_491_33)) (sx_ite (p := fun l => sx_iOk prog_14_method_180_code l) (sx_iB_s aJ_491_34) (sx_ite (p := fun l => sx_iOk prog_14_method_180_code l) (sx_iB_s aJ_491_35) (sx_iB_s aJ_491_36)))))))
def aW_491 : Nat → Option (Instr × Nat) := fun pc => sx_iF (aS_491 pc) pc
theorem aX_491 : ∀ pc i len, aW_491 pc = some (i, len) → decode aM_491.1.2.1 pc = .ok (i, len) := fun pc i len h => sx_iF_s (aT_491 pc) h
def aI_492_0 : sx_IL := [(0, .aload_n 0, 1), (1, .getfield 354, 3), (4, .iload_n 1, 1), (5, .baload, 1), (6, .ifCond .eq 21, 3), (9, .aload_n 0, 1)]
theorem aJ_492_0 : sx_iB prog_14_method_179_code aI_492_0 = true := by decide +kernel
def aI_492_1 : sx_IL := [(10, .getfield 351, 3), (13, .iload_n 1, 1), (14, .iaload, 1), (15, .iload_n 2, 1), (16, .iadd, 1), (17, .sipush 600, 3)]
theorem aJ_492_1 : sx_iB prog_14_method_179_code aI_492_1 = true := by decide +kernel
def aI_492_2 : sx_IL := [(20, .if_icmp .gt 7, 3), (23, .iconst 1, 1), (24, .goto 4, 3), (27, .iconst 0, 1), (28, .istore_n 3, 1), (29, .aload_n 0, 1)]
theorem aJ_492_2 : sx_iB prog_14_method_179_code aI_492_2 = true := by decide +kernel
def aI_492_3 : sx_IL := [(30, .getfield 351, 3), (33, .iload_n 1, 1), (34, .dup2, 1), (35, .iaload, 1), (36, .iload_n 3, 1), (37, .ifCond .eq 7, 3)]
theorem aJ_492_3 : sx_iB prog_14_method_179_code aI_492_3 = true := by decide +kernel
def aI_492_4 : sx_IL := [(40, .iload_n 2, 1), (41, .goto 4, 3), (44, .iconst 0, 1), (45, .iadd, 1), (46, .iastore, 1), (47, .iload_n 3, 1)]
theorem aJ_492_4 : sx_iB prog_14_method_179_code aI_492_4 = true := by decide +kernel
def aI_492_5 : sx_IL := [(48, .ireturn, 1)]
theorem aJ_492_5 : sx_iB prog_14_method_179_code aI_492_5 = true := by decide +kernel
def aS_492 (pc : Nat) : sx_IL := (if pc < 30 then (if pc < 10 then aI_492_0 else (if pc < 20 then aI_492_1 else aI_492_2)) else (if pc < 40 then aI_492_3 else (if pc < 48 then aI_492_4 else aI_492_5)))
theorem aT_492 (pc : Nat) : sx_iOk prog_14_method_179_code (aS_492 pc) := (sx_ite (p := fun l => sx_iOk prog_14_method_179_code l) (sx_ite (p := fun l => sx_iOk prog_14_method_179_code l) (sx_iB_s aJ_492_0) (sx_ite (p := fun l => sx_iOk prog_14_method_179_code l) (sx_iB_s aJ_492_1) (sx_iB_s aJ_492_2))) (sx_ite (p := fun l => sx_iOk prog_14_method_179_code l) (sx_iB_s aJ_492_3) (sx_ite (p := fun l => sx_iOk prog_14_method_179_code l) (sx_iB_s aJ_492_4) (sx_iB_s aJ_492_5))))
def aW_492 : Nat → Option (Instr × Nat) := fun pc => sx_iF (aS_492 pc) pc
theorem aX_492 : ∀ pc i len, aW_492 pc = some (i, len) → decode aM_492.1.2.1 pc = .ok (i, len) := fun pc i len h => sx_iF_s (aT_492 pc) h
def aI_493_0 : sx_IL := [(0, .iload_n 2, 1), (1, .bipush 21, 2), (3, .if_icmp .ne 74, 3), (6, .aload_n 0, 1), (7, .getfield 306, 3), (10, .iload_n 1, 1)]
theorem aJ_493_0 : sx_iB prog_14_method_182_code aI_493_0 = true := by decide +kernel
def aI_493_1 : sx_IL := [(11, .aload_n 0, 1), (12, .getfield 271, 3), (15, .iload_n 3, 1), (16, .iaload, 1), (17, .iastore, 1), (18, .aload_n 0, 1)]
theorem aJ_493_1 : sx_iB prog_14_method_182_code aI_493_1 = true := by decide +kernel
def aI_493_2 : sx_IL := [(19, .getfield 300, 3), (22, .iload_n 1, 1), (23, .aload_n 0, 1), (24, .getfield 300, 3), (27, .iload_n 1, 1), (28, .baload, 1)]
theorem aJ_493_2 : sx_iB prog_14_method_182_code aI_493_2 = true := by decide +kernel
def aI_493_3 : sx_IL := [(29, .ifCond .ne 12, 3), (32, .aload_n 0, 1), (33, .getfield 271, 3), (36, .iload_n 3, 1), (37, .iaload, 1), (38, .ifCond .ne 7, 3)]
theorem aJ_493_3 : sx_iB prog_14_method_182_code aI_493_3 = true := by decide +kernel
def aI_493_4 : sx_IL := [(41, .iconst 1, 1), (42, .goto 4, 3), (45, .iconst 0, 1), (46, .bastore, 1), (47, .aload_n 0, 1), (48, .getfield 294, 3)]
theorem aJ_493_4 : sx_iB prog_14_method_182_code aI_493_4 = true := by decide +kernel
def aI_493_5 : sx_IL := [(51, .iload_n 1, 1), (52, .aload_n 0, 1), (53, .getfield 294, 3), (56, .iload_n 1, 1), (57, .baload, 1), (58, .ifCond .ne 12, 3)]
theorem aJ_493_5 : sx_iB prog_14_method_182_code aI_493_5 = true := by decide +kernel
def aI_493_6 : sx_IL := [(61, .aload_n 0, 1), (62, .getfield 271, 3), (65, .iload_n 3, 1), (66, .iaload, 1), (67, .ifCond .eq 7, 3), (70, .iconst 1, 1)]
theorem aJ_493_6 : sx_iB prog_14_method_182_code aI_493_6 = true := by decide +kernel
def aI_493_7 : sx_IL := [(71, .goto 4, 3), (74, .iconst 0, 1), (75, .bastore, 1), (76, .return_, 1), (77, .iload_n 2, 1), (78, .bipush 22, 2)]
theorem aJ_493_7 : sx_iB prog_14_method_182_code aI_493_7 = true := by decide +kernel
def aI_493_8 : sx_IL := [(80, .if_icmp .ne 61, 3), (83, .iconst 0, 1), (84, .istore 5, 2), (86, .iload 5, 2), (88, .iload 4, 2), (90, .if_icmp .ge 45, 3)]
theorem aJ_493_8 : sx_iB prog_14_method_182_code aI_493_8 = true := by decide +kernel
def aI_493_9 : sx_IL := [(93, .aload_n 0, 1), (94, .getfield 278, 3), (97, .sipush 3000, 3), (100, .iload_n 1, 1), (101, .imul, 1), (102, .aload_n 0, 1)]
theorem aJ_493_9 : sx_iB prog_14_method_182_code aI_493_9 = true := by decide +kernel
def aI_493_10 : sx_IL := [(103, .getfield 281, 3), (106, .iload_n 1, 1), (107, .iaload, 1), (108, .iadd, 1), (109, .aload_n 0, 1), (110, .getfield 271, 3)]
theorem aJ_493_10 : sx_iB prog_14_method_182_code aI_493_10 = true := by decide +kernel
def aI_493_11 : sx_IL := [(113, .iload_n 3, 1), (114, .iload 5, 2), (116, .iadd, 1), (117, .iaload, 1), (118, .iastore, 1), (119, .aload_n 0, 1)]
theorem aJ_493_11 : sx_iB prog_14_method_182_code aI_493_11 = true := by decide +kernel
def aI_493_12 : sx_IL := [(120, .getfield 281, 3), (123, .iload_n 1, 1), (124, .dup2, 1), (125, .iaload, 1), (126, .iconst 1, 1), (127, .iadd, 1)]
theorem aJ_493_12 : sx_iB prog_14_method_182_code aI_493_12 = true := by decide +kernel
def aI_493_13 : sx_IL := [(128, .iastore, 1), (129, .iinc 5 1, 3), (132, .goto (-46), 3), (135, .aload_n 0, 1), (136, .iload_n 1, 1), (137, .invokevirtual 1061, 3)]
theorem aJ_493_13 : sx_iB prog_14_method_182_code aI_493_13 = true := by decide +kernel
def aI_493_14 : sx_IL := [(140, .return_, 1), (141, .aload_n 0, 1), (142, .iload_n 1, 1), (143, .invokevirtual 1064, 3), (146, .ifCond .ne 17, 3), (149, .aload_n 0, 1)]
theorem aJ_493_14 : sx_iB prog_14_method_182_code aI_493_14 = true := by decide +kernel
def aI_493_15 : sx_IL := [(150, .getfield 291, 3), (153, .iload_n 1, 1), (154, .iaload, 1), (155, .iconst 2, 1), (156, .if_icmp .ne 7, 3), (159, .iconst 1, 1)]
theorem aJ_493_15 : sx_iB prog_14_method_182_code aI_493_15 = true := by decide +kernel
def aI_493_16 : sx_IL := [(160, .goto 4, 3), (163, .iconst 0, 1), (164, .istore 5, 2), (166, .aload_n 0, 1), (167, .iload_n 1, 1), (168, .invokevirtual 1064, 3)]
theorem aJ_493_16 : sx_iB prog_14_method_182_code aI_493_16 = true := by decide +kernel
def aI_493_17 : sx_IL := [(171, .ifCond .eq 22, 3), (174, .aload_n 0, 1), (175, .getfield 291, 3), (178, .iload_n 1, 1), (179, .iaload, 1), (180, .bipush 7, 2)]
theorem aJ_493_17 : sx_iB prog_14_method_182_code aI_493_17 = true := by decide +kernel
def aI_493_18 : sx_IL := [(182, .if_icmp .ne 7, 3), (185, .iconst 1, 1), (186, .goto 28, 3), (189, .iconst 0, 1), (190, .goto 24, 3), (193, .aload_n 0, 1)]
theorem aJ_493_18 : sx_iB prog_14_method_182_code aI_493_18 = true := by decide +kernel
def aI_493_19 : sx_IL := [(194, .getfield 291, 3), (197, .iload_n 1, 1), (198, .iaload, 1), (199, .bipush 6, 2), (201, .if_icmp .eq 8, 3), (204, .iload 5, 2)]
theorem aJ_493_19 : sx_iB prog_14_method_182_code aI_493_19 = true := by decide +kernel
def aI_493_20 : sx_IL := [(206, .ifCond .eq 7, 3), (209, .iconst 1, 1), (210, .goto 4, 3), (213, .iconst 0, 1), (214, .istore 6, 2), (216, .iload 5, 2)]
theorem aJ_493_20 : sx_iB prog_14_method_182_code aI_493_20 = true := by decide +kernel
def aI_493_21 : sx_IL := [(218, .ifCond .eq 53, 3), (221, .aload_n 0, 1), (222, .getfield 477, 3), (225, .iload_n 1, 1), (226, .iconst 2, 1), (227, .idiv, 1)]
theorem aJ_493_21 : sx_iB prog_14_method_182_code aI_493_21 = true := by decide +kernel
def aI_493_22 : sx_IL := [(228, .iaload, 1), (229, .iload 4, 2), (231, .iadd, 1), (232, .aload_n 0, 1), (233, .getfield 102, 3), (236, .bipush 8, 2)]
theorem aJ_493_22 : sx_iB prog_14_method_182_code aI_493_22 = true := by decide +kernel
def aI_493_23 : sx_IL := [(238, .aload_n 0, 1), (239, .getfield 261, 3), (242, .iload_n 1, 1), (243, .iaload, 1), (244, .imul, 1), (245, .iconst 4, 1)]
theorem aJ_493_23 : sx_iB prog_14_method_182_code aI_493_23 = true := by decide +kernel
def aI_493_24 : sx_IL := [(246, .iadd, 1), (247, .iaload, 1), (248, .if_icmp .gt 7, 3), (251, .iconst 1, 1), (252, .goto 4, 3), (255, .iconst 0, 1)]
theorem aJ_493_24 : sx_iB prog_14_method_182_code aI_493_24 = true := by decide +kernel
def aI_493_25 : sx_IL := [(256, .istore 6, 2), (258, .aload_n 0, 1), (259, .getfield 477, 3), (262, .iload_n 1, 1), (263, .iconst 2, 1), (264, .idiv, 1)]
theorem aJ_493_25 : sx_iB prog_14_method_182_code aI_493_25 = true := by decide +kernel
def aI_493_26 : sx_IL := [(265, .dup2, 1), (266, .iaload, 1), (267, .iload 4, 2), (269, .iadd, 1), (270, .iastore, 1), (271, .iload 6, 2)]
theorem aJ_493_26 : sx_iB prog_14_method_182_code aI_493_26 = true := by decide +kernel
def aI_493_27 : sx_IL := [(273, .ifCond .ne 11, 3), (276, .aload_n 0, 1), (277, .iload_n 1, 1), (278, .bipush 10, 2), (280, .invokevirtual 1048, 3), (283, .return_, 1)]
theorem aJ_493_27 : sx_iB prog_14_method_182_code aI_493_27 = true := by decide +kernel
def aI_493_28 : sx_IL := [(284, .iconst 0, 1), (285, .istore 7, 2), (287, .iload 7, 2), (289, .iload 4, 2), (291, .if_icmp .ge 57, 3), (294, .aload_n 0, 1)]
theorem aJ_493_28 : sx_iB prog_14_method_182_code aI_493_28 = true := by decide +kernel
def aI_493_29 : sx_IL := [(295, .getfield 288, 3), (298, .iload_n 1, 1), (299, .iaload, 1), (300, .sipush 2000, 3), (303, .if_icmp .ge 45, 3), (306, .aload_n 0, 1)]
theorem aJ_493_29 : sx_iB prog_14_method_182_code aI_493_29 = true := by decide +kernel
def aI_493_30 : sx_IL := [(307, .getfield 285, 3), (310, .sipush 2000, 3), (313, .iload_n 1, 1), (314, .imul, 1), (315, .aload_n 0, 1), (316, .getfield 288, 3)]
theorem aJ_493_30 : sx_iB prog_14_method_182_code aI_493_30 = true := by decide +kernel
def aI_493_31 : sx_IL := [(319, .iload_n 1, 1), (320, .iaload, 1), (321, .iadd, 1), (322, .aload_n 0, 1), (323, .getfield 271, 3), (326, .iload_n 3, 1)]
theorem aJ_493_31 : sx_iB prog_14_method_182_code aI_493_31 = true := by decide +kernel
def aI_493_32 : sx_IL := [(327, .iload 7, 2), (329, .iadd, 1), (330, .iaload, 1), (331, .iastore, 1), (332, .aload_n 0, 1), (333, .getfield 288, 3)]
theorem aJ_493_32 : sx_iB prog_14_method_182_code aI_493_32 = true := by decide +kernel
def aI_493_33 : sx_IL := [(336, .iload_n 1, 1), (337, .dup2, 1), (338, .iaload, 1), (339, .iconst 1, 1), (340, .iadd, 1), (341, .iastore, 1)]
theorem aJ_493_33 : sx_iB prog_14_method_182_code aI_493_33 = true := by decide +kernel
def aI_493_34 : sx_IL := [(342, .iinc 7 1, 3), (345, .goto (-58), 3), (348, .return_, 1)]
theorem aJ_493_34 : sx_iB prog_14_method_182_code aI_493_34 = true := by decide +kernel
def aS_493 (pc : Nat) : sx_IL := (if pc < 171 then (if pc < 80 then (if pc < 41 then (if pc < 19 then (if pc < 11 then aI_493_0 else aI_493_1) else (if pc < 29 then aI_493_2 else aI_493_3)) else (if pc < 61 then (if pc < 51 then aI_493_4 else aI_493_5) else (if pc < 71 then aI_493_6 else aI_493_7))) else (if pc < 120 then (if pc < 103 then (if pc < 93 then aI_493_8 else aI_493_9) else (if pc < 113 then aI_493_10 else aI_493_11)) else (if pc < 140 then (if pc < 128 then aI_493_12 else aI_493_13) else (if pc < 150 then aI_493_14 else (if pc < 160 then aI_493_15 else aI_493_16))))) else (if pc < 265 then (if pc < 218 then (if pc < 194 then (if pc < 182 then aI_493_17 else aI_493_18) else (if pc < 206 then aI_493_19 else aI_493_20)) else (if pc < 238 then (if pc < 228 then aI_493_21 else aI_493_22) else (if pc < 246 then aI_493_23 else (if pc < 256 then aI_493_24 else aI_493_25)))) else (if pc < 307 then (if pc < 284 then (if pc < 273 then aI_493_26 else aI_493_27) else (if pc < 295 then aI_493_28 else aI_493_29)) else (if pc < 327 then (if pc < 319 then aI_493_30 else aI_493_31) else (if pc < 336 then aI_493_32 else (if pc < 342 then aI_493_33 else aI_493_34))))))
theorem aT_493 (pc : Nat) : sx_iOk prog_14_method_182_code (aS_493 pc) := (sx_ite (p := fun l => sx_iOk prog_14_method_182_code l) (sx_ite (p := fun l => sx_iOk prog_14_method_182_code l) (sx_ite (p := fun l => sx_iOk prog_14_method_182_code l) (sx_ite (p := fun l => sx_iOk prog_14_method_182_code l) (sx_ite (p := fun l => sx_iOk prog_14_method_182_code l) (sx_iB_s aJ_493_0) (sx_iB_s aJ_493_1)) (sx_ite (p := fun l => sx_iOk prog_14_method_182_code l) (sx_iB_s aJ_493_2) (sx_iB_s aJ_493_3))) (sx_ite (p := fun l => sx_iOk prog_14_method_182_code l) (sx_ite (p := fun l => sx_iOk prog_14_method_182_code l) (sx_iB_s aJ_493_4) (sx_iB_s aJ_493_5)) (sx_ite (p := fun l => sx_iOk prog_14_method_182_code l) (sx_iB_s aJ_493_6) (sx_iB_s aJ_493_7)))) (sx_ite (p := fun l => sx_iOk prog_14_method_182_code l) (sx_ite (p := fun l => sx_iOk prog_14_method_182_code l) (sx_ite (p := fun l => sx_iOk prog_14_method_182_code l) (sx_iB_s aJ_493_8) (sx_iB_s aJ_493_9)) (sx_ite (p := fun l => sx_iOk prog_14_method_182_code l) (sx_iB_s aJ_493_10) (sx_iB_s aJ_493_11))) (sx_ite (p := fun l => sx_iOk prog_14_method_182_code l) (sx_ite (p := fun l => sx_iOk prog_14_method_182_code l) (sx_iB_s aJ_493_12) (sx_iB_s aJ_493_13)) (sx_ite (p := fun l => sx_iOk prog_14_method_182_code l) (sx_iB_s aJ_493_14) (sx_ite (p := fun l => sx_iOk prog_14_method_182_code l) (sx_iB_s aJ_493_15) (sx_iB_s aJ_493_16)))))) (sx_ite (p := fun l => sx_iOk prog_14_method_182_code l) (sx_ite (p := fun l => sx_iOk prog_14_method_182_code l) (sx_ite (p := fun l => sx_iOk prog_14_method_182_code l) (sx_ite (p := fun l => sx_iOk prog_14_method_182_code l) (sx_iB_s aJ_493_17) (sx_iB_s aJ_493_18)) (sx_ite (p := fun l => sx_iOk prog_14_method_182_code l) (sx_iB_s aJ_493_19) (sx_iB_s aJ_493_20))) (sx_ite (p := fun l => sx_iOk prog_14_method_182_code l) (sx_ite (p := fun l => sx_iOk prog_14_method_182_code l) (sx_iB_s aJ_493_21) (sx_iB_s aJ_493_22)) (sx_ite (p := fun l => sx_iOk prog_14_method_182_code l) (sx_iB_s aJ_493_23) (sx_ite (p := fun l => sx_iOk prog_14_method_182_code l) (sx_iB_s aJ_493_24) (sx_iB_s aJ_493_25))))) (sx_ite (p := fun l => sx_iOk prog_14_method_182_code l) (sx_ite (p := fun l => sx_iOk prog_14_method_182_code l) (sx_ite (p := fun l => sx_iOk prog_14_method_182_code l) (sx_iB_s aJ_493_26) (sx_iB_s aJ_493_27)) (sx_ite (p := fun l => sx_iOk prog_14_method_182_code l) (sx_iB_s aJ_493_28) (sx_iB_s aJ_493_29))) (sx_ite (p := fun l => sx_iOk prog_14_method_182_code l) (sx_ite (p := fun l => sx_iOk prog_14_method_182_code l) (sx_iB_s aJ_493_30) (sx_iB_s aJ_493_31)) (sx_ite (p := fun l => sx_iOk prog_14_method_182_code l) (sx_iB_s aJ_493_32) (sx_ite (p := fun l => sx_iOk prog_14_method_182_code l) (sx_iB_s aJ_493_33) (sx_iB_s aJ_493_34)))))))
def aW_493 : Nat → Option (Instr × Nat) := fun pc => sx_iF (aS_493 pc) pc
theorem aX_493 : ∀ pc i len, aW_493 pc = some (i, len) → decode aM_493.1.2.1 pc = .ok (i, len) := fun pc i len h => sx_iF_s (aT_493 pc) h
def aI_494_0 : sx_IL := [(0, .iconst 1, 1), (1, .istore_n 2, 1), (2, .iload_n 2, 1), (3, .ifCond .eq 188, 3), (6, .aload_n 0, 1), (7, .getfield 294, 3)]
theorem aJ_494_0 : sx_iB prog_14_method_183_code aI_494_0 = true := by decide +kernel
def aI_494_1 : sx_IL := [(10, .iload_n 1, 1), (11, .baload, 1), (12, .ifCond .ne 179, 3), (15, .aload_n 0, 1), (16, .getfield 281, 3), (19, .iload_n 1, 1)]
theorem aJ_494_1 : sx_iB prog_14_method_183_code aI_494_1 = true := by decide +kernel
def aI_494_2 : sx_IL := [(20, .iaload, 1), (21, .iconst 3, 1), (22, .if_icmp .lt 169, 3), (25, .sipush 3000, 3), (28, .iload_n 1, 1), (29, .imul, 1)]
theorem aJ_494_2 : sx_iB prog_14_method_183_code aI_494_2 = true := by decide +kernel
def aI_494_3 : sx_IL := [(30, .istore_n 3, 1), (31, .aload_n 0, 1), (32, .getfield 278, 3), (35, .iload_n 3, 1), (36, .iconst 1, 1), (37, .iadd, 1)]
theorem aJ_494_3 : sx_iB prog_14_method_183_code aI_494_3 = true := by decide +kernel
def aI_494_4 : sx_IL := [(38, .iaload, 1), (39, .bipush 8, 2), (41, .ishl, 1), (42, .aload_n 0, 1), (43, .getfield 278, 3), (46, .iload_n 3, 1)]
theorem aJ_494_4 : sx_iB prog_14_method_183_code aI_494_4 = true := by decide +kernel
def aI_494_5 : sx_IL := [(47, .iconst 2, 1), (48, .iadd, 1), (49, .iaload, 1), (50, .ior, 1), (51, .istore 4, 2), (53, .iload 4, 2)]
theorem aJ_494_5 : sx_iB prog_14_method_183_code aI_494_5 = true := by decide +kernel
def aI_494_6 : sx_IL := [(55, .sipush 2500, 3), (58, .if_icmp .le 11, 3), (61, .aload_n 0, 1), (62, .iload_n 1, 1), (63, .bipush 50, 2), (65, .invokevirtual 1048, 3)]
theorem aJ_494_6 : sx_iB prog_14_method_183_code aI_494_6 = true := by decide +kernel
def aI_494_7 : sx_IL := [(68, .return_, 1), (69, .aload_n 0, 1), (70, .getfield 281, 3), (73, .iload_n 1, 1), (74, .iaload, 1), (75, .iconst 3, 1)]
theorem aJ_494_7 : sx_iB prog_14_method_183_code aI_494_7 = true := by decide +kernel
def aI_494_8 : sx_IL := [(76, .iload 4, 2), (78, .iadd, 1), (79, .if_icmp .lt 7, 3), (82, .iconst 1, 1), (83, .goto 4, 3), (86, .iconst 0, 1)]
theorem aJ_494_8 : sx_iB prog_14_method_183_code aI_494_8 = true := by decide +kernel
def aI_494_9 : sx_IL := [(87, .istore_n 2, 1), (88, .iload_n 2, 1), (89, .ifCond .eq 99, 3), (92, .aload_n 0, 1), (93, .iload_n 1, 1), (94, .aload_n 0, 1)]
theorem aJ_494_9 : sx_iB prog_14_method_183_code aI_494_9 = true := by decide +kernel
def aI_494_10 : sx_IL := [(95, .getfield 278, 3), (98, .iload_n 3, 1), (99, .iaload, 1), (100, .iload 4, 2), (102, .aload_n 0, 1), (103, .getfield 281, 3)]
theorem aJ_494_10 : sx_iB prog_14_method_183_code aI_494_10 = true := by decide +kernel
def aI_494_11 : sx_IL := [(106, .iload_n 1, 1), (107, .iaload, 1), (108, .iconst 3, 1), (109, .iload 4, 2), (111, .iadd, 1), (112, .if_icmp .le 7, 3)]
theorem aJ_494_11 : sx_iB prog_14_method_183_code aI_494_11 = true := by decide +kernel
def aI_494_12 : sx_IL := [(115, .iconst 1, 1), (116, .goto 4, 3), (119, .iconst 0, 1), (120, .invokevirtual 1067, 3), (123, .aload_n 0, 1), (124, .getfield 294, 3)]
theorem aJ_494_12 : sx_iB prog_14_method_183_code aI_494_12 = true := by decide +kernel
def aI_494_13 : sx_IL := [(127, .iload_n 1, 1), (128, .baload, 1), (129, .ifCond .ne 59, 3), (132, .aload_n 0, 1), (133, .getfield 281, 3), (136, .iload_n 1, 1)]
theorem aJ_494_13 : sx_iB prog_14_method_183_code aI_494_13 = true := by decide +kernel
def aI_494_14 : sx_IL := [(137, .dup2, 1), (138, .iaload, 1), (139, .iconst 3, 1), (140, .iload 4, 2), (142, .iadd, 1), (143, .isub, 1)]
theorem aJ_494_14 : sx_iB prog_14_method_183_code aI_494_14 = true := by decide +kernel
def aI_494_15 : sx_IL := [(144, .iastore, 1), (145, .iconst 0, 1), (146, .istore 5, 2), (148, .iload 5, 2), (150, .aload_n 0, 1), (151, .getfield 281, 3)]
theorem aJ_494_15 : sx_iB prog_14_method_183_code aI_494_15 = true := by decide +kernel
def aI_494_16 : sx_IL := [(154, .iload_n 1, 1), (155, .iaload, 1), (156, .if_icmp .ge 32, 3), (159, .aload_n 0, 1), (160, .getfield 278, 3), (163, .iload_n 3, 1)]
theorem aJ_494_16 : sx_iB prog_14_method_183_code aI_494_16 = true := by decide +kernel
def aI_494_17 : sx_IL := [(164, .iload 5, 2), (166, .iadd, 1), (167, .aload_n 0, 1), (168, .getfield 278, 3), (171, .iload_n 3, 1), (172, .iload 5, 2)]
theorem aJ_494_17 : sx_iB prog_14_method_183_code aI_494_17 = true := by decide +kernel
def aI_494_18 : sx_IL := [(174, .iadd, 1), (175, .iconst 3, 1), (176, .iadd, 1), (177, .iload 4, 2), (179, .iadd, 1), (180, .iaload, 1)]
theorem aJ_494_18 : sx_iB prog_14_method_183_code aI_494_18 = true := by decide +kernel
def aI_494_19 : sx_IL := [(181, .iastore, 1), (182, .iinc 5 1, 3), (185, .goto (-37), 3), (188, .goto (-186), 3), (191, .return_, 1)]
theorem aJ_494_19 : sx_iB prog_14_method_183_code aI_494_19 = true := by decide +kernel
def aS_494 (pc : Nat) : sx_IL := (if pc < 95 then (if pc < 47 then (if pc < 20 then (if pc < 10 then aI_494_0 else aI_494_1) else (if pc < 30 then aI_494_2 else (if pc < 38 then aI_494_3 else aI_494_4))) else (if pc < 68 then (if pc < 55 then aI_494_5 else aI_494_6) else (if pc < 76 then aI_494_7 else (if pc < 87 then aI_494_8 else aI_494_9)))) else (if pc < 144 then (if pc < 115 then (if pc < 106 then aI_494_10 else aI_494_11) else (if pc < 127 then aI_494_12 else (if pc < 137 then aI_494_13 else aI_494_14))) else (if pc < 164 then (if pc < 154 then aI_494_15 else aI_494_16) else (if pc < 174 then aI_494_17 else (if pc < 181 then aI_494_18 else aI_494_19)))))
theorem aT_494 (pc : Nat) : sx_iOk prog_14_method_183_code (aS_494 pc) := (sx_ite (p := fun l => sx_iOk prog_14_method_183_code l) (sx_ite (p := fun l => sx_iOk prog_14_method_183_code l) (sx_ite (p := fun l => sx_iOk prog_14_method_183_code l) (sx_ite (p := fun l => sx_iOk prog_14_method_183_code l) (sx_iB_s aJ_494_0) (sx_iB_s aJ_494_1)) (sx_ite (p := fun l => sx_iOk prog_14_method_183_code l) (sx_iB_s aJ_494_2) (sx_ite (p := fun l => sx_iOk prog_14_method_183_code l) (sx_iB_s aJ_494_3) (sx_iB_s aJ_494_4)))) (sx_ite (p := fun l => sx_iOk prog_14_method_183_code l) (sx_ite (p := fun l => sx_iOk prog_14_method_183_code l) (sx_iB_s aJ_494_5) (sx_iB_s aJ_494_6)) (sx_ite (p := fun l => sx_iOk prog_14_method_183_code l) (sx_iB_s aJ_494_7) (sx_ite (p := fun l => sx_iOk prog_14_method_183_code l) (sx_iB_s aJ_494_8) (sx_iB_s aJ_494_9))))) (sx_ite (p := fun l => sx_iOk prog_14_method_183_code l) (sx_ite (p := fun l => sx_iOk prog_14_method_183_code l) (sx_ite (p := fun l => sx_iOk prog_14_method_183_code l) (sx_iB_s aJ_494_10) (sx_iB_s aJ_494_11)) (sx_ite (p := fun l => sx_iOk prog_14_method_183_code l) (sx_iB_s aJ_494_12) (sx_ite (p := fun l => sx_iOk prog_14_method_183_code l) (sx_iB_s aJ_494_13) (sx_iB_s aJ_494_14)))) (sx_ite (p := fun l => sx_iOk prog_14_method_183_code l) (sx_ite (p := fun l => sx_iOk prog_14_method_183_code l) (sx_iB_s aJ_494_15) (sx_iB_s aJ_494_16)) (sx_ite (p := fun l => sx_iOk prog_14_method_183_code l) (sx_iB_s aJ_494_17) (sx_ite (p := fun l => sx_iOk prog_14_method_183_code l) (sx_iB_s aJ_494_18) (sx_iB_s aJ_494_19))))))
def aW_494 : Nat → Option (Instr × Nat) := fun pc => sx_iF (aS_494 pc) pc
theorem aX_494 : ∀ pc i len, aW_494 pc = some (i, len) → decode aM_494.1.2.1 pc = .ok (i, len) := fun pc i len h => sx_iF_s (aT_494 pc) h
def aI_495_0 : sx_IL := [(0, .aload_n 0, 1), (1, .iload_n 1, 1), (2, .iload_n 2, 1), (3, .invokevirtual 1074, 3), (6, .ifCond .ne 11, 3), (9, .aload_n 0, 1)]
theorem aJ_495_0 : sx_iB prog_14_method_186_code aI_495_0 = true := by decide +kernel
def aI_495_1 : sx_IL := [(10, .iload_n 1, 1), (11, .bipush 10, 2), (13, .invokevirtual 1048, 3), (16, .return_, 1), (17, .sipush 3000, 3), (20, .iload_n 1, 1)]
theorem aJ_495_1 : sx_iB prog_14_method_186_code aI_495_1 = true := by decide +kernel
def aI_495_2 : sx_IL := [(21, .imul, 1), (22, .iconst 3, 1), (23, .iadd, 1), (24, .istore 5, 2), (26, .aload_n 0, 1), (27, .iload_n 1, 1)]
theorem aJ_495_2 : sx_iB prog_14_method_186_code aI_495_2 = true := by decide +kernel
def aI_495_3 : sx_IL := [(28, .invokevirtual 1064, 3), (31, .ifCond .eq 15, 3), (34, .aload_n 0, 1), (35, .iload_n 1, 1), (36, .iload_n 2, 1), (37, .iload 5, 2)]
theorem aJ_495_3 : sx_iB prog_14_method_186_code aI_495_3 = true := by decide +kernel
def aI_495_4 : sx_IL := [(39, .iload_n 3, 1), (40, .invokevirtual 1077, 3), (43, .goto 12, 3), (46, .aload_n 0, 1), (47, .iload_n 1, 1), (48, .iload_n 2, 1)]
theorem aJ_495_4 : sx_iB prog_14_method_186_code aI_495_4 = true := by decide +kernel
def aI_495_5 : sx_IL := [(49, .iload 5, 2), (51, .iload_n 3, 1), (52, .invokevirtual 1081, 3), (55, .istore 6, 2), (57, .iload 6, 2), (59, .ifCond .ne 22, 3)]
theorem aJ_495_5 : sx_iB prog_14_method_186_code aI_495_5 = true := by decide +kernel
def aI_495_6 : sx_IL := [(62, .iload 4, 2), (64, .ifCond .eq 17, 3), (67, .aload_n 0, 1), (68, .iload_n 1, 1), (69, .iload_n 2, 1), (70, .invokevirtual 1084, 3)]
theorem aJ_495_6 : sx_iB prog_14_method_186_code aI_495_6 = true := by decide +kernel
def aI_495_7 : sx_IL := [(73, .ifCond .eq 8, 3), (76, .bipush 10, 2), (78, .goto 5, 3), (81, .iload 6, 2), (83, .istore 6, 2), (85, .iload 6, 2)]
theorem aJ_495_7 : sx_iB prog_14_method_186_code aI_495_7 = true := by decide +kernel
def aI_495_8 : sx_IL := [(87, .ifCond .eq 11, 3), (90, .aload_n 0, 1), (91, .iload_n 1, 1), (92, .iload 6, 2), (94, .invokevirtual 1048, 3), (97, .return_, 1)]
theorem aJ_495_8 : sx_iB prog_14_method_186_code aI_495_8 = true := by decide +kernel
def aI_495_9 : sx_IL := [(98, .aload_n 0, 1), (99, .getfield 348, 3), (102, .iload_n 1, 1), (103, .dup2, 1), (104, .iaload, 1), (105, .iconst 1, 1)]
theorem aJ_495_9 : sx_iB prog_14_method_186_code aI_495_9 = true := by decide +kernel
def aI_495_10 : sx_IL := [(106, .iadd, 1), (107, .iastore, 1), (108, .aload_n 0, 1), (109, .iload_n 1, 1), (110, .invokevirtual 1064, 3), (113, .ifCond .eq 15, 3)]
theorem aJ_495_10 : sx_iB prog_14_method_186_code aI_495_10 = true := by decide +kernel
def aI_495_11 : sx_IL := [(116, .aload_n 0, 1), (117, .iload_n 1, 1), (118, .iload_n 2, 1), (119, .iload 5, 2), (121, .iload_n 3, 1), (122, .invokevirtual 1087, 3)]
theorem aJ_495_11 : sx_iB prog_14_method_186_code aI_495_11 = true := by decide +kernel
def aI_495_12 : sx_IL := [(125, .goto 12, 3), (128, .aload_n 0, 1), (129, .iload_n 1, 1), (130, .iload_n 2, 1), (131, .iload 5, 2), (133, .iload_n 3, 1)]
theorem aJ_495_12 : sx_iB prog_14_method_186_code aI_495_12 = true := by decide +kernel
def aI_495_13 : sx_IL := [(134, .invokevirtual 1090, 3), (137, .return_, 1)]
theorem aJ_495_13 : sx_iB prog_14_method_186_code aI_495_13 = true := by decide +kernel
def aS_495 (pc : Nat) : sx_IL := (if pc < 73 then (if pc < 28 then (if pc < 10 then aI_495_0 else (if pc < 21 then aI_495_1 else aI_495_2)) else (if pc < 49 then (if pc < 39 then aI_495_3 else aI_495_4) else (if pc < 62 then aI_495_5 else aI_495_6))) else (if pc < 106 then (if pc < 87 then aI_495_7 else (if pc < 98 then aI_495_8 else aI_495_9)) else (if pc < 125 then (if pc < 116 then aI_495_10 else aI_495_11) else (if pc < 134 then aI_495_12 else aI_495_13))))
theorem aT_495 (pc : Nat) : sx_iOk prog_14_method_186_code (aS_495 pc) := (sx_ite (p := fun l => sx_iOk prog_14_method_186_code l) (sx_ite (p := fun l => sx_iOk prog_14_method_186_code l) (sx_ite (p := fun l => sx_iOk prog_14_method_186_code l) (sx_iB_s aJ_495_0) (sx_ite (p := fun l => sx_iOk prog_14_method_186_code l) (sx_iB_s aJ_495_1) (sx_iB_s aJ_495_2))) (sx_ite (p := fun l => sx_iOk prog_14_method_186_code l) (sx_ite (p := fun l => sx_iOk prog_14_method_186_code l) (sx_iB_s aJ_495_3) (sx_iB_s aJ_495_4)) (sx_ite (p := fun l => sx_iOk prog_14_method_186_code l) (sx_iB_s aJ_495_5) (sx_iB_s aJ_495_6)))) (sx_ite (p := fun l => sx_iOk prog_14_method_186_code l) (sx_ite (p := fun l => sx_iOk prog_14_method_186_code l) (sx_iB_s aJ_495_7) (sx_ite (p := fun l => sx_iOk prog_14_method_186_code l) (sx_iB_s aJ_495_8) (sx_iB_s aJ_495_9))) (sx_ite (p := fun l => sx_iOk prog_14_method_186_code l) (sx_ite (p := fun l => sx_iOk prog_14_method_186_code l) (sx_iB_s aJ_495_10) (sx_iB_s aJ_495_11)) (sx_ite (p := fun l => sx_iOk prog_14_method_186_code l) (sx_iB_s aJ_495_12) (sx_iB_s aJ_495_13)))))
def aW_495 : Nat → Option (Instr × Nat) := fun pc => sx_iF (aS_495 pc) pc
theorem aX_495 : ∀ pc i len, aW_495 pc = some (i, len) → decode aM_495.1.2.1 pc = .ok (i, len) := fun pc i len h => sx_iF_s (aT_495 pc) h
def aI_496_0 : sx_IL := [(0, .aload_n 0, 1), (1, .getfield 291, 3), (4, .iload_n 1, 1), (5, .iaload, 1), (6, .istore_n 3, 1), (7, .aload_n 0, 1)]
theorem aJ_496_0 : sx_iB prog_14_method_184_code aI_496_0 = true := by decide +kernel
def aI_496_1 : sx_IL := [(8, .iload_n 1, 1), (9, .invokevirtual 1064, 3), (12, .ifCond .eq 201, 3), (15, .iload_n 2, 1), (16, .tableswitch 174 2 20 #[92, 174, 174, 174, 103, 174, 113, 174, 174, 135, 174, 124, 174, 151, 174, 174, 174, 174, 162], 92), (108, .iload_n 3, 1)]
theorem aJ_496_1 : sx_iB prog_14_method_184_code aI_496_1 = true := by decide +kernel
def aI_496_2 : sx_IL := [(109, .iconst 2, 1), (110, .if_icmp .ge 7, 3), (113, .iconst 1, 1), (114, .goto 4, 3), (117, .iconst 0, 1), (118, .ireturn, 1)]
theorem aJ_496_2 : sx_iB prog_14_method_184_code aI_496_2 = true := by decide +kernel
def aI_496_3 : sx_IL := [(119, .iload_n 3, 1), (120, .ifCond .ne 7, 3), (123, .iconst 1, 1), (124, .goto 4, 3), (127, .iconst 0, 1), (128, .ireturn, 1)]
theorem aJ_496_3 : sx_iB prog_14_method_184_code aI_496_3 = true := by decide +kernel
def aI_496_4 : sx_IL := [(129, .iload_n 3, 1), (130, .iconst 2, 1), (131, .if_icmp .ne 7, 3), (134, .iconst 1, 1), (135, .goto 4, 3), (138, .iconst 0, 1)]
theorem aJ_496_4 : sx_iB prog_14_method_184_code aI_496_4 = true := by decide +kernel
def aI_496_5 : sx_IL := [(139, .ireturn, 1), (140, .iload_n 3, 1), (141, .iconst 3, 1), (142, .if_icmp .ne 7, 3), (145, .iconst 1, 1), (146, .goto 4, 3)]
theorem aJ_496_5 : sx_iB prog_14_method_184_code aI_496_5 = true := by decide +kernel
def aI_496_6 : sx_IL := [(149, .iconst 0, 1), (150, .ireturn, 1), (151, .iload_n 3, 1), (152, .iconst 3, 1), (153, .if_icmp .eq 8, 3), (156, .iload_n 3, 1)]
theorem aJ_496_6 : sx_iB prog_14_method_184_code aI_496_6 = true := by decide +kernel
def aI_496_7 : sx_IL := [(157, .iconst 4, 1), (158, .if_icmp .ne 7, 3), (161, .iconst 1, 1), (162, .goto 4, 3), (165, .iconst 0, 1), (166, .ireturn, 1)]
theorem aJ_496_7 : sx_iB prog_14_method_184_code aI_496_7 = true := by decide +kernel
def aI_496_8 : sx_IL := [(167, .iload_n 3, 1), (168, .iconst 5, 1), (169, .if_icmp .ne 7, 3), (172, .iconst 1, 1), (173, .goto 4, 3), (176, .iconst 0, 1)]
theorem aJ_496_8 : sx_iB prog_14_method_184_code aI_496_8 = true := by decide +kernel
def aI_496_9 : sx_IL := [(177, .ireturn, 1), (178, .iload_n 3, 1), (179, .bipush 6, 2), (181, .if_icmp .ne 7, 3), (184, .iconst 1, 1), (185, .goto 4, 3)]
theorem aJ_496_9 : sx_iB prog_14_method_184_code aI_496_9 = true := by decide +kernel
def aI_496_10 : sx_IL := [(188, .iconst 0, 1), (189, .ireturn, 1), (190, .iload_n 2, 1), (191, .iconst 4, 1), (192, .if_icmp .eq 9, 3), (195, .iload_n 2, 1)]
theorem aJ_496_10 : sx_iB prog_14_method_184_code aI_496_10 = true := by decide +kernel
def aI_496_11 : sx_IL := [(196, .bipush 24, 2), (198, .if_icmp .ne 13, 3), (201, .iload_n 3, 1), (202, .bipush 7, 2), (204, .if_icmp .ne 7, 3), (207, .iconst 1, 1)]
theorem aJ_496_11 : sx_iB prog_14_method_184_code aI_496_11 = true := by decide +kernel
def aI_496_12 : sx_IL := [(208, .goto 4, 3), (211, .iconst 0, 1), (212, .ireturn, 1), (213, .iload_n 2, 1), (214, .iconst 1, 1), (215, .if_icmp .ne 16, 3)]
theorem aJ_496_12 : sx_iB prog_14_method_184_code aI_496_12 = true := by decide +kernel
def aI_496_13 : sx_IL := [(218, .iload_n 3, 1), (219, .iconst 2, 1), (220, .if_icmp .ge 7, 3), (223, .iconst 1, 1), (224, .goto 99, 3), (227, .iconst 0, 1)]
theorem aJ_496_13 : sx_iB prog_14_method_184_code aI_496_13 = true := by decide +kernel
def aI_496_14 : sx_IL := [(228, .goto 95, 3), (231, .iload_n 2, 1), (232, .iconst 5, 1), (233, .if_icmp .ne 16, 3), (236, .iload_n 3, 1), (237, .iconst 2, 1)]
theorem aJ_496_14 : sx_iB prog_14_method_184_code aI_496_14 = true := by decide +kernel
def aI_496_15 : sx_IL := [(238, .if_icmp .ne 7, 3), (241, .iconst 1, 1), (242, .goto 81, 3), (245, .iconst 0, 1), (246, .goto 77, 3), (249, .iload_n 2, 1)]
theorem aJ_496_15 : sx_iB prog_14_method_184_code aI_496_15 = true := by decide +kernel
def aI_496_16 : sx_IL := [(250, .bipush 11, 2), (252, .if_icmp .ne 16, 3), (255, .iload_n 3, 1), (256, .iconst 3, 1), (257, .if_icmp .ne 7, 3), (260, .iconst 1, 1)]
theorem aJ_496_16 : sx_iB prog_14_method_184_code aI_496_16 = true := by decide +kernel
def aI_496_17 : sx_IL := [(261, .goto 62, 3), (264, .iconst 0, 1), (265, .goto 58, 3), (268, .iload_n 2, 1), (269, .bipush 15, 2), (271, .if_icmp .ne 16, 3)]
theorem aJ_496_17 : sx_iB prog_14_method_184_code aI_496_17 = true := by decide +kernel
def aI_496_18 : sx_IL := [(274, .iload_n 3, 1), (275, .iconst 4, 1), (276, .if_icmp .ne 7, 3), (279, .iconst 1, 1), (280, .goto 43, 3), (283, .iconst 0, 1)]
theorem aJ_496_18 : sx_iB prog_14_method_184_code aI_496_18 = true := by decide +kernel
def aI_496_19 : sx_IL := [(284, .goto 39, 3), (287, .iload_n 2, 1), (288, .bipush 20, 2), (290, .if_icmp .ne 16, 3), (293, .iload_n 3, 1), (294, .iconst 5, 1)]
theorem aJ_496_19 : sx_iB prog_14_method_184_code aI_496_19 = true := by decide +kernel
def aI_496_20 : sx_IL := [(295, .if_icmp .ne 7, 3), (298, .iconst 1, 1), (299, .goto 24, 3), (302, .iconst 0, 1), (303, .goto 20, 3), (306, .iload_n 2, 1)]
theorem aJ_496_20 : sx_iB prog_14_method_184_code aI_496_20 = true := by decide +kernel
def aI_496_21 : sx_IL := [(307, .bipush 24, 2), (309, .if_icmp .ne 13, 3), (312, .iload_n 3, 1), (313, .bipush 6, 2), (315, .if_icmp .ne 7, 3), (318, .iconst 1, 1)]
theorem aJ_496_21 : sx_iB prog_14_method_184_code aI_496_21 = true := by decide +kernel
def aI_496_22 : sx_IL := [(319, .goto 4, 3), (322, .iconst 0, 1), (323, .ireturn, 1)]
theorem aJ_496_22 : sx_iB prog_14_method_184_code aI_496_22 = true := by decide +kernel
def aS_496 (pc : Nat) : sx_IL := (if pc < 196 then (if pc < 139 then (if pc < 109 then (if pc < 8 then aI_496_0 else aI_496_1) else (if pc < 119 then aI_496_2 else (if pc < 129 then aI_496_3 else aI_496_4))) else (if pc < 167 then (if pc < 149 then aI_496_5 else (if pc < 157 then aI_496_6 else aI_496_7)) else (if pc < 177 then aI_496_8 else (if pc < 188 then aI_496_9 else aI_496_10)))) else (if pc < 261 then (if pc < 228 then (if pc < 208 then aI_496_11 else (if pc < 218 then aI_496_12 else aI_496_13)) else (if pc < 238 then aI_496_14 else (if pc < 250 then aI_496_15 else aI_496_16))) else (if pc < 295 then (if pc < 274 then aI_496_17 else (if pc < 284 then aI_496_18 else aI_496_19)) else (if pc < 307 then aI_496_20 else (if pc < 319 then aI_496_21 else aI_496_22)))))
theorem aT_496 (pc : Nat) : sx_iOk prog_14_method_184_code (aS_496 pc) := (sx_ite (p := fun l => sx_iOk prog_14_method_184_code l) (sx_ite (p := fun l => sx_iOk prog_14_method_184_code l) (sx_ite (p := fun l => sx_iOk prog_14_method_184_code l) (sx_ite (p := fun l => sx_iOk prog_14_method_184_code l) (sx_iB_s aJ_496_0) (sx_iB_s aJ_496_1)) (sx_ite (p := fun l => sx_iOk prog_14_method_184_code l) (sx_iB_s aJ_496_2) (sx_ite (p := fun l => sx_iOk prog_14_method_184_code l) (sx_iB_s aJ_496_3) (sx_iB_s aJ_496_4)))) (sx_ite (p := fun l => sx_iOk prog_14_method_184_code l) (sx_ite (p := fun l => sx_iOk prog_14_method_184_code l) (sx_iB_s aJ_496_5) (sx_ite (p := fun l => sx_iOk prog_14_method_184_code l) (sx_iB_s aJ_496_6) (sx_iB_s aJ_496_7))) (sx_ite (p := fun l => sx_iOk prog_14_method_184_code l) (sx_iB_s aJ_496_8) (sx_ite (p := fun l => sx_iOk prog_14_method_184_code l) (sx_iB_s aJ_496_9) (sx_iB_s aJ_496_10))))) (sx_ite (p := fun l => sx_iOk prog_14_method_184_code l) (sx_ite (p := fun l => sx_iOk prog_14_method_184_code l) (sx_ite (p := fun l => sx_iOk prog_14_method_184_code l) (sx_iB_s aJ_496_11) (sx_ite (p := fun l => sx_iOk prog_14_method_184_code l) (sx_iB_s aJ_496_12) (sx_iB_s aJ_496_13))) (sx_ite (p := fun l => sx_iOk prog_14_method_184_code l) (sx_iB_s aJ_496_14) (sx_ite (p := fun l => sx_iOk prog_14_method_184_code l) (sx_iB_s aJ_496_15) (sx_iB_s aJ_496_16)))) (sx_ite (p := fun l => sx_iOk prog_14_method_184_code l) (sx_ite (p := fun l => sx_iOk prog_14_method_184_code l) (sx_iB_s aJ_496_17) (sx_ite (p := fun l => sx_iOk prog_14_method_184_code l) (sx_iB_s aJ_496_18) (sx_iB_s aJ_496_19))) (sx_ite (p := fun l => sx_iOk prog_14_method_184_code l) (sx_iB_s aJ_496_20) (sx_ite (p := fun l => sx_iOk prog_14_method_184_code l) (sx_iB_s aJ_496_21) (sx_iB_s aJ_496_22))))))
def aW_496 : Nat → Option (Instr × Nat) := fun pc => sx_iF (aS_496 pc) pc
theorem aX_496 : ∀ pc i len, aW_496 pc = some (i, len) → decode aM_496.1.2.1 pc = .ok (i, len) := fun pc i len h => sx_iF_s (aT_496 pc) h
def aI_497_0 : sx_IL := [(0, .iload_n 1, 1), (1, .iconst 2, 1), (2, .irem, 1), (3, .ifCond .ne 7, 3), (6, .iconst 1, 1), (7, .goto 4, 3)]
theorem aJ_497_0 : sx_iB prog_14_method_181_code aI_497_0 = true := by decide +kernel
def aI_497_1 : sx_IL := [(10, .iconst 0, 1), (11, .ireturn, 1)]
theorem aJ_497_1 : sx_iB prog_14_method_181_code aI_497_1 = true := by decide +kernel
def aS_497 (pc : Nat) : sx_IL := (if pc < 10 then aI_497_0 else aI_497_1)
theorem aT_497 (pc : Nat) : sx_iOk prog_14_method_181_code (aS_497 pc) := (sx_ite (p := fun l => sx_iOk prog_14_method_181_code l) (sx_iB_s aJ_497_0) (sx_iB_s aJ_497_1))
def aW_497 : Nat → Option (Instr × Nat) := fun pc => sx_iF (aS_497 pc) pc
theorem aX_497 : ∀ pc i len, aW_497 pc = some (i, len) → decode aM_497.1.2.1 pc = .ok (i, len) := fun pc i len h => sx_iF_s (aT_497 pc) h
def aI_498_0 : sx_IL := [(0, .iload_n 1, 1), (1, .iconst 2, 1), (2, .idiv, 1), (3, .istore 5, 2), (5, .aload_n 0, 1), (6, .getfield 261, 3)]
theorem aJ_498_0 : sx_iB prog_14_method_195_code aI_498_0 = true := by decide +kernel
def aI_498_1 : sx_IL := [(9, .iload_n 1, 1), (10, .iaload, 1), (11, .istore 6, 2), (13, .iload_n 3, 1), (14, .iload 4, 2), (16, .iadd, 1)]
theorem aJ_498_1 : sx_iB prog_14_method_195_code aI_498_1 = true := by decide +kernel
def aI_498_2 : sx_IL := [(17, .istore 7, 2), (19, .iconst 0, 1), (20, .istore 8, 2), (22, .iload_n 2, 1), (23, .tableswitch 478 2 20 #[89, 478, 464, 478, 142, 478, 280, 478, 478, 409, 478, 361, 478, 418, 478, 478, 478, 478, 427], 89), (112, .iload 4, 2)]
theorem aJ_498_2 : sx_iB prog_14_method_195_code aI_498_2 = true := by decide +kernel
def aI_498_3 : sx_IL := [(114, .bipush 9, 2), (116, .if_icmp .ge 8, 3), (119, .bipush 50, 2), (121, .goto 14, 3), (124, .aload_n 0, 1), (125, .iconst 2, 1)]
theorem aJ_498_3 : sx_iB prog_14_method_195_code aI_498_3 = true := by decide +kernel
def aI_498_4 : sx_IL := [(126, .iload_n 3, 1), (127, .bipush 9, 2), (129, .iadd, 1), (130, .iload 7, 2), (132, .invokevirtual 1108, 3), (135, .istore 8, 2)]
theorem aJ_498_4 : sx_iB prog_14_method_195_code aI_498_4 = true := by decide +kernel
def aI_498_5 : sx_IL := [(137, .iload 8, 2), (139, .ifCond .eq 8, 3), (142, .iload 8, 2), (144, .goto 20, 3), (147, .aload_n 0, 1), (148, .iload 5, 2)]
theorem aJ_498_5 : sx_iB prog_14_method_195_code aI_498_5 = true := by decide +kernel
def aI_498_6 : sx_IL := [(150, .iload 6, 2), (152, .aload_n 0, 1), (153, .getfield 278, 3), (156, .iload_n 3, 1), (157, .bipush 8, 2), (159, .iadd, 1)]
theorem aJ_498_6 : sx_iB prog_14_method_195_code aI_498_6 = true := by decide +kernel
def aI_498_7 : sx_IL := [(160, .iaload, 1), (161, .invokevirtual 1111, 3), (164, .ireturn, 1), (165, .iload 4, 2), (167, .iconst 1, 1), (168, .if_icmp .ge 8, 3)]
theorem aJ_498_7 : sx_iB prog_14_method_195_code aI_498_7 = true := by decide +kernel
def aI_498_8 : sx_IL := [(171, .bipush 50, 2), (173, .goto 14, 3), (176, .aload_n 0, 1), (177, .bipush 6, 2), (179, .iload_n 3, 1), (180, .iconst 1, 1)]
theorem aJ_498_8 : sx_iB prog_14_method_195_code aI_498_8 = true := by decide +kernel
def aI_498_9 : sx_IL := [(181, .iadd, 1), (182, .iload 7, 2), (184, .invokevirtual 1108, 3), (187, .istore 8, 2), (189, .iload 8, 2), (191, .ifCond .ne 10, 3)]
theorem aJ_498_9 : sx_iB prog_14_method_195_code aI_498_9 = true := by decide +kernel
def aI_498_10 : sx_IL := [(194, .aload_n 0, 1), (195, .getfield 1096, 3), (198, .ifCond .eq 16, 3), (201, .iload 8, 2), (203, .ifCond .eq 8, 3), (206, .iload 8, 2)]
theorem aJ_498_10 : sx_iB prog_14_method_195_code aI_498_10 = true := by decide +kernel
def aI_498_11 : sx_IL := [(208, .goto 5, 3), (211, .bipush 110, 2), (213, .ireturn, 1), (214, .aload_n 0, 1), (215, .iload 6, 2), (217, .iconst 0, 1)]
theorem aJ_498_11 : sx_iB prog_14_method_195_code aI_498_11 = true := by decide +kernel
def aI_498_12 : sx_IL := [(218, .aload_n 0, 1), (219, .getfield 278, 3), (222, .iload_n 3, 1), (223, .iaload, 1), (224, .invokevirtual 1114, 3), (227, .ifCond .eq 15, 3)]
theorem aJ_498_12 : sx_iB prog_14_method_195_code aI_498_12 = true := by decide +kernel
def aI_498_13 : sx_IL := [(230, .aload_n 0, 1), (231, .iconst 3, 1), (232, .invokevirtual 1105, 3), (235, .ifCond .eq 7, 3), (238, .iconst 1, 1), (239, .goto 4, 3)]
theorem aJ_498_13 : sx_iB prog_14_method_195_code aI_498_13 = true := by decide +kernel
def aI_498_14 : sx_IL := [(242, .iconst 0, 1), (243, .istore 9, 2), (245, .iload 9, 2), (247, .ifCond .eq 17, 3), (250, .aload_n 0, 1), (251, .getfield 278, 3)]
theorem aJ_498_14 : sx_iB prog_14_method_195_code aI_498_14 = true := by decide +kernel
def aI_498_15 : sx_IL := [(254, .aload_n 0, 1), (255, .getfield 489, 3), (258, .iconst 3, 1), (259, .iaload, 1), (260, .iaload, 1), (261, .goto 4, 3)]
theorem aJ_498_15 : sx_iB prog_14_method_195_code aI_498_15 = true := by decide +kernel
def aI_498_16 : sx_IL := [(264, .iconst 0, 1), (265, .istore 10, 2), (267, .iload 9, 2), (269, .ifCond .eq 31, 3), (272, .aload_n 0, 1), (273, .iload 6, 2)]
theorem aJ_498_16 : sx_iB prog_14_method_195_code aI_498_16 = true := by decide +kernel
def aI_498_17 : sx_IL := [(275, .iconst 1, 1), (276, .iload 10, 2), (278, .invokevirtual 1114, 3), (281, .ifCond .eq 19, 3), (284, .iload 10, 2), (286, .aload_n 0, 1)]
theorem aJ_498_17 : sx_iB prog_14_method_195_code aI_498_17 = true := by decide +kernel
def aI_498_18 : sx_IL := [(287, .getfield 411, 3), (290, .iload 5, 2), (292, .iaload, 1), (293, .if_icmp .eq 7, 3), (296, .iconst 0, 1), (297, .goto 5, 3)]
theorem aJ_498_18 : sx_iB prog_14_method_195_code aI_498_18 = true := by decide +kernel
def aI_498_19 : sx_IL := [(300, .bipush 47, 2), (302, .ireturn, 1), (303, .aload_n 0, 1), (304, .bipush 8, 2), (306, .iload_n 3, 1), (307, .iload 7, 2)]
theorem aJ_498_19 : sx_iB prog_14_method_195_code aI_498_19 = true := by decide +kernel
def aI_498_20 : sx_IL := [(309, .invokevirtual 1108, 3), (312, .istore 8, 2), (314, .iload 8, 2), (316, .ifCond .ne 10, 3), (319, .aload_n 0, 1), (320, .getfield 1096, 3)]
theorem aJ_498_20 : sx_iB prog_14_method_195_code aI_498_20 = true := by decide +kernel
def aI_498_21 : sx_IL := [(323, .ifCond .eq 16, 3), (326, .iload 8, 2), (328, .ifCond .eq 8, 3), (331, .iload 8, 2), (333, .goto 5, 3), (336, .bipush 110, 2)]
theorem aJ_498_21 : sx_iB prog_14_method_195_code aI_498_21 = true := by decide +kernel
def aI_498_22 : sx_IL := [(338, .ireturn, 1), (339, .aload_n 0, 1), (340, .bipush 8, 2), (342, .invokevirtual 1105, 3), (345, .ifCond .ne 7, 3), (348, .iconst 0, 1)]
theorem aJ_498_22 : sx_iB prog_14_method_195_code aI_498_22 = true := by decide +kernel
def aI_498_23 : sx_IL := [(349, .goto 34, 3), (352, .aload_n 0, 1), (353, .getfield 441, 3), (356, .iload 5, 2), (358, .baload, 1), (359, .ifCond .ne 8, 3)]
theorem aJ_498_23 : sx_iB prog_14_method_195_code aI_498_23 = true := by decide +kernel
def aI_498_24 : sx_IL := [(362, .bipush 110, 2), (364, .goto 19, 3), (367, .aload_n 0, 1), (368, .getfield 453, 3), (371, .iload 5, 2), (373, .iaload, 1)]
theorem aJ_498_24 : sx_iB prog_14_method_195_code aI_498_24 = true := by decide +kernel
def aI_498_25 : sx_IL := [(374, .ifCond .eq 8, 3), (377, .bipush 47, 2), (379, .goto 4, 3), (382, .iconst 0, 1), (383, .ireturn, 1), (384, .aload_n 0, 1)]
theorem aJ_498_25 : sx_iB prog_14_method_195_code aI_498_25 = true := by decide +kernel
def aI_498_26 : sx_IL := [(385, .bipush 13, 2), (387, .iload_n 3, 1), (388, .iload 7, 2), (390, .invokevirtual 1108, 3), (393, .istore 8, 2), (395, .iload 8, 2)]
theorem aJ_498_26 : sx_iB prog_14_method_195_code aI_498_26 = true := by decide +kernel
def aI_498_27 : sx_IL := [(397, .ifCond .eq 8, 3), (400, .iload 8, 2), (402, .goto 29, 3), (405, .aload_n 0, 1), (406, .getfield 1096, 3), (409, .ifCond .eq 8, 3)]
theorem aJ_498_27 : sx_iB prog_14_method_195_code aI_498_27 = true := by decide +kernel
def aI_498_28 : sx_IL := [(412, .bipush 110, 2), (414, .goto 17, 3), (417, .aload_n 0, 1), (418, .iconst 5, 1), (419, .invokevirtual 1105, 3), (422, .ifCond .eq 7, 3)]
theorem aJ_498_28 : sx_iB prog_14_method_195_code aI_498_28 = true := by decide +kernel
def aI_498_29 : sx_IL := [(425, .iconst 0, 1), (426, .goto 5, 3), (429, .bipush 109, 2), (431, .ireturn, 1), (432, .aload_n 0, 1), (433, .iload_n 1, 1)]
theorem aJ_498_29 : sx_iB prog_14_method_195_code aI_498_29 = true := by decide +kernel
def aI_498_30 : sx_IL := [(434, .iload_n 3, 1), (435, .iload 4, 2), (437, .invokevirtual 1117, 3), (440, .ireturn, 1), (441, .aload_n 0, 1), (442, .iload_n 1, 1)]
theorem aJ_498_30 : sx_iB prog_14_method_195_code aI_498_30 = true := by decide +kernel
def aI_498_31 : sx_IL := [(443, .iload_n 3, 1), (444, .iload 4, 2), (446, .invokevirtual 1120, 3), (449, .ireturn, 1), (450, .iload 4, 2), (452, .bipush 8, 2)]
theorem aJ_498_31 : sx_iB prog_14_method_195_code aI_498_31 = true := by decide +kernel
def aI_498_32 : sx_IL := [(454, .if_icmp .eq 8, 3), (457, .bipush 50, 2), (459, .goto 27, 3), (462, .aload_n 0, 1), (463, .getfield 278, 3), (466, .iload_n 3, 1)]
theorem aJ_498_32 : sx_iB prog_14_method_195_code aI_498_32 = true := by decide +kernel
def aI_498_33 : sx_IL := [(467, .invokestatic 851, 3), (470, .aload_n 0, 1), (471, .iload_n 1, 1), (472, .iconst 0, 1), (473, .invokevirtual 1123, 3), (476, .lcmp, 1)]
theorem aJ_498_33 : sx_iB prog_14_method_195_code aI_498_33 = true := by decide +kernel
def aI_498_34 : sx_IL := [(477, .ifCond .ne 7, 3), (480, .iconst 0, 1), (481, .goto 5, 3), (484, .bipush 51, 2), (486, .ireturn, 1), (487, .iload 4, 2)]
theorem aJ_498_34 : sx_iB prog_14_method_195_code aI_498_34 = true := by decide +kernel
def aI_498_35 : sx_IL := [(489, .bipush 17, 2), (491, .if_icmp .ne 7, 3), (494, .iconst 0, 1), (495, .goto 5, 3), (498, .bipush 50, 2), (500, .ireturn, 1)]
theorem aJ_498_35 : sx_iB prog_14_method_195_code aI_498_35 = true := by decide +kernel
def aI_498_36 : sx_IL := [(501, .iload 4, 2), (503, .iconst 1, 1), (504, .if_icmp .eq 8, 3), (507, .bipush 50, 2), (509, .goto 19, 3), (512, .aload_n 0, 1)]
theorem aJ_498_36 : sx_iB prog_14_method_195_code aI_498_36 = true := by decide +kernel
def aI_498_37 : sx_IL := [(513, .getfield 278, 3), (516, .iload_n 3, 1), (517, .iaload, 1), (518, .iconst 1, 1), (519, .if_icmp .le 8, 3), (522, .bipush 47, 2)]
theorem aJ_498_37 : sx_iB prog_14_method_195_code aI_498_37 = true := by decide +kernel
def aI_498_38 : sx_IL := [(524, .goto 4, 3), (527, .iconst 0, 1), (528, .ireturn, 1)]
theorem aJ_498_38 : sx_iB prog_14_method_195_code aI_498_38 = true := by decide +kernel
def aS_498 (pc : Nat) : sx_IL := (if pc < 300 then (if pc < 181 then (if pc < 126 then (if pc < 17 then (if pc < 9 then aI_498_0 else aI_498_1) else (if pc < 114 then aI_498_2 else aI_498_3)) else (if pc < 150 then (if pc < 137 then aI_498_4 else aI_498_5) else (if pc < 160 then aI_498_6 else (if pc < 171 then aI_498_7 else aI_498_8)))) else (if pc < 242 then (if pc < 208 then (if pc < 194 then aI_498_9 else aI_498_10) else (if pc < 218 then aI_498_11 else (if pc < 230 then aI_498_12 else aI_498_13))) else (if pc < 264 then (if pc < 254 then aI_498_14 else aI_498_15) else (if pc < 275 then aI_498_16 else (if pc < 287 then aI_498_17 else aI_498_18))))) else (if pc < 425 then (if pc < 362 then (if pc < 323 then (if pc < 309 then aI_498_19 else aI_498_20) else (if pc < 338 then aI_498_21 else (if pc < 349 then aI_498_22 else aI_498_23))) else (if pc < 385 then (if pc < 374 then aI_498_24 else aI_498_25) else (if pc < 397 then aI_498_26 else (if pc < 412 then aI_498_27 else aI_498_28)))) else (if pc < 477 then (if pc < 443 then (if pc < 434 then aI_498_29 else aI_498_30) else (if pc < 454 then aI_498_31 else (if pc < 467 then aI_498_32 else aI_498_33))) else (if pc < 501 then (if pc < 489 then aI_498_34 else aI_498_35) else (if pc < 513 then aI_498_36 else (if pc < 524 then aI_498_37 else aI_498_38))))))
theorem aT_498 (pc : Nat) : sx_iOk prog_14_method_195_code (aS_498 pc) := (sx_ite (p := fun l => sx_iOk prog_14_method_195_code l) (sx_ite (p := fun l => sx_iOk prog_14_method_195_code l) (sx_ite (p := fun l => sx_iOk prog_14_method_195_code l) (sx_ite (p := fun l => sx_iOk prog_14_method_195_code l) (sx_ite (p := fun l => sx_iOk prog_14_method_195_code l) (sx_iB_s aJ_498_0) (sx_iB_s aJ_498_1)) (sx_ite (p := fun l => sx_iOk prog_14_method_195_code l) (sx_iB_s aJ_498_2) (sx_iB_s aJ_498_3))) (sx_ite (p := fun l => sx_iOk prog_14_method_195_code l) (sx_ite (p := fun l => sx_iOk prog_14_method_195_code l) (sx_iB_s aJ_498_4) (sx_iB_s aJ_498_5)) (sx_ite (p := fun l => sx_iOk prog_14_method_195_code l) (sx_iB_s aJ_498_6) (sx_ite (p := fun l => sx_iOk prog_14_method_195_code l) (sx_iB_s aJ_498_7) (sx_iB_s aJ_498_8))))) (sx_ite (p := fun l => sx_iOk prog_14_method_195_code l) (sx_ite (p := fun l => sx_iOk prog_14_method_195_code l) (sx_ite (p := fun l => sx_iOk prog_14_method_195_code l) (sx_iB_s aJ_498_9) (sx_iB_s aJ_498_10)) (sx_ite (p := fun l => sx_iOk prog_14_method_195_code l) (sx_iB_s aJ_498_11) (sx_ite (p := fun l => sx_iOk prog_14_method_195_code l) (sx_iB_s aJ_498_12) (sx_iB_s aJ_498_13)))) (sx_ite (p := fun l => sx_iOk prog_14_method_195_code l) (sx_ite (p := fun l => sx_iOk prog_14_method_195_code l) (sx_iB_s aJ_498_14) (sx_iB_s aJ_498_15)) (sx_ite (p := fun l => sx_iOk prog_14_method_195_code l) (sx_iB_s aJ_498_16) (sx_ite (p := fun l => sx_iOk prog_14_method_195_code l) (sx_iB_s aJ_498_17) (sx_iB_s aJ_498_18)))))) (sx_ite (p := fun l => sx_iOk prog_14_method_195_code l) (sx_ite (p := fun l => sx_iOk prog_14_method_195_code l) (sx_ite (p := fun l => sx_iOk prog_14_method_195_code l) (sx_ite (p := fun l => sx_iOk prog_14_method_195_code l) (sx_iB_s aJ_498_19) (sx_iB_s aJ_498_20)) (sx_ite (p := fun l => sx_iOk prog_14_method_195_code l) (sx_iB_s aJ_498_21) (sx_ite (p := fun l => sx_iOk prog_14_method_195_code l) (sx_iB_s aJ_498_22) (sx_iB_s aJ_498_23)))) (sx_ite (p := fun l => sx_iOk prog_14_method_195_code l) (sx_ite (p := fun l => sx_iOk prog_14_method_195_code l) (sx_iB_s aJ_498_24) (sx_iB_s aJ_498_25)) (sx_ite (p := fun l => sx_iOk prog_14_method_195_code l) (sx_iB_s aJ_498_26) (sx_ite (p := fun l => sx_iOk prog_14_method_195_code l) (sx_iB_s aJ_498_27) (sx_iB_s aJ_498_28))))) (sx_ite (p := fun l => sx_iOk prog_14_method_195_code l) (sx_ite (p := fun l => sx_iOk prog_14_method_195_code l) (sx_ite (p := fun l => sx_iOk prog_14_method_195_code l) (sx_iB_s aJ_498_29) (sx_iB_s aJ_498_30)) (sx_ite (p := fun l => sx_iOk prog_14_method_195_code l) (sx_iB_s aJ_498_31) (sx_ite (p := fun l => sx_iOk prog_14_method_195_code l) (sx_iB_s aJ_498_32) (sx_iB_s aJ_498_33)))) (sx_ite (p := fun l => sx_iOk prog_14_method_195_code l) (sx_ite (p := fun l => sx_iOk prog_14_method_195_code l) (sx_iB_s aJ_498_34) (sx_iB_s aJ_498_35)) (sx_ite (p := fun l => sx_iOk prog_14_method_195_code l) (sx_iB_s aJ_498_36) (sx_ite (p := fun l => sx_iOk prog_14_method_195_code l) (sx_iB_s aJ_498_37) (sx_iB_s aJ_498_38)))))))
def aW_498 : Nat → Option (Instr × Nat) := fun pc => sx_iF (aS_498 pc) pc
theorem aX_498 : ∀ pc i len, aW_498 pc = some (i, len) → decode aM_498.1.2.1 pc = .ok (i, len) := fun pc i len h => sx_iF_s (aT_498 pc) h
def aI_499_0 : sx_IL := [(0, .iconst 0, 1), (1, .istore 4, 2), (3, .iload 4, 2), (5, .bipush 11, 2), (7, .if_icmp .ge 18, 3), (10, .aload_n 0, 1)]
theorem aJ_499_0 : sx_iB prog_14_method_190_code aI_499_0 = true := by decide +kernel
def aI_499_1 : sx_IL := [(11, .getfield 489, 3), (14, .iload 4, 2), (16, .bipush (-4), 2), (18, .iastore, 1), (19, .iinc 4 1, 3), (22, .goto (-19), 3)]
theorem aJ_499_1 : sx_iB prog_14_method_190_code aI_499_1 = true := by decide +kernel
def aI_499_2 : sx_IL := [(25, .aload_n 0, 1), (26, .iconst 0, 1), (27, .putfield 1096, 3), (30, .iconst (-1), 1), (31, .istore 4, 2), (33, .iload_n 2, 1)]
theorem aJ_499_2 : sx_iB prog_14_method_190_code aI_499_2 = true := by decide +kernel
def aI_499_3 : sx_IL := [(34, .istore 5, 2), (36, .iload 5, 2), (38, .iload_n 3, 1), (39, .if_icmp .ge 150, 3), (42, .aload_n 0, 1), (43, .getfield 278, 3)]
theorem aJ_499_3 : sx_iB prog_14_method_190_code aI_499_3 = true := by decide +kernel
def aI_499_4 : sx_IL := [(46, .iload 5, 2), (48, .iaload, 1), (49, .istore 6, 2), (51, .iload 6, 2), (53, .iload 4, 2), (55, .if_icmp .le 15, 3)]
theorem aJ_499_4 : sx_iB prog_14_method_190_code aI_499_4 = true := by decide +kernel
def aI_499_5 : sx_IL := [(58, .iload_n 1, 1), (59, .iconst 1, 1), (60, .if_icmp .ne 13, 3), (63, .iload 4, 2), (65, .bipush 10, 2), (67, .if_icmp .ne 6, 3)]
theorem aJ_499_5 : sx_iB prog_14_method_190_code aI_499_5 = true := by decide +kernel
def aI_499_6 : sx_IL := [(70, .bipush 47, 2), (72, .ireturn, 1), (73, .iload 6, 2), (75, .istore 4, 2), (77, .iload 5, 2), (79, .iconst 3, 1)]
theorem aJ_499_6 : sx_iB prog_14_method_190_code aI_499_6 = true := by decide +kernel
def aI_499_7 : sx_IL := [(80, .iadd, 1), (81, .iload_n 3, 1), (82, .if_icmp .le 6, 3), (85, .bipush 50, 2), (87, .ireturn, 1), (88, .aload_n 0, 1)]
theorem aJ_499_7 : sx_iB prog_14_method_190_code aI_499_7 = true := by decide +kernel
def aI_499_8 : sx_IL := [(89, .getfield 278, 3), (92, .iload 5, 2), (94, .iconst 1, 1), (95, .iadd, 1), (96, .iaload, 1), (97, .bipush 8, 2)]
theorem aJ_499_8 : sx_iB prog_14_method_190_code aI_499_8 = true := by decide +kernel
def aI_499_9 : sx_IL := [(99, .ishl, 1), (100, .aload_n 0, 1), (101, .getfield 278, 3), (104, .iload 5, 2), (106, .iconst 2, 1), (107, .iadd, 1)]
theorem aJ_499_9 : sx_iB prog_14_method_190_code aI_499_9 = true := by decide +kernel
def aI_499_10 : sx_IL := [(108, .iaload, 1), (109, .ior, 1), (110, .istore 7, 2), (112, .iinc 5 3, 3), (115, .iload 5, 2), (117, .iload 7, 2)]
theorem aJ_499_10 : sx_iB prog_14_method_190_code aI_499_10 = true := by decide +kernel
def aI_499_11 : sx_IL := [(119, .iadd, 1), (120, .iload_n 3, 1), (121, .if_icmp .le 6, 3), (124, .bipush 50, 2), (126, .ireturn, 1), (127, .iload_n 1, 1)]
theorem aJ_499_11 : sx_iB prog_14_method_190_code aI_499_11 = true := by decide +kernel
def aI_499_12 : sx_IL := [(128, .iload 6, 2), (130, .invokestatic 1099, 3), (133, .ifCond .eq 41, 3), (136, .aload_n 0, 1), (137, .iload 6, 2), (139, .iload_n 1, 1)]
theorem aJ_499_12 : sx_iB prog_14_method_190_code aI_499_12 = true := by decide +kernel
def aI_499_13 : sx_IL := [(140, .iload 5, 2), (142, .iload 7, 2), (144, .invokevirtual 1102, 3), (147, .ifCond .ne 6, 3), (150, .bipush 50, 2), (152, .ireturn, 1)]
theorem aJ_499_13 : sx_iB prog_14_method_190_code aI_499_13 = true := by decide +kernel
def aI_499_14 : sx_IL := [(153, .aload_n 0, 1), (154, .getfield 489, 3), (157, .iload 6, 2), (159, .iload 5, 2), (161, .iastore, 1), (162, .aload_n 0, 1)]
theorem aJ_499_14 : sx_iB prog_14_method_190_code aI_499_14 = true := by decide +kernel
def aI_499_15 : sx_IL := [(163, .getfield 492, 3), (166, .iload 6, 2), (168, .iload 7, 2), (170, .iastore, 1), (171, .goto 8, 3), (174, .aload_n 0, 1)]
theorem aJ_499_15 : sx_iB prog_14_method_190_code aI_499_15 = true := by decide +kernel
def aI_499_16 : sx_IL := [(175, .iconst 1, 1), (176, .putfield 1096, 3), (179, .iload 5, 2), (181, .iload 7, 2), (183, .iadd, 1), (184, .istore 5, 2)]
theorem aJ_499_16 : sx_iB prog_14_method_190_code aI_499_16 = true := by decide +kernel
def aI_499_17 : sx_IL := [(186, .goto (-150), 3), (189, .iconst 0, 1), (190, .ireturn, 1)]
theorem aJ_499_17 : sx_iB prog_14_method_190_code aI_499_17 = true := by decide +kernel
def aS_499 (pc : Nat) : sx_IL := (if pc < 99 then (if pc < 46 then (if pc < 25 then (if pc < 11 then aI_499_0 else aI_499_1) else (if pc < 34 then aI_499_2 else aI_499_3)) else (if pc < 70 then (if pc < 58 then aI_499_4 else aI_499_5) else (if pc < 80 then aI_499_6 else (if pc < 89 then aI_499_7 else aI_499_8)))) else (if pc < 140 then (if pc < 119 then (if pc < 108 then aI_499_9 else aI_499_10) else (if pc < 128 then aI_499_11 else aI_499_12)) else (if pc < 163 then (if pc < 153 then aI_499_13 else aI_499_14) else (if pc < 175 then aI_499_15 else (if pc < 186 then aI_499_16 else aI_499_17)))))
theorem aT_499 (pc : Nat) : sx_iOk prog_14_method_190_code (aS_499 pc) := (sx_ite (p := fun l => sx_iOk prog_14_method_190_code l) (sx_ite (p := fun l => sx_iOk prog_14_method_190_code l) (sx_ite (p := fun l => sx_iOk prog_14_method_190_code l) (sx_ite (p := fun l => sx_iOk prog_14_method_190_code l) (sx_iB_s aJ_499_0) (sx_iB_s aJ_499_1)) (sx_ite (p := fun l => sx_iOk prog_14_method_190_code l) (sx_iB_s aJ_499_2) (sx_iB_s aJ_499_3))) (sx_ite (p := fun l => sx_iOk prog_14_method_190_code l) (sx_ite (p := fun l => sx_iOk prog_14_method_190_code l) (sx_iB_s aJ_499_4) (sx_iB_s aJ_499_5)) (sx_ite (p := fun l => sx_iOk prog_14_method_190_code l) (sx_iB_s aJ_499_6) (sx_ite (p := fun l => sx_iOk prog_14_method_190_code l) (sx_iB_s aJ_499_7) (sx_iB_s aJ_499_8))))) (sx_ite (p := fun l => sx_iOk prog_14_method_190_code l) (sx_ite (p := fun l => sx_iOk prog_14_method_190_code l) (sx_ite (p := fun l => sx_iOk prog_14_method_190_code l) (sx_iB_s aJ_499_9) (sx_iB_s aJ_499_10)) (sx_ite (p := fun l => sx_iOk prog_14_method_190_code l) (sx_iB_s aJ_499_11) (sx_iB_s aJ_499_12))) (sx_ite (p := fun l => sx_iOk prog_14_method_190_code l) (sx_ite (p := fun l => sx_iOk prog_14_method_190_code l) (sx_iB_s aJ_499_13) (sx_iB_s aJ_499_14)) (sx_ite (p := fun l => sx_iOk prog_14_method_190_code l) (sx_iB_s aJ_499_15) (sx_ite (p := fun l => sx_iOk prog_14_method_190_code l) (sx_iB_s aJ_499_16) (sx_iB_s aJ_499_17))))))
def aW_499 : Nat → Option (Instr × Nat) := fun pc => sx_iF (aS_499 pc) pc
theorem aX_499 : ∀ pc i len, aW_499 pc = some (i, len) → decode aM_499.1.2.1 pc = .ok (i, len) := fun pc i len h => sx_iF_s (aT_499 pc) h
def aI_500_0 : sx_IL := [(0, .iload_n 0, 1), (1, .tableswitch 103 1 8 #[47, 57, 103, 103, 103, 74, 103, 91], 47), (48, .iload_n 1, 1), (49, .i2l, 1), (50, .lconst 1, 1), (51, .ldc2_w 845, 3)]
theorem aJ_500_0 : sx_iB prog_14_method_189_code aI_500_0 = true := by decide +kernel
def aI_500_1 : sx_IL := [(54, .invokestatic 513, 3), (57, .ireturn, 1), (58, .iload_n 1, 1), (59, .iconst 4, 1), (60, .if_icmp .eq 9, 3), (63, .iload_n 1, 1)]
theorem aJ_500_1 : sx_iB prog_14_method_189_code aI_500_1 = true := by decide +kernel
def aI_500_2 : sx_IL := [(64, .bipush 10, 2), (66, .if_icmp .ne 7, 3), (69, .iconst 1, 1), (70, .goto 4, 3), (73, .iconst 0, 1), (74, .ireturn, 1)]
theorem aJ_500_2 : sx_iB prog_14_method_189_code aI_500_2 = true := by decide +kernel
def aI_500_3 : sx_IL := [(75, .iload_n 1, 1), (76, .iconst 3, 1), (77, .if_icmp .eq 9, 3), (80, .iload_n 1, 1), (81, .bipush 9, 2), (83, .if_icmp .ne 7, 3)]
theorem aJ_500_3 : sx_iB prog_14_method_189_code aI_500_3 = true := by decide +kernel
def aI_500_4 : sx_IL := [(86, .iconst 1, 1), (87, .goto 4, 3), (90, .iconst 0, 1), (91, .ireturn, 1), (92, .iload_n 1, 1), (93, .bipush 8, 2)]
theorem aJ_500_4 : sx_iB prog_14_method_189_code aI_500_4 = true := by decide +kernel
def aI_500_5 : sx_IL := [(95, .if_icmp .ne 7, 3), (98, .iconst 1, 1), (99, .goto 4, 3), (102, .iconst 0, 1), (103, .ireturn, 1), (104, .iload_n 1, 1)]
theorem aJ_500_5 : sx_iB prog_14_method_189_code aI_500_5 = true := by decide +kernel
def aI_500_6 : sx_IL := [(105, .iconst 5, 1), (106, .if_icmp .ne 7, 3), (109, .iconst 1, 1), (110, .goto 4, 3), (113, .iconst 0, 1), (114, .ireturn, 1)]
theorem aJ_500_6 : sx_iB prog_14_method_189_code aI_500_6 = true := by decide +kernel
def aS_500 (pc : Nat) : sx_IL := (if pc < 75 then (if pc < 54 then aI_500_0 else (if pc < 64 then aI_500_1 else aI_500_2)) else (if pc < 95 then (if pc < 86 then aI_500_3 else aI_500_4) else (if pc < 105 then aI_500_5 else aI_500_6)))
theorem aT_500 (pc : Nat) : sx_iOk prog_14_method_189_code (aS_500 pc) := (sx_ite (p := fun l => sx_iOk prog_14_method_189_code l) (sx_ite (p := fun l => sx_iOk prog_14_method_189_code l) (sx_iB_s aJ_500_0) (sx_ite (p := fun l => sx_iOk prog_14_method_189_code l) (sx_iB_s aJ_500_1) (sx_iB_s aJ_500_2))) (sx_ite (p := fun l => sx_iOk prog_14_method_189_code l) (sx_ite (p := fun l => sx_iOk prog_14_method_189_code l) (sx_iB_s aJ_500_3) (sx_iB_s aJ_500_4)) (sx_ite (p := fun l => sx_iOk prog_14_method_189_code l) (sx_iB_s aJ_500_5) (sx_iB_s aJ_500_6))))
def aW_500 : Nat → Option (Instr × Nat) := fun pc => sx_iF (aS_500 pc) pc
theorem aX_500 : ∀ pc i len, aW_500 pc = some (i, len) → decode aM_500.1.2.1 pc = .ok (i, len) := fun pc i len h => sx_iF_s (aT_500 pc) h
def aI_501_0 : sx_IL := [(0, .iload_n 1, 1), (1, .tableswitch 181 1 9 #[51, 51, 63, 95, 51, 107, 128, 157, 168], 51), (52, .iload 4, 2), (54, .iconst 1, 1), (55, .if_icmp .lt 7, 3), (58, .iconst 1, 1)]
theorem aJ_501_0 : sx_iB prog_14_method_187_code aI_501_0 = true := by decide +kernel
def aI_501_1 : sx_IL := [(59, .goto 4, 3), (62, .iconst 0, 1), (63, .ireturn, 1), (64, .iload_n 2, 1), (65, .bipush 6, 2), (67, .if_icmp .ne 17, 3)]
theorem aJ_501_1 : sx_iB prog_14_method_187_code aI_501_1 = true := by decide +kernel
def aI_501_2 : sx_IL := [(70, .iload 4, 2), (72, .iconst 1, 1), (73, .if_icmp .ne 7, 3), (76, .iconst 1, 1), (77, .goto 18, 3), (80, .iconst 0, 1)]
theorem aJ_501_2 : sx_iB prog_14_method_187_code aI_501_2 = true := by decide +kernel
def aI_501_3 : sx_IL := [(81, .goto 14, 3), (84, .iload 4, 2), (86, .iconst 1, 1), (87, .if_icmp .lt 7, 3), (90, .iconst 1, 1), (91, .goto 4, 3)]
theorem aJ_501_3 : sx_iB prog_14_method_187_code aI_501_3 = true := by decide +kernel
def aI_501_4 : sx_IL := [(94, .iconst 0, 1), (95, .ireturn, 1), (96, .iload 4, 2), (98, .iconst 5, 1), (99, .if_icmp .ne 7, 3), (102, .iconst 1, 1)]
theorem aJ_501_4 : sx_iB prog_14_method_187_code aI_501_4 = true := by decide +kernel
def aI_501_5 : sx_IL := [(103, .goto 4, 3), (106, .iconst 0, 1), (107, .ireturn, 1), (108, .aload_n 0, 1), (109, .getfield 278, 3), (112, .iload_n 3, 1)]
theorem aJ_501_5 : sx_iB prog_14_method_187_code aI_501_5 = true := by decide +kernel
def aI_501_6 : sx_IL := [(113, .iload 4, 2), (115, .invokestatic 724, 3), (118, .bipush (-4), 2), (120, .if_icmp .ne 7, 3), (123, .iconst 1, 1), (124, .goto 4, 3)]
theorem aJ_501_6 : sx_iB prog_14_method_187_code aI_501_6 = true := by decide +kernel
def aI_501_7 : sx_IL := [(127, .iconst 0, 1), (128, .ireturn, 1), (129, .iload 4, 2), (131, .iconst 1, 1), (132, .if_icmp .ne 24, 3), (135, .aload_n 0, 1)]
theorem aJ_501_7 : sx_iB prog_14_method_187_code aI_501_7 = true := by decide +kernel
def aI_501_8 : sx_IL := [(136, .getfield 278, 3), (139, .iload_n 3, 1), (140, .iaload, 1), (141, .i2l, 1), (142, .lconst 1, 1), (143, .ldc2_w 609, 3)]
theorem aJ_501_8 : sx_iB prog_14_method_187_code aI_501_8 = true := by decide +kernel
def aI_501_9 : sx_IL := [(146, .invokestatic 513, 3), (149, .ifCond .eq 7, 3), (152, .iconst 1, 1), (153, .goto 4, 3), (156, .iconst 0, 1), (157, .ireturn, 1)]
theorem aJ_501_9 : sx_iB prog_14_method_187_code aI_501_9 = true := by decide +kernel
def aI_501_10 : sx_IL := [(158, .iload 4, 2), (160, .ifCond .ne 7, 3), (163, .iconst 1, 1), (164, .goto 4, 3), (167, .iconst 0, 1), (168, .ireturn, 1)]
theorem aJ_501_10 : sx_iB prog_14_method_187_code aI_501_10 = true := by decide +kernel
def aI_501_11 : sx_IL := [(169, .iload 4, 2), (171, .bipush 8, 2), (173, .if_icmp .ne 7, 3), (176, .iconst 1, 1), (177, .goto 4, 3), (180, .iconst 0, 1)]
theorem aJ_501_11 : sx_iB prog_14_method_187_code aI_501_11 = true := by decide +kernel
def aI_501_12 : sx_IL := [(181, .ireturn, 1), (182, .iload_n 2, 1), (183, .iconst 2, 1), (184, .if_icmp .ne 17, 3), (187, .iload 4, 2), (189, .iconst 1, 1)]
theorem aJ_501_12 : sx_iB prog_14_method_187_code aI_501_12 = true := by decide +kernel
def aI_501_13 : sx_IL := [(190, .if_icmp .ne 7, 3), (193, .iconst 1, 1), (194, .goto 14, 3), (197, .iconst 0, 1), (198, .goto 10, 3), (201, .aload_n 0, 1)]
theorem aJ_501_13 : sx_iB prog_14_method_187_code aI_501_13 = true := by decide +kernel
def aI_501_14 : sx_IL := [(202, .iload_n 3, 1), (203, .iload 4, 2), (205, .invokevirtual 1093, 3), (208, .ireturn, 1)]
theorem aJ_501_14 : sx_iB prog_14_method_187_code aI_501_14 = true := by decide +kernel
def aS_501 (pc : Nat) : sx_IL := (if pc < 127 then (if pc < 81 then (if pc < 59 then aI_501_0 else (if pc < 70 then aI_501_1 else aI_501_2)) else (if pc < 103 then (if pc < 94 then aI_501_3 else aI_501_4) else (if pc < 113 then aI_501_5 else aI_501_6))) else (if pc < 169 then (if pc < 146 then (if pc < 136 then aI_501_7 else aI_501_8) else (if pc < 158 then aI_501_9 else aI_501_10)) else (if pc < 190 then (if pc < 181 then aI_501_11 else aI_501_12) else (if pc < 202 then aI_501_13 else aI_501_14))))
theorem aT_501 (pc : Nat) : sx_iOk prog_14_method_187_code (aS_501 pc) := (sx_ite (p := fun l => sx_iOk prog_14_method_187_code l) (sx_ite (p := fun l => sx_iOk prog_14_method_187_code l) (sx_ite (p := fun l => sx_iOk prog_14_method_187_code l) (sx_iB_s aJ_501_0) (sx_ite (p := fun l => sx_iOk prog_14_method_187_code l) (sx_iB_s aJ_501_1) (sx_iB_s aJ_501_2))) (sx_ite (p := fun l => sx_iOk prog_14_method_187_code l) (sx_ite (p := fun l => sx_iOk prog_14_method_187_code l) (sx_iB_s aJ_501_3) (sx_iB_s aJ_501_4)) (sx_ite (p := fun l => sx_iOk prog_14_method_187_code l) (sx_iB_s aJ_501_5) (sx_iB_s aJ_501_6)))) (sx_ite (p := fun l => sx_iOk prog_14_method_187_code l) (sx_ite (p := fun l => sx_iOk prog_14_method_187_code l) (sx_ite (p := fun l => sx_iOk prog_14_method_187_code l) (sx_iB_s aJ_501_7) (sx_iB_s aJ_501_8)) (sx_ite (p := fun l => sx_iOk prog_14_method_187_code l) (sx_iB_s aJ_501_9) (sx_iB_s aJ_501_10))) (sx_ite (p := fun l => sx_iOk prog_14_method_187_code l) (sx_ite (p := fun l => sx_iOk prog_14_method_187_code l) (sx_iB_s aJ_501_11) (sx_iB_s aJ_501_12)) (sx_ite (p := fun l => sx_iOk prog_14_method_187_code l) (sx_iB_s aJ_501_13) (sx_iB_s aJ_501_14)))))
def aW_501 : Nat → Option (Instr × Nat) := fun pc => sx_iF (aS_501 pc) pc
theorem aX_501 : ∀ pc i len, aW_501 pc = some (i, len) → decode aM_501.1.2.1 pc = .ok (i, len) := fun pc i len h => sx_iF_s (aT_501 pc) h
def aI_502_0 : sx_IL := [(0, .iload_n 2, 1), (1, .ifCond .le 12, 3), (4, .aload_n 0, 1), (5, .getfield 278, 3), (8, .iload_n 1, 1), (9, .iaload, 1)]
theorem aJ_502_0 : sx_iB prog_14_method_188_code aI_502_0 = true := by decide +kernel
def aI_502_1 : sx_IL := [(10, .goto 4, 3), (13, .iconst 0, 1), (14, .istore_n 3, 1), (15, .iload_n 1, 1), (16, .iconst 1, 1), (17, .iadd, 1)]
theorem aJ_502_1 : sx_iB prog_14_method_188_code aI_502_1 = true := by decide +kernel
def aI_502_2 : sx_IL := [(18, .istore 4, 2), (20, .iconst 0, 1), (21, .istore 5, 2), (23, .iload 5, 2), (25, .iload_n 3, 1), (26, .if_icmp .ge 51, 3)]
theorem aJ_502_2 : sx_iB prog_14_method_188_code aI_502_2 = true := by decide +kernel
def aI_502_3 : sx_IL := [(29, .iload 4, 2), (31, .iload_n 1, 1), (32, .iload_n 2, 1), (33, .iadd, 1), (34, .if_icmp .ge 21, 3), (37, .aload_n 0, 1)]
theorem aJ_502_3 : sx_iB prog_14_method_188_code aI_502_3 = true := by decide +kernel
def aI_502_4 : sx_IL := [(38, .getfield 278, 3), (41, .iload 4, 2), (43, .iaload, 1), (44, .i2l, 1), (45, .lconst 1, 1), (46, .ldc2_w 923, 3)]
theorem aJ_502_4 : sx_iB prog_14_method_188_code aI_502_4 = true := by decide +kernel
def aI_502_5 : sx_IL := [(49, .invokestatic 513, 3), (52, .ifCond .ne 5, 3), (55, .iconst 0, 1), (56, .ireturn, 1), (57, .iload 4, 2), (59, .iconst 5, 1)]
theorem aJ_502_5 : sx_iB prog_14_method_188_code aI_502_5 = true := by decide +kernel
def aI_502_6 : sx_IL := [(60, .aload_n 0, 1), (61, .getfield 278, 3), (64, .iload 4, 2), (66, .iaload, 1), (67, .iadd, 1), (68, .iadd, 1)]
theorem aJ_502_6 : sx_iB prog_14_method_188_code aI_502_6 = true := by decide +kernel
def aI_502_7 : sx_IL := [(69, .istore 4, 2), (71, .iinc 5 1, 3), (74, .goto (-51), 3), (77, .iload_n 3, 1), (78, .ifCond .le 20, 3), (81, .iload 4, 2)]
theorem aJ_502_7 : sx_iB prog_14_method_188_code aI_502_7 = true := by decide +kernel
def aI_502_8 : sx_IL := [(83, .bipush 8, 2), (85, .iload_n 3, 1), (86, .imul, 1), (87, .iadd, 1), (88, .iload_n 1, 1), (89, .iload_n 2, 1)]
theorem aJ_502_8 : sx_iB prog_14_method_188_code aI_502_8 = true := by decide +kernel
def aI_502_9 : sx_IL := [(90, .iadd, 1), (91, .if_icmp .ne 7, 3), (94, .iconst 1, 1), (95, .goto 4, 3), (98, .iconst 0, 1), (99, .ireturn, 1)]
theorem aJ_502_9 : sx_iB prog_14_method_188_code aI_502_9 = true := by decide +kernel
def aS_502 (pc : Nat) : sx_IL := (if pc < 49 then (if pc < 18 then (if pc < 10 then aI_502_0 else aI_502_1) else (if pc < 29 then aI_502_2 else (if pc < 38 then aI_502_3 else aI_502_4))) else (if pc < 69 then (if pc < 60 then aI_502_5 else aI_502_6) else (if pc < 83 then aI_502_7 else (if pc < 90 then aI_502_8 else aI_502_9))))
theorem aT_502 (pc : Nat) : sx_iOk prog_14_method_188_code (aS_502 pc) := (sx_ite (p := fun l => sx_iOk prog_14_method_188_code l) (sx_ite (p := fun l => sx_iOk prog_14_method_188_code l) (sx_ite (p := fun l => sx_iOk prog_14_method_188_code l) (sx_iB_s aJ_502_0) (sx_iB_s aJ_502_1)) (sx_ite (p := fun l => sx_iOk prog_14_method_188_code l) (sx_iB_s aJ_502_2) (sx_ite (p := fun l => sx_iOk prog_14_method_188_code l) (sx_iB_s aJ_502_3) (sx_iB_s aJ_502_4)))) (sx_ite (p := fun l => sx_iOk prog_14_method_188_code l) (sx_ite (p := fun l => sx_iOk prog_14_method_188_code l) (sx_iB_s aJ_502_5) (sx_iB_s aJ_502_6)) (sx_ite (p := fun l => sx_iOk prog_14_method_188_code l) (sx_iB_s aJ_502_7) (sx_ite (p := fun l => sx_iOk prog_14_method_188_code l) (sx_iB_s aJ_502_8) (sx_iB_s aJ_502_9)))))
def aW_502 : Nat → Option (Instr × Nat) := fun pc => sx_iF (aS_502 pc) pc
theorem aX_502 : ∀ pc i len, aW_502 pc = some (i, len) → decode aM_502.1.2.1 pc = .ok (i, len) := fun pc i len h => sx_iF_s (aT_502 pc) h
def aI_503_0 : sx_IL := [(0, .iconst 2, 1), (1, .iload_n 1, 1), (2, .imul, 1), (3, .istore 4, 2), (5, .aload_n 0, 1), (6, .getfield 1096, 3)]
theorem aJ_503_0 : sx_iB prog_14_method_196_code aI_503_0 = true := by decide +kernel
def aI_503_1 : sx_IL := [(9, .ifCond .eq 6, 3), (12, .bipush 110, 2), (14, .ireturn, 1), (15, .iload_n 3, 1), (16, .i2l, 1), (17, .lconst 1, 1)]
theorem aJ_503_1 : sx_iB prog_14_method_196_code aI_503_1 = true := by decide +kernel
def aI_503_2 : sx_IL := [(18, .ldc2_w 609, 3), (21, .invokestatic 513, 3), (24, .ifCond .eq 34, 3), (27, .aload_n 0, 1), (28, .iload_n 2, 1), (29, .iconst 0, 1)]
theorem aJ_503_2 : sx_iB prog_14_method_196_code aI_503_2 = true := by decide +kernel
def aI_503_3 : sx_IL := [(30, .iload_n 3, 1), (31, .invokevirtual 1114, 3), (34, .ifCond .eq 24, 3), (37, .aload_n 0, 1), (38, .getfield 456, 3), (41, .iload 4, 2)]
theorem aJ_503_3 : sx_iB prog_14_method_196_code aI_503_3 = true := by decide +kernel
def aI_503_4 : sx_IL := [(43, .iaload, 1), (44, .ifCond .le 17, 3), (47, .iload_n 3, 1), (48, .aload_n 0, 1), (49, .getfield 456, 3), (52, .iload 4, 2)]
theorem aJ_503_4 : sx_iB prog_14_method_196_code aI_503_4 = true := by decide +kernel
def aI_503_5 : sx_IL := [(54, .iaload, 1), (55, .if_icmp .eq 6, 3), (58, .bipush 47, 2), (60, .ireturn, 1), (61, .aload_n 0, 1), (62, .bipush 10, 2)]
theorem aJ_503_5 : sx_iB prog_14_method_196_code aI_503_5 = true := by decide +kernel
def aI_503_6 : sx_IL := [(64, .invokevirtual 1105, 3), (67, .ifCond .eq 50, 3), (70, .aload_n 0, 1), (71, .getfield 278, 3), (74, .aload_n 0, 1), (75, .getfield 489, 3)]
theorem aJ_503_6 : sx_iB prog_14_method_196_code aI_503_6 = true := by decide +kernel
def aI_503_7 : sx_IL := [(78, .bipush 10, 2), (80, .iaload, 1), (81, .iaload, 1), (82, .istore 5, 2), (84, .iload 5, 2), (86, .aload_n 0, 1)]
theorem aJ_503_7 : sx_iB prog_14_method_196_code aI_503_7 = true := by decide +kernel
def aI_503_8 : sx_IL := [(87, .getfield 420, 3), (90, .iload_n 1, 1), (91, .iaload, 1), (92, .if_icmp .ge 22, 3), (95, .aload_n 0, 1), (96, .getfield 432, 3)]
theorem aJ_503_8 : sx_iB prog_14_method_196_code aI_503_8 = true := by decide +kernel
def aI_503_9 : sx_IL := [(99, .bipush 6, 2), (101, .iload_n 1, 1), (102, .imul, 1), (103, .iload 5, 2), (105, .iadd, 1), (106, .iaload, 1)]
theorem aJ_503_9 : sx_iB prog_14_method_196_code aI_503_9 = true := by decide +kernel
def aI_503_10 : sx_IL := [(107, .iload_n 3, 1), (108, .invokestatic 602, 3), (111, .if_icmp .eq 6, 3), (114, .bipush 47, 2), (116, .ireturn, 1), (117, .aload_n 0, 1)]
theorem aJ_503_10 : sx_iB prog_14_method_196_code aI_503_10 = true := by decide +kernel
def aI_503_11 : sx_IL := [(118, .iconst 4, 1), (119, .invokevirtual 1105, 3), (122, .ifCond .ne 35, 3), (125, .aload_n 0, 1), (126, .bipush 10, 2), (128, .invokevirtual 1105, 3)]
theorem aJ_503_11 : sx_iB prog_14_method_196_code aI_503_11 = true := by decide +kernel
def aI_503_12 : sx_IL := [(131, .ifCond .ne 8, 3), (134, .bipush 109, 2), (136, .goto 20, 3), (139, .aload_n 0, 1), (140, .getfield 417, 3), (143, .iload_n 1, 1)]
theorem aJ_503_12 : sx_iB prog_14_method_196_code aI_503_12 = true := by decide +kernel
def aI_503_13 : sx_IL := [(144, .iaload, 1), (145, .iconst 1, 1), (146, .iand, 1), (147, .ifCond .ne 8, 3), (150, .bipush 47, 2), (152, .goto 4, 3)]
theorem aJ_503_13 : sx_iB prog_14_method_196_code aI_503_13 = true := by decide +kernel
def aI_503_14 : sx_IL := [(155, .iconst 0, 1), (156, .ireturn, 1), (157, .aload_n 0, 1), (158, .getfield 411, 3), (161, .iload_n 1, 1), (162, .iaload, 1)]
theorem aJ_503_14 : sx_iB prog_14_method_196_code aI_503_14 = true := by decide +kernel
def aI_503_15 : sx_IL := [(163, .ifCond .eq 16, 3), (166, .aload_n 0, 1), (167, .invokevirtual 1127, 3), (170, .aload_n 0, 1), (171, .getfield 411, 3), (174, .iload_n 1, 1)]
theorem aJ_503_15 : sx_iB prog_14_method_196_code aI_503_15 = true := by decide +kernel
def aI_503_16 : sx_IL := [(175, .iaload, 1), (176, .if_icmp .eq 6, 3), (179, .bipush 47, 2), (181, .ireturn, 1), (182, .aload_n 0, 1), (183, .aload_n 0, 1)]
theorem aJ_503_16 : sx_iB prog_14_method_196_code aI_503_16 = true := by decide +kernel
def aI_503_17 : sx_IL := [(184, .getfield 411, 3), (187, .iload_n 1, 1), (188, .iaload, 1), (189, .aload_n 0, 1), (190, .getfield 414, 3), (193, .iload_n 1, 1)]
theorem aJ_503_17 : sx_iB prog_14_method_196_code aI_503_17 = true := by decide +kernel
def aI_503_18 : sx_IL := [(194, .iaload, 1), (195, .aload_n 0, 1), (196, .invokevirtual 1130, 3), (199, .invokestatic 643, 3), (202, .putfield 1133, 3), (205, .aload_n 0, 1)]
theorem aJ_503_18 : sx_iB prog_14_method_196_code aI_503_18 = true := by decide +kernel
def aI_503_19 : sx_IL := [(206, .getfield 1133, 3), (209, .lconst 0, 1), (210, .lcmp, 1), (211, .ifCond .ne 8, 3), (214, .bipush 47, 2), (216, .goto 4, 3)]
theorem aJ_503_19 : sx_iB prog_14_method_196_code aI_503_19 = true := by decide +kernel
def aI_503_20 : sx_IL := [(219, .iconst 0, 1), (220, .ireturn, 1)]
theorem aJ_503_20 : sx_iB prog_14_method_196_code aI_503_20 = true := by decide +kernel
def aS_503 (pc : Nat) : sx_IL := (if pc < 107 then (if pc < 54 then (if pc < 18 then (if pc < 9 then aI_503_0 else aI_503_1) else (if pc < 30 then aI_503_2 else (if pc < 43 then aI_503_3 else aI_503_4))) else (if pc < 78 then (if pc < 64 then aI_503_5 else aI_503_6) else (if pc < 87 then aI_503_7 else (if pc < 99 then aI_503_8 else aI_503_9)))) else (if pc < 163 then (if pc < 131 then (if pc < 118 then aI_503_10 else aI_503_11) else (if pc < 144 then aI_503_12 else (if pc < 155 then aI_503_13 else aI_503_14))) else (if pc < 194 then (if pc < 175 then aI_503_15 else (if pc < 184 then aI_503_16 else aI_503_17)) else (if pc < 206 then aI_503_18 else (if pc < 219 then aI_503_19 else aI_503_20)))))
theorem aT_503 (pc : Nat) : sx_iOk prog_14_method_196_code (aS_503 pc) := (sx_ite (p := fun l => sx_iOk prog_14_method_196_code l) (sx_ite (p := fun l => sx_iOk prog_14_method_196_code l) (sx_ite (p := fun l => sx_iOk prog_14_method_196_code l) (sx_ite (p := fun l => sx_iOk prog_14_method_196_code l) (sx_iB_s aJ_503_0) (sx_iB_s aJ_503_1)) (sx_ite (p := fun l => sx_iOk prog_14_method_196_code l) (sx_iB_s aJ_503_2) (sx_ite (p := fun l => sx_iOk prog_14_method_196_code l) (sx_iB_s aJ_503_3) (sx_iB_s aJ_503_4)))) (sx_ite (p := fun l => sx_iOk prog_14_method_196_code l) (sx_ite (p := fun l => sx_iOk prog_14_method_196_code l) (sx_iB_s aJ_503_5) (sx_iB_s aJ_503_6)) (sx_ite (p := fun l => sx_iOk prog_14_method_196_code l) (sx_iB_s aJ_503_7) (sx_ite (p := fun l => sx_iOk prog_14_method_196_code l) (sx_iB_s aJ_503_8) (sx_iB_s aJ_503_9))))) (sx_ite (p := fun l => sx_iOk prog_14_method_196_code l) (sx_ite (p := fun l => sx_iOk prog_14_method_196_code l) (sx_ite (p := fun l => sx_iOk prog_14_method_196_code l) (sx_iB_s aJ_503_10) (sx_iB_s aJ_503_11)) (sx_ite (p := fun l => sx_iOk prog_14_method_196_code l) (sx_iB_s aJ_503_12) (sx_ite (p := fun l => sx_iOk prog_14_method_196_code l) (sx_iB_s aJ_503_13) (sx_iB_s aJ_503_14)))) (sx_ite (p := fun l => sx_iOk prog_14_method_196_code l) (sx_ite (p := fun l => sx_iOk prog_14_method_196_code l) (sx_iB_s aJ_503_15) (sx_ite (p := fun l => sx_iOk prog_14_method_196_code l) (sx_iB_s aJ_503_16) (sx_iB_s aJ_503_17))) (sx_ite (p := fun l => sx_iOk prog_14_method_196_code l) (sx_iB_s aJ_503_18) (sx_ite (p := fun l => sx_iOk prog_14_method_196_code l) (sx_iB_s aJ_503_19) (sx_iB_s aJ_503_20))))))
def aW_503 : Nat → Option (Instr × Nat) := fun pc => sx_iF (aS_503 pc) pc
theorem aX_503 : ∀ pc i len, aW_503 pc = some (i, len) → decode aM_503.1.2.1 pc = .ok (i, len) := fun pc i len h => sx_iF_s (aT_503 pc) h
def aI_504_0 : sx_IL := [(0, .iconst 0, 1), (1, .istore 4, 2), (3, .iconst 0, 1), (4, .istore 5, 2), (6, .iload 5, 2), (8, .aload_n 0, 1)]
theorem aJ_504_0 : sx_iB prog_14_method_118_code aI_504_0 = true := by decide +kernel
def aI_504_1 : sx_IL := [(9, .getfield 99, 3), (12, .iconst 3, 1), (13, .iload_n 1, 1), (14, .imul, 1), (15, .iload_n 2, 1), (16, .iadd, 1)]
theorem aJ_504_1 : sx_iB prog_14_method_118_code aI_504_1 = true := by decide +kernel
def aI_504_2 : sx_IL := [(17, .iaload, 1), (18, .if_icmp .ge 41, 3), (21, .iload 4, 2), (23, .ifCond .ne 23, 3), (26, .aload_n 0, 1), (27, .getfield 96, 3)]
theorem aJ_504_2 : sx_iB prog_14_method_118_code aI_504_2 = true := by decide +kernel
def aI_504_3 : sx_IL := [(30, .bipush 12, 2), (32, .iload_n 1, 1), (33, .imul, 1), (34, .iconst 4, 1), (35, .iload_n 2, 1), (36, .imul, 1)]
theorem aJ_504_3 : sx_iB prog_14_method_118_code aI_504_3 = true := by decide +kernel
def aI_504_4 : sx_IL := [(37, .iadd, 1), (38, .iload 5, 2), (40, .iadd, 1), (41, .iaload, 1), (42, .iload_n 3, 1), (43, .if_icmp .ne 7, 3)]
theorem aJ_504_4 : sx_iB prog_14_method_118_code aI_504_4 = true := by decide +kernel
def aI_504_5 : sx_IL := [(46, .iconst 1, 1), (47, .goto 4, 3), (50, .iconst 0, 1), (51, .istore 4, 2), (53, .iinc 5 1, 3), (56, .goto (-50), 3)]
theorem aJ_504_5 : sx_iB prog_14_method_118_code aI_504_5 = true := by decide +kernel
def aI_504_6 : sx_IL := [(59, .iload 4, 2), (61, .ireturn, 1)]
theorem aJ_504_6 : sx_iB prog_14_method_118_code aI_504_6 = true := by decide +kernel
def aS_504 (pc : Nat) : sx_IL := (if pc < 30 then (if pc < 9 then aI_504_0 else (if pc < 17 then aI_504_1 else aI_504_2)) else (if pc < 46 then (if pc < 37 then aI_504_3 else aI_504_4) else (if pc < 59 then aI_504_5 else aI_504_6)))
theorem aT_504 (pc : Nat) : sx_iOk prog_14_method_118_code (aS_504 pc) := (sx_ite (p := fun l => sx_iOk prog_14_method_118_code l) (sx_ite (p := fun l => sx_iOk prog_14_method_118_code l) (sx_iB_s aJ_504_0) (sx_ite (p := fun l => sx_iOk prog_14_method_118_code l) (sx_iB_s aJ_504_1) (sx_iB_s aJ_504_2))) (sx_ite (p := fun l => sx_iOk prog_14_method_118_code l) (sx_ite (p := fun l => sx_iOk prog_14_method_118_code l) (sx_iB_s aJ_504_3) (sx_iB_s aJ_504_4)) (sx_ite (p := fun l => sx_iOk prog_14_method_118_code l) (sx_iB_s aJ_504_5) (sx_iB_s aJ_504_6))))
def aW_504 : Nat → Option (Instr × Nat) := fun pc => sx_iF (aS_504 pc) pc
theorem aX_504 : ∀ pc i len, aW_504 pc = some (i, len) → decode aM_504.1.2.1 pc = .ok (i, len) := fun pc i len h => sx_iF_s (aT_504 pc) h
def aI_505_0 : sx_IL := [(0, .aload_n 0, 1), (1, .getfield 489, 3), (4, .iload_n 1, 1), (5, .iaload, 1), (6, .bipush (-4), 2), (8, .if_icmp .eq 7, 3)]
theorem aJ_505_0 : sx_iB prog_14_method_191_code aI_505_0 = true := by decide +kernel
def aI_505_1 : sx_IL := [(11, .iconst 1, 1), (12, .goto 4, 3), (15, .iconst 0, 1), (16, .ireturn, 1)]
theorem aJ_505_1 : sx_iB prog_14_method_191_code aI_505_1 = true := by decide +kernel
def aS_505 (pc : Nat) : sx_IL := (if pc < 11 then aI_505_0 else aI_505_1)
theorem aT_505 (pc : Nat) : sx_iOk prog_14_method_191_code (aS_505 pc) := (sx_ite (p := fun l => sx_iOk prog_14_method_191_code l) (sx_iB_s aJ_505_0) (sx_iB_s aJ_505_1))
def aW_505 : Nat → Option (Instr × Nat) := fun pc => sx_iF (aS_505 pc) pc
theorem aX_505 : ∀ pc i len, aW_505 pc = some (i, len) → decode aM_505.1.2.1 pc = .ok (i, len) := fun pc i len h => sx_iF_s (aT_505 pc) h
def aI_506_0 : sx_IL := [(0, .aload_n 0, 1), (1, .getfield 278, 3), (4, .aload_n 0, 1), (5, .getfield 489, 3), (8, .iconst 4, 1), (9, .iaload, 1)]
theorem aJ_506_0 : sx_iB prog_14_method_193_code aI_506_0 = true := by decide +kernel
def aI_506_1 : sx_IL := [(10, .iaload, 1), (11, .ireturn, 1)]
theorem aJ_506_1 : sx_iB prog_14_method_193_code aI_506_1 = true := by decide +kernel
def aS_506 (pc : Nat) : sx_IL := (if pc < 10 then aI_506_0 else aI_506_1)
theorem aT_506 (pc : Nat) : sx_iOk prog_14_method_193_code (aS_506 pc) := (sx_ite (p := fun l => sx_iOk prog_14_method_193_code l) (sx_iB_s aJ_506_0) (sx_iB_s aJ_506_1))
def aW_506 : Nat → Option (Instr × Nat) := fun pc => sx_iF (aS_506 pc) pc
theorem aX_506 : ∀ pc i len, aW_506 pc = some (i, len) → decode aM_506.1.2.1 pc = .ok (i, len) := fun pc i len h => sx_iF_s (aT_506 pc) h
def aI_507_0 : sx_IL := [(0, .aload_n 0, 1), (1, .getfield 278, 3), (4, .aload_n 0, 1), (5, .getfield 489, 3), (8, .iconst 4, 1), (9, .iaload, 1)]
theorem aJ_507_0 : sx_iB prog_14_method_194_code aI_507_0 = true := by decide +kernel
def aI_507_1 : sx_IL := [(10, .iconst 1, 1), (11, .iadd, 1), (12, .invokestatic 792, 3), (15, .ireturn, 1)]
theorem aJ_507_1 : sx_iB prog_14_method_194_code aI_507_1 = true := by decide +kernel
def aS_507 (pc : Nat) : sx_IL := (if pc < 10 then aI_507_0 else aI_507_1)
theorem aT_507 (pc : Nat) : sx_iOk prog_14_method_194_code (aS_507 pc) := (sx_ite (p := fun l => sx_iOk prog_14_method_194_code l) (sx_iB_s aJ_507_0) (sx_iB_s aJ_507_1))
def aW_507 : Nat → Option (Instr × Nat) := fun pc => sx_iF (aS_507 pc) pc
theorem aX_507 : ∀ pc i len, aW_507 pc = some (i, len) → decode aM_507.1.2.1 pc = .ok (i, len) := fun pc i len h => sx_iF_s (aT_507 pc) h
def aI_508_0 : sx_IL := [(0, .aload_n 0, 1), (1, .iload_n 1, 1), (2, .invokevirtual 1064, 3), (5, .istore 4, 2), (7, .iload_n 2, 1), (8, .iload_n 3, 1)]
theorem aJ_508_0 : sx_iB prog_14_method_211_code aI_508_0 = true := by decide +kernel
def aI_508_1 : sx_IL := [(9, .iadd, 1), (10, .istore 5, 2), (12, .iload_n 3, 1), (13, .ifCond .le 12, 3), (16, .aload_n 0, 1), (17, .getfield 278, 3)]
theorem aJ_508_1 : sx_iB prog_14_method_211_code aI_508_1 = true := by decide +kernel
def aI_508_2 : sx_IL := [(20, .iload_n 2, 1), (21, .iaload, 1), (22, .goto 4, 3), (25, .iconst 5, 1), (26, .istore 6, 2), (28, .iload_n 2, 1)]
theorem aJ_508_2 : sx_iB prog_14_method_211_code aI_508_2 = true := by decide +kernel
def aI_508_3 : sx_IL := [(29, .iconst 1, 1), (30, .iadd, 1), (31, .istore 7, 2), (33, .iconst 0, 1), (34, .istore 8, 2), (36, .iload 8, 2)]
theorem aJ_508_3 : sx_iB prog_14_method_211_code aI_508_3 = true := by decide +kernel
def aI_508_4 : sx_IL := [(38, .iload 6, 2), (40, .if_icmp .ge 79, 3), (43, .iload 6, 2), (45, .iconst 4, 1), (46, .if_icmp .gt 73, 3), (49, .iload 7, 2)]
theorem aJ_508_4 : sx_iB prog_14_method_211_code aI_508_4 = true := by decide +kernel
def aI_508_5 : sx_IL := [(51, .iconst 2, 1), (52, .iadd, 1), (53, .iload 5, 2), (55, .if_icmp .le 6, 3), (58, .bipush 50, 2), (60, .ireturn, 1)]
theorem aJ_508_5 : sx_iB prog_14_method_211_code aI_508_5 = true := by decide +kernel
def aI_508_6 : sx_IL := [(61, .aload_n 0, 1), (62, .getfield 498, 3), (65, .iload 8, 2), (67, .iload 7, 2), (69, .iconst 2, 1), (70, .iadd, 1)]
theorem aJ_508_6 : sx_iB prog_14_method_211_code aI_508_6 = true := by decide +kernel
def aI_508_7 : sx_IL := [(71, .iastore, 1), (72, .aload_n 0, 1), (73, .getfield 501, 3), (76, .iload 8, 2), (78, .aload_n 0, 1), (79, .getfield 278, 3)]
theorem aJ_508_7 : sx_iB prog_14_method_211_code aI_508_7 = true := by decide +kernel
def aI_508_8 : sx_IL := [(82, .iload 7, 2), (84, .iaload, 1), (85, .bipush 8, 2), (87, .ishl, 1), (88, .aload_n 0, 1), (89, .getfield 278, 3)]
theorem aJ_508_8 : sx_iB prog_14_method_211_code aI_508_8 = true := by decide +kernel
def aI_508_9 : sx_IL := [(92, .iload 7, 2), (94, .iconst 1, 1), (95, .iadd, 1), (96, .iaload, 1), (97, .ior, 1), (98, .iastore, 1)]
theorem aJ_508_9 : sx_iB prog_14_method_211_code aI_508_9 = true := by decide +kernel
def aI_508_10 : sx_IL := [(99, .iload 7, 2), (101, .iconst 2, 1), (102, .aload_n 0, 1), (103, .getfield 501, 3), (106, .iload 8, 2), (108, .iaload, 1)]
theorem aJ_508_10 : sx_iB prog_14_method_211_code aI_508_10 = true := by decide +kernel
def aI_508_11 : sx_IL := [(109, .iadd, 1), (110, .iadd, 1), (111, .istore 7, 2), (113, .iinc 8 1, 3), (116, .goto (-80), 3), (119, .iload 6, 2)]
theorem aJ_508_11 : sx_iB prog_14_method_211_code aI_508_11 = true := by decide +kernel
def aI_508_12 : sx_IL := [(121, .iconst 4, 1), (122, .if_icmp .gt 12, 3), (125, .iload 7, 2), (127, .iconst 2, 1), (128, .iadd, 1), (129, .iload 5, 2)]
theorem aJ_508_12 : sx_iB prog_14_method_211_code aI_508_12 = true := by decide +kernel
def aI_508_13 : sx_IL := [(131, .if_icmp .le 6, 3), (134, .bipush 50, 2), (136, .ireturn, 1), (137, .iload 7, 2), (139, .iconst 2, 1), (140, .iadd, 1)]
theorem aJ_508_13 : sx_iB prog_14_method_211_code aI_508_13 = true := by decide +kernel
def aI_508_14 : sx_IL := [(141, .istore 8, 2), (143, .aload_n 0, 1), (144, .getfield 278, 3), (147, .iload 7, 2), (149, .iaload, 1), (150, .bipush 8, 2)]
theorem aJ_508_14 : sx_iB prog_14_method_211_code aI_508_14 = true := by decide +kernel
def aI_508_15 : sx_IL := [(152, .ishl, 1), (153, .aload_n 0, 1), (154, .getfield 278, 3), (157, .iload 7, 2), (159, .iconst 1, 1), (160, .iadd, 1)]
theorem aJ_508_15 : sx_iB prog_14_method_211_code aI_508_15 = true := by decide +kernel
def aI_508_16 : sx_IL := [(161, .iaload, 1), (162, .ior, 1), (163, .istore 9, 2), (165, .iload 8, 2), (167, .iload 9, 2), (169, .iadd, 1)]
theorem aJ_508_16 : sx_iB prog_14_method_211_code aI_508_16 = true := by decide +kernel
def aI_508_17 : sx_IL := [(170, .iload 5, 2), (172, .if_icmp .eq 6, 3), (175, .bipush 50, 2), (177, .ireturn, 1), (178, .iload 4, 2), (180, .ifCond .eq 11, 3)]
theorem aJ_508_17 : sx_iB prog_14_method_211_code aI_508_17 = true := by decide +kernel
def aI_508_18 : sx_IL := [(183, .iload 6, 2), (185, .ifCond .ne 6, 3), (188, .bipush 50, 2), (190, .ireturn, 1), (191, .iconst 0, 1), (192, .istore 10, 2)]
theorem aJ_508_18 : sx_iB prog_14_method_211_code aI_508_18 = true := by decide +kernel
def aI_508_19 : sx_IL := [(194, .iload 10, 2), (196, .iload 6, 2), (198, .if_icmp .ge 69, 3), (201, .aload_n 0, 1), (202, .aload_n 0, 1), (203, .getfield 278, 3)]
theorem aJ_508_19 : sx_iB prog_14_method_211_code aI_508_19 = true := by decide +kernel
def aI_508_20 : sx_IL := [(206, .aload_n 0, 1), (207, .getfield 498, 3), (210, .iload 10, 2), (212, .iaload, 1), (213, .aload_n 0, 1), (214, .getfield 501, 3)]
theorem aJ_508_20 : sx_iB prog_14_method_211_code aI_508_20 = true := by decide +kernel
def aI_508_21 : sx_IL := [(217, .iload 10, 2), (219, .iaload, 1), (220, .invokevirtual 744, 3), (223, .bipush (-4), 2), (225, .if_icmp .ne 33, 3), (228, .aload_n 0, 1)]
theorem aJ_508_21 : sx_iB prog_14_method_211_code aI_508_21 = true := by decide +kernel
def aI_508_22 : sx_IL := [(229, .bipush 30, 2), (231, .iload 10, 2), (233, .iadd, 1), (234, .aload_n 0, 1), (235, .getfield 278, 3), (238, .aload_n 0, 1)]
theorem aJ_508_22 : sx_iB prog_14_method_211_code aI_508_22 = true := by decide +kernel
def aI_508_23 : sx_IL := [(239, .getfield 498, 3), (242, .iload 10, 2), (244, .iaload, 1), (245, .aload_n 0, 1), (246, .getfield 501, 3), (249, .iload 10, 2)]
theorem aJ_508_23 : sx_iB prog_14_method_211_code aI_508_23 = true := by decide +kernel
def aI_508_24 : sx_IL := [(251, .iaload, 1), (252, .invokevirtual 778, 3), (255, .ifCond .ne 6, 3), (258, .bipush 42, 2), (260, .ireturn, 1), (261, .iinc 10 1, 3)]
theorem aJ_508_24 : sx_iB prog_14_method_211_code aI_508_24 = true := by decide +kernel
def aI_508_25 : sx_IL := [(264, .goto (-70), 3), (267, .iload 4, 2), (269, .ifCond .ne 31, 3), (272, .iload 6, 2), (274, .ifCond .ne 26, 3), (277, .aload_n 0, 1)]
theorem aJ_508_25 : sx_iB prog_14_method_211_code aI_508_25 = true := by decide +kernel
def aI_508_26 : sx_IL := [(278, .getfield 102, 3), (281, .bipush 8, 2), (283, .aload_n 0, 1), (284, .getfield 261, 3), (287, .iload_n 1, 1), (288, .iaload, 1)]
theorem aJ_508_26 : sx_iB prog_14_method_211_code aI_508_26 = true := by decide +kernel
def aI_508_27 : sx_IL := [(289, .imul, 1), (290, .iconst 1, 1), (291, .iadd, 1), (292, .iaload, 1), (293, .iconst 2, 1), (294, .if_icmp .ne 6, 3)]
theorem aJ_508_27 : sx_iB prog_14_method_211_code aI_508_27 = true := by decide +kernel
def aI_508_28 : sx_IL := [(297, .bipush 116, 2), (299, .ireturn, 1), (300, .iload 4, 2), (302, .ifCond .ne 11, 3), (305, .iload 9, 2), (307, .ifCond .le 6, 3)]
theorem aJ_508_28 : sx_iB prog_14_method_211_code aI_508_28 = true := by decide +kernel
def aI_508_29 : sx_IL := [(310, .bipush 50, 2), (312, .ireturn, 1), (313, .iload 9, 2), (315, .ifCond .le 40, 3), (318, .aload_n 0, 1), (319, .aload_n 0, 1)]
theorem aJ_508_29 : sx_iB prog_14_method_211_code aI_508_29 = true := by decide +kernel
def aI_508_30 : sx_IL := [(320, .getfield 278, 3), (323, .iload 8, 2), (325, .iload 9, 2), (327, .invokevirtual 744, 3), (330, .bipush (-4), 2), (332, .if_icmp .ne 20, 3)]
theorem aJ_508_30 : sx_iB prog_14_method_211_code aI_508_30 = true := by decide +kernel
def aI_508_31 : sx_IL := [(335, .aload_n 0, 1), (336, .bipush 12, 2), (338, .aload_n 0, 1), (339, .getfield 278, 3), (342, .iload 8, 2), (344, .iload 9, 2)]
theorem aJ_508_31 : sx_iB prog_14_method_211_code aI_508_31 = true := by decide +kernel
def aI_508_32 : sx_IL := [(346, .invokevirtual 805, 3), (349, .ifCond .ne 6, 3), (352, .bipush 113, 2), (354, .ireturn, 1), (355, .aload_n 0, 1), (356, .iload 6, 2)]
theorem aJ_508_32 : sx_iB prog_14_method_211_code aI_508_32 = true := by decide +kernel
def aI_508_33 : sx_IL := [(358, .putfield 1156, 3), (361, .iload 6, 2), (363, .ifCond .ne 7, 3), (366, .iconst 0, 1), (367, .goto 22, 3), (370, .aload_n 0, 1)]
theorem aJ_508_33 : sx_iB prog_14_method_211_code aI_508_33 = true := by decide +kernel
def aI_508_34 : sx_IL := [(371, .iload_n 1, 1), (372, .iload 6, 2), (374, .iload 9, 2), (376, .ifCond .le 7, 3), (379, .iconst 1, 1), (380, .goto 4, 3)]
theorem aJ_508_34 : sx_iB prog_14_method_211_code aI_508_34 = true := by decide +kernel
def aI_508_35 : sx_IL := [(383, .iconst 0, 1), (384, .iload 4, 2), (386, .invokevirtual 1195, 3), (389, .ireturn, 1)]
theorem aJ_508_35 : sx_iB prog_14_method_211_code aI_508_35 = true := by decide +kernel
def aS_508 (pc : Nat) : sx_IL := (if pc < 183 then (if pc < 92 then (if pc < 38 then (if pc < 20 then (if pc < 9 then aI_508_0 else aI_508_1) else (if pc < 29 then aI_508_2 else aI_508_3)) else (if pc < 61 then (if pc < 51 then aI_508_4 else aI_508_5) else (if pc < 71 then aI_508_6 else (if pc < 82 then aI_508_7 else aI_508_8)))) else (if pc < 131 then (if pc < 109 then (if pc < 99 then aI_508_9 else aI_508_10) else (if pc < 121 then aI_508_11 else aI_508_12)) else (if pc < 152 then (if pc < 141 then aI_508_13 else aI_508_14) else (if pc < 161 then aI_508_15 else (if pc < 170 then aI_508_16 else aI_508_17))))) else (if pc < 289 then (if pc < 229 then (if pc < 206 then (if pc < 194 then aI_508_18 else aI_508_19) else (if pc < 217 then aI_508_20 else aI_508_21)) else (if pc < 251 then (if pc < 239 then aI_508_22 else aI_508_23) else (if pc < 264 then aI_508_24 else (if pc < 278 then aI_508_25 else aI_508_26)))) else (if pc < 335 then (if pc < 310 then (if pc < 297 then aI_508_27 else aI_508_28) else (if pc < 320 then aI_508_29 else aI_508_30)) else (if pc < 358 then (if pc < 346 then aI_508_31 else aI_508_32) else (if pc < 371 then aI_508_33 else (if pc < 383 then aI_508_34 else aI_508_35))))))
theorem aT_508 (pc : Nat) : sx_iOk prog_14_method_211_code (aS_508 pc) := (sx_ite (p := fun l => sx_iOk prog_14_method_211_code l) (sx_ite (p := fun l => sx_iOk prog_14_method_211_code l) (sx_ite (p := fun l => sx_iOk prog_14_method_211_code l) (sx_ite (p := fun l => sx_iOk prog_14_method_211_code l) (sx_ite (p := fun l => sx_iOk prog_14_method_211_code l) (sx_iB_s aJ_508_0) (sx_iB_s aJ_508_1)) (sx_ite (p := fun l => sx_iOk prog_14_method_211_code l) (sx_iB_s aJ_508_2) (sx_iB_s aJ_508_3))) (sx_ite (p := fun l => sx_iOk prog_14_method_211_code l) (sx_ite (p := fun l => sx_iOk prog_14_method_211_code l) (sx_iB_s aJ_508_4) (sx_iB_s aJ_508_5)) (sx_ite (p := fun l => sx_iOk prog_14_method_211_code l) (sx_iB_s aJ_508_6) (sx_ite (p := fun l => sx_iOk prog_14_method_211_code l) (sx_iB_s aJ_508_7) (sx_iB_s aJ_508_8))))) (sx_ite (p := fun l => sx_iOk prog_14_method_211_code l) (sx_ite (p := fun l => sx_iOk prog_14_method_211_code l) (sx_ite (p := fun l => sx_iOk prog_14_method_211_code l) (sx_iB_s aJ_508_9) (sx_iB_s aJ_508_10)) (sx_ite (p := fun l => sx_iOk prog_14_method_211_code l) (sx_iB_s aJ_508_11) (sx_iB_s aJ_508_12))) (sx_ite (p := fun l => sx_iOk prog_14_method_211_code l) (sx_ite (p := fun l => sx_iOk prog_14_method_211_code l) (sx_iB_s aJ_508_13) (sx_iB_s aJ_508_14)) (sx_ite (p := fun l => sx_iOk prog_14_method_211_code l) (sx_iB_s aJ_508_15) (sx_ite (p := fun l => sx_iOk prog_14_method_211_code l) (sx_iB_s aJ_508_16) (sx_iB_s aJ_508_17)))))) (sx_ite (p := fun l => sx_iOk prog_14_method_211_code l) (sx_ite (p := fun l => sx_iOk prog_14_method_211_code l) (sx_ite (p := fun l => sx_iOk prog_14_method_211_code l) (sx_ite (p := fun l => sx_iOk prog_14_method_211_code l) (sx_iB_s aJ_508_18) (sx_iB_s aJ_508_19)) (sx_ite (p := fun l => sx_iOk prog_14_method_211_code l) (sx_iB_s aJ_508_20) (sx_iB_s aJ_508_21))) (sx_ite (p := fun l => sx_iOk prog_14_method_211_code l) (sx_ite (p := fun l => sx_iOk prog_14_method_211_code l) (sx_iB_s aJ_508_22) (sx_iB_s aJ_508_23)) (sx_ite (p := fun l => sx_iOk prog_14_method_211_code l) (sx_iB_s aJ_508_24) (sx_ite (p := fun l => sx_iOk prog_14_method_211_code l) (sx_iB_s aJ_508_25) (sx_iB_s aJ_508_26))))) (sx_ite (p := fun l => sx_iOk prog_14_method_211_code l) (sx_ite (p := fun l => sx_iOk prog_14_method_211_code l) (sx_ite (p := fun l => sx_iOk prog_14_method_211_code l) (sx_iB_s aJ_508_27) (sx_iB_s aJ_508_28)) (sx_ite (p := fun l => sx_iOk prog_14_method_211_code l) (sx_iB_s aJ_508_29) (sx_iB_s aJ_508_30))) (sx_ite (p := fun l => sx_iOk prog_14_method_211_code l) (sx_ite (p := fun l => sx_iOk prog_14_method_211_code l) (sx_iB_s aJ_508_31) (sx_iB_s aJ_508_32)) (sx_ite (p := fun l => sx_iOk prog_14_method_211_code l) (sx_iB_s aJ_508_33) (sx_ite (p := fun l => sx_iOk prog_14_method_211_code l) (sx_iB_s aJ_508_34) (sx_iB_s aJ_508_35)))))))
def aW_508 : Nat → Option (Instr × Nat) := fun pc => sx_iF (aS_508 pc) pc
theorem aX_508 : ∀ pc i len, aW_508 pc = some (i, len) → decode aM_508.1.2.1 pc = .ok (i, len) := fun pc i len h => sx_iF_s (aT_508 pc) h
def aI_509_0 : sx_IL := [(0, .aload_n 0, 1), (1, .getfield 261, 3), (4, .iload_n 1, 1), (5, .iaload, 1), (6, .istore 5, 2), (8, .aload_n 0, 1)]
theorem aJ_509_0 : sx_iB prog_14_method_213_code aI_509_0 = true := by decide +kernel
def aI_509_1 : sx_IL := [(9, .iload_n 2, 1), (10, .putfield 881, 3), (13, .iconst 0, 1), (14, .istore 6, 2), (16, .iload 6, 2), (18, .iload_n 2, 1)]
theorem aJ_509_1 : sx_iB prog_14_method_213_code aI_509_1 = true := by decide +kernel
def aI_509_2 : sx_IL := [(19, .if_icmp .ge 21, 3), (22, .aload_n 0, 1), (23, .getfield 87, 3), (26, .iload 6, 2), (28, .bipush 30, 2), (30, .iload 6, 2)]
theorem aJ_509_2 : sx_iB prog_14_method_213_code aI_509_2 = true := by decide +kernel
def aI_509_3 : sx_IL := [(32, .iadd, 1), (33, .iastore, 1), (34, .iinc 6 1, 3), (37, .goto (-21), 3), (40, .aload_n 0, 1), (41, .iload 5, 2)]
theorem aJ_509_3 : sx_iB prog_14_method_213_code aI_509_3 = true := by decide +kernel
def aI_509_4 : sx_IL := [(43, .bipush 29, 2), (45, .iload_n 2, 1), (46, .iadd, 1), (47, .invokevirtual 901, 3), (50, .ifCond .ne 101, 3), (53, .bipush (-4), 2)]
theorem aJ_509_4 : sx_iB prog_14_method_213_code aI_509_4 = true := by decide +kernel
def aI_509_5 : sx_IL := [(55, .istore 6, 2), (57, .aload_n 0, 1), (58, .getfield 114, 3), (61, .iload 5, 2), (63, .iaload, 1), (64, .iconst 1, 1)]
theorem aJ_509_5 : sx_iB prog_14_method_213_code aI_509_5 = true := by decide +kernel
def aI_509_6 : sx_IL := [(65, .isub, 1), (66, .istore 7, 2), (68, .iload 7, 2), (70, .ifCond .lt 53, 3), (73, .aload_n 0, 1), (74, .bipush 29, 2)]
theorem aJ_509_6 : sx_iB prog_14_method_213_code aI_509_6 = true := by decide +kernel
def aI_509_7 : sx_IL := [(76, .iload_n 2, 1), (77, .iadd, 1), (78, .aload_n 0, 1), (79, .getfield 111, 3), (82, .bipush 30, 2), (84, .iload 5, 2)]
theorem aJ_509_7 : sx_iB prog_14_method_213_code aI_509_7 = true := by decide +kernel
def aI_509_8 : sx_IL := [(86, .imul, 1), (87, .iload 7, 2), (89, .iadd, 1), (90, .iaload, 1), (91, .invokevirtual 888, 3), (94, .ifCond .eq 19, 3)]
theorem aJ_509_8 : sx_iB prog_14_method_213_code aI_509_8 = true := by decide +kernel
def aI_509_9 : sx_IL := [(97, .aload_n 0, 1), (98, .getfield 111, 3), (101, .bipush 30, 2), (103, .iload 5, 2), (105, .imul, 1), (106, .iload 7, 2)]
theorem aJ_509_9 : sx_iB prog_14_method_213_code aI_509_9 = true := by decide +kernel
def aI_509_10 : sx_IL := [(108, .iadd, 1), (109, .iaload, 1), (110, .goto 5, 3), (113, .iload 6, 2), (115, .istore 6, 2), (117, .iinc 7 (-1), 3)]
theorem aJ_509_10 : sx_iB prog_14_method_213_code aI_509_10 = true := by decide +kernel
def aI_509_11 : sx_IL := [(120, .goto (-52), 3), (123, .iload 6, 2), (125, .bipush (-4), 2), (127, .if_icmp .ne 6, 3), (130, .bipush 48, 2), (132, .ireturn, 1)]
theorem aJ_509_11 : sx_iB prog_14_method_213_code aI_509_11 = true := by decide +kernel
def aI_509_12 : sx_IL := [(133, .aload_n 0, 1), (134, .getfield 87, 3), (137, .iload_n 2, 1), (138, .iload 6, 2), (140, .iastore, 1), (141, .aload_n 0, 1)]
theorem aJ_509_12 : sx_iB prog_14_method_213_code aI_509_12 = true := by decide +kernel
def aI_509_13 : sx_IL := [(142, .dup, 1), (143, .getfield 881, 3), (146, .iconst 1, 1), (147, .iadd, 1), (148, .putfield 881, 3), (151, .iconst 0, 1)]
theorem aJ_509_13 : sx_iB prog_14_method_213_code aI_509_13 = true := by decide +kernel
def aI_509_14 : sx_IL := [(152, .istore 6, 2), (154, .iload 6, 2), (156, .aload_n 0, 1), (157, .getfield 881, 3), (160, .if_icmp .ge 86, 3), (163, .iconst 0, 1)]
theorem aJ_509_14 : sx_iB prog_14_method_213_code aI_509_14 = true := by decide +kernel
def aI_509_15 : sx_IL := [(164, .istore 7, 2), (166, .iload 7, 2), (168, .iload 6, 2), (170, .if_icmp .ge 33, 3), (173, .aload_n 0, 1), (174, .aload_n 0, 1)]
theorem aJ_509_15 : sx_iB prog_14_method_213_code aI_509_15 = true := by decide +kernel
def aI_509_16 : sx_IL := [(175, .getfield 87, 3), (178, .iload 6, 2), (180, .iaload, 1), (181, .aload_n 0, 1), (182, .getfield 87, 3), (185, .iload 7, 2)]
theorem aJ_509_16 : sx_iB prog_14_method_213_code aI_509_16 = true := by decide +kernel
def aI_509_17 : sx_IL := [(187, .iaload, 1), (188, .invokevirtual 1199, 3), (191, .ifCond .eq 6, 3), (194, .bipush 42, 2), (196, .ireturn, 1), (197, .iinc 7 1, 3)]
theorem aJ_509_17 : sx_iB prog_14_method_213_code aI_509_17 = true := by decide +kernel
def aI_509_18 : sx_IL := [(200, .goto (-34), 3), (203, .iload 6, 2), (205, .aload_n 0, 1), (206, .getfield 881, 3), (209, .iconst 1, 1), (210, .isub, 1)]
theorem aJ_509_18 : sx_iB prog_14_method_213_code aI_509_18 = true := by decide +kernel
def aI_509_19 : sx_IL := [(211, .if_icmp .ge 29, 3), (214, .aload_n 0, 1), (215, .aload_n 0, 1), (216, .getfield 87, 3), (219, .iload 6, 2), (221, .iaload, 1)]
theorem aJ_509_19 : sx_iB prog_14_method_213_code aI_509_19 = true := by decide +kernel
def aI_509_20 : sx_IL := [(222, .aload_n 0, 1), (223, .getfield 87, 3), (226, .iload 6, 2), (228, .iconst 1, 1), (229, .iadd, 1), (230, .iaload, 1)]
theorem aJ_509_20 : sx_iB prog_14_method_213_code aI_509_20 = true := by decide +kernel
def aI_509_21 : sx_IL := [(231, .invokevirtual 888, 3), (234, .ifCond .ne 6, 3), (237, .bipush 42, 2), (239, .ireturn, 1), (240, .iinc 6 1, 3), (243, .goto (-89), 3)]
theorem aJ_509_21 : sx_iB prog_14_method_213_code aI_509_21 = true := by decide +kernel
def aI_509_22 : sx_IL := [(246, .aload_n 0, 1), (247, .iload_n 3, 1), (248, .putfield 855, 3), (251, .aload_n 0, 1), (252, .aload_n 0, 1), (253, .getfield 507, 3)]
theorem aJ_509_22 : sx_iB prog_14_method_213_code aI_509_22 = true := by decide +kernel
def aI_509_23 : sx_IL := [(256, .iload 4, 2), (258, .ifCond .eq 7, 3), (261, .iconst 1, 1), (262, .goto 4, 3), (265, .iconst 2, 1), (266, .aload_n 0, 1)]
theorem aJ_509_23 : sx_iB prog_14_method_213_code aI_509_23 = true := by decide +kernel
def aI_509_24 : sx_IL := [(267, .getfield 102, 3), (270, .bipush 8, 2), (272, .iload 5, 2), (274, .imul, 1), (275, .iaload, 1), (276, .iconst 1, 1)]
theorem aJ_509_24 : sx_iB prog_14_method_213_code aI_509_24 = true := by decide +kernel
def aI_509_25 : sx_IL := [(277, .if_icmp .ne 7, 3), (280, .iconst 1, 1), (281, .goto 4, 3), (284, .iconst 0, 1), (285, .invokevirtual 904, 3), (288, .bipush 100, 2)]
theorem aJ_509_25 : sx_iB prog_14_method_213_code aI_509_25 = true := by decide +kernel
def aI_509_26 : sx_IL := [(290, .irem, 1), (291, .istore 6, 2), (293, .aload_n 0, 1), (294, .iconst 0, 1), (295, .putfield 855, 3), (298, .iload 6, 2)]
theorem aJ_509_26 : sx_iB prog_14_method_213_code aI_509_26 = true := by decide +kernel
def aI_509_27 : sx_IL := [(300, .ifCond .eq 52, 3), (303, .iload 6, 2), (305, .iconst 1, 1), (306, .if_icmp .ne 8, 3), (309, .bipush 42, 2), (311, .goto 40, 3)]
theorem aJ_509_27 : sx_iB prog_14_method_213_code aI_509_27 = true := by decide +kernel
def aI_509_28 : sx_IL := [(314, .iload 6, 2), (316, .iconst 4, 1), (317, .if_icmp .ge 8, 3), (320, .bipush 45, 2), (322, .goto 29, 3), (325, .iload 6, 2)]
theorem aJ_509_28 : sx_iB prog_14_method_213_code aI_509_28 = true := by decide +kernel
def aI_509_29 : sx_IL := [(327, .bipush 8, 2), (329, .if_icmp .ge 8, 3), (332, .bipush 46, 2), (334, .goto 17, 3), (337, .iload 6, 2), (339, .bipush 8, 2)]
theorem aJ_509_29 : sx_iB prog_14_method_213_code aI_509_29 = true := by decide +kernel
def aI_509_30 : sx_IL := [(341, .if_icmp .ne 8, 3), (344, .bipush 44, 2), (346, .goto 5, 3), (349, .bipush 113, 2), (351, .ireturn, 1), (352, .iload 4, 2)]
theorem aJ_509_30 : sx_iB prog_14_method_213_code aI_509_30 = true := by decide +kernel
def aI_509_31 : sx_IL := [(354, .ifCond .eq 13, 3), (357, .aload_n 0, 1), (358, .getfield 129, 3), (361, .iload 5, 2), (363, .iaload, 1), (364, .ifCond .ne 5, 3)]
theorem aJ_509_31 : sx_iB prog_14_method_213_code aI_509_31 = true := by decide +kernel
def aI_509_32 : sx_IL := [(367, .iconst 0, 1), (368, .ireturn, 1), (369, .iconst 0, 1), (370, .istore 7, 2), (372, .iconst 0, 1), (373, .istore 8, 2)]
theorem aJ_509_32 : sx_iB prog_14_method_213_code aI_509_32 = true := by decide +kernel
def aI_509_33 : sx_IL := [(375, .iload 8, 2), (377, .aload_n 0, 1), (378, .getfield 60, 3), (381, .bipush 90, 2), (383, .iaload, 1), (384, .if_icmp .ge 56, 3)]
theorem aJ_509_33 : sx_iB prog_14_method_213_code aI_509_33 = true := by decide +kernel
def aI_509_34 : sx_IL := [(387, .iload 7, 2), (389, .ifCond .ne 38, 3), (392, .aload_n 0, 1), (393, .iload 5, 2), (395, .aload_n 0, 1), (396, .getfield 63, 3)]
theorem aJ_509_34 : sx_iB prog_14_method_213_code aI_509_34 = true := by decide +kernel
def aI_509_35 : sx_IL := [(399, .sipush 720, 3), (402, .iconst 2, 1), (403, .iload 8, 2), (405, .imul, 1), (406, .iadd, 1), (407, .iaload, 1)]
theorem aJ_509_35 : sx_iB prog_14_method_213_code aI_509_35 = true := by decide +kernel
def aI_509_36 : sx_IL := [(408, .aload_n 0, 1), (409, .getfield 63, 3), (412, .sipush 721, 3), (415, .iconst 2, 1), (416, .iload 8, 2), (418, .imul, 1)]
theorem aJ_509_36 : sx_iB prog_14_method_213_code aI_509_36 = true := by decide +kernel
def aI_509_37 : sx_IL := [(419, .iadd, 1), (420, .iaload, 1), (421, .invokevirtual 1202, 3), (424, .ifCond .eq 7, 3), (427, .iconst 1, 1), (428, .goto 4, 3)]
theorem aJ_509_37 : sx_iB prog_14_method_213_code aI_509_37 = true := by decide +kernel
def aI_509_38 : sx_IL := [(431, .iconst 0, 1), (432, .istore 7, 2), (434, .iinc 8 1, 3), (437, .goto (-62), 3), (440, .iload 7, 2), (442, .ifCond .eq 7, 3)]
theorem aJ_509_38 : sx_iB prog_14_method_213_code aI_509_38 = true := by decide +kernel
def aI_509_39 : sx_IL := [(445, .iconst 0, 1), (446, .goto 5, 3), (449, .bipush 42, 2), (451, .ireturn, 1)]
theorem aJ_509_39 : sx_iB prog_14_method_213_code aI_509_39 = true := by decide +kernel
def aS_509 (pc : Nat) : sx_IL := (if pc < 222 then (if pc < 108 then (if pc < 55 then (if pc < 19 then (if pc < 9 then aI_509_0 else aI_509_1) else (if pc < 32 then aI_509_2 else (if pc < 43 then aI_509_3 else aI_509_4))) else (if pc < 76 then (if pc < 65 then aI_509_5 else aI_509_6) else (if pc < 86 then aI_509_7 else (if pc < 97 then aI_509_8 else aI_509_9)))) else (if pc < 164 then (if pc < 133 then (if pc < 120 then aI_509_10 else aI_509_11) else (if pc < 142 then aI_509_12 else (if pc < 152 then aI_509_13 else aI_509_14))) else (if pc < 187 then (if pc < 175 then aI_509_15 else aI_509_16) else (if pc < 200 then aI_509_17 else (if pc < 211 then aI_509_18 else aI_509_19))))) else (if pc < 341 then (if pc < 277 then (if pc < 246 then (if pc < 231 then aI_509_20 else aI_509_21) else (if pc < 256 then aI_509_22 else (if pc < 267 then aI_509_23 else aI_509_24))) else (if pc < 300 then (if pc < 290 then aI_509_25 else aI_509_26) else (if pc < 314 then aI_509_27 else (if pc < 327 then aI_509_28 else aI_509_29)))) else (if pc < 399 then (if pc < 367 then (if pc < 354 then aI_509_30 else aI_509_31) else (if pc < 375 then aI_509_32 else (if pc < 387 then aI_509_33 else aI_509_34))) else (if pc < 419 then (if pc < 408 then aI_509_35 else aI_509_36) else (if pc < 431 then aI_509_37 else (if pc < 445 then aI_509_38 else aI_509_39))))))
theorem aT_509 (pc : Nat) : sx_iOk prog_14_method_213_code (aS_509 pc) := (sx_ite (p := fun l => sx_iOk prog_14_method_213_code l) (sx_ite (p := fun l => sx_iOk prog_14_method_213_code l) (sx_ite (p := fun l => sx_iOk prog_14_method_213_code l) (sx_ite (p := fun l => sx_iOk prog_14_method_213_code l) (sx_ite (p := fun l => sx_iOk prog_14_method_213_code l) (sx_iB_s aJ_509_0) (sx_iB_s aJ_509_1)) (sx_ite (p := fun l => sx_iOk prog_14_method_213_code l) (sx_iB_s aJ_509_2) (sx_ite (p := fun l => sx_iOk prog_14_method_213_code l) (sx_iB_s aJ_509_3) (sx_iB_s aJ_509_4)))) (sx_ite (p := fun l => sx_iOk prog_14_method_213_code l) (sx_ite (p := fun l => sx_iOk prog_14_method_213_code l) (sx_iB_s aJ_509_5) (sx_iB_s aJ_509_6)) (sx_ite (p := fun l => sx_iOk prog_14_method_213_code l) (sx_iB_s aJ_509_7) (sx_ite (p := fun l => sx_iOk prog_14_method_213_code l) (sx_iB_s aJ_509_8) (sx_iB_s aJ_509_9))))) (sx_ite (p := fun l => sx_iOk prog_14_method_213_code l) (sx_ite (p := fun l => sx_iOk prog_14_method_213_code l) (sx_ite (p := fun l => sx_iOk prog_14_method_213_code l) (sx_iB_s aJ_509_10) (sx_iB_s aJ_509_11)) (sx_ite (p := fun l => sx_iOk prog_14_method_213_code l) (sx_iB_s aJ_509_12) (sx_ite (p := fun l => sx_iOk prog_14_method_213_code l) (sx_iB_s aJ_509_13) (sx_iB_s aJ_509_14)))) (sx_ite (p := fun l => sx_iOk prog_14_method_213_code l) (sx_ite (p := fun l => sx_iOk prog_14_method_213_code l) (sx_iB_s aJ_509_15) (sx_iB_s aJ_509_16)) (sx_ite (p := fun l => sx_iOk prog_14_method_213_code l) (sx_iB_s aJ_509_17) (sx_ite (p := fun l => sx_iOk prog_14_method_213_code l) (sx_iB_s aJ_509_18) (sx_iB_s aJ_509_19)))))) (sx_ite (p := fun l => sx_iOk prog_14_method_213_code l) (sx_ite (p := fun l => sx_iOk prog_14_method_213_code l) (sx_ite (p := fun l => sx_iOk prog_14_method_213_code l) (sx_ite (p := fun l => sx_iOk prog_14_method_213_code l) (sx_iB_s aJ_509_20) (sx_iB_s aJ_509_21)) (sx_ite (p := fun l => sx_iOk prog_14_method_213_code l) (sx_iB_s aJ_509_22) (sx_ite (p := fun l => sx_iOk prog_14_method_213_code l) (sx_iB_s aJ_509_23) (sx_iB_s aJ_509_24)))) (sx_ite (p := fun l => sx_iOk prog_14_method_213_code l) (sx_ite (p := fun l => sx_iOk prog_14_method_213_code l) (sx_iB_s aJ_509_25) (sx_iB_s aJ_509_26)) (sx_ite (p := fun l => sx_iOk prog_14_method_213_code l) (sx_iB_s aJ_509_27) (sx_ite (p := fun l => sx_iOk prog_14_method_213_code l) (sx_iB_s aJ_509_28) (sx_iB_s aJ_509_29))))) (sx_ite (p := fun l => sx_iOk prog_14_method_213_code l) (sx_ite (p := fun l => sx_iOk prog_14_method_213_code l) (sx_ite (p := fun l => sx_iOk prog_14_method_213_code l) (sx_iB_s aJ_509_30) (sx_iB_s aJ_509_31)) (sx_ite (p := fun l => sx_iOk prog_14_method_213_code l) (sx_iB_s aJ_509_32) (sx_ite (p := fun l => sx_iOk prog_14_method_213_code l) (sx_iB_s aJ_509_33) (sx_iB_s aJ_509_34)))) (sx_ite (p := fun l => sx_iOk prog_14_method_213_code l) (sx_ite (p := fun l => sx_iOk prog_14_method_213_code l) (sx_iB_s aJ_509_35) (sx_iB_s aJ_509_36)) (sx_ite (p := fun l => sx_iOk prog_14_method_213_code l) (sx_iB_s aJ_509_37) (sx_ite (p := fun l => sx_iOk prog_14_method_213_code l) (sx_iB_s aJ_509_38) (sx_iB_s aJ_509_39)))))))
def aW_509 : Nat → Option (Instr × Nat) := fun pc => sx_iF (aS_509 pc) pc
theorem aX_509 : ∀ pc i len, aW_509 pc = some (i, len) → decode aM_509.1.2.1 pc = .ok (i, len) := fun pc i len h => sx_iF_s (aT_509 pc) h
def aI_510_0 : sx_IL := [(0, .aload_n 0, 1), (1, .getfield 39, 3), (4, .sipush 400, 3), (7, .iload_n 1, 1), (8, .imul, 1), (9, .aload_n 0, 1)]
theorem aJ_510_0 : sx_iB prog_14_method_212_code aI_510_0 = true := by decide +kernel
def aI_510_1 : sx_IL := [(10, .getfield 42, 3), (13, .iload_n 1, 1), (14, .iaload, 1), (15, .aload_n 0, 1), (16, .getfield 39, 3), (19, .sipush 400, 3)]
theorem aJ_510_1 : sx_iB prog_14_method_212_code aI_510_1 = true := by decide +kernel
def aI_510_2 : sx_IL := [(22, .iload_n 2, 1), (23, .imul, 1), (24, .aload_n 0, 1), (25, .getfield 42, 3), (28, .iload_n 2, 1), (29, .iaload, 1)]
theorem aJ_510_2 : sx_iB prog_14_method_212_code aI_510_2 = true := by decide +kernel
def aI_510_3 : sx_IL := [(30, .invokestatic 847, 3), (33, .ireturn, 1)]
theorem aJ_510_3 : sx_iB prog_14_method_212_code aI_510_3 = true := by decide +kernel
def aS_510 (pc : Nat) : sx_IL := (if pc < 22 then (if pc < 10 then aI_510_0 else aI_510_1) else (if pc < 30 then aI_510_2 else aI_510_3))
theorem aT_510 (pc : Nat) : sx_iOk prog_14_method_212_code (aS_510 pc) := (sx_ite (p := fun l => sx_iOk prog_14_method_212_code l) (sx_ite (p := fun l => sx_iOk prog_14_method_212_code l) (sx_iB_s aJ_510_0) (sx_iB_s aJ_510_1)) (sx_ite (p := fun l => sx_iOk prog_14_method_212_code l) (sx_iB_s aJ_510_2) (sx_iB_s aJ_510_3)))
def aW_510 : Nat → Option (Instr × Nat) := fun pc => sx_iF (aS_510 pc) pc
theorem aX_510 : ∀ pc i len, aW_510 pc = some (i, len) → decode aM_510.1.2.1 pc = .ok (i, len) := fun pc i len h => sx_iF_s (aT_510 pc) h
def aI_511_0 : sx_IL := [(0, .aload_n 0, 1), (1, .getfield 129, 3), (4, .iload_n 1, 1), (5, .iaload, 1), (6, .istore 4, 2), (8, .aload_n 0, 1)]
theorem aJ_511_0 : sx_iB prog_14_method_214_code aI_511_0 = true := by decide +kernel
def aI_511_1 : sx_IL := [(9, .getfield 39, 3), (12, .iload_n 2, 1), (13, .iaload, 1), (14, .bipush 42, 2), (16, .if_icmp .eq 23, 3), (19, .aload_n 0, 1)]
theorem aJ_511_1 : sx_iB prog_14_method_214_code aI_511_1 = true := by decide +kernel
def aI_511_2 : sx_IL := [(20, .getfield 126, 3), (23, .bipush 40, 2), (25, .iload_n 1, 1), (26, .imul, 1), (27, .iload 4, 2), (29, .aload_n 0, 1)]
theorem aJ_511_2 : sx_iB prog_14_method_214_code aI_511_2 = true := by decide +kernel
def aI_511_3 : sx_IL := [(30, .getfield 39, 3), (33, .iload_n 2, 1), (34, .iload_n 3, 1), (35, .invokestatic 847, 3), (38, .ireturn, 1), (39, .iconst 0, 1)]
theorem aJ_511_3 : sx_iB prog_14_method_214_code aI_511_3 = true := by decide +kernel
def aI_511_4 : sx_IL := [(40, .istore 5, 2), (42, .iload 5, 2), (44, .iload 4, 2), (46, .if_icmp .ge 26, 3), (49, .aload_n 0, 1), (50, .getfield 126, 3)]
theorem aJ_511_4 : sx_iB prog_14_method_214_code aI_511_4 = true := by decide +kernel
def aI_511_5 : sx_IL := [(53, .bipush 40, 2), (55, .iload_n 1, 1), (56, .imul, 1), (57, .iload 5, 2), (59, .iadd, 1), (60, .iaload, 1)]
theorem aJ_511_5 : sx_iB prog_14_method_214_code aI_511_5 = true := by decide +kernel
def aI_511_6 : sx_IL := [(61, .bipush 46, 2), (63, .if_icmp .eq 9, 3), (66, .iinc 5 1, 3), (69, .goto (-27), 3), (72, .iload 5, 2), (74, .iload 4, 2)]
theorem aJ_511_6 : sx_iB prog_14_method_214_code aI_511_6 = true := by decide +kernel
def aI_511_7 : sx_IL := [(76, .if_icmp .ge 43, 3), (79, .aload_n 0, 1), (80, .getfield 126, 3), (83, .bipush 40, 2), (85, .iload_n 1, 1), (86, .imul, 1)]
theorem aJ_511_7 : sx_iB prog_14_method_214_code aI_511_7 = true := by decide +kernel
def aI_511_8 : sx_IL := [(87, .iload 5, 2), (89, .iadd, 1), (90, .iconst 1, 1), (91, .iadd, 1), (92, .iload 4, 2), (94, .iload 5, 2)]
theorem aJ_511_8 : sx_iB prog_14_method_214_code aI_511_8 = true := by decide +kernel
def aI_511_9 : sx_IL := [(96, .isub, 1), (97, .iconst 1, 1), (98, .isub, 1), (99, .aload_n 0, 1), (100, .getfield 39, 3), (103, .iload_n 2, 1)]
theorem aJ_511_9 : sx_iB prog_14_method_214_code aI_511_9 = true := by decide +kernel
def aI_511_10 : sx_IL := [(104, .iconst 2, 1), (105, .iadd, 1), (106, .iload_n 3, 1), (107, .iconst 2, 1), (108, .isub, 1), (109, .invokestatic 847, 3)]
theorem aJ_511_10 : sx_iB prog_14_method_214_code aI_511_10 = true := by decide +kernel
def aI_511_11 : sx_IL := [(112, .ifCond .eq 7, 3), (115, .iconst 1, 1), (116, .goto 4, 3), (119, .iconst 0, 1), (120, .ireturn, 1)]
theorem aJ_511_11 : sx_iB prog_14_method_214_code aI_511_11 = true := by decide +kernel
def aS_511 (pc : Nat) : sx_IL := (if pc < 61 then (if pc < 30 then (if pc < 9 then aI_511_0 else (if pc < 20 then aI_511_1 else aI_511_2)) else (if pc < 40 then aI_511_3 else (if pc < 53 then aI_511_4 else aI_511_5))) else (if pc < 96 then (if pc < 76 then aI_511_6 else (if pc < 87 then aI_511_7 else aI_511_8)) else (if pc < 104 then aI_511_9 else (if pc < 112 then aI_511_10 else aI_511_11))))
theorem aT_511 (pc : Nat) : sx_iOk prog_14_method_214_code (aS_511 pc) := (sx_ite (p := fun l => sx_iOk prog_14_method_214_code l) (sx_ite (p := fun l => sx_iOk prog_14_method_214_code l) (sx_ite (p := fun l => sx_iOk prog_14_method_214_code l) (sx_iB_s aJ_511_0) (sx_ite (p := fun l => sx_iOk prog_14_method_214_code l) (sx_iB_s aJ_511_1) (sx_iB_s aJ_511_2))) (sx_ite (p := fun l => sx_iOk prog_14_method_214_code l) (sx_iB_s aJ_511_3) (sx_ite (p := fun l => sx_iOk prog_14_method_214_code l) (sx_iB_s aJ_511_4) (sx_iB_s aJ_511_5)))) (sx_ite (p := fun l => sx_iOk prog_14_method_214_code l) (sx_ite (p := fun l => sx_iOk prog_14_method_214_code l) (sx_iB_s aJ_511_6) (sx_ite (p := fun l => sx_iOk prog_14_method_214_code l) (sx_iB_s aJ_511_7) (sx_iB_s aJ_511_8))) (sx_ite (p := fun l => sx_iOk prog_14_method_214_code l) (sx_iB_s aJ_511_9) (sx_ite (p := fun l => sx_iOk prog_14_method_214_code l) (sx_iB_s aJ_511_10) (sx_iB_s aJ_511_11)))))
def aW_511 : Nat → Option (Instr × Nat) := fun pc => sx_iF (aS_511 pc) pc
theorem aX_511 : ∀ pc i len, aW_511 pc = some (i, len) → decode aM_511.1.2.1 pc = .ok (i, len) := fun pc i len h => sx_iF_s (aT_511 pc) h
def aI_512_0 : sx_IL := [(0, .iload_n 3, 1), (1, .bipush 9, 2), (3, .if_icmp .eq 6, 3), (6, .bipush 50, 2), (8, .ireturn, 1), (9, .aload_n 0, 1)]
theorem aJ_512_0 : sx_iB prog_14_method_197_code aI_512_0 = true := by decide +kernel
def aI_512_1 : sx_IL := [(10, .getfield 261, 3), (13, .iload_n 1, 1), (14, .iaload, 1), (15, .istore 4, 2), (17, .aload_n 0, 1), (18, .getfield 278, 3)]
theorem aJ_512_1 : sx_iB prog_14_method_197_code aI_512_1 = true := by decide +kernel
def aI_512_2 : sx_IL := [(21, .iload_n 2, 1), (22, .iaload, 1), (23, .istore 5, 2), (25, .iload 5, 2), (27, .i2l, 1), (28, .lconst 1, 1)]
theorem aJ_512_2 : sx_iB prog_14_method_197_code aI_512_2 = true := by decide +kernel
def aI_512_3 : sx_IL := [(29, .ldc2_w 631, 3), (32, .invokestatic 513, 3), (35, .ifCond .eq 15, 3), (38, .aload_n 0, 1), (39, .iload 4, 2), (41, .iconst 2, 1)]
theorem aJ_512_3 : sx_iB prog_14_method_197_code aI_512_3 = true := by decide +kernel
def aI_512_4 : sx_IL := [(42, .iload 5, 2), (44, .invokevirtual 1114, 3), (47, .ifCond .ne 6, 3), (50, .bipush 47, 2), (52, .ireturn, 1), (53, .aload_n 0, 1)]
theorem aJ_512_4 : sx_iB prog_14_method_197_code aI_512_4 = true := by decide +kernel
def aI_512_5 : sx_IL := [(54, .iload_n 1, 1), (55, .aload_n 0, 1), (56, .iload_n 1, 1), (57, .invokevirtual 1064, 3), (60, .ifCond .ne 7, 3), (63, .iconst 1, 1)]
theorem aJ_512_5 : sx_iB prog_14_method_197_code aI_512_5 = true := by decide +kernel
def aI_512_6 : sx_IL := [(64, .goto 4, 3), (67, .iconst 0, 1), (68, .invokevirtual 1136, 3), (71, .aload_n 0, 1), (72, .iload 5, 2), (74, .aload_n 0, 1)]
theorem aJ_512_6 : sx_iB prog_14_method_197_code aI_512_6 = true := by decide +kernel
def aI_512_7 : sx_IL := [(75, .getfield 381, 3), (78, .iload_n 1, 1), (79, .iaload, 1), (80, .aload_n 0, 1), (81, .getfield 278, 3), (84, .iload_n 2, 1)]
theorem aJ_512_7 : sx_iB prog_14_method_197_code aI_512_7 = true := by decide +kernel
def aI_512_8 : sx_IL := [(85, .iconst 1, 1), (86, .iadd, 1), (87, .invokestatic 851, 3), (90, .aload_n 0, 1), (91, .getfield 495, 3), (94, .iconst 0, 1)]
theorem aJ_512_8 : sx_iB prog_14_method_197_code aI_512_8 = true := by decide +kernel
def aI_512_9 : sx_IL := [(95, .bipush 9, 2), (97, .invokevirtual 679, 3), (100, .ifCond .eq 7, 3), (103, .iconst 0, 1), (104, .goto 5, 3), (107, .bipush 51, 2)]
theorem aJ_512_9 : sx_iB prog_14_method_197_code aI_512_9 = true := by decide +kernel
def aI_512_10 : sx_IL := [(109, .ireturn, 1)]
theorem aJ_512_10 : sx_iB prog_14_method_197_code aI_512_10 = true := by decide +kernel
def aS_512 (pc : Nat) : sx_IL := (if pc < 54 then (if pc < 21 then (if pc < 10 then aI_512_0 else aI_512_1) else (if pc < 29 then aI_512_2 else (if pc < 42 then aI_512_3 else aI_512_4))) else (if pc < 85 then (if pc < 64 then aI_512_5 else (if pc < 75 then aI_512_6 else aI_512_7)) else (if pc < 95 then aI_512_8 else (if pc < 109 then aI_512_9 else aI_512_10))))
theorem aT_512 (pc : Nat) : sx_iOk prog_14_method_197_code (aS_512 pc) := (sx_ite (p := fun l => sx_iOk prog_14_method_197_code l) (sx_ite (p := fun l => sx_iOk prog_14_method_197_code l) (sx_ite (p := fun l => sx_iOk prog_14_method_197_code l) (sx_iB_s aJ_512_0) (sx_iB_s aJ_512_1)) (sx_ite (p := fun l => sx_iOk prog_14_method_197_code l) (sx_iB_s aJ_512_2) (sx_ite (p := fun l => sx_iOk prog_14_method_197_code l) (sx_iB_s aJ_512_3) (sx_iB_s aJ_512_4)))) (sx_ite (p := fun l => sx_iOk prog_14_method_197_code l) (sx_ite (p := fun l => sx_iOk prog_14_method_197_code l) (sx_iB_s aJ_512_5) (sx_ite (p := fun l => sx_iOk prog_14_method_197_code l) (sx_iB_s aJ_512_6) (sx_iB_s aJ_512_7))) (sx_ite (p := fun l => sx_iOk prog_14_method_197_code l) (sx_iB_s aJ_512_8) (sx_ite (p := fun l => sx_iOk prog_14_method_197_code l) (sx_iB_s aJ_512_9) (sx_iB_s aJ_512_10)))))
def aW_512 : Nat → Option (Instr × Nat) := fun pc => sx_iF (aS_512 pc) pc
theorem aX_512 : ∀ pc i len, aW_512 pc = some (i, len) → decode aM_512.1.2.1 pc = .ok (i, len) := fun pc i len h => sx_iF_s (aT_512 pc) h
def aI_513_0 : sx_IL := [(0, .aload_n 0, 1), (1, .iload_n 1, 1), (2, .aload_n 0, 1), (3, .iload_n 1, 1), (4, .invokevirtual 998, 3), (7, .invokevirtual 973, 3)]
theorem aJ_513_0 : sx_iB prog_14_method_198_code aI_513_0 = true := by decide +kernel
def aI_513_1 : sx_IL := [(10, .lstore_n 3, 1), (11, .aload_n 0, 1), (12, .getfield 495, 3), (15, .iconst 0, 1), (16, .iload_n 2, 1), (17, .ifCond .eq 8, 3)]
theorem aJ_513_1 : sx_iB prog_14_method_198_code aI_513_1 = true := by decide +kernel
def aI_513_2 : sx_IL := [(20, .bipush 67, 2), (22, .goto 5, 3), (25, .bipush 83, 2), (27, .iastore, 1), (28, .iconst 0, 1), (29, .istore 5, 2)]
theorem aJ_513_2 : sx_iB prog_14_method_198_code aI_513_2 = true := by decide +kernel
def aI_513_3 : sx_IL := [(31, .iload 5, 2), (33, .bipush 8, 2), (35, .if_icmp .ge 24, 3), (38, .aload_n 0, 1), (39, .getfield 495, 3), (42, .iconst 1, 1)]
theorem aJ_513_3 : sx_iB prog_14_method_198_code aI_513_3 = true := by decide +kernel
def aI_513_4 : sx_IL := [(43, .iload 5, 2), (45, .iadd, 1), (46, .lload_n 3, 1), (47, .iload 5, 2), (49, .invokestatic 622, 3), (52, .iastore, 1)]
theorem aJ_513_4 : sx_iB prog_14_method_198_code aI_513_4 = true := by decide +kernel
def aI_513_5 : sx_IL := [(53, .iinc 5 1, 3), (56, .goto (-25), 3), (59, .return_, 1)]
theorem aJ_513_5 : sx_iB prog_14_method_198_code aI_513_5 = true := by decide +kernel
def aS_513 (pc : Nat) : sx_IL := (if pc < 31 then (if pc < 10 then aI_513_0 else (if pc < 20 then aI_513_1 else aI_513_2)) else (if pc < 43 then aI_513_3 else (if pc < 53 then aI_513_4 else aI_513_5)))
theorem aT_513 (pc : Nat) : sx_iOk prog_14_method_198_code (aS_513 pc) := (sx_ite (p := fun l => sx_iOk prog_14_method_198_code l) (sx_ite (p := fun l => sx_iOk prog_14_method_198_code l) (sx_iB_s aJ_513_0) (sx_ite (p := fun l => sx_iOk prog_14_method_198_code l) (sx_iB_s aJ_513_1) (sx_iB_s aJ_513_2))) (sx_ite (p := fun l => sx_iOk prog_14_method_198_code l) (sx_iB_s aJ_513_3) (sx_ite (p := fun l => sx_iOk prog_14_method_198_code l) (sx_iB_s aJ_513_4) (sx_iB_s aJ_513_5))))
def aW_513 : Nat → Option (Instr × Nat) := fun pc => sx_iF (aS_513 pc) pc
theorem aX_513 : ∀ pc i len, aW_513 pc = some (i, len) → decode aM_513.1.2.1 pc = .ok (i, len) := fun pc i len h => sx_iF_s (aT_513 pc) h
def aI_514_0 : sx_IL := [(0, .aload_n 0, 1), (1, .getfield 330, 3), (4, .iload_n 1, 1), (5, .iaload, 1), (6, .invokestatic 602, 3), (9, .ireturn, 1)]
theorem aJ_514_0 : sx_iB prog_14_method_153_code aI_514_0 = true := by decide +kernel
def aS_514 (pc : Nat) : sx_IL := aI_514_0
theorem aT_514 (pc : Nat) : sx_iOk prog_14_method_153_code (aS_514 pc) := (sx_iB_s aJ_514_0)
def aW_514 : Nat → Option (Instr × Nat) := fun pc => sx_iF (aS_514 pc) pc
theorem aX_514 : ∀ pc i len, aW_514 pc = some (i, len) → decode aM_514.1.2.1 pc = .ok (i, len) := fun pc i len h => sx_iF_s (aT_514 pc) h
def aI_515_0 : sx_IL := [(0, .aload_n 0, 1), (1, .iload_n 1, 1), (2, .invokevirtual 998, 3), (5, .istore_n 3, 1), (6, .aload_n 0, 1), (7, .iload_n 1, 1)]
theorem aJ_515_0 : sx_iB prog_14_method_168_code aI_515_0 = true := by decide +kernel
def aI_515_1 : sx_IL := [(8, .iload_n 3, 1), (9, .invokevirtual 973, 3), (12, .lstore 4, 2), (14, .aload_n 0, 1), (15, .iload_n 3, 1), (16, .aload_n 0, 1)]
theorem aJ_515_1 : sx_iB prog_14_method_168_code aI_515_1 = true := by decide +kernel
def aI_515_2 : sx_IL := [(17, .iload_n 3, 1), (18, .iload_n 2, 1), (19, .ifCond .eq 12, 3), (22, .aload_n 0, 1), (23, .getfield 372, 3), (26, .iload_n 1, 1)]
theorem aJ_515_2 : sx_iB prog_14_method_168_code aI_515_2 = true := by decide +kernel
def aI_515_3 : sx_IL := [(27, .laload, 1), (28, .goto 9, 3), (31, .aload_n 0, 1), (32, .getfield 375, 3), (35, .iload_n 1, 1), (36, .laload, 1)]
theorem aJ_515_3 : sx_iB prog_14_method_168_code aI_515_3 = true := by decide +kernel
def aI_515_4 : sx_IL := [(37, .bipush 102, 2), (39, .lconst 0, 1), (40, .invokevirtual 598, 3), (43, .lload 4, 2), (45, .invokevirtual 994, 3), (48, .lreturn, 1)]
theorem aJ_515_4 : sx_iB prog_14_method_168_code aI_515_4 = true := by decide +kernel
def aS_515 (pc : Nat) : sx_IL := (if pc < 17 then (if pc < 8 then aI_515_0 else aI_515_1) else (if pc < 27 then aI_515_2 else (if pc < 37 then aI_515_3 else aI_515_4)))
theorem aT_515 (pc : Nat) : sx_iOk prog_14_method_168_code (aS_515 pc) := (sx_ite (p := fun l => sx_iOk prog_14_method_168_code l) (sx_ite (p := fun l => sx_iOk prog_14_method_168_code l) (sx_iB_s aJ_515_0) (sx_iB_s aJ_515_1)) (sx_ite (p := fun l => sx_iOk prog_14_method_168_code l) (sx_iB_s aJ_515_2) (sx_ite (p := fun l => sx_iOk prog_14_method_168_code l) (sx_iB_s aJ_515_3) (sx_iB_s aJ_515_4))))
def aW_515 : Nat → Option (Instr × Nat) := fun pc => sx_iF (aS_515 pc) pc
theorem aX_515 : ∀ pc i len, aW_515 pc = some (i, len) → decode aM_515.1.2.1 pc = .ok (i, len) := fun pc i len h => sx_iF_s (aT_515 pc) h
def aI_516_0 : sx_IL := [(0, .iload_n 2, 1), (1, .lookupswitch 127 #[(1, 51), (5, 60), (11, 72), (15, 81), (20, 90)], 51), (52, .aload_n 0, 1), (53, .iload_n 1, 1), (54, .iload_n 3, 1), (55, .iload 4, 2)]
theorem aJ_516_0 : sx_iB prog_14_method_219_code aI_516_0 = true := by decide +kernel
def aI_516_1 : sx_IL := [(57, .invokevirtual 1223, 3), (60, .ireturn, 1), (61, .iload 4, 2), (63, .ifCond .ne 7, 3), (66, .iconst 0, 1), (67, .goto 5, 3)]
theorem aJ_516_1 : sx_iB prog_14_method_219_code aI_516_1 = true := by decide +kernel
def aI_516_2 : sx_IL := [(70, .bipush 50, 2), (72, .ireturn, 1), (73, .aload_n 0, 1), (74, .iload_n 1, 1), (75, .iload_n 3, 1), (76, .iload 4, 2)]
theorem aJ_516_2 : sx_iB prog_14_method_219_code aI_516_2 = true := by decide +kernel
def aI_516_3 : sx_IL := [(78, .invokevirtual 1117, 3), (81, .ireturn, 1), (82, .aload_n 0, 1), (83, .iload_n 1, 1), (84, .iload_n 3, 1), (85, .iload 4, 2)]
theorem aJ_516_3 : sx_iB prog_14_method_219_code aI_516_3 = true := by decide +kernel
def aI_516_4 : sx_IL := [(87, .invokevirtual 1120, 3), (90, .ireturn, 1), (91, .iload 4, 2), (93, .bipush 8, 2), (95, .if_icmp .eq 8, 3), (98, .bipush 50, 2)]
theorem aJ_516_4 : sx_iB prog_14_method_219_code aI_516_4 = true := by decide +kernel
def aI_516_5 : sx_IL := [(100, .goto 27, 3), (103, .aload_n 0, 1), (104, .getfield 278, 3), (107, .iload_n 3, 1), (108, .invokestatic 851, 3), (111, .aload_n 0, 1)]
theorem aJ_516_5 : sx_iB prog_14_method_219_code aI_516_5 = true := by decide +kernel
def aI_516_6 : sx_IL := [(112, .iload_n 1, 1), (113, .iconst 1, 1), (114, .invokevirtual 1123, 3), (117, .lcmp, 1), (118, .ifCond .ne 7, 3), (121, .iconst 0, 1)]
theorem aJ_516_6 : sx_iB prog_14_method_219_code aI_516_6 = true := by decide +kernel
def aI_516_7 : sx_IL := [(122, .goto 5, 3), (125, .bipush 51, 2), (127, .ireturn, 1), (128, .iload 4, 2), (130, .iconst 1, 1), (131, .if_icmp .eq 8, 3)]
theorem aJ_516_7 : sx_iB prog_14_method_219_code aI_516_7 = true := by decide +kernel
def aI_516_8 : sx_IL := [(134, .bipush 50, 2), (136, .goto 19, 3), (139, .aload_n 0, 1), (140, .getfield 278, 3), (143, .iload_n 3, 1), (144, .iaload, 1)]
theorem aJ_516_8 : sx_iB prog_14_method_219_code aI_516_8 = true := by decide +kernel
def aI_516_9 : sx_IL := [(145, .iconst 1, 1), (146, .if_icmp .le 8, 3), (149, .bipush 47, 2), (151, .goto 4, 3), (154, .iconst 0, 1), (155, .ireturn, 1)]
theorem aJ_516_9 : sx_iB prog_14_method_219_code aI_516_9 = true := by decide +kernel
def aS_516 (pc : Nat) : sx_IL := (if pc < 100 then (if pc < 70 then (if pc < 57 then aI_516_0 else aI_516_1) else (if pc < 78 then aI_516_2 else (if pc < 87 then aI_516_3 else aI_516_4))) else (if pc < 122 then (if pc < 112 then aI_516_5 else aI_516_6) else (if pc < 134 then aI_516_7 else (if pc < 145 then aI_516_8 else aI_516_9))))
theorem aT_516 (pc : Nat) : sx_iOk prog_14_method_219_code (aS_516 pc) := (sx_ite (p := fun l => sx_iOk prog_14_method_219_code l) (sx_ite (p := fun l => sx_iOk prog_14_method_219_code l) (sx_ite (p := fun l => sx_iOk prog_14_method_219_code l) (sx_iB_s aJ_516_0) (sx_iB_s aJ_516_1)) (sx_ite (p := fun l => sx_iOk prog_14_method_219_code l) (sx_iB_s aJ_516_2) (sx_ite (p := fun l => sx_iOk prog_14_method_219_code l) (sx_iB_s aJ_516_3) (sx_iB_s aJ_516_4)))) (sx_ite (p := fun l => sx_iOk prog_14_method_219_code l) (sx_ite (p := fun l => sx_iOk prog_14_method_219_code l) (sx_iB_s aJ_516_5) (sx_iB_s aJ_516_6)) (sx_ite (p := fun l => sx_iOk prog_14_method_219_code l) (sx_iB_s aJ_516_7) (sx_ite (p := fun l => sx_iOk prog_14_method_219_code l) (sx_iB_s aJ_516_8) (sx_iB_s aJ_516_9)))))
def aW_516 : Nat → Option (Instr × Nat) := fun pc => sx_iF (aS_516 pc) pc
theorem aX_516 : ∀ pc i len, aW_516 pc = some (i, len) → decode aM_516.1.2.1 pc = .ok (i, len) := fun pc i len h => sx_iF_s (aT_516 pc) h
def aI_517_0 : sx_IL := [(0, .aload_n 0, 1), (1, .getfield 261, 3), (4, .iload_n 1, 1), (5, .iaload, 1), (6, .istore 4, 2), (8, .aload_n 0, 1)]
theorem aJ_517_0 : sx_iB prog_14_method_222_code aI_517_0 = true := by decide +kernel
def aI_517_1 : sx_IL := [(9, .iconst 0, 1), (10, .putfield 1071, 3), (13, .iload_n 3, 1), (14, .bipush 8, 2), (16, .if_icmp .ge 8, 3), (19, .bipush 50, 2)]
theorem aJ_517_1 : sx_iB prog_14_method_222_code aI_517_1 = true := by decide +kernel
def aI_517_2 : sx_IL := [(21, .goto 15, 3), (24, .aload_n 0, 1), (25, .iconst 1, 1), (26, .iload_n 2, 1), (27, .bipush 8, 2), (29, .iadd, 1)]
theorem aJ_517_2 : sx_iB prog_14_method_222_code aI_517_2 = true := by decide +kernel
def aI_517_3 : sx_IL := [(30, .iload_n 2, 1), (31, .iload_n 3, 1), (32, .iadd, 1), (33, .invokevirtual 1108, 3), (36, .istore 5, 2), (38, .iload 5, 2)]
theorem aJ_517_3 : sx_iB prog_14_method_222_code aI_517_3 = true := by decide +kernel
def aI_517_4 : sx_IL := [(40, .ifCond .eq 6, 3), (43, .iload 5, 2), (45, .ireturn, 1), (46, .aload_n 0, 1), (47, .iconst 1, 1), (48, .iconst 4, 1)]
theorem aJ_517_4 : sx_iB prog_14_method_222_code aI_517_4 = true := by decide +kernel
def aI_517_5 : sx_IL := [(49, .invokevirtual 1153, 3), (52, .ifCond .ne 6, 3), (55, .bipush 70, 2), (57, .ireturn, 1), (58, .aload_n 0, 1), (59, .getfield 291, 3)]
theorem aJ_517_5 : sx_iB prog_14_method_222_code aI_517_5 = true := by decide +kernel
def aI_517_6 : sx_IL := [(62, .iload_n 1, 1), (63, .iaload, 1), (64, .iconst 1, 1), (65, .if_icmp .ne 15, 3), (68, .aload_n 0, 1), (69, .iload_n 1, 1)]
theorem aJ_517_6 : sx_iB prog_14_method_222_code aI_517_6 = true := by decide +kernel
def aI_517_7 : sx_IL := [(70, .iload_n 2, 1), (71, .invokevirtual 1229, 3), (74, .ifCond .eq 6, 3), (77, .bipush 47, 2), (79, .ireturn, 1), (80, .aload_n 0, 1)]
theorem aJ_517_7 : sx_iB prog_14_method_222_code aI_517_7 = true := by decide +kernel
def aI_517_8 : sx_IL := [(81, .iconst 2, 1), (82, .invokevirtual 1105, 3), (85, .ifCond .ne 6, 3), (88, .bipush 109, 2), (90, .ireturn, 1), (91, .aload_n 0, 1)]
theorem aJ_517_8 : sx_iB prog_14_method_222_code aI_517_8 = true := by decide +kernel
def aI_517_9 : sx_IL := [(92, .aload_n 0, 1), (93, .getfield 291, 3), (96, .iload_n 1, 1), (97, .iaload, 1), (98, .iconst 1, 1), (99, .if_icmp .ne 12, 3)]
theorem aJ_517_9 : sx_iB prog_14_method_222_code aI_517_9 = true := by decide +kernel
def aI_517_10 : sx_IL := [(102, .aload_n 0, 1), (103, .getfield 456, 3), (106, .iload_n 1, 1), (107, .iaload, 1), (108, .goto 11, 3), (111, .aload_n 0, 1)]
theorem aJ_517_10 : sx_iB prog_14_method_222_code aI_517_10 = true := by decide +kernel
def aI_517_11 : sx_IL := [(112, .iload 4, 2), (114, .iconst 0, 1), (115, .iconst 2, 1), (116, .invokevirtual 1232, 3), (119, .putfield 1208, 3), (122, .aload_n 0, 1)]
theorem aJ_517_11 : sx_iB prog_14_method_222_code aI_517_11 = true := by decide +kernel
def aI_517_12 : sx_IL := [(123, .getfield 1208, 3), (126, .ifCond .ne 6, 3), (129, .bipush 40, 2), (131, .ireturn, 1), (132, .aload_n 0, 1), (133, .bipush 10, 2)]
theorem aJ_517_12 : sx_iB prog_14_method_222_code aI_517_12 = true := by decide +kernel
def aI_517_13 : sx_IL := [(135, .invokevirtual 1105, 3), (138, .ifCond .eq 15, 3), (141, .aload_n 0, 1), (142, .bipush 7, 2), (144, .invokevirtual 1105, 3), (147, .ifCond .ne 6, 3)]
theorem aJ_517_13 : sx_iB prog_14_method_222_code aI_517_13 = true := by decide +kernel
def aI_517_14 : sx_IL := [(150, .bipush 109, 2), (152, .ireturn, 1), (153, .aload_n 0, 1), (154, .iconst 0, 1), (155, .putfield 1205, 3), (158, .aload_n 0, 1)]
theorem aJ_517_14 : sx_iB prog_14_method_222_code aI_517_14 = true := by decide +kernel
def aI_517_15 : sx_IL := [(159, .bipush 10, 2), (161, .invokevirtual 1105, 3), (164, .ifCond .eq 9, 3), (167, .aload_n 0, 1), (168, .iload 4, 2), (170, .invokevirtual 1235, 3)]
theorem aJ_517_15 : sx_iB prog_14_method_222_code aI_517_15 = true := by decide +kernel
def aI_517_16 : sx_IL := [(173, .aload_n 0, 1), (174, .getfield 1205, 3), (177, .ifCond .le 15, 3), (180, .aload_n 0, 1), (181, .iload_n 1, 1), (182, .iload_n 2, 1)]
theorem aJ_517_16 : sx_iB prog_14_method_222_code aI_517_16 = true := by decide +kernel
def aI_517_17 : sx_IL := [(183, .invokevirtual 1238, 3), (186, .ifCond .ne 6, 3), (189, .bipush 51, 2), (191, .ireturn, 1), (192, .aload_n 0, 1), (193, .bipush 7, 2)]
theorem aJ_517_17 : sx_iB prog_14_method_222_code aI_517_17 = true := by decide +kernel
def aI_517_18 : sx_IL := [(195, .invokevirtual 1105, 3), (198, .ifCond .eq 18, 3), (201, .aload_n 0, 1), (202, .getfield 278, 3), (205, .aload_n 0, 1), (206, .getfield 489, 3)]
theorem aJ_517_18 : sx_iB prog_14_method_222_code aI_517_18 = true := by decide +kernel
def aI_517_19 : sx_IL := [(209, .bipush 7, 2), (211, .iaload, 1), (212, .iaload, 1), (213, .goto 4, 3), (216, .iconst 2, 1), (217, .istore 6, 2)]
theorem aJ_517_19 : sx_iB prog_14_method_222_code aI_517_19 = true := by decide +kernel
def aI_517_20 : sx_IL := [(219, .aload_n 0, 1), (220, .iconst 3, 1), (221, .invokevirtual 1105, 3), (224, .ifCond .ne 19, 3), (227, .aload_n 0, 1), (228, .getfield 1205, 3)]
theorem aJ_517_20 : sx_iB prog_14_method_222_code aI_517_20 = true := by decide +kernel
def aI_517_21 : sx_IL := [(231, .ifCond .le 9, 3), (234, .iload 6, 2), (236, .iconst 1, 1), (237, .if_icmp .eq 6, 3), (240, .bipush 109, 2), (242, .ireturn, 1)]
theorem aJ_517_21 : sx_iB prog_14_method_222_code aI_517_21 = true := by decide +kernel
def aI_517_22 : sx_IL := [(243, .aload_n 0, 1), (244, .aload_n 0, 1), (245, .getfield 291, 3), (248, .iload_n 1, 1), (249, .iaload, 1), (250, .iconst 1, 1)]
theorem aJ_517_22 : sx_iB prog_14_method_222_code aI_517_22 = true := by decide +kernel
def aI_517_23 : sx_IL := [(251, .if_icmp .ne 12, 3), (254, .aload_n 0, 1), (255, .getfield 459, 3), (258, .iload_n 1, 1), (259, .iaload, 1), (260, .goto 11, 3)]
theorem aJ_517_23 : sx_iB prog_14_method_222_code aI_517_23 = true := by decide +kernel
def aI_517_24 : sx_IL := [(263, .aload_n 0, 1), (264, .iload 4, 2), (266, .iconst 1, 1), (267, .iconst 3, 1), (268, .invokevirtual 1232, 3), (271, .putfield 1241, 3)]
theorem aJ_517_24 : sx_iB prog_14_method_222_code aI_517_24 = true := by decide +kernel
def aI_517_25 : sx_IL := [(274, .iload 6, 2), (276, .iconst 2, 1), (277, .iand, 1), (278, .ifCond .eq 14, 3), (281, .aload_n 0, 1), (282, .getfield 1241, 3)]
theorem aJ_517_25 : sx_iB prog_14_method_222_code aI_517_25 = true := by decide +kernel
def aI_517_26 : sx_IL := [(285, .ifCond .le 7, 3), (288, .iconst 1, 1), (289, .goto 4, 3), (292, .iconst 0, 1), (293, .istore 7, 2), (295, .aload_n 0, 1)]
theorem aJ_517_26 : sx_iB prog_14_method_222_code aI_517_26 = true := by decide +kernel
def aI_517_27 : sx_IL := [(296, .aload_n 0, 1), (297, .getfield 1205, 3), (300, .ifCond .le 36, 3), (303, .iload 7, 2), (305, .ifCond .ne 27, 3), (308, .iload 6, 2)]
theorem aJ_517_27 : sx_iB prog_14_method_222_code aI_517_27 = true := by decide +kernel
def aI_517_28 : sx_IL := [(310, .iconst 1, 1), (311, .iand, 1), (312, .ifCond .eq 24, 3), (315, .aload_n 0, 1), (316, .getfield 102, 3), (319, .bipush 8, 2)]
theorem aJ_517_28 : sx_iB prog_14_method_222_code aI_517_28 = true := by decide +kernel
def aI_517_29 : sx_IL := [(321, .iload 4, 2), (323, .imul, 1), (324, .bipush 6, 2), (326, .iadd, 1), (327, .iaload, 1), (328, .iconst 1, 1)]
theorem aJ_517_29 : sx_iB prog_14_method_222_code aI_517_29 = true := by decide +kernel
def aI_517_30 : sx_IL := [(329, .if_icmp .ne 7, 3), (332, .iconst 1, 1), (333, .goto 4, 3), (336, .iconst 0, 1), (337, .putfield 1244, 3), (340, .aload_n 0, 1)]
theorem aJ_517_30 : sx_iB prog_14_method_222_code aI_517_30 = true := by decide +kernel
def aI_517_31 : sx_IL := [(341, .aload_n 0, 1), (342, .getfield 1244, 3), (345, .ifCond .eq 8, 3), (348, .iload 7, 2), (350, .goto 4, 3), (353, .iconst 1, 1)]
theorem aJ_517_31 : sx_iB prog_14_method_222_code aI_517_31 = true := by decide +kernel
def aI_517_32 : sx_IL := [(354, .putfield 1247, 3), (357, .aload_n 0, 1), (358, .getfield 1244, 3), (361, .ifCond .ne 13, 3), (364, .aload_n 0, 1), (365, .getfield 1241, 3)]
theorem aJ_517_32 : sx_iB prog_14_method_222_code aI_517_32 = true := by decide +kernel
def aI_517_33 : sx_IL := [(368, .ifCond .ne 6, 3), (371, .bipush 40, 2), (373, .ireturn, 1), (374, .aload_n 0, 1), (375, .iconst 0, 1), (376, .putfield 1250, 3)]
theorem aJ_517_33 : sx_iB prog_14_method_222_code aI_517_33 = true := by decide +kernel
def aI_517_34 : sx_IL := [(379, .aload_n 0, 1), (380, .getfield 1244, 3), (383, .ifCond .ne 46, 3), (386, .aload_n 0, 1), (387, .iconst 5, 1), (388, .invokevirtual 1105, 3)]
theorem aJ_517_34 : sx_iB prog_14_method_222_code aI_517_34 = true := by decide +kernel
def aI_517_35 : sx_IL := [(391, .ifCond .ne 6, 3), (394, .bipush 109, 2), (396, .ireturn, 1), (397, .aload_n 0, 1), (398, .aload_n 0, 1), (399, .iload 4, 2)]
theorem aJ_517_35 : sx_iB prog_14_method_222_code aI_517_35 = true := by decide +kernel
def aI_517_36 : sx_IL := [(401, .iconst 2, 1), (402, .iconst 5, 1), (403, .invokevirtual 1232, 3), (406, .putfield 1250, 3), (409, .aload_n 0, 1), (410, .getfield 1250, 3)]
theorem aJ_517_36 : sx_iB prog_14_method_222_code aI_517_36 = true := by decide +kernel
def aI_517_37 : sx_IL := [(413, .ifCond .eq 13, 3), (416, .aload_n 0, 1), (417, .getfield 120, 3), (420, .iload 4, 2), (422, .iaload, 1), (423, .ifCond .ne 6, 3)]
theorem aJ_517_37 : sx_iB prog_14_method_222_code aI_517_37 = true := by decide +kernel
def aI_517_38 : sx_IL := [(426, .bipush 40, 2), (428, .ireturn, 1), (429, .aload_n 0, 1), (430, .aload_n 0, 1), (431, .getfield 1247, 3), (434, .ifCond .eq 26, 3)]
theorem aJ_517_38 : sx_iB prog_14_method_222_code aI_517_38 = true := by decide +kernel
def aI_517_39 : sx_IL := [(437, .aload_n 0, 1), (438, .iconst 4, 1), (439, .invokevirtual 1105, 3), (442, .ifCond .eq 14, 3), (445, .aload_n 0, 1), (446, .invokevirtual 1127, 3)]
theorem aJ_517_39 : sx_iB prog_14_method_222_code aI_517_39 = true := by decide +kernel
def aI_517_40 : sx_IL := [(449, .aload_n 0, 1), (450, .getfield 1241, 3), (453, .if_icmp .eq 7, 3), (456, .iconst 1, 1), (457, .goto 4, 3), (460, .iconst 0, 1)]
theorem aJ_517_40 : sx_iB prog_14_method_222_code aI_517_40 = true := by decide +kernel
def aI_517_41 : sx_IL := [(461, .putfield 1071, 3), (464, .aload_n 0, 1), (465, .getfield 1071, 3), (468, .ifCond .eq 5, 3), (471, .iconst 0, 1), (472, .ireturn, 1)]
theorem aJ_517_41 : sx_iB prog_14_method_222_code aI_517_41 = true := by decide +kernel
def aI_517_42 : sx_IL := [(473, .iload_n 1, 1), (474, .iconst 2, 1), (475, .idiv, 1), (476, .istore 8, 2), (478, .aload_n 0, 1), (479, .getfield 471, 3)]
theorem aJ_517_42 : sx_iB prog_14_method_222_code aI_517_42 = true := by decide +kernel
def aI_517_43 : sx_IL := [(482, .iload 8, 2), (484, .aload_n 0, 1), (485, .iload 4, 2), (487, .invokevirtual 1018, 3), (490, .lastore, 1), (491, .aload_n 0, 1)]
theorem aJ_517_43 : sx_iB prog_14_method_222_code aI_517_43 = true := by decide +kernel
def aI_517_44 : sx_IL := [(492, .getfield 474, 3), (495, .iload 8, 2), (497, .aload_n 0, 1), (498, .getfield 1247, 3), (501, .ifCond .eq 12, 3), (504, .aload_n 0, 1)]
theorem aJ_517_44 : sx_iB prog_14_method_222_code aI_517_44 = true := by decide +kernel
def aI_517_45 : sx_IL := [(505, .iload 4, 2), (507, .invokevirtual 1021, 3), (510, .goto 4, 3), (513, .iconst 0, 1), (514, .iastore, 1), (515, .aload_n 0, 1)]
theorem aJ_517_45 : sx_iB prog_14_method_222_code aI_517_45 = true := by decide +kernel
def aI_517_46 : sx_IL := [(516, .aload_n 0, 1), (517, .getfield 1247, 3), (520, .ifCond .eq 24, 3), (523, .aload_n 0, 1), (524, .getfield 1241, 3), (527, .aload_n 0, 1)]
theorem aJ_517_46 : sx_iB prog_14_method_222_code aI_517_46 = true := by decide +kernel
def aI_517_47 : sx_IL := [(528, .getfield 474, 3), (531, .iload 8, 2), (533, .iaload, 1), (534, .aload_n 0, 1), (535, .invokevirtual 1130, 3), (538, .invokestatic 643, 3)]
theorem aJ_517_47 : sx_iB prog_14_method_222_code aI_517_47 = true := by decide +kernel
def aI_517_48 : sx_IL := [(541, .goto 4, 3), (544, .lconst 0, 1), (545, .putfield 1133, 3), (548, .aload_n 0, 1), (549, .getfield 1247, 3), (552, .ifCond .eq 17, 3)]
theorem aJ_517_48 : sx_iB prog_14_method_222_code aI_517_48 = true := by decide +kernel
def aI_517_49 : sx_IL := [(555, .aload_n 0, 1), (556, .getfield 1133, 3), (559, .lconst 0, 1), (560, .lcmp, 1), (561, .ifCond .ne 8, 3), (564, .bipush 47, 2)]
theorem aJ_517_49 : sx_iB prog_14_method_222_code aI_517_49 = true := by decide +kernel
def aI_517_50 : sx_IL := [(566, .goto 4, 3), (569, .iconst 0, 1), (570, .ireturn, 1)]
theorem aJ_517_50 : sx_iB prog_14_method_222_code aI_517_50 = true := by decide +kernel
def aS_517 (pc : Nat) : sx_IL := (if pc < 274 then (if pc < 123 then (if pc < 62 then (if pc < 30 then (if pc < 9 then aI_517_0 else (if pc < 21 then aI_517_1 else aI_517_2)) else (if pc < 40 then aI_517_3 else (if pc < 49 then aI_517_4 else aI_517_5))) else (if pc < 92 then (if pc < 70 then aI_517_6 else (if pc < 81 then aI_517_7 else aI_517_8)) else (if pc < 102 then aI_517_9 else (if pc < 112 then aI_517_10 else aI_517_11)))) else (if pc < 195 then (if pc < 159 then (if pc < 135 then aI_517_12 else (if pc < 150 then aI_517_13 else aI_517_14)) else (if pc < 173 then aI_517_15 else (if pc < 183 then aI_517_16 else aI_517_17))) else (if pc < 231 then (if pc < 209 then aI_517_18 else (if pc < 219 then aI_517_19 else aI_517_20)) else (if pc < 251 then (if pc < 243 then aI_517_21 else aI_517_22) else (if pc < 263 then aI_517_23 else aI_517_24))))) else (if pc < 426 then (if pc < 341 then (if pc < 310 then (if pc < 285 then aI_517_25 else (if pc < 296 then aI_517_26 else aI_517_27)) else (if pc < 321 then aI_517_28 else (if pc < 329 then aI_517_29 else aI_517_30))) else (if pc < 379 then (if pc < 354 then aI_517_31 else (if pc < 368 then aI_517_32 else aI_517_33)) else (if pc < 401 then (if pc < 391 then aI_517_34 else aI_517_35) else (if pc < 413 then aI_517_36 else aI_517_37)))) else (if pc < 492 then (if pc < 461 then (if pc < 437 then aI_517_38 else (if pc < 449 then aI_517_39 else aI_517_40)) else (if pc < 473 then aI_517_41 else (if pc < 482 then aI_517_42 else aI_517_43))) else (if pc < 528 then (if pc < 505 then aI_517_44 else (if pc < 516 then aI_517_45 else aI_517_46)) else (if pc < 555 then (if pc < 541 then aI_517_47 else aI_517_48) else (if pc < 566 then aI_517_49 else aI_517_50))))))
theorem aT_517 (pc : Nat) : sx_iOk prog_14_method_222_code (aS_517 pc) := (sx_ite (p := fun l => sx_iOk prog_14_method_222_code l) (sx_ite (p := fun l => sx_iOk prog_14_method_222_code l) (sx_ite (p := fun l => sx_iOk prog_14_method_222_code l) (sx_ite (p := fun l => sx_iOk prog_14_method_222_code l) (sx_ite (p := fun l => sx_iOk prog_14_method_222_code l) (sx_iB_s aJ_517_0) (sx_ite (p := fun l => sx_iOk prog_14_method_222_code l) (sx_iB_s aJ_517_1) (sx_iB_s aJ_517_2))) (sx_ite (p := fun l => sx_iOk prog_14_method_222_code l) (sx_iB_s aJ_517_3) (sx_ite (p := fun l => sx_iOk prog_14_method_222_code l) (sx_iB_s aJ_517_4) (sx_iB_s aJ_517_5)))) (sx_ite (p := fun l => sx_iOk prog_14_method_222_code l) (sx_ite (p := fun l => sx_iOk prog_14_method_222_code l) (sx_iB_s aJ_517_6) (sx_ite (p := fun l => sx_iOk prog_14_method_222_code l) (sx_iB_s aJ_517_7) (sx_iB_s aJ_517_8))) (sx_ite (p := fun l => sx_iOk prog_14_method_222_code l) (sx_iB_s aJ_517_9) (sx_ite (p := fun l => sx_iOk prog_14_method_222_code l) (sx_iB_s aJ_517_10) (sx_iB_s aJ_517_11))))) (sx_ite (p := fun l => sx_iOk prog_14_method_222_code l) (sx_ite (p := fun l => sx_iOk prog_14_method_222_code l) (sx_ite (p := fun l => sx_iOk prog_14_method_222_code l) (sx_iB_s aJ_517_12) (sx_ite (p := fun l => sx_iOk prog_14_method_222_code l) (sx_iB_s aJ_517_13) (sx_iB_s aJ_517_14))) (sx_ite (p := fun l => sx_iOk prog_14_method_222_code l) (sx_iB_s aJ_517_15) (sx_ite (p := fun l => sx_iOk prog_14_method_222_code l) (sx_iB_s aJ_517_16) (sx_iB_s aJ_517_17)))) (sx_ite (p := fun l => sx_iOk prog_14_method_222_code l) (sx_ite (p := fun l => sx_iOk prog_14_method_222_code l) (sx_iB_s aJ_517_18) (sx_ite (p := fun l => sx_iOk prog_14_method_222_code l) (sx_iB_s aJ_517_19) (sx_iB_s aJ_517_20))) (sx_ite (p := fun l => sx_iOk prog_14_method_222_code l) (sx_ite (p := fun l => sx_iOk prog_14_method_222_code l) (sx_iB_s aJ_517_21) (sx_iB_s aJ_517_22)) (sx_ite (p := fun l => sx_iOk prog_14_method_222_code l) (sx_iB_s aJ_517_23) (sx_iB_s aJ_517_24)))))) (sx_ite (p := fun l => sx_iOk prog_14_method_222_code l) (sx_ite (p := fun l => sx_iOk prog_14_method_222_code l) (sx_ite (p := fun l => sx_iOk prog_14_method_222_code l) (sx_ite (p := fun l => sx_iOk prog_14_method_222_code l) (sx_iB_s aJ_517_25) (sx_ite (p := fun l => sx_iOk prog_14_method_222_code l) (sx_iB_s aJ_517_26) (sx_iB_s aJ_517_27))) (sx_ite (p := fun l => sx_iOk prog_14_method_222_code l) (sx_iB_s aJ_517_28) (sx_ite (p := fun l => sx_iOk prog_14_method_222_code l) (sx_iB_s aJ_517_29) (sx_iB_s aJ_517_30)))) (sx_ite (p := fun l => sx_iOk prog_14_method_222_code l) (sx_ite (p := fun l => sx_iOk prog_14_method_222_code l) (sx_iB_s aJ_517_31) (sx_ite (p := fun l => sx_iOk prog_14_method_222_code l) (sx_iB_s aJ_517_32) (sx_iB_s aJ_517_33))) (sx_ite (p := fun l => sx_iOk prog_14_method_222_code l) (sx_ite (p := fun l => sx_iOk prog_14_method_222_code l) (sx_iB_s aJ_517_34) (sx_iB_s aJ_517_35)) (sx_ite (p := fun l => sx_iOk prog_14_method_222_code l) (sx_iB_s aJ_517_36) (sx_iB_s aJ_517_37))))) (sx_ite (p := fun l => sx_iOk prog_14_method_222_code l) (sx_ite (p := fun l => sx_iOk prog_14_method_222_code l) (sx_ite (p := fun l => sx_iOk prog_14_method_222_code l) (sx_iB_s aJ_517_38) (sx_ite (p := fun l => sx_iOk prog_14_method_222_code l) (sx_iB_s aJ_517_39) (sx_iB_s aJ_517_40))) (sx_ite (p := fun l => sx_iOk prog_14_method_222_code l) (sx_iB_s aJ_517_41) (sx_ite (p := fun l => sx_iOk prog_14_method_222_code l) (sx_iB_s aJ_517_42) (sx_iB_s aJ_517_43)))) (sx_ite (p := fun l => sx_iOk prog_14_method_222_code l) (sx_ite (p := fun l => sx_iOk prog_14_method_222_code l) (sx_iB_s aJ_517_44) (sx_ite (p := fun l => sx_iOk prog_14_method_222_code l) (sx_iB_s aJ_517_45) (sx_iB_s aJ_517_46))) (sx_ite (p := fun l => sx_iOk prog_14_method_222_code l) (sx_ite (p := fun l => sx_iOk prog_14_method_222_code l) (sx_iB_s aJ_517_47) (sx_iB_s aJ_517_48)) (sx_ite (p := fun l => sx_iOk prog_14_method_222_code l) (sx_iB_s aJ_517_49) (sx_iB_s aJ_517_50)))))))
def aW_517 : Nat → Option (Instr × Nat) := fun pc => sx_iF (aS_517 pc) pc
theorem aX_517 : ∀ pc i len, aW_517 pc = some (i, len) → decode aM_517.1.2.1 pc = .ok (i, len) := fun pc i len h => sx_iF_s (aT_517 pc) h
def aI_518_0 : sx_IL := [(0, .iconst 0, 1), (1, .istore_n 3, 1), (2, .iconst 0, 1), (3, .istore 4, 2), (5, .aload_n 0, 1), (6, .iload_n 1, 1)]
theorem aJ_518_0 : sx_iB prog_14_method_192_code aI_518_0 = true := by decide +kernel
def aI_518_1 : sx_IL := [(7, .invokevirtual 1105, 3), (10, .ifCond .eq 48, 3), (13, .iload 4, 2), (15, .aload_n 0, 1), (16, .getfield 492, 3), (19, .iload_n 1, 1)]
theorem aJ_518_1 : sx_iB prog_14_method_192_code aI_518_1 = true := by decide +kernel
def aI_518_2 : sx_IL := [(20, .iaload, 1), (21, .if_icmp .ge 37, 3), (24, .iload_n 3, 1), (25, .ifCond .ne 21, 3), (28, .aload_n 0, 1), (29, .getfield 278, 3)]
theorem aJ_518_2 : sx_iB prog_14_method_192_code aI_518_2 = true := by decide +kernel
def aI_518_3 : sx_IL := [(32, .aload_n 0, 1), (33, .getfield 489, 3), (36, .iload_n 1, 1), (37, .iaload, 1), (38, .iload 4, 2), (40, .iadd, 1)]
theorem aJ_518_3 : sx_iB prog_14_method_192_code aI_518_3 = true := by decide +kernel
def aI_518_4 : sx_IL := [(41, .iaload, 1), (42, .iload_n 2, 1), (43, .if_icmp .ne 7, 3), (46, .iconst 1, 1), (47, .goto 4, 3), (50, .iconst 0, 1)]
theorem aJ_518_4 : sx_iB prog_14_method_192_code aI_518_4 = true := by decide +kernel
def aI_518_5 : sx_IL := [(51, .istore_n 3, 1), (52, .iinc 4 1, 3), (55, .goto (-50), 3), (58, .iload_n 3, 1), (59, .ireturn, 1)]
theorem aJ_518_5 : sx_iB prog_14_method_192_code aI_518_5 = true := by decide +kernel
def aS_518 (pc : Nat) : sx_IL := (if pc < 32 then (if pc < 7 then aI_518_0 else (if pc < 20 then aI_518_1 else aI_518_2)) else (if pc < 41 then aI_518_3 else (if pc < 51 then aI_518_4 else aI_518_5)))
theorem aT_518 (pc : Nat) : sx_iOk prog_14_method_192_code (aS_518 pc) := (sx_ite (p := fun l => sx_iOk prog_14_method_192_code l) (sx_ite (p := fun l => sx_iOk prog_14_method_192_code l) (sx_iB_s aJ_518_0) (sx_ite (p := fun l => sx_iOk prog_14_method_192_code l) (sx_iB_s aJ_518_1) (sx_iB_s aJ_518_2))) (sx_ite (p := fun l => sx_iOk prog_14_method_192_code l) (sx_iB_s aJ_518_3) (sx_ite (p := fun l => sx_iOk prog_14_method_192_code l) (sx_iB_s aJ_518_4) (sx_iB_s aJ_518_5))))
def aW_518 : Nat → Option (Instr × Nat) := fun pc => sx_iF (aS_518 pc) pc
theorem aX_518 : ∀ pc i len, aW_518 pc = some (i, len) → decode aM_518.1.2.1 pc = .ok (i, len) := fun pc i len h => sx_iF_s (aT_518 pc) h
def aI_519_0 : sx_IL := [(0, .iload_n 1, 1), (1, .iconst 2, 1), (2, .idiv, 1), (3, .istore_n 3, 1), (4, .aload_n 0, 1), (5, .getfield 462, 3)]
theorem aJ_519_0 : sx_iB prog_14_method_221_code aI_519_0 = true := by decide +kernel
def aI_519_1 : sx_IL := [(8, .sipush 2500, 3), (11, .iload_n 3, 1), (12, .imul, 1), (13, .bipush 8, 2), (15, .aload_n 0, 1), (16, .getfield 278, 3)]
theorem aJ_519_1 : sx_iB prog_14_method_221_code aI_519_1 = true := by decide +kernel
def aI_519_2 : sx_IL := [(19, .iload_n 2, 1), (20, .bipush 8, 2), (22, .invokestatic 847, 3), (25, .istore 4, 2), (27, .iconst 1, 1), (28, .istore 5, 2)]
theorem aJ_519_2 : sx_iB prog_14_method_221_code aI_519_2 = true := by decide +kernel
def aI_519_3 : sx_IL := [(30, .iload 5, 2), (32, .bipush 7, 2), (34, .if_icmp .gt 37, 3), (37, .iload 4, 2), (39, .ifCond .eq 23, 3), (42, .iload 5, 2)]
theorem aJ_519_3 : sx_iB prog_14_method_221_code aI_519_3 = true := by decide +kernel
def aI_519_4 : sx_IL := [(44, .iconst 4, 1), (45, .if_icmp .eq 13, 3), (48, .aload_n 0, 1), (49, .iload_n 3, 1), (50, .iload 5, 2), (52, .invokevirtual 1226, 3)]
theorem aJ_519_4 : sx_iB prog_14_method_221_code aI_519_4 = true := by decide +kernel
def aI_519_5 : sx_IL := [(55, .ifCond .eq 7, 3), (58, .iconst 1, 1), (59, .goto 4, 3), (62, .iconst 0, 1), (63, .istore 4, 2), (65, .iinc 5 1, 3)]
theorem aJ_519_5 : sx_iB prog_14_method_221_code aI_519_5 = true := by decide +kernel
def aI_519_6 : sx_IL := [(68, .goto (-38), 3), (71, .iload 4, 2), (73, .ifCond .eq 49, 3), (76, .aload_n 0, 1), (77, .bipush 8, 2), (79, .invokevirtual 1105, 3)]
theorem aJ_519_6 : sx_iB prog_14_method_221_code aI_519_6 = true := by decide +kernel
def aI_519_7 : sx_IL := [(82, .ifCond .ne 40, 3), (85, .aload_n 0, 1), (86, .bipush 9, 2), (88, .invokevirtual 1105, 3), (91, .ifCond .eq 31, 3), (94, .aload_n 0, 1)]
theorem aJ_519_7 : sx_iB prog_14_method_221_code aI_519_7 = true := by decide +kernel
def aI_519_8 : sx_IL := [(95, .getfield 278, 3), (98, .aload_n 0, 1), (99, .getfield 489, 3), (102, .bipush 9, 2), (104, .iaload, 1), (105, .invokestatic 851, 3)]
theorem aJ_519_8 : sx_iB prog_14_method_221_code aI_519_8 = true := by decide +kernel
def aI_519_9 : sx_IL := [(108, .aload_n 0, 1), (109, .getfield 468, 3), (112, .iload_n 3, 1), (113, .laload, 1), (114, .lcmp, 1), (115, .ifCond .ne 7, 3)]
theorem aJ_519_9 : sx_iB prog_14_method_221_code aI_519_9 = true := by decide +kernel
def aI_519_10 : sx_IL := [(118, .iconst 1, 1), (119, .goto 4, 3), (122, .iconst 0, 1), (123, .istore 4, 2), (125, .iload 4, 2), (127, .ifCond .eq 28, 3)]
theorem aJ_519_10 : sx_iB prog_14_method_221_code aI_519_10 = true := by decide +kernel
def aI_519_11 : sx_IL := [(130, .aload_n 0, 1), (131, .iconst 4, 1), (132, .invokevirtual 1105, 3), (135, .ifCond .eq 20, 3), (138, .aload_n 0, 1), (139, .invokevirtual 1127, 3)]
theorem aJ_519_11 : sx_iB prog_14_method_221_code aI_519_11 = true := by decide +kernel
def aI_519_12 : sx_IL := [(142, .aload_n 0, 1), (143, .getfield 459, 3), (146, .iload_n 1, 1), (147, .iaload, 1), (148, .if_icmp .ne 7, 3), (151, .iconst 0, 1)]
theorem aJ_519_12 : sx_iB prog_14_method_221_code aI_519_12 = true := by decide +kernel
def aI_519_13 : sx_IL := [(152, .goto 5, 3), (155, .bipush 47, 2), (157, .ireturn, 1)]
theorem aJ_519_13 : sx_iB prog_14_method_221_code aI_519_13 = true := by decide +kernel
def aS_519 (pc : Nat) : sx_IL := (if pc < 82 then (if pc < 30 then (if pc < 8 then aI_519_0 else (if pc < 19 then aI_519_1 else aI_519_2)) else (if pc < 55 then (if pc < 44 then aI_519_3 else aI_519_4) else (if pc < 68 then aI_519_5 else aI_519_6))) else (if pc < 118 then (if pc < 95 then aI_519_7 else (if pc < 108 then aI_519_8 else aI_519_9)) else (if pc < 142 then (if pc < 130 then aI_519_10 else aI_519_11) else (if pc < 152 then aI_519_12 else aI_519_13))))
theorem aT_519 (pc : Nat) : sx_iOk prog_14_method_221_code (aS_519 pc) := (sx_ite (p := fun l => sx_iOk prog_14_method_221_code l) (sx_ite (p := fun l => sx_iOk prog_14_method_221_code l) (sx_ite (p := fun l => sx_iOk prog_14_method_221_code l) (sx_iB_s aJ_519_0) (sx_ite (p := fun l => sx_iOk prog_14_method_221_code l) (sx_iB_s aJ_519_1) (sx_iB_s aJ_519_2))) (sx_ite (p := fun l => sx_iOk prog_14_method_221_code l) (sx_ite (p := fun l => sx_iOk prog_14_method_221_code l) (sx_iB_s aJ_519_3) (sx_iB_s aJ_519_4)) (sx_ite (p := fun l => sx_iOk prog_14_method_221_code l) (sx_iB_s aJ_519_5) (sx_iB_s aJ_519_6)))) (sx_ite (p := fun l => sx_iOk prog_14_method_221_code l) (sx_ite (p := fun l => sx_iOk prog_14_method_221_code l) (sx_iB_s aJ_519_7) (sx_ite (p := fun l => sx_iOk prog_14_method_221_code l) (sx_iB_s aJ_519_8) (sx_iB_s aJ_519_9))) (sx_ite (p := fun l => sx_iOk prog_14_method_221_code l) (sx_ite (p := fun l => sx_iOk prog_14_method_221_code l) (sx_iB_s aJ_519_10) (sx_iB_s aJ_519_11)) (sx_ite (p := fun l => sx_iOk prog_14_method_221_code l) (sx_iB_s aJ_519_12) (sx_iB_s aJ_519_13)))))
def aW_519 : Nat → Option (Instr × Nat) := fun pc => sx_iF (aS_519 pc) pc
theorem aX_519 : ∀ pc i len, aW_519 pc = some (i, len) → decode aM_519.1.2.1 pc = .ok (i, len) := fun pc i len h => sx_iF_s (aT_519 pc) h
def aI_520_0 : sx_IL := [(0, .sipush 2500, 3), (3, .iload_n 1, 1), (4, .imul, 1), (5, .bipush 8, 2), (7, .iadd, 1), (8, .istore_n 3, 1)]
theorem aJ_520_0 : sx_iB prog_14_method_220_code aI_520_0 = true := by decide +kernel
def aI_520_1 : sx_IL := [(9, .sipush 2500, 3), (12, .iload_n 1, 1), (13, .imul, 1), (14, .aload_n 0, 1), (15, .getfield 465, 3), (18, .iload_n 1, 1)]
theorem aJ_520_1 : sx_iB prog_14_method_220_code aI_520_1 = true := by decide +kernel
def aI_520_2 : sx_IL := [(19, .iaload, 1), (20, .iadd, 1), (21, .istore 4, 2), (23, .iload_n 3, 1), (24, .iload 4, 2), (26, .if_icmp .ge 41, 3)]
theorem aJ_520_2 : sx_iB prog_14_method_220_code aI_520_2 = true := by decide +kernel
def aI_520_3 : sx_IL := [(29, .aload_n 0, 1), (30, .getfield 462, 3), (33, .iload_n 3, 1), (34, .iaload, 1), (35, .iload_n 2, 1), (36, .if_icmp .ge 31, 3)]
theorem aJ_520_3 : sx_iB prog_14_method_220_code aI_520_3 = true := by decide +kernel
def aI_520_4 : sx_IL := [(39, .iload_n 3, 1), (40, .iconst 3, 1), (41, .aload_n 0, 1), (42, .getfield 462, 3), (45, .iload_n 3, 1), (46, .iconst 1, 1)]
theorem aJ_520_4 : sx_iB prog_14_method_220_code aI_520_4 = true := by decide +kernel
def aI_520_5 : sx_IL := [(47, .iadd, 1), (48, .iaload, 1), (49, .bipush 8, 2), (51, .ishl, 1), (52, .aload_n 0, 1), (53, .getfield 462, 3)]
theorem aJ_520_5 : sx_iB prog_14_method_220_code aI_520_5 = true := by decide +kernel
def aI_520_6 : sx_IL := [(56, .iload_n 3, 1), (57, .iconst 2, 1), (58, .iadd, 1), (59, .iaload, 1), (60, .ior, 1), (61, .iadd, 1)]
theorem aJ_520_6 : sx_iB prog_14_method_220_code aI_520_6 = true := by decide +kernel
def aI_520_7 : sx_IL := [(62, .iadd, 1), (63, .istore_n 3, 1), (64, .goto (-41), 3), (67, .iload_n 3, 1), (68, .iload 4, 2), (70, .if_icmp .ge 13, 3)]
theorem aJ_520_7 : sx_iB prog_14_method_220_code aI_520_7 = true := by decide +kernel
def aI_520_8 : sx_IL := [(73, .aload_n 0, 1), (74, .getfield 462, 3), (77, .iload_n 3, 1), (78, .iaload, 1), (79, .iload_n 2, 1), (80, .if_icmp .eq 17, 3)]
theorem aJ_520_8 : sx_iB prog_14_method_220_code aI_520_8 = true := by decide +kernel
def aI_520_9 : sx_IL := [(83, .aload_n 0, 1), (84, .iload_n 2, 1), (85, .invokevirtual 1105, 3), (88, .ifCond .ne 7, 3), (91, .iconst 1, 1), (92, .goto 4, 3)]
theorem aJ_520_9 : sx_iB prog_14_method_220_code aI_520_9 = true := by decide +kernel
def aI_520_10 : sx_IL := [(95, .iconst 0, 1), (96, .ireturn, 1), (97, .aload_n 0, 1), (98, .getfield 462, 3), (101, .iload_n 3, 1), (102, .iconst 1, 1)]
theorem aJ_520_10 : sx_iB prog_14_method_220_code aI_520_10 = true := by decide +kernel
def aI_520_11 : sx_IL := [(103, .iadd, 1), (104, .iaload, 1), (105, .bipush 8, 2), (107, .ishl, 1), (108, .aload_n 0, 1), (109, .getfield 462, 3)]
theorem aJ_520_11 : sx_iB prog_14_method_220_code aI_520_11 = true := by decide +kernel
def aI_520_12 : sx_IL := [(112, .iload_n 3, 1), (113, .iconst 2, 1), (114, .iadd, 1), (115, .iaload, 1), (116, .ior, 1), (117, .istore 5, 2)]
theorem aJ_520_12 : sx_iB prog_14_method_220_code aI_520_12 = true := by decide +kernel
def aI_520_13 : sx_IL := [(119, .aload_n 0, 1), (120, .iload_n 2, 1), (121, .invokevirtual 1105, 3), (124, .ifCond .eq 38, 3), (127, .aload_n 0, 1), (128, .getfield 462, 3)]
theorem aJ_520_13 : sx_iB prog_14_method_220_code aI_520_13 = true := by decide +kernel
def aI_520_14 : sx_IL := [(131, .iload_n 3, 1), (132, .iconst 3, 1), (133, .iadd, 1), (134, .iload 5, 2), (136, .aload_n 0, 1), (137, .getfield 278, 3)]
theorem aJ_520_14 : sx_iB prog_14_method_220_code aI_520_14 = true := by decide +kernel
def aI_520_15 : sx_IL := [(140, .aload_n 0, 1), (141, .getfield 489, 3), (144, .iload_n 2, 1), (145, .iaload, 1), (146, .aload_n 0, 1), (147, .getfield 492, 3)]
theorem aJ_520_15 : sx_iB prog_14_method_220_code aI_520_15 = true := by decide +kernel
def aI_520_16 : sx_IL := [(150, .iload_n 2, 1), (151, .iaload, 1), (152, .invokestatic 847, 3), (155, .ifCond .eq 7, 3), (158, .iconst 1, 1), (159, .goto 4, 3)]
theorem aJ_520_16 : sx_iB prog_14_method_220_code aI_520_16 = true := by decide +kernel
def aI_520_17 : sx_IL := [(162, .iconst 0, 1), (163, .ireturn, 1)]
theorem aJ_520_17 : sx_iB prog_14_method_220_code aI_520_17 = true := by decide +kernel
def aS_520 (pc : Nat) : sx_IL := (if pc < 83 then (if pc < 39 then (if pc < 19 then (if pc < 9 then aI_520_0 else aI_520_1) else (if pc < 29 then aI_520_2 else aI_520_3)) else (if pc < 56 then (if pc < 47 then aI_520_4 else aI_520_5) else (if pc < 62 then aI_520_6 else (if pc < 73 then aI_520_7 else aI_520_8)))) else (if pc < 119 then (if pc < 103 then (if pc < 95 then aI_520_9 else aI_520_10) else (if pc < 112 then aI_520_11 else aI_520_12)) else (if pc < 140 then (if pc < 131 then aI_520_13 else aI_520_14) else (if pc < 150 then aI_520_15 else (if pc < 162 then aI_520_16 else aI_520_17)))))
theorem aT_520 (pc : Nat) : sx_iOk prog_14_method_220_code (aS_520 pc) := (sx_ite (p := fun l => sx_iOk prog_14_method_220_code l) (sx_ite (p := fun l => sx_iOk prog_14_method_220_code l) (sx_ite (p := fun l => sx_iOk prog_14_method_220_code l) (sx_ite (p := fun l => sx_iOk prog_14_method_220_code l) (sx_iB_s aJ_520_0) (sx_iB_s aJ_520_1)) (sx_ite (p := fun l => sx_iOk prog_14_method_220_code l) (sx_iB_s aJ_520_2) (sx_iB_s aJ_520_3))) (sx_ite (p := fun l => sx_iOk prog_14_method_220_code l) (sx_ite (p := fun l => sx_iOk prog_14_method_220_code l) (sx_iB_s aJ_520_4) (sx_iB_s aJ_520_5)) (sx_ite (p := fun l => sx_iOk prog_14_method_220_code l) (sx_iB_s aJ_520_6) (sx_ite (p := fun l => sx_iOk prog_14_method_220_code l) (sx_iB_s aJ_520_7) (sx_iB_s aJ_520_8))))) (sx_ite (p := fun l => sx_iOk prog_14_method_220_code l) (sx_ite (p := fun l => sx_iOk prog_14_method_220_code l) (sx_ite (p := fun l => sx_iOk prog_14_method_220_code l) (sx_iB_s aJ_520_9) (sx_iB_s aJ_520_10)) (sx_ite (p := fun l => sx_iOk prog_14_method_220_code l) (sx_iB_s aJ_520_11) (sx_iB_s aJ_520_12))) (sx_ite (p := fun l => sx_iOk prog_14_method_220_code l) (sx_ite (p := fun l => sx_iOk prog_14_method_220_code l) (sx_iB_s aJ_520_13) (sx_iB_s aJ_520_14)) (sx_ite (p := fun l => sx_iOk prog_14_method_220_code l) (sx_iB_s aJ_520_15) (sx_ite (p := fun l => sx_iOk prog_14_method_220_code l) (sx_iB_s aJ_520_16) (sx_iB_s aJ_520_17))))))
def aW_520 : Nat → Option (Instr × Nat) := fun pc => sx_iF (aS_520 pc) pc
theorem aX_520 : ∀ pc i len, aW_520 pc = some (i, len) → decode aM_520.1.2.1 pc = .ok (i, len) := fun pc i len h => sx_iF_s (aT_520 pc) h
def aI_521_0 : sx_IL := [(0, .iconst 0, 1), (1, .istore 4, 2), (3, .iload 4, 2), (5, .aload_n 0, 1), (6, .getfield 99, 3), (9, .iconst 3, 1)]
theorem aJ_521_0 : sx_iB prog_14_method_215_code aI_521_0 = true := by decide +kernel
def aI_521_1 : sx_IL := [(10, .iload_n 1, 1), (11, .imul, 1), (12, .iload_n 2, 1), (13, .iadd, 1), (14, .iaload, 1), (15, .if_icmp .ge 40, 3)]
theorem aJ_521_1 : sx_iB prog_14_method_215_code aI_521_1 = true := by decide +kernel
def aI_521_2 : sx_IL := [(18, .aload_n 0, 1), (19, .getfield 96, 3), (22, .bipush 12, 2), (24, .iload_n 1, 1), (25, .imul, 1), (26, .iconst 4, 1)]
theorem aJ_521_2 : sx_iB prog_14_method_215_code aI_521_2 = true := by decide +kernel
def aI_521_3 : sx_IL := [(27, .iload_n 2, 1), (28, .imul, 1), (29, .iadd, 1), (30, .iload 4, 2), (32, .iadd, 1), (33, .iaload, 1)]
theorem aJ_521_3 : sx_iB prog_14_method_215_code aI_521_3 = true := by decide +kernel
def aI_521_4 : sx_IL := [(34, .istore 5, 2), (36, .aload_n 0, 1), (37, .iload_n 3, 1), (38, .iload 5, 2), (40, .invokevirtual 1153, 3), (43, .ifCond .eq 6, 3)]
theorem aJ_521_4 : sx_iB prog_14_method_215_code aI_521_4 = true := by decide +kernel
def aI_521_5 : sx_IL := [(46, .iload 5, 2), (48, .ireturn, 1), (49, .iinc 4 1, 3), (52, .goto (-49), 3), (55, .iconst 0, 1), (56, .ireturn, 1)]
theorem aJ_521_5 : sx_iB prog_14_method_215_code aI_521_5 = true := by decide +kernel
def aS_521 (pc : Nat) : sx_IL := (if pc < 27 then (if pc < 10 then aI_521_0 else (if pc < 18 then aI_521_1 else aI_521_2)) else (if pc < 34 then aI_521_3 else (if pc < 46 then aI_521_4 else aI_521_5)))
theorem aT_521 (pc : Nat) : sx_iOk prog_14_method_215_code (aS_521 pc) := (sx_ite (p := fun l => sx_iOk prog_14_method_215_code l) (sx_ite (p := fun l => sx_iOk prog_14_method_215_code l) (sx_iB_s aJ_521_0) (sx_ite (p := fun l => sx_iOk prog_14_method_215_code l) (sx_iB_s aJ_521_1) (sx_iB_s aJ_521_2))) (sx_ite (p := fun l => sx_iOk prog_14_method_215_code l) (sx_iB_s aJ_521_3) (sx_ite (p := fun l => sx_iOk prog_14_method_215_code l) (sx_iB_s aJ_521_4) (sx_iB_s aJ_521_5))))
def aW_521 : Nat → Option (Instr × Nat) := fun pc => sx_iF (aS_521 pc) pc
theorem aX_521 : ∀ pc i len, aW_521 pc = some (i, len) → decode aM_521.1.2.1 pc = .ok (i, len) := fun pc i len h => sx_iF_s (aT_521 pc) h
def aI_522_0 : sx_IL := [(0, .aload_n 0, 1), (1, .iconst 0, 1), (2, .putfield 1205, 3), (5, .aload_n 0, 1), (6, .getfield 278, 3), (9, .aload_n 0, 1)]
theorem aJ_522_0 : sx_iB prog_14_method_216_code aI_522_0 = true := by decide +kernel
def aI_522_1 : sx_IL := [(10, .getfield 489, 3), (13, .bipush 10, 2), (15, .iaload, 1), (16, .iaload, 1), (17, .istore_n 2, 1), (18, .aload_n 0, 1)]
theorem aJ_522_1 : sx_iB prog_14_method_216_code aI_522_1 = true := by decide +kernel
def aI_522_2 : sx_IL := [(19, .getfield 489, 3), (22, .bipush 10, 2), (24, .iaload, 1), (25, .iconst 1, 1), (26, .iadd, 1), (27, .istore_n 3, 1)]
theorem aJ_522_2 : sx_iB prog_14_method_216_code aI_522_2 = true := by decide +kernel
def aI_522_3 : sx_IL := [(28, .aload_n 0, 1), (29, .getfield 1208, 3), (32, .invokestatic 602, 3), (35, .istore 4, 2), (37, .iconst 0, 1), (38, .istore 5, 2)]
theorem aJ_522_3 : sx_iB prog_14_method_216_code aI_522_3 = true := by decide +kernel
def aI_522_4 : sx_IL := [(40, .iload 5, 2), (42, .iload_n 2, 1), (43, .if_icmp .ge 254, 3), (46, .aload_n 0, 1), (47, .getfield 1205, 3), (50, .ifCond .ne 247, 3)]
theorem aJ_522_4 : sx_iB prog_14_method_216_code aI_522_4 = true := by decide +kernel
def aI_522_5 : sx_IL := [(53, .aload_n 0, 1), (54, .getfield 278, 3), (57, .iload_n 3, 1), (58, .iaload, 1), (59, .istore 6, 2), (61, .bipush 6, 2)]
theorem aJ_522_5 : sx_iB prog_14_method_216_code aI_522_5 = true := by decide +kernel
def aI_522_6 : sx_IL := [(63, .iload_n 1, 1), (64, .imul, 1), (65, .istore 7, 2), (67, .iload 7, 2), (69, .bipush 6, 2), (71, .iload_n 1, 1)]
theorem aJ_522_6 : sx_iB prog_14_method_216_code aI_522_6 = true := by decide +kernel
def aI_522_7 : sx_IL := [(72, .imul, 1), (73, .aload_n 0, 1), (74, .getfield 132, 3), (77, .iload_n 1, 1), (78, .iaload, 1), (79, .iadd, 1)]
theorem aJ_522_7 : sx_iB prog_14_method_216_code aI_522_7 = true := by decide +kernel
def aI_522_8 : sx_IL := [(80, .if_icmp .ge 70, 3), (83, .aload_n 0, 1), (84, .getfield 1205, 3), (87, .ifCond .ne 63, 3), (90, .aload_n 0, 1), (91, .getfield 144, 3)]
theorem aJ_522_8 : sx_iB prog_14_method_216_code aI_522_8 = true := by decide +kernel
def aI_522_9 : sx_IL := [(94, .iload 7, 2), (96, .iaload, 1), (97, .iload 4, 2), (99, .if_icmp .ne 45, 3), (102, .aload_n 0, 1), (103, .getfield 135, 3)]
theorem aJ_522_9 : sx_iB prog_14_method_216_code aI_522_9 = true := by decide +kernel
def aI_522_10 : sx_IL := [(106, .bipush 16, 2), (108, .iload 7, 2), (110, .imul, 1), (111, .aload_n 0, 1), (112, .getfield 138, 3), (115, .iload 7, 2)]
theorem aJ_522_10 : sx_iB prog_14_method_216_code aI_522_10 = true := by decide +kernel
def aI_522_11 : sx_IL := [(117, .iaload, 1), (118, .aload_n 0, 1), (119, .getfield 278, 3), (122, .iload_n 3, 1), (123, .iconst 1, 1), (124, .iadd, 1)]
theorem aJ_522_11 : sx_iB prog_14_method_216_code aI_522_11 = true := by decide +kernel
def aI_522_12 : sx_IL := [(125, .iload 6, 2), (127, .invokestatic 847, 3), (130, .ifCond .eq 14, 3), (133, .aload_n 0, 1), (134, .iconst 1, 1), (135, .putfield 1205, 3)]
theorem aJ_522_12 : sx_iB prog_14_method_216_code aI_522_12 = true := by decide +kernel
def aI_522_13 : sx_IL := [(138, .aload_n 0, 1), (139, .iload 7, 2), (141, .putfield 1211, 3), (144, .iinc 7 1, 3), (147, .goto (-80), 3), (150, .bipush 20, 2)]
theorem aJ_522_13 : sx_iB prog_14_method_216_code aI_522_13 = true := by decide +kernel
def aI_522_14 : sx_IL := [(152, .iload_n 1, 1), (153, .imul, 1), (154, .istore 7, 2), (156, .iload 7, 2), (158, .bipush 20, 2), (160, .iload_n 1, 1)]
theorem aJ_522_14 : sx_iB prog_14_method_216_code aI_522_14 = true := by decide +kernel
def aI_522_15 : sx_IL := [(161, .imul, 1), (162, .aload_n 0, 1), (163, .getfield 168, 3), (166, .iload_n 1, 1), (167, .iaload, 1), (168, .iadd, 1)]
theorem aJ_522_15 : sx_iB prog_14_method_216_code aI_522_15 = true := by decide +kernel
def aI_522_16 : sx_IL := [(169, .if_icmp .ge 92, 3), (172, .aload_n 0, 1), (173, .getfield 1205, 3), (176, .ifCond .ne 85, 3), (179, .iload 6, 2), (181, .bipush 8, 2)]
theorem aJ_522_16 : sx_iB prog_14_method_216_code aI_522_16 = true := by decide +kernel
def aI_522_17 : sx_IL := [(183, .if_icmp .ne 78, 3), (186, .aload_n 0, 1), (187, .getfield 171, 3), (190, .iload 7, 2), (192, .laload, 1), (193, .aload_n 0, 1)]
theorem aJ_522_17 : sx_iB prog_14_method_216_code aI_522_17 = true := by decide +kernel
def aI_522_18 : sx_IL := [(194, .getfield 278, 3), (197, .iload_n 3, 1), (198, .iconst 1, 1), (199, .iadd, 1), (200, .invokestatic 851, 3), (203, .lcmp, 1)]
theorem aJ_522_18 : sx_iB prog_14_method_216_code aI_522_18 = true := by decide +kernel
def aI_522_19 : sx_IL := [(204, .ifCond .ne 51, 3), (207, .aload_n 0, 1), (208, .getfield 177, 3), (211, .iload 7, 2), (213, .iaload, 1), (214, .invokestatic 602, 3)]
theorem aJ_522_19 : sx_iB prog_14_method_216_code aI_522_19 = true := by decide +kernel
def aI_522_20 : sx_IL := [(217, .iload 4, 2), (219, .if_icmp .ne 36, 3), (222, .aload_n 0, 1), (223, .getfield 507, 3), (226, .aload_n 0, 1), (227, .getfield 180, 3)]
theorem aJ_522_20 : sx_iB prog_14_method_216_code aI_522_20 = true := by decide +kernel
def aI_522_21 : sx_IL := [(230, .iload 7, 2), (232, .iaload, 1), (233, .isub, 1), (234, .aload_n 0, 1), (235, .getfield 183, 3), (238, .iload 7, 2)]
theorem aJ_522_21 : sx_iB prog_14_method_216_code aI_522_21 = true := by decide +kernel
def aI_522_22 : sx_IL := [(240, .iaload, 1), (241, .if_icmp .gt 14, 3), (244, .aload_n 0, 1), (245, .iconst 2, 1), (246, .putfield 1205, 3), (249, .aload_n 0, 1)]
theorem aJ_522_22 : sx_iB prog_14_method_216_code aI_522_22 = true := by decide +kernel
def aI_522_23 : sx_IL := [(250, .iload 7, 2), (252, .putfield 1211, 3), (255, .iinc 7 1, 3), (258, .goto (-102), 3), (261, .aload_n 0, 1), (262, .iload 5, 2)]
theorem aJ_522_23 : sx_iB prog_14_method_216_code aI_522_23 = true := by decide +kernel
def aI_522_24 : sx_IL := [(264, .putfield 1214, 3), (267, .aload_n 0, 1), (268, .aload_n 0, 1), (269, .getfield 278, 3), (272, .iload_n 3, 1), (273, .iconst 1, 1)]
theorem aJ_522_24 : sx_iB prog_14_method_216_code aI_522_24 = true := by decide +kernel
def aI_522_25 : sx_IL := [(274, .iadd, 1), (275, .iload 6, 2), (277, .iadd, 1), (278, .invokestatic 792, 3), (281, .putfield 1217, 3), (284, .iload_n 3, 1)]
theorem aJ_522_25 : sx_iB prog_14_method_216_code aI_522_25 = true := by decide +kernel
def aI_522_26 : sx_IL := [(285, .iconst 5, 1), (286, .iload 6, 2), (288, .iadd, 1), (289, .iadd, 1), (290, .istore_n 3, 1), (291, .iinc 5 1, 3)]
theorem aJ_522_26 : sx_iB prog_14_method_216_code aI_522_26 = true := by decide +kernel
def aI_522_27 : sx_IL := [(294, .goto (-254), 3), (297, .return_, 1)]
theorem aJ_522_27 : sx_iB prog_14_method_216_code aI_522_27 = true := by decide +kernel
def aS_522 (pc : Nat) : sx_IL := (if pc < 152 then (if pc < 72 then (if pc < 28 then (if pc < 10 then aI_522_0 else (if pc < 19 then aI_522_1 else aI_522_2)) else (if pc < 53 then (if pc < 40 then aI_522_3 else aI_522_4) else (if pc < 63 then aI_522_5 else aI_522_6))) else (if pc < 106 then (if pc < 80 then aI_522_7 else (if pc < 94 then aI_522_8 else aI_522_9)) else (if pc < 125 then (if pc < 117 then aI_522_10 else aI_522_11) else (if pc < 138 then aI_522_12 else aI_522_13)))) else (if pc < 230 then (if pc < 183 then (if pc < 161 then aI_522_14 else (if pc < 169 then aI_522_15 else aI_522_16)) else (if pc < 204 then (if pc < 194 then aI_522_17 else aI_522_18) else (if pc < 217 then aI_522_19 else aI_522_20))) else (if pc < 264 then (if pc < 240 then aI_522_21 else (if pc < 250 then aI_522_22 else aI_522_23)) else (if pc < 285 then (if pc < 274 then aI_522_24 else aI_522_25) else (if pc < 294 then aI_522_26 else aI_522_27)))))
theorem aT_522 (pc : Nat) : sx_iOk prog_14_method_216_code (aS_522 pc) := (sx_ite (p := fun l => sx_iOk prog_14_method_216_code l) (sx_ite (p := fun l => sx_iOk prog_14_method_216_code l) (sx_ite (p := fun l => sx_iOk prog_14_method_216_code l) (sx_ite (p := fun l => sx_iOk prog_14_method_216_code l) (sx_iB_s aJ_522_0) (sx_ite (p := fun l => sx_iOk prog_14_method_216_code l) (sx_iB_s aJ_522_1) (sx_iB_s aJ_522_2))) (sx_ite (p := fun l => sx_iOk prog_14_method_216_code l) (sx_ite (p := fun l => sx_iOk prog_14_method_216_code l) (sx_iB_s aJ_522_3) (sx_iB_s aJ_522_4)) (sx_ite (p := fun l => sx_iOk prog_14_method_216_code l) (sx_iB_s aJ_522_5) (sx_iB_s aJ_522_6)))) (sx_ite (p := fun l => sx_iOk prog_14_method_216_code l) (sx_ite (p := fun l => sx_iOk prog_14_method_216_code l) (sx_iB_s aJ_522_7) (sx_ite (p := fun l => sx_iOk prog_14_method_216_code l) (sx_iB_s aJ_522_8) (sx_iB_s aJ_522_9))) (sx_ite (p := fun l => sx_iOk prog_14_method_216_code l) (sx_ite (p := fun l => sx_iOk prog_14_method_216_code l) (sx_iB_s aJ_522_10) (sx_iB_s aJ_522_11)) (sx_ite (p := fun l => sx_iOk prog_14_method_216_code l) (sx_iB_s aJ_522_12) (sx_iB_s aJ_522_13))))) (sx_ite (p := fun l => sx_iOk prog_14_method_216_code l) (sx_ite (p := fun l => sx_iOk prog_14_method_216_code l) (sx_ite (p := fun l => sx_iOk prog_14_method_216_code l) (sx_iB_s aJ_522_14) (sx_ite (p := fun l => sx_iOk prog_14_method_216_code l) (sx_iB_s aJ_522_15) (sx_iB_s aJ_522_16))) (sx_ite (p := fun l => sx_iOk prog_14_method_216_code l) (sx_ite (p := fun l => sx_iOk prog_14_method_216_code l) (sx_iB_s aJ_522_17) (sx_iB_s aJ_522_18)) (sx_ite (p := fun l => sx_iOk prog_14_method_216_code l) (sx_iB_s aJ_522_19) (sx_iB_s aJ_522_20)))) (sx_ite (p := fun l => sx_iOk prog_14_method_216_code l) (sx_ite (p := fun l => sx_iOk prog_14_method_216_code l) (sx_iB_s aJ_522_21) (sx_ite (p := fun l => sx_iOk prog_14_method_216_code l) (sx_iB_s aJ_522_22) (sx_iB_s aJ_522_23))) (sx_ite (p := fun l => sx_iOk prog_14_method_216_code l) (sx_ite (p := fun l => sx_iOk prog_14_method_216_code l) (sx_iB_s aJ_522_24) (sx_iB_s aJ_522_25)) (sx_ite (p := fun l => sx_iOk prog_14_method_216_code l) (sx_iB_s aJ_522_26) (sx_iB_s aJ_522_27))))))
def aW_522 : Nat → Option (Instr × Nat) := fun pc => sx_iF (aS_522 pc) pc
theorem aX_522 : ∀ pc i len, aW_522 pc = some (i, len) → decode aM_522.1.2.1 pc = .ok (i, len) := fun pc i len h => sx_iF_s (aT_522 pc) h
def aI_523_0 : sx_IL := [(0, .aload_n 0, 1), (1, .getfield 278, 3), (4, .aload_n 0, 1), (5, .getfield 489, 3), (8, .bipush 10, 2), (10, .iaload, 1)]
theorem aJ_523_0 : sx_iB prog_14_method_218_code aI_523_0 = true := by decide +kernel
def aI_523_1 : sx_IL := [(11, .iaload, 1), (12, .istore_n 3, 1), (13, .aload_n 0, 1), (14, .getfield 489, 3), (17, .bipush 10, 2), (19, .iaload, 1)]
theorem aJ_523_1 : sx_iB prog_14_method_218_code aI_523_1 = true := by decide +kernel
def aI_523_2 : sx_IL := [(20, .aload_n 0, 1), (21, .getfield 492, 3), (24, .bipush 10, 2), (26, .iaload, 1), (27, .iadd, 1), (28, .bipush 8, 2)]
theorem aJ_523_2 : sx_iB prog_14_method_218_code aI_523_2 = true := by decide +kernel
def aI_523_3 : sx_IL := [(30, .iload_n 3, 1), (31, .imul, 1), (32, .isub, 1), (33, .istore 4, 2), (35, .aload_n 0, 1), (36, .iload_n 1, 1)]
theorem aJ_523_3 : sx_iB prog_14_method_218_code aI_523_3 = true := by decide +kernel
def aI_523_4 : sx_IL := [(37, .aload_n 0, 1), (38, .getfield 1208, 3), (41, .invokestatic 602, 3), (44, .aload_n 0, 1), (45, .invokevirtual 1220, 3), (48, .aload_n 0, 1)]
theorem aJ_523_4 : sx_iB prog_14_method_218_code aI_523_4 = true := by decide +kernel
def aI_523_5 : sx_IL := [(49, .getfield 278, 3), (52, .iload_n 2, 1), (53, .iconst 3, 1), (54, .isub, 1), (55, .iload 4, 2), (57, .iload_n 2, 1)]
theorem aJ_523_5 : sx_iB prog_14_method_218_code aI_523_5 = true := by decide +kernel
def aI_523_6 : sx_IL := [(58, .isub, 1), (59, .iconst 3, 1), (60, .iadd, 1), (61, .invokevirtual 1014, 3), (64, .lstore 5, 2), (66, .aload_n 0, 1)]
theorem aJ_523_6 : sx_iB prog_14_method_218_code aI_523_6 = true := by decide +kernel
def aI_523_7 : sx_IL := [(67, .getfield 278, 3), (70, .iload 4, 2), (72, .bipush 8, 2), (74, .aload_n 0, 1), (75, .getfield 1214, 3), (78, .imul, 1)]
theorem aJ_523_7 : sx_iB prog_14_method_218_code aI_523_7 = true := by decide +kernel
def aI_523_8 : sx_IL := [(79, .iadd, 1), (80, .invokestatic 851, 3), (83, .lload 5, 2), (85, .lcmp, 1), (86, .ifCond .ne 7, 3), (89, .iconst 1, 1)]
theorem aJ_523_8 : sx_iB prog_14_method_218_code aI_523_8 = true := by decide +kernel
def aI_523_9 : sx_IL := [(90, .goto 4, 3), (93, .iconst 0, 1), (94, .ireturn, 1)]
theorem aJ_523_9 : sx_iB prog_14_method_218_code aI_523_9 = true := by decide +kernel
def aS_523 (pc : Nat) : sx_IL := (if pc < 49 then (if pc < 20 then (if pc < 11 then aI_523_0 else aI_523_1) else (if pc < 30 then aI_523_2 else (if pc < 37 then aI_523_3 else aI_523_4))) else (if pc < 67 then (if pc < 58 then aI_523_5 else aI_523_6) else (if pc < 79 then aI_523_7 else (if pc < 90 then aI_523_8 else aI_523_9))))
theorem aT_523 (pc : Nat) : sx_iOk prog_14_method_218_code (aS_523 pc) := (sx_ite (p := fun l => sx_iOk prog_14_method_218_code l) (sx_ite (p := fun l => sx_iOk prog_14_method_218_code l) (sx_ite (p := fun l => sx_iOk prog_14_method_218_code l) (sx_iB_s aJ_523_0) (sx_iB_s aJ_523_1)) (sx_ite (p := fun l => sx_iOk prog_14_method_218_code l) (sx_iB_s aJ_523_2) (sx_ite (p := fun l => sx_iOk prog_14_method_218_code l) (sx_iB_s aJ_523_3) (sx_iB_s aJ_523_4)))) (sx_ite (p := fun l => sx_iOk prog_14_method_218_code l) (sx_ite (p := fun l => sx_iOk prog_14_method_218_code l) (sx_iB_s aJ_523_5) (sx_iB_s aJ_523_6)) (sx_ite (p := fun l => sx_iOk prog_14_method_218_code l) (sx_iB_s aJ_523_7) (sx_ite (p := fun l => sx_iOk prog_14_method_218_code l) (sx_iB_s aJ_523_8) (sx_iB_s aJ_523_9)))))
def aW_523 : Nat → Option (Instr × Nat) := fun pc => sx_iF (aS_523 pc) pc
theorem aX_523 : ∀ pc i len, aW_523 pc = some (i, len) → decode aM_523.1.2.1 pc = .ok (i, len) := fun pc i len h => sx_iF_s (aT_523 pc) h
def aI_524_0 : sx_IL := [(0, .aload_n 0, 1), (1, .getfield 1205, 3), (4, .iconst 1, 1), (5, .if_icmp .ne 15, 3), (8, .aload_n 0, 1), (9, .getfield 141, 3)]
theorem aJ_524_0 : sx_iB prog_14_method_217_code aI_524_0 = true := by decide +kernel
def aI_524_1 : sx_IL := [(12, .aload_n 0, 1), (13, .getfield 1211, 3), (16, .laload, 1), (17, .goto 12, 3), (20, .aload_n 0, 1), (21, .getfield 174, 3)]
theorem aJ_524_1 : sx_iB prog_14_method_217_code aI_524_1 = true := by decide +kernel
def aI_524_2 : sx_IL := [(24, .aload_n 0, 1), (25, .getfield 1211, 3), (28, .laload, 1), (29, .lreturn, 1)]
theorem aJ_524_2 : sx_iB prog_14_method_217_code aI_524_2 = true := by decide +kernel
def aS_524 (pc : Nat) : sx_IL := (if pc < 12 then aI_524_0 else (if pc < 24 then aI_524_1 else aI_524_2))
theorem aT_524 (pc : Nat) : sx_iOk prog_14_method_217_code (aS_524 pc) := (sx_ite (p := fun l => sx_iOk prog_14_method_217_code l) (sx_iB_s aJ_524_0) (sx_ite (p := fun l => sx_iOk prog_14_method_217_code l) (sx_iB_s aJ_524_1) (sx_iB_s aJ_524_2)))
def aW_524 : Nat → Option (Instr × Nat) := fun pc => sx_iF (aS_524 pc) pc
theorem aX_524 : ∀ pc i len, aW_524 pc = some (i, len) → decode aM_524.1.2.1 pc = .ok (i, len) := fun pc i len h => sx_iF_s (aT_524 pc) h
def aI_525_0 : sx_IL := [(0, .aload_n 0, 1), (1, .iload_n 1, 1), (2, .invokevirtual 1064, 3), (5, .ifCond .eq 28, 3), (8, .iload_n 2, 1), (9, .iconst 2, 1)]
theorem aJ_525_0 : sx_iB prog_14_method_185_code aI_525_0 = true := by decide +kernel
def aI_525_1 : sx_IL := [(10, .if_icmp .eq 15, 3), (13, .iload_n 2, 1), (14, .bipush 20, 2), (16, .if_icmp .eq 9, 3), (19, .iload_n 2, 1), (20, .bipush 24, 2)]
theorem aJ_525_1 : sx_iB prog_14_method_185_code aI_525_1 = true := by decide +kernel
def aI_525_2 : sx_IL := [(22, .if_icmp .ne 7, 3), (25, .iconst 1, 1), (26, .goto 41, 3), (29, .iconst 0, 1), (30, .goto 37, 3), (33, .iload_n 2, 1)]
theorem aJ_525_2 : sx_iB prog_14_method_185_code aI_525_2 = true := by decide +kernel
def aI_525_3 : sx_IL := [(34, .iconst 1, 1), (35, .if_icmp .ne 10, 3), (38, .aload_n 0, 1), (39, .getfield 1071, 3), (42, .ifCond .eq 20, 3), (45, .iload_n 2, 1)]
theorem aJ_525_3 : sx_iB prog_14_method_185_code aI_525_3 = true := by decide +kernel
def aI_525_4 : sx_IL := [(46, .iconst 5, 1), (47, .if_icmp .eq 15, 3), (50, .iload_n 2, 1), (51, .bipush 20, 2), (53, .if_icmp .eq 9, 3), (56, .iload_n 2, 1)]
theorem aJ_525_4 : sx_iB prog_14_method_185_code aI_525_4 = true := by decide +kernel
def aI_525_5 : sx_IL := [(57, .bipush 24, 2), (59, .if_icmp .ne 7, 3), (62, .iconst 1, 1), (63, .goto 4, 3), (66, .iconst 0, 1), (67, .ireturn, 1)]
theorem aJ_525_5 : sx_iB prog_14_method_185_code aI_525_5 = true := by decide +kernel
def aS_525 (pc : Nat) : sx_IL := (if pc < 34 then (if pc < 10 then aI_525_0 else (if pc < 22 then aI_525_1 else aI_525_2)) else (if pc < 46 then aI_525_3 else (if pc < 57 then aI_525_4 else aI_525_5)))
theorem aT_525 (pc : Nat) : sx_iOk prog_14_method_185_code (aS_525 pc) := (sx_ite (p := fun l => sx_iOk prog_14_method_185_code l) (sx_ite (p := fun l => sx_iOk prog_14_method_185_code l) (sx_iB_s aJ_525_0) (sx_ite (p := fun l => sx_iOk prog_14_method_185_code l) (sx_iB_s aJ_525_1) (sx_iB_s aJ_525_2))) (sx_ite (p := fun l => sx_iOk prog_14_method_185_code l) (sx_iB_s aJ_525_3) (sx_ite (p := fun l => sx_iOk prog_14_method_185_code l) (sx_iB_s aJ_525_4) (sx_iB_s aJ_525_5))))
def aW_525 : Nat → Option (Instr × Nat) := fun pc => sx_iF (aS_525 pc) pc
theorem aX_525 : ∀ pc i len, aW_525 pc = some (i, len) → decode aM_525.1.2.1 pc = .ok (i, len) := fun pc i len h => sx_iF_s (aT_525 pc) h
def aI_526_0 : sx_IL := [(0, .iload_n 1, 1), (1, .iconst 2, 1), (2, .idiv, 1), (3, .istore 5, 2), (5, .aload_n 0, 1), (6, .getfield 261, 3)]
theorem aJ_526_0 : sx_iB prog_14_method_200_code aI_526_0 = true := by decide +kernel
def aI_526_1 : sx_IL := [(9, .iload_n 1, 1), (10, .iaload, 1), (11, .istore 6, 2), (13, .iload_n 2, 1), (14, .tableswitch 602 2 20 #[90, 602, 591, 602, 331, 602, 360, 602, 602, 501, 602, 440, 602, 543, 602, 602, 602, 602, 574], 90), (104, .aload_n 0, 1)]
theorem aJ_526_1 : sx_iB prog_14_method_200_code aI_526_1 = true := by decide +kernel
def aI_526_2 : sx_IL := [(105, .getfield 330, 3), (108, .iload_n 1, 1), (109, .aload_n 0, 1), (110, .getfield 278, 3), (113, .iload_n 3, 1), (114, .bipush 8, 2)]
theorem aJ_526_2 : sx_iB prog_14_method_200_code aI_526_2 = true := by decide +kernel
def aI_526_3 : sx_IL := [(116, .iadd, 1), (117, .iaload, 1), (118, .iastore, 1), (119, .aload_n 0, 1), (120, .iload_n 1, 1), (121, .iload_n 3, 1)]
theorem aJ_526_3 : sx_iB prog_14_method_200_code aI_526_3 = true := by decide +kernel
def aI_526_4 : sx_IL := [(122, .iload 4, 2), (124, .invokevirtual 1139, 3), (127, .aload_n 0, 1), (128, .getfield 333, 3), (131, .iload_n 1, 1), (132, .aload_n 0, 1)]
theorem aJ_526_4 : sx_iB prog_14_method_200_code aI_526_4 = true := by decide +kernel
def aI_526_5 : sx_IL := [(133, .iconst 4, 1), (134, .invokevirtual 1105, 3), (137, .ifCond .eq 13, 3), (140, .aload_n 0, 1), (141, .getfield 411, 3), (144, .iload 5, 2)]
theorem aJ_526_5 : sx_iB prog_14_method_200_code aI_526_5 = true := by decide +kernel
def aI_526_6 : sx_IL := [(146, .iaload, 1), (147, .goto 4, 3), (150, .iconst 0, 1), (151, .iastore, 1), (152, .aload_n 0, 1), (153, .getfield 453, 3)]
theorem aJ_526_6 : sx_iB prog_14_method_200_code aI_526_6 = true := by decide +kernel
def aI_526_7 : sx_IL := [(156, .iload 5, 2), (158, .aload_n 0, 1), (159, .bipush 10, 2), (161, .invokevirtual 1105, 3), (164, .ifCond .eq 18, 3), (167, .aload_n 0, 1)]
theorem aJ_526_7 : sx_iB prog_14_method_200_code aI_526_7 = true := by decide +kernel
def aI_526_8 : sx_IL := [(168, .getfield 278, 3), (171, .aload_n 0, 1), (172, .getfield 489, 3), (175, .bipush 10, 2), (177, .iaload, 1), (178, .iaload, 1)]
theorem aJ_526_8 : sx_iB prog_14_method_200_code aI_526_8 = true := by decide +kernel
def aI_526_9 : sx_IL := [(179, .goto 5, 3), (182, .bipush (-4), 2), (184, .iastore, 1), (185, .bipush 6, 2), (187, .iload 5, 2), (189, .imul, 1)]
theorem aJ_526_9 : sx_iB prog_14_method_200_code aI_526_9 = true := by decide +kernel
def aI_526_10 : sx_IL := [(190, .aload_n 0, 1), (191, .getfield 453, 3), (194, .iload 5, 2), (196, .iaload, 1), (197, .bipush (-4), 2), (199, .if_icmp .ne 7, 3)]
theorem aJ_526_10 : sx_iB prog_14_method_200_code aI_526_10 = true := by decide +kernel
def aI_526_11 : sx_IL := [(202, .iconst 0, 1), (203, .goto 10, 3), (206, .aload_n 0, 1), (207, .getfield 453, 3), (210, .iload 5, 2), (212, .iaload, 1)]
theorem aJ_526_11 : sx_iB prog_14_method_200_code aI_526_11 = true := by decide +kernel
def aI_526_12 : sx_IL := [(213, .iadd, 1), (214, .istore 7, 2), (216, .aload_n 0, 1), (217, .getfield 339, 3), (220, .iload_n 1, 1), (221, .aload_n 0, 1)]
theorem aJ_526_12 : sx_iB prog_14_method_200_code aI_526_12 = true := by decide +kernel
def aI_526_13 : sx_IL := [(222, .getfield 453, 3), (225, .iload 5, 2), (227, .iaload, 1), (228, .bipush (-4), 2), (230, .if_icmp .ne 7, 3), (233, .iconst 0, 1)]
theorem aJ_526_13 : sx_iB prog_14_method_200_code aI_526_13 = true := by decide +kernel
def aI_526_14 : sx_IL := [(234, .goto 18, 3), (237, .aload_n 0, 1), (238, .getfield 435, 3), (241, .iload 7, 2), (243, .baload, 1), (244, .ifCond .eq 7, 3)]
theorem aJ_526_14 : sx_iB prog_14_method_200_code aI_526_14 = true := by decide +kernel
def aI_526_15 : sx_IL := [(247, .iconst 2, 1), (248, .goto 4, 3), (251, .iconst 1, 1), (252, .iastore, 1), (253, .aload_n 0, 1), (254, .iload_n 1, 1)]
theorem aJ_526_15 : sx_iB prog_14_method_200_code aI_526_15 = true := by decide +kernel
def aI_526_16 : sx_IL := [(255, .aload_n 0, 1), (256, .getfield 453, 3), (259, .iload 5, 2), (261, .iaload, 1), (262, .bipush (-4), 2), (264, .if_icmp .ne 7, 3)]
theorem aJ_526_16 : sx_iB prog_14_method_200_code aI_526_16 = true := by decide +kernel
def aI_526_17 : sx_IL := [(267, .lconst 0, 1), (268, .goto 10, 3), (271, .aload_n 0, 1), (272, .getfield 429, 3), (275, .iload 7, 2), (277, .laload, 1)]
theorem aJ_526_17 : sx_iB prog_14_method_200_code aI_526_17 = true := by decide +kernel
def aI_526_18 : sx_IL := [(278, .aload_n 0, 1), (279, .iconst 4, 1), (280, .invokevirtual 1105, 3), (283, .ifCond .eq 10, 3), (286, .aload_n 0, 1), (287, .getfield 1133, 3)]
theorem aJ_526_18 : sx_iB prog_14_method_200_code aI_526_18 = true := by decide +kernel
def aI_526_19 : sx_IL := [(290, .goto 4, 3), (293, .lconst 0, 1), (294, .invokevirtual 1142, 3), (297, .aload_n 0, 1), (298, .iload_n 1, 1), (299, .aload_n 0, 1)]
theorem aJ_526_19 : sx_iB prog_14_method_200_code aI_526_19 = true := by decide +kernel
def aI_526_20 : sx_IL := [(300, .getfield 375, 3), (303, .iload_n 1, 1), (304, .laload, 1), (305, .invokevirtual 1146, 3), (308, .aload_n 0, 1), (309, .getfield 441, 3)]
theorem aJ_526_20 : sx_iB prog_14_method_200_code aI_526_20 = true := by decide +kernel
def aI_526_21 : sx_IL := [(312, .iload 5, 2), (314, .baload, 1), (315, .ifCond .ne 20, 3), (318, .aload_n 0, 1), (319, .iload_n 1, 1), (320, .aload_n 0, 1)]
theorem aJ_526_21 : sx_iB prog_14_method_200_code aI_526_21 = true := by decide +kernel
def aI_526_22 : sx_IL := [(321, .getfield 330, 3), (324, .iload_n 1, 1), (325, .iaload, 1), (326, .aload_n 0, 1), (327, .getfield 372, 3), (330, .iload_n 1, 1)]
theorem aJ_526_22 : sx_iB prog_14_method_200_code aI_526_22 = true := by decide +kernel
def aI_526_23 : sx_IL := [(331, .laload, 1), (332, .invokevirtual 1034, 3), (335, .aload_n 0, 1), (336, .getfield 291, 3), (339, .iload_n 1, 1), (340, .iconst 2, 1)]
theorem aJ_526_23 : sx_iB prog_14_method_200_code aI_526_23 = true := by decide +kernel
def aI_526_24 : sx_IL := [(341, .iastore, 1), (342, .goto 285, 3), (345, .aload_n 0, 1), (346, .iload 5, 2), (348, .aload_n 0, 1), (349, .getfield 278, 3)]
theorem aJ_526_24 : sx_iB prog_14_method_200_code aI_526_24 = true := by decide +kernel
def aI_526_25 : sx_IL := [(352, .iload_n 3, 1), (353, .iaload, 1), (354, .aload_n 0, 1), (355, .getfield 278, 3), (358, .aload_n 0, 1), (359, .getfield 489, 3)]
theorem aJ_526_25 : sx_iB prog_14_method_200_code aI_526_25 = true := by decide +kernel
def aI_526_26 : sx_IL := [(362, .iconst 3, 1), (363, .iaload, 1), (364, .iaload, 1), (365, .iload_n 3, 1), (366, .iload 4, 2), (368, .invokevirtual 1149, 3)]
theorem aJ_526_26 : sx_iB prog_14_method_200_code aI_526_26 = true := by decide +kernel
def aI_526_27 : sx_IL := [(371, .goto 256, 3), (374, .aload_n 0, 1), (375, .iload_n 1, 1), (376, .iload_n 3, 1), (377, .iload 4, 2), (379, .invokevirtual 1139, 3)]
theorem aJ_526_27 : sx_iB prog_14_method_200_code aI_526_27 = true := by decide +kernel
def aI_526_28 : sx_IL := [(382, .aload_n 0, 1), (383, .getfield 342, 3), (386, .iload_n 1, 1), (387, .aload_n 0, 1), (388, .bipush 8, 2), (390, .invokevirtual 1105, 3)]
theorem aJ_526_28 : sx_iB prog_14_method_200_code aI_526_28 = true := by decide +kernel
def aI_526_29 : sx_IL := [(393, .bastore, 1), (394, .aload_n 0, 1), (395, .getfield 441, 3), (398, .iload 5, 2), (400, .baload, 1), (401, .ifCond .eq 29, 3)]
theorem aJ_526_29 : sx_iB prog_14_method_200_code aI_526_29 = true := by decide +kernel
def aI_526_30 : sx_IL := [(404, .aload_n 0, 1), (405, .getfield 342, 3), (408, .iload_n 1, 1), (409, .baload, 1), (410, .ifCond .ne 20, 3), (413, .aload_n 0, 1)]
theorem aJ_526_30 : sx_iB prog_14_method_200_code aI_526_30 = true := by decide +kernel
def aI_526_31 : sx_IL := [(414, .iload_n 1, 1), (415, .aload_n 0, 1), (416, .getfield 330, 3), (419, .iload_n 1, 1), (420, .iaload, 1), (421, .aload_n 0, 1)]
theorem aJ_526_31 : sx_iB prog_14_method_200_code aI_526_31 = true := by decide +kernel
def aI_526_32 : sx_IL := [(422, .getfield 372, 3), (425, .iload_n 1, 1), (426, .laload, 1), (427, .invokevirtual 1034, 3), (430, .aload_n 0, 1), (431, .getfield 291, 3)]
theorem aJ_526_32 : sx_iB prog_14_method_200_code aI_526_32 = true := by decide +kernel
def aI_526_33 : sx_IL := [(434, .iload_n 1, 1), (435, .aload_n 0, 1), (436, .getfield 339, 3), (439, .iload_n 1, 1), (440, .iaload, 1), (441, .ifCond .le 8, 3)]
theorem aJ_526_33 : sx_iB prog_14_method_200_code aI_526_33 = true := by decide +kernel
def aI_526_34 : sx_IL := [(444, .bipush 6, 2), (446, .goto 4, 3), (449, .iconst 3, 1), (450, .iastore, 1), (451, .goto 176, 3), (454, .aload_n 0, 1)]
theorem aJ_526_34 : sx_iB prog_14_method_200_code aI_526_34 = true := by decide +kernel
def aI_526_35 : sx_IL := [(455, .iload_n 1, 1), (456, .iload_n 3, 1), (457, .iload 4, 2), (459, .invokevirtual 1139, 3), (462, .aload_n 0, 1), (463, .getfield 444, 3)]
theorem aJ_526_35 : sx_iB prog_14_method_200_code aI_526_35 = true := by decide +kernel
def aI_526_36 : sx_IL := [(466, .iload 5, 2), (468, .iconst 1, 1), (469, .bastore, 1), (470, .aload_n 0, 1), (471, .getfield 384, 3), (474, .iload_n 1, 1)]
theorem aJ_526_36 : sx_iB prog_14_method_200_code aI_526_36 = true := by decide +kernel
def aI_526_37 : sx_IL := [(475, .aload_n 0, 1), (476, .iconst 5, 1), (477, .iconst 1, 1), (478, .invokevirtual 1153, 3), (481, .ifCond .eq 7, 3), (484, .iconst 1, 1)]
theorem aJ_526_37 : sx_iB prog_14_method_200_code aI_526_37 = true := by decide +kernel
def aI_526_38 : sx_IL := [(485, .goto 4, 3), (488, .iconst 0, 1), (489, .aload_n 0, 1), (490, .iconst 5, 1), (491, .iconst 2, 1), (492, .invokevirtual 1153, 3)]
theorem aJ_526_38 : sx_iB prog_14_method_200_code aI_526_38 = true := by decide +kernel
def aI_526_39 : sx_IL := [(495, .ifCond .eq 7, 3), (498, .iconst 2, 1), (499, .goto 4, 3), (502, .iconst 0, 1), (503, .iadd, 1), (504, .iastore, 1)]
theorem aJ_526_39 : sx_iB prog_14_method_200_code aI_526_39 = true := by decide +kernel
def aI_526_40 : sx_IL := [(505, .aload_n 0, 1), (506, .getfield 291, 3), (509, .iload_n 1, 1), (510, .iconst 4, 1), (511, .iastore, 1), (512, .goto 115, 3)]
theorem aJ_526_40 : sx_iB prog_14_method_200_code aI_526_40 = true := by decide +kernel
def aI_526_41 : sx_IL := [(515, .aload_n 0, 1), (516, .iload_n 1, 1), (517, .iload_n 3, 1), (518, .iload 4, 2), (520, .invokevirtual 1139, 3), (523, .aload_n 0, 1)]
theorem aJ_526_41 : sx_iB prog_14_method_200_code aI_526_41 = true := by decide +kernel
def aI_526_42 : sx_IL := [(524, .getfield 345, 3), (527, .iload_n 1, 1), (528, .aload_n 0, 1), (529, .getfield 1156, 3), (532, .iastore, 1), (533, .aload_n 0, 1)]
theorem aJ_526_42 : sx_iB prog_14_method_200_code aI_526_42 = true := by decide +kernel
def aI_526_43 : sx_IL := [(534, .getfield 381, 3), (537, .iload_n 1, 1), (538, .aload_n 0, 1), (539, .getfield 45, 3), (542, .sipush 244, 3), (545, .iaload, 1)]
theorem aJ_526_43 : sx_iB prog_14_method_200_code aI_526_43 = true := by decide +kernel
def aI_526_44 : sx_IL := [(546, .iastore, 1), (547, .aload_n 0, 1), (548, .getfield 291, 3), (551, .iload_n 1, 1), (552, .iconst 5, 1), (553, .iastore, 1)]
theorem aJ_526_44 : sx_iB prog_14_method_200_code aI_526_44 = true := by decide +kernel
def aI_526_45 : sx_IL := [(554, .goto 73, 3), (557, .aload_n 0, 1), (558, .iload_n 1, 1), (559, .iload_n 3, 1), (560, .iload 4, 2), (562, .invokevirtual 1139, 3)]
theorem aJ_526_45 : sx_iB prog_14_method_200_code aI_526_45 = true := by decide +kernel
def aI_526_46 : sx_IL := [(565, .aload_n 0, 1), (566, .getfield 336, 3), (569, .iload_n 1, 1), (570, .aload_n 0, 1), (571, .getfield 278, 3), (574, .iload_n 3, 1)]
theorem aJ_526_46 : sx_iB prog_14_method_200_code aI_526_46 = true := by decide +kernel
def aI_526_47 : sx_IL := [(575, .iaload, 1), (576, .iastore, 1), (577, .aload_n 0, 1), (578, .getfield 291, 3), (581, .iload_n 1, 1), (582, .bipush 6, 2)]
theorem aJ_526_47 : sx_iB prog_14_method_200_code aI_526_47 = true := by decide +kernel
def aI_526_48 : sx_IL := [(584, .iastore, 1), (585, .goto 42, 3), (588, .aload_n 0, 1), (589, .iload_n 1, 1), (590, .iload_n 3, 1), (591, .iload 4, 2)]
theorem aJ_526_48 : sx_iB prog_14_method_200_code aI_526_48 = true := by decide +kernel
def aI_526_49 : sx_IL := [(593, .invokevirtual 1139, 3), (596, .aload_n 0, 1), (597, .iload 5, 2), (599, .invokevirtual 1159, 3), (602, .goto 25, 3), (605, .aload_n 0, 1)]
theorem aJ_526_49 : sx_iB prog_14_method_200_code aI_526_49 = true := by decide +kernel
def aI_526_50 : sx_IL := [(606, .iload_n 1, 1), (607, .iload 6, 2), (609, .iload_n 3, 1), (610, .invokevirtual 1162, 3), (613, .goto 14, 3), (616, .aload_n 0, 1)]
theorem aJ_526_50 : sx_iB prog_14_method_200_code aI_526_50 = true := by decide +kernel
def aI_526_51 : sx_IL := [(617, .iload_n 1, 1), (618, .aload_n 0, 1), (619, .getfield 278, 3), (622, .iload_n 3, 1), (623, .iaload, 1), (624, .invokevirtual 1165, 3)]
theorem aJ_526_51 : sx_iB prog_14_method_200_code aI_526_51 = true := by decide +kernel
def aI_526_52 : sx_IL := [(627, .return_, 1)]
theorem aJ_526_52 : sx_iB prog_14_method_200_code aI_526_52 = true := by decide +kernel
def aS_526 (pc : Nat) : sx_IL := (if pc < 362 then (if pc < 222 then (if pc < 146 then (if pc < 116 then (if pc < 9 then aI_526_0 else (if pc < 105 then aI_526_1 else aI_526_2)) else (if pc < 122 then aI_526_3 else (if pc < 133 then aI_526_4 else aI_526_5))) else (if pc < 179 then (if pc < 156 then aI_526_6 else (if pc < 168 then aI_526_7 else aI_526_8)) else (if pc < 202 then (if pc < 190 then aI_526_9 else aI_526_10) else (if pc < 213 then aI_526_11 else aI_526_12)))) else (if pc < 290 then (if pc < 255 then (if pc < 234 then aI_526_13 else (if pc < 247 then aI_526_14 else aI_526_15)) else (if pc < 267 then aI_526_16 else (if pc < 278 then aI_526_17 else aI_526_18))) else (if pc < 321 then (if pc < 300 then aI_526_19 else (if pc < 312 then aI_526_20 else aI_526_21)) else (if pc < 341 then (if pc < 331 then aI_526_22 else aI_526_23) else (if pc < 352 then aI_526_24 else aI_526_25))))) else (if pc < 495 then (if pc < 422 then (if pc < 393 then (if pc < 371 then aI_526_26 else (if pc < 382 then aI_526_27 else aI_526_28)) else (if pc < 404 then aI_526_29 else (if pc < 414 then aI_526_30 else aI_526_31))) else (if pc < 455 then (if pc < 434 then aI_526_32 else (if pc < 444 then aI_526_33 else aI_526_34)) else (if pc < 475 then (if pc < 466 then aI_526_35 else aI_526_36) else (if pc < 485 then aI_526_37 else aI_526_38)))) else (if pc < 565 then (if pc < 524 then (if pc < 505 then aI_526_39 else (if pc < 515 then aI_526_40 else aI_526_41)) else (if pc < 546 then (if pc < 534 then aI_526_42 else aI_526_43) else (if pc < 554 then aI_526_44 else aI_526_45))) else (if pc < 593 then (if pc < 575 then aI_526_46 else (if pc < 584 then aI_526_47 else aI_526_48)) else (if pc < 617 then (if pc < 606 then aI_526_49 else aI_526_50) else (if pc < 627 then aI_526_51 else aI_526_52))))))
theorem aT_526 (pc : Nat) : sx_iOk prog_14_method_200_code (aS_526 pc) := (sx_ite (p := fun l => sx_iOk prog_14_method_200_code l) (sx_ite (p := fun l => sx_iOk prog_14_method_200_code l) (sx_ite (p := fun l => sx_iOk prog_14_method_200_code l) (sx_ite (p := fun l => sx_iOk prog_14_method_200_code l) (sx_ite (p := fun l => sx_iOk prog_14_method_200_code l) (sx_iB_s aJ_526_0) (sx_ite (p := fun l => sx_iOk prog_14_method_200_code l) (sx_iB_s aJ_526_1) (sx_iB_s aJ_526_2))) (sx_ite (p := fun l => sx_iOk prog_14_method_200_code l) (sx_iB_s aJ_526_3) (sx_ite (p := fun l => sx_iOk prog_14_method_200_code l) (sx_iB_s aJ_526_4) (sx_iB_s aJ_526_5)))) (sx_ite (p := fun l => sx_iOk prog_14_method_200_code l) (sx_ite (p := fun l => sx_iOk prog_14_method_200_code l) (sx_iB_s aJ_526_6) (sx_ite (p := fun l => sx_iOk prog_14_method_200_code l) (sx_iB_s aJ_526_7) (sx_iB_s aJ_526_8))) (sx_ite (p := fun l => sx_iOk prog_14_method_200_code l) (sx_ite (p := fun l => sx_iOk prog_14_method_200_code l) (sx_iB_s aJ_526_9) (sx_iB_s aJ_526_10)) (sx_ite (p := fun l => sx_iOk prog_14_method_200_code l) (sx_iB_s aJ_526_11) (sx_iB_s aJ_526_12))))) (sx_ite (p := fun l => sx_iOk prog_14_method_200_code l) (sx_ite (p := fun l => sx_iOk prog_14_method_200_code l) (sx_ite (p := fun l => sx_iOk prog_14_method_200_code l) (sx_iB_s aJ_526_13) (sx_ite (p := fun l => sx_iOk prog_14_method_200_code l) (sx_iB_s aJ_526_14) (sx_iB_s aJ_526_15))) (sx_ite (p := fun l => sx_iOk prog_14_method_200_code l) (sx_iB_s aJ_526_16) (sx_ite (p := fun l => sx_iOk prog_14_method_200_code l) (sx_iB_s aJ_526_17) (sx_iB_s aJ_526_18)))) (sx_ite (p := fun l => sx_iOk prog_14_method_200_code l) (sx_ite (p := fun l => sx_iOk prog_14_method_200_code l) (sx_iB_s aJ_526_19) (sx_ite (p := fun l => sx_iOk prog_14_method_200_code l) (sx_iB_s aJ_526_20) (sx_iB_s aJ_526_21))) (sx_ite (p := fun l => sx_iOk prog_14_method_200_code l) (sx_ite (p := fun l => sx_iOk prog_14_method_200_code l) (sx_iB_s aJ_526_22) (sx_iB_s aJ_526_23)) (sx_ite (p := fun l => sx_iOk prog_14_method_200_code l) (sx_iB_s aJ_526_24) (sx_iB_s aJ_526_25)))))) (sx_ite (p := fun l => sx_iOk prog_14_method_200_code l) (sx_ite (p := fun l => sx_iOk prog_14_method_200_code l) (sx_ite (p := fun l => sx_iOk prog_14_method_200_code l) (sx_ite (p := fun l => sx_iOk prog_14_method_200_code l) (sx_iB_s aJ_526_26) (sx_ite (p := fun l => sx_iOk prog_14_method_200_code l) (sx_iB_s aJ_526_27) (sx_iB_s aJ_526_28))) (sx_ite (p := fun l => sx_iOk prog_14_method_200_code l) (sx_iB_s aJ_526_29) (sx_ite (p := fun l => sx_iOk prog_14_method_200_code l) (sx_iB_s aJ_526_30) (sx_iB_s aJ_526_31)))) (sx_ite (p := fun l => sx_iOk prog_14_method_200_code l) (sx_ite (p := fun l => sx_iOk prog_14_method_200_code l) (sx_iB_s aJ_526_32) (sx_ite (p := fun l => sx_iOk prog_14_method_200_code l) (sx_iB_s aJ_526_33) (sx_iB_s aJ_526_34))) (sx_ite (p := fun l => sx_iOk prog_14_method_200_code l) (sx_ite (p := fun l => sx_iOk prog_14_method_200_code l) (sx_iB_s aJ_526_35) (sx_iB_s aJ_526_36)) (sx_ite (p := fun l => sx_iOk prog_14_method_200_code l) (sx_iB_s aJ_526_37) (sx_iB_s aJ_526_38))))) (sx_ite (p := fun l => sx_iOk prog_14_method_200_code l) (sx_ite (p := fun l => sx_iOk prog_14_method_200_code l) (sx_ite (p := fun l => sx_iOk prog_14_method_200_code l) (sx_iB_s aJ_526_39) (sx_ite (p := fun l => sx_iOk prog_14_method_200_code l) (sx_iB_s aJ_526_40) (sx_iB_s aJ_526_41))) (sx_ite (p := fun l => sx_iOk prog_14_method_200_code l) (sx_ite (p := fun l => sx_iOk prog_14_method_200_code l) (sx_iB_s aJ_526_42) (sx_iB_s aJ_526_43)) (sx_ite (p := fun l => sx_iOk prog_14_method_200_code l) (sx_iB_s aJ_526_44) (sx_iB_s aJ_526_45)))) (sx_ite (p := fun l => sx_iOk prog_14_method_200_code l) (sx_ite (p := fun l => sx_iOk prog_14_method_200_code l) (sx_iB_s aJ_526_46) (sx_ite (p := fun l => sx_iOk prog_14_method_200_code l) (sx_iB_s aJ_526_47) (sx_iB_s aJ_526_48))) (sx_ite (p := fun l => sx_iOk prog_14_method_200_code l) (sx_ite (p := fun l => sx_iOk prog_14_method_200_code l) (sx_iB_s aJ_526_49) (sx_iB_s aJ_526_50)) (sx_ite (p := fun l => sx_iOk prog_14_method_200_code l) (sx_iB_s aJ_526_51) (sx_iB_s aJ_526_52)))))))
def aW_526 : Nat → Option (Instr × Nat) := fun pc => sx_iF (aS_526 pc) pc
theorem aX_526 : ∀ pc i len, aW_526 pc = some (i, len) → decode aM_526.1.2.1 pc = .ok (i, len) := fun pc i len h => sx_iF_s (aT_526 pc) h
def aI_527_0 : sx_IL := [(0, .aload_n 0, 1), (1, .iload_n 1, 1), (2, .aload_n 0, 1), (3, .getfield 278, 3), (6, .iload_n 2, 1), (7, .iconst 3, 1)]
theorem aJ_527_0 : sx_iB prog_14_method_199_code aI_527_0 = true := by decide +kernel
def aI_527_1 : sx_IL := [(8, .isub, 1), (9, .iload_n 3, 1), (10, .iconst 3, 1), (11, .iadd, 1), (12, .invokevirtual 983, 3), (15, .return_, 1)]
theorem aJ_527_1 : sx_iB prog_14_method_199_code aI_527_1 = true := by decide +kernel
def aS_527 (pc : Nat) : sx_IL := (if pc < 8 then aI_527_0 else aI_527_1)
theorem aT_527 (pc : Nat) : sx_iOk prog_14_method_199_code (aS_527 pc) := (sx_ite (p := fun l => sx_iOk prog_14_method_199_code l) (sx_iB_s aJ_527_0) (sx_iB_s aJ_527_1))
def aW_527 : Nat → Option (Instr × Nat) := fun pc => sx_iF (aS_527 pc) pc
theorem aX_527 : ∀ pc i len, aW_527 pc = some (i, len) → decode aM_527.1.2.1 pc = .ok (i, len) := fun pc i len h => sx_iF_s (aT_527 pc) h
def aI_528_0 : sx_IL := [(0, .aload_n 0, 1), (1, .iload_n 1, 1), (2, .invokevirtual 998, 3), (5, .istore 6, 2), (7, .aload_n 0, 1), (8, .getfield 357, 3)]
theorem aJ_528_0 : sx_iB prog_14_method_165_code aI_528_0 = true := by decide +kernel
def aI_528_1 : sx_IL := [(11, .iload_n 1, 1), (12, .aload_n 0, 1), (13, .iload 6, 2), (15, .lload_n 2, 1), (16, .invokevirtual 1001, 3), (19, .lastore, 1)]
theorem aJ_528_1 : sx_iB prog_14_method_165_code aI_528_1 = true := by decide +kernel
def aI_528_2 : sx_IL := [(20, .aload_n 0, 1), (21, .getfield 360, 3), (24, .iload_n 1, 1), (25, .aload_n 0, 1), (26, .iload 6, 2), (28, .aload_n 0, 1)]
theorem aJ_528_2 : sx_iB prog_14_method_165_code aI_528_2 = true := by decide +kernel
def aI_528_3 : sx_IL := [(29, .iload 6, 2), (31, .aload_n 0, 1), (32, .getfield 357, 3), (35, .iload_n 1, 1), (36, .laload, 1), (37, .bipush 100, 2)]
theorem aJ_528_3 : sx_iB prog_14_method_165_code aI_528_3 = true := by decide +kernel
def aI_528_4 : sx_IL := [(39, .lconst 0, 1), (40, .invokevirtual 598, 3), (43, .lload 4, 2), (45, .invokevirtual 994, 3), (48, .lastore, 1), (49, .aload_n 0, 1)]
theorem aJ_528_4 : sx_iB prog_14_method_165_code aI_528_4 = true := by decide +kernel
def aI_528_5 : sx_IL := [(50, .iload_n 1, 1), (51, .iload 6, 2), (53, .invokevirtual 973, 3), (56, .lstore 7, 2), (58, .aload_n 0, 1), (59, .getfield 372, 3)]
theorem aJ_528_5 : sx_iB prog_14_method_165_code aI_528_5 = true := by decide +kernel
def aI_528_6 : sx_IL := [(62, .iload_n 1, 1), (63, .aload_n 0, 1), (64, .iload 6, 2), (66, .aload_n 0, 1), (67, .getfield 360, 3), (70, .iload_n 1, 1)]
theorem aJ_528_6 : sx_iB prog_14_method_165_code aI_528_6 = true := by decide +kernel
def aI_528_7 : sx_IL := [(71, .laload, 1), (72, .bipush 99, 2), (74, .lload 7, 2), (76, .invokevirtual 598, 3), (79, .lastore, 1), (80, .aload_n 0, 1)]
theorem aJ_528_7 : sx_iB prog_14_method_165_code aI_528_7 = true := by decide +kernel
def aI_528_8 : sx_IL := [(81, .getfield 375, 3), (84, .iload_n 1, 1), (85, .aload_n 0, 1), (86, .iload 6, 2), (88, .aload_n 0, 1), (89, .getfield 360, 3)]
theorem aJ_528_8 : sx_iB prog_14_method_165_code aI_528_8 = true := by decide +kernel
def aI_528_9 : sx_IL := [(92, .iload_n 1, 1), (93, .laload, 1), (94, .bipush 115, 2), (96, .lload 7, 2), (98, .invokevirtual 598, 3), (101, .lastore, 1)]
theorem aJ_528_9 : sx_iB prog_14_method_165_code aI_528_9 = true := by decide +kernel
def aI_528_10 : sx_IL := [(102, .return_, 1)]
theorem aJ_528_10 : sx_iB prog_14_method_165_code aI_528_10 = true := by decide +kernel
def aS_528 (pc : Nat) : sx_IL := (if pc < 50 then (if pc < 20 then (if pc < 11 then aI_528_0 else aI_528_1) else (if pc < 29 then aI_528_2 else (if pc < 39 then aI_528_3 else aI_528_4))) else (if pc < 81 then (if pc < 62 then aI_528_5 else (if pc < 71 then aI_528_6 else aI_528_7)) else (if pc < 92 then aI_528_8 else (if pc < 102 then aI_528_9 else aI_528_10))))
theorem aT_528 (pc : Nat) : sx_iOk prog_14_method_165_code (aS_528 pc) := (sx_ite (p := fun l => sx_iOk prog_14_method_165_code l) (sx_ite (p := fun l => sx_iOk prog_14_method_165_code l) (sx_ite (p := fun l => sx_iOk prog_14_method_165_code l) (sx_iB_s aJ_528_0) (sx_iB_s aJ_528_1)) (sx_ite (p := fun l => sx_iOk prog_14_method_165_code l) (sx_iB_s aJ_528_2) (sx_ite (p := fun l => sx_iOk prog_14_method_165_code l) (sx_iB_s aJ_528_3) (sx_iB_s aJ_528_4)))) (sx_ite (p := fun l => sx_iOk prog_14_method_165_code l) (sx_ite (p := fun l => sx_iOk prog_14_method_165_code l) (sx_iB_s aJ_528_5) (sx_ite (p := fun l => sx_iOk prog_14_method_165_code l) (sx_iB_s aJ_528_6) (sx_iB_s aJ_528_7))) (sx_ite (p := fun l => sx_iOk prog_14_method_165_code l) (sx_iB_s aJ_528_8) (sx_ite (p := fun l => sx_iOk prog_14_method_165_code l) (sx_iB_s aJ_528_9) (sx_iB_s aJ_528_10)))))
def aW_528 : Nat → Option (Instr × Nat) := fun pc => sx_iF (aS_528 pc) pc
theorem aX_528 : ∀ pc i len, aW_528 pc = some (i, len) → decode aM_528.1.2.1 pc = .ok (i, len) := fun pc i len h => sx_iF_s (aT_528 pc) h
def aI_529_0 : sx_IL := [(0, .aload_n 0, 1), (1, .getfield 312, 3), (4, .iload_n 1, 1), (5, .iconst 1, 1), (6, .bastore, 1), (7, .aload_n 0, 1)]
theorem aJ_529_0 : sx_iB prog_14_method_158_code aI_529_0 = true := by decide +kernel
def aI_529_1 : sx_IL := [(8, .getfield 318, 3), (11, .iload_n 1, 1), (12, .lload_n 2, 1), (13, .lastore, 1), (14, .aload_n 0, 1), (15, .getfield 324, 3)]
theorem aJ_529_1 : sx_iB prog_14_method_158_code aI_529_1 = true := by decide +kernel
def aI_529_2 : sx_IL := [(18, .iload_n 1, 1), (19, .iconst 0, 1), (20, .iastore, 1), (21, .return_, 1)]
theorem aJ_529_2 : sx_iB prog_14_method_158_code aI_529_2 = true := by decide +kernel
def aS_529 (pc : Nat) : sx_IL := (if pc < 8 then aI_529_0 else (if pc < 18 then aI_529_1 else aI_529_2))
theorem aT_529 (pc : Nat) : sx_iOk prog_14_method_158_code (aS_529 pc) := (sx_ite (p := fun l => sx_iOk prog_14_method_158_code l) (sx_iB_s aJ_529_0) (sx_ite (p := fun l => sx_iOk prog_14_method_158_code l) (sx_iB_s aJ_529_1) (sx_iB_s aJ_529_2)))
def aW_529 : Nat → Option (Instr × Nat) := fun pc => sx_iF (aS_529 pc) pc
theorem aX_529 : ∀ pc i len, aW_529 pc = some (i, len) → decode aM_529.1.2.1 pc = .ok (i, len) := fun pc i len h => sx_iF_s (aT_529 pc) h
def aI_530_0 : sx_IL := [(0, .iconst 2, 1), (1, .iload_n 1, 1), (2, .imul, 1), (3, .istore 6, 2), (5, .aload_n 0, 1), (6, .getfield 261, 3)]
theorem aJ_530_0 : sx_iB prog_14_method_201_code aI_530_0 = true := by decide +kernel
def aI_530_1 : sx_IL := [(9, .iload 6, 2), (11, .iaload, 1), (12, .istore 7, 2), (14, .aload_n 0, 1), (15, .getfield 450, 3), (18, .iload_n 1, 1)]
theorem aJ_530_1 : sx_iB prog_14_method_201_code aI_530_1 = true := by decide +kernel
def aI_530_2 : sx_IL := [(19, .aload_n 0, 1), (20, .bipush 9, 2), (22, .invokevirtual 1105, 3), (25, .bastore, 1), (26, .aload_n 0, 1), (27, .getfield 447, 3)]
theorem aJ_530_2 : sx_iB prog_14_method_201_code aI_530_2 = true := by decide +kernel
def aI_530_3 : sx_IL := [(30, .iload_n 1, 1), (31, .aload_n 0, 1), (32, .bipush 9, 2), (34, .invokevirtual 1105, 3), (37, .ifCond .eq 20, 3), (40, .aload_n 0, 1)]
theorem aJ_530_3 : sx_iB prog_14_method_201_code aI_530_3 = true := by decide +kernel
def aI_530_4 : sx_IL := [(41, .getfield 278, 3), (44, .aload_n 0, 1), (45, .getfield 489, 3), (48, .bipush 9, 2), (50, .iaload, 1), (51, .invokestatic 851, 3)]
theorem aJ_530_4 : sx_iB prog_14_method_201_code aI_530_4 = true := by decide +kernel
def aI_530_5 : sx_IL := [(54, .goto 4, 3), (57, .lconst 0, 1), (58, .lastore, 1), (59, .aload_n 0, 1), (60, .iload 6, 2), (62, .invokevirtual 1168, 3)]
theorem aJ_530_5 : sx_iB prog_14_method_201_code aI_530_5 = true := by decide +kernel
def aI_530_6 : sx_IL := [(65, .aload_n 0, 1), (66, .iload 6, 2), (68, .iload 4, 2), (70, .iload 5, 2), (72, .invokevirtual 1139, 3), (75, .aload_n 0, 1)]
theorem aJ_530_6 : sx_iB prog_14_method_201_code aI_530_6 = true := by decide +kernel
def aI_530_7 : sx_IL := [(76, .getfield 456, 3), (79, .iload 6, 2), (81, .iload_n 2, 1), (82, .iastore, 1), (83, .aload_n 0, 1), (84, .getfield 330, 3)]
theorem aJ_530_7 : sx_iB prog_14_method_201_code aI_530_7 = true := by decide +kernel
def aI_530_8 : sx_IL := [(87, .iload 6, 2), (89, .iload_n 2, 1), (90, .iastore, 1), (91, .aload_n 0, 1), (92, .getfield 309, 3), (95, .iload 6, 2)]
theorem aJ_530_8 : sx_iB prog_14_method_201_code aI_530_8 = true := by decide +kernel
def aI_530_9 : sx_IL := [(97, .iconst 0, 1), (98, .bastore, 1), (99, .aload_n 0, 1), (100, .getfield 441, 3), (103, .iload_n 1, 1), (104, .iconst 0, 1)]
theorem aJ_530_9 : sx_iB prog_14_method_201_code aI_530_9 = true := by decide +kernel
def aI_530_10 : sx_IL := [(105, .bastore, 1), (106, .aload_n 0, 1), (107, .getfield 411, 3), (110, .iload_n 1, 1), (111, .iload_n 3, 1), (112, .iastore, 1)]
theorem aJ_530_10 : sx_iB prog_14_method_201_code aI_530_10 = true := by decide +kernel
def aI_530_11 : sx_IL := [(113, .aload_n 0, 1), (114, .getfield 414, 3), (117, .iload_n 1, 1), (118, .aload_n 0, 1), (119, .iload 7, 2), (121, .invokevirtual 1021, 3)]
theorem aJ_530_11 : sx_iB prog_14_method_201_code aI_530_11 = true := by decide +kernel
def aI_530_12 : sx_IL := [(124, .iastore, 1), (125, .iconst 0, 1), (126, .istore 8, 2), (128, .iconst 0, 1), (129, .istore 9, 2), (131, .iload 9, 2)]
theorem aJ_530_12 : sx_iB prog_14_method_201_code aI_530_12 = true := by decide +kernel
def aI_530_13 : sx_IL := [(133, .aload_n 0, 1), (134, .getfield 420, 3), (137, .iload_n 1, 1), (138, .iaload, 1), (139, .if_icmp .ge 156, 3), (142, .bipush 6, 2)]
theorem aJ_530_13 : sx_iB prog_14_method_201_code aI_530_13 = true := by decide +kernel
def aI_530_14 : sx_IL := [(144, .iload_n 1, 1), (145, .imul, 1), (146, .iload 9, 2), (148, .iadd, 1), (149, .istore 10, 2), (151, .bipush 6, 2)]
theorem aJ_530_14 : sx_iB prog_14_method_201_code aI_530_14 = true := by decide +kernel
def aI_530_15 : sx_IL := [(153, .iload_n 1, 1), (154, .imul, 1), (155, .iload 8, 2), (157, .iadd, 1), (158, .istore 11, 2), (160, .aload_n 0, 1)]
theorem aJ_530_15 : sx_iB prog_14_method_201_code aI_530_15 = true := by decide +kernel
def aI_530_16 : sx_IL := [(161, .getfield 432, 3), (164, .iload 10, 2), (166, .iaload, 1), (167, .iload_n 2, 1), (168, .invokestatic 602, 3), (171, .if_icmp .ne 118, 3)]
theorem aJ_530_16 : sx_iB prog_14_method_201_code aI_530_16 = true := by decide +kernel
def aI_530_17 : sx_IL := [(174, .aload_n 0, 1), (175, .getfield 426, 3), (178, .iload 11, 2), (180, .aload_n 0, 1), (181, .getfield 426, 3), (184, .iload 10, 2)]
theorem aJ_530_17 : sx_iB prog_14_method_201_code aI_530_17 = true := by decide +kernel
def aI_530_18 : sx_IL := [(186, .iaload, 1), (187, .iastore, 1), (188, .aload_n 0, 1), (189, .getfield 429, 3), (192, .iload 11, 2), (194, .aload_n 0, 1)]
theorem aJ_530_18 : sx_iB prog_14_method_201_code aI_530_18 = true := by decide +kernel
def aI_530_19 : sx_IL := [(195, .getfield 429, 3), (198, .iload 10, 2), (200, .laload, 1), (201, .lastore, 1), (202, .aload_n 0, 1), (203, .getfield 432, 3)]
theorem aJ_530_19 : sx_iB prog_14_method_201_code aI_530_19 = true := by decide +kernel
def aI_530_20 : sx_IL := [(206, .iload 11, 2), (208, .aload_n 0, 1), (209, .getfield 432, 3), (212, .iload 10, 2), (214, .iaload, 1), (215, .iastore, 1)]
theorem aJ_530_20 : sx_iB prog_14_method_201_code aI_530_20 = true := by decide +kernel
def aI_530_21 : sx_IL := [(216, .aload_n 0, 1), (217, .getfield 435, 3), (220, .iload 11, 2), (222, .aload_n 0, 1), (223, .getfield 435, 3), (226, .iload 10, 2)]
theorem aJ_530_21 : sx_iB prog_14_method_201_code aI_530_21 = true := by decide +kernel
def aI_530_22 : sx_IL := [(228, .baload, 1), (229, .bastore, 1), (230, .aload_n 0, 1), (231, .getfield 438, 3), (234, .iload 11, 2), (236, .aload_n 0, 1)]
theorem aJ_530_22 : sx_iB prog_14_method_201_code aI_530_22 = true := by decide +kernel
def aI_530_23 : sx_IL := [(237, .getfield 438, 3), (240, .iload 10, 2), (242, .iaload, 1), (243, .iastore, 1), (244, .iconst 0, 1), (245, .istore 12, 2)]
theorem aJ_530_23 : sx_iB prog_14_method_201_code aI_530_23 = true := by decide +kernel
def aI_530_24 : sx_IL := [(247, .iload 12, 2), (249, .bipush 16, 2), (251, .if_icmp .ge 35, 3), (254, .aload_n 0, 1), (255, .getfield 423, 3), (258, .bipush 16, 2)]
theorem aJ_530_24 : sx_iB prog_14_method_201_code aI_530_24 = true := by decide +kernel
def aI_530_25 : sx_IL := [(260, .iload 11, 2), (262, .imul, 1), (263, .iload 12, 2), (265, .iadd, 1), (266, .aload_n 0, 1), (267, .getfield 423, 3)]
theorem aJ_530_25 : sx_iB prog_14_method_201_code aI_530_25 = true := by decide +kernel
def aI_530_26 : sx_IL := [(270, .bipush 16, 2), (272, .iload 10, 2), (274, .imul, 1), (275, .iload 12, 2), (277, .iadd, 1), (278, .iaload, 1)]
theorem aJ_530_26 : sx_iB prog_14_method_201_code aI_530_26 = true := by decide +kernel
def aI_530_27 : sx_IL := [(279, .iastore, 1), (280, .iinc 12 1, 3), (283, .goto (-36), 3), (286, .iinc 8 1, 3), (289, .iinc 9 1, 3), (292, .goto (-161), 3)]
theorem aJ_530_27 : sx_iB prog_14_method_201_code aI_530_27 = true := by decide +kernel
def aI_530_28 : sx_IL := [(295, .aload_n 0, 1), (296, .getfield 420, 3), (299, .iload_n 1, 1), (300, .iload 8, 2), (302, .iastore, 1), (303, .aload_n 0, 1)]
theorem aJ_530_28 : sx_iB prog_14_method_201_code aI_530_28 = true := by decide +kernel
def aI_530_29 : sx_IL := [(304, .iload_n 1, 1), (305, .iconst 0, 1), (306, .invokevirtual 1027, 3), (309, .aload_n 0, 1), (310, .iload 6, 2), (312, .iconst 1, 1)]
theorem aJ_530_29 : sx_iB prog_14_method_201_code aI_530_29 = true := by decide +kernel
def aI_530_30 : sx_IL := [(313, .invokevirtual 1031, 3), (316, .aload_n 0, 1), (317, .getfield 291, 3), (320, .iload 6, 2), (322, .iconst 1, 1), (323, .iastore, 1)]
theorem aJ_530_30 : sx_iB prog_14_method_201_code aI_530_30 = true := by decide +kernel
def aI_530_31 : sx_IL := [(324, .return_, 1)]
theorem aJ_530_31 : sx_iB prog_14_method_201_code aI_530_31 = true := by decide +kernel
def aS_530 (pc : Nat) : sx_IL := (if pc < 161 then (if pc < 87 then (if pc < 41 then (if pc < 19 then (if pc < 9 then aI_530_0 else aI_530_1) else (if pc < 30 then aI_530_2 else aI_530_3)) else (if pc < 65 then (if pc < 54 then aI_530_4 else aI_530_5) else (if pc < 76 then aI_530_6 else aI_530_7))) else (if pc < 124 then (if pc < 105 then (if pc < 97 then aI_530_8 else aI_530_9) else (if pc < 113 then aI_530_10 else aI_530_11)) else (if pc < 144 then (if pc < 133 then aI_530_12 else aI_530_13) else (if pc < 153 then aI_530_14 else aI_530_15)))) else (if pc < 247 then (if pc < 206 then (if pc < 186 then (if pc < 174 then aI_530_16 else aI_530_17) else (if pc < 195 then aI_530_18 else aI_530_19)) else (if pc < 228 then (if pc < 216 then aI_530_20 else aI_530_21) else (if pc < 237 then aI_530_22 else aI_530_23))) else (if pc < 295 then (if pc < 270 then (if pc < 260 then aI_530_24 else aI_530_25) else (if pc < 279 then aI_530_26 else aI_530_27)) else (if pc < 313 then (if pc < 304 then aI_530_28 else aI_530_29) else (if pc < 324 then aI_530_30 else aI_530_31)))))
theorem aT_530 (pc : Nat) : sx_iOk prog_14_method_201_code (aS_530 pc) := (sx_ite (p := fun l => sx_iOk prog_14_method_201_code l) (sx_ite (p := fun l => sx_iOk prog_14_method_201_code l) (sx_ite (p := fun l => sx_iOk prog_14_method_201_code l) (sx_ite (p := fun l => sx_iOk prog_14_method_201_code l) (sx_ite (p := fun l => sx_iOk prog_14_method_201_code l) (sx_iB_s aJ_530_0) (sx_iB_s aJ_530_1)) (sx_ite (p := fun l => sx_iOk prog_14_method_201_code l) (sx_iB_s aJ_530_2) (sx_iB_s aJ_530_3))) (sx_ite (p := fun l => sx_iOk prog_14_method_201_code l) (sx_ite (p := fun l => sx_iOk prog_14_method_201_code l) (sx_iB_s aJ_530_4) (sx_iB_s aJ_530_5)) (sx_ite (p := fun l => sx_iOk prog_14_method_201_code l) (sx_iB_s aJ_530_6) (sx_iB_s aJ_530_7)))) (sx_ite (p := fun l => sx_iOk prog_14_method_201_code l) (sx_ite (p := fun l => sx_iOk prog_14_method_201_code l) (sx_ite (p := fun l => sx_iOk prog_14_method_201_code l) (sx_iB_s aJ_530_8) (sx_iB_s aJ_530_9)) (sx_ite (p := fun l => sx_iOk prog_14_method_201_code l) (sx_iB_s aJ_530_10) (sx_iB_s aJ_530_11))) (sx_ite (p := fun l => sx_iOk prog_14_method_201_code l) (sx_ite (p := fun l => sx_iOk prog_14_method_201_code l) (sx_iB_s aJ_530_12) (sx_iB_s aJ_530_13)) (sx_ite (p := fun l => sx_iOk prog_14_method_201_code l) (sx_iB_s aJ_530_14) (sx_iB_s aJ_530_15))))) (sx_ite (p := fun l => sx_iOk prog_14_method_201_code l) (sx_ite (p := fun l => sx_iOk prog_14_method_201_code l) (sx_ite (p := fun l => sx_iOk prog_14_method_201_code l) (sx_ite (p := fun l => sx_iOk prog_14_method_201_code l) (sx_iB_s aJ_530_16) (sx_iB_s aJ_530_17)) (sx_ite (p := fun l => sx_iOk prog_14_method_201_code l) (sx_iB_s aJ_530_18) (sx_iB_s aJ_530_19))) (sx_ite (p := fun l => sx_iOk prog_14_method_201_code l) (sx_ite (p := fun l => sx_iOk prog_14_method_201_code l) (sx_iB_s aJ_530_20) (sx_iB_s aJ_530_21)) (sx_ite (p := fun l => sx_iOk prog_14_method_201_code l) (sx_iB_s aJ_530_22) (sx_iB_s aJ_530_23)))) (sx_ite (p := fun l => sx_iOk prog_14_method_201_code l) (sx_ite (p := fun l => sx_iOk prog_14_method_201_code l) (sx_ite (p := fun l => sx_iOk prog_14_method_201_code l) (sx_iB_s aJ_530_24) (sx_iB_s aJ_530_25)) (sx_ite (p := fun l => sx_iOk prog_14_method_201_code l) (sx_iB_s aJ_530_26) (sx_iB_s aJ_530_27))) (sx_ite (p := fun l => sx_iOk prog_14_method_201_code l) (sx_ite (p := fun l => sx_iOk prog_14_method_201_code l) (sx_iB_s aJ_530_28) (sx_iB_s aJ_530_29)) (sx_ite (p := fun l => sx_iOk prog_14_method_201_code l) (sx_iB_s aJ_530_30) (sx_iB_s aJ_530_31))))))
def aW_530 : Nat → Option (Instr × Nat) := fun pc => sx_iF (aS_530 pc) pc
theorem aX_530 : ∀ pc i len, aW_530 pc = some (i, len) → decode aM_530.1.2.1 pc = .ok (i, len) := fun pc i len h => sx_iF_s (aT_530 pc) h
def aI_531_0 : sx_IL := [(0, .iconst 0, 1), (1, .istore_n 2, 1), (2, .iload_n 2, 1), (3, .iconst 2, 1), (4, .if_icmp .ge 53, 3), (7, .aload_n 0, 1)]
theorem aJ_531_0 : sx_iB prog_14_method_154_code aI_531_0 = true := by decide +kernel
def aI_531_1 : sx_IL := [(8, .iload_n 1, 1), (9, .iload_n 2, 1), (10, .invokevirtual 973, 3), (13, .lstore_n 3, 1), (14, .aload_n 0, 1), (15, .iload_n 2, 1)]
theorem aJ_531_1 : sx_iB prog_14_method_154_code aI_531_1 = true := by decide +kernel
def aI_531_2 : sx_IL := [(16, .invokevirtual 568, 3), (19, .aload_n 0, 1), (20, .sipush 254, 3), (23, .invokevirtual 561, 3), (26, .aload_n 0, 1), (27, .iconst 0, 1)]
theorem aJ_531_2 : sx_iB prog_14_method_154_code aI_531_2 = true := by decide +kernel
def aI_531_3 : sx_IL := [(28, .invokevirtual 561, 3), (31, .aload_n 0, 1), (32, .bipush 8, 2), (34, .invokevirtual 561, 3), (37, .aload_n 0, 1), (38, .lload_n 3, 1)]
theorem aJ_531_3 : sx_iB prog_14_method_154_code aI_531_3 = true := by decide +kernel
def aI_531_4 : sx_IL := [(39, .invokevirtual 574, 3), (42, .aload_n 0, 1), (43, .iconst 2, 1), (44, .iload_n 1, 1), (45, .imul, 1), (46, .iload_n 2, 1)]
theorem aJ_531_4 : sx_iB prog_14_method_154_code aI_531_4 = true := by decide +kernel
def aI_531_5 : sx_IL := [(47, .iadd, 1), (48, .invokevirtual 970, 3), (51, .iinc 2 1, 3), (54, .goto (-52), 3), (57, .return_, 1)]
theorem aJ_531_5 : sx_iB prog_14_method_154_code aI_531_5 = true := by decide +kernel
def aS_531 (pc : Nat) : sx_IL := (if pc < 28 then (if pc < 8 then aI_531_0 else (if pc < 16 then aI_531_1 else aI_531_2)) else (if pc < 39 then aI_531_3 else (if pc < 47 then aI_531_4 else aI_531_5)))
theorem aT_531 (pc : Nat) : sx_iOk prog_14_method_154_code (aS_531 pc) := (sx_ite (p := fun l => sx_iOk prog_14_method_154_code l) (sx_ite (p := fun l => sx_iOk prog_14_method_154_code l) (sx_iB_s aJ_531_0) (sx_ite (p := fun l => sx_iOk prog_14_method_154_code l) (sx_iB_s aJ_531_1) (sx_iB_s aJ_531_2))) (sx_ite (p := fun l => sx_iOk prog_14_method_154_code l) (sx_iB_s aJ_531_3) (sx_ite (p := fun l => sx_iOk prog_14_method_154_code l) (sx_iB_s aJ_531_4) (sx_iB_s aJ_531_5))))
def aW_531 : Nat → Option (Instr × Nat) := fun pc => sx_iF (aS_531 pc) pc
theorem aX_531 : ∀ pc i len, aW_531 pc = some (i, len) → decode aM_531.1.2.1 pc = .ok (i, len) := fun pc i len h => sx_iF_s (aT_531 pc) h
def aI_532_0 : sx_IL := [(0, .iconst 2, 1), (1, .iload_n 1, 1), (2, .imul, 1), (3, .istore_n 2, 1), (4, .aload_n 0, 1), (5, .getfield 261, 3)]
theorem aJ_532_0 : sx_iB prog_14_method_206_code aI_532_0 = true := by decide +kernel
def aI_532_1 : sx_IL := [(8, .iload_n 2, 1), (9, .iaload, 1), (10, .istore_n 3, 1), (11, .aload_n 0, 1), (12, .iload_n 2, 1), (13, .invokevirtual 1171, 3)]
theorem aJ_532_1 : sx_iB prog_14_method_206_code aI_532_1 = true := by decide +kernel
def aI_532_2 : sx_IL := [(16, .aload_n 0, 1), (17, .iload_n 2, 1), (18, .aload_n 0, 1), (19, .iload_n 2, 1), (20, .iconst 0, 1), (21, .invokevirtual 1174, 3)]
theorem aJ_532_2 : sx_iB prog_14_method_206_code aI_532_2 = true := by decide +kernel
def aI_532_3 : sx_IL := [(24, .invokevirtual 1146, 3), (27, .aload_n 0, 1), (28, .getfield 342, 3), (31, .iload_n 2, 1), (32, .baload, 1), (33, .ifCond .eq 31, 3)]
theorem aJ_532_3 : sx_iB prog_14_method_206_code aI_532_3 = true := by decide +kernel
def aI_532_4 : sx_IL := [(36, .aload_n 0, 1), (37, .iconst 0, 1), (38, .putfield 814, 3), (41, .aload_n 0, 1), (42, .iload_n 2, 1), (43, .iconst 5, 1)]
theorem aJ_532_4 : sx_iB prog_14_method_206_code aI_532_4 = true := by decide +kernel
def aI_532_5 : sx_IL := [(44, .invokevirtual 1031, 3), (47, .aload_n 0, 1), (48, .iload_n 2, 1), (49, .aload_n 0, 1), (50, .getfield 330, 3), (53, .iload_n 2, 1)]
theorem aJ_532_5 : sx_iB prog_14_method_206_code aI_532_5 = true := by decide +kernel
def aI_532_6 : sx_IL := [(54, .iaload, 1), (55, .aload_n 0, 1), (56, .getfield 372, 3), (59, .iload_n 2, 1), (60, .laload, 1), (61, .invokevirtual 1034, 3)]
theorem aJ_532_6 : sx_iB prog_14_method_206_code aI_532_6 = true := by decide +kernel
def aI_532_7 : sx_IL := [(64, .aload_n 0, 1), (65, .getfield 444, 3), (68, .iload_n 1, 1), (69, .baload, 1), (70, .ifCond .eq 72, 3), (73, .aload_n 0, 1)]
theorem aJ_532_7 : sx_iB prog_14_method_206_code aI_532_7 = true := by decide +kernel
def aI_532_8 : sx_IL := [(74, .getfield 120, 3), (77, .iload_n 3, 1), (78, .iaload, 1), (79, .ifCond .le 17, 3), (82, .aload_n 0, 1), (83, .iload_n 3, 1)]
theorem aJ_532_8 : sx_iB prog_14_method_206_code aI_532_8 = true := by decide +kernel
def aI_532_9 : sx_IL := [(84, .aload_n 0, 1), (85, .getfield 384, 3), (88, .iload_n 2, 1), (89, .iaload, 1), (90, .invokevirtual 1177, 3), (93, .goto 4, 3)]
theorem aJ_532_9 : sx_iB prog_14_method_206_code aI_532_9 = true := by decide +kernel
def aI_532_10 : sx_IL := [(96, .iconst 0, 1), (97, .istore 4, 2), (99, .aload_n 0, 1), (100, .iload_n 3, 1), (101, .iload 4, 2), (103, .ifCond .le 12, 3)]
theorem aJ_532_10 : sx_iB prog_14_method_206_code aI_532_10 = true := by decide +kernel
def aI_532_11 : sx_IL := [(106, .aload_n 0, 1), (107, .getfield 120, 3), (110, .iload_n 3, 1), (111, .iaload, 1), (112, .goto 4, 3), (115, .iconst 0, 1)]
theorem aJ_532_11 : sx_iB prog_14_method_206_code aI_532_11 = true := by decide +kernel
def aI_532_12 : sx_IL := [(116, .bipush (-4), 2), (118, .invokevirtual 1180, 3), (121, .aload_n 0, 1), (122, .iload_n 2, 1), (123, .bipush 11, 2), (125, .invokevirtual 1031, 3)]
theorem aJ_532_12 : sx_iB prog_14_method_206_code aI_532_12 = true := by decide +kernel
def aI_532_13 : sx_IL := [(128, .iload 4, 2), (130, .ifCond .le 12, 3), (133, .aload_n 0, 1), (134, .iload_n 2, 1), (135, .iload_n 3, 1), (136, .iload 4, 2)]
theorem aJ_532_13 : sx_iB prog_14_method_206_code aI_532_13 = true := by decide +kernel
def aI_532_14 : sx_IL := [(138, .iconst 1, 1), (139, .invokevirtual 1183, 3), (142, .aload_n 0, 1), (143, .iload_n 2, 1), (144, .iconst 1, 1), (145, .invokevirtual 1186, 3)]
theorem aJ_532_14 : sx_iB prog_14_method_206_code aI_532_14 = true := by decide +kernel
def aI_532_15 : sx_IL := [(148, .aload_n 0, 1), (149, .iload_n 2, 1), (150, .aload_n 0, 1), (151, .getfield 330, 3), (154, .iload_n 2, 1), (155, .iaload, 1)]
theorem aJ_532_15 : sx_iB prog_14_method_206_code aI_532_15 = true := by decide +kernel
def aI_532_16 : sx_IL := [(156, .aload_n 0, 1), (157, .iload_n 2, 1), (158, .iconst 1, 1), (159, .invokevirtual 1174, 3), (162, .invokevirtual 1034, 3), (165, .aload_n 0, 1)]
theorem aJ_532_16 : sx_iB prog_14_method_206_code aI_532_16 = true := by decide +kernel
def aI_532_17 : sx_IL := [(166, .getfield 369, 3), (169, .iload_n 2, 1), (170, .aload_n 0, 1), (171, .aload_n 0, 1), (172, .iload_n 2, 1), (173, .invokevirtual 998, 3)]
theorem aJ_532_17 : sx_iB prog_14_method_206_code aI_532_17 = true := by decide +kernel
def aI_532_18 : sx_IL := [(176, .aload_n 0, 1), (177, .getfield 363, 3), (180, .iload_n 2, 1), (181, .laload, 1), (182, .bipush 114, 2), (184, .aload_n 0, 1)]
theorem aJ_532_18 : sx_iB prog_14_method_206_code aI_532_18 = true := by decide +kernel
def aI_532_19 : sx_IL := [(185, .iload_n 2, 1), (186, .aload_n 0, 1), (187, .iload_n 2, 1), (188, .invokevirtual 998, 3), (191, .invokevirtual 973, 3), (194, .invokevirtual 598, 3)]
theorem aJ_532_19 : sx_iB prog_14_method_206_code aI_532_19 = true := by decide +kernel
def aI_532_20 : sx_IL := [(197, .lastore, 1), (198, .aload_n 0, 1), (199, .getfield 291, 3), (202, .iload_n 2, 1), (203, .bipush 7, 2), (205, .iastore, 1)]
theorem aJ_532_20 : sx_iB prog_14_method_206_code aI_532_20 = true := by decide +kernel
def aI_532_21 : sx_IL := [(206, .return_, 1)]
theorem aJ_532_21 : sx_iB prog_14_method_206_code aI_532_21 = true := by decide +kernel
def aS_532 (pc : Nat) : sx_IL := (if pc < 106 then (if pc < 44 then (if pc < 16 then (if pc < 8 then aI_532_0 else aI_532_1) else (if pc < 24 then aI_532_2 else (if pc < 36 then aI_532_3 else aI_532_4))) else (if pc < 74 then (if pc < 54 then aI_532_5 else (if pc < 64 then aI_532_6 else aI_532_7)) else (if pc < 84 then aI_532_8 else (if pc < 96 then aI_532_9 else aI_532_10)))) else (if pc < 156 then (if pc < 128 then (if pc < 116 then aI_532_11 else aI_532_12) else (if pc < 138 then aI_532_13 else (if pc < 148 then aI_532_14 else aI_532_15))) else (if pc < 185 then (if pc < 166 then aI_532_16 else (if pc < 176 then aI_532_17 else aI_532_18)) else (if pc < 197 then aI_532_19 else (if pc < 206 then aI_532_20 else aI_532_21)))))
theorem aT_532 (pc : Nat) : sx_iOk prog_14_method_206_code (aS_532 pc) := (sx_ite (p := fun l => sx_iOk prog_14_method_206_code l) (sx_ite (p := fun l => sx_iOk prog_14_method_206_code l) (sx_ite (p := fun l => sx_iOk prog_14_method_206_code l) (sx_ite (p := fun l => sx_iOk prog_14_method_206_code l) (sx_iB_s aJ_532_0) (sx_iB_s aJ_532_1)) (sx_ite (p := fun l => sx_iOk prog_14_method_206_code l) (sx_iB_s aJ_532_2) (sx_ite (p := fun l => sx_iOk prog_14_method_206_code l) (sx_iB_s aJ_532_3) (sx_iB_s aJ_532_4)))) (sx_ite (p := fun l => sx_iOk prog_14_method_206_code l) (sx_ite (p := fun l => sx_iOk prog_14_method_206_code l) (sx_iB_s aJ_532_5) (sx_ite (p := fun l => sx_iOk prog_14_method_206_code l) (sx_iB_s aJ_532_6) (sx_iB_s aJ_532_7))) (sx_ite (p := fun l => sx_iOk prog_14_method_206_code l) (sx_iB_s aJ_532_8) (sx_ite (p := fun l => sx_iOk prog_14_method_206_code l) (sx_iB_s aJ_532_9) (sx_iB_s aJ_532_10))))) (sx_ite (p := fun l => sx_iOk prog_14_method_206_code l) (sx_ite (p := fun l => sx_iOk prog_14_method_206_code l) (sx_ite (p := fun l => sx_iOk prog_14_method_206_code l) (sx_iB_s aJ_532_11) (sx_iB_s aJ_532_12)) (sx_ite (p := fun l => sx_iOk prog_14_method_206_code l) (sx_iB_s aJ_532_13) (sx_ite (p := fun l => sx_iOk prog_14_method_206_code l) (sx_iB_s aJ_532_14) (sx_iB_s aJ_532_15)))) (sx_ite (p := fun l => sx_iOk prog_14_method_206_code l) (sx_ite (p := fun l => sx_iOk prog_14_method_206_code l) (sx_iB_s aJ_532_16) (sx_ite (p := fun l => sx_iOk prog_14_method_206_code l) (sx_iB_s aJ_532_17) (sx_iB_s aJ_532_18))) (sx_ite (p := fun l => sx_iOk prog_14_method_206_code l) (sx_iB_s aJ_532_19) (sx_ite (p := fun l => sx_iOk prog_14_method_206_code l) (sx_iB_s aJ_532_20) (sx_iB_s aJ_532_21))))))
def aW_532 : Nat → Option (Instr × Nat) := fun pc => sx_iF (aS_532 pc) pc
theorem aX_532 : ∀ pc i len, aW_532 pc = some (i, len) → decode aM_532.1.2.1 pc = .ok (i, len) := fun pc i len h => sx_iF_s (aT_532 pc) h
def aI_533_0 : sx_IL := [(0, .aload_n 0, 1), (1, .iload_n 1, 1), (2, .invokevirtual 998, 3), (5, .istore_n 2, 1), (6, .aload_n 0, 1), (7, .getfield 363, 3)]
theorem aJ_533_0 : sx_iB prog_14_method_166_code aI_533_0 = true := by decide +kernel
def aI_533_1 : sx_IL := [(10, .iload_n 1, 1), (11, .aload_n 0, 1), (12, .iload_n 2, 1), (13, .aload_n 0, 1), (14, .iload_n 2, 1), (15, .aload_n 0, 1)]
theorem aJ_533_1 : sx_iB prog_14_method_166_code aI_533_1 = true := by decide +kernel
def aI_533_2 : sx_IL := [(16, .getfield 360, 3), (19, .iload_n 1, 1), (20, .laload, 1), (21, .bipush 100, 2), (23, .lconst 0, 1), (24, .invokevirtual 598, 3)]
theorem aJ_533_2 : sx_iB prog_14_method_166_code aI_533_2 = true := by decide +kernel
def aI_533_3 : sx_IL := [(27, .lconst 0, 1), (28, .invokevirtual 994, 3), (31, .lastore, 1), (32, .aload_n 0, 1), (33, .getfield 378, 3), (36, .iload_n 1, 1)]
theorem aJ_533_3 : sx_iB prog_14_method_166_code aI_533_3 = true := by decide +kernel
def aI_533_4 : sx_IL := [(37, .aload_n 0, 1), (38, .iload_n 1, 1), (39, .iload_n 2, 1), (40, .invokevirtual 973, 3), (43, .lastore, 1), (44, .aload_n 0, 1)]
theorem aJ_533_4 : sx_iB prog_14_method_166_code aI_533_4 = true := by decide +kernel
def aI_533_5 : sx_IL := [(45, .getfield 366, 3), (48, .iload_n 1, 1), (49, .aload_n 0, 1), (50, .iload_n 2, 1), (51, .aload_n 0, 1), (52, .getfield 363, 3)]
theorem aJ_533_5 : sx_iB prog_14_method_166_code aI_533_5 = true := by decide +kernel
def aI_533_6 : sx_IL := [(55, .iload_n 1, 1), (56, .laload, 1), (57, .bipush 120, 2), (59, .aload_n 0, 1), (60, .getfield 378, 3), (63, .iload_n 1, 1)]
theorem aJ_533_6 : sx_iB prog_14_method_166_code aI_533_6 = true := by decide +kernel
def aI_533_7 : sx_IL := [(64, .laload, 1), (65, .invokevirtual 598, 3), (68, .lastore, 1), (69, .return_, 1)]
theorem aJ_533_7 : sx_iB prog_14_method_166_code aI_533_7 = true := by decide +kernel
def aS_533 (pc : Nat) : sx_IL := (if pc < 37 then (if pc < 16 then (if pc < 10 then aI_533_0 else aI_533_1) else (if pc < 27 then aI_533_2 else aI_533_3)) else (if pc < 55 then (if pc < 45 then aI_533_4 else aI_533_5) else (if pc < 64 then aI_533_6 else aI_533_7)))
theorem aT_533 (pc : Nat) : sx_iOk prog_14_method_166_code (aS_533 pc) := (sx_ite (p := fun l => sx_iOk prog_14_method_166_code l) (sx_ite (p := fun l => sx_iOk prog_14_method_166_code l) (sx_ite (p := fun l => sx_iOk prog_14_method_166_code l) (sx_iB_s aJ_533_0) (sx_iB_s aJ_533_1)) (sx_ite (p := fun l => sx_iOk prog_14_method_166_code l) (sx_iB_s aJ_533_2) (sx_iB_s aJ_533_3))) (sx_ite (p := fun l => sx_iOk prog_14_method_166_code l) (sx_ite (p := fun l => sx_iOk prog_14_method_166_code l) (sx_iB_s aJ_533_4) (sx_iB_s aJ_533_5)) (sx_ite (p := fun l => sx_iOk prog_14_method_166_code l) (sx_iB_s aJ_533_6) (sx_iB_s aJ_533_7))))
def aW_533 : Nat → Option (Instr × Nat) := fun pc => sx_iF (aS_533 pc) pc
theorem aX_533 : ∀ pc i len, aW_533 pc = some (i, len) → decode aM_533.1.2.1 pc = .ok (i, len) := fun pc i len h => sx_iF_s (aT_533 pc) h
def aI_534_0 : sx_IL := [(0, .aload_n 0, 1), (1, .aload_n 0, 1), (2, .iload_n 1, 1), (3, .invokevirtual 998, 3), (6, .aload_n 0, 1), (7, .getfield 363, 3)]
theorem aJ_534_0 : sx_iB prog_14_method_167_code aI_534_0 = true := by decide +kernel
def aI_534_1 : sx_IL := [(10, .iload_n 1, 1), (11, .laload, 1), (12, .iload_n 2, 1), (13, .ifCond .eq 8, 3), (16, .bipush 67, 2), (18, .goto 5, 3)]
theorem aJ_534_1 : sx_iB prog_14_method_167_code aI_534_1 = true := by decide +kernel
def aI_534_2 : sx_IL := [(21, .bipush 83, 2), (23, .aload_n 0, 1), (24, .getfield 378, 3), (27, .iload_n 1, 1), (28, .laload, 1), (29, .invokevirtual 598, 3)]
theorem aJ_534_2 : sx_iB prog_14_method_167_code aI_534_2 = true := by decide +kernel
def aI_534_3 : sx_IL := [(32, .lreturn, 1)]
theorem aJ_534_3 : sx_iB prog_14_method_167_code aI_534_3 = true := by decide +kernel
def aS_534 (pc : Nat) : sx_IL := (if pc < 21 then (if pc < 10 then aI_534_0 else aI_534_1) else (if pc < 32 then aI_534_2 else aI_534_3))
theorem aT_534 (pc : Nat) : sx_iOk prog_14_method_167_code (aS_534 pc) := (sx_ite (p := fun l => sx_iOk prog_14_method_167_code l) (sx_ite (p := fun l => sx_iOk prog_14_method_167_code l) (sx_iB_s aJ_534_0) (sx_iB_s aJ_534_1)) (sx_ite (p := fun l => sx_iOk prog_14_method_167_code l) (sx_iB_s aJ_534_2) (sx_iB_s aJ_534_3)))
def aW_534 : Nat → Option (Instr × Nat) := fun pc => sx_iF (aS_534 pc) pc
theorem aX_534 : ∀ pc i len, aW_534 pc = some (i, len) → decode aM_534.1.2.1 pc = .ok (i, len) := fun pc i len h => sx_iF_s (aT_534 pc) h
def aI_535_0 : sx_IL := [(0, .iconst 0, 1), (1, .istore_n 3, 1), (2, .iload_n 3, 1), (3, .aload_n 0, 1), (4, .getfield 99, 3), (7, .iconst 3, 1)]
theorem aJ_535_0 : sx_iB prog_14_method_203_code aI_535_0 = true := by decide +kernel
def aI_535_1 : sx_IL := [(8, .iload_n 1, 1), (9, .imul, 1), (10, .iconst 2, 1), (11, .iadd, 1), (12, .iaload, 1), (13, .if_icmp .ge 40, 3)]
theorem aJ_535_1 : sx_iB prog_14_method_203_code aI_535_1 = true := by decide +kernel
def aI_535_2 : sx_IL := [(16, .aload_n 0, 1), (17, .getfield 96, 3), (20, .bipush 12, 2), (22, .iload_n 1, 1), (23, .imul, 1), (24, .bipush 8, 2)]
theorem aJ_535_2 : sx_iB prog_14_method_203_code aI_535_2 = true := by decide +kernel
def aI_535_3 : sx_IL := [(26, .iadd, 1), (27, .iload_n 3, 1), (28, .iadd, 1), (29, .iaload, 1), (30, .istore 4, 2), (32, .iload_n 2, 1)]
theorem aJ_535_3 : sx_iB prog_14_method_203_code aI_535_3 = true := by decide +kernel
def aI_535_4 : sx_IL := [(33, .iload 4, 2), (35, .iconst 1, 1), (36, .isub, 1), (37, .ishr, 1), (38, .iconst 1, 1), (39, .iand, 1)]
theorem aJ_535_4 : sx_iB prog_14_method_203_code aI_535_4 = true := by decide +kernel
def aI_535_5 : sx_IL := [(40, .iconst 1, 1), (41, .if_icmp .ne 6, 3), (44, .iload 4, 2), (46, .ireturn, 1), (47, .iinc 3 1, 3), (50, .goto (-48), 3)]
theorem aJ_535_5 : sx_iB prog_14_method_203_code aI_535_5 = true := by decide +kernel
def aI_535_6 : sx_IL := [(53, .iconst 0, 1), (54, .ireturn, 1)]
theorem aJ_535_6 : sx_iB prog_14_method_203_code aI_535_6 = true := by decide +kernel
def aS_535 (pc : Nat) : sx_IL := (if pc < 26 then (if pc < 8 then aI_535_0 else (if pc < 16 then aI_535_1 else aI_535_2)) else (if pc < 40 then (if pc < 33 then aI_535_3 else aI_535_4) else (if pc < 53 then aI_535_5 else aI_535_6)))
theorem aT_535 (pc : Nat) : sx_iOk prog_14_method_203_code (aS_535 pc) := (sx_ite (p := fun l => sx_iOk prog_14_method_203_code l) (sx_ite (p := fun l => sx_iOk prog_14_method_203_code l) (sx_iB_s aJ_535_0) (sx_ite (p := fun l => sx_iOk prog_14_method_203_code l) (sx_iB_s aJ_535_1) (sx_iB_s aJ_535_2))) (sx_ite (p := fun l => sx_iOk prog_14_method_203_code l) (sx_ite (p := fun l => sx_iOk prog_14_method_203_code l) (sx_iB_s aJ_535_3) (sx_iB_s aJ_535_4)) (sx_ite (p := fun l => sx_iOk prog_14_method_203_code l) (sx_iB_s aJ_535_5) (sx_iB_s aJ_535_6))))
def aW_535 : Nat → Option (Instr × Nat) := fun pc => sx_iF (aS_535 pc) pc
theorem aX_535 : ∀ pc i len, aW_535 pc = some (i, len) → decode aM_535.1.2.1 pc = .ok (i, len) := fun pc i len h => sx_iF_s (aT_535 pc) h
def aI_536_0 : sx_IL := [(0, .aload_n 0, 1), (1, .iconst 0, 1), (2, .putfield 814, 3), (5, .aload_n 0, 1), (6, .iload_n 2, 1), (7, .invokevirtual 817, 3)]
theorem aJ_536_0 : sx_iB prog_14_method_202_code aI_536_0 = true := by decide +kernel
def aI_536_1 : sx_IL := [(10, .iconst 0, 1), (11, .istore 4, 2), (13, .iload 4, 2), (15, .iload_n 2, 1), (16, .if_icmp .ge 54, 3), (19, .aload_n 0, 1)]
theorem aJ_536_1 : sx_iB prog_14_method_202_code aI_536_1 = true := by decide +kernel
def aI_536_2 : sx_IL := [(20, .getfield 117, 3), (23, .iconst 4, 1), (24, .iload_n 1, 1), (25, .imul, 1), (26, .iload 4, 2), (28, .iadd, 1)]
theorem aJ_536_2 : sx_iB prog_14_method_202_code aI_536_2 = true := by decide +kernel
def aI_536_3 : sx_IL := [(29, .iaload, 1), (30, .istore 5, 2), (32, .aload_n 0, 1), (33, .aload_n 0, 1), (34, .getfield 42, 3), (37, .iload 5, 2)]
theorem aJ_536_3 : sx_iB prog_14_method_202_code aI_536_3 = true := by decide +kernel
def aI_536_4 : sx_IL := [(39, .iaload, 1), (40, .invokevirtual 820, 3), (43, .aload_n 0, 1), (44, .aload_n 0, 1), (45, .getfield 39, 3), (48, .sipush 400, 3)]
theorem aJ_536_4 : sx_iB prog_14_method_202_code aI_536_4 = true := by decide +kernel
def aI_536_5 : sx_IL := [(51, .iload 5, 2), (53, .imul, 1), (54, .aload_n 0, 1), (55, .getfield 42, 3), (58, .iload 5, 2), (60, .iaload, 1)]
theorem aJ_536_5 : sx_iB prog_14_method_202_code aI_536_5 = true := by decide +kernel
def aI_536_6 : sx_IL := [(61, .invokevirtual 828, 3), (64, .iinc 4 1, 3), (67, .goto (-54), 3), (70, .iload_n 3, 1), (71, .bipush (-4), 2), (73, .if_icmp .ne 7, 3)]
theorem aJ_536_6 : sx_iB prog_14_method_202_code aI_536_6 = true := by decide +kernel
def aI_536_7 : sx_IL := [(76, .iconst 0, 1), (77, .goto 9, 3), (80, .aload_n 0, 1), (81, .getfield 78, 3), (84, .iload_n 3, 1), (85, .iaload, 1)]
theorem aJ_536_7 : sx_iB prog_14_method_202_code aI_536_7 = true := by decide +kernel
def aI_536_8 : sx_IL := [(86, .istore 4, 2), (88, .aload_n 0, 1), (89, .iload 4, 2), (91, .invokevirtual 820, 3), (94, .iload 4, 2), (96, .ifCond .le 18, 3)]
theorem aJ_536_8 : sx_iB prog_14_method_202_code aI_536_8 = true := by decide +kernel
def aI_536_9 : sx_IL := [(99, .aload_n 0, 1), (100, .aload_n 0, 1), (101, .getfield 75, 3), (104, .sipush 400, 3), (107, .iload_n 3, 1), (108, .imul, 1)]
theorem aJ_536_9 : sx_iB prog_14_method_202_code aI_536_9 = true := by decide +kernel
def aI_536_10 : sx_IL := [(109, .iload 4, 2), (111, .invokevirtual 828, 3), (114, .return_, 1)]
theorem aJ_536_10 : sx_iB prog_14_method_202_code aI_536_10 = true := by decide +kernel
def aS_536 (pc : Nat) : sx_IL := (if pc < 51 then (if pc < 20 then (if pc < 10 then aI_536_0 else aI_536_1) else (if pc < 29 then aI_536_2 else (if pc < 39 then aI_536_3 else aI_536_4))) else (if pc < 86 then (if pc < 61 then aI_536_5 else (if pc < 76 then aI_536_6 else aI_536_7)) else (if pc < 99 then aI_536_8 else (if pc < 109 then aI_536_9 else aI_536_10))))
theorem aT_536 (pc : Nat) : sx_iOk prog_14_method_202_code (aS_536 pc) := (sx_ite (p := fun l => sx_iOk prog_14_method_202_code l) (sx_ite (p := fun l => sx_iOk prog_14_method_202_code l) (sx_ite (p := fun l => sx_iOk prog_14_method_202_code l) (sx_iB_s aJ_536_0) (sx_iB_s aJ_536_1)) (sx_ite (p := fun l => sx_iOk prog_14_method_202_code l) (sx_iB_s aJ_536_2) (sx_ite (p := fun l => sx_iOk prog_14_method_202_code l) (sx_iB_s aJ_536_3) (sx_iB_s aJ_536_4)))) (sx_ite (p := fun l => sx_iOk prog_14_method_202_code l) (sx_ite (p := fun l => sx_iOk prog_14_method_202_code l) (sx_iB_s aJ_536_5) (sx_ite (p := fun l => sx_iOk prog_14_method_202_code l) (sx_iB_s aJ_536_6) (sx_iB_s aJ_536_7))) (sx_ite (p := fun l => sx_iOk prog_14_method_202_code l) (sx_iB_s aJ_536_8) (sx_ite (p := fun l => sx_iOk prog_14_method_202_code l) (sx_iB_s aJ_536_9) (sx_iB_s aJ_536_10)))))
def aW_536 : Nat → Option (Instr × Nat) := fun pc => sx_iF (aS_536 pc) pc
theorem aX_536 : ∀ pc i len, aW_536 pc = some (i, len) → decode aM_536.1.2.1 pc = .ok (i, len) := fun pc i len h => sx_iF_s (aT_536 pc) h
def aI_537_0 : sx_IL := [(0, .aload_n 0, 1), (1, .iload_n 1, 1), (2, .iload 4, 2), (4, .invokevirtual 1136, 3), (7, .aload_n 0, 1), (8, .iload_n 3, 1)]
theorem aJ_537_0 : sx_iB prog_14_method_204_code aI_537_0 = true := by decide +kernel
def aI_537_1 : sx_IL := [(9, .aload_n 0, 1), (10, .getfield 123, 3), (13, .iload_n 2, 1), (14, .iaload, 1), (15, .aload_n 0, 1), (16, .getfield 495, 3)]
theorem aJ_537_1 : sx_iB prog_14_method_204_code aI_537_1 = true := by decide +kernel
def aI_537_2 : sx_IL := [(19, .iconst 0, 1), (20, .bipush 9, 2), (22, .invokevirtual 675, 3), (25, .lstore 5, 2), (27, .aload_n 0, 1), (28, .iconst 0, 1)]
theorem aJ_537_2 : sx_iB prog_14_method_204_code aI_537_2 = true := by decide +kernel
def aI_537_3 : sx_IL := [(29, .putfield 814, 3), (32, .aload_n 0, 1), (33, .iload_n 3, 1), (34, .invokevirtual 817, 3), (37, .aload_n 0, 1), (38, .lload 5, 2)]
theorem aJ_537_3 : sx_iB prog_14_method_204_code aI_537_3 = true := by decide +kernel
def aI_537_4 : sx_IL := [(40, .invokevirtual 831, 3), (43, .aload_n 0, 1), (44, .iload_n 1, 1), (45, .bipush 15, 2), (47, .invokevirtual 1031, 3), (50, .return_, 1)]
theorem aJ_537_4 : sx_iB prog_14_method_204_code aI_537_4 = true := by decide +kernel
def aS_537 (pc : Nat) : sx_IL := (if pc < 19 then (if pc < 9 then aI_537_0 else aI_537_1) else (if pc < 29 then aI_537_2 else (if pc < 40 then aI_537_3 else aI_537_4)))
theorem aT_537 (pc : Nat) : sx_iOk prog_14_method_204_code (aS_537 pc) := (sx_ite (p := fun l => sx_iOk prog_14_method_204_code l) (sx_ite (p := fun l => sx_iOk prog_14_method_204_code l) (sx_iB_s aJ_537_0) (sx_iB_s aJ_537_1)) (sx_ite (p := fun l => sx_iOk prog_14_method_204_code l) (sx_iB_s aJ_537_2) (sx_ite (p := fun l => sx_iOk prog_14_method_204_code l) (sx_iB_s aJ_537_3) (sx_iB_s aJ_537_4))))
def aW_537 : Nat → Option (Instr × Nat) := fun pc => sx_iF (aS_537 pc) pc
theorem aX_537 : ∀ pc i len, aW_537 pc = some (i, len) → decode aM_537.1.2.1 pc = .ok (i, len) := fun pc i len h => sx_iF_s (aT_537 pc) h
def aI_538_0 : sx_IL := [(0, .aload_n 0, 1), (1, .iload_n 1, 1), (2, .iload_n 2, 1), (3, .invokevirtual 1123, 3), (6, .lstore_n 3, 1), (7, .aload_n 0, 1)]
theorem aJ_538_0 : sx_iB prog_14_method_205_code aI_538_0 = true := by decide +kernel
def aI_538_1 : sx_IL := [(8, .iconst 0, 1), (9, .putfield 814, 3), (12, .aload_n 0, 1), (13, .lload_n 3, 1), (14, .invokevirtual 831, 3), (17, .aload_n 0, 1)]
theorem aJ_538_1 : sx_iB prog_14_method_205_code aI_538_1 = true := by decide +kernel
def aI_538_2 : sx_IL := [(18, .iload_n 1, 1), (19, .bipush 20, 2), (21, .invokevirtual 1031, 3), (24, .return_, 1)]
theorem aJ_538_2 : sx_iB prog_14_method_205_code aI_538_2 = true := by decide +kernel
def aS_538 (pc : Nat) : sx_IL := (if pc < 8 then aI_538_0 else (if pc < 18 then aI_538_1 else aI_538_2))
theorem aT_538 (pc : Nat) : sx_iOk prog_14_method_205_code (aS_538 pc) := (sx_ite (p := fun l => sx_iOk prog_14_method_205_code l) (sx_iB_s aJ_538_0) (sx_ite (p := fun l => sx_iOk prog_14_method_205_code l) (sx_iB_s aJ_538_1) (sx_iB_s aJ_538_2)))
def aW_538 : Nat → Option (Instr × Nat) := fun pc => sx_iF (aS_538 pc) pc
theorem aX_538 : ∀ pc i len, aW_538 pc = some (i, len) → decode aM_538.1.2.1 pc = .ok (i, len) := fun pc i len h => sx_iF_s (aT_538 pc) h
def aI_539_0 : sx_IL := [(0, .aload_n 0, 1), (1, .getfield 132, 3), (4, .iload_n 2, 1), (5, .iaload, 1), (6, .bipush 6, 2), (8, .if_icmp .ne 4, 3)]
theorem aJ_539_0 : sx_iB prog_14_method_207_code aI_539_0 = true := by decide +kernel
def aI_539_1 : sx_IL := [(11, .return_, 1), (12, .bipush 6, 2), (14, .iload_n 2, 1), (15, .imul, 1), (16, .aload_n 0, 1), (17, .getfield 132, 3)]
theorem aJ_539_1 : sx_iB prog_14_method_207_code aI_539_1 = true := by decide +kernel
def aI_539_2 : sx_IL := [(20, .iload_n 2, 1), (21, .iaload, 1), (22, .iadd, 1), (23, .istore 4, 2), (25, .aload_n 0, 1), (26, .getfield 138, 3)]
theorem aJ_539_2 : sx_iB prog_14_method_207_code aI_539_2 = true := by decide +kernel
def aI_539_3 : sx_IL := [(29, .iload 4, 2), (31, .bipush 8, 2), (33, .iastore, 1), (34, .iconst 0, 1), (35, .istore 5, 2), (37, .iload 5, 2)]
theorem aJ_539_3 : sx_iB prog_14_method_207_code aI_539_3 = true := by decide +kernel
def aI_539_4 : sx_IL := [(39, .bipush 8, 2), (41, .if_icmp .ge 34, 3), (44, .aload_n 0, 1), (45, .getfield 135, 3), (48, .bipush 16, 2), (50, .iload 4, 2)]
theorem aJ_539_4 : sx_iB prog_14_method_207_code aI_539_4 = true := by decide +kernel
def aI_539_5 : sx_IL := [(52, .imul, 1), (53, .iload 5, 2), (55, .iadd, 1), (56, .aload_n 0, 1), (57, .getfield 278, 3), (60, .iload_n 3, 1)]
theorem aJ_539_5 : sx_iB prog_14_method_207_code aI_539_5 = true := by decide +kernel
def aI_539_6 : sx_IL := [(61, .bipush 8, 2), (63, .iadd, 1), (64, .iload 5, 2), (66, .iadd, 1), (67, .iaload, 1), (68, .iastore, 1)]
theorem aJ_539_6 : sx_iB prog_14_method_207_code aI_539_6 = true := by decide +kernel
def aI_539_7 : sx_IL := [(69, .iinc 5 1, 3), (72, .goto (-35), 3), (75, .aload_n 0, 1), (76, .getfield 141, 3), (79, .iload 4, 2), (81, .aload_n 0, 1)]
theorem aJ_539_7 : sx_iB prog_14_method_207_code aI_539_7 = true := by decide +kernel
def aI_539_8 : sx_IL := [(82, .aload_n 0, 1), (83, .iload_n 1, 1), (84, .invokevirtual 998, 3), (87, .aload_n 0, 1), (88, .getfield 369, 3), (91, .iload_n 1, 1)]
theorem aJ_539_8 : sx_iB prog_14_method_207_code aI_539_8 = true := by decide +kernel
def aI_539_9 : sx_IL := [(92, .laload, 1), (93, .bipush 116, 2), (95, .aload_n 0, 1), (96, .getfield 278, 3), (99, .iload_n 3, 1), (100, .bipush 16, 2)]
theorem aJ_539_9 : sx_iB prog_14_method_207_code aI_539_9 = true := by decide +kernel
def aI_539_10 : sx_IL := [(102, .iadd, 1), (103, .iaload, 1), (104, .i2l, 1), (105, .invokevirtual 598, 3), (108, .lastore, 1), (109, .aload_n 0, 1)]
theorem aJ_539_10 : sx_iB prog_14_method_207_code aI_539_10 = true := by decide +kernel
def aI_539_11 : sx_IL := [(110, .getfield 144, 3), (113, .iload 4, 2), (115, .aload_n 0, 1), (116, .iload_n 1, 1), (117, .invokevirtual 998, 3), (120, .iastore, 1)]
theorem aJ_539_11 : sx_iB prog_14_method_207_code aI_539_11 = true := by decide +kernel
def aI_539_12 : sx_IL := [(121, .aload_n 0, 1), (122, .getfield 147, 3), (125, .iload 4, 2), (127, .iconst 1, 1), (128, .bastore, 1), (129, .aload_n 0, 1)]
theorem aJ_539_12 : sx_iB prog_14_method_207_code aI_539_12 = true := by decide +kernel
def aI_539_13 : sx_IL := [(130, .getfield 150, 3), (133, .iconst 5, 1), (134, .iload 4, 2), (136, .imul, 1), (137, .iconst 0, 1), (138, .iastore, 1)]
theorem aJ_539_13 : sx_iB prog_14_method_207_code aI_539_13 = true := by decide +kernel
def aI_539_14 : sx_IL := [(139, .aload_n 0, 1), (140, .getfield 150, 3), (143, .iconst 5, 1), (144, .iload 4, 2), (146, .imul, 1), (147, .iconst 1, 1)]
theorem aJ_539_14 : sx_iB prog_14_method_207_code aI_539_14 = true := by decide +kernel
def aI_539_15 : sx_IL := [(148, .iadd, 1), (149, .aload_n 0, 1), (150, .getfield 278, 3), (153, .iload_n 3, 1), (154, .invokestatic 792, 3), (157, .iastore, 1)]
theorem aJ_539_15 : sx_iB prog_14_method_207_code aI_539_15 = true := by decide +kernel
def aI_539_16 : sx_IL := [(158, .aload_n 0, 1), (159, .getfield 150, 3), (162, .iconst 5, 1), (163, .iload 4, 2), (165, .imul, 1), (166, .iconst 2, 1)]
theorem aJ_539_16 : sx_iB prog_14_method_207_code aI_539_16 = true := by decide +kernel
def aI_539_17 : sx_IL := [(167, .iadd, 1), (168, .aload_n 0, 1), (169, .getfield 278, 3), (172, .iload_n 3, 1), (173, .iconst 4, 1), (174, .iadd, 1)]
theorem aJ_539_17 : sx_iB prog_14_method_207_code aI_539_17 = true := by decide +kernel
def aI_539_18 : sx_IL := [(175, .invokestatic 792, 3), (178, .iastore, 1), (179, .aload_n 0, 1), (180, .getfield 150, 3), (183, .iconst 5, 1), (184, .iload 4, 2)]
theorem aJ_539_18 : sx_iB prog_14_method_207_code aI_539_18 = true := by decide +kernel
def aI_539_19 : sx_IL := [(186, .imul, 1), (187, .iconst 3, 1), (188, .iadd, 1), (189, .aload_n 0, 1), (190, .getfield 330, 3), (193, .iload_n 1, 1)]
theorem aJ_539_19 : sx_iB prog_14_method_207_code aI_539_19 = true := by decide +kernel
def aI_539_20 : sx_IL := [(194, .iaload, 1), (195, .iastore, 1), (196, .aload_n 0, 1), (197, .getfield 150, 3), (200, .iconst 5, 1), (201, .iload 4, 2)]
theorem aJ_539_20 : sx_iB prog_14_method_207_code aI_539_20 = true := by decide +kernel
def aI_539_21 : sx_IL := [(203, .imul, 1), (204, .iconst 4, 1), (205, .iadd, 1), (206, .aload_n 0, 1), (207, .getfield 507, 3), (210, .iastore, 1)]
theorem aJ_539_21 : sx_iB prog_14_method_207_code aI_539_21 = true := by decide +kernel
def aI_539_22 : sx_IL := [(211, .aload_n 0, 1), (212, .getfield 132, 3), (215, .iload_n 2, 1), (216, .dup2, 1), (217, .iaload, 1), (218, .iconst 1, 1)]
theorem aJ_539_22 : sx_iB prog_14_method_207_code aI_539_22 = true := by decide +kernel
def aI_539_23 : sx_IL := [(219, .iadd, 1), (220, .iastore, 1), (221, .return_, 1)]
theorem aJ_539_23 : sx_iB prog_14_method_207_code aI_539_23 = true := by decide +kernel
def aS_539 (pc : Nat) : sx_IL := (if pc < 121 then (if pc < 61 then (if pc < 29 then (if pc < 11 then aI_539_0 else (if pc < 20 then aI_539_1 else aI_539_2)) else (if pc < 39 then aI_539_3 else (if pc < 52 then aI_539_4 else aI_539_5))) else (if pc < 92 then (if pc < 69 then aI_539_6 else (if pc < 82 then aI_539_7 else aI_539_8)) else (if pc < 102 then aI_539_9 else (if pc < 110 then aI_539_10 else aI_539_11)))) else (if pc < 175 then (if pc < 148 then (if pc < 130 then aI_539_12 else (if pc < 139 then aI_539_13 else aI_539_14)) else (if pc < 158 then aI_539_15 else (if pc < 167 then aI_539_16 else aI_539_17))) else (if pc < 203 then (if pc < 186 then aI_539_18 else (if pc < 194 then aI_539_19 else aI_539_20)) else (if pc < 211 then aI_539_21 else (if pc < 219 then aI_539_22 else aI_539_23)))))
theorem aT_539 (pc : Nat) : sx_iOk prog_14_method_207_code (aS_539 pc) := (sx_ite (p := fun l => sx_iOk prog_14_method_207_code l) (sx_ite (p := fun l => sx_iOk prog_14_method_207_code l) (sx_ite (p := fun l => sx_iOk prog_14_method_207_code l) (sx_ite (p := fun l => sx_iOk prog_14_method_207_code l) (sx_iB_s aJ_539_0) (sx_ite (p := fun l => sx_iOk prog_14_method_207_code l) (sx_iB_s aJ_539_1) (sx_iB_s aJ_539_2))) (sx_ite (p := fun l => sx_iOk prog_14_method_207_code l) (sx_iB_s aJ_539_3) (sx_ite (p := fun l => sx_iOk prog_14_method_207_code l) (sx_iB_s aJ_539_4) (sx_iB_s aJ_539_5)))) (sx_ite (p := fun l => sx_iOk prog_14_method_207_code l) (sx_ite (p := fun l => sx_iOk prog_14_method_207_code l) (sx_iB_s aJ_539_6) (sx_ite (p := fun l => sx_iOk prog_14_method_207_code l) (sx_iB_s aJ_539_7) (sx_iB_s aJ_539_8))) (sx_ite (p := fun l => sx_iOk prog_14_method_207_code l) (sx_iB_s aJ_539_9) (sx_ite (p := fun l => sx_iOk prog_14_method_207_code l) (sx_iB_s aJ_539_10) (sx_iB_s aJ_539_11))))) (sx_ite (p := fun l => sx_iOk prog_14_method_207_code l) (sx_ite (p := fun l => sx_iOk prog_14_method_207_code l) (sx_ite (p := fun l => sx_iOk prog_14_method_207_code l) (sx_iB_s aJ_539_12) (sx_ite (p := fun l => sx_iOk prog_14_method_207_code l) (sx_iB_s aJ_539_13) (sx_iB_s aJ_539_14))) (sx_ite (p := fun l => sx_iOk prog_14_method_207_code l) (sx_iB_s aJ_539_15) (sx_ite (p := fun l => sx_iOk prog_14_method_207_code l) (sx_iB_s aJ_539_16) (sx_iB_s aJ_539_17)))) (sx_ite (p := fun l => sx_iOk prog_14_method_207_code l) (sx_ite (p := fun l => sx_iOk prog_14_method_207_code l) (sx_iB_s aJ_539_18) (sx_ite (p := fun l => sx_iOk prog_14_method_207_code l) (sx_iB_s aJ_539_19) (sx_iB_s aJ_539_20))) (sx_ite (p := fun l => sx_iOk prog_14_method_207_code l) (sx_iB_s aJ_539_21) (sx_ite (p := fun l => sx_iOk prog_14_method_207_code l) (sx_iB_s aJ_539_22) (sx_iB_s aJ_539_23))))))
def aW_539 : Nat → Option (Instr × Nat) := fun pc => sx_iF (aS_539 pc) pc
theorem aX_539 : ∀ pc i len, aW_539 pc = some (i, len) → decode aM_539.1.2.1 pc = .ok (i, len) := fun pc i len h => sx_iF_s (aT_539 pc) h
def aI_540_0 : sx_IL := [(0, .aload_n 0, 1), (1, .iload_n 1, 1), (2, .aload_n 0, 1), (3, .iload_n 1, 1), (4, .aload_n 0, 1), (5, .getfield 318, 3)]
theorem aJ_540_0 : sx_iB prog_14_method_210_code aI_540_0 = true := by decide +kernel
def aI_540_1 : sx_IL := [(8, .iload_n 1, 1), (9, .laload, 1), (10, .invokevirtual 1189, 3), (13, .invokevirtual 1146, 3), (16, .iload_n 2, 1), (17, .iconst 1, 1)]
theorem aJ_540_1 : sx_iB prog_14_method_210_code aI_540_1 = true := by decide +kernel
def aI_540_2 : sx_IL := [(18, .if_icmp .ne 18, 3), (21, .aload_n 0, 1), (22, .getfield 297, 3), (25, .iload_n 1, 1), (26, .baload, 1), (27, .ifCond .ne 9, 3)]
theorem aJ_540_2 : sx_iB prog_14_method_210_code aI_540_2 = true := by decide +kernel
def aI_540_3 : sx_IL := [(30, .aload_n 0, 1), (31, .iload_n 1, 1), (32, .iconst 0, 1), (33, .invokevirtual 1192, 3), (36, .return_, 1)]
theorem aJ_540_3 : sx_iB prog_14_method_210_code aI_540_3 = true := by decide +kernel
def aS_540 (pc : Nat) : sx_IL := (if pc < 18 then (if pc < 8 then aI_540_0 else aI_540_1) else (if pc < 30 then aI_540_2 else aI_540_3))
theorem aT_540 (pc : Nat) : sx_iOk prog_14_method_210_code (aS_540 pc) := (sx_ite (p := fun l => sx_iOk prog_14_method_210_code l) (sx_ite (p := fun l => sx_iOk prog_14_method_210_code l) (sx_iB_s aJ_540_0) (sx_iB_s aJ_540_1)) (sx_ite (p := fun l => sx_iOk prog_14_method_210_code l) (sx_iB_s aJ_540_2) (sx_iB_s aJ_540_3)))
def aW_540 : Nat → Option (Instr × Nat) := fun pc => sx_iF (aS_540 pc) pc
theorem aX_540 : ∀ pc i len, aW_540 pc = some (i, len) → decode aM_540.1.2.1 pc = .ok (i, len) := fun pc i len h => sx_iF_s (aT_540 pc) h
def aI_541_0 : sx_IL := [(0, .aload_n 0, 1), (1, .aload_n 0, 1), (2, .iload_n 1, 1), (3, .invokevirtual 998, 3), (6, .lload_n 2, 1), (7, .bipush 117, 2)]
theorem aJ_541_0 : sx_iB prog_14_method_208_code aI_541_0 = true := by decide +kernel
def aI_541_1 : sx_IL := [(9, .lconst 0, 1), (10, .invokevirtual 598, 3), (13, .lreturn, 1)]
theorem aJ_541_1 : sx_iB prog_14_method_208_code aI_541_1 = true := by decide +kernel
def aS_541 (pc : Nat) : sx_IL := (if pc < 9 then aI_541_0 else aI_541_1)
theorem aT_541 (pc : Nat) : sx_iOk prog_14_method_208_code (aS_541 pc) := (sx_ite (p := fun l => sx_iOk prog_14_method_208_code l) (sx_iB_s aJ_541_0) (sx_iB_s aJ_541_1))
def aW_541 : Nat → Option (Instr × Nat) := fun pc => sx_iF (aS_541 pc) pc
theorem aX_541 : ∀ pc i len, aW_541 pc = some (i, len) → decode aM_541.1.2.1 pc = .ok (i, len) := fun pc i len h => sx_iF_s (aT_541 pc) h
def aI_542_0 : sx_IL := [(0, .aload_n 0, 1), (1, .iconst 0, 1), (2, .putfield 814, 3), (5, .aload_n 0, 1), (6, .iload_n 2, 1), (7, .invokevirtual 817, 3)]
theorem aJ_542_0 : sx_iB prog_14_method_209_code aI_542_0 = true := by decide +kernel
def aI_542_1 : sx_IL := [(10, .aload_n 0, 1), (11, .iload_n 1, 1), (12, .bipush 24, 2), (14, .invokevirtual 1031, 3), (17, .aload_n 0, 1), (18, .iload_n 1, 1)]
theorem aJ_542_1 : sx_iB prog_14_method_209_code aI_542_1 = true := by decide +kernel
def aI_542_2 : sx_IL := [(19, .aload_n 0, 1), (20, .getfield 330, 3), (23, .iload_n 1, 1), (24, .iaload, 1), (25, .aload_n 0, 1), (26, .iload_n 1, 1)]
theorem aJ_542_2 : sx_iB prog_14_method_209_code aI_542_2 = true := by decide +kernel
def aI_542_3 : sx_IL := [(27, .aload_n 0, 1), (28, .getfield 315, 3), (31, .iload_n 1, 1), (32, .laload, 1), (33, .invokevirtual 1189, 3), (36, .invokevirtual 1034, 3)]
theorem aJ_542_3 : sx_iB prog_14_method_209_code aI_542_3 = true := by decide +kernel
def aI_542_4 : sx_IL := [(39, .return_, 1)]
theorem aJ_542_4 : sx_iB prog_14_method_209_code aI_542_4 = true := by decide +kernel
def aS_542 (pc : Nat) : sx_IL := (if pc < 19 then (if pc < 10 then aI_542_0 else aI_542_1) else (if pc < 27 then aI_542_2 else (if pc < 39 then aI_542_3 else aI_542_4)))
theorem aT_542 (pc : Nat) : sx_iOk prog_14_method_209_code (aS_542 pc) := (sx_ite (p := fun l => sx_iOk prog_14_method_209_code l) (sx_ite (p := fun l => sx_iOk prog_14_method_209_code l) (sx_iB_s aJ_542_0) (sx_iB_s aJ_542_1)) (sx_ite (p := fun l => sx_iOk prog_14_method_209_code l) (sx_iB_s aJ_542_2) (sx_ite (p := fun l => sx_iOk prog_14_method_209_code l) (sx_iB_s aJ_542_3) (sx_iB_s aJ_542_4))))
def aW_542 : Nat → Option (Instr × Nat) := fun pc => sx_iF (aS_542 pc) pc
theorem aX_542 : ∀ pc i len, aW_542 pc = some (i, len) → decode aM_542.1.2.1 pc = .ok (i, len) := fun pc i len h => sx_iF_s (aT_542 pc) h
def aI_543_0 : sx_IL := [(0, .iload_n 1, 1), (1, .iconst 2, 1), (2, .idiv, 1), (3, .istore 5, 2), (5, .iload_n 2, 1), (6, .lookupswitch 202 #[(1, 50), (5, 79), (11, 108), (15, 168), (20, 186)], 50)]
theorem aJ_543_0 : sx_iB prog_14_method_223_code aI_543_0 = true := by decide +kernel
def aI_543_1 : sx_IL := [(56, .aload_n 0, 1), (57, .getfield 1071, 3), (60, .ifCond .eq 14, 3), (63, .aload_n 0, 1), (64, .iload_n 1, 1), (65, .iload_n 3, 1)]
theorem aJ_543_1 : sx_iB prog_14_method_223_code aI_543_1 = true := by decide +kernel
def aI_543_2 : sx_IL := [(66, .iload 4, 2), (68, .invokevirtual 1253, 3), (71, .goto 148, 3), (74, .aload_n 0, 1), (75, .iload_n 1, 1), (76, .iload_n 3, 1)]
theorem aJ_543_2 : sx_iB prog_14_method_223_code aI_543_2 = true := by decide +kernel
def aI_543_3 : sx_IL := [(77, .iload 4, 2), (79, .invokevirtual 1256, 3), (82, .goto 137, 3), (85, .aload_n 0, 1), (86, .iload_n 1, 1), (87, .iload_n 3, 1)]
theorem aJ_543_3 : sx_iB prog_14_method_223_code aI_543_3 = true := by decide +kernel
def aI_543_4 : sx_IL := [(88, .iload 4, 2), (90, .invokevirtual 1139, 3), (93, .aload_n 0, 1), (94, .iload_n 1, 1), (95, .aload_n 0, 1), (96, .getfield 372, 3)]
theorem aJ_543_4 : sx_iB prog_14_method_223_code aI_543_4 = true := by decide +kernel
def aI_543_5 : sx_IL := [(99, .iload_n 1, 1), (100, .laload, 1), (101, .invokevirtual 1146, 3), (104, .aload_n 0, 1), (105, .getfield 291, 3), (108, .iload_n 1, 1)]
theorem aJ_543_5 : sx_iB prog_14_method_223_code aI_543_5 = true := by decide +kernel
def aI_543_6 : sx_IL := [(109, .iconst 5, 1), (110, .iastore, 1), (111, .goto 108, 3), (114, .aload_n 0, 1), (115, .iload_n 1, 1), (116, .iload_n 3, 1)]
theorem aJ_543_6 : sx_iB prog_14_method_223_code aI_543_6 = true := by decide +kernel
def aI_543_7 : sx_IL := [(117, .iload 4, 2), (119, .invokevirtual 1139, 3), (122, .aload_n 0, 1), (123, .getfield 345, 3), (126, .iload_n 1, 1), (127, .aload_n 0, 1)]
theorem aJ_543_7 : sx_iB prog_14_method_223_code aI_543_7 = true := by decide +kernel
def aI_543_8 : sx_IL := [(128, .getfield 1156, 3), (131, .iastore, 1), (132, .aload_n 0, 1), (133, .getfield 1156, 3), (136, .ifCond .le 17, 3), (139, .aload_n 0, 1)]
theorem aJ_543_8 : sx_iB prog_14_method_223_code aI_543_8 = true := by decide +kernel
def aI_543_9 : sx_IL := [(140, .getfield 381, 3), (143, .iload_n 1, 1), (144, .aload_n 0, 1), (145, .getfield 45, 3), (148, .sipush 244, 3), (151, .iaload, 1)]
theorem aJ_543_9 : sx_iB prog_14_method_223_code aI_543_9 = true := by decide +kernel
def aI_543_10 : sx_IL := [(152, .iastore, 1), (153, .aload_n 0, 1), (154, .getfield 291, 3), (157, .iload_n 1, 1), (158, .aload_n 0, 1), (159, .getfield 1156, 3)]
theorem aJ_543_10 : sx_iB prog_14_method_223_code aI_543_10 = true := by decide +kernel
def aI_543_11 : sx_IL := [(162, .ifCond .le 7, 3), (165, .iconst 4, 1), (166, .goto 4, 3), (169, .iconst 5, 1), (170, .iastore, 1), (171, .goto 48, 3)]
theorem aJ_543_11 : sx_iB prog_14_method_223_code aI_543_11 = true := by decide +kernel
def aI_543_12 : sx_IL := [(174, .aload_n 0, 1), (175, .iload_n 1, 1), (176, .iload_n 3, 1), (177, .iload 4, 2), (179, .invokevirtual 1139, 3), (182, .aload_n 0, 1)]
theorem aJ_543_12 : sx_iB prog_14_method_223_code aI_543_12 = true := by decide +kernel
def aI_543_13 : sx_IL := [(183, .getfield 291, 3), (186, .iload_n 1, 1), (187, .iconst 5, 1), (188, .iastore, 1), (189, .goto 30, 3), (192, .aload_n 0, 1)]
theorem aJ_543_13 : sx_iB prog_14_method_223_code aI_543_13 = true := by decide +kernel
def aI_543_14 : sx_IL := [(193, .iload_n 1, 1), (194, .iload_n 3, 1), (195, .iload 4, 2), (197, .invokevirtual 1139, 3), (200, .aload_n 0, 1), (201, .iload_n 1, 1)]
theorem aJ_543_14 : sx_iB prog_14_method_223_code aI_543_14 = true := by decide +kernel
def aI_543_15 : sx_IL := [(202, .invokevirtual 1259, 3), (205, .goto 14, 3), (208, .aload_n 0, 1), (209, .iload_n 1, 1), (210, .aload_n 0, 1), (211, .getfield 278, 3)]
theorem aJ_543_15 : sx_iB prog_14_method_223_code aI_543_15 = true := by decide +kernel
def aI_543_16 : sx_IL := [(214, .iload_n 3, 1), (215, .iaload, 1), (216, .invokevirtual 1165, 3), (219, .return_, 1)]
theorem aJ_543_16 : sx_iB prog_14_method_223_code aI_543_16 = true := by decide +kernel
def aS_543 (pc : Nat) : sx_IL := (if pc < 128 then (if pc < 88 then (if pc < 66 then (if pc < 56 then aI_543_0 else aI_543_1) else (if pc < 77 then aI_543_2 else aI_543_3)) else (if pc < 109 then (if pc < 99 then aI_543_4 else aI_543_5) else (if pc < 117 then aI_543_6 else aI_543_7))) else (if pc < 174 then (if pc < 152 then (if pc < 140 then aI_543_8 else aI_543_9) else (if pc < 162 then aI_543_10 else aI_543_11)) else (if pc < 193 then (if pc < 183 then aI_543_12 else aI_543_13) else (if pc < 202 then aI_543_14 else (if pc < 214 then aI_543_15 else aI_543_16)))))
theorem aT_543 (pc : Nat) : sx_iOk prog_14_method_223_code (aS_543 pc) := (sx_ite (p := fun l => sx_iOk prog_14_method_223_code l) (sx_ite (p := fun l => sx_iOk prog_14_method_223_code l) (sx_ite (p := fun l => sx_iOk prog_14_method_223_code l) (sx_ite (p := fun l => sx_iOk prog_14_method_223_code l) (sx_iB_s aJ_543_0) (sx_iB_s aJ_543_1)) (sx_ite (p := fun l => sx_iOk prog_14_method_223_code l) (sx_iB_s aJ_543_2) (sx_iB_s aJ_543_3))) (sx_ite (p := fun l => sx_iOk prog_14_method_223_code l) (sx_ite (p := fun l => sx_iOk prog_14_method_223_code l) (sx_iB_s aJ_543_4) (sx_iB_s aJ_543_5)) (sx_ite (p := fun l => sx_iOk prog_14_method_223_code l) (sx_iB_s aJ_543_6) (sx_iB_s aJ_543_7)))) (sx_ite (p := fun l => sx_iOk prog_14_method_223_code l) (sx_ite (p := fun l => sx_iOk prog_14_method_223_code l) (sx_ite (p := fun l => sx_iOk prog_14_method_223_code l) (sx_iB_s aJ_543_8) (sx_iB_s aJ_543_9)) (sx_ite (p := fun l => sx_iOk prog_14_method_223_code l) (sx_iB_s aJ_543_10) (sx_iB_s aJ_543_11))) (sx_ite (p := fun l => sx_iOk prog_14_method_223_code l) (sx_ite (p := fun l => sx_iOk prog_14_method_223_code l) (sx_iB_s aJ_543_12) (sx_iB_s aJ_543_13)) (sx_ite (p := fun l => sx_iOk prog_14_method_223_code l) (sx_iB_s aJ_543_14) (sx_ite (p := fun l => sx_iOk prog_14_method_223_code l) (sx_iB_s aJ_543_15) (sx_iB_s aJ_543_16))))))
def aW_543 : Nat → Option (Instr × Nat) := fun pc => sx_iF (aS_543 pc) pc
theorem aX_543 : ∀ pc i len, aW_543 pc = some (i, len) → decode aM_543.1.2.1 pc = .ok (i, len) := fun pc i len h => sx_iF_s (aT_543 pc) h
def aI_544_0 : sx_IL := [(0, .iload_n 1, 1), (1, .iconst 2, 1), (2, .idiv, 1), (3, .istore 4, 2), (5, .aload_n 0, 1), (6, .getfield 465, 3)]
theorem aJ_544_0 : sx_iB prog_14_method_224_code aI_544_0 = true := by decide +kernel
def aI_544_1 : sx_IL := [(9, .iload 4, 2), (11, .iload_n 3, 1), (12, .iastore, 1), (13, .iconst 0, 1), (14, .istore 5, 2), (16, .iload 5, 2)]
theorem aJ_544_1 : sx_iB prog_14_method_224_code aI_544_1 = true := by decide +kernel
def aI_544_2 : sx_IL := [(18, .iload_n 3, 1), (19, .if_icmp .ge 32, 3), (22, .aload_n 0, 1), (23, .getfield 462, 3), (26, .sipush 2500, 3), (29, .iload 4, 2)]
theorem aJ_544_2 : sx_iB prog_14_method_224_code aI_544_2 = true := by decide +kernel
def aI_544_3 : sx_IL := [(31, .imul, 1), (32, .iload 5, 2), (34, .iadd, 1), (35, .aload_n 0, 1), (36, .getfield 278, 3), (39, .iload_n 2, 1)]
theorem aJ_544_3 : sx_iB prog_14_method_224_code aI_544_3 = true := by decide +kernel
def aI_544_4 : sx_IL := [(40, .iload 5, 2), (42, .iadd, 1), (43, .iaload, 1), (44, .iastore, 1), (45, .iinc 5 1, 3), (48, .goto (-32), 3)]
theorem aJ_544_4 : sx_iB prog_14_method_224_code aI_544_4 = true := by decide +kernel
def aI_544_5 : sx_IL := [(51, .aload_n 0, 1), (52, .iconst 0, 1), (53, .aload_n 0, 1), (54, .getfield 278, 3), (57, .iload_n 2, 1), (58, .iload_n 3, 1)]
theorem aJ_544_5 : sx_iB prog_14_method_224_code aI_544_5 = true := by decide +kernel
def aI_544_6 : sx_IL := [(59, .invokevirtual 592, 3), (62, .lstore 5, 2), (64, .aload_n 0, 1), (65, .getfield 468, 3), (68, .iload 4, 2), (70, .aload_n 0, 1)]
theorem aJ_544_6 : sx_iB prog_14_method_224_code aI_544_6 = true := by decide +kernel
def aI_544_7 : sx_IL := [(71, .iconst 0, 1), (72, .lconst 0, 1), (73, .bipush 107, 2), (75, .lload 5, 2), (77, .invokevirtual 598, 3), (80, .lastore, 1)]
theorem aJ_544_7 : sx_iB prog_14_method_224_code aI_544_7 = true := by decide +kernel
def aI_544_8 : sx_IL := [(81, .aload_n 0, 1), (82, .getfield 330, 3), (85, .iload_n 1, 1), (86, .aload_n 0, 1), (87, .getfield 1208, 3), (90, .iastore, 1)]
theorem aJ_544_8 : sx_iB prog_14_method_224_code aI_544_8 = true := by decide +kernel
def aI_544_9 : sx_IL := [(91, .aload_n 0, 1), (92, .getfield 456, 3), (95, .iload_n 1, 1), (96, .aload_n 0, 1), (97, .getfield 1208, 3), (100, .iastore, 1)]
theorem aJ_544_9 : sx_iB prog_14_method_224_code aI_544_9 = true := by decide +kernel
def aI_544_10 : sx_IL := [(101, .aload_n 0, 1), (102, .getfield 459, 3), (105, .iload_n 1, 1), (106, .aload_n 0, 1), (107, .getfield 1241, 3), (110, .iastore, 1)]
theorem aJ_544_10 : sx_iB prog_14_method_224_code aI_544_10 = true := by decide +kernel
def aI_544_11 : sx_IL := [(111, .aload_n 0, 1), (112, .getfield 354, 3), (115, .iload_n 1, 1), (116, .aload_n 0, 1), (117, .bipush 8, 2), (119, .invokevirtual 1105, 3)]
theorem aJ_544_11 : sx_iB prog_14_method_224_code aI_544_11 = true := by decide +kernel
def aI_544_12 : sx_IL := [(122, .bastore, 1), (123, .aload_n 0, 1), (124, .iload_n 1, 1), (125, .iload_n 2, 1), (126, .iload_n 3, 1), (127, .invokevirtual 1139, 3)]
theorem aJ_544_12 : sx_iB prog_14_method_224_code aI_544_12 = true := by decide +kernel
def aI_544_13 : sx_IL := [(130, .aload_n 0, 1), (131, .iload_n 1, 1), (132, .invokevirtual 1168, 3), (135, .aload_n 0, 1), (136, .iconst 0, 1), (137, .putfield 814, 3)]
theorem aJ_544_13 : sx_iB prog_14_method_224_code aI_544_13 = true := by decide +kernel
def aI_544_14 : sx_IL := [(140, .aload_n 0, 1), (141, .aload_n 0, 1), (142, .getfield 1208, 3), (145, .invokevirtual 817, 3), (148, .aload_n 0, 1), (149, .iconst 3, 1)]
theorem aJ_544_14 : sx_iB prog_14_method_224_code aI_544_14 = true := by decide +kernel
def aI_544_15 : sx_IL := [(150, .iconst 1, 1), (151, .invokevirtual 1004, 3), (154, .aload_n 0, 1), (155, .aload_n 0, 1), (156, .getfield 1241, 3), (159, .invokevirtual 817, 3)]
theorem aJ_544_15 : sx_iB prog_14_method_224_code aI_544_15 = true := by decide +kernel
def aI_544_16 : sx_IL := [(162, .aload_n 0, 1), (163, .bipush 9, 2), (165, .bipush 8, 2), (167, .invokevirtual 1004, 3), (170, .aload_n 0, 1), (171, .aload_n 0, 1)]
theorem aJ_544_16 : sx_iB prog_14_method_224_code aI_544_16 = true := by decide +kernel
def aI_544_17 : sx_IL := [(172, .getfield 468, 3), (175, .iload 4, 2), (177, .laload, 1), (178, .invokevirtual 831, 3), (181, .aload_n 0, 1), (182, .iload_n 1, 1)]
theorem aJ_544_17 : sx_iB prog_14_method_224_code aI_544_17 = true := by decide +kernel
def aI_544_18 : sx_IL := [(183, .bipush 6, 2), (185, .invokevirtual 1031, 3), (188, .aload_n 0, 1), (189, .getfield 291, 3), (192, .iload_n 1, 1), (193, .iconst 1, 1)]
theorem aJ_544_18 : sx_iB prog_14_method_224_code aI_544_18 = true := by decide +kernel
def aI_544_19 : sx_IL := [(194, .iastore, 1), (195, .return_, 1)]
theorem aJ_544_19 : sx_iB prog_14_method_224_code aI_544_19 = true := by decide +kernel
def aS_544 (pc : Nat) : sx_IL := (if pc < 101 then (if pc < 51 then (if pc < 18 then (if pc < 9 then aI_544_0 else aI_544_1) else (if pc < 31 then aI_544_2 else (if pc < 40 then aI_544_3 else aI_544_4))) else (if pc < 71 then (if pc < 59 then aI_544_5 else aI_544_6) else (if pc < 81 then aI_544_7 else (if pc < 91 then aI_544_8 else aI_544_9)))) else (if pc < 150 then (if pc < 122 then (if pc < 111 then aI_544_10 else aI_544_11) else (if pc < 130 then aI_544_12 else (if pc < 140 then aI_544_13 else aI_544_14))) else (if pc < 172 then (if pc < 162 then aI_544_15 else aI_544_16) else (if pc < 183 then aI_544_17 else (if pc < 194 then aI_544_18 else aI_544_19)))))
theorem aT_544 (pc : Nat) : sx_iOk prog_14_method_224_code (aS_544 pc) := (sx_ite (p := fun l => sx_iOk prog_14_method_224_code l) (sx_ite (p := fun l => sx_iOk prog_14_method_224_code l) (sx_ite (p := fun l => sx_iOk prog_14_method_224_code l) (sx_ite (p := fun l => sx_iOk prog_14_method_224_code l) (sx_iB_s aJ_544_0) (sx_iB_s aJ_544_1)) (sx_ite (p := fun l => sx_iOk prog_14_method_224_code l) (sx_iB_s aJ_544_2) (sx_ite (p := fun l => sx_iOk prog_14_method_224_code l) (sx_iB_s aJ_544_3) (sx_iB_s aJ_544_4)))) (sx_ite (p := fun l => sx_iOk prog_14_method_224_code l) (sx_ite (p := fun l => sx_iOk prog_14_method_224_code l) (sx_iB_s aJ_544_5) (sx_iB_s aJ_544_6)) (sx_ite (p := fun l => sx_iOk prog_14_method_224_code l) (sx_iB_s aJ_544_7) (sx_ite (p := fun l => sx_iOk prog_14_method_224_code l) (sx_iB_s aJ_544_8) (sx_iB_s aJ_544_9))))) (sx_ite (p := fun l => sx_iOk prog_14_method_224_code l) (sx_ite (p := fun l => sx_iOk prog_14_method_224_code l) (sx_ite (p := fun l => sx_iOk prog_14_method_224_code l) (sx_iB_s aJ_544_10) (sx_iB_s aJ_544_11)) (sx_ite (p := fun l => sx_iOk prog_14_method_224_code l) (sx_iB_s aJ_544_12) (sx_ite (p := fun l => sx_iOk prog_14_method_224_code l) (sx_iB_s aJ_544_13) (sx_iB_s aJ_544_14)))) (sx_ite (p := fun l => sx_iOk prog_14_method_224_code l) (sx_ite (p := fun l => sx_iOk prog_14_method_224_code l) (sx_iB_s aJ_544_15) (sx_iB_s aJ_544_16)) (sx_ite (p := fun l => sx_iOk prog_14_method_224_code l) (sx_iB_s aJ_544_17) (sx_ite (p := fun l => sx_iOk prog_14_method_224_code l) (sx_iB_s aJ_544_18) (sx_iB_s aJ_544_19))))))
def aW_544 : Nat → Option (Instr × Nat) := fun pc => sx_iF (aS_544 pc) pc
theorem aX_544 : ∀ pc i len, aW_544 pc = some (i, len) → decode aM_544.1.2.1 pc = .ok (i, len) := fun pc i len h => sx_iF_s (aT_544 pc) h
def aI_545_0 : sx_IL := [(0, .iload_n 1, 1), (1, .iconst 2, 1), (2, .idiv, 1), (3, .istore 4, 2), (5, .aload_n 0, 1), (6, .getfield 261, 3)]
theorem aJ_545_0 : sx_iB prog_14_method_226_code aI_545_0 = true := by decide +kernel
def aI_545_1 : sx_IL := [(9, .iload_n 1, 1), (10, .iaload, 1), (11, .istore 5, 2), (13, .aload_n 0, 1), (14, .iload_n 1, 1), (15, .invokevirtual 1262, 3)]
theorem aJ_545_1 : sx_iB prog_14_method_226_code aI_545_1 = true := by decide +kernel
def aI_545_2 : sx_IL := [(18, .istore 6, 2), (20, .iload 6, 2), (22, .ifCond .eq 13, 3), (25, .aload_n 0, 1), (26, .getfield 186, 3), (29, .aload_n 0, 1)]
theorem aJ_545_2 : sx_iB prog_14_method_226_code aI_545_2 = true := by decide +kernel
def aI_545_3 : sx_IL := [(30, .getfield 1211, 3), (33, .iconst 1, 1), (34, .bastore, 1), (35, .aload_n 0, 1), (36, .getfield 354, 3), (39, .iload_n 1, 1)]
theorem aJ_545_3 : sx_iB prog_14_method_226_code aI_545_3 = true := by decide +kernel
def aI_545_4 : sx_IL := [(40, .aload_n 0, 1), (41, .bipush 8, 2), (43, .invokevirtual 1105, 3), (46, .ifCond .eq 16, 3), (49, .iload 6, 2), (51, .ifCond .ne 7, 3)]
theorem aJ_545_4 : sx_iB prog_14_method_226_code aI_545_4 = true := by decide +kernel
def aI_545_5 : sx_IL := [(54, .iconst 1, 1), (55, .goto 13, 3), (58, .iconst 0, 1), (59, .goto 9, 3), (62, .aload_n 0, 1), (63, .getfield 354, 3)]
theorem aJ_545_5 : sx_iB prog_14_method_226_code aI_545_5 = true := by decide +kernel
def aI_545_6 : sx_IL := [(66, .iload_n 1, 1), (67, .baload, 1), (68, .bastore, 1), (69, .aload_n 0, 1), (70, .getfield 342, 3), (73, .iload_n 1, 1)]
theorem aJ_545_6 : sx_iB prog_14_method_226_code aI_545_6 = true := by decide +kernel
def aI_545_7 : sx_IL := [(74, .iload 6, 2), (76, .bastore, 1), (77, .aload_n 0, 1), (78, .getfield 330, 3), (81, .iload_n 1, 1), (82, .aload_n 0, 1)]
theorem aJ_545_7 : sx_iB prog_14_method_226_code aI_545_7 = true := by decide +kernel
def aI_545_8 : sx_IL := [(83, .getfield 1208, 3), (86, .iastore, 1), (87, .aload_n 0, 1), (88, .getfield 333, 3), (91, .iload_n 1, 1), (92, .aload_n 0, 1)]
theorem aJ_545_8 : sx_iB prog_14_method_226_code aI_545_8 = true := by decide +kernel
def aI_545_9 : sx_IL := [(93, .getfield 1247, 3), (96, .ifCond .eq 10, 3), (99, .aload_n 0, 1), (100, .getfield 1241, 3), (103, .goto 4, 3), (106, .iconst 0, 1)]
theorem aJ_545_9 : sx_iB prog_14_method_226_code aI_545_9 = true := by decide +kernel
def aI_545_10 : sx_IL := [(107, .iastore, 1), (108, .aload_n 0, 1), (109, .getfield 336, 3), (112, .iload_n 1, 1), (113, .aload_n 0, 1), (114, .getfield 1250, 3)]
theorem aJ_545_10 : sx_iB prog_14_method_226_code aI_545_10 = true := by decide +kernel
def aI_545_11 : sx_IL := [(117, .iastore, 1), (118, .aload_n 0, 1), (119, .getfield 339, 3), (122, .iload_n 1, 1), (123, .aload_n 0, 1), (124, .getfield 1244, 3)]
theorem aJ_545_11 : sx_iB prog_14_method_226_code aI_545_11 = true := by decide +kernel
def aI_545_12 : sx_IL := [(127, .ifCond .eq 10, 3), (130, .aload_n 0, 1), (131, .getfield 1205, 3), (134, .goto 4, 3), (137, .iconst 0, 1), (138, .iastore, 1)]
theorem aJ_545_12 : sx_iB prog_14_method_226_code aI_545_12 = true := by decide +kernel
def aI_545_13 : sx_IL := [(139, .aload_n 0, 1), (140, .getfield 1244, 3), (143, .ifCond .eq 10, 3), (146, .aload_n 0, 1), (147, .invokevirtual 1220, 3), (150, .goto 4, 3)]
theorem aJ_545_13 : sx_iB prog_14_method_226_code aI_545_13 = true := by decide +kernel
def aI_545_14 : sx_IL := [(153, .lconst 0, 1), (154, .lstore 7, 2), (156, .aload_n 0, 1), (157, .iload_n 1, 1), (158, .iload_n 2, 1), (159, .iload_n 3, 1)]
theorem aJ_545_14 : sx_iB prog_14_method_226_code aI_545_14 = true := by decide +kernel
def aI_545_15 : sx_IL := [(160, .invokevirtual 1139, 3), (163, .aload_n 0, 1), (164, .iload_n 1, 1), (165, .invokevirtual 998, 3), (168, .istore 9, 2), (170, .aload_n 0, 1)]
theorem aJ_545_15 : sx_iB prog_14_method_226_code aI_545_15 = true := by decide +kernel
def aI_545_16 : sx_IL := [(171, .iload_n 1, 1), (172, .iload 9, 2), (174, .invokevirtual 973, 3), (177, .lstore 10, 2), (179, .aload_n 0, 1), (180, .iconst 0, 1)]
theorem aJ_545_16 : sx_iB prog_14_method_226_code aI_545_16 = true := by decide +kernel
def aI_545_17 : sx_IL := [(181, .putfield 814, 3), (184, .aload_n 0, 1), (185, .aload_n 0, 1), (186, .getfield 471, 3), (189, .iload 4, 2), (191, .laload, 1)]
theorem aJ_545_17 : sx_iB prog_14_method_226_code aI_545_17 = true := by decide +kernel
def aI_545_18 : sx_IL := [(192, .invokevirtual 831, 3), (195, .aload_n 0, 1), (196, .aload_n 0, 1), (197, .getfield 1208, 3), (200, .invokevirtual 817, 3), (203, .aload_n 0, 1)]
theorem aJ_545_18 : sx_iB prog_14_method_226_code aI_545_18 = true := by decide +kernel
def aI_545_19 : sx_IL := [(204, .getfield 1247, 3), (207, .ifCond .eq 35, 3), (210, .aload_n 0, 1), (211, .iconst 4, 1), (212, .iconst 5, 1), (213, .invokevirtual 1004, 3)]
theorem aJ_545_19 : sx_iB prog_14_method_226_code aI_545_19 = true := by decide +kernel
def aI_545_20 : sx_IL := [(216, .aload_n 0, 1), (217, .aload_n 0, 1), (218, .getfield 1241, 3), (221, .invokevirtual 817, 3), (224, .aload_n 0, 1), (225, .aload_n 0, 1)]
theorem aJ_545_20 : sx_iB prog_14_method_226_code aI_545_20 = true := by decide +kernel
def aI_545_21 : sx_IL := [(226, .getfield 1241, 3), (229, .aload_n 0, 1), (230, .getfield 474, 3), (233, .iload 4, 2), (235, .iaload, 1), (236, .invokestatic 640, 3)]
theorem aJ_545_21 : sx_iB prog_14_method_226_code aI_545_21 = true := by decide +kernel
def aI_545_22 : sx_IL := [(239, .invokevirtual 823, 3), (242, .aload_n 0, 1), (243, .getfield 1244, 3), (246, .ifCond .eq 18, 3), (249, .aload_n 0, 1), (250, .bipush 10, 2)]
theorem aJ_545_22 : sx_iB prog_14_method_226_code aI_545_22 = true := by decide +kernel
def aI_545_23 : sx_IL := [(252, .iconst 1, 1), (253, .invokevirtual 1004, 3), (256, .aload_n 0, 1), (257, .aload_n 0, 1), (258, .getfield 1214, 3), (261, .invokevirtual 817, 3)]
theorem aJ_545_23 : sx_iB prog_14_method_226_code aI_545_23 = true := by decide +kernel
def aI_545_24 : sx_IL := [(264, .aload_n 0, 1), (265, .iload_n 1, 1), (266, .iconst 2, 1), (267, .invokevirtual 1031, 3), (270, .aload_n 0, 1), (271, .iload_n 1, 1)]
theorem aJ_545_24 : sx_iB prog_14_method_226_code aI_545_24 = true := by decide +kernel
def aI_545_25 : sx_IL := [(272, .lload 7, 2), (274, .aload_n 0, 1), (275, .getfield 1133, 3), (278, .invokevirtual 1142, 3), (281, .aload_n 0, 1), (282, .iload_n 1, 1)]
theorem aJ_545_25 : sx_iB prog_14_method_226_code aI_545_25 = true := by decide +kernel
def aI_545_26 : sx_IL := [(283, .aload_n 0, 1), (284, .getfield 330, 3), (287, .iload_n 1, 1), (288, .iaload, 1), (289, .aload_n 0, 1), (290, .getfield 375, 3)]
theorem aJ_545_26 : sx_iB prog_14_method_226_code aI_545_26 = true := by decide +kernel
def aI_545_27 : sx_IL := [(293, .iload_n 1, 1), (294, .laload, 1), (295, .invokevirtual 1034, 3), (298, .aload_n 0, 1), (299, .iload_n 1, 1), (300, .iload 6, 2)]
theorem aJ_545_27 : sx_iB prog_14_method_226_code aI_545_27 = true := by decide +kernel
def aI_545_28 : sx_IL := [(302, .ifCond .eq 22, 3), (305, .aload_n 0, 1), (306, .iload 9, 2), (308, .aload_n 0, 1), (309, .getfield 357, 3), (312, .iload_n 1, 1)]
theorem aJ_545_28 : sx_iB prog_14_method_226_code aI_545_28 = true := by decide +kernel
def aI_545_29 : sx_IL := [(313, .laload, 1), (314, .bipush 101, 2), (316, .lload 10, 2), (318, .invokevirtual 598, 3), (321, .goto 9, 3), (324, .aload_n 0, 1)]
theorem aJ_545_29 : sx_iB prog_14_method_226_code aI_545_29 = true := by decide +kernel
def aI_545_30 : sx_IL := [(325, .getfield 372, 3), (328, .iload_n 1, 1), (329, .laload, 1), (330, .invokevirtual 1146, 3), (333, .aload_n 0, 1), (334, .iconst 0, 1)]
theorem aJ_545_30 : sx_iB prog_14_method_226_code aI_545_30 = true := by decide +kernel
def aI_545_31 : sx_IL := [(335, .putfield 814, 3), (338, .iload 6, 2), (340, .ifCond .eq 10, 3), (343, .aload_n 0, 1), (344, .bipush 8, 2), (346, .iconst 0, 1)]
theorem aJ_545_31 : sx_iB prog_14_method_226_code aI_545_31 = true := by decide +kernel
def aI_545_32 : sx_IL := [(347, .invokevirtual 1004, 3), (350, .aload_n 0, 1), (351, .iload_n 1, 1), (352, .bipush 8, 2), (354, .invokevirtual 1031, 3), (357, .aload_n 0, 1)]
theorem aJ_545_32 : sx_iB prog_14_method_226_code aI_545_32 = true := by decide +kernel
def aI_545_33 : sx_IL := [(358, .getfield 1244, 3), (361, .ifCond .ne 22, 3), (364, .aload_n 0, 1), (365, .getfield 102, 3), (368, .bipush 8, 2), (370, .iload 5, 2)]
theorem aJ_545_33 : sx_iB prog_14_method_226_code aI_545_33 = true := by decide +kernel
def aI_545_34 : sx_IL := [(372, .imul, 1), (373, .iconst 1, 1), (374, .iadd, 1), (375, .iaload, 1), (376, .ifCond .le 7, 3), (379, .iconst 1, 1)]
theorem aJ_545_34 : sx_iB prog_14_method_226_code aI_545_34 = true := by decide +kernel
def aI_545_35 : sx_IL := [(380, .goto 4, 3), (383, .iconst 0, 1), (384, .istore 12, 2), (386, .iload 12, 2), (388, .ifCond .eq 23, 3), (391, .aload_n 0, 1)]
theorem aJ_545_35 : sx_iB prog_14_method_226_code aI_545_35 = true := by decide +kernel
def aI_545_36 : sx_IL := [(392, .iconst 0, 1), (393, .putfield 814, 3), (396, .aload_n 0, 1), (397, .iload 5, 2), (399, .iconst 5, 1), (400, .iconst 2, 1)]
theorem aJ_545_36 : sx_iB prog_14_method_226_code aI_545_36 = true := by decide +kernel
def aI_545_37 : sx_IL := [(401, .invokevirtual 1007, 3), (404, .aload_n 0, 1), (405, .iload_n 1, 1), (406, .bipush 13, 2), (408, .invokevirtual 1031, 3), (411, .aload_n 0, 1)]
theorem aJ_545_37 : sx_iB prog_14_method_226_code aI_545_37 = true := by decide +kernel
def aI_545_38 : sx_IL := [(412, .getfield 1244, 3), (415, .ifCond .ne 48, 3), (418, .aload_n 0, 1), (419, .iload 5, 2), (421, .aload_n 0, 1), (422, .getfield 120, 3)]
theorem aJ_545_38 : sx_iB prog_14_method_226_code aI_545_38 = true := by decide +kernel
def aI_545_39 : sx_IL := [(425, .iload 5, 2), (427, .iaload, 1), (428, .aload_n 0, 1), (429, .aload_n 0, 1), (430, .getfield 117, 3), (433, .iconst 4, 1)]
theorem aJ_545_39 : sx_iB prog_14_method_226_code aI_545_39 = true := by decide +kernel
def aI_545_40 : sx_IL := [(434, .iload 5, 2), (436, .imul, 1), (437, .iaload, 1), (438, .invokevirtual 1265, 3), (441, .invokevirtual 1180, 3), (444, .aload_n 0, 1)]
theorem aJ_545_40 : sx_iB prog_14_method_226_code aI_545_40 = true := by decide +kernel
def aI_545_41 : sx_IL := [(445, .iload_n 1, 1), (446, .bipush 11, 2), (448, .invokevirtual 1031, 3), (451, .aload_n 0, 1), (452, .iload_n 1, 1), (453, .iload 5, 2)]
theorem aJ_545_41 : sx_iB prog_14_method_226_code aI_545_41 = true := by decide +kernel
def aI_545_42 : sx_IL := [(455, .aload_n 0, 1), (456, .getfield 1250, 3), (459, .iconst 0, 1), (460, .invokevirtual 1183, 3), (463, .aload_n 0, 1), (464, .iload_n 1, 1)]
theorem aJ_545_42 : sx_iB prog_14_method_226_code aI_545_42 = true := by decide +kernel
def aI_545_43 : sx_IL := [(465, .iconst 0, 1), (466, .invokevirtual 1186, 3), (469, .aload_n 0, 1), (470, .iload_n 1, 1), (471, .invokevirtual 1171, 3), (474, .aload_n 0, 1)]
theorem aJ_545_43 : sx_iB prog_14_method_226_code aI_545_43 = true := by decide +kernel
def aI_545_44 : sx_IL := [(475, .iload_n 1, 1), (476, .aload_n 0, 1), (477, .getfield 330, 3), (480, .iload_n 1, 1), (481, .iaload, 1), (482, .aload_n 0, 1)]
theorem aJ_545_44 : sx_iB prog_14_method_226_code aI_545_44 = true := by decide +kernel
def aI_545_45 : sx_IL := [(483, .iload_n 1, 1), (484, .iconst 0, 1), (485, .invokevirtual 1174, 3), (488, .invokevirtual 1034, 3), (491, .aload_n 0, 1), (492, .getfield 291, 3)]
theorem aJ_545_45 : sx_iB prog_14_method_226_code aI_545_45 = true := by decide +kernel
def aI_545_46 : sx_IL := [(495, .iload_n 1, 1), (496, .iload 6, 2), (498, .ifCond .eq 7, 3), (501, .iconst 2, 1), (502, .goto 13, 3), (505, .iload 12, 2)]
theorem aJ_545_46 : sx_iB prog_14_method_226_code aI_545_46 = true := by decide +kernel
def aI_545_47 : sx_IL := [(507, .ifCond .eq 7, 3), (510, .iconst 3, 1), (511, .goto 4, 3), (514, .iconst 5, 1), (515, .iastore, 1), (516, .return_, 1)]
theorem aJ_545_47 : sx_iB prog_14_method_226_code aI_545_47 = true := by decide +kernel
def aS_545 (pc : Nat) : sx_IL := (if pc < 264 then (if pc < 127 then (if pc < 66 then (if pc < 30 then (if pc < 9 then aI_545_0 else (if pc < 18 then aI_545_1 else aI_545_2)) else (if pc < 40 then aI_545_3 else (if pc < 54 then aI_545_4 else aI_545_5))) else (if pc < 93 then (if pc < 74 then aI_545_6 else (if pc < 83 then aI_545_7 else aI_545_8)) else (if pc < 107 then aI_545_9 else (if pc < 117 then aI_545_10 else aI_545_11)))) else (if pc < 192 then (if pc < 160 then (if pc < 139 then aI_545_12 else (if pc < 153 then aI_545_13 else aI_545_14)) else (if pc < 171 then aI_545_15 else (if pc < 181 then aI_545_16 else aI_545_17))) else (if pc < 226 then (if pc < 204 then aI_545_18 else (if pc < 216 then aI_545_19 else aI_545_20)) else (if pc < 239 then aI_545_21 else (if pc < 252 then aI_545_22 else aI_545_23))))) else (if pc < 392 then (if pc < 325 then (if pc < 293 then (if pc < 272 then aI_545_24 else (if pc < 283 then aI_545_25 else aI_545_26)) else (if pc < 302 then aI_545_27 else (if pc < 313 then aI_545_28 else aI_545_29))) else (if pc < 358 then (if pc < 335 then aI_545_30 else (if pc < 347 then aI_545_31 else aI_545_32)) else (if pc < 372 then aI_545_33 else (if pc < 380 then aI_545_34 else aI_545_35)))) else (if pc < 455 then (if pc < 425 then (if pc < 401 then aI_545_36 else (if pc < 412 then aI_545_37 else aI_545_38)) else (if pc < 434 then aI_545_39 else (if pc < 445 then aI_545_40 else aI_545_41))) else (if pc < 483 then (if pc < 465 then aI_545_42 else (if pc < 475 then aI_545_43 else aI_545_44)) else (if pc < 495 then aI_545_45 else (if pc < 507 then aI_545_46 else aI_545_47))))))
theorem aT_545 (pc : Nat) : sx_iOk prog_14_method_226_code (aS_545 pc) := (sx_ite (p := fun l => sx_iOk prog_14_method_226_code l) (sx_ite (p := fun l => sx_iOk prog_14_method_226_code l) (sx_ite (p := fun l => sx_iOk prog_14_method_226_code l) (sx_ite (p := fun l => sx_iOk prog_14_method_226_code l) (sx_ite (p := fun l => sx_iOk prog_14_method_226_code l) (sx_iB_s aJ_545_0) (sx_ite (p := fun l => sx_iOk prog_14_method_226_code l) (sx_iB_s aJ_545_1) (sx_iB_s aJ_545_2))) (sx_ite (p := fun l => sx_iOk prog_14_method_226_code l) (sx_iB_s aJ_545_3) (sx_ite (p := fun l => sx_iOk prog_14_method_226_code l) (sx_iB_s aJ_545_4) (sx_iB_s aJ_545_5)))) (sx_ite (p := fun l => sx_iOk prog_14_method_226_code l) (sx_ite (p := fun l => sx_iOk prog_14_method_226_code l) (sx_iB_s aJ_545_6) (sx_ite (p := fun l => sx_iOk prog_14_method_226_code l) (sx_iB_s aJ_545_7) (sx_iB_s aJ_545_8))) (sx_ite (p := fun l => sx_iOk prog_14_method_226_code l) (sx_iB_s aJ_545_9) (sx_ite (p := fun l => sx_iOk prog_14_method_226_code l) (sx_iB_s aJ_545_10) (sx_iB_s aJ_545_11))))) (sx_ite (p := fun l => sx_iOk prog_14_method_226_code l) (sx_ite (p := fun l => sx_iOk prog_14_method_226_code l) (sx_ite (p := fun l => sx_iOk prog_14_method_226_code l) (sx_iB_s aJ_545_12) (sx_ite (p := fun l => sx_iOk prog_14_method_226_code l) (sx_iB_s aJ_545_13) (sx_iB_s aJ_545_14))) (sx_ite (p := fun l => sx_iOk prog_14_method_226_code l) (sx_iB_s aJ_545_15) (sx_ite (p := fun l => sx_iOk prog_14_method_226_code l) (sx_iB_s aJ_545_16) (sx_iB_s aJ_545_17)))) (sx_ite (p := fun l => sx_iOk prog_14_method_226_code l) (sx_ite (p := fun l => sx_iOk prog_14_method_226_code l) (sx_iB_s aJ_545_18) (sx_ite (p := fun l => sx_iOk prog_14_method_226_code l) (sx_iB_s aJ_545_19) (sx_iB_s aJ_545_20))) (sx_ite (p := fun l => sx_iOk prog_14_method_226_code l) (sx_iB_s aJ_545_21) (sx_ite (p := fun l => sx_iOk prog_14_method_226_code l) (sx_iB_s aJ_545_22) (sx_iB_s aJ_545_23)))))) (sx_ite (p := fun l => sx_iOk prog_14_method_226_code l) (sx_ite (p := fun l => sx_iOk prog_14_method_226_code l) (sx_ite (p := fun l => sx_iOk prog_14_method_226_code l) (sx_ite (p := fun l => sx_iOk prog_14_method_226_code l) (sx_iB_s aJ_545_24) (sx_ite (p := fun l => sx_iOk prog_14_method_226_code l) (sx_iB_s aJ_545_25) (sx_iB_s aJ_545_26))) (sx_ite (p := fun l => sx_iOk prog_14_method_226_code l) (sx_iB_s aJ_545_27) (sx_ite (p := fun l => sx_iOk prog_14_method_226_code l) (sx_iB_s aJ_545_28) (sx_iB_s aJ_545_29)))) (sx_ite (p := fun l => sx_iOk prog_14_method_226_code l) (sx_ite (p := fun l => sx_iOk prog_14_method_226_code l) (sx_iB_s aJ_545_30) (sx_ite (p := fun l => sx_iOk prog_14_method_226_code l) (sx_iB_s aJ_545_31) (sx_iB_s aJ_545_32))) (sx_ite (p := fun l => sx_iOk prog_14_method_226_code l) (sx_iB_s aJ_545_33) (sx_ite (p := fun l => sx_iOk prog_14_method_226_code l) (sx_iB_s aJ_545_34) (sx_iB_s aJ_545_35))))) (sx_ite (p := fun l => sx_iOk prog_14_method_226_code l) (sx_ite (p := fun l => sx_iOk prog_14_method_226_code l) (sx_ite (p := fun l => sx_iOk prog_14_method_226_code l) (sx_iB_s aJ_545_36) (sx_ite (p := fun l => sx_iOk prog_14_method_226_code l) (sx_iB_s aJ_545_37) (sx_iB_s aJ_545_38))) (sx_ite (p := fun l => sx_iOk prog_14_method_226_code l) (sx_iB_s aJ_545_39) (sx_ite (p := fun l => sx_iOk prog_14_method_226_code l) (sx_iB_s aJ_545_40) (sx_iB_s aJ_545_41)))) (sx_ite (p := fun l => sx_iOk prog_14_method_226_code l) (sx_ite (p := fun l => sx_iOk prog_14_method_226_code l) (sx_iB_s aJ_545_42) (sx_ite (p := fun l => sx_iOk prog_14_method_226_code l) (sx_iB_s aJ_545_43) (sx_iB_s aJ_545_44))) (sx_ite (p := fun l => sx_iOk prog_14_method_226_code l) (sx_iB_s aJ_545_45) (sx_ite (p := fun l => sx_iOk prog_14_method_226_code l) (sx_iB_s aJ_545_46) (sx_iB_s aJ_545_47)))))))
def aW_545 : Nat → Option (Instr × Nat) := fun pc => sx_iF (aS_545 pc) pc
theorem aX_545 : ∀ pc i len, aW_545 pc = some (i, len) → decode aM_545.1.2.1 pc = .ok (i, len) := fun pc i len h => sx_iF_s (aT_545 pc) h
def aI_546_0 : sx_IL := [(0, .aload_n 0, 1), (1, .getfield 261, 3), (4, .iload_n 1, 1), (5, .iaload, 1), (6, .istore_n 2, 1), (7, .aload_n 0, 1)]
theorem aJ_546_0 : sx_iB prog_14_method_225_code aI_546_0 = true := by decide +kernel
def aI_546_1 : sx_IL := [(8, .bipush 8, 2), (10, .invokevirtual 1105, 3), (13, .ifCond .eq 49, 3), (16, .aload_n 0, 1), (17, .getfield 291, 3), (20, .iload_n 1, 1)]
theorem aJ_546_1 : sx_iB prog_14_method_225_code aI_546_1 = true := by decide +kernel
def aI_546_2 : sx_IL := [(21, .iaload, 1), (22, .iconst 1, 1), (23, .if_icmp .eq 39, 3), (26, .aload_n 0, 1), (27, .getfield 1244, 3), (30, .ifCond .eq 32, 3)]
theorem aJ_546_2 : sx_iB prog_14_method_225_code aI_546_2 = true := by decide +kernel
def aI_546_3 : sx_IL := [(33, .aload_n 0, 1), (34, .getfield 1205, 3), (37, .iconst 2, 1), (38, .if_icmp .ne 24, 3), (41, .aload_n 0, 1), (42, .getfield 1214, 3)]
theorem aJ_546_3 : sx_iB prog_14_method_225_code aI_546_3 = true := by decide +kernel
def aI_546_4 : sx_IL := [(45, .ifCond .ne 17, 3), (48, .aload_n 0, 1), (49, .getfield 102, 3), (52, .bipush 8, 2), (54, .iload_n 2, 1), (55, .imul, 1)]
theorem aJ_546_4 : sx_iB prog_14_method_225_code aI_546_4 = true := by decide +kernel
def aI_546_5 : sx_IL := [(56, .iconst 4, 1), (57, .iadd, 1), (58, .iaload, 1), (59, .ifCond .ne 5, 3), (62, .iconst 0, 1), (63, .ireturn, 1)]
theorem aJ_546_5 : sx_iB prog_14_method_225_code aI_546_5 = true := by decide +kernel
def aI_546_6 : sx_IL := [(64, .aload_n 0, 1), (65, .getfield 1217, 3), (68, .i2l, 1), (69, .aload_n 0, 1), (70, .getfield 507, 3), (73, .aload_n 0, 1)]
theorem aJ_546_6 : sx_iB prog_14_method_225_code aI_546_6 = true := by decide +kernel
def aI_546_7 : sx_IL := [(74, .getfield 180, 3), (77, .aload_n 0, 1), (78, .getfield 1211, 3), (81, .iaload, 1), (82, .isub, 1), (83, .i2l, 1)]
theorem aJ_546_7 : sx_iB prog_14_method_225_code aI_546_7 = true := by decide +kernel
def aI_546_8 : sx_IL := [(84, .lsub, 1), (85, .lstore_n 3, 1), (86, .aload_n 0, 1), (87, .getfield 177, 3), (90, .aload_n 0, 1), (91, .getfield 1211, 3)]
theorem aJ_546_8 : sx_iB prog_14_method_225_code aI_546_8 = true := by decide +kernel
def aI_546_9 : sx_IL := [(94, .iaload, 1), (95, .aload_n 0, 1), (96, .getfield 1208, 3), (99, .if_icmp .ne 53, 3), (102, .aload_n 0, 1), (103, .getfield 186, 3)]
theorem aJ_546_9 : sx_iB prog_14_method_225_code aI_546_9 = true := by decide +kernel
def aI_546_10 : sx_IL := [(106, .aload_n 0, 1), (107, .getfield 1211, 3), (110, .baload, 1), (111, .ifCond .ne 41, 3), (114, .lload_n 3, 1), (115, .aload_n 0, 1)]
theorem aJ_546_10 : sx_iB prog_14_method_225_code aI_546_10 = true := by decide +kernel
def aI_546_11 : sx_IL := [(116, .getfield 102, 3), (119, .bipush 8, 2), (121, .iload_n 2, 1), (122, .imul, 1), (123, .bipush 7, 2), (125, .iadd, 1)]
theorem aJ_546_11 : sx_iB prog_14_method_225_code aI_546_11 = true := by decide +kernel
def aI_546_12 : sx_IL := [(126, .iaload, 1), (127, .ineg, 1), (128, .i2l, 1), (129, .aload_n 0, 1), (130, .getfield 102, 3), (133, .bipush 8, 2)]
theorem aJ_546_12 : sx_iB prog_14_method_225_code aI_546_12 = true := by decide +kernel
def aI_546_13 : sx_IL := [(135, .iload_n 2, 1), (136, .imul, 1), (137, .bipush 7, 2), (139, .iadd, 1), (140, .iaload, 1), (141, .i2l, 1)]
theorem aJ_546_13 : sx_iB prog_14_method_225_code aI_546_13 = true := by decide +kernel
def aI_546_14 : sx_IL := [(142, .invokestatic 513, 3), (145, .ifCond .eq 7, 3), (148, .iconst 1, 1), (149, .goto 4, 3), (152, .iconst 0, 1), (153, .ireturn, 1)]
theorem aJ_546_14 : sx_iB prog_14_method_225_code aI_546_14 = true := by decide +kernel
def aS_546 (pc : Nat) : sx_IL := (if pc < 74 then (if pc < 33 then (if pc < 8 then aI_546_0 else (if pc < 21 then aI_546_1 else aI_546_2)) else (if pc < 56 then (if pc < 45 then aI_546_3 else aI_546_4) else (if pc < 64 then aI_546_5 else aI_546_6))) else (if pc < 116 then (if pc < 94 then (if pc < 84 then aI_546_7 else aI_546_8) else (if pc < 106 then aI_546_9 else aI_546_10)) else (if pc < 135 then (if pc < 126 then aI_546_11 else aI_546_12) else (if pc < 142 then aI_546_13 else aI_546_14))))
theorem aT_546 (pc : Nat) : sx_iOk prog_14_method_225_code (aS_546 pc) := (sx_ite (p := fun l => sx_iOk prog_14_method_225_code l) (sx_ite (p := fun l => sx_iOk prog_14_method_225_code l) (sx_ite (p := fun l => sx_iOk prog_14_method_225_code l) (sx_iB_s aJ_546_0) (sx_ite (p := fun l => sx_iOk prog_14_method_225_code l) (sx_iB_s aJ_546_1) (sx_iB_s aJ_546_2))) (sx_ite (p := fun l => sx_iOk prog_14_method_225_code l) (sx_ite (p := fun l => sx_iOk prog_14_method_225_code l) (sx_iB_s aJ_546_3) (sx_iB_s aJ_546_4)) (sx_ite (p := fun l => sx_iOk prog_14_method_225_code l) (sx_iB_s aJ_546_5) (sx_iB_s aJ_546_6)))) (sx_ite (p := fun l => sx_iOk prog_14_method_225_code l) (sx_ite (p := fun l => sx_iOk prog_14_method_225_code l) (sx_ite (p := fun l => sx_iOk prog_14_method_225_code l) (sx_iB_s aJ_546_7) (sx_iB_s aJ_546_8)) (sx_ite (p := fun l => sx_iOk prog_14_method_225_code l) (sx_iB_s aJ_546_9) (sx_iB_s aJ_546_10))) (sx_ite (p := fun l => sx_iOk prog_14_method_225_code l) (sx_ite (p := fun l => sx_iOk prog_14_method_225_code l) (sx_iB_s aJ_546_11) (sx_iB_s aJ_546_12)) (sx_ite (p := fun l => sx_iOk prog_14_method_225_code l) (sx_iB_s aJ_546_13) (sx_iB_s aJ_546_14)))))
def aW_546 : Nat → Option (Instr × Nat) := fun pc => sx_iF (aS_546 pc) pc
theorem aX_546 : ∀ pc i len, aW_546 pc = some (i, len) → decode aM_546.1.2.1 pc = .ok (i, len) := fun pc i len h => sx_iF_s (aT_546 pc) h
def aI_547_0 : sx_IL := [(0, .bipush (-4), 2), (2, .istore_n 2, 1), (3, .iconst 0, 1), (4, .istore_n 3, 1), (5, .iload_n 3, 1), (6, .aload_n 0, 1)]
theorem aJ_547_0 : sx_iB prog_14_method_227_code aI_547_0 = true := by decide +kernel
def aI_547_1 : sx_IL := [(7, .getfield 811, 3), (10, .if_icmp .ge 102, 3), (13, .aload_n 0, 1), (14, .getfield 81, 3), (17, .bipush 8, 2), (19, .iload_n 3, 1)]
theorem aJ_547_1 : sx_iB prog_14_method_227_code aI_547_1 = true := by decide +kernel
def aI_547_2 : sx_IL := [(20, .imul, 1), (21, .iconst 2, 1), (22, .iadd, 1), (23, .iaload, 1), (24, .aload_n 0, 1), (25, .getfield 45, 3)]
theorem aJ_547_2 : sx_iB prog_14_method_227_code aI_547_2 = true := by decide +kernel
def aI_547_3 : sx_IL := [(28, .bipush 8, 2), (30, .iload_n 1, 1), (31, .imul, 1), (32, .iaload, 1), (33, .if_icmp .ne 59, 3), (36, .aload_n 0, 1)]
theorem aJ_547_3 : sx_iB prog_14_method_227_code aI_547_3 = true := by decide +kernel
def aI_547_4 : sx_IL := [(37, .getfield 75, 3), (40, .aload_n 0, 1), (41, .getfield 81, 3), (44, .bipush 8, 2), (46, .iload_n 3, 1), (47, .imul, 1)]
theorem aJ_547_4 : sx_iB prog_14_method_227_code aI_547_4 = true := by decide +kernel
def aI_547_5 : sx_IL := [(48, .iaload, 1), (49, .aload_n 0, 1), (50, .getfield 81, 3), (53, .bipush 8, 2), (55, .iload_n 3, 1), (56, .imul, 1)]
theorem aJ_547_5 : sx_iB prog_14_method_227_code aI_547_5 = true := by decide +kernel
def aI_547_6 : sx_IL := [(57, .iconst 1, 1), (58, .iadd, 1), (59, .iaload, 1), (60, .aload_n 0, 1), (61, .getfield 39, 3), (64, .aload_n 0, 1)]
theorem aJ_547_6 : sx_iB prog_14_method_227_code aI_547_6 = true := by decide +kernel
def aI_547_7 : sx_IL := [(65, .getfield 48, 3), (68, .iconst 2, 1), (69, .iload_n 1, 1), (70, .imul, 1), (71, .iaload, 1), (72, .aload_n 0, 1)]
theorem aJ_547_7 : sx_iB prog_14_method_227_code aI_547_7 = true := by decide +kernel
def aI_547_8 : sx_IL := [(73, .getfield 48, 3), (76, .iconst 2, 1), (77, .iload_n 1, 1), (78, .imul, 1), (79, .iconst 1, 1), (80, .iadd, 1)]
theorem aJ_547_8 : sx_iB prog_14_method_227_code aI_547_8 = true := by decide +kernel
def aI_547_9 : sx_IL := [(81, .iaload, 1), (82, .invokestatic 847, 3), (85, .ifCond .eq 7, 3), (88, .iconst 1, 1), (89, .goto 4, 3), (92, .iconst 0, 1)]
theorem aJ_547_9 : sx_iB prog_14_method_227_code aI_547_9 = true := by decide +kernel
def aI_547_10 : sx_IL := [(93, .istore 4, 2), (95, .iload 4, 2), (97, .ifCond .eq 7, 3), (100, .iload_n 3, 1), (101, .goto 4, 3), (104, .iload_n 2, 1)]
theorem aJ_547_10 : sx_iB prog_14_method_227_code aI_547_10 = true := by decide +kernel
def aI_547_11 : sx_IL := [(105, .istore_n 2, 1), (106, .iinc 3 1, 3), (109, .goto (-104), 3), (112, .iload_n 2, 1), (113, .ireturn, 1)]
theorem aJ_547_11 : sx_iB prog_14_method_227_code aI_547_11 = true := by decide +kernel
def aS_547 (pc : Nat) : sx_IL := (if pc < 57 then (if pc < 28 then (if pc < 7 then aI_547_0 else (if pc < 20 then aI_547_1 else aI_547_2)) else (if pc < 37 then aI_547_3 else (if pc < 48 then aI_547_4 else aI_547_5))) else (if pc < 81 then (if pc < 65 then aI_547_6 else (if pc < 73 then aI_547_7 else aI_547_8)) else (if pc < 93 then aI_547_9 else (if pc < 105 then aI_547_10 else aI_547_11))))
theorem aT_547 (pc : Nat) : sx_iOk prog_14_method_227_code (aS_547 pc) := (sx_ite (p := fun l => sx_iOk prog_14_method_227_code l) (sx_ite (p := fun l => sx_iOk prog_14_method_227_code l) (sx_ite (p := fun l => sx_iOk prog_14_method_227_code l) (sx_iB_s aJ_547_0) (sx_ite (p := fun l => sx_iOk prog_14_method_227_code l) (sx_iB_s aJ_547_1) (sx_iB_s aJ_547_2))) (sx_ite (p := fun l => sx_iOk prog_14_method_227_code l) (sx_iB_s aJ_547_3) (sx_ite (p := fun l => sx_iOk prog_14_method_227_code l) (sx_iB_s aJ_547_4) (sx_iB_s aJ_547_5)))) (sx_ite (p := fun l => sx_iOk prog_14_method_227_code l) (sx_ite (p := fun l => sx_iOk prog_14_method_227_code l) (sx_iB_s aJ_547_6) (sx_ite (p := fun l => sx_iOk prog_14_method_227_code l) (sx_iB_s aJ_547_7) (sx_iB_s aJ_547_8))) (sx_ite (p := fun l => sx_iOk prog_14_method_227_code l) (sx_iB_s aJ_547_9) (sx_ite (p := fun l => sx_iOk prog_14_method_227_code l) (sx_iB_s aJ_547_10) (sx_iB_s aJ_547_11)))))
def aW_547 : Nat → Option (Instr × Nat) := fun pc => sx_iF (aS_547 pc) pc
theorem aX_547 : ∀ pc i len, aW_547 pc = some (i, len) → decode aM_547.1.2.1 pc = .ok (i, len) := fun pc i len h => sx_iF_s (aT_547 pc) h
def aI_548_0 : sx_IL := [(0, .aload_n 0, 1), (1, .getfield 261, 3), (4, .iload_n 1, 1), (5, .iaload, 1), (6, .istore_n 2, 1), (7, .aload_n 0, 1)]
theorem aJ_548_0 : sx_iB prog_14_method_228_code aI_548_0 = true := by decide +kernel
def aI_548_1 : sx_IL := [(8, .iload_n 1, 1), (9, .invokevirtual 998, 3), (12, .istore_n 3, 1), (13, .aload_n 0, 1), (14, .iload_n 1, 1), (15, .aload_n 0, 1)]
theorem aJ_548_1 : sx_iB prog_14_method_228_code aI_548_1 = true := by decide +kernel
def aI_548_2 : sx_IL := [(16, .iload_n 1, 1), (17, .iconst 1, 1), (18, .invokevirtual 1174, 3), (21, .invokevirtual 1146, 3), (24, .aload_n 0, 1), (25, .getfield 369, 3)]
theorem aJ_548_2 : sx_iB prog_14_method_228_code aI_548_2 = true := by decide +kernel
def aI_548_3 : sx_IL := [(28, .iload_n 1, 1), (29, .aload_n 0, 1), (30, .iload_n 3, 1), (31, .aload_n 0, 1), (32, .getfield 363, 3), (35, .iload_n 1, 1)]
theorem aJ_548_3 : sx_iB prog_14_method_228_code aI_548_3 = true := by decide +kernel
def aI_548_4 : sx_IL := [(36, .laload, 1), (37, .bipush 114, 2), (39, .aload_n 0, 1), (40, .iload_n 1, 1), (41, .iload_n 3, 1), (42, .invokevirtual 973, 3)]
theorem aJ_548_4 : sx_iB prog_14_method_228_code aI_548_4 = true := by decide +kernel
def aI_548_5 : sx_IL := [(45, .invokevirtual 598, 3), (48, .lastore, 1), (49, .aload_n 0, 1), (50, .getfield 291, 3), (53, .iload_n 1, 1), (54, .bipush 6, 2)]
theorem aJ_548_5 : sx_iB prog_14_method_228_code aI_548_5 = true := by decide +kernel
def aI_548_6 : sx_IL := [(56, .iastore, 1), (57, .iconst 0, 1), (58, .istore 4, 2), (60, .iload 4, 2), (62, .aload_n 0, 1), (63, .getfield 102, 3)]
theorem aJ_548_6 : sx_iB prog_14_method_228_code aI_548_6 = true := by decide +kernel
def aI_548_7 : sx_IL := [(66, .bipush 8, 2), (68, .iload_n 2, 1), (69, .imul, 1), (70, .iconst 2, 1), (71, .iadd, 1), (72, .iaload, 1)]
theorem aJ_548_7 : sx_iB prog_14_method_228_code aI_548_7 = true := by decide +kernel
def aI_548_8 : sx_IL := [(73, .if_icmp .ge 150, 3), (76, .aload_n 0, 1), (77, .getfield 162, 3), (80, .iload_n 2, 1), (81, .baload, 1), (82, .ifCond .ne 21, 3)]
theorem aJ_548_8 : sx_iB prog_14_method_228_code aI_548_8 = true := by decide +kernel
def aI_548_9 : sx_IL := [(85, .aload_n 0, 1), (86, .getfield 162, 3), (89, .iload_n 2, 1), (90, .iconst 1, 1), (91, .bastore, 1), (92, .aload_n 0, 1)]
theorem aJ_548_9 : sx_iB prog_14_method_228_code aI_548_9 = true := by decide +kernel
def aI_548_10 : sx_IL := [(93, .getfield 159, 3), (96, .iload_n 2, 1), (97, .aload_n 0, 1), (98, .iload_n 2, 1), (99, .invokevirtual 1018, 3), (102, .lastore, 1)]
theorem aJ_548_10 : sx_iB prog_14_method_228_code aI_548_10 = true := by decide +kernel
def aI_548_11 : sx_IL := [(103, .aload_n 0, 1), (104, .iconst 0, 1), (105, .aload_n 0, 1), (106, .getfield 159, 3), (109, .iload_n 2, 1), (110, .laload, 1)]
theorem aJ_548_11 : sx_iB prog_14_method_228_code aI_548_11 = true := by decide +kernel
def aI_548_12 : sx_IL := [(111, .bipush 110, 2), (113, .aload_n 0, 1), (114, .getfield 165, 3), (117, .iload_n 2, 1), (118, .iaload, 1), (119, .i2l, 1)]
theorem aJ_548_12 : sx_iB prog_14_method_228_code aI_548_12 = true := by decide +kernel
def aI_548_13 : sx_IL := [(120, .invokevirtual 598, 3), (123, .lstore 5, 2), (125, .aload_n 0, 1), (126, .getfield 165, 3), (129, .iload_n 2, 1), (130, .dup2, 1)]
theorem aJ_548_13 : sx_iB prog_14_method_228_code aI_548_13 = true := by decide +kernel
def aI_548_14 : sx_IL := [(131, .iaload, 1), (132, .iconst 1, 1), (133, .iadd, 1), (134, .iastore, 1), (135, .aload_n 0, 1), (136, .iload_n 2, 1)]
theorem aJ_548_14 : sx_iB prog_14_method_228_code aI_548_14 = true := by decide +kernel
def aI_548_15 : sx_IL := [(137, .lload 5, 2), (139, .aload_n 0, 1), (140, .iload_n 3, 1), (141, .aload_n 0, 1), (142, .getfield 369, 3), (145, .iload_n 1, 1)]
theorem aJ_548_15 : sx_iB prog_14_method_228_code aI_548_15 = true := by decide +kernel
def aI_548_16 : sx_IL := [(146, .laload, 1), (147, .bipush 116, 2), (149, .iload 4, 2), (151, .i2l, 1), (152, .invokevirtual 598, 3), (155, .aload_n 0, 1)]
theorem aJ_548_16 : sx_iB prog_14_method_228_code aI_548_16 = true := by decide +kernel
def aI_548_17 : sx_IL := [(156, .getfield 330, 3), (159, .iload_n 1, 1), (160, .iaload, 1), (161, .invokevirtual 1268, 3), (164, .aload_n 0, 1), (165, .iconst 0, 1)]
theorem aJ_548_17 : sx_iB prog_14_method_228_code aI_548_17 = true := by decide +kernel
def aI_548_18 : sx_IL := [(166, .putfield 814, 3), (169, .aload_n 0, 1), (170, .aload_n 0, 1), (171, .getfield 102, 3), (174, .bipush 8, 2), (176, .iload_n 2, 1)]
theorem aJ_548_18 : sx_iB prog_14_method_228_code aI_548_18 = true := by decide +kernel
def aI_548_19 : sx_IL := [(177, .imul, 1), (178, .iconst 3, 1), (179, .iadd, 1), (180, .iaload, 1), (181, .invokevirtual 823, 3), (184, .aload_n 0, 1)]
theorem aJ_548_19 : sx_iB prog_14_method_228_code aI_548_19 = true := by decide +kernel
def aI_548_20 : sx_IL := [(185, .aload_n 0, 1), (186, .getfield 102, 3), (189, .bipush 8, 2), (191, .iload_n 2, 1), (192, .imul, 1), (193, .iconst 4, 1)]
theorem aJ_548_20 : sx_iB prog_14_method_228_code aI_548_20 = true := by decide +kernel
def aI_548_21 : sx_IL := [(194, .iadd, 1), (195, .iaload, 1), (196, .invokevirtual 823, 3), (199, .aload_n 0, 1), (200, .lload 5, 2), (202, .invokevirtual 831, 3)]
theorem aJ_548_21 : sx_iB prog_14_method_228_code aI_548_21 = true := by decide +kernel
def aI_548_22 : sx_IL := [(205, .aload_n 0, 1), (206, .iload 4, 2), (208, .invokevirtual 817, 3), (211, .aload_n 0, 1), (212, .iload_n 1, 1), (213, .iconst 4, 1)]
theorem aJ_548_22 : sx_iB prog_14_method_228_code aI_548_22 = true := by decide +kernel
def aI_548_23 : sx_IL := [(214, .invokevirtual 1031, 3), (217, .iinc 4 1, 3), (220, .goto (-160), 3), (223, .return_, 1)]
theorem aJ_548_23 : sx_iB prog_14_method_228_code aI_548_23 = true := by decide +kernel
def aS_548 (pc : Nat) : sx_IL := (if pc < 111 then (if pc < 56 then (if pc < 28 then (if pc < 8 then aI_548_0 else (if pc < 16 then aI_548_1 else aI_548_2)) else (if pc < 36 then aI_548_3 else (if pc < 45 then aI_548_4 else aI_548_5))) else (if pc < 85 then (if pc < 66 then aI_548_6 else (if pc < 73 then aI_548_7 else aI_548_8)) else (if pc < 93 then aI_548_9 else (if pc < 103 then aI_548_10 else aI_548_11)))) else (if pc < 166 then (if pc < 137 then (if pc < 120 then aI_548_12 else (if pc < 131 then aI_548_13 else aI_548_14)) else (if pc < 146 then aI_548_15 else (if pc < 156 then aI_548_16 else aI_548_17))) else (if pc < 194 then (if pc < 177 then aI_548_18 else (if pc < 185 then aI_548_19 else aI_548_20)) else (if pc < 205 then aI_548_21 else (if pc < 214 then aI_548_22 else aI_548_23)))))
theorem aT_548 (pc : Nat) : sx_iOk prog_14_method_228_code (aS_548 pc) := (sx_ite (p := fun l => sx_iOk prog_14_method_228_code l) (sx_ite (p := fun l => sx_iOk prog_14_method_228_code l) (sx_ite (p := fun l => sx_iOk prog_14_method_228_code l) (sx_ite (p := fun l => sx_iOk prog_14_method_228_code l) (sx_iB_s aJ_548_0) (sx_ite (p := fun l => sx_iOk prog_14_method_228_code l) (sx_iB_s aJ_548_1) (sx_iB_s aJ_548_2))) (sx_ite (p := fun l => sx_iOk prog_14_method_228_code l) (sx_iB_s aJ_548_3) (sx_ite (p := fun l => sx_iOk prog_14_method_228_code l) (sx_iB_s aJ_548_4) (sx_iB_s aJ_548_5)))) (sx_ite (p := fun l => sx_iOk prog_14_method_228_code l) (sx_ite (p := fun l => sx_iOk prog_14_method_228_code l) (sx_iB_s aJ_548_6) (sx_ite (p := fun l => sx_iOk prog_14_method_228_code l) (sx_iB_s aJ_548_7) (sx_iB_s aJ_548_8))) (sx_ite (p := fun l => sx_iOk prog_14_method_228_code l) (sx_iB_s aJ_548_9) (sx_ite (p := fun l => sx_iOk prog_14_method_228_code l) (sx_iB_s aJ_548_10) (sx_iB_s aJ_548_11))))) (sx_ite (p := fun l => sx_iOk prog_14_method_228_code l) (sx_ite (p := fun l => sx_iOk prog_14_method_228_code l) (sx_ite (p := fun l => sx_iOk prog_14_method_228_code l) (sx_iB_s aJ_548_12) (sx_ite (p := fun l => sx_iOk prog_14_method_228_code l) (sx_iB_s aJ_548_13) (sx_iB_s aJ_548_14))) (sx_ite (p := fun l => sx_iOk prog_14_method_228_code l) (sx_iB_s aJ_548_15) (sx_ite (p := fun l => sx_iOk prog_14_method_228_code l) (sx_iB_s aJ_548_16) (sx_iB_s aJ_548_17)))) (sx_ite (p := fun l => sx_iOk prog_14_method_228_code l) (sx_ite (p := fun l => sx_iOk prog_14_method_228_code l) (sx_iB_s aJ_548_18) (sx_ite (p := fun l => sx_iOk prog_14_method_228_code l) (sx_iB_s aJ_548_19) (sx_iB_s aJ_548_20))) (sx_ite (p := fun l => sx_iOk prog_14_method_228_code l) (sx_iB_s aJ_548_21) (sx_ite (p := fun l => sx_iOk prog_14_method_228_code l) (sx_iB_s aJ_548_22) (sx_iB_s aJ_548_23))))))
def aW_548 : Nat → Option (Instr × Nat) := fun pc => sx_iF (aS_548 pc) pc
theorem aX_548 : ∀ pc i len, aW_548 pc = some (i, len) → decode aM_548.1.2.1 pc = .ok (i, len) := fun pc i len h => sx_iF_s (aT_548 pc) h
def aI_549_0 : sx_IL := [(0, .aload_n 0, 1), (1, .getfield 168, 3), (4, .iload_n 1, 1), (5, .iaload, 1), (6, .bipush 20, 2), (8, .if_icmp .ne 133, 3)]
theorem aJ_549_0 : sx_iB prog_14_method_229_code aI_549_0 = true := by decide +kernel
def aI_549_1 : sx_IL := [(11, .aload_n 0, 1), (12, .getfield 168, 3), (15, .iload_n 1, 1), (16, .dup2, 1), (17, .iaload, 1), (18, .iconst 1, 1)]
theorem aJ_549_1 : sx_iB prog_14_method_229_code aI_549_1 = true := by decide +kernel
def aI_549_2 : sx_IL := [(19, .isub, 1), (20, .iastore, 1), (21, .bipush 20, 2), (23, .iload_n 1, 1), (24, .imul, 1), (25, .istore 7, 2)]
theorem aJ_549_2 : sx_iB prog_14_method_229_code aI_549_2 = true := by decide +kernel
def aI_549_3 : sx_IL := [(27, .iload 7, 2), (29, .bipush 20, 2), (31, .iload_n 1, 1), (32, .imul, 1), (33, .bipush 19, 2), (35, .iadd, 1)]
theorem aJ_549_3 : sx_iB prog_14_method_229_code aI_549_3 = true := by decide +kernel
def aI_549_4 : sx_IL := [(36, .if_icmp .ge 105, 3), (39, .aload_n 0, 1), (40, .getfield 171, 3), (43, .iload 7, 2), (45, .aload_n 0, 1), (46, .getfield 171, 3)]
theorem aJ_549_4 : sx_iB prog_14_method_229_code aI_549_4 = true := by decide +kernel
def aI_549_5 : sx_IL := [(49, .iload 7, 2), (51, .iconst 1, 1), (52, .iadd, 1), (53, .laload, 1), (54, .lastore, 1), (55, .aload_n 0, 1)]
theorem aJ_549_5 : sx_iB prog_14_method_229_code aI_549_5 = true := by decide +kernel
def aI_549_6 : sx_IL := [(56, .getfield 174, 3), (59, .iload 7, 2), (61, .aload_n 0, 1), (62, .getfield 174, 3), (65, .iload 7, 2), (67, .iconst 1, 1)]
theorem aJ_549_6 : sx_iB prog_14_method_229_code aI_549_6 = true := by decide +kernel
def aI_549_7 : sx_IL := [(68, .iadd, 1), (69, .laload, 1), (70, .lastore, 1), (71, .aload_n 0, 1), (72, .getfield 177, 3), (75, .iload 7, 2)]
theorem aJ_549_7 : sx_iB prog_14_method_229_code aI_549_7 = true := by decide +kernel
def aI_549_8 : sx_IL := [(77, .aload_n 0, 1), (78, .getfield 177, 3), (81, .iload 7, 2), (83, .iconst 1, 1), (84, .iadd, 1), (85, .iaload, 1)]
theorem aJ_549_8 : sx_iB prog_14_method_229_code aI_549_8 = true := by decide +kernel
def aI_549_9 : sx_IL := [(86, .iastore, 1), (87, .aload_n 0, 1), (88, .getfield 180, 3), (91, .iload 7, 2), (93, .aload_n 0, 1), (94, .getfield 180, 3)]
theorem aJ_549_9 : sx_iB prog_14_method_229_code aI_549_9 = true := by decide +kernel
def aI_549_10 : sx_IL := [(97, .iload 7, 2), (99, .iconst 1, 1), (100, .iadd, 1), (101, .iaload, 1), (102, .iastore, 1), (103, .aload_n 0, 1)]
theorem aJ_549_10 : sx_iB prog_14_method_229_code aI_549_10 = true := by decide +kernel
def aI_549_11 : sx_IL := [(104, .getfield 183, 3), (107, .iload 7, 2), (109, .aload_n 0, 1), (110, .getfield 183, 3), (113, .iload 7, 2), (115, .iconst 1, 1)]
theorem aJ_549_11 : sx_iB prog_14_method_229_code aI_549_11 = true := by decide +kernel
def aI_549_12 : sx_IL := [(116, .iadd, 1), (117, .iaload, 1), (118, .iastore, 1), (119, .aload_n 0, 1), (120, .getfield 186, 3), (123, .iload 7, 2)]
theorem aJ_549_12 : sx_iB prog_14_method_229_code aI_549_12 = true := by decide +kernel
def aI_549_13 : sx_IL := [(125, .aload_n 0, 1), (126, .getfield 186, 3), (129, .iload 7, 2), (131, .iconst 1, 1), (132, .iadd, 1), (133, .baload, 1)]
theorem aJ_549_13 : sx_iB prog_14_method_229_code aI_549_13 = true := by decide +kernel
def aI_549_14 : sx_IL := [(134, .bastore, 1), (135, .iinc 7 1, 3), (138, .goto (-111), 3), (141, .bipush 20, 2), (143, .iload_n 1, 1), (144, .imul, 1)]
theorem aJ_549_14 : sx_iB prog_14_method_229_code aI_549_14 = true := by decide +kernel
def aI_549_15 : sx_IL := [(145, .aload_n 0, 1), (146, .getfield 168, 3), (149, .iload_n 1, 1), (150, .iaload, 1), (151, .iadd, 1), (152, .istore 7, 2)]
theorem aJ_549_15 : sx_iB prog_14_method_229_code aI_549_15 = true := by decide +kernel
def aI_549_16 : sx_IL := [(154, .aload_n 0, 1), (155, .getfield 171, 3), (158, .iload 7, 2), (160, .lload_n 2, 1), (161, .lastore, 1), (162, .aload_n 0, 1)]
theorem aJ_549_16 : sx_iB prog_14_method_229_code aI_549_16 = true := by decide +kernel
def aI_549_17 : sx_IL := [(163, .getfield 174, 3), (166, .iload 7, 2), (168, .lload 4, 2), (170, .lastore, 1), (171, .aload_n 0, 1), (172, .getfield 177, 3)]
theorem aJ_549_17 : sx_iB prog_14_method_229_code aI_549_17 = true := by decide +kernel
def aI_549_18 : sx_IL := [(175, .iload 7, 2), (177, .iload 6, 2), (179, .iastore, 1), (180, .aload_n 0, 1), (181, .getfield 180, 3), (184, .iload 7, 2)]
theorem aJ_549_18 : sx_iB prog_14_method_229_code aI_549_18 = true := by decide +kernel
def aI_549_19 : sx_IL := [(186, .aload_n 0, 1), (187, .getfield 507, 3), (190, .iastore, 1), (191, .aload_n 0, 1), (192, .getfield 183, 3), (195, .iload 7, 2)]
theorem aJ_549_19 : sx_iB prog_14_method_229_code aI_549_19 = true := by decide +kernel
def aI_549_20 : sx_IL := [(197, .aload_n 0, 1), (198, .getfield 102, 3), (201, .bipush 8, 2), (203, .iload_n 1, 1), (204, .imul, 1), (205, .iconst 3, 1)]
theorem aJ_549_20 : sx_iB prog_14_method_229_code aI_549_20 = true := by decide +kernel
def aI_549_21 : sx_IL := [(206, .iadd, 1), (207, .iaload, 1), (208, .iastore, 1), (209, .aload_n 0, 1), (210, .getfield 186, 3), (213, .iload 7, 2)]
theorem aJ_549_21 : sx_iB prog_14_method_229_code aI_549_21 = true := by decide +kernel
def aI_549_22 : sx_IL := [(215, .iconst 0, 1), (216, .bastore, 1), (217, .aload_n 0, 1), (218, .getfield 168, 3), (221, .iload_n 1, 1), (222, .dup2, 1)]
theorem aJ_549_22 : sx_iB prog_14_method_229_code aI_549_22 = true := by decide +kernel
def aI_549_23 : sx_IL := [(223, .iaload, 1), (224, .iconst 1, 1), (225, .iadd, 1), (226, .iastore, 1), (227, .return_, 1)]
theorem aJ_549_23 : sx_iB prog_14_method_229_code aI_549_23 = true := by decide +kernel
def aS_549 (pc : Nat) : sx_IL := (if pc < 116 then (if pc < 56 then (if pc < 27 then (if pc < 11 then aI_549_0 else (if pc < 19 then aI_549_1 else aI_549_2)) else (if pc < 36 then aI_549_3 else (if pc < 49 then aI_549_4 else aI_549_5))) else (if pc < 86 then (if pc < 68 then aI_549_6 else (if pc < 77 then aI_549_7 else aI_549_8)) else (if pc < 97 then aI_549_9 else (if pc < 104 then aI_549_10 else aI_549_11)))) else (if pc < 175 then (if pc < 145 then (if pc < 125 then aI_549_12 else (if pc < 134 then aI_549_13 else aI_549_14)) else (if pc < 154 then aI_549_15 else (if pc < 163 then aI_549_16 else aI_549_17))) else (if pc < 206 then (if pc < 186 then aI_549_18 else (if pc < 197 then aI_549_19 else aI_549_20)) else (if pc < 215 then aI_549_21 else (if pc < 223 then aI_549_22 else aI_549_23)))))
theorem aT_549 (pc : Nat) : sx_iOk prog_14_method_229_code (aS_549 pc) := (sx_ite (p := fun l => sx_iOk prog_14_method_229_code l) (sx_ite (p := fun l => sx_iOk prog_14_method_229_code l) (sx_ite (p := fun l => sx_iOk prog_14_method_229_code l) (sx_ite (p := fun l => sx_iOk prog_14_method_229_code l) (sx_iB_s aJ_549_0) (sx_ite (p := fun l => sx_iOk prog_14_method_229_code l) (sx_iB_s aJ_549_1) (sx_iB_s aJ_549_2))) (sx_ite (p := fun l => sx_iOk prog_14_method_229_code l) (sx_iB_s aJ_549_3) (sx_ite (p := fun l => sx_iOk prog_14_method_229_code l) (sx_iB_s aJ_549_4) (sx_iB_s aJ_549_5)))) (sx_ite (p := fun l => sx_iOk prog_14_method_229_code l) (sx_ite (p := fun l => sx_iOk prog_14_method_229_code l) (sx_iB_s aJ_549_6) (sx_ite (p := fun l => sx_iOk prog_14_method_229_code l) (sx_iB_s aJ_549_7) (sx_iB_s aJ_549_8))) (sx_ite (p := fun l => sx_iOk prog_14_method_229_code l) (sx_iB_s aJ_549_9) (sx_ite (p := fun l => sx_iOk prog_14_method_229_code l) (sx_iB_s aJ_549_10) (sx_iB_s aJ_549_11))))) (sx_ite (p := fun l => sx_iOk prog_14_method_229_code l) (sx_ite (p := fun l => sx_iOk prog_14_method_229_code l) (sx_ite (p := fun l => sx_iOk prog_14_method_229_code l) (sx_iB_s aJ_549_12) (sx_ite (p := fun l => sx_iOk prog_14_method_229_code l) (sx_iB_s aJ_549_13) (sx_iB_s aJ_549_14))) (sx_ite (p := fun l => sx_iOk prog_14_method_229_code l) (sx_iB_s aJ_549_15) (sx_ite (p := fun l => sx_iOk prog_14_method_229_code l) (sx_iB_s aJ_549_16) (sx_iB_s aJ_549_17)))) (sx_ite (p := fun l => sx_iOk prog_14_method_229_code l) (sx_ite (p := fun l => sx_iOk prog_14_method_229_code l) (sx_iB_s aJ_549_18) (sx_ite (p := fun l => sx_iOk prog_14_method_229_code l) (sx_iB_s aJ_549_19) (sx_iB_s aJ_549_20))) (sx_ite (p := fun l => sx_iOk prog_14_method_229_code l) (sx_iB_s aJ_549_21) (sx_ite (p := fun l => sx_iOk prog_14_method_229_code l) (sx_iB_s aJ_549_22) (sx_iB_s aJ_549_23))))))
def aW_549 : Nat → Option (Instr × Nat) := fun pc => sx_iF (aS_549 pc) pc
theorem aX_549 : ∀ pc i len, aW_549 pc = some (i, len) → decode aM_549.1.2.1 pc = .ok (i, len) := fun pc i len h => sx_iF_s (aT_549 pc) h
def aI_550_0 : sx_IL := [(0, .aload_n 0, 1), (1, .iload_n 1, 1), (2, .iload_n 2, 1), (3, .invokevirtual 1272, 3), (6, .ifCond .eq 15, 3), (9, .iload_n 3, 1)]
theorem aJ_550_0 : sx_iB prog_14_method_232_code aI_550_0 = true := by decide +kernel
def aI_550_1 : sx_IL := [(10, .i2l, 1), (11, .lconst 1, 1), (12, .ldc2_w 1281, 3), (15, .invokestatic 513, 3), (18, .ifCond .ne 5, 3), (21, .iconst (-1), 1)]
theorem aJ_550_1 : sx_iB prog_14_method_232_code aI_550_1 = true := by decide +kernel
def aI_550_2 : sx_IL := [(22, .ireturn, 1), (23, .iconst 2, 1), (24, .iload_n 1, 1), (25, .imul, 1), (26, .iload_n 2, 1), (27, .iadd, 1)]
theorem aJ_550_2 : sx_iB prog_14_method_232_code aI_550_2 = true := by decide +kernel
def aI_550_3 : sx_IL := [(28, .istore 4, 2), (30, .aload_n 0, 1), (31, .iload_n 1, 1), (32, .iconst 1, 1), (33, .iload_n 2, 1), (34, .isub, 1)]
theorem aJ_550_3 : sx_iB prog_14_method_232_code aI_550_3 = true := by decide +kernel
def aI_550_4 : sx_IL := [(35, .invokevirtual 1275, 3), (38, .ifCond .ne 7, 3), (41, .iconst 1, 1), (42, .goto 4, 3), (45, .iconst 0, 1), (46, .istore 5, 2)]
theorem aJ_550_4 : sx_iB prog_14_method_232_code aI_550_4 = true := by decide +kernel
def aI_550_5 : sx_IL := [(48, .iload 5, 2), (50, .ifCond .ne 24, 3), (53, .aload_n 0, 1), (54, .getfield 268, 3), (57, .iconst 2, 1), (58, .iload_n 1, 1)]
theorem aJ_550_5 : sx_iB prog_14_method_232_code aI_550_5 = true := by decide +kernel
def aI_550_6 : sx_IL := [(59, .imul, 1), (60, .iconst 1, 1), (61, .iadd, 1), (62, .iload_n 2, 1), (63, .isub, 1), (64, .iaload, 1)]
theorem aJ_550_6 : sx_iB prog_14_method_232_code aI_550_6 = true := by decide +kernel
def aI_550_7 : sx_IL := [(65, .sipush 4000, 3), (68, .if_icmp .le 6, 3), (71, .bipush (-3), 2), (73, .ireturn, 1), (74, .iload_n 3, 1), (75, .aload_n 0, 1)]
theorem aJ_550_7 : sx_iB prog_14_method_232_code aI_550_7 = true := by decide +kernel
def aI_550_8 : sx_IL := [(76, .getfield 268, 3), (79, .iload 4, 2), (81, .iaload, 1), (82, .if_icmp .ge 7, 3), (85, .iload_n 3, 1), (86, .goto 10, 3)]
theorem aJ_550_8 : sx_iB prog_14_method_232_code aI_550_8 = true := by decide +kernel
def aI_550_9 : sx_IL := [(89, .aload_n 0, 1), (90, .getfield 268, 3), (93, .iload 4, 2), (95, .iaload, 1), (96, .istore 6, 2), (98, .iload 5, 2)]
theorem aJ_550_9 : sx_iB prog_14_method_232_code aI_550_9 = true := by decide +kernel
def aI_550_10 : sx_IL := [(100, .ifCond .eq 17, 3), (103, .iload 6, 2), (105, .sipush 800, 3), (108, .if_icmp .le 9, 3), (111, .sipush 800, 3), (114, .goto 5, 3)]
theorem aJ_550_10 : sx_iB prog_14_method_232_code aI_550_10 = true := by decide +kernel
def aI_550_11 : sx_IL := [(117, .iload 6, 2), (119, .istore 6, 2), (121, .iconst 0, 1), (122, .istore 7, 2), (124, .iload 7, 2), (126, .iload 6, 2)]
theorem aJ_550_11 : sx_iB prog_14_method_232_code aI_550_11 = true := by decide +kernel
def aI_550_12 : sx_IL := [(128, .if_icmp .ge 30, 3), (131, .aload_n 0, 1), (132, .getfield 504, 3), (135, .iload 7, 2), (137, .aload_n 0, 1), (138, .getfield 265, 3)]
theorem aJ_550_12 : sx_iB prog_14_method_232_code aI_550_12 = true := by decide +kernel
def aI_550_13 : sx_IL := [(141, .sipush 16000, 3), (144, .iload 4, 2), (146, .imul, 1), (147, .iload 7, 2), (149, .iadd, 1), (150, .iaload, 1)]
theorem aJ_550_13 : sx_iB prog_14_method_232_code aI_550_13 = true := by decide +kernel
def aI_550_14 : sx_IL := [(151, .iastore, 1), (152, .iinc 7 1, 3), (155, .goto (-31), 3), (158, .aload_n 0, 1), (159, .getfield 268, 3), (162, .iload 4, 2)]
theorem aJ_550_14 : sx_iB prog_14_method_232_code aI_550_14 = true := by decide +kernel
def aI_550_15 : sx_IL := [(164, .dup2, 1), (165, .iaload, 1), (166, .iload 6, 2), (168, .isub, 1), (169, .iastore, 1), (170, .iconst 0, 1)]
theorem aJ_550_15 : sx_iB prog_14_method_232_code aI_550_15 = true := by decide +kernel
def aI_550_16 : sx_IL := [(171, .istore 7, 2), (173, .iload 7, 2), (175, .aload_n 0, 1), (176, .getfield 268, 3), (179, .iload 4, 2), (181, .iaload, 1)]
theorem aJ_550_16 : sx_iB prog_14_method_232_code aI_550_16 = true := by decide +kernel
def aI_550_17 : sx_IL := [(182, .if_icmp .ge 40, 3), (185, .aload_n 0, 1), (186, .getfield 265, 3), (189, .sipush 16000, 3), (192, .iload 4, 2), (194, .imul, 1)]
theorem aJ_550_17 : sx_iB prog_14_method_232_code aI_550_17 = true := by decide +kernel
def aI_550_18 : sx_IL := [(195, .iload 7, 2), (197, .iadd, 1), (198, .aload_n 0, 1), (199, .getfield 265, 3), (202, .sipush 16000, 3), (205, .iload 4, 2)]
theorem aJ_550_18 : sx_iB prog_14_method_232_code aI_550_18 = true := by decide +kernel
def aI_550_19 : sx_IL := [(207, .imul, 1), (208, .iload 7, 2), (210, .iadd, 1), (211, .iload 6, 2), (213, .iadd, 1), (214, .iaload, 1)]
theorem aJ_550_19 : sx_iB prog_14_method_232_code aI_550_19 = true := by decide +kernel
def aI_550_20 : sx_IL := [(215, .iastore, 1), (216, .iinc 7 1, 3), (219, .goto (-46), 3), (222, .iconst 0, 1), (223, .istore 7, 2), (225, .iload 7, 2)]
theorem aJ_550_20 : sx_iB prog_14_method_232_code aI_550_20 = true := by decide +kernel
def aI_550_21 : sx_IL := [(227, .iload 6, 2), (229, .if_icmp .ge 49, 3), (232, .iload 5, 2), (234, .ifCond .eq 20, 3), (237, .aload_n 0, 1), (238, .getfield 13, 3)]
theorem aJ_550_21 : sx_iB prog_14_method_232_code aI_550_21 = true := by decide +kernel
def aI_550_22 : sx_IL := [(241, .iload 7, 2), (243, .aload_n 0, 1), (244, .getfield 504, 3), (247, .iload 7, 2), (249, .iaload, 1), (250, .iastore, 1)]
theorem aJ_550_22 : sx_iB prog_14_method_232_code aI_550_22 = true := by decide +kernel
def aI_550_23 : sx_IL := [(251, .goto 21, 3), (254, .aload_n 0, 1), (255, .iconst 2, 1), (256, .iload_n 1, 1), (257, .imul, 1), (258, .iconst 1, 1)]
theorem aJ_550_23 : sx_iB prog_14_method_232_code aI_550_23 = true := by decide +kernel
def aI_550_24 : sx_IL := [(259, .iadd, 1), (260, .iload_n 2, 1), (261, .isub, 1), (262, .aload_n 0, 1), (263, .getfield 504, 3), (266, .iload 7, 2)]
theorem aJ_550_24 : sx_iB prog_14_method_232_code aI_550_24 = true := by decide +kernel
def aI_550_25 : sx_IL := [(268, .iaload, 1), (269, .invokevirtual 1278, 3), (272, .iinc 7 1, 3), (275, .goto (-50), 3), (278, .aload_n 0, 1), (279, .iload 5, 2)]
theorem aJ_550_25 : sx_iB prog_14_method_232_code aI_550_25 = true := by decide +kernel
def aI_550_26 : sx_IL := [(281, .ifCond .eq 8, 3), (284, .iload 6, 2), (286, .goto 7, 3), (289, .aload_n 0, 1), (290, .getfield 520, 3), (293, .putfield 520, 3)]
theorem aJ_550_26 : sx_iB prog_14_method_232_code aI_550_26 = true := by decide +kernel
def aI_550_27 : sx_IL := [(296, .iload 6, 2), (298, .ireturn, 1)]
theorem aJ_550_27 : sx_iB prog_14_method_232_code aI_550_27 = true := by decide +kernel
def aS_550 (pc : Nat) : sx_IL := (if pc < 151 then (if pc < 65 then (if pc < 28 then (if pc < 10 then aI_550_0 else (if pc < 22 then aI_550_1 else aI_550_2)) else (if pc < 48 then (if pc < 35 then aI_550_3 else aI_550_4) else (if pc < 59 then aI_550_5 else aI_550_6))) else (if pc < 100 then (if pc < 76 then aI_550_7 else (if pc < 89 then aI_550_8 else aI_550_9)) else (if pc < 128 then (if pc < 117 then aI_550_10 else aI_550_11) else (if pc < 141 then aI_550_12 else aI_550_13)))) else (if pc < 227 then (if pc < 182 then (if pc < 164 then aI_550_14 else (if pc < 171 then aI_550_15 else aI_550_16)) else (if pc < 207 then (if pc < 195 then aI_550_17 else aI_550_18) else (if pc < 215 then aI_550_19 else aI_550_20))) else (if pc < 259 then (if pc < 241 then aI_550_21 else (if pc < 251 then aI_550_22 else aI_550_23)) else (if pc < 281 then (if pc < 268 then aI_550_24 else aI_550_25) else (if pc < 296 then aI_550_26 else aI_550_27)))))
theorem aT_550 (pc : Nat) : sx_iOk prog_14_method_232_code (aS_550 pc) := (sx_ite (p := fun l => sx_iOk prog_14_method_232_code l) (sx_ite (p := fun l => sx_iOk prog_14_method_232_code l) (sx_ite (p := fun l => sx_iOk prog_14_method_232_code l) (sx_ite (p := fun l => sx_iOk prog_14_method_232_code l) (sx_iB_s aJ_550_0) (sx_ite (p := fun l => sx_iOk prog_14_method_232_code l) (sx_iB_s aJ_550_1) (sx_iB_s aJ_550_2))) (sx_ite (p := fun l => sx_iOk prog_14_method_232_code l) (sx_ite (p := fun l => sx_iOk prog_14_method_232_code l) (sx_iB_s aJ_550_3) (sx_iB_s aJ_550_4)) (sx_ite (p := fun l => sx_iOk prog_14_method_232_code l) (sx_iB_s aJ_550_5) (sx_iB_s aJ_550_6)))) (sx_ite (p := fun l => sx_iOk prog_14_method_232_code l) (sx_ite (p := fun l => sx_iOk prog_14_method_232_code l) (sx_iB_s aJ_550_7) (sx_ite (p := fun l => sx_iOk prog_14_method_232_code l) (sx_iB_s aJ_550_8) (sx_iB_s aJ_550_9))) (sx_ite (p := fun l => sx_iOk prog_14_method_232_code l) (sx_ite (p := fun l => sx_iOk prog_14_method_232_code l) (sx_iB_s aJ_550_10) (sx_iB_s aJ_550_11)) (sx_ite (p := fun l => sx_iOk prog_14_method_232_code l) (sx_iB_s aJ_550_12) (sx_iB_s aJ_550_13))))) (sx_ite (p := fun l => sx_iOk prog_14_method_232_code l) (sx_ite (p := fun l => sx_iOk prog_14_method_232_code l) (sx_ite (p := fun l => sx_iOk prog_14_method_232_code l) (sx_iB_s aJ_550_14) (sx_ite (p := fun l => sx_iOk prog_14_method_232_code l) (sx_iB_s aJ_550_15) (sx_iB_s aJ_550_16))) (sx_ite (p := fun l => sx_iOk prog_14_method_232_code l) (sx_ite (p := fun l => sx_iOk prog_14_method_232_code l) (sx_iB_s aJ_550_17) (sx_iB_s aJ_550_18)) (sx_ite (p := fun l => sx_iOk prog_14_method_232_code l) (sx_iB_s aJ_550_19) (sx_iB_s aJ_550_20)))) (sx_ite (p := fun l => sx_iOk prog_14_method_232_code l) (sx_ite (p := fun l => sx_iOk prog_14_method_232_code l) (sx_iB_s aJ_550_21) (sx_ite (p := fun l => sx_iOk prog_14_method_232_code l) (sx_iB_s aJ_550_22) (sx_iB_s aJ_550_23))) (sx_ite (p := fun l => sx_iOk prog_14_method_232_code l) (sx_ite (p := fun l => sx_iOk prog_14_method_232_code l) (sx_iB_s aJ_550_24) (sx_iB_s aJ_550_25)) (sx_ite (p := fun l => sx_iOk prog_14_method_232_code l) (sx_iB_s aJ_550_26) (sx_iB_s aJ_550_27))))))
def aW_550 : Nat → Option (Instr × Nat) := fun pc => sx_iF (aS_550 pc) pc
theorem aX_550 : ∀ pc i len, aW_550 pc = some (i, len) → decode aM_550.1.2.1 pc = .ok (i, len) := fun pc i len h => sx_iF_s (aT_550 pc) h
def aI_551_0 : sx_IL := [(0, .aload_n 0, 1), (1, .iload_n 1, 1), (2, .iload_n 2, 1), (3, .invokevirtual 1272, 3), (6, .ifCond .ne 5, 3), (9, .iconst (-1), 1)]
theorem aJ_551_0 : sx_iB prog_14_method_233_code aI_551_0 = true := by decide +kernel
def aI_551_1 : sx_IL := [(10, .ireturn, 1), (11, .iconst 2, 1), (12, .iload_n 1, 1), (13, .imul, 1), (14, .iload_n 2, 1), (15, .iadd, 1)]
theorem aJ_551_1 : sx_iB prog_14_method_233_code aI_551_1 = true := by decide +kernel
def aI_551_2 : sx_IL := [(16, .istore 4, 2), (18, .iload_n 3, 1), (19, .iconst (-1), 1), (20, .if_icmp .ne 13, 3), (23, .aload_n 0, 1), (24, .getfield 268, 3)]
theorem aJ_551_2 : sx_iB prog_14_method_233_code aI_551_2 = true := by decide +kernel
def aI_551_3 : sx_IL := [(27, .iload 4, 2), (29, .iaload, 1), (30, .goto 39, 3), (33, .iload_n 3, 1), (34, .i2l, 1), (35, .lconst 0, 1)]
theorem aJ_551_3 : sx_iB prog_14_method_233_code aI_551_3 = true := by decide +kernel
def aI_551_4 : sx_IL := [(36, .aload_n 0, 1), (37, .getfield 268, 3), (40, .iload 4, 2), (42, .iaload, 1), (43, .iconst 1, 1), (44, .isub, 1)]
theorem aJ_551_4 : sx_iB prog_14_method_233_code aI_551_4 = true := by decide +kernel
def aI_551_5 : sx_IL := [(45, .i2l, 1), (46, .invokestatic 513, 3), (49, .ifCond .eq 19, 3), (52, .aload_n 0, 1), (53, .getfield 265, 3), (56, .sipush 16000, 3)]
theorem aJ_551_5 : sx_iB prog_14_method_233_code aI_551_5 = true := by decide +kernel
def aI_551_6 : sx_IL := [(59, .iload 4, 2), (61, .imul, 1), (62, .iload_n 3, 1), (63, .iadd, 1), (64, .iaload, 1), (65, .goto 4, 3)]
theorem aJ_551_6 : sx_iB prog_14_method_233_code aI_551_6 = true := by decide +kernel
def aI_551_7 : sx_IL := [(68, .iconst (-1), 1), (69, .ireturn, 1)]
theorem aJ_551_7 : sx_iB prog_14_method_233_code aI_551_7 = true := by decide +kernel
def aS_551 (pc : Nat) : sx_IL := (if pc < 36 then (if pc < 16 then (if pc < 10 then aI_551_0 else aI_551_1) else (if pc < 27 then aI_551_2 else aI_551_3)) else (if pc < 59 then (if pc < 45 then aI_551_4 else aI_551_5) else (if pc < 68 then aI_551_6 else aI_551_7)))
theorem aT_551 (pc : Nat) : sx_iOk prog_14_method_233_code (aS_551 pc) := (sx_ite (p := fun l => sx_iOk prog_14_method_233_code l) (sx_ite (p := fun l => sx_iOk prog_14_method_233_code l) (sx_ite (p := fun l => sx_iOk prog_14_method_233_code l) (sx_iB_s aJ_551_0) (sx_iB_s aJ_551_1)) (sx_ite (p := fun l => sx_iOk prog_14_method_233_code l) (sx_iB_s aJ_551_2) (sx_iB_s aJ_551_3))) (sx_ite (p := fun l => sx_iOk prog_14_method_233_code l) (sx_ite (p := fun l => sx_iOk prog_14_method_233_code l) (sx_iB_s aJ_551_4) (sx_iB_s aJ_551_5)) (sx_ite (p := fun l => sx_iOk prog_14_method_233_code l) (sx_iB_s aJ_551_6) (sx_iB_s aJ_551_7))))
def aW_551 : Nat → Option (Instr × Nat) := fun pc => sx_iF (aS_551 pc) pc
theorem aX_551 : ∀ pc i len, aW_551 pc = some (i, len) → decode aM_551.1.2.1 pc = .ok (i, len) := fun pc i len h => sx_iF_s (aT_551 pc) h
def aI_552_0 : sx_IL := [(0, .aload_n 0, 1), (1, .iload_n 1, 1), (2, .iload_n 2, 1), (3, .invokevirtual 1272, 3), (6, .ifCond .eq 38, 3), (9, .iload_n 3, 1)]
theorem aJ_552_0 : sx_iB prog_14_method_234_code aI_552_0 = true := by decide +kernel
def aI_552_1 : sx_IL := [(10, .i2l, 1), (11, .lconst 0, 1), (12, .aload_n 0, 1), (13, .getfield 268, 3), (16, .iconst 2, 1), (17, .iload_n 1, 1)]
theorem aJ_552_1 : sx_iB prog_14_method_234_code aI_552_1 = true := by decide +kernel
def aI_552_2 : sx_IL := [(18, .imul, 1), (19, .iload_n 2, 1), (20, .iadd, 1), (21, .iaload, 1), (22, .iconst 1, 1), (23, .isub, 1)]
theorem aJ_552_2 : sx_iB prog_14_method_234_code aI_552_2 = true := by decide +kernel
def aI_552_3 : sx_IL := [(24, .i2l, 1), (25, .invokestatic 513, 3), (28, .ifCond .eq 16, 3), (31, .iload 4, 2), (33, .i2l, 1), (34, .lconst 1, 1)]
theorem aJ_552_3 : sx_iB prog_14_method_234_code aI_552_3 = true := by decide +kernel
def aI_552_4 : sx_IL := [(35, .ldc2_w 596, 3), (38, .invokestatic 513, 3), (41, .ifCond .ne 5, 3), (44, .iconst (-1), 1), (45, .ireturn, 1), (46, .aload_n 0, 1)]
theorem aJ_552_4 : sx_iB prog_14_method_234_code aI_552_4 = true := by decide +kernel
def aI_552_5 : sx_IL := [(47, .getfield 265, 3), (50, .sipush 16000, 3), (53, .iconst 2, 1), (54, .iload_n 1, 1), (55, .imul, 1), (56, .iload_n 2, 1)]
theorem aJ_552_5 : sx_iB prog_14_method_234_code aI_552_5 = true := by decide +kernel
def aI_552_6 : sx_IL := [(57, .iadd, 1), (58, .imul, 1), (59, .iload_n 3, 1), (60, .iadd, 1), (61, .dup2, 1), (62, .iaload, 1)]
theorem aJ_552_6 : sx_iB prog_14_method_234_code aI_552_6 = true := by decide +kernel
def aI_552_7 : sx_IL := [(63, .iload 4, 2), (65, .ixor, 1), (66, .iastore, 1), (67, .aload_n 0, 1), (68, .getfield 265, 3), (71, .sipush 16000, 3)]
theorem aJ_552_7 : sx_iB prog_14_method_234_code aI_552_7 = true := by decide +kernel
def aI_552_8 : sx_IL := [(74, .iconst 2, 1), (75, .iload_n 1, 1), (76, .imul, 1), (77, .iload_n 2, 1), (78, .iadd, 1), (79, .imul, 1)]
theorem aJ_552_8 : sx_iB prog_14_method_234_code aI_552_8 = true := by decide +kernel
def aI_552_9 : sx_IL := [(80, .iload_n 3, 1), (81, .iadd, 1), (82, .iaload, 1), (83, .ireturn, 1)]
theorem aJ_552_9 : sx_iB prog_14_method_234_code aI_552_9 = true := by decide +kernel
def aS_552 (pc : Nat) : sx_IL := (if pc < 47 then (if pc < 18 then (if pc < 10 then aI_552_0 else aI_552_1) else (if pc < 24 then aI_552_2 else (if pc < 35 then aI_552_3 else aI_552_4))) else (if pc < 63 then (if pc < 57 then aI_552_5 else aI_552_6) else (if pc < 74 then aI_552_7 else (if pc < 80 then aI_552_8 else aI_552_9))))
theorem aT_552 (pc : Nat) : sx_iOk prog_14_method_234_code (aS_552 pc) := (sx_ite (p := fun l => sx_iOk prog_14_method_234_code l) (sx_ite (p := fun l => sx_iOk prog_14_method_234_code l) (sx_ite (p := fun l => sx_iOk prog_14_method_234_code l) (sx_iB_s aJ_552_0) (sx_iB_s aJ_552_1)) (sx_ite (p := fun l => sx_iOk prog_14_method_234_code l) (sx_iB_s aJ_552_2) (sx_ite (p := fun l => sx_iOk prog_14_method_234_code l) (sx_iB_s aJ_552_3) (sx_iB_s aJ_552_4)))) (sx_ite (p := fun l => sx_iOk prog_14_method_234_code l) (sx_ite (p := fun l => sx_iOk prog_14_method_234_code l) (sx_iB_s aJ_552_5) (sx_iB_s aJ_552_6)) (sx_ite (p := fun l => sx_iOk prog_14_method_234_code l) (sx_iB_s aJ_552_7) (sx_ite (p := fun l => sx_iOk prog_14_method_234_code l) (sx_iB_s aJ_552_8) (sx_iB_s aJ_552_9)))))
def aW_552 : Nat → Option (Instr × Nat) := fun pc => sx_iF (aS_552 pc) pc
theorem aX_552 : ∀ pc i len, aW_552 pc = some (i, len) → decode aM_552.1.2.1 pc = .ok (i, len) := fun pc i len h => sx_iF_s (aT_552 pc) h
def aI_553_0 : sx_IL := [(0, .aload_n 0, 1), (1, .iload_n 1, 1), (2, .iload_n 2, 1), (3, .invokevirtual 1272, 3), (6, .ifCond .ne 5, 3), (9, .iconst (-1), 1)]
theorem aJ_553_0 : sx_iB prog_14_method_236_code aI_553_0 = true := by decide +kernel
def aI_553_1 : sx_IL := [(10, .ireturn, 1), (11, .iconst 2, 1), (12, .iload_n 1, 1), (13, .imul, 1), (14, .iload_n 2, 1), (15, .iadd, 1)]
theorem aJ_553_1 : sx_iB prog_14_method_236_code aI_553_1 = true := by decide +kernel
def aI_553_2 : sx_IL := [(16, .istore_n 3, 1), (17, .aload_n 0, 1), (18, .iload_n 1, 1), (19, .iload_n 2, 1), (20, .invokevirtual 1275, 3), (23, .ifCond .eq 20, 3)]
theorem aJ_553_2 : sx_iB prog_14_method_236_code aI_553_2 = true := by decide +kernel
def aI_553_3 : sx_IL := [(26, .aload_n 0, 1), (27, .iload_n 3, 1), (28, .invokevirtual 1283, 3), (31, .ifCond .eq 12, 3), (34, .aload_n 0, 1), (35, .getfield 297, 3)]
theorem aJ_553_3 : sx_iB prog_14_method_236_code aI_553_3 = true := by decide +kernel
def aI_553_4 : sx_IL := [(38, .iload_n 3, 1), (39, .baload, 1), (40, .ifCond .eq 6, 3), (43, .bipush (-2), 2), (45, .ireturn, 1), (46, .aload_n 0, 1)]
theorem aJ_553_4 : sx_iB prog_14_method_236_code aI_553_4 = true := by decide +kernel
def aI_553_5 : sx_IL := [(47, .getfield 268, 3), (50, .iload_n 3, 1), (51, .iaload, 1), (52, .sipush 2000, 3), (55, .if_icmp .le 6, 3), (58, .bipush (-3), 2)]
theorem aJ_553_5 : sx_iB prog_14_method_236_code aI_553_5 = true := by decide +kernel
def aI_553_6 : sx_IL := [(60, .ireturn, 1), (61, .aload_n 0, 1), (62, .getfield 517, 3), (65, .istore 4, 2), (67, .iconst 0, 1), (68, .istore 5, 2)]
theorem aJ_553_6 : sx_iB prog_14_method_236_code aI_553_6 = true := by decide +kernel
def aI_553_7 : sx_IL := [(70, .iload 5, 2), (72, .iload 4, 2), (74, .if_icmp .ge 47, 3), (77, .aload_n 0, 1), (78, .iload_n 3, 1), (79, .bipush 23, 2)]
theorem aJ_553_7 : sx_iB prog_14_method_236_code aI_553_7 = true := by decide +kernel
def aI_553_8 : sx_IL := [(81, .aload_n 0, 1), (82, .getfield 7, 3), (85, .iload 5, 2), (87, .iload 4, 2), (89, .iload 5, 2), (91, .isub, 1)]
theorem aJ_553_8 : sx_iB prog_14_method_236_code aI_553_8 = true := by decide +kernel
def aI_553_9 : sx_IL := [(92, .sipush 200, 3), (95, .if_icmp .ge 11, 3), (98, .iload 4, 2), (100, .iload 5, 2), (102, .isub, 1), (103, .goto 6, 3)]
theorem aJ_553_9 : sx_iB prog_14_method_236_code aI_553_9 = true := by decide +kernel
def aI_553_10 : sx_IL := [(106, .sipush 200, 3), (109, .invokevirtual 987, 3), (112, .iinc 5 200, 6), (118, .goto (-48), 3), (121, .aload_n 0, 1), (122, .iconst 0, 1)]
theorem aJ_553_10 : sx_iB prog_14_method_236_code aI_553_10 = true := by decide +kernel
def aI_553_11 : sx_IL := [(123, .putfield 517, 3), (126, .iload 4, 2), (128, .ireturn, 1)]
theorem aJ_553_11 : sx_iB prog_14_method_236_code aI_553_11 = true := by decide +kernel
def aS_553 (pc : Nat) : sx_IL := (if pc < 60 then (if pc < 26 then (if pc < 10 then aI_553_0 else (if pc < 16 then aI_553_1 else aI_553_2)) else (if pc < 38 then aI_553_3 else (if pc < 47 then aI_553_4 else aI_553_5))) else (if pc < 92 then (if pc < 70 then aI_553_6 else (if pc < 81 then aI_553_7 else aI_553_8)) else (if pc < 106 then aI_553_9 else (if pc < 123 then aI_553_10 else aI_553_11))))
theorem aT_553 (pc : Nat) : sx_iOk prog_14_method_236_code (aS_553 pc) := (sx_ite (p := fun l => sx_iOk prog_14_method_236_code l) (sx_ite (p := fun l => sx_iOk prog_14_method_236_code l) (sx_ite (p := fun l => sx_iOk prog_14_method_236_code l) (sx_iB_s aJ_553_0) (sx_ite (p := fun l => sx_iOk prog_14_method_236_code l) (sx_iB_s aJ_553_1) (sx_iB_s aJ_553_2))) (sx_ite (p := fun l => sx_iOk prog_14_method_236_code l) (sx_iB_s aJ_553_3) (sx_ite (p := fun l => sx_iOk prog_14_method_236_code l) (sx_iB_s aJ_553_4) (sx_iB_s aJ_553_5)))) (sx_ite (p := fun l => sx_iOk prog_14_method_236_code l) (sx_ite (p := fun l => sx_iOk prog_14_method_236_code l) (sx_iB_s aJ_553_6) (sx_ite (p := fun l => sx_iOk prog_14_method_236_code l) (sx_iB_s aJ_553_7) (sx_iB_s aJ_553_8))) (sx_ite (p := fun l => sx_iOk prog_14_method_236_code l) (sx_iB_s aJ_553_9) (sx_ite (p := fun l => sx_iOk prog_14_method_236_code l) (sx_iB_s aJ_553_10) (sx_iB_s aJ_553_11)))))
def aW_553 : Nat → Option (Instr × Nat) := fun pc => sx_iF (aS_553 pc) pc
theorem aX_553 : ∀ pc i len, aW_553 pc = some (i, len) → decode aM_553.1.2.1 pc = .ok (i, len) := fun pc i len h => sx_iF_s (aT_553 pc) h
def aI_554_0 : sx_IL := [(0, .aload_n 0, 1), (1, .getfield 291, 3), (4, .iload_n 1, 1), (5, .iaload, 1), (6, .aload_n 0, 1), (7, .iload_n 1, 1)]
theorem aJ_554_0 : sx_iB prog_14_method_235_code aI_554_0 = true := by decide +kernel
def aI_554_1 : sx_IL := [(8, .invokevirtual 1064, 3), (11, .ifCond .eq 8, 3), (14, .bipush 7, 2), (16, .goto 5, 3), (19, .bipush 6, 2), (21, .if_icmp .ne 16, 3)]
theorem aJ_554_1 : sx_iB prog_14_method_235_code aI_554_1 = true := by decide +kernel
def aI_554_2 : sx_IL := [(24, .aload_n 0, 1), (25, .getfield 294, 3), (28, .iload_n 1, 1), (29, .baload, 1), (30, .ifCond .ne 7, 3), (33, .iconst 1, 1)]
theorem aJ_554_2 : sx_iB prog_14_method_235_code aI_554_2 = true := by decide +kernel
def aI_554_3 : sx_IL := [(34, .goto 4, 3), (37, .iconst 0, 1), (38, .ireturn, 1)]
theorem aJ_554_3 : sx_iB prog_14_method_235_code aI_554_3 = true := by decide +kernel
def aS_554 (pc : Nat) : sx_IL := (if pc < 24 then (if pc < 8 then aI_554_0 else aI_554_1) else (if pc < 34 then aI_554_2 else aI_554_3))
theorem aT_554 (pc : Nat) : sx_iOk prog_14_method_235_code (aS_554 pc) := (sx_ite (p := fun l => sx_iOk prog_14_method_235_code l) (sx_ite (p := fun l => sx_iOk prog_14_method_235_code l) (sx_iB_s aJ_554_0) (sx_iB_s aJ_554_1)) (sx_ite (p := fun l => sx_iOk prog_14_method_235_code l) (sx_iB_s aJ_554_2) (sx_iB_s aJ_554_3)))
def aW_554 : Nat → Option (Instr × Nat) := fun pc => sx_iF (aS_554 pc) pc
theorem aX_554 : ∀ pc i len, aW_554 pc = some (i, len) → decode aM_554.1.2.1 pc = .ok (i, len) := fun pc i len h => sx_iF_s (aT_554 pc) h
def aI_555_0 : sx_IL := [(0, .aload_n 0, 1), (1, .iload_n 1, 1), (2, .iload_n 2, 1), (3, .invokevirtual 1272, 3), (6, .ifCond .eq 12, 3), (9, .aload_n 0, 1)]
theorem aJ_555_0 : sx_iB prog_14_method_237_code aI_555_0 = true := by decide +kernel
def aI_555_1 : sx_IL := [(10, .iload_n 1, 1), (11, .iload_n 2, 1), (12, .invokevirtual 1275, 3), (15, .ifCond .ne 5, 3), (18, .iconst (-1), 1), (19, .ireturn, 1)]
theorem aJ_555_1 : sx_iB prog_14_method_237_code aI_555_1 = true := by decide +kernel
def aI_555_2 : sx_IL := [(20, .iconst 2, 1), (21, .iload_n 1, 1), (22, .imul, 1), (23, .iload_n 2, 1), (24, .iadd, 1), (25, .istore_n 3, 1)]
theorem aJ_555_2 : sx_iB prog_14_method_237_code aI_555_2 = true := by decide +kernel
def aI_555_3 : sx_IL := [(26, .aload_n 0, 1), (27, .getfield 288, 3), (30, .iload_n 3, 1), (31, .iaload, 1), (32, .ifCond .ne 34, 3), (35, .aload_n 0, 1)]
theorem aJ_555_3 : sx_iB prog_14_method_237_code aI_555_3 = true := by decide +kernel
def aI_555_4 : sx_IL := [(36, .getfield 300, 3), (39, .iload_n 3, 1), (40, .baload, 1), (41, .ifCond .eq 8, 3), (44, .bipush (-11), 2), (46, .goto 19, 3)]
theorem aJ_555_4 : sx_iB prog_14_method_237_code aI_555_4 = true := by decide +kernel
def aI_555_5 : sx_IL := [(49, .aload_n 0, 1), (50, .getfield 294, 3), (53, .iload_n 3, 1), (54, .baload, 1), (55, .ifCond .eq 8, 3), (58, .bipush (-12), 2)]
theorem aJ_555_5 : sx_iB prog_14_method_237_code aI_555_5 = true := by decide +kernel
def aI_555_6 : sx_IL := [(60, .goto 5, 3), (63, .bipush (-10), 2), (65, .ireturn, 1), (66, .aload_n 0, 1), (67, .getfield 285, 3), (70, .sipush 2000, 3)]
theorem aJ_555_6 : sx_iB prog_14_method_237_code aI_555_6 = true := by decide +kernel
def aI_555_7 : sx_IL := [(73, .iload_n 3, 1), (74, .imul, 1), (75, .iaload, 1), (76, .istore 4, 2), (78, .aload_n 0, 1), (79, .getfield 288, 3)]
theorem aJ_555_7 : sx_iB prog_14_method_237_code aI_555_7 = true := by decide +kernel
def aI_555_8 : sx_IL := [(82, .iload_n 3, 1), (83, .dup2, 1), (84, .iaload, 1), (85, .iconst 1, 1), (86, .isub, 1), (87, .iastore, 1)]
theorem aJ_555_8 : sx_iB prog_14_method_237_code aI_555_8 = true := by decide +kernel
def aI_555_9 : sx_IL := [(88, .iconst 0, 1), (89, .istore 5, 2), (91, .iload 5, 2), (93, .aload_n 0, 1), (94, .getfield 288, 3), (97, .iload_n 3, 1)]
theorem aJ_555_9 : sx_iB prog_14_method_237_code aI_555_9 = true := by decide +kernel
def aI_555_10 : sx_IL := [(98, .iaload, 1), (99, .if_icmp .ge 37, 3), (102, .aload_n 0, 1), (103, .getfield 285, 3), (106, .sipush 2000, 3), (109, .iload_n 3, 1)]
theorem aJ_555_10 : sx_iB prog_14_method_237_code aI_555_10 = true := by decide +kernel
def aI_555_11 : sx_IL := [(110, .imul, 1), (111, .iload 5, 2), (113, .iadd, 1), (114, .aload_n 0, 1), (115, .getfield 285, 3), (118, .sipush 2000, 3)]
theorem aJ_555_11 : sx_iB prog_14_method_237_code aI_555_11 = true := by decide +kernel
def aI_555_12 : sx_IL := [(121, .iload_n 3, 1), (122, .imul, 1), (123, .iload 5, 2), (125, .iadd, 1), (126, .iconst 1, 1), (127, .iadd, 1)]
theorem aJ_555_12 : sx_iB prog_14_method_237_code aI_555_12 = true := by decide +kernel
def aI_555_13 : sx_IL := [(128, .iaload, 1), (129, .iastore, 1), (130, .iinc 5 1, 3), (133, .goto (-42), 3), (136, .iload 4, 2), (138, .ireturn, 1)]
theorem aJ_555_13 : sx_iB prog_14_method_237_code aI_555_13 = true := by decide +kernel
def aS_555 (pc : Nat) : sx_IL := (if pc < 73 then (if pc < 26 then (if pc < 10 then aI_555_0 else (if pc < 20 then aI_555_1 else aI_555_2)) else (if pc < 49 then (if pc < 36 then aI_555_3 else aI_555_4) else (if pc < 60 then aI_555_5 else aI_555_6))) else (if pc < 98 then (if pc < 82 then aI_555_7 else (if pc < 88 then aI_555_8 else aI_555_9)) else (if pc < 121 then (if pc < 110 then aI_555_10 else aI_555_11) else (if pc < 128 then aI_555_12 else aI_555_13))))
theorem aT_555 (pc : Nat) : sx_iOk prog_14_method_237_code (aS_555 pc) := (sx_ite (p := fun l => sx_iOk prog_14_method_237_code l) (sx_ite (p := fun l => sx_iOk prog_14_method_237_code l) (sx_ite (p := fun l => sx_iOk prog_14_method_237_code l) (sx_iB_s aJ_555_0) (sx_ite (p := fun l => sx_iOk prog_14_method_237_code l) (sx_iB_s aJ_555_1) (sx_iB_s aJ_555_2))) (sx_ite (p := fun l => sx_iOk prog_14_method_237_code l) (sx_ite (p := fun l => sx_iOk prog_14_method_237_code l) (sx_iB_s aJ_555_3) (sx_iB_s aJ_555_4)) (sx_ite (p := fun l => sx_iOk prog_14_method_237_code l) (sx_iB_s aJ_555_5) (sx_iB_s aJ_555_6)))) (sx_ite (p := fun l => sx_iOk prog_14_method_237_code l) (sx_ite (p := fun l => sx_iOk prog_14_method_237_code l) (sx_iB_s aJ_555_7) (sx_ite (p := fun l => sx_iOk prog_14_method_237_code l) (sx_iB_s aJ_555_8) (sx_iB_s aJ_555_9))) (sx_ite (p := fun l => sx_iOk prog_14_method_237_code l) (sx_ite (p := fun l => sx_iOk prog_14_method_237_code l) (sx_iB_s aJ_555_10) (sx_iB_s aJ_555_11)) (sx_ite (p := fun l => sx_iOk prog_14_method_237_code l) (sx_iB_s aJ_555_12) (sx_iB_s aJ_555_13)))))
def aW_555 : Nat → Option (Instr × Nat) := fun pc => sx_iF (aS_555 pc) pc
theorem aX_555 : ∀ pc i len, aW_555 pc = some (i, len) → decode aM_555.1.2.1 pc = .ok (i, len) := fun pc i len h => sx_iF_s (aT_555 pc) h
def aI_556_0 : sx_IL := [(0, .aload_n 0, 1), (1, .iload_n 1, 1), (2, .iload_n 2, 1), (3, .invokevirtual 1272, 3), (6, .ifCond .ne 5, 3), (9, .iconst (-1), 1)]
theorem aJ_556_0 : sx_iB prog_14_method_238_code aI_556_0 = true := by decide +kernel
def aI_556_1 : sx_IL := [(10, .ireturn, 1), (11, .iconst 2, 1), (12, .iload_n 1, 1), (13, .imul, 1), (14, .iload_n 2, 1), (15, .iadd, 1)]
theorem aJ_556_1 : sx_iB prog_14_method_238_code aI_556_1 = true := by decide +kernel
def aI_556_2 : sx_IL := [(16, .istore_n 3, 1), (17, .aload_n 0, 1), (18, .iload_n 1, 1), (19, .iload_n 2, 1), (20, .invokevirtual 1275, 3), (23, .ifCond .eq 20, 3)]
theorem aJ_556_2 : sx_iB prog_14_method_238_code aI_556_2 = true := by decide +kernel
def aI_556_3 : sx_IL := [(26, .aload_n 0, 1), (27, .iload_n 3, 1), (28, .invokevirtual 1283, 3), (31, .ifCond .eq 12, 3), (34, .aload_n 0, 1), (35, .getfield 297, 3)]
theorem aJ_556_3 : sx_iB prog_14_method_238_code aI_556_3 = true := by decide +kernel
def aI_556_4 : sx_IL := [(38, .iload_n 3, 1), (39, .baload, 1), (40, .ifCond .eq 6, 3), (43, .bipush (-2), 2), (45, .ireturn, 1), (46, .aload_n 0, 1)]
theorem aJ_556_4 : sx_iB prog_14_method_238_code aI_556_4 = true := by decide +kernel
def aI_556_5 : sx_IL := [(47, .iload_n 3, 1), (48, .iconst 0, 1), (49, .invokevirtual 991, 3), (52, .aload_n 0, 1), (53, .getfield 297, 3), (56, .iload_n 3, 1)]
theorem aJ_556_5 : sx_iB prog_14_method_238_code aI_556_5 = true := by decide +kernel
def aI_556_6 : sx_IL := [(57, .iconst 1, 1), (58, .bastore, 1), (59, .iconst 1, 1), (60, .ireturn, 1)]
theorem aJ_556_6 : sx_iB prog_14_method_238_code aI_556_6 = true := by decide +kernel
def aS_556 (pc : Nat) : sx_IL := (if pc < 26 then (if pc < 10 then aI_556_0 else (if pc < 16 then aI_556_1 else aI_556_2)) else (if pc < 47 then (if pc < 38 then aI_556_3 else aI_556_4) else (if pc < 57 then aI_556_5 else aI_556_6)))
theorem aT_556 (pc : Nat) : sx_iOk prog_14_method_238_code (aS_556 pc) := (sx_ite (p := fun l => sx_iOk prog_14_method_238_code l) (sx_ite (p := fun l => sx_iOk prog_14_method_238_code l) (sx_iB_s aJ_556_0) (sx_ite (p := fun l => sx_iOk prog_14_method_238_code l) (sx_iB_s aJ_556_1) (sx_iB_s aJ_556_2))) (sx_ite (p := fun l => sx_iOk prog_14_method_238_code l) (sx_ite (p := fun l => sx_iOk prog_14_method_238_code l) (sx_iB_s aJ_556_3) (sx_iB_s aJ_556_4)) (sx_ite (p := fun l => sx_iOk prog_14_method_238_code l) (sx_iB_s aJ_556_5) (sx_iB_s aJ_556_6))))
def aW_556 : Nat → Option (Instr × Nat) := fun pc => sx_iF (aS_556 pc) pc
theorem aX_556 : ∀ pc i len, aW_556 pc = some (i, len) → decode aM_556.1.2.1 pc = .ok (i, len) := fun pc i len h => sx_iF_s (aT_556 pc) h
def aI_557_0 : sx_IL := [(0, .aload_n 0, 1), (1, .iload_n 1, 1), (2, .iload_n 2, 1), (3, .invokevirtual 1272, 3), (6, .ifCond .eq 13, 3), (9, .iload_n 3, 1)]
theorem aJ_557_0 : sx_iB prog_14_method_239_code aI_557_0 = true := by decide +kernel
def aI_557_1 : sx_IL := [(10, .i2l, 1), (11, .lconst 0, 1), (12, .lconst 1, 1), (13, .invokestatic 513, 3), (16, .ifCond .ne 5, 3), (19, .iconst (-1), 1)]
theorem aJ_557_1 : sx_iB prog_14_method_239_code aI_557_1 = true := by decide +kernel
def aI_557_2 : sx_IL := [(20, .ireturn, 1), (21, .iconst 2, 1), (22, .iload_n 1, 1), (23, .imul, 1), (24, .iload_n 2, 1), (25, .iadd, 1)]
theorem aJ_557_2 : sx_iB prog_14_method_239_code aI_557_2 = true := by decide +kernel
def aI_557_3 : sx_IL := [(26, .istore 4, 2), (28, .aload_n 0, 1), (29, .iload_n 1, 1), (30, .iload_n 2, 1), (31, .invokevirtual 1275, 3), (34, .ifCond .eq 22, 3)]
theorem aJ_557_3 : sx_iB prog_14_method_239_code aI_557_3 = true := by decide +kernel
def aI_557_4 : sx_IL := [(37, .aload_n 0, 1), (38, .iload 4, 2), (40, .invokevirtual 1283, 3), (43, .ifCond .eq 13, 3), (46, .aload_n 0, 1), (47, .getfield 297, 3)]
theorem aJ_557_4 : sx_iB prog_14_method_239_code aI_557_4 = true := by decide +kernel
def aI_557_5 : sx_IL := [(50, .iload 4, 2), (52, .baload, 1), (53, .ifCond .eq 6, 3), (56, .bipush (-2), 2), (58, .ireturn, 1), (59, .aload_n 0, 1)]
theorem aJ_557_5 : sx_iB prog_14_method_239_code aI_557_5 = true := by decide +kernel
def aI_557_6 : sx_IL := [(60, .getfield 268, 3), (63, .iload 4, 2), (65, .iaload, 1), (66, .sipush 2000, 3), (69, .if_icmp .le 6, 3), (72, .bipush (-3), 2)]
theorem aJ_557_6 : sx_iB prog_14_method_239_code aI_557_6 = true := by decide +kernel
def aI_557_7 : sx_IL := [(74, .ireturn, 1), (75, .aload_n 0, 1), (76, .iload 4, 2), (78, .iload_n 3, 1), (79, .invokevirtual 1192, 3), (82, .iconst 1, 1)]
theorem aJ_557_7 : sx_iB prog_14_method_239_code aI_557_7 = true := by decide +kernel
def aI_557_8 : sx_IL := [(83, .ireturn, 1)]
theorem aJ_557_8 : sx_iB prog_14_method_239_code aI_557_8 = true := by decide +kernel
def aS_557 (pc : Nat) : sx_IL := (if pc < 37 then (if pc < 20 then (if pc < 10 then aI_557_0 else aI_557_1) else (if pc < 26 then aI_557_2 else aI_557_3)) else (if pc < 60 then (if pc < 50 then aI_557_4 else aI_557_5) else (if pc < 74 then aI_557_6 else (if pc < 83 then aI_557_7 else aI_557_8))))
theorem aT_557 (pc : Nat) : sx_iOk prog_14_method_239_code (aS_557 pc) := (sx_ite (p := fun l => sx_iOk prog_14_method_239_code l) (sx_ite (p := fun l => sx_iOk prog_14_method_239_code l) (sx_ite (p := fun l => sx_iOk prog_14_method_239_code l) (sx_iB_s aJ_557_0) (sx_iB_s aJ_557_1)) (sx_ite (p := fun l => sx_iOk prog_14_method_239_code l) (sx_iB_s aJ_557_2) (sx_iB_s aJ_557_3))) (sx_ite (p := fun l => sx_iOk prog_14_method_239_code l) (sx_ite (p := fun l => sx_iOk prog_14_method_239_code l) (sx_iB_s aJ_557_4) (sx_iB_s aJ_557_5)) (sx_ite (p := fun l => sx_iOk prog_14_method_239_code l) (sx_iB_s aJ_557_6) (sx_ite (p := fun l => sx_iOk prog_14_method_239_code l) (sx_iB_s aJ_557_7) (sx_iB_s aJ_557_8)))))
def aW_557 : Nat → Option (Instr × Nat) := fun pc => sx_iF (aS_557 pc) pc
theorem aX_557 : ∀ pc i len, aW_557 pc = some (i, len) → decode aM_557.1.2.1 pc = .ok (i, len) := fun pc i len h => sx_iF_s (aT_557 pc) h
def aI_558_0 : sx_IL := [(0, .aload_n 0, 1), (1, .iload_n 1, 1), (2, .iload_n 2, 1), (3, .invokevirtual 1272, 3), (6, .ifCond .eq 24, 3), (9, .aload_n 0, 1)]
theorem aJ_558_0 : sx_iB prog_14_method_240_code aI_558_0 = true := by decide +kernel
def aI_558_1 : sx_IL := [(10, .iload_n 1, 1), (11, .iload_n 2, 1), (12, .invokevirtual 1275, 3), (15, .ifCond .eq 15, 3), (18, .iload_n 3, 1), (19, .i2l, 1)]
theorem aJ_558_1 : sx_iB prog_14_method_240_code aI_558_1 = true := by decide +kernel
def aI_558_2 : sx_IL := [(20, .lconst 0, 1), (21, .ldc2_w 1286, 3), (24, .invokestatic 513, 3), (27, .ifCond .ne 5, 3), (30, .iconst (-1), 1), (31, .ireturn, 1)]
theorem aJ_558_2 : sx_iB prog_14_method_240_code aI_558_2 = true := by decide +kernel
def aI_558_3 : sx_IL := [(32, .iconst 2, 1), (33, .iload_n 1, 1), (34, .imul, 1), (35, .iload_n 2, 1), (36, .iadd, 1), (37, .istore 4, 2)]
theorem aJ_558_3 : sx_iB prog_14_method_240_code aI_558_3 = true := by decide +kernel
def aI_558_4 : sx_IL := [(39, .iload_n 3, 1), (40, .tableswitch 257 0 13 #[72, 101, 109, 117, 125, 133, 149, 157, 165, 181, 197, 219, 241, 249], 72), (112, .aload_n 0, 1), (113, .getfield 294, 3), (116, .iload 4, 2), (118, .baload, 1)]
theorem aJ_558_4 : sx_iB prog_14_method_240_code aI_558_4 = true := by decide +kernel
def aI_558_5 : sx_IL := [(119, .ifCond .eq 7, 3), (122, .iconst 2, 1), (123, .goto 17, 3), (126, .aload_n 0, 1), (127, .iload 4, 2), (129, .invokevirtual 1283, 3)]
theorem aJ_558_5 : sx_iB prog_14_method_240_code aI_558_5 = true := by decide +kernel
def aI_558_6 : sx_IL := [(132, .ifCond .eq 7, 3), (135, .iconst 1, 1), (136, .goto 4, 3), (139, .iconst 0, 1), (140, .ireturn, 1), (141, .aload_n 0, 1)]
theorem aJ_558_6 : sx_iB prog_14_method_240_code aI_558_6 = true := by decide +kernel
def aI_558_7 : sx_IL := [(142, .getfield 330, 3), (145, .iload 4, 2), (147, .iaload, 1), (148, .ireturn, 1), (149, .aload_n 0, 1), (150, .getfield 333, 3)]
theorem aJ_558_7 : sx_iB prog_14_method_240_code aI_558_7 = true := by decide +kernel
def aI_558_8 : sx_IL := [(153, .iload 4, 2), (155, .iaload, 1), (156, .ireturn, 1), (157, .aload_n 0, 1), (158, .getfield 336, 3), (161, .iload 4, 2)]
theorem aJ_558_8 : sx_iB prog_14_method_240_code aI_558_8 = true := by decide +kernel
def aI_558_9 : sx_IL := [(163, .iaload, 1), (164, .ireturn, 1), (165, .aload_n 0, 1), (166, .getfield 339, 3), (169, .iload 4, 2), (171, .iaload, 1)]
theorem aJ_558_9 : sx_iB prog_14_method_240_code aI_558_9 = true := by decide +kernel
def aI_558_10 : sx_IL := [(172, .ireturn, 1), (173, .aload_n 0, 1), (174, .getfield 342, 3), (177, .iload 4, 2), (179, .baload, 1), (180, .ifCond .eq 7, 3)]
theorem aJ_558_10 : sx_iB prog_14_method_240_code aI_558_10 = true := by decide +kernel
def aI_558_11 : sx_IL := [(183, .iconst 1, 1), (184, .goto 4, 3), (187, .iconst 0, 1), (188, .ireturn, 1), (189, .aload_n 0, 1), (190, .getfield 303, 3)]
theorem aJ_558_11 : sx_iB prog_14_method_240_code aI_558_11 = true := by decide +kernel
def aI_558_12 : sx_IL := [(193, .iload 4, 2), (195, .iaload, 1), (196, .ireturn, 1), (197, .aload_n 0, 1), (198, .getfield 306, 3), (201, .iload 4, 2)]
theorem aJ_558_12 : sx_iB prog_14_method_240_code aI_558_12 = true := by decide +kernel
def aI_558_13 : sx_IL := [(203, .iaload, 1), (204, .ireturn, 1), (205, .aload_n 0, 1), (206, .getfield 297, 3), (209, .iload 4, 2), (211, .baload, 1)]
theorem aJ_558_13 : sx_iB prog_14_method_240_code aI_558_13 = true := by decide +kernel
def aI_558_14 : sx_IL := [(212, .ifCond .eq 7, 3), (215, .iconst 1, 1), (216, .goto 4, 3), (219, .iconst 0, 1), (220, .ireturn, 1), (221, .aload_n 0, 1)]
theorem aJ_558_14 : sx_iB prog_14_method_240_code aI_558_14 = true := by decide +kernel
def aI_558_15 : sx_IL := [(222, .getfield 300, 3), (225, .iload 4, 2), (227, .baload, 1), (228, .ifCond .eq 7, 3), (231, .iconst 1, 1), (232, .goto 4, 3)]
theorem aJ_558_15 : sx_iB prog_14_method_240_code aI_558_15 = true := by decide +kernel
def aI_558_16 : sx_IL := [(235, .iconst 0, 1), (236, .ireturn, 1), (237, .aload_n 0, 1), (238, .getfield 309, 3), (241, .iload 4, 2), (243, .baload, 1)]
theorem aJ_558_16 : sx_iB prog_14_method_240_code aI_558_16 = true := by decide +kernel
def aI_558_17 : sx_IL := [(244, .ifCond .eq 13, 3), (247, .aload_n 0, 1), (248, .getfield 321, 3), (251, .iload 4, 2), (253, .iaload, 1), (254, .goto 4, 3)]
theorem aJ_558_17 : sx_iB prog_14_method_240_code aI_558_17 = true := by decide +kernel
def aI_558_18 : sx_IL := [(257, .iconst 0, 1), (258, .ireturn, 1), (259, .aload_n 0, 1), (260, .getfield 312, 3), (263, .iload 4, 2), (265, .baload, 1)]
theorem aJ_558_18 : sx_iB prog_14_method_240_code aI_558_18 = true := by decide +kernel
def aI_558_19 : sx_IL := [(266, .ifCond .eq 13, 3), (269, .aload_n 0, 1), (270, .getfield 324, 3), (273, .iload 4, 2), (275, .iaload, 1), (276, .goto 4, 3)]
theorem aJ_558_19 : sx_iB prog_14_method_240_code aI_558_19 = true := by decide +kernel
def aI_558_20 : sx_IL := [(279, .iconst 0, 1), (280, .ireturn, 1), (281, .aload_n 0, 1), (282, .getfield 345, 3), (285, .iload 4, 2), (287, .iaload, 1)]
theorem aJ_558_20 : sx_iB prog_14_method_240_code aI_558_20 = true := by decide +kernel
def aI_558_21 : sx_IL := [(288, .ireturn, 1), (289, .aload_n 0, 1), (290, .getfield 348, 3), (293, .iload 4, 2), (295, .iaload, 1), (296, .ireturn, 1)]
theorem aJ_558_21 : sx_iB prog_14_method_240_code aI_558_21 = true := by decide +kernel
def aI_558_22 : sx_IL := [(297, .aload_n 0, 1), (298, .getfield 351, 3), (301, .iload 4, 2), (303, .iaload, 1), (304, .ireturn, 1)]
theorem aJ_558_22 : sx_iB prog_14_method_240_code aI_558_22 = true := by decide +kernel
def aS_558 (pc : Nat) : sx_IL := (if pc < 183 then (if pc < 119 then (if pc < 20 then (if pc < 10 then aI_558_0 else aI_558_1) else (if pc < 32 then aI_558_2 else (if pc < 39 then aI_558_3 else aI_558_4))) else (if pc < 153 then (if pc < 132 then aI_558_5 else (if pc < 142 then aI_558_6 else aI_558_7)) else (if pc < 163 then aI_558_8 else (if pc < 172 then aI_558_9 else aI_558_10)))) else (if pc < 244 then (if pc < 212 then (if pc < 193 then aI_558_11 else (if pc < 203 then aI_558_12 else aI_558_13)) else (if pc < 222 then aI_558_14 else (if pc < 235 then aI_558_15 else aI_558_16))) else (if pc < 279 then (if pc < 257 then aI_558_17 else (if pc < 266 then aI_558_18 else aI_558_19)) else (if pc < 288 then aI_558_20 else (if pc < 297 then aI_558_21 else aI_558_22)))))
theorem aT_558 (pc : Nat) : sx_iOk prog_14_method_240_code (aS_558 pc) := (sx_ite (p := fun l => sx_iOk prog_14_method_240_code l) (sx_ite (p := fun l => sx_iOk prog_14_method_240_code l) (sx_ite (p := fun l => sx_iOk prog_14_method_240_code l) (sx_ite (p := fun l => sx_iOk prog_14_method_240_code l) (sx_iB_s aJ_558_0) (sx_iB_s aJ_558_1)) (sx_ite (p := fun l => sx_iOk prog_14_method_240_code l) (sx_iB_s aJ_558_2) (sx_ite (p := fun l => sx_iOk prog_14_method_240_code l) (sx_iB_s aJ_558_3) (sx_iB_s aJ_558_4)))) (sx_ite (p := fun l => sx_iOk prog_14_method_240_code l) (sx_ite (p := fun l => sx_iOk prog_14_method_240_code l) (sx_iB_s aJ_558_5) (sx_ite (p := fun l => sx_iOk prog_14_method_240_code l) (sx_iB_s aJ_558_6) (sx_iB_s aJ_558_7))) (sx_ite (p := fun l => sx_iOk prog_14_method_240_code l) (sx_iB_s aJ_558_8) (sx_ite (p := fun l => sx_iOk prog_14_method_240_code l) (sx_iB_s aJ_558_9) (sx_iB_s aJ_558_10))))) (sx_ite (p := fun l => sx_iOk prog_14_method_240_code l) (sx_ite (p := fun l => sx_iOk prog_14_method_240_code l) (sx_ite (p := fun l => sx_iOk prog_14_method_240_code l) (sx_iB_s aJ_558_11) (sx_ite (p := fun l => sx_iOk prog_14_method_240_code l) (sx_iB_s aJ_558_12) (sx_iB_s aJ_558_13))) (sx_ite (p := fun l => sx_iOk prog_14_method_240_code l) (sx_iB_s aJ_558_14) (sx_ite (p := fun l => sx_iOk prog_14_method_240_code l) (sx_iB_s aJ_558_15) (sx_iB_s aJ_558_16)))) (sx_ite (p := fun l => sx_iOk prog_14_method_240_code l) (sx_ite (p := fun l => sx_iOk prog_14_method_240_code l) (sx_iB_s aJ_558_17) (sx_ite (p := fun l => sx_iOk prog_14_method_240_code l) (sx_iB_s aJ_558_18) (sx_iB_s aJ_558_19))) (sx_ite (p := fun l => sx_iOk prog_14_method_240_code l) (sx_iB_s aJ_558_20) (sx_ite (p := fun l => sx_iOk prog_14_method_240_code l) (sx_iB_s aJ_558_21) (sx_iB_s aJ_558_22))))))
def aW_558 : Nat → Option (Instr × Nat) := fun pc => sx_iF (aS_558 pc) pc
theorem aX_558 : ∀ pc i len, aW_558 pc = some (i, len) → decode aM_558.1.2.1 pc = .ok (i, len) := fun pc i len h => sx_iF_s (aT_558 pc) h
def aI_559_0 : sx_IL := [(0, .aload_n 0, 1), (1, .iload_n 1, 1), (2, .iload_n 2, 1), (3, .invokevirtual 1272, 3), (6, .ifCond .eq 24, 3), (9, .aload_n 0, 1)]
theorem aJ_559_0 : sx_iB prog_14_method_241_code aI_559_0 = true := by decide +kernel
def aI_559_1 : sx_IL := [(10, .iload_n 1, 1), (11, .iload_n 2, 1), (12, .invokevirtual 1275, 3), (15, .ifCond .eq 15, 3), (18, .iload_n 3, 1), (19, .i2l, 1)]
theorem aJ_559_1 : sx_iB prog_14_method_241_code aI_559_1 = true := by decide +kernel
def aI_559_2 : sx_IL := [(20, .lconst 0, 1), (21, .ldc2_w 629, 3), (24, .invokestatic 513, 3), (27, .ifCond .ne 7, 3), (30, .ldc2_w 590, 3), (33, .lreturn, 1)]
theorem aJ_559_2 : sx_iB prog_14_method_241_code aI_559_2 = true := by decide +kernel
def aI_559_3 : sx_IL := [(34, .iconst 2, 1), (35, .iload_n 1, 1), (36, .imul, 1), (37, .iload_n 2, 1), (38, .iadd, 1), (39, .istore 4, 2)]
theorem aJ_559_3 : sx_iB prog_14_method_241_code aI_559_3 = true := by decide +kernel
def aI_559_4 : sx_IL := [(41, .iload_n 3, 1), (42, .tableswitch 126 0 6 #[42, 64, 86, 94, 102, 110, 118], 42), (84, .aload_n 0, 1), (85, .getfield 309, 3), (88, .iload 4, 2), (90, .baload, 1)]
theorem aJ_559_4 : sx_iB prog_14_method_241_code aI_559_4 = true := by decide +kernel
def aI_559_5 : sx_IL := [(91, .ifCond .eq 13, 3), (94, .aload_n 0, 1), (95, .getfield 315, 3), (98, .iload 4, 2), (100, .laload, 1), (101, .goto 4, 3)]
theorem aJ_559_5 : sx_iB prog_14_method_241_code aI_559_5 = true := by decide +kernel
def aI_559_6 : sx_IL := [(104, .lconst 0, 1), (105, .lreturn, 1), (106, .aload_n 0, 1), (107, .getfield 312, 3), (110, .iload 4, 2), (112, .baload, 1)]
theorem aJ_559_6 : sx_iB prog_14_method_241_code aI_559_6 = true := by decide +kernel
def aI_559_7 : sx_IL := [(113, .ifCond .eq 13, 3), (116, .aload_n 0, 1), (117, .getfield 318, 3), (120, .iload 4, 2), (122, .laload, 1), (123, .goto 4, 3)]
theorem aJ_559_7 : sx_iB prog_14_method_241_code aI_559_7 = true := by decide +kernel
def aI_559_8 : sx_IL := [(126, .lconst 0, 1), (127, .lreturn, 1), (128, .aload_n 0, 1), (129, .getfield 357, 3), (132, .iload 4, 2), (134, .laload, 1)]
theorem aJ_559_8 : sx_iB prog_14_method_241_code aI_559_8 = true := by decide +kernel
def aI_559_9 : sx_IL := [(135, .lreturn, 1), (136, .aload_n 0, 1), (137, .getfield 360, 3), (140, .iload 4, 2), (142, .laload, 1), (143, .lreturn, 1)]
theorem aJ_559_9 : sx_iB prog_14_method_241_code aI_559_9 = true := by decide +kernel
def aI_559_10 : sx_IL := [(144, .aload_n 0, 1), (145, .getfield 363, 3), (148, .iload 4, 2), (150, .laload, 1), (151, .lreturn, 1), (152, .aload_n 0, 1)]
theorem aJ_559_10 : sx_iB prog_14_method_241_code aI_559_10 = true := by decide +kernel
def aI_559_11 : sx_IL := [(153, .getfield 366, 3), (156, .iload 4, 2), (158, .laload, 1), (159, .lreturn, 1), (160, .aload_n 0, 1), (161, .getfield 369, 3)]
theorem aJ_559_11 : sx_iB prog_14_method_241_code aI_559_11 = true := by decide +kernel
def aI_559_12 : sx_IL := [(164, .iload 4, 2), (166, .laload, 1), (167, .lreturn, 1), (168, .aload_n 0, 1), (169, .getfield 330, 3), (172, .iload 4, 2)]
theorem aJ_559_12 : sx_iB prog_14_method_241_code aI_559_12 = true := by decide +kernel
def aI_559_13 : sx_IL := [(174, .iaload, 1), (175, .ifCond .ne 7, 3), (178, .lconst 0, 1), (179, .goto 15, 3), (182, .aload_n 0, 1), (183, .iload 4, 2)]
theorem aJ_559_13 : sx_iB prog_14_method_241_code aI_559_13 = true := by decide +kernel
def aI_559_14 : sx_IL := [(185, .aload_n 0, 1), (186, .iload 4, 2), (188, .invokevirtual 998, 3), (191, .invokevirtual 973, 3), (194, .lreturn, 1)]
theorem aJ_559_14 : sx_iB prog_14_method_241_code aI_559_14 = true := by decide +kernel
def aS_559 (pc : Nat) : sx_IL := (if pc < 113 then (if pc < 34 then (if pc < 10 then aI_559_0 else (if pc < 20 then aI_559_1 else aI_559_2)) else (if pc < 91 then (if pc < 41 then aI_559_3 else aI_559_4) else (if pc < 104 then aI_559_5 else aI_559_6))) else (if pc < 153 then (if pc < 135 then (if pc < 126 then aI_559_7 else aI_559_8) else (if pc < 144 then aI_559_9 else aI_559_10)) else (if pc < 174 then (if pc < 164 then aI_559_11 else aI_559_12) else (if pc < 185 then aI_559_13 else aI_559_14))))
theorem aT_559 (pc : Nat) : sx_iOk prog_14_method_241_code (aS_559 pc) := (sx_ite (p := fun l => sx_iOk prog_14_method_241_code l) (sx_ite (p := fun l => sx_iOk prog_14_method_241_code l) (sx_ite (p := fun l => sx_iOk prog_14_method_241_code l) (sx_iB_s aJ_559_0) (sx_ite (p := fun l => sx_iOk prog_14_method_241_code l) (sx_iB_s aJ_559_1) (sx_iB_s aJ_559_2))) (sx_ite (p := fun l => sx_iOk prog_14_method_241_code l) (sx_ite (p := fun l => sx_iOk prog_14_method_241_code l) (sx_iB_s aJ_559_3) (sx_iB_s aJ_559_4)) (sx_ite (p := fun l => sx_iOk prog_14_method_241_code l) (sx_iB_s aJ_559_5) (sx_iB_s aJ_559_6)))) (sx_ite (p := fun l => sx_iOk prog_14_method_241_code l) (sx_ite (p := fun l => sx_iOk prog_14_method_241_code l) (sx_ite (p := fun l => sx_iOk prog_14_method_241_code l) (sx_iB_s aJ_559_7) (sx_iB_s aJ_559_8)) (sx_ite (p := fun l => sx_iOk prog_14_method_241_code l) (sx_iB_s aJ_559_9) (sx_iB_s aJ_559_10))) (sx_ite (p := fun l => sx_iOk prog_14_method_241_code l) (sx_ite (p := fun l => sx_iOk prog_14_method_241_code l) (sx_iB_s aJ_559_11) (sx_iB_s aJ_559_12)) (sx_ite (p := fun l => sx_iOk prog_14_method_241_code l) (sx_iB_s aJ_559_13) (sx_iB_s aJ_559_14)))))
def aW_559 : Nat → Option (Instr × Nat) := fun pc => sx_iF (aS_559 pc) pc
theorem aX_559 : ∀ pc i len, aW_559 pc = some (i, len) → decode aM_559.1.2.1 pc = .ok (i, len) := fun pc i len h => sx_iF_s (aT_559 pc) h
def aI_560_0 : sx_IL := [(0, .aload_n 0, 1), (1, .iload_n 1, 1), (2, .iload_n 2, 1), (3, .invokevirtual 1272, 3), (6, .ifCond .eq 12, 3), (9, .aload_n 0, 1)]
theorem aJ_560_0 : sx_iB prog_14_method_242_code aI_560_0 = true := by decide +kernel
def aI_560_1 : sx_IL := [(10, .iload_n 1, 1), (11, .iload_n 2, 1), (12, .invokevirtual 1275, 3), (15, .ifCond .ne 7, 3), (18, .ldc2_w 590, 3), (21, .lreturn, 1)]
theorem aJ_560_1 : sx_iB prog_14_method_242_code aI_560_1 = true := by decide +kernel
def aI_560_2 : sx_IL := [(22, .iconst 2, 1), (23, .iload_n 1, 1), (24, .imul, 1), (25, .iload_n 2, 1), (26, .iadd, 1), (27, .istore_n 3, 1)]
theorem aJ_560_2 : sx_iB prog_14_method_242_code aI_560_2 = true := by decide +kernel
def aI_560_3 : sx_IL := [(28, .aload_n 0, 1), (29, .getfield 517, 3), (32, .istore 4, 2), (34, .aload_n 0, 1), (35, .iconst 0, 1), (36, .putfield 517, 3)]
theorem aJ_560_3 : sx_iB prog_14_method_242_code aI_560_3 = true := by decide +kernel
def aI_560_4 : sx_IL := [(39, .aload_n 0, 1), (40, .getfield 363, 3), (43, .iload_n 3, 1), (44, .laload, 1), (45, .lconst 0, 1), (46, .lcmp, 1)]
theorem aJ_560_4 : sx_iB prog_14_method_242_code aI_560_4 = true := by decide +kernel
def aI_560_5 : sx_IL := [(47, .ifCond .ne 16, 3), (50, .aload_n 0, 1), (51, .getfield 366, 3), (54, .iload_n 3, 1), (55, .laload, 1), (56, .lconst 0, 1)]
theorem aJ_560_5 : sx_iB prog_14_method_242_code aI_560_5 = true := by decide +kernel
def aI_560_6 : sx_IL := [(57, .lcmp, 1), (58, .ifCond .ne 5, 3), (61, .lconst 0, 1), (62, .lreturn, 1), (63, .aload_n 0, 1), (64, .iload_n 3, 1)]
theorem aJ_560_6 : sx_iB prog_14_method_242_code aI_560_6 = true := by decide +kernel
def aI_560_7 : sx_IL := [(65, .invokevirtual 998, 3), (68, .istore 5, 2), (70, .aload_n 0, 1), (71, .iload 5, 2), (73, .aload_n 0, 1), (74, .getfield 366, 3)]
theorem aJ_560_7 : sx_iB prog_14_method_242_code aI_560_7 = true := by decide +kernel
def aI_560_8 : sx_IL := [(77, .iload_n 3, 1), (78, .laload, 1), (79, .bipush 121, 2), (81, .aload_n 0, 1), (82, .iload 5, 2), (84, .aload_n 0, 1)]
theorem aJ_560_8 : sx_iB prog_14_method_242_code aI_560_8 = true := by decide +kernel
def aI_560_9 : sx_IL := [(85, .getfield 7, 3), (88, .iconst 0, 1), (89, .iload 4, 2), (91, .invokevirtual 592, 3), (94, .invokevirtual 598, 3), (97, .lreturn, 1)]
theorem aJ_560_9 : sx_iB prog_14_method_242_code aI_560_9 = true := by decide +kernel
def aS_560 (pc : Nat) : sx_IL := (if pc < 47 then (if pc < 22 then (if pc < 10 then aI_560_0 else aI_560_1) else (if pc < 28 then aI_560_2 else (if pc < 39 then aI_560_3 else aI_560_4))) else (if pc < 65 then (if pc < 57 then aI_560_5 else aI_560_6) else (if pc < 77 then aI_560_7 else (if pc < 85 then aI_560_8 else aI_560_9))))
theorem aT_560 (pc : Nat) : sx_iOk prog_14_method_242_code (aS_560 pc) := (sx_ite (p := fun l => sx_iOk prog_14_method_242_code l) (sx_ite (p := fun l => sx_iOk prog_14_method_242_code l) (sx_ite (p := fun l => sx_iOk prog_14_method_242_code l) (sx_iB_s aJ_560_0) (sx_iB_s aJ_560_1)) (sx_ite (p := fun l => sx_iOk prog_14_method_242_code l) (sx_iB_s aJ_560_2) (sx_ite (p := fun l => sx_iOk prog_14_method_242_code l) (sx_iB_s aJ_560_3) (sx_iB_s aJ_560_4)))) (sx_ite (p := fun l => sx_iOk prog_14_method_242_code l) (sx_ite (p := fun l => sx_iOk prog_14_method_242_code l) (sx_iB_s aJ_560_5) (sx_iB_s aJ_560_6)) (sx_ite (p := fun l => sx_iOk prog_14_method_242_code l) (sx_iB_s aJ_560_7) (sx_ite (p := fun l => sx_iOk prog_14_method_242_code l) (sx_iB_s aJ_560_8) (sx_iB_s aJ_560_9)))))
def aW_560 : Nat → Option (Instr × Nat) := fun pc => sx_iF (aS_560 pc) pc
theorem aX_560 : ∀ pc i len, aW_560 pc = some (i, len) → decode aM_560.1.2.1 pc = .ok (i, len) := fun pc i len h => sx_iF_s (aT_560 pc) h
