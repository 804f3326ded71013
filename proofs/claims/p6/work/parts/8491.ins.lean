/-! instructions -/
def aI_384_0 : sx_IL := [(0, .aload_n 0, 1), (1, .aload_n 0, 1), (2, .getfield 7, 3), (5, .iconst 0, 1), (6, .aload_n 0, 1), (7, .getfield 517, 3)]
theorem aJ_384_0 : sx_iB prog_14_method_74_code aI_384_0 = true := by decide +kernel
def aI_384_1 : sx_IL := [(10, .invokevirtual 744, 3), (13, .istore_n 1, 1), (14, .iload_n 1, 1), (15, .bipush (-4), 2), (17, .if_icmp .eq 10, 3), (20, .bipush (-10), 2)]
theorem aJ_384_1 : sx_iB prog_14_method_74_code aI_384_1 = true := by decide +kernel
def aI_384_2 : sx_IL := [(22, .iload_n 1, 1), (23, .isub, 1), (24, .goto 30, 3), (27, .aload_n 0, 1), (28, .bipush 35, 2), (30, .aload_n 0, 1)]
theorem aJ_384_2 : sx_iB prog_14_method_74_code aI_384_2 = true := by decide +kernel
def aI_384_3 : sx_IL := [(31, .getfield 7, 3), (34, .iconst 0, 1), (35, .aload_n 0, 1), (36, .getfield 517, 3), (39, .invokevirtual 778, 3), (42, .ifCond .ne 8, 3)]
theorem aJ_384_3 : sx_iB prog_14_method_74_code aI_384_3 = true := by decide +kernel
def aI_384_4 : sx_IL := [(45, .bipush (-9), 2), (47, .goto 7, 3), (50, .aload_n 0, 1), (51, .invokevirtual 789, 3), (54, .istore_n 2, 1), (55, .aload_n 0, 1)]
theorem aJ_384_4 : sx_iB prog_14_method_74_code aI_384_4 = true := by decide +kernel
def aI_384_5 : sx_IL := [(56, .iload_n 2, 1), (57, .bipush (-3), 2), (59, .if_icmp .ne 10, 3), (62, .aload_n 0, 1), (63, .getfield 517, 3), (66, .goto 4, 3)]
theorem aJ_384_5 : sx_iB prog_14_method_74_code aI_384_5 = true := by decide +kernel
def aI_384_6 : sx_IL := [(69, .iconst 0, 1), (70, .putfield 517, 3), (73, .iload_n 2, 1), (74, .ireturn, 1)]
theorem aJ_384_6 : sx_iB prog_14_method_74_code aI_384_6 = true := by decide +kernel
def aS_384 (pc : Nat) : sx_IL := (if pc < 31 then (if pc < 10 then aI_384_0 else (if pc < 22 then aI_384_1 else aI_384_2)) else (if pc < 56 then (if pc < 45 then aI_384_3 else aI_384_4) else (if pc < 69 then aI_384_5 else aI_384_6)))
theorem aT_384 (pc : Nat) : sx_iOk prog_14_method_74_code (aS_384 pc) := (sx_ite (p := fun l => sx_iOk prog_14_method_74_code l) (sx_ite (p := fun l => sx_iOk prog_14_method_74_code l) (sx_iB_s aJ_384_0) (sx_ite (p := fun l => sx_iOk prog_14_method_74_code l) (sx_iB_s aJ_384_1) (sx_iB_s aJ_384_2))) (sx_ite (p := fun l => sx_iOk prog_14_method_74_code l) (sx_ite (p := fun l => sx_iOk prog_14_method_74_code l) (sx_iB_s aJ_384_3) (sx_iB_s aJ_384_4)) (sx_ite (p := fun l => sx_iOk prog_14_method_74_code l) (sx_iB_s aJ_384_5) (sx_iB_s aJ_384_6))))
def aW_384 : Nat → Option (Instr × Nat) := fun pc => sx_iF (aS_384 pc) pc
theorem aX_384 : ∀ pc i len, aW_384 pc = some (i, len) → decode aM_384.1.2.1 pc = .ok (i, len) := fun pc i len h => sx_iF_s (aT_384 pc) h
def aI_391_0 : sx_IL := [(0, .iconst 0, 1), (1, .istore_n 1, 1), (2, .iload_n 1, 1), (3, .aload_n 0, 1), (4, .getfield 782, 3), (7, .if_icmp .ge 91, 3)]
theorem aJ_391_0 : sx_iB prog_14_method_73_code aI_391_0 = true := by decide +kernel
def aI_391_1 : sx_IL := [(10, .aload_n 0, 1), (11, .getfield 42, 3), (14, .iload_n 1, 1), (15, .iaload, 1), (16, .aload_n 0, 1), (17, .getfield 42, 3)]
theorem aJ_391_1 : sx_iB prog_14_method_73_code aI_391_1 = true := by decide +kernel
def aI_391_2 : sx_IL := [(20, .bipush 35, 2), (22, .iaload, 1), (23, .if_icmp .ne 7, 3), (26, .iconst 1, 1), (27, .goto 4, 3), (30, .iconst 0, 1)]
theorem aJ_391_2 : sx_iB prog_14_method_73_code aI_391_2 = true := by decide +kernel
def aI_391_3 : sx_IL := [(31, .istore_n 2, 1), (32, .iconst 0, 1), (33, .istore_n 3, 1), (34, .iload_n 2, 1), (35, .ifCond .eq 51, 3), (38, .iload_n 3, 1)]
theorem aJ_391_3 : sx_iB prog_14_method_73_code aI_391_3 = true := by decide +kernel
def aI_391_4 : sx_IL := [(39, .aload_n 0, 1), (40, .getfield 42, 3), (43, .bipush 35, 2), (45, .iaload, 1), (46, .if_icmp .ge 40, 3), (49, .aload_n 0, 1)]
theorem aJ_391_4 : sx_iB prog_14_method_73_code aI_391_4 = true := by decide +kernel
def aI_391_5 : sx_IL := [(50, .getfield 39, 3), (53, .sipush 400, 3), (56, .iload_n 1, 1), (57, .imul, 1), (58, .iload_n 3, 1), (59, .iadd, 1)]
theorem aJ_391_5 : sx_iB prog_14_method_73_code aI_391_5 = true := by decide +kernel
def aI_391_6 : sx_IL := [(60, .iaload, 1), (61, .aload_n 0, 1), (62, .getfield 39, 3), (65, .sipush 14000, 3), (68, .iload_n 3, 1), (69, .iadd, 1)]
theorem aJ_391_6 : sx_iB prog_14_method_73_code aI_391_6 = true := by decide +kernel
def aI_391_7 : sx_IL := [(70, .iaload, 1), (71, .if_icmp .ne 7, 3), (74, .iconst 1, 1), (75, .goto 4, 3), (78, .iconst 0, 1), (79, .istore_n 2, 1)]
theorem aJ_391_7 : sx_iB prog_14_method_73_code aI_391_7 = true := by decide +kernel
def aI_391_8 : sx_IL := [(80, .iinc 3 1, 3), (83, .goto (-49), 3), (86, .iload_n 2, 1), (87, .ifCond .eq 5, 3), (90, .iload_n 1, 1), (91, .ireturn, 1)]
theorem aJ_391_8 : sx_iB prog_14_method_73_code aI_391_8 = true := by decide +kernel
def aI_391_9 : sx_IL := [(92, .iinc 1 1, 3), (95, .goto (-93), 3), (98, .aload_n 0, 1), (99, .getfield 782, 3), (102, .bipush 30, 2), (104, .if_icmp .ne 6, 3)]
theorem aJ_391_9 : sx_iB prog_14_method_73_code aI_391_9 = true := by decide +kernel
def aI_391_10 : sx_IL := [(107, .bipush (-3), 2), (109, .ireturn, 1), (110, .aload_n 0, 1), (111, .bipush 35, 2), (113, .aload_n 0, 1), (114, .getfield 782, 3)]
theorem aJ_391_10 : sx_iB prog_14_method_73_code aI_391_10 = true := by decide +kernel
def aI_391_11 : sx_IL := [(117, .invokevirtual 785, 3), (120, .aload_n 0, 1), (121, .dup, 1), (122, .getfield 782, 3), (125, .iconst 1, 1), (126, .iadd, 1)]
theorem aJ_391_11 : sx_iB prog_14_method_73_code aI_391_11 = true := by decide +kernel
def aI_391_12 : sx_IL := [(127, .putfield 782, 3), (130, .aload_n 0, 1), (131, .getfield 782, 3), (134, .iconst 1, 1), (135, .isub, 1), (136, .ireturn, 1)]
theorem aJ_391_12 : sx_iB prog_14_method_73_code aI_391_12 = true := by decide +kernel
def aS_391 (pc : Nat) : sx_IL := (if pc < 60 then (if pc < 31 then (if pc < 10 then aI_391_0 else (if pc < 20 then aI_391_1 else aI_391_2)) else (if pc < 39 then aI_391_3 else (if pc < 50 then aI_391_4 else aI_391_5))) else (if pc < 92 then (if pc < 70 then aI_391_6 else (if pc < 80 then aI_391_7 else aI_391_8)) else (if pc < 117 then (if pc < 107 then aI_391_9 else aI_391_10) else (if pc < 127 then aI_391_11 else aI_391_12))))
theorem aT_391 (pc : Nat) : sx_iOk prog_14_method_73_code (aS_391 pc) := (sx_ite (p := fun l => sx_iOk prog_14_method_73_code l) (sx_ite (p := fun l => sx_iOk prog_14_method_73_code l) (sx_ite (p := fun l => sx_iOk prog_14_method_73_code l) (sx_iB_s aJ_391_0) (sx_ite (p := fun l => sx_iOk prog_14_method_73_code l) (sx_iB_s aJ_391_1) (sx_iB_s aJ_391_2))) (sx_ite (p := fun l => sx_iOk prog_14_method_73_code l) (sx_iB_s aJ_391_3) (sx_ite (p := fun l => sx_iOk prog_14_method_73_code l) (sx_iB_s aJ_391_4) (sx_iB_s aJ_391_5)))) (sx_ite (p := fun l => sx_iOk prog_14_method_73_code l) (sx_ite (p := fun l => sx_iOk prog_14_method_73_code l) (sx_iB_s aJ_391_6) (sx_ite (p := fun l => sx_iOk prog_14_method_73_code l) (sx_iB_s aJ_391_7) (sx_iB_s aJ_391_8))) (sx_ite (p := fun l => sx_iOk prog_14_method_73_code l) (sx_ite (p := fun l => sx_iOk prog_14_method_73_code l) (sx_iB_s aJ_391_9) (sx_iB_s aJ_391_10)) (sx_ite (p := fun l => sx_iOk prog_14_method_73_code l) (sx_iB_s aJ_391_11) (sx_iB_s aJ_391_12)))))
def aW_391 : Nat → Option (Instr × Nat) := fun pc => sx_iF (aS_391 pc) pc
theorem aX_391 : ∀ pc i len, aW_391 pc = some (i, len) → decode aM_391.1.2.1 pc = .ok (i, len) := fun pc i len h => sx_iF_s (aT_391 pc) h
def aI_392_0 : sx_IL := [(0, .aload_n 0, 1), (1, .iload_n 2, 1), (2, .aload_n 0, 1), (3, .getfield 39, 3), (6, .sipush 400, 3), (9, .iload_n 1, 1)]
theorem aJ_392_0 : sx_iB prog_14_method_72_code aI_392_0 = true := by decide +kernel
def aI_392_1 : sx_IL := [(10, .imul, 1), (11, .aload_n 0, 1), (12, .getfield 42, 3), (15, .iload_n 1, 1), (16, .iaload, 1), (17, .invokevirtual 778, 3)]
theorem aJ_392_1 : sx_iB prog_14_method_72_code aI_392_1 = true := by decide +kernel
def aI_392_2 : sx_IL := [(20, .istore_n 3, 1), (21, .aload_n 0, 1), (22, .getfield 42, 3), (25, .iload_n 2, 1), (26, .iload_n 3, 1), (27, .ifCond .eq 12, 3)]
theorem aJ_392_2 : sx_iB prog_14_method_72_code aI_392_2 = true := by decide +kernel
def aI_392_3 : sx_IL := [(30, .aload_n 0, 1), (31, .getfield 42, 3), (34, .iload_n 2, 1), (35, .iaload, 1), (36, .goto 4, 3), (39, .iconst 0, 1)]
theorem aJ_392_3 : sx_iB prog_14_method_72_code aI_392_3 = true := by decide +kernel
def aI_392_4 : sx_IL := [(40, .iastore, 1), (41, .return_, 1)]
theorem aJ_392_4 : sx_iB prog_14_method_72_code aI_392_4 = true := by decide +kernel
def aS_392 (pc : Nat) : sx_IL := (if pc < 20 then (if pc < 10 then aI_392_0 else aI_392_1) else (if pc < 30 then aI_392_2 else (if pc < 40 then aI_392_3 else aI_392_4)))
theorem aT_392 (pc : Nat) : sx_iOk prog_14_method_72_code (aS_392 pc) := (sx_ite (p := fun l => sx_iOk prog_14_method_72_code l) (sx_ite (p := fun l => sx_iOk prog_14_method_72_code l) (sx_iB_s aJ_392_0) (sx_iB_s aJ_392_1)) (sx_ite (p := fun l => sx_iOk prog_14_method_72_code l) (sx_iB_s aJ_392_2) (sx_ite (p := fun l => sx_iOk prog_14_method_72_code l) (sx_iB_s aJ_392_3) (sx_iB_s aJ_392_4))))
def aW_392 : Nat → Option (Instr × Nat) := fun pc => sx_iF (aS_392 pc) pc
theorem aX_392 : ∀ pc i len, aW_392 pc = some (i, len) → decode aM_392.1.2.1 pc = .ok (i, len) := fun pc i len h => sx_iF_s (aT_392 pc) h
def aI_393_0 : sx_IL := [(0, .aload_n 0, 1), (1, .aload_n 0, 1), (2, .getfield 7, 3), (5, .iconst 0, 1), (6, .aload_n 0, 1), (7, .getfield 517, 3)]
theorem aJ_393_0 : sx_iB prog_14_method_78_code aI_393_0 = true := by decide +kernel
def aI_393_1 : sx_IL := [(10, .invokevirtual 744, 3), (13, .istore_n 1, 1), (14, .iload_n 1, 1), (15, .bipush (-4), 2), (17, .if_icmp .ne 25, 3), (20, .aload_n 0, 1)]
theorem aJ_393_1 : sx_iB prog_14_method_78_code aI_393_1 = true := by decide +kernel
def aI_393_2 : sx_IL := [(21, .bipush 13, 2), (23, .aload_n 0, 1), (24, .getfield 7, 3), (27, .iconst 0, 1), (28, .aload_n 0, 1), (29, .getfield 517, 3)]
theorem aJ_393_2 : sx_iB prog_14_method_78_code aI_393_2 = true := by decide +kernel
def aI_393_3 : sx_IL := [(32, .invokevirtual 796, 3), (35, .ifCond .eq 7, 3), (38, .iconst 1, 1), (39, .goto 4, 3), (42, .iconst 0, 1), (43, .istore_n 2, 1)]
theorem aJ_393_3 : sx_iB prog_14_method_78_code aI_393_3 = true := by decide +kernel
def aI_393_4 : sx_IL := [(44, .iload_n 1, 1), (45, .bipush (-4), 2), (47, .if_icmp .eq 10, 3), (50, .bipush (-10), 2), (52, .iload_n 1, 1), (53, .isub, 1)]
theorem aJ_393_4 : sx_iB prog_14_method_78_code aI_393_4 = true := by decide +kernel
def aI_393_5 : sx_IL := [(54, .goto 16, 3), (57, .iload_n 2, 1), (58, .ifCond .ne 8, 3), (61, .bipush (-9), 2), (63, .goto 7, 3), (66, .aload_n 0, 1)]
theorem aJ_393_5 : sx_iB prog_14_method_78_code aI_393_5 = true := by decide +kernel
def aI_393_6 : sx_IL := [(67, .invokevirtual 799, 3), (70, .istore_n 3, 1), (71, .aload_n 0, 1), (72, .iload_n 3, 1), (73, .bipush (-3), 2), (75, .if_icmp .ne 10, 3)]
theorem aJ_393_6 : sx_iB prog_14_method_78_code aI_393_6 = true := by decide +kernel
def aI_393_7 : sx_IL := [(78, .aload_n 0, 1), (79, .getfield 517, 3), (82, .goto 4, 3), (85, .iconst 0, 1), (86, .putfield 517, 3), (89, .iload_n 3, 1)]
theorem aJ_393_7 : sx_iB prog_14_method_78_code aI_393_7 = true := by decide +kernel
def aI_393_8 : sx_IL := [(90, .ireturn, 1)]
theorem aJ_393_8 : sx_iB prog_14_method_78_code aI_393_8 = true := by decide +kernel
def aS_393 (pc : Nat) : sx_IL := (if pc < 44 then (if pc < 21 then (if pc < 10 then aI_393_0 else aI_393_1) else (if pc < 32 then aI_393_2 else aI_393_3)) else (if pc < 67 then (if pc < 54 then aI_393_4 else aI_393_5) else (if pc < 78 then aI_393_6 else (if pc < 90 then aI_393_7 else aI_393_8))))
theorem aT_393 (pc : Nat) : sx_iOk prog_14_method_78_code (aS_393 pc) := (sx_ite (p := fun l => sx_iOk prog_14_method_78_code l) (sx_ite (p := fun l => sx_iOk prog_14_method_78_code l) (sx_ite (p := fun l => sx_iOk prog_14_method_78_code l) (sx_iB_s aJ_393_0) (sx_iB_s aJ_393_1)) (sx_ite (p := fun l => sx_iOk prog_14_method_78_code l) (sx_iB_s aJ_393_2) (sx_iB_s aJ_393_3))) (sx_ite (p := fun l => sx_iOk prog_14_method_78_code l) (sx_ite (p := fun l => sx_iOk prog_14_method_78_code l) (sx_iB_s aJ_393_4) (sx_iB_s aJ_393_5)) (sx_ite (p := fun l => sx_iOk prog_14_method_78_code l) (sx_iB_s aJ_393_6) (sx_ite (p := fun l => sx_iOk prog_14_method_78_code l) (sx_iB_s aJ_393_7) (sx_iB_s aJ_393_8)))))
def aW_393 : Nat → Option (Instr × Nat) := fun pc => sx_iF (aS_393 pc) pc
theorem aX_393 : ∀ pc i len, aW_393 pc = some (i, len) → decode aM_393.1.2.1 pc = .ok (i, len) := fun pc i len h => sx_iF_s (aT_393 pc) h
def aI_394_0 : sx_IL := [(0, .bipush 8, 2), (2, .iload_n 1, 1), (3, .imul, 1), (4, .istore 5, 2), (6, .iload 4, 2), (8, .sipush 400, 3)]
theorem aJ_394_0 : sx_iB prog_14_method_75_code aI_394_0 = true := by decide +kernel
def aI_394_1 : sx_IL := [(11, .if_icmp .le 5, 3), (14, .iconst 0, 1), (15, .ireturn, 1), (16, .aload_n 0, 1), (17, .getfield 69, 3), (20, .iload_n 1, 1)]
theorem aJ_394_1 : sx_iB prog_14_method_75_code aI_394_1 = true := by decide +kernel
def aI_394_2 : sx_IL := [(21, .iload 4, 2), (23, .iastore, 1), (24, .iconst 0, 1), (25, .istore 6, 2), (27, .iload 6, 2), (29, .iload 4, 2)]
theorem aJ_394_2 : sx_iB prog_14_method_75_code aI_394_2 = true := by decide +kernel
def aI_394_3 : sx_IL := [(31, .if_icmp .ge 28, 3), (34, .aload_n 0, 1), (35, .getfield 66, 3), (38, .sipush 400, 3), (41, .iload_n 1, 1), (42, .imul, 1)]
theorem aJ_394_3 : sx_iB prog_14_method_75_code aI_394_3 = true := by decide +kernel
def aI_394_4 : sx_IL := [(43, .iload 6, 2), (45, .iadd, 1), (46, .aload_n 2, 1), (47, .iload_n 3, 1), (48, .iload 6, 2), (50, .iadd, 1)]
theorem aJ_394_4 : sx_iB prog_14_method_75_code aI_394_4 = true := by decide +kernel
def aI_394_5 : sx_IL := [(51, .iaload, 1), (52, .iastore, 1), (53, .iinc 6 1, 3), (56, .goto (-29), 3), (59, .aload_n 0, 1), (60, .aload_n 0, 1)]
theorem aJ_394_5 : sx_iB prog_14_method_75_code aI_394_5 = true := by decide +kernel
def aI_394_6 : sx_IL := [(61, .getfield 66, 3), (64, .putfield 750, 3), (67, .aload_n 0, 1), (68, .sipush 400, 3), (71, .iload_n 1, 1), (72, .imul, 1)]
theorem aJ_394_6 : sx_iB prog_14_method_75_code aI_394_6 = true := by decide +kernel
def aI_394_7 : sx_IL := [(73, .putfield 747, 3), (76, .aload_n 0, 1), (77, .getfield 747, 3), (80, .iload 4, 2), (82, .iadd, 1), (83, .istore 6, 2)]
theorem aJ_394_7 : sx_iB prog_14_method_75_code aI_394_7 = true := by decide +kernel
def aI_394_8 : sx_IL := [(85, .aload_n 0, 1), (86, .bipush 48, 2), (88, .iload 6, 2), (90, .invokevirtual 759, 3), (93, .ifCond .ne 5, 3), (96, .iconst 0, 1)]
theorem aJ_394_8 : sx_iB prog_14_method_75_code aI_394_8 = true := by decide +kernel
def aI_394_9 : sx_IL := [(97, .ireturn, 1), (98, .aload_n 0, 1), (99, .getfield 747, 3), (102, .istore 6, 2), (104, .aload_n 0, 1), (105, .aload_n 0, 1)]
theorem aJ_394_9 : sx_iB prog_14_method_75_code aI_394_9 = true := by decide +kernel
def aI_394_10 : sx_IL := [(106, .getfield 753, 3), (109, .putfield 747, 3), (112, .aload_n 0, 1), (113, .bipush 48, 2), (115, .iload 6, 2), (117, .invokevirtual 759, 3)]
theorem aJ_394_10 : sx_iB prog_14_method_75_code aI_394_10 = true := by decide +kernel
def aI_394_11 : sx_IL := [(120, .ifCond .ne 5, 3), (123, .iconst 0, 1), (124, .ireturn, 1), (125, .aload_n 0, 1), (126, .getfield 753, 3), (129, .istore 7, 2)]
theorem aJ_394_11 : sx_iB prog_14_method_75_code aI_394_11 = true := by decide +kernel
def aI_394_12 : sx_IL := [(131, .aload_n 0, 1), (132, .getfield 747, 3), (135, .istore 8, 2), (137, .aload_n 0, 1), (138, .iconst 4, 1), (139, .iload 6, 2)]
theorem aJ_394_12 : sx_iB prog_14_method_75_code aI_394_12 = true := by decide +kernel
def aI_394_13 : sx_IL := [(141, .invokevirtual 759, 3), (144, .ifCond .eq 21, 3), (147, .aload_n 0, 1), (148, .getfield 756, 3), (151, .bipush 8, 2), (153, .if_icmp .ne 12, 3)]
theorem aJ_394_13 : sx_iB prog_14_method_75_code aI_394_13 = true := by decide +kernel
def aI_394_14 : sx_IL := [(156, .aload_n 0, 1), (157, .getfield 747, 3), (160, .iload 6, 2), (162, .if_icmp .eq 5, 3), (165, .iconst 0, 1), (166, .ireturn, 1)]
theorem aJ_394_14 : sx_iB prog_14_method_75_code aI_394_14 = true := by decide +kernel
def aI_394_15 : sx_IL := [(167, .aload_n 0, 1), (168, .getfield 72, 3), (171, .iload 5, 2), (173, .bipush 6, 2), (175, .iadd, 1), (176, .aload_n 0, 1)]
theorem aJ_394_15 : sx_iB prog_14_method_75_code aI_394_15 = true := by decide +kernel
def aI_394_16 : sx_IL := [(177, .getfield 753, 3), (180, .iastore, 1), (181, .aload_n 0, 1), (182, .iload 7, 2), (184, .putfield 747, 3), (187, .aload_n 0, 1)]
theorem aJ_394_16 : sx_iB prog_14_method_75_code aI_394_16 = true := by decide +kernel
def aI_394_17 : sx_IL := [(188, .bipush 12, 2), (190, .iload 8, 2), (192, .invokevirtual 759, 3), (195, .ifCond .ne 5, 3), (198, .iconst 0, 1), (199, .ireturn, 1)]
theorem aJ_394_17 : sx_iB prog_14_method_75_code aI_394_17 = true := by decide +kernel
def aI_394_18 : sx_IL := [(200, .aload_n 0, 1), (201, .getfield 72, 3), (204, .iload 5, 2), (206, .aload_n 0, 1), (207, .getfield 753, 3), (210, .iastore, 1)]
theorem aJ_394_18 : sx_iB prog_14_method_75_code aI_394_18 = true := by decide +kernel
def aI_394_19 : sx_IL := [(211, .aload_n 0, 1), (212, .getfield 72, 3), (215, .iload 5, 2), (217, .iconst 1, 1), (218, .iadd, 1), (219, .aload_n 0, 1)]
theorem aJ_394_19 : sx_iB prog_14_method_75_code aI_394_19 = true := by decide +kernel
def aI_394_20 : sx_IL := [(220, .getfield 756, 3), (223, .iastore, 1), (224, .iconst 2, 1), (225, .istore 9, 2), (227, .iload 9, 2), (229, .iconst 5, 1)]
theorem aJ_394_20 : sx_iB prog_14_method_75_code aI_394_20 = true := by decide +kernel
def aI_394_21 : sx_IL := [(230, .if_icmp .gt 35, 3), (233, .aload_n 0, 1), (234, .iconst 2, 1), (235, .iload 8, 2), (237, .invokevirtual 759, 3), (240, .ifCond .ne 5, 3)]
theorem aJ_394_21 : sx_iB prog_14_method_75_code aI_394_21 = true := by decide +kernel
def aI_394_22 : sx_IL := [(243, .iconst 0, 1), (244, .ireturn, 1), (245, .aload_n 0, 1), (246, .getfield 72, 3), (249, .iload 5, 2), (251, .iload 9, 2)]
theorem aJ_394_22 : sx_iB prog_14_method_75_code aI_394_22 = true := by decide +kernel
def aI_394_23 : sx_IL := [(253, .iadd, 1), (254, .aload_n 0, 1), (255, .invokevirtual 766, 3), (258, .iastore, 1), (259, .iinc 9 1, 3), (262, .goto (-35), 3)]
theorem aJ_394_23 : sx_iB prog_14_method_75_code aI_394_23 = true := by decide +kernel
def aI_394_24 : sx_IL := [(265, .aload_n 0, 1), (266, .getfield 72, 3), (269, .iload 5, 2), (271, .iconst 4, 1), (272, .iadd, 1), (273, .iaload, 1)]
theorem aJ_394_24 : sx_iB prog_14_method_75_code aI_394_24 = true := by decide +kernel
def aI_394_25 : sx_IL := [(274, .aload_n 0, 1), (275, .getfield 72, 3), (278, .iload 5, 2), (280, .iconst 3, 1), (281, .iadd, 1), (282, .iaload, 1)]
theorem aJ_394_25 : sx_iB prog_14_method_75_code aI_394_25 = true := by decide +kernel
def aI_394_26 : sx_IL := [(283, .if_icmp .lt 42, 3), (286, .aload_n 0, 1), (287, .getfield 72, 3), (290, .iload 5, 2), (292, .iconst 5, 1), (293, .iadd, 1)]
theorem aJ_394_26 : sx_iB prog_14_method_75_code aI_394_26 = true := by decide +kernel
def aI_394_27 : sx_IL := [(294, .iaload, 1), (295, .i2l, 1), (296, .lconst 1, 1), (297, .ldc2_w 631, 3), (300, .invokestatic 513, 3), (303, .ifCond .eq 22, 3)]
theorem aJ_394_27 : sx_iB prog_14_method_75_code aI_394_27 = true := by decide +kernel
def aI_394_28 : sx_IL := [(306, .aload_n 0, 1), (307, .iconst 4, 1), (308, .iload 8, 2), (310, .invokevirtual 759, 3), (313, .ifCond .eq 12, 3), (316, .aload_n 0, 1)]
theorem aJ_394_28 : sx_iB prog_14_method_75_code aI_394_28 = true := by decide +kernel
def aI_394_29 : sx_IL := [(317, .getfield 747, 3), (320, .iload 8, 2), (322, .if_icmp .eq 5, 3), (325, .iconst 0, 1), (326, .ireturn, 1), (327, .aload_n 0, 1)]
theorem aJ_394_29 : sx_iB prog_14_method_75_code aI_394_29 = true := by decide +kernel
def aI_394_30 : sx_IL := [(328, .getfield 72, 3), (331, .iload 5, 2), (333, .bipush 7, 2), (335, .iadd, 1), (336, .aload_n 0, 1), (337, .getfield 753, 3)]
theorem aJ_394_30 : sx_iB prog_14_method_75_code aI_394_30 = true := by decide +kernel
def aI_394_31 : sx_IL := [(340, .iastore, 1), (341, .aload_n 0, 1), (342, .getfield 756, 3), (345, .iconst 4, 1), (346, .irem, 1), (347, .ifCond .ne 17, 3)]
theorem aJ_394_31 : sx_iB prog_14_method_75_code aI_394_31 = true := by decide +kernel
def aI_394_32 : sx_IL := [(350, .aload_n 0, 1), (351, .getfield 756, 3), (354, .sipush 160, 3), (357, .if_icmp .gt 7, 3), (360, .iconst 1, 1), (361, .goto 4, 3)]
theorem aJ_394_32 : sx_iB prog_14_method_75_code aI_394_32 = true := by decide +kernel
def aI_394_33 : sx_IL := [(364, .iconst 0, 1), (365, .istore 9, 2), (367, .iconst 0, 1), (368, .istore 10, 2), (370, .iconst 0, 1), (371, .istore 11, 2)]
theorem aJ_394_33 : sx_iB prog_14_method_75_code aI_394_33 = true := by decide +kernel
def aI_394_34 : sx_IL := [(373, .iload 9, 2), (375, .ifCond .eq 52, 3), (378, .iload 11, 2), (380, .aload_n 0, 1), (381, .getfield 756, 3), (384, .if_icmp .ge 43, 3)]
theorem aJ_394_34 : sx_iB prog_14_method_75_code aI_394_34 = true := by decide +kernel
def aI_394_35 : sx_IL := [(387, .aload_n 0, 1), (388, .getfield 750, 3), (391, .aload_n 0, 1), (392, .getfield 753, 3), (395, .iload 11, 2), (397, .iadd, 1)]
theorem aJ_394_35 : sx_iB prog_14_method_75_code aI_394_35 = true := by decide +kernel
def aI_394_36 : sx_IL := [(398, .invokestatic 792, 3), (401, .istore 12, 2), (403, .iload 12, 2), (405, .iload 10, 2), (407, .if_icmp .le 7, 3), (410, .iconst 1, 1)]
theorem aJ_394_36 : sx_iB prog_14_method_75_code aI_394_36 = true := by decide +kernel
def aI_394_37 : sx_IL := [(411, .goto 4, 3), (414, .iconst 0, 1), (415, .istore 9, 2), (417, .iload 12, 2), (419, .istore 10, 2), (421, .iinc 11 4, 3)]
theorem aJ_394_37 : sx_iB prog_14_method_75_code aI_394_37 = true := by decide +kernel
def aI_394_38 : sx_IL := [(424, .goto (-51), 3), (427, .iload 9, 2), (429, .ireturn, 1)]
theorem aJ_394_38 : sx_iB prog_14_method_75_code aI_394_38 = true := by decide +kernel
def aS_394 (pc : Nat) : sx_IL := (if pc < 211 then (if pc < 97 then (if pc < 43 then (if pc < 21 then (if pc < 11 then aI_394_0 else aI_394_1) else (if pc < 31 then aI_394_2 else aI_394_3)) else (if pc < 61 then (if pc < 51 then aI_394_4 else aI_394_5) else (if pc < 73 then aI_394_6 else (if pc < 85 then aI_394_7 else aI_394_8)))) else (if pc < 156 then (if pc < 120 then (if pc < 106 then aI_394_9 else aI_394_10) else (if pc < 131 then aI_394_11 else (if pc < 141 then aI_394_12 else aI_394_13))) else (if pc < 177 then (if pc < 167 then aI_394_14 else aI_394_15) else (if pc < 188 then aI_394_16 else (if pc < 200 then aI_394_17 else aI_394_18))))) else (if pc < 317 then (if pc < 265 then (if pc < 230 then (if pc < 220 then aI_394_19 else aI_394_20) else (if pc < 243 then aI_394_21 else (if pc < 253 then aI_394_22 else aI_394_23))) else (if pc < 283 then (if pc < 274 then aI_394_24 else aI_394_25) else (if pc < 294 then aI_394_26 else (if pc < 306 then aI_394_27 else aI_394_28)))) else (if pc < 373 then (if pc < 340 then (if pc < 328 then aI_394_29 else aI_394_30) else (if pc < 350 then aI_394_31 else (if pc < 364 then aI_394_32 else aI_394_33))) else (if pc < 398 then (if pc < 387 then aI_394_34 else aI_394_35) else (if pc < 411 then aI_394_36 else (if pc < 424 then aI_394_37 else aI_394_38))))))
theorem aT_394 (pc : Nat) : sx_iOk prog_14_method_75_code (aS_394 pc) := (sx_ite (p := fun l => sx_iOk prog_14_method_75_code l) (sx_ite (p := fun l => sx_iOk prog_14_method_75_code l) (sx_ite (p := fun l => sx_iOk prog_14_method_75_code l) (sx_ite (p := fun l => sx_iOk prog_14_method_75_code l) (sx_ite (p := fun l => sx_iOk prog_14_method_75_code l) (sx_iB_s aJ_394_0) (sx_iB_s aJ_394_1)) (sx_ite (p := fun l => sx_iOk prog_14_method_75_code l) (sx_iB_s aJ_394_2) (sx_iB_s aJ_394_3))) (sx_ite (p := fun l => sx_iOk prog_14_method_75_code l) (sx_ite (p := fun l => sx_iOk prog_14_method_75_code l) (sx_iB_s aJ_394_4) (sx_iB_s aJ_394_5)) (sx_ite (p := fun l => sx_iOk prog_14_method_75_code l) (sx_iB_s aJ_394_6) (sx_ite (p := fun l => sx_iOk prog_14_method_75_code l) (sx_iB_s aJ_394_7) (sx_iB_s aJ_394_8))))) (sx_ite (p := fun l => sx_iOk prog_14_method_75_code l) (sx_ite (p := fun l => sx_iOk prog_14_method_75_code l) (sx_ite (p := fun l => sx_iOk prog_14_method_75_code l) (sx_iB_s aJ_394_9) (sx_iB_s aJ_394_10)) (sx_ite (p := fun l => sx_iOk prog_14_method_75_code l) (sx_iB_s aJ_394_11) (sx_ite (p := fun l => sx_iOk prog_14_method_75_code l) (sx_iB_s aJ_394_12) (sx_iB_s aJ_394_13)))) (sx_ite (p := fun l => sx_iOk prog_14_method_75_code l) (sx_ite (p := fun l => sx_iOk prog_14_method_75_code l) (sx_iB_s aJ_394_14) (sx_iB_s aJ_394_15)) (sx_ite (p := fun l => sx_iOk prog_14_method_75_code l) (sx_iB_s aJ_394_16) (sx_ite (p := fun l => sx_iOk prog_14_method_75_code l) (sx_iB_s aJ_394_17) (sx_iB_s aJ_394_18)))))) (sx_ite (p := fun l => sx_iOk prog_14_method_75_code l) (sx_ite (p := fun l => sx_iOk prog_14_method_75_code l) (sx_ite (p := fun l => sx_iOk prog_14_method_75_code l) (sx_ite (p := fun l => sx_iOk prog_14_method_75_code l) (sx_iB_s aJ_394_19) (sx_iB_s aJ_394_20)) (sx_ite (p := fun l => sx_iOk prog_14_method_75_code l) (sx_iB_s aJ_394_21) (sx_ite (p := fun l => sx_iOk prog_14_method_75_code l) (sx_iB_s aJ_394_22) (sx_iB_s aJ_394_23)))) (sx_ite (p := fun l => sx_iOk prog_14_method_75_code l) (sx_ite (p := fun l => sx_iOk prog_14_method_75_code l) (sx_iB_s aJ_394_24) (sx_iB_s aJ_394_25)) (sx_ite (p := fun l => sx_iOk prog_14_method_75_code l) (sx_iB_s aJ_394_26) (sx_ite (p := fun l => sx_iOk prog_14_method_75_code l) (sx_iB_s aJ_394_27) (sx_iB_s aJ_394_28))))) (sx_ite (p := fun l => sx_iOk prog_14_method_75_code l) (sx_ite (p := fun l => sx_iOk prog_14_method_75_code l) (sx_ite (p := fun l => sx_iOk prog_14_method_75_code l) (sx_iB_s aJ_394_29) (sx_iB_s aJ_394_30)) (sx_ite (p := fun l => sx_iOk prog_14_method_75_code l) (sx_iB_s aJ_394_31) (sx_ite (p := fun l => sx_iOk prog_14_method_75_code l) (sx_iB_s aJ_394_32) (sx_iB_s aJ_394_33)))) (sx_ite (p := fun l => sx_iOk prog_14_method_75_code l) (sx_ite (p := fun l => sx_iOk prog_14_method_75_code l) (sx_iB_s aJ_394_34) (sx_iB_s aJ_394_35)) (sx_ite (p := fun l => sx_iOk prog_14_method_75_code l) (sx_iB_s aJ_394_36) (sx_ite (p := fun l => sx_iOk prog_14_method_75_code l) (sx_iB_s aJ_394_37) (sx_iB_s aJ_394_38)))))))
def aW_394 : Nat → Option (Instr × Nat) := fun pc => sx_iF (aS_394 pc) pc
theorem aX_394 : ∀ pc i len, aW_394 pc = some (i, len) → decode aM_394.1.2.1 pc = .ok (i, len) := fun pc i len h => sx_iF_s (aT_394 pc) h
def aI_396_0 : sx_IL := [(0, .aload_n 0, 1), (1, .getfield 802, 3), (4, .bipush 12, 2), (6, .if_icmp .ne 6, 3), (9, .bipush (-3), 2), (11, .ireturn, 1)]
theorem aJ_396_0 : sx_iB prog_14_method_79_code aI_396_0 = true := by decide +kernel
def aI_396_1 : sx_IL := [(12, .aload_n 0, 1), (13, .aload_n 0, 1), (14, .getfield 802, 3), (17, .aload_n 0, 1), (18, .getfield 66, 3), (21, .sipush 5200, 3)]
theorem aJ_396_1 : sx_iB prog_14_method_79_code aI_396_1 = true := by decide +kernel
def aI_396_2 : sx_IL := [(24, .aload_n 0, 1), (25, .getfield 69, 3), (28, .bipush 13, 2), (30, .iaload, 1), (31, .invokevirtual 796, 3), (34, .istore_n 1, 1)]
theorem aJ_396_2 : sx_iB prog_14_method_79_code aI_396_2 = true := by decide +kernel
def aI_396_3 : sx_IL := [(35, .aload_n 0, 1), (36, .dup, 1), (37, .getfield 802, 3), (40, .iload_n 1, 1), (41, .ifCond .eq 7, 3), (44, .iconst 1, 1)]
theorem aJ_396_3 : sx_iB prog_14_method_79_code aI_396_3 = true := by decide +kernel
def aI_396_4 : sx_IL := [(45, .goto 4, 3), (48, .iconst 0, 1), (49, .iadd, 1), (50, .putfield 802, 3), (53, .aload_n 0, 1), (54, .getfield 802, 3)]
theorem aJ_396_4 : sx_iB prog_14_method_79_code aI_396_4 = true := by decide +kernel
def aI_396_5 : sx_IL := [(57, .iconst 1, 1), (58, .isub, 1), (59, .ireturn, 1)]
theorem aJ_396_5 : sx_iB prog_14_method_79_code aI_396_5 = true := by decide +kernel
def aS_396 (pc : Nat) : sx_IL := (if pc < 35 then (if pc < 12 then aI_396_0 else (if pc < 24 then aI_396_1 else aI_396_2)) else (if pc < 45 then aI_396_3 else (if pc < 57 then aI_396_4 else aI_396_5)))
theorem aT_396 (pc : Nat) : sx_iOk prog_14_method_79_code (aS_396 pc) := (sx_ite (p := fun l => sx_iOk prog_14_method_79_code l) (sx_ite (p := fun l => sx_iOk prog_14_method_79_code l) (sx_iB_s aJ_396_0) (sx_ite (p := fun l => sx_iOk prog_14_method_79_code l) (sx_iB_s aJ_396_1) (sx_iB_s aJ_396_2))) (sx_ite (p := fun l => sx_iOk prog_14_method_79_code l) (sx_iB_s aJ_396_3) (sx_ite (p := fun l => sx_iOk prog_14_method_79_code l) (sx_iB_s aJ_396_4) (sx_iB_s aJ_396_5))))
def aW_396 : Nat → Option (Instr × Nat) := fun pc => sx_iF (aS_396 pc) pc
theorem aX_396 : ∀ pc i len, aW_396 pc = some (i, len) → decode aM_396.1.2.1 pc = .ok (i, len) := fun pc i len h => sx_iF_s (aT_396 pc) h
def aI_397_0 : sx_IL := [(0, .aload_n 0, 1), (1, .aload_n 0, 1), (2, .getfield 7, 3), (5, .iconst 0, 1), (6, .aload_n 0, 1), (7, .getfield 517, 3)]
theorem aJ_397_0 : sx_iB prog_14_method_80_code aI_397_0 = true := by decide +kernel
def aI_397_1 : sx_IL := [(10, .invokevirtual 744, 3), (13, .istore_n 1, 1), (14, .iload_n 1, 1), (15, .bipush (-4), 2), (17, .if_icmp .ne 25, 3), (20, .aload_n 0, 1)]
theorem aJ_397_1 : sx_iB prog_14_method_80_code aI_397_1 = true := by decide +kernel
def aI_397_2 : sx_IL := [(21, .bipush 13, 2), (23, .aload_n 0, 1), (24, .getfield 7, 3), (27, .iconst 0, 1), (28, .aload_n 0, 1), (29, .getfield 517, 3)]
theorem aJ_397_2 : sx_iB prog_14_method_80_code aI_397_2 = true := by decide +kernel
def aI_397_3 : sx_IL := [(32, .invokevirtual 805, 3), (35, .ifCond .eq 7, 3), (38, .iconst 1, 1), (39, .goto 4, 3), (42, .iconst 0, 1), (43, .istore_n 2, 1)]
theorem aJ_397_3 : sx_iB prog_14_method_80_code aI_397_3 = true := by decide +kernel
def aI_397_4 : sx_IL := [(44, .iload_n 1, 1), (45, .bipush (-4), 2), (47, .if_icmp .eq 10, 3), (50, .bipush (-10), 2), (52, .iload_n 1, 1), (53, .isub, 1)]
theorem aJ_397_4 : sx_iB prog_14_method_80_code aI_397_4 = true := by decide +kernel
def aI_397_5 : sx_IL := [(54, .goto 16, 3), (57, .iload_n 2, 1), (58, .ifCond .ne 8, 3), (61, .bipush (-9), 2), (63, .goto 7, 3), (66, .aload_n 0, 1)]
theorem aJ_397_5 : sx_iB prog_14_method_80_code aI_397_5 = true := by decide +kernel
def aI_397_6 : sx_IL := [(67, .invokevirtual 808, 3), (70, .istore_n 3, 1), (71, .aload_n 0, 1), (72, .iload_n 3, 1), (73, .bipush (-3), 2), (75, .if_icmp .ne 10, 3)]
theorem aJ_397_6 : sx_iB prog_14_method_80_code aI_397_6 = true := by decide +kernel
def aI_397_7 : sx_IL := [(78, .aload_n 0, 1), (79, .getfield 517, 3), (82, .goto 4, 3), (85, .iconst 0, 1), (86, .putfield 517, 3), (89, .iload_n 3, 1)]
theorem aJ_397_7 : sx_iB prog_14_method_80_code aI_397_7 = true := by decide +kernel
def aI_397_8 : sx_IL := [(90, .ireturn, 1)]
theorem aJ_397_8 : sx_iB prog_14_method_80_code aI_397_8 = true := by decide +kernel
def aS_397 (pc : Nat) : sx_IL := (if pc < 44 then (if pc < 21 then (if pc < 10 then aI_397_0 else aI_397_1) else (if pc < 32 then aI_397_2 else aI_397_3)) else (if pc < 67 then (if pc < 54 then aI_397_4 else aI_397_5) else (if pc < 78 then aI_397_6 else (if pc < 90 then aI_397_7 else aI_397_8))))
theorem aT_397 (pc : Nat) : sx_iOk prog_14_method_80_code (aS_397 pc) := (sx_ite (p := fun l => sx_iOk prog_14_method_80_code l) (sx_ite (p := fun l => sx_iOk prog_14_method_80_code l) (sx_ite (p := fun l => sx_iOk prog_14_method_80_code l) (sx_iB_s aJ_397_0) (sx_iB_s aJ_397_1)) (sx_ite (p := fun l => sx_iOk prog_14_method_80_code l) (sx_iB_s aJ_397_2) (sx_iB_s aJ_397_3))) (sx_ite (p := fun l => sx_iOk prog_14_method_80_code l) (sx_ite (p := fun l => sx_iOk prog_14_method_80_code l) (sx_iB_s aJ_397_4) (sx_iB_s aJ_397_5)) (sx_ite (p := fun l => sx_iOk prog_14_method_80_code l) (sx_iB_s aJ_397_6) (sx_ite (p := fun l => sx_iOk prog_14_method_80_code l) (sx_iB_s aJ_397_7) (sx_iB_s aJ_397_8)))))
def aW_397 : Nat → Option (Instr × Nat) := fun pc => sx_iF (aS_397 pc) pc
theorem aX_397 : ∀ pc i len, aW_397 pc = some (i, len) → decode aM_397.1.2.1 pc = .ok (i, len) := fun pc i len h => sx_iF_s (aT_397 pc) h
def aI_399_0 : sx_IL := [(0, .aload_n 0, 1), (1, .getfield 811, 3), (4, .bipush 12, 2), (6, .if_icmp .ne 6, 3), (9, .bipush (-3), 2), (11, .ireturn, 1)]
theorem aJ_399_0 : sx_iB prog_14_method_81_code aI_399_0 = true := by decide +kernel
def aI_399_1 : sx_IL := [(12, .aload_n 0, 1), (13, .aload_n 0, 1), (14, .getfield 811, 3), (17, .aload_n 0, 1), (18, .getfield 75, 3), (21, .sipush 5200, 3)]
theorem aJ_399_1 : sx_iB prog_14_method_81_code aI_399_1 = true := by decide +kernel
def aI_399_2 : sx_IL := [(24, .aload_n 0, 1), (25, .getfield 78, 3), (28, .bipush 13, 2), (30, .iaload, 1), (31, .invokevirtual 805, 3), (34, .istore_n 1, 1)]
theorem aJ_399_2 : sx_iB prog_14_method_81_code aI_399_2 = true := by decide +kernel
def aI_399_3 : sx_IL := [(35, .aload_n 0, 1), (36, .dup, 1), (37, .getfield 811, 3), (40, .iload_n 1, 1), (41, .ifCond .eq 7, 3), (44, .iconst 1, 1)]
theorem aJ_399_3 : sx_iB prog_14_method_81_code aI_399_3 = true := by decide +kernel
def aI_399_4 : sx_IL := [(45, .goto 4, 3), (48, .iconst 0, 1), (49, .iadd, 1), (50, .putfield 811, 3), (53, .aload_n 0, 1), (54, .getfield 811, 3)]
theorem aJ_399_4 : sx_iB prog_14_method_81_code aI_399_4 = true := by decide +kernel
def aI_399_5 : sx_IL := [(57, .iconst 1, 1), (58, .isub, 1), (59, .ireturn, 1)]
theorem aJ_399_5 : sx_iB prog_14_method_81_code aI_399_5 = true := by decide +kernel
def aS_399 (pc : Nat) : sx_IL := (if pc < 35 then (if pc < 12 then aI_399_0 else (if pc < 24 then aI_399_1 else aI_399_2)) else (if pc < 45 then aI_399_3 else (if pc < 57 then aI_399_4 else aI_399_5)))
theorem aT_399 (pc : Nat) : sx_iOk prog_14_method_81_code (aS_399 pc) := (sx_ite (p := fun l => sx_iOk prog_14_method_81_code l) (sx_ite (p := fun l => sx_iOk prog_14_method_81_code l) (sx_iB_s aJ_399_0) (sx_ite (p := fun l => sx_iOk prog_14_method_81_code l) (sx_iB_s aJ_399_1) (sx_iB_s aJ_399_2))) (sx_ite (p := fun l => sx_iOk prog_14_method_81_code l) (sx_iB_s aJ_399_3) (sx_ite (p := fun l => sx_iOk prog_14_method_81_code l) (sx_iB_s aJ_399_4) (sx_iB_s aJ_399_5))))
def aW_399 : Nat → Option (Instr × Nat) := fun pc => sx_iF (aS_399 pc) pc
theorem aX_399 : ∀ pc i len, aW_399 pc = some (i, len) → decode aM_399.1.2.1 pc = .ok (i, len) := fun pc i len h => sx_iF_s (aT_399 pc) h
def aI_446_0 : sx_IL := [(0, .aload_n 0, 1), (1, .iload_n 1, 1), (2, .invokevirtual 930, 3), (5, .ifCond .eq 21, 3), (8, .iload_n 2, 1), (9, .i2l, 1)]
theorem aJ_446_0 : sx_iB prog_14_method_134_code aI_446_0 = true := by decide +kernel
def aI_446_1 : sx_IL := [(10, .lconst 0, 1), (11, .aload_n 0, 1), (12, .getfield 207, 3), (15, .iload_n 1, 1), (16, .iaload, 1), (17, .iconst 1, 1)]
theorem aJ_446_1 : sx_iB prog_14_method_134_code aI_446_1 = true := by decide +kernel
def aI_446_2 : sx_IL := [(18, .isub, 1), (19, .i2l, 1), (20, .invokestatic 513, 3), (23, .ifCond .ne 5, 3), (26, .iconst (-1), 1), (27, .ireturn, 1)]
theorem aJ_446_2 : sx_iB prog_14_method_134_code aI_446_2 = true := by decide +kernel
def aI_446_3 : sx_IL := [(28, .bipush 12, 2), (30, .iload_n 1, 1), (31, .imul, 1), (32, .aload_n 0, 1), (33, .getfield 213, 3), (36, .iload_n 1, 1)]
theorem aJ_446_3 : sx_iB prog_14_method_134_code aI_446_3 = true := by decide +kernel
def aI_446_4 : sx_IL := [(37, .iaload, 1), (38, .iadd, 1), (39, .istore_n 3, 1), (40, .iconst 0, 1), (41, .istore 4, 2), (43, .iconst 0, 1)]
theorem aJ_446_4 : sx_iB prog_14_method_134_code aI_446_4 = true := by decide +kernel
def aI_446_5 : sx_IL := [(44, .istore 5, 2), (46, .iconst 1, 1), (47, .istore 6, 2), (49, .iconst 0, 1), (50, .istore 7, 2), (52, .iload 7, 2)]
theorem aJ_446_5 : sx_iB prog_14_method_134_code aI_446_5 = true := by decide +kernel
def aI_446_6 : sx_IL := [(54, .aload_n 0, 1), (55, .getfield 517, 3), (58, .if_icmp .gt 163, 3), (61, .iload 6, 2), (63, .ifCond .eq 158, 3), (66, .iload 7, 2)]
theorem aJ_446_6 : sx_iB prog_14_method_134_code aI_446_6 = true := by decide +kernel
def aI_446_7 : sx_IL := [(68, .aload_n 0, 1), (69, .getfield 517, 3), (72, .if_icmp .eq 15, 3), (75, .aload_n 0, 1), (76, .getfield 7, 3), (79, .iload 7, 2)]
theorem aJ_446_7 : sx_iB prog_14_method_134_code aI_446_7 = true := by decide +kernel
def aI_446_8 : sx_IL := [(81, .iaload, 1), (82, .bipush 44, 2), (84, .if_icmp .ne 131, 3), (87, .iload 4, 2), (89, .iconst 3, 1), (90, .if_icmp .ge 24, 3)]
theorem aJ_446_8 : sx_iB prog_14_method_134_code aI_446_8 = true := by decide +kernel
def aI_446_9 : sx_IL := [(93, .aload_n 0, 1), (94, .getfield 7, 3), (97, .iload 5, 2), (99, .iload 7, 2), (101, .iload 5, 2), (103, .isub, 1)]
theorem aJ_446_9 : sx_iB prog_14_method_134_code aI_446_9 = true := by decide +kernel
def aI_446_10 : sx_IL := [(104, .invokestatic 774, 3), (107, .ifCond .eq 7, 3), (110, .iconst 1, 1), (111, .goto 4, 3), (114, .iconst 0, 1), (115, .istore 6, 2)]
theorem aJ_446_10 : sx_iB prog_14_method_134_code aI_446_10 = true := by decide +kernel
def aI_446_11 : sx_IL := [(117, .iconst 0, 1), (118, .istore 8, 2), (120, .iload 8, 2), (122, .iload 4, 2), (124, .if_icmp .ge 56, 3), (127, .iload 6, 2)]
theorem aJ_446_11 : sx_iB prog_14_method_134_code aI_446_11 = true := by decide +kernel
def aI_446_12 : sx_IL := [(129, .ifCond .eq 51, 3), (132, .aload_n 0, 1), (133, .getfield 7, 3), (136, .iload 5, 2), (138, .iload 7, 2), (140, .iload 5, 2)]
theorem aJ_446_12 : sx_iB prog_14_method_134_code aI_446_12 = true := by decide +kernel
def aI_446_13 : sx_IL := [(142, .isub, 1), (143, .aload_n 0, 1), (144, .getfield 7, 3), (147, .aload_n 0, 1), (148, .getfield 255, 3), (151, .iload 8, 2)]
theorem aJ_446_13 : sx_iB prog_14_method_134_code aI_446_13 = true := by decide +kernel
def aI_446_14 : sx_IL := [(153, .iaload, 1), (154, .aload_n 0, 1), (155, .getfield 258, 3), (158, .iload 8, 2), (160, .iaload, 1), (161, .invokestatic 847, 3)]
theorem aJ_446_14 : sx_iB prog_14_method_134_code aI_446_14 = true := by decide +kernel
def aI_446_15 : sx_IL := [(164, .ifCond .ne 7, 3), (167, .iconst 1, 1), (168, .goto 4, 3), (171, .iconst 0, 1), (172, .istore 6, 2), (174, .iinc 8 1, 3)]
theorem aJ_446_15 : sx_iB prog_14_method_134_code aI_446_15 = true := by decide +kernel
def aI_446_16 : sx_IL := [(177, .goto (-57), 3), (180, .iload 6, 2), (182, .ifCond .eq 27, 3), (185, .aload_n 0, 1), (186, .getfield 255, 3), (189, .iload 4, 2)]
theorem aJ_446_16 : sx_iB prog_14_method_134_code aI_446_16 = true := by decide +kernel
def aI_446_17 : sx_IL := [(191, .iload 5, 2), (193, .iastore, 1), (194, .aload_n 0, 1), (195, .getfield 258, 3), (198, .iload 4, 2), (200, .iload 7, 2)]
theorem aJ_446_17 : sx_iB prog_14_method_134_code aI_446_17 = true := by decide +kernel
def aI_446_18 : sx_IL := [(202, .iload 5, 2), (204, .isub, 1), (205, .iastore, 1), (206, .iinc 4 1, 3), (209, .iload 7, 2), (211, .iconst 1, 1)]
theorem aJ_446_18 : sx_iB prog_14_method_134_code aI_446_18 = true := by decide +kernel
def aI_446_19 : sx_IL := [(212, .iadd, 1), (213, .istore 5, 2), (215, .iinc 7 1, 3), (218, .goto (-166), 3), (221, .iload 6, 2), (223, .ifCond .ne 6, 3)]
theorem aJ_446_19 : sx_iB prog_14_method_134_code aI_446_19 = true := by decide +kernel
def aI_446_20 : sx_IL := [(226, .bipush (-2), 2), (228, .ireturn, 1), (229, .aload_n 0, 1), (230, .getfield 213, 3), (233, .iload_n 1, 1), (234, .iaload, 1)]
theorem aJ_446_20 : sx_iB prog_14_method_134_code aI_446_20 = true := by decide +kernel
def aI_446_21 : sx_IL := [(235, .bipush 12, 2), (237, .if_icmp .ne 6, 3), (240, .bipush (-3), 2), (242, .ireturn, 1), (243, .iconst 0, 1), (244, .istore 7, 2)]
theorem aJ_446_21 : sx_iB prog_14_method_134_code aI_446_21 = true := by decide +kernel
def aI_446_22 : sx_IL := [(246, .iload 7, 2), (248, .iload 4, 2), (250, .if_icmp .ge 111, 3), (253, .iconst 3, 1), (254, .iload_n 3, 1), (255, .imul, 1)]
theorem aJ_446_22 : sx_iB prog_14_method_134_code aI_446_22 = true := by decide +kernel
def aI_446_23 : sx_IL := [(256, .iload 7, 2), (258, .iadd, 1), (259, .istore 8, 2), (261, .aload_n 0, 1), (262, .getfield 231, 3), (265, .iload 8, 2)]
theorem aJ_446_23 : sx_iB prog_14_method_134_code aI_446_23 = true := by decide +kernel
def aI_446_24 : sx_IL := [(267, .aload_n 0, 1), (268, .getfield 258, 3), (271, .iload 7, 2), (273, .iaload, 1), (274, .iastore, 1), (275, .iconst 0, 1)]
theorem aJ_446_24 : sx_iB prog_14_method_134_code aI_446_24 = true := by decide +kernel
def aI_446_25 : sx_IL := [(276, .istore 9, 2), (278, .iload 9, 2), (280, .aload_n 0, 1), (281, .getfield 258, 3), (284, .iload 7, 2), (286, .iaload, 1)]
theorem aJ_446_25 : sx_iB prog_14_method_134_code aI_446_25 = true := by decide +kernel
def aI_446_26 : sx_IL := [(287, .if_icmp .ge 37, 3), (290, .aload_n 0, 1), (291, .getfield 228, 3), (294, .bipush 42, 2), (296, .iload 8, 2), (298, .imul, 1)]
theorem aJ_446_26 : sx_iB prog_14_method_134_code aI_446_26 = true := by decide +kernel
def aI_446_27 : sx_IL := [(299, .iload 9, 2), (301, .iadd, 1), (302, .aload_n 0, 1), (303, .getfield 7, 3), (306, .aload_n 0, 1), (307, .getfield 255, 3)]
theorem aJ_446_27 : sx_iB prog_14_method_134_code aI_446_27 = true := by decide +kernel
def aI_446_28 : sx_IL := [(310, .iload 7, 2), (312, .iaload, 1), (313, .iload 9, 2), (315, .iadd, 1), (316, .iaload, 1), (317, .iastore, 1)]
theorem aJ_446_28 : sx_iB prog_14_method_134_code aI_446_28 = true := by decide +kernel
def aI_446_29 : sx_IL := [(318, .iinc 9 1, 3), (321, .goto (-43), 3), (324, .aload_n 0, 1), (325, .getfield 234, 3), (328, .iload 8, 2), (330, .aload_n 0, 1)]
theorem aJ_446_29 : sx_iB prog_14_method_134_code aI_446_29 = true := by decide +kernel
def aI_446_30 : sx_IL := [(331, .getfield 204, 3), (334, .iload_n 1, 1), (335, .iaload, 1), (336, .iastore, 1), (337, .aload_n 0, 1), (338, .getfield 204, 3)]
theorem aJ_446_30 : sx_iB prog_14_method_134_code aI_446_30 = true := by decide +kernel
def aI_446_31 : sx_IL := [(341, .iload_n 1, 1), (342, .dup2, 1), (343, .iaload, 1), (344, .iconst 1, 1), (345, .iadd, 1), (346, .iastore, 1)]
theorem aJ_446_31 : sx_iB prog_14_method_134_code aI_446_31 = true := by decide +kernel
def aI_446_32 : sx_IL := [(347, .aload_n 0, 1), (348, .getfield 237, 3), (351, .iload 8, 2), (353, .iconst 0, 1), (354, .iastore, 1), (355, .iinc 7 1, 3)]
theorem aJ_446_32 : sx_iB prog_14_method_134_code aI_446_32 = true := by decide +kernel
def aI_446_33 : sx_IL := [(358, .goto (-112), 3), (361, .aload_n 0, 1), (362, .iconst 0, 1), (363, .putfield 517, 3), (366, .aload_n 0, 1), (367, .getfield 225, 3)]
theorem aJ_446_33 : sx_iB prog_14_method_134_code aI_446_33 = true := by decide +kernel
def aI_446_34 : sx_IL := [(370, .iload_n 3, 1), (371, .iload 4, 2), (373, .iastore, 1), (374, .aload_n 0, 1), (375, .getfield 216, 3), (378, .iload_n 3, 1)]
theorem aJ_446_34 : sx_iB prog_14_method_134_code aI_446_34 = true := by decide +kernel
def aI_446_35 : sx_IL := [(379, .iload_n 2, 1), (380, .iastore, 1), (381, .aload_n 0, 1), (382, .getfield 219, 3), (385, .iload_n 3, 1), (386, .iconst 0, 1)]
theorem aJ_446_35 : sx_iB prog_14_method_134_code aI_446_35 = true := by decide +kernel
def aI_446_36 : sx_IL := [(387, .iastore, 1), (388, .aload_n 0, 1), (389, .getfield 222, 3), (392, .iload_n 3, 1), (393, .bipush (-4), 2), (395, .iastore, 1)]
theorem aJ_446_36 : sx_iB prog_14_method_134_code aI_446_36 = true := by decide +kernel
def aI_446_37 : sx_IL := [(396, .aload_n 0, 1), (397, .getfield 213, 3), (400, .iload_n 1, 1), (401, .dup2, 1), (402, .iaload, 1), (403, .iconst 1, 1)]
theorem aJ_446_37 : sx_iB prog_14_method_134_code aI_446_37 = true := by decide +kernel
def aI_446_38 : sx_IL := [(404, .iadd, 1), (405, .iastore, 1), (406, .aload_n 0, 1), (407, .getfield 213, 3), (410, .iload_n 1, 1), (411, .iaload, 1)]
theorem aJ_446_38 : sx_iB prog_14_method_134_code aI_446_38 = true := by decide +kernel
def aI_446_39 : sx_IL := [(412, .iconst 1, 1), (413, .isub, 1), (414, .ireturn, 1)]
theorem aJ_446_39 : sx_iB prog_14_method_134_code aI_446_39 = true := by decide +kernel
def aS_446 (pc : Nat) : sx_IL := (if pc < 226 then (if pc < 104 then (if pc < 44 then (if pc < 18 then (if pc < 10 then aI_446_0 else aI_446_1) else (if pc < 28 then aI_446_2 else (if pc < 37 then aI_446_3 else aI_446_4))) else (if pc < 68 then (if pc < 54 then aI_446_5 else aI_446_6) else (if pc < 81 then aI_446_7 else (if pc < 93 then aI_446_8 else aI_446_9)))) else (if pc < 164 then (if pc < 129 then (if pc < 117 then aI_446_10 else aI_446_11) else (if pc < 142 then aI_446_12 else (if pc < 153 then aI_446_13 else aI_446_14))) else (if pc < 191 then (if pc < 177 then aI_446_15 else aI_446_16) else (if pc < 202 then aI_446_17 else (if pc < 212 then aI_446_18 else aI_446_19))))) else (if pc < 331 then (if pc < 276 then (if pc < 246 then (if pc < 235 then aI_446_20 else aI_446_21) else (if pc < 256 then aI_446_22 else (if pc < 267 then aI_446_23 else aI_446_24))) else (if pc < 299 then (if pc < 287 then aI_446_25 else aI_446_26) else (if pc < 310 then aI_446_27 else (if pc < 318 then aI_446_28 else aI_446_29)))) else (if pc < 379 then (if pc < 347 then (if pc < 341 then aI_446_30 else aI_446_31) else (if pc < 358 then aI_446_32 else (if pc < 370 then aI_446_33 else aI_446_34))) else (if pc < 396 then (if pc < 387 then aI_446_35 else aI_446_36) else (if pc < 404 then aI_446_37 else (if pc < 412 then aI_446_38 else aI_446_39))))))
theorem aT_446 (pc : Nat) : sx_iOk prog_14_method_134_code (aS_446 pc) := (sx_ite (p := fun l => sx_iOk prog_14_method_134_code l) (sx_ite (p := fun l => sx_iOk prog_14_method_134_code l) (sx_ite (p := fun l => sx_iOk prog_14_method_134_code l) (sx_ite (p := fun l => sx_iOk prog_14_method_134_code l) (sx_ite (p := fun l => sx_iOk prog_14_method_134_code l) (sx_iB_s aJ_446_0) (sx_iB_s aJ_446_1)) (sx_ite (p := fun l => sx_iOk prog_14_method_134_code l) (sx_iB_s aJ_446_2) (sx_ite (p := fun l => sx_iOk prog_14_method_134_code l) (sx_iB_s aJ_446_3) (sx_iB_s aJ_446_4)))) (sx_ite (p := fun l => sx_iOk prog_14_method_134_code l) (sx_ite (p := fun l => sx_iOk prog_14_method_134_code l) (sx_iB_s aJ_446_5) (sx_iB_s aJ_446_6)) (sx_ite (p := fun l => sx_iOk prog_14_method_134_code l) (sx_iB_s aJ_446_7) (sx_ite (p := fun l => sx_iOk prog_14_method_134_code l) (sx_iB_s aJ_446_8) (sx_iB_s aJ_446_9))))) (sx_ite (p := fun l => sx_iOk prog_14_method_134_code l) (sx_ite (p := fun l => sx_iOk prog_14_method_134_code l) (sx_ite (p := fun l => sx_iOk prog_14_method_134_code l) (sx_iB_s aJ_446_10) (sx_iB_s aJ_446_11)) (sx_ite (p := fun l => sx_iOk prog_14_method_134_code l) (sx_iB_s aJ_446_12) (sx_ite (p := fun l => sx_iOk prog_14_method_134_code l) (sx_iB_s aJ_446_13) (sx_iB_s aJ_446_14)))) (sx_ite (p := fun l => sx_iOk prog_14_method_134_code l) (sx_ite (p := fun l => sx_iOk prog_14_method_134_code l) (sx_iB_s aJ_446_15) (sx_iB_s aJ_446_16)) (sx_ite (p := fun l => sx_iOk prog_14_method_134_code l) (sx_iB_s aJ_446_17) (sx_ite (p := fun l => sx_iOk prog_14_method_134_code l) (sx_iB_s aJ_446_18) (sx_iB_s aJ_446_19)))))) (sx_ite (p := fun l => sx_iOk prog_14_method_134_code l) (sx_ite (p := fun l => sx_iOk prog_14_method_134_code l) (sx_ite (p := fun l => sx_iOk prog_14_method_134_code l) (sx_ite (p := fun l => sx_iOk prog_14_method_134_code l) (sx_iB_s aJ_446_20) (sx_iB_s aJ_446_21)) (sx_ite (p := fun l => sx_iOk prog_14_method_134_code l) (sx_iB_s aJ_446_22) (sx_ite (p := fun l => sx_iOk prog_14_method_134_code l) (sx_iB_s aJ_446_23) (sx_iB_s aJ_446_24)))) (sx_ite (p := fun l => sx_iOk prog_14_method_134_code l) (sx_ite (p := fun l => sx_iOk prog_14_method_134_code l) (sx_iB_s aJ_446_25) (sx_iB_s aJ_446_26)) (sx_ite (p := fun l => sx_iOk prog_14_method_134_code l) (sx_iB_s aJ_446_27) (sx_ite (p := fun l => sx_iOk prog_14_method_134_code l) (sx_iB_s aJ_446_28) (sx_iB_s aJ_446_29))))) (sx_ite (p := fun l => sx_iOk prog_14_method_134_code l) (sx_ite (p := fun l => sx_iOk prog_14_method_134_code l) (sx_ite (p := fun l => sx_iOk prog_14_method_134_code l) (sx_iB_s aJ_446_30) (sx_iB_s aJ_446_31)) (sx_ite (p := fun l => sx_iOk prog_14_method_134_code l) (sx_iB_s aJ_446_32) (sx_ite (p := fun l => sx_iOk prog_14_method_134_code l) (sx_iB_s aJ_446_33) (sx_iB_s aJ_446_34)))) (sx_ite (p := fun l => sx_iOk prog_14_method_134_code l) (sx_ite (p := fun l => sx_iOk prog_14_method_134_code l) (sx_iB_s aJ_446_35) (sx_iB_s aJ_446_36)) (sx_ite (p := fun l => sx_iOk prog_14_method_134_code l) (sx_iB_s aJ_446_37) (sx_ite (p := fun l => sx_iOk prog_14_method_134_code l) (sx_iB_s aJ_446_38) (sx_iB_s aJ_446_39)))))))
def aW_446 : Nat → Option (Instr × Nat) := fun pc => sx_iF (aS_446 pc) pc
theorem aX_446 : ∀ pc i len, aW_446 pc = some (i, len) → decode aM_446.1.2.1 pc = .ok (i, len) := fun pc i len h => sx_iF_s (aT_446 pc) h
def aI_452_0 : sx_IL := [(0, .aload_n 0, 1), (1, .iload_n 1, 1), (2, .iload_n 2, 1), (3, .invokevirtual 933, 3), (6, .ifCond .eq 30, 3), (9, .iload_n 3, 1)]
theorem aJ_452_0 : sx_iB prog_14_method_142_code aI_452_0 = true := by decide +kernel
def aI_452_1 : sx_IL := [(10, .i2l, 1), (11, .ldc2_w 631, 3), (14, .ldc2_w 671, 3), (17, .invokestatic 513, 3), (20, .ifCond .eq 16, 3), (23, .iload 4, 2)]
theorem aJ_452_1 : sx_iB prog_14_method_142_code aI_452_1 = true := by decide +kernel
def aI_452_2 : sx_IL := [(25, .i2l, 1), (26, .lconst 1, 1), (27, .ldc2_w 523, 3), (30, .invokestatic 513, 3), (33, .ifCond .ne 5, 3), (36, .iconst (-1), 1)]
theorem aJ_452_2 : sx_iB prog_14_method_142_code aI_452_2 = true := by decide +kernel
def aI_452_3 : sx_IL := [(37, .ireturn, 1), (38, .bipush 12, 2), (40, .iload_n 1, 1), (41, .imul, 1), (42, .iload_n 2, 1), (43, .iadd, 1)]
theorem aJ_452_3 : sx_iB prog_14_method_142_code aI_452_3 = true := by decide +kernel
def aI_452_4 : sx_IL := [(44, .istore 5, 2), (46, .aload_n 0, 1), (47, .getfield 219, 3), (50, .iload 5, 2), (52, .iaload, 1), (53, .iconst 1, 1)]
theorem aJ_452_4 : sx_iB prog_14_method_142_code aI_452_4 = true := by decide +kernel
def aI_452_5 : sx_IL := [(54, .if_icmp .eq 6, 3), (57, .bipush (-2), 2), (59, .ireturn, 1), (60, .aload_n 0, 1), (61, .getfield 782, 3), (64, .bipush 30, 2)]
theorem aJ_452_5 : sx_iB prog_14_method_142_code aI_452_5 = true := by decide +kernel
def aI_452_6 : sx_IL := [(66, .if_icmp .ne 6, 3), (69, .bipush (-3), 2), (71, .ireturn, 1), (72, .aload_n 0, 1), (73, .iconst 0, 1), (74, .putfield 814, 3)]
theorem aJ_452_6 : sx_iB prog_14_method_142_code aI_452_6 = true := by decide +kernel
def aI_452_7 : sx_IL := [(77, .aload_n 0, 1), (78, .aload_n 0, 1), (79, .getfield 198, 3), (82, .iload_n 1, 1), (83, .iaload, 1), (84, .invokevirtual 949, 3)]
theorem aJ_452_7 : sx_iB prog_14_method_142_code aI_452_7 = true := by decide +kernel
def aI_452_8 : sx_IL := [(87, .aload_n 0, 1), (88, .iload_n 1, 1), (89, .invokevirtual 952, 3), (92, .aload_n 0, 1), (93, .getfield 228, 3), (96, .bipush 126, 2)]
theorem aJ_452_8 : sx_iB prog_14_method_142_code aI_452_8 = true := by decide +kernel
def aI_452_9 : sx_IL := [(98, .iload 5, 2), (100, .imul, 1), (101, .invokestatic 941, 3), (104, .istore 6, 2), (106, .aload_n 0, 1), (107, .aload_n 0, 1)]
theorem aJ_452_9 : sx_iB prog_14_method_142_code aI_452_9 = true := by decide +kernel
def aI_452_10 : sx_IL := [(108, .getfield 228, 3), (111, .bipush 126, 2), (113, .iload 5, 2), (115, .imul, 1), (116, .iload 6, 2), (118, .iadd, 1)]
theorem aJ_452_10 : sx_iB prog_14_method_142_code aI_452_10 = true := by decide +kernel
def aI_452_11 : sx_IL := [(119, .aload_n 0, 1), (120, .getfield 231, 3), (123, .iconst 3, 1), (124, .iload 5, 2), (126, .imul, 1), (127, .iaload, 1)]
theorem aJ_452_11 : sx_iB prog_14_method_142_code aI_452_11 = true := by decide +kernel
def aI_452_12 : sx_IL := [(128, .iload 6, 2), (130, .isub, 1), (131, .invokevirtual 946, 3), (134, .aload_n 0, 1), (135, .aload_n 0, 1), (136, .getfield 507, 3)]
theorem aJ_452_12 : sx_iB prog_14_method_142_code aI_452_12 = true := by decide +kernel
def aI_452_13 : sx_IL := [(139, .invokevirtual 949, 3), (142, .aload_n 0, 1), (143, .aload_n 0, 1), (144, .iload 4, 2), (146, .invokevirtual 955, 3), (149, .invokevirtual 949, 3)]
theorem aJ_452_13 : sx_iB prog_14_method_142_code aI_452_13 = true := by decide +kernel
def aI_452_14 : sx_IL := [(152, .aload_n 0, 1), (153, .aload_n 0, 1), (154, .getfield 195, 3), (157, .iload_n 1, 1), (158, .iaload, 1), (159, .invokevirtual 949, 3)]
theorem aJ_452_14 : sx_iB prog_14_method_142_code aI_452_14 = true := by decide +kernel
def aI_452_15 : sx_IL := [(162, .aload_n 0, 1), (163, .iconst 4, 1), (164, .invokevirtual 817, 3), (167, .aload_n 0, 1), (168, .iconst 4, 1), (169, .invokevirtual 817, 3)]
theorem aJ_452_15 : sx_iB prog_14_method_142_code aI_452_15 = true := by decide +kernel
def aI_452_16 : sx_IL := [(172, .aload_n 0, 1), (173, .iload_n 3, 1), (174, .invokevirtual 823, 3), (177, .aload_n 0, 1), (178, .sipush 163, 3), (181, .invokevirtual 817, 3)]
theorem aJ_452_16 : sx_iB prog_14_method_142_code aI_452_16 = true := by decide +kernel
def aI_452_17 : sx_IL := [(184, .aload_n 0, 1), (185, .iconst 1, 1), (186, .invokevirtual 817, 3), (189, .aload_n 0, 1), (190, .iconst 3, 1), (191, .invokevirtual 817, 3)]
theorem aJ_452_17 : sx_iB prog_14_method_142_code aI_452_17 = true := by decide +kernel
def aI_452_18 : sx_IL := [(194, .aload_n 0, 1), (195, .getfield 814, 3), (198, .istore 7, 2), (200, .iconst 0, 1), (201, .istore 8, 2), (203, .iload 8, 2)]
theorem aJ_452_18 : sx_iB prog_14_method_142_code aI_452_18 = true := by decide +kernel
def aI_452_19 : sx_IL := [(205, .aload_n 0, 1), (206, .getfield 225, 3), (209, .iload 5, 2), (211, .iaload, 1), (212, .if_icmp .ge 39, 3), (215, .aload_n 0, 1)]
theorem aJ_452_19 : sx_iB prog_14_method_142_code aI_452_19 = true := by decide +kernel
def aI_452_20 : sx_IL := [(216, .aload_n 0, 1), (217, .getfield 228, 3), (220, .bipush 42, 2), (222, .iconst 3, 1), (223, .iload 5, 2), (225, .imul, 1)]
theorem aJ_452_20 : sx_iB prog_14_method_142_code aI_452_20 = true := by decide +kernel
def aI_452_21 : sx_IL := [(226, .iload 8, 2), (228, .iadd, 1), (229, .imul, 1), (230, .aload_n 0, 1), (231, .getfield 231, 3), (234, .iconst 3, 1)]
theorem aJ_452_21 : sx_iB prog_14_method_142_code aI_452_21 = true := by decide +kernel
def aI_452_22 : sx_IL := [(235, .iload 5, 2), (237, .imul, 1), (238, .iload 8, 2), (240, .iadd, 1), (241, .iaload, 1), (242, .invokevirtual 946, 3)]
theorem aJ_452_22 : sx_iB prog_14_method_142_code aI_452_22 = true := by decide +kernel
def aI_452_23 : sx_IL := [(245, .iinc 8 1, 3), (248, .goto (-45), 3), (251, .aload_n 0, 1), (252, .iload 7, 2), (254, .sipush 164, 3), (257, .invokevirtual 834, 3)]
theorem aJ_452_23 : sx_iB prog_14_method_142_code aI_452_23 = true := by decide +kernel
def aI_452_24 : sx_IL := [(260, .aload_n 0, 1), (261, .iconst 0, 1), (262, .bipush 48, 2), (264, .invokevirtual 834, 3), (267, .aload_n 0, 1), (268, .aload_n 0, 1)]
theorem aJ_452_24 : sx_iB prog_14_method_142_code aI_452_24 = true := by decide +kernel
def aI_452_25 : sx_IL := [(269, .getfield 195, 3), (272, .iload_n 1, 1), (273, .iaload, 1), (274, .aload_n 0, 1), (275, .getfield 192, 3), (278, .iload_n 1, 1)]
theorem aJ_452_25 : sx_iB prog_14_method_142_code aI_452_25 = true := by decide +kernel
def aI_452_26 : sx_IL := [(279, .iaload, 1), (280, .invokevirtual 837, 3), (283, .aload_n 0, 1), (284, .bipush 35, 2), (286, .aload_n 0, 1), (287, .getfield 84, 3)]
theorem aJ_452_26 : sx_iB prog_14_method_142_code aI_452_26 = true := by decide +kernel
def aI_452_27 : sx_IL := [(290, .iconst 0, 1), (291, .aload_n 0, 1), (292, .getfield 814, 3), (295, .invokevirtual 778, 3), (298, .istore 8, 2), (300, .iload 8, 2)]
theorem aJ_452_27 : sx_iB prog_14_method_142_code aI_452_27 = true := by decide +kernel
def aI_452_28 : sx_IL := [(302, .ifCond .eq 10, 3), (305, .aload_n 0, 1), (306, .invokevirtual 789, 3), (309, .goto 5, 3), (312, .bipush (-3), 2), (314, .istore 9, 2)]
theorem aJ_452_28 : sx_iB prog_14_method_142_code aI_452_28 = true := by decide +kernel
def aI_452_29 : sx_IL := [(316, .aload_n 0, 1), (317, .getfield 198, 3), (320, .iload_n 1, 1), (321, .dup2, 1), (322, .iaload, 1), (323, .iconst 1, 1)]
theorem aJ_452_29 : sx_iB prog_14_method_142_code aI_452_29 = true := by decide +kernel
def aI_452_30 : sx_IL := [(324, .iadd, 1), (325, .iastore, 1), (326, .aload_n 0, 1), (327, .getfield 219, 3), (330, .iload 5, 2), (332, .iconst 2, 1)]
theorem aJ_452_30 : sx_iB prog_14_method_142_code aI_452_30 = true := by decide +kernel
def aI_452_31 : sx_IL := [(333, .iastore, 1), (334, .aload_n 0, 1), (335, .getfield 222, 3), (338, .iload 5, 2), (340, .iload 9, 2), (342, .iastore, 1)]
theorem aJ_452_31 : sx_iB prog_14_method_142_code aI_452_31 = true := by decide +kernel
def aI_452_32 : sx_IL := [(343, .iload 9, 2), (345, .ireturn, 1)]
theorem aJ_452_32 : sx_iB prog_14_method_142_code aI_452_32 = true := by decide +kernel
def aS_452 (pc : Nat) : sx_IL := (if pc < 172 then (if pc < 87 then (if pc < 44 then (if pc < 25 then (if pc < 10 then aI_452_0 else aI_452_1) else (if pc < 37 then aI_452_2 else aI_452_3)) else (if pc < 66 then (if pc < 54 then aI_452_4 else aI_452_5) else (if pc < 77 then aI_452_6 else aI_452_7))) else (if pc < 128 then (if pc < 108 then (if pc < 98 then aI_452_8 else aI_452_9) else (if pc < 119 then aI_452_10 else aI_452_11)) else (if pc < 152 then (if pc < 139 then aI_452_12 else aI_452_13) else (if pc < 162 then aI_452_14 else aI_452_15)))) else (if pc < 260 then (if pc < 216 then (if pc < 194 then (if pc < 184 then aI_452_16 else aI_452_17) else (if pc < 205 then aI_452_18 else aI_452_19)) else (if pc < 235 then (if pc < 226 then aI_452_20 else aI_452_21) else (if pc < 245 then aI_452_22 else aI_452_23))) else (if pc < 302 then (if pc < 279 then (if pc < 269 then aI_452_24 else aI_452_25) else (if pc < 290 then aI_452_26 else aI_452_27)) else (if pc < 324 then (if pc < 316 then aI_452_28 else aI_452_29) else (if pc < 333 then aI_452_30 else (if pc < 343 then aI_452_31 else aI_452_32))))))
theorem aT_452 (pc : Nat) : sx_iOk prog_14_method_142_code (aS_452 pc) := (sx_ite (p := fun l => sx_iOk prog_14_method_142_code l) (sx_ite (p := fun l => sx_iOk prog_14_method_142_code l) (sx_ite (p := fun l => sx_iOk prog_14_method_142_code l) (sx_ite (p := fun l => sx_iOk prog_14_method_142_code l) (sx_ite (p := fun l => sx_iOk prog_14_method_142_code l) (sx_iB_s aJ_452_0) (sx_iB_s aJ_452_1)) (sx_ite (p := fun l => sx_iOk prog_14_method_142_code l) (sx_iB_s aJ_452_2) (sx_iB_s aJ_452_3))) (sx_ite (p := fun l => sx_iOk prog_14_method_142_code l) (sx_ite (p := fun l => sx_iOk prog_14_method_142_code l) (sx_iB_s aJ_452_4) (sx_iB_s aJ_452_5)) (sx_ite (p := fun l => sx_iOk prog_14_method_142_code l) (sx_iB_s aJ_452_6) (sx_iB_s aJ_452_7)))) (sx_ite (p := fun l => sx_iOk prog_14_method_142_code l) (sx_ite (p := fun l => sx_iOk prog_14_method_142_code l) (sx_ite (p := fun l => sx_iOk prog_14_method_142_code l) (sx_iB_s aJ_452_8) (sx_iB_s aJ_452_9)) (sx_ite (p := fun l => sx_iOk prog_14_method_142_code l) (sx_iB_s aJ_452_10) (sx_iB_s aJ_452_11))) (sx_ite (p := fun l => sx_iOk prog_14_method_142_code l) (sx_ite (p := fun l => sx_iOk prog_14_method_142_code l) (sx_iB_s aJ_452_12) (sx_iB_s aJ_452_13)) (sx_ite (p := fun l => sx_iOk prog_14_method_142_code l) (sx_iB_s aJ_452_14) (sx_iB_s aJ_452_15))))) (sx_ite (p := fun l => sx_iOk prog_14_method_142_code l) (sx_ite (p := fun l => sx_iOk prog_14_method_142_code l) (sx_ite (p := fun l => sx_iOk prog_14_method_142_code l) (sx_ite (p := fun l => sx_iOk prog_14_method_142_code l) (sx_iB_s aJ_452_16) (sx_iB_s aJ_452_17)) (sx_ite (p := fun l => sx_iOk prog_14_method_142_code l) (sx_iB_s aJ_452_18) (sx_iB_s aJ_452_19))) (sx_ite (p := fun l => sx_iOk prog_14_method_142_code l) (sx_ite (p := fun l => sx_iOk prog_14_method_142_code l) (sx_iB_s aJ_452_20) (sx_iB_s aJ_452_21)) (sx_ite (p := fun l => sx_iOk prog_14_method_142_code l) (sx_iB_s aJ_452_22) (sx_iB_s aJ_452_23)))) (sx_ite (p := fun l => sx_iOk prog_14_method_142_code l) (sx_ite (p := fun l => sx_iOk prog_14_method_142_code l) (sx_ite (p := fun l => sx_iOk prog_14_method_142_code l) (sx_iB_s aJ_452_24) (sx_iB_s aJ_452_25)) (sx_ite (p := fun l => sx_iOk prog_14_method_142_code l) (sx_iB_s aJ_452_26) (sx_iB_s aJ_452_27))) (sx_ite (p := fun l => sx_iOk prog_14_method_142_code l) (sx_ite (p := fun l => sx_iOk prog_14_method_142_code l) (sx_iB_s aJ_452_28) (sx_iB_s aJ_452_29)) (sx_ite (p := fun l => sx_iOk prog_14_method_142_code l) (sx_iB_s aJ_452_30) (sx_ite (p := fun l => sx_iOk prog_14_method_142_code l) (sx_iB_s aJ_452_31) (sx_iB_s aJ_452_32)))))))
def aW_452 : Nat → Option (Instr × Nat) := fun pc => sx_iF (aS_452 pc) pc
theorem aX_452 : ∀ pc i len, aW_452 pc = some (i, len) → decode aM_452.1.2.1 pc = .ok (i, len) := fun pc i len h => sx_iF_s (aT_452 pc) h
def aI_453_0 : sx_IL := [(0, .iload_n 1, 1), (1, .sipush 128, 3), (4, .if_icmp .ge 7, 3), (7, .iconst 1, 1), (8, .goto 26, 3), (11, .iload_n 1, 1)]
theorem aJ_453_0 : sx_iB prog_14_method_87_code aI_453_0 = true := by decide +kernel
def aI_453_1 : sx_IL := [(12, .ldc_w 826, 3), (15, .if_icmp .ge 7, 3), (18, .iconst 2, 1), (19, .goto 15, 3), (22, .iload_n 1, 1), (23, .ldc_w 827, 3)]
theorem aJ_453_1 : sx_iB prog_14_method_87_code aI_453_1 = true := by decide +kernel
def aI_453_2 : sx_IL := [(26, .if_icmp .ge 7, 3), (29, .iconst 3, 1), (30, .goto 4, 3), (33, .iconst 4, 1), (34, .istore_n 2, 1), (35, .aload_n 0, 1)]
theorem aJ_453_2 : sx_iB prog_14_method_87_code aI_453_2 = true := by decide +kernel
def aI_453_3 : sx_IL := [(36, .iconst 2, 1), (37, .invokevirtual 817, 3), (40, .aload_n 0, 1), (41, .iload_n 2, 1), (42, .invokevirtual 817, 3), (45, .iload_n 2, 1)]
theorem aJ_453_3 : sx_iB prog_14_method_87_code aI_453_3 = true := by decide +kernel
def aI_453_4 : sx_IL := [(46, .iconst 1, 1), (47, .isub, 1), (48, .istore_n 3, 1), (49, .iload_n 3, 1), (50, .ifCond .lt 19, 3), (53, .aload_n 0, 1)]
theorem aJ_453_4 : sx_iB prog_14_method_87_code aI_453_4 = true := by decide +kernel
def aI_453_5 : sx_IL := [(54, .iload_n 1, 1), (55, .bipush 8, 2), (57, .iload_n 3, 1), (58, .imul, 1), (59, .ishr, 1), (60, .invokevirtual 817, 3)]
theorem aJ_453_5 : sx_iB prog_14_method_87_code aI_453_5 = true := by decide +kernel
def aI_453_6 : sx_IL := [(63, .iinc 3 (-1), 3), (66, .goto (-17), 3), (69, .return_, 1)]
theorem aJ_453_6 : sx_iB prog_14_method_87_code aI_453_6 = true := by decide +kernel
def aS_453 (pc : Nat) : sx_IL := (if pc < 36 then (if pc < 12 then aI_453_0 else (if pc < 26 then aI_453_1 else aI_453_2)) else (if pc < 54 then (if pc < 46 then aI_453_3 else aI_453_4) else (if pc < 63 then aI_453_5 else aI_453_6)))
theorem aT_453 (pc : Nat) : sx_iOk prog_14_method_87_code (aS_453 pc) := (sx_ite (p := fun l => sx_iOk prog_14_method_87_code l) (sx_ite (p := fun l => sx_iOk prog_14_method_87_code l) (sx_iB_s aJ_453_0) (sx_ite (p := fun l => sx_iOk prog_14_method_87_code l) (sx_iB_s aJ_453_1) (sx_iB_s aJ_453_2))) (sx_ite (p := fun l => sx_iOk prog_14_method_87_code l) (sx_ite (p := fun l => sx_iOk prog_14_method_87_code l) (sx_iB_s aJ_453_3) (sx_iB_s aJ_453_4)) (sx_ite (p := fun l => sx_iOk prog_14_method_87_code l) (sx_iB_s aJ_453_5) (sx_iB_s aJ_453_6))))
def aW_453 : Nat → Option (Instr × Nat) := fun pc => sx_iF (aS_453 pc) pc
theorem aX_453 : ∀ pc i len, aW_453 pc = some (i, len) → decode aM_453.1.2.1 pc = .ok (i, len) := fun pc i len h => sx_iF_s (aT_453 pc) h
def aI_454_0 : sx_IL := [(0, .aload_n 0, 1), (1, .getfield 189, 3), (4, .iload_n 1, 1), (5, .iaload, 1), (6, .istore_n 2, 1), (7, .aload_n 0, 1)]
theorem aJ_454_0 : sx_iB prog_14_method_141_code aI_454_0 = true := by decide +kernel
def aI_454_1 : sx_IL := [(8, .aload_n 0, 1), (9, .getfield 39, 3), (12, .aload_n 0, 1), (13, .getfield 51, 3), (16, .iconst 2, 1), (17, .iload_n 2, 1)]
theorem aJ_454_1 : sx_iB prog_14_method_141_code aI_454_1 = true := by decide +kernel
def aI_454_2 : sx_IL := [(18, .imul, 1), (19, .iaload, 1), (20, .aload_n 0, 1), (21, .getfield 51, 3), (24, .iconst 2, 1), (25, .iload_n 2, 1)]
theorem aJ_454_2 : sx_iB prog_14_method_141_code aI_454_2 = true := by decide +kernel
def aI_454_3 : sx_IL := [(26, .imul, 1), (27, .iconst 1, 1), (28, .iadd, 1), (29, .iaload, 1), (30, .invokevirtual 946, 3), (33, .return_, 1)]
theorem aJ_454_3 : sx_iB prog_14_method_141_code aI_454_3 = true := by decide +kernel
def aS_454 (pc : Nat) : sx_IL := (if pc < 18 then (if pc < 8 then aI_454_0 else aI_454_1) else (if pc < 26 then aI_454_2 else aI_454_3))
theorem aT_454 (pc : Nat) : sx_iOk prog_14_method_141_code (aS_454 pc) := (sx_ite (p := fun l => sx_iOk prog_14_method_141_code l) (sx_ite (p := fun l => sx_iOk prog_14_method_141_code l) (sx_iB_s aJ_454_0) (sx_iB_s aJ_454_1)) (sx_ite (p := fun l => sx_iOk prog_14_method_141_code l) (sx_iB_s aJ_454_2) (sx_iB_s aJ_454_3)))
def aW_454 : Nat → Option (Instr × Nat) := fun pc => sx_iF (aS_454 pc) pc
theorem aX_454 : ∀ pc i len, aW_454 pc = some (i, len) → decode aM_454.1.2.1 pc = .ok (i, len) := fun pc i len h => sx_iF_s (aT_454 pc) h
def aI_455_0 : sx_IL := [(0, .aload_n 0, 1), (1, .bipush 12, 2), (3, .invokevirtual 817, 3), (6, .aload_n 0, 1), (7, .iload_n 3, 1), (8, .invokevirtual 817, 3)]
theorem aJ_455_0 : sx_iB prog_14_method_88_code aI_455_0 = true := by decide +kernel
def aI_455_1 : sx_IL := [(11, .aload_n 0, 1), (12, .aload_n 1, 1), (13, .iload_n 2, 1), (14, .iload_n 3, 1), (15, .invokevirtual 828, 3), (18, .return_, 1)]
theorem aJ_455_1 : sx_iB prog_14_method_88_code aI_455_1 = true := by decide +kernel
def aS_455 (pc : Nat) : sx_IL := (if pc < 11 then aI_455_0 else aI_455_1)
theorem aT_455 (pc : Nat) : sx_iOk prog_14_method_88_code (aS_455 pc) := (sx_ite (p := fun l => sx_iOk prog_14_method_88_code l) (sx_iB_s aJ_455_0) (sx_iB_s aJ_455_1))
def aW_455 : Nat → Option (Instr × Nat) := fun pc => sx_iF (aS_455 pc) pc
theorem aX_455 : ∀ pc i len, aW_455 pc = some (i, len) → decode aM_455.1.2.1 pc = .ok (i, len) := fun pc i len h => sx_iF_s (aT_455 pc) h
def aI_456_0 : sx_IL := [(0, .aload_n 0, 1), (1, .getfield 507, 3), (4, .i2l, 1), (5, .iload_n 1, 1), (6, .i2l, 1), (7, .ladd, 1)]
theorem aJ_456_0 : sx_iB prog_14_method_140_code aI_456_0 = true := by decide +kernel
def aI_456_1 : sx_IL := [(8, .lstore_n 2, 1), (9, .lload_n 2, 1), (10, .ldc2_w 944, 3), (13, .lcmp, 1), (14, .ifCond .le 9, 3), (17, .ldc_w 626, 3)]
theorem aJ_456_1 : sx_iB prog_14_method_140_code aI_456_1 = true := by decide +kernel
def aI_456_2 : sx_IL := [(20, .goto 5, 3), (23, .lload_n 2, 1), (24, .l2i, 1), (25, .ireturn, 1)]
theorem aJ_456_2 : sx_iB prog_14_method_140_code aI_456_2 = true := by decide +kernel
def aS_456 (pc : Nat) : sx_IL := (if pc < 8 then aI_456_0 else (if pc < 20 then aI_456_1 else aI_456_2))
theorem aT_456 (pc : Nat) : sx_iOk prog_14_method_140_code (aS_456 pc) := (sx_ite (p := fun l => sx_iOk prog_14_method_140_code l) (sx_iB_s aJ_456_0) (sx_ite (p := fun l => sx_iOk prog_14_method_140_code l) (sx_iB_s aJ_456_1) (sx_iB_s aJ_456_2)))
def aW_456 : Nat → Option (Instr × Nat) := fun pc => sx_iF (aS_456 pc) pc
theorem aX_456 : ∀ pc i len, aW_456 pc = some (i, len) → decode aM_456.1.2.1 pc = .ok (i, len) := fun pc i len h => sx_iF_s (aT_456 pc) h
def aI_459_0 : sx_IL := [(0, .aload_n 0, 1), (1, .iload_n 1, 1), (2, .invokevirtual 930, 3), (5, .ifCond .eq 15, 3), (8, .iload_n 2, 1), (9, .i2l, 1)]
theorem aJ_459_0 : sx_iB prog_14_method_145_code aI_459_0 = true := by decide +kernel
def aI_459_1 : sx_IL := [(10, .lconst 1, 1), (11, .ldc2_w 523, 3), (14, .invokestatic 513, 3), (17, .ifCond .ne 5, 3), (20, .iconst (-1), 1), (21, .ireturn, 1)]
theorem aJ_459_1 : sx_iB prog_14_method_145_code aI_459_1 = true := by decide +kernel
def aI_459_2 : sx_IL := [(22, .aload_n 0, 1), (23, .getfield 802, 3), (26, .bipush 12, 2), (28, .if_icmp .ne 6, 3), (31, .bipush (-3), 2), (33, .ireturn, 1)]
theorem aJ_459_2 : sx_iB prog_14_method_145_code aI_459_2 = true := by decide +kernel
def aI_459_3 : sx_IL := [(34, .aload_n 0, 1), (35, .iconst 0, 1), (36, .putfield 814, 3), (39, .aload_n 0, 1), (40, .iload_n 1, 1), (41, .invokevirtual 952, 3)]
theorem aJ_459_3 : sx_iB prog_14_method_145_code aI_459_3 = true := by decide +kernel
def aI_459_4 : sx_IL := [(44, .aload_n 0, 1), (45, .aload_n 0, 1), (46, .getfield 201, 3), (49, .iload_n 1, 1), (50, .iaload, 1), (51, .invokevirtual 949, 3)]
theorem aJ_459_4 : sx_iB prog_14_method_145_code aI_459_4 = true := by decide +kernel
def aI_459_5 : sx_IL := [(54, .aload_n 0, 1), (55, .aload_n 0, 1), (56, .getfield 507, 3), (59, .invokevirtual 949, 3), (62, .aload_n 0, 1), (63, .aload_n 0, 1)]
theorem aJ_459_5 : sx_iB prog_14_method_145_code aI_459_5 = true := by decide +kernel
def aI_459_6 : sx_IL := [(64, .iload_n 2, 1), (65, .invokevirtual 955, 3), (68, .invokevirtual 949, 3), (71, .aload_n 0, 1), (72, .aload_n 0, 1), (73, .getfield 195, 3)]
theorem aJ_459_6 : sx_iB prog_14_method_145_code aI_459_6 = true := by decide +kernel
def aI_459_7 : sx_IL := [(76, .iload_n 1, 1), (77, .iaload, 1), (78, .invokevirtual 949, 3), (81, .aload_n 0, 1), (82, .getfield 814, 3), (85, .istore_n 3, 1)]
theorem aJ_459_7 : sx_iB prog_14_method_145_code aI_459_7 = true := by decide +kernel
def aI_459_8 : sx_IL := [(86, .iconst 0, 1), (87, .istore 4, 2), (89, .iload 4, 2), (91, .aload_n 0, 1), (92, .getfield 240, 3), (95, .iload_n 1, 1)]
theorem aJ_459_8 : sx_iB prog_14_method_145_code aI_459_8 = true := by decide +kernel
def aI_459_9 : sx_IL := [(96, .iaload, 1), (97, .if_icmp .ge 25, 3), (100, .aload_n 0, 1), (101, .aload_n 0, 1), (102, .getfield 243, 3), (105, .bipush 40, 2)]
theorem aJ_459_9 : sx_iB prog_14_method_145_code aI_459_9 = true := by decide +kernel
def aI_459_10 : sx_IL := [(107, .iload_n 1, 1), (108, .imul, 1), (109, .iload 4, 2), (111, .iadd, 1), (112, .iaload, 1), (113, .invokevirtual 823, 3)]
theorem aJ_459_10 : sx_iB prog_14_method_145_code aI_459_10 = true := by decide +kernel
def aI_459_11 : sx_IL := [(116, .iinc 4 1, 3), (119, .goto (-30), 3), (122, .aload_n 0, 1), (123, .iload_n 3, 1), (124, .iconst 4, 1), (125, .invokevirtual 834, 3)]
theorem aJ_459_11 : sx_iB prog_14_method_145_code aI_459_11 = true := by decide +kernel
def aI_459_12 : sx_IL := [(128, .aload_n 0, 1), (129, .iconst 0, 1), (130, .bipush 48, 2), (132, .invokevirtual 834, 3), (135, .aload_n 0, 1), (136, .aload_n 0, 1)]
theorem aJ_459_12 : sx_iB prog_14_method_145_code aI_459_12 = true := by decide +kernel
def aI_459_13 : sx_IL := [(137, .getfield 195, 3), (140, .iload_n 1, 1), (141, .iaload, 1), (142, .aload_n 0, 1), (143, .getfield 192, 3), (146, .iload_n 1, 1)]
theorem aJ_459_13 : sx_iB prog_14_method_145_code aI_459_13 = true := by decide +kernel
def aI_459_14 : sx_IL := [(147, .iaload, 1), (148, .invokevirtual 837, 3), (151, .aload_n 0, 1), (152, .getfield 201, 3), (155, .iload_n 1, 1), (156, .dup2, 1)]
theorem aJ_459_14 : sx_iB prog_14_method_145_code aI_459_14 = true := by decide +kernel
def aI_459_15 : sx_IL := [(157, .iaload, 1), (158, .iconst 1, 1), (159, .iadd, 1), (160, .iastore, 1), (161, .aload_n 0, 1), (162, .bipush 13, 2)]
theorem aJ_459_15 : sx_iB prog_14_method_145_code aI_459_15 = true := by decide +kernel
def aI_459_16 : sx_IL := [(164, .aload_n 0, 1), (165, .getfield 84, 3), (168, .iconst 0, 1), (169, .aload_n 0, 1), (170, .getfield 814, 3), (173, .invokevirtual 796, 3)]
theorem aJ_459_16 : sx_iB prog_14_method_145_code aI_459_16 = true := by decide +kernel
def aI_459_17 : sx_IL := [(176, .ifCond .eq 10, 3), (179, .aload_n 0, 1), (180, .invokevirtual 799, 3), (183, .goto 5, 3), (186, .bipush (-3), 2), (188, .ireturn, 1)]
theorem aJ_459_17 : sx_iB prog_14_method_145_code aI_459_17 = true := by decide +kernel
def aS_459 (pc : Nat) : sx_IL := (if pc < 96 then (if pc < 44 then (if pc < 22 then (if pc < 10 then aI_459_0 else aI_459_1) else (if pc < 34 then aI_459_2 else aI_459_3)) else (if pc < 64 then (if pc < 54 then aI_459_4 else aI_459_5) else (if pc < 76 then aI_459_6 else (if pc < 86 then aI_459_7 else aI_459_8)))) else (if pc < 137 then (if pc < 116 then (if pc < 107 then aI_459_9 else aI_459_10) else (if pc < 128 then aI_459_11 else aI_459_12)) else (if pc < 157 then (if pc < 147 then aI_459_13 else aI_459_14) else (if pc < 164 then aI_459_15 else (if pc < 176 then aI_459_16 else aI_459_17)))))
theorem aT_459 (pc : Nat) : sx_iOk prog_14_method_145_code (aS_459 pc) := (sx_ite (p := fun l => sx_iOk prog_14_method_145_code l) (sx_ite (p := fun l => sx_iOk prog_14_method_145_code l) (sx_ite (p := fun l => sx_iOk prog_14_method_145_code l) (sx_ite (p := fun l => sx_iOk prog_14_method_145_code l) (sx_iB_s aJ_459_0) (sx_iB_s aJ_459_1)) (sx_ite (p := fun l => sx_iOk prog_14_method_145_code l) (sx_iB_s aJ_459_2) (sx_iB_s aJ_459_3))) (sx_ite (p := fun l => sx_iOk prog_14_method_145_code l) (sx_ite (p := fun l => sx_iOk prog_14_method_145_code l) (sx_iB_s aJ_459_4) (sx_iB_s aJ_459_5)) (sx_ite (p := fun l => sx_iOk prog_14_method_145_code l) (sx_iB_s aJ_459_6) (sx_ite (p := fun l => sx_iOk prog_14_method_145_code l) (sx_iB_s aJ_459_7) (sx_iB_s aJ_459_8))))) (sx_ite (p := fun l => sx_iOk prog_14_method_145_code l) (sx_ite (p := fun l => sx_iOk prog_14_method_145_code l) (sx_ite (p := fun l => sx_iOk prog_14_method_145_code l) (sx_iB_s aJ_459_9) (sx_iB_s aJ_459_10)) (sx_ite (p := fun l => sx_iOk prog_14_method_145_code l) (sx_iB_s aJ_459_11) (sx_iB_s aJ_459_12))) (sx_ite (p := fun l => sx_iOk prog_14_method_145_code l) (sx_ite (p := fun l => sx_iOk prog_14_method_145_code l) (sx_iB_s aJ_459_13) (sx_iB_s aJ_459_14)) (sx_ite (p := fun l => sx_iOk prog_14_method_145_code l) (sx_iB_s aJ_459_15) (sx_ite (p := fun l => sx_iOk prog_14_method_145_code l) (sx_iB_s aJ_459_16) (sx_iB_s aJ_459_17))))))
def aW_459 : Nat → Option (Instr × Nat) := fun pc => sx_iF (aS_459 pc) pc
theorem aX_459 : ∀ pc i len, aW_459 pc = some (i, len) → decode aM_459.1.2.1 pc = .ok (i, len) := fun pc i len h => sx_iF_s (aT_459 pc) h
def aI_460_0 : sx_IL := [(0, .aload_n 0, 1), (1, .iload_n 1, 1), (2, .invokevirtual 930, 3), (5, .ifCond .eq 33, 3), (8, .iload_n 2, 1), (9, .i2l, 1)]
theorem aJ_460_0 : sx_iB prog_14_method_146_code aI_460_0 = true := by decide +kernel
def aI_460_1 : sx_IL := [(10, .lconst 1, 1), (11, .aload_n 0, 1), (12, .getfield 198, 3), (15, .iload_n 1, 1), (16, .iaload, 1), (17, .iconst 1, 1)]
theorem aJ_460_1 : sx_iB prog_14_method_146_code aI_460_1 = true := by decide +kernel
def aI_460_2 : sx_IL := [(18, .isub, 1), (19, .i2l, 1), (20, .invokestatic 513, 3), (23, .ifCond .eq 15, 3), (26, .iload_n 3, 1), (27, .i2l, 1)]
theorem aJ_460_2 : sx_iB prog_14_method_146_code aI_460_2 = true := by decide +kernel
def aI_460_3 : sx_IL := [(28, .lconst 1, 1), (29, .ldc2_w 523, 3), (32, .invokestatic 513, 3), (35, .ifCond .ne 5, 3), (38, .iconst (-1), 1), (39, .ireturn, 1)]
theorem aJ_460_3 : sx_iB prog_14_method_146_code aI_460_3 = true := by decide +kernel
def aI_460_4 : sx_IL := [(40, .aload_n 0, 1), (41, .getfield 811, 3), (44, .bipush 12, 2), (46, .if_icmp .ne 6, 3), (49, .bipush (-3), 2), (51, .ireturn, 1)]
theorem aJ_460_4 : sx_iB prog_14_method_146_code aI_460_4 = true := by decide +kernel
def aI_460_5 : sx_IL := [(52, .aload_n 0, 1), (53, .iconst 0, 1), (54, .putfield 814, 3), (57, .aload_n 0, 1), (58, .iload_n 1, 1), (59, .invokevirtual 952, 3)]
theorem aJ_460_5 : sx_iB prog_14_method_146_code aI_460_5 = true := by decide +kernel
def aI_460_6 : sx_IL := [(62, .aload_n 0, 1), (63, .iload_n 2, 1), (64, .invokevirtual 949, 3), (67, .aload_n 0, 1), (68, .aload_n 0, 1), (69, .iload_n 1, 1)]
theorem aJ_460_6 : sx_iB prog_14_method_146_code aI_460_6 = true := by decide +kernel
def aI_460_7 : sx_IL := [(70, .iload_n 2, 1), (71, .invokevirtual 958, 3), (74, .ifCond .eq 7, 3), (77, .iconst 1, 1), (78, .goto 4, 3), (81, .iconst 0, 1)]
theorem aJ_460_7 : sx_iB prog_14_method_146_code aI_460_7 = true := by decide +kernel
def aI_460_8 : sx_IL := [(82, .invokevirtual 949, 3), (85, .aload_n 0, 1), (86, .aload_n 0, 1), (87, .getfield 507, 3), (90, .invokevirtual 949, 3), (93, .aload_n 0, 1)]
theorem aJ_460_8 : sx_iB prog_14_method_146_code aI_460_8 = true := by decide +kernel
def aI_460_9 : sx_IL := [(94, .aload_n 0, 1), (95, .iload_n 3, 1), (96, .invokevirtual 955, 3), (99, .invokevirtual 949, 3), (102, .aload_n 0, 1), (103, .aload_n 0, 1)]
theorem aJ_460_9 : sx_iB prog_14_method_146_code aI_460_9 = true := by decide +kernel
def aI_460_10 : sx_IL := [(104, .getfield 195, 3), (107, .iload_n 1, 1), (108, .iaload, 1), (109, .invokevirtual 949, 3), (112, .aload_n 0, 1), (113, .iconst 0, 1)]
theorem aJ_460_10 : sx_iB prog_14_method_146_code aI_460_10 = true := by decide +kernel
def aI_460_11 : sx_IL := [(114, .bipush 48, 2), (116, .invokevirtual 834, 3), (119, .aload_n 0, 1), (120, .aload_n 0, 1), (121, .getfield 195, 3), (124, .iload_n 1, 1)]
theorem aJ_460_11 : sx_iB prog_14_method_146_code aI_460_11 = true := by decide +kernel
def aI_460_12 : sx_IL := [(125, .iaload, 1), (126, .aload_n 0, 1), (127, .getfield 192, 3), (130, .iload_n 1, 1), (131, .iaload, 1), (132, .invokevirtual 837, 3)]
theorem aJ_460_12 : sx_iB prog_14_method_146_code aI_460_12 = true := by decide +kernel
def aI_460_13 : sx_IL := [(135, .aload_n 0, 1), (136, .bipush 13, 2), (138, .aload_n 0, 1), (139, .getfield 84, 3), (142, .iconst 0, 1), (143, .aload_n 0, 1)]
theorem aJ_460_13 : sx_iB prog_14_method_146_code aI_460_13 = true := by decide +kernel
def aI_460_14 : sx_IL := [(144, .getfield 814, 3), (147, .invokevirtual 805, 3), (150, .ifCond .eq 10, 3), (153, .aload_n 0, 1), (154, .invokevirtual 808, 3), (157, .goto 5, 3)]
theorem aJ_460_14 : sx_iB prog_14_method_146_code aI_460_14 = true := by decide +kernel
def aI_460_15 : sx_IL := [(160, .bipush (-3), 2), (162, .ireturn, 1)]
theorem aJ_460_15 : sx_iB prog_14_method_146_code aI_460_15 = true := by decide +kernel
def aS_460 (pc : Nat) : sx_IL := (if pc < 82 then (if pc < 40 then (if pc < 18 then (if pc < 10 then aI_460_0 else aI_460_1) else (if pc < 28 then aI_460_2 else aI_460_3)) else (if pc < 62 then (if pc < 52 then aI_460_4 else aI_460_5) else (if pc < 70 then aI_460_6 else aI_460_7))) else (if pc < 125 then (if pc < 104 then (if pc < 94 then aI_460_8 else aI_460_9) else (if pc < 114 then aI_460_10 else aI_460_11)) else (if pc < 144 then (if pc < 135 then aI_460_12 else aI_460_13) else (if pc < 160 then aI_460_14 else aI_460_15))))
theorem aT_460 (pc : Nat) : sx_iOk prog_14_method_146_code (aS_460 pc) := (sx_ite (p := fun l => sx_iOk prog_14_method_146_code l) (sx_ite (p := fun l => sx_iOk prog_14_method_146_code l) (sx_ite (p := fun l => sx_iOk prog_14_method_146_code l) (sx_ite (p := fun l => sx_iOk prog_14_method_146_code l) (sx_iB_s aJ_460_0) (sx_iB_s aJ_460_1)) (sx_ite (p := fun l => sx_iOk prog_14_method_146_code l) (sx_iB_s aJ_460_2) (sx_iB_s aJ_460_3))) (sx_ite (p := fun l => sx_iOk prog_14_method_146_code l) (sx_ite (p := fun l => sx_iOk prog_14_method_146_code l) (sx_iB_s aJ_460_4) (sx_iB_s aJ_460_5)) (sx_ite (p := fun l => sx_iOk prog_14_method_146_code l) (sx_iB_s aJ_460_6) (sx_iB_s aJ_460_7)))) (sx_ite (p := fun l => sx_iOk prog_14_method_146_code l) (sx_ite (p := fun l => sx_iOk prog_14_method_146_code l) (sx_ite (p := fun l => sx_iOk prog_14_method_146_code l) (sx_iB_s aJ_460_8) (sx_iB_s aJ_460_9)) (sx_ite (p := fun l => sx_iOk prog_14_method_146_code l) (sx_iB_s aJ_460_10) (sx_iB_s aJ_460_11))) (sx_ite (p := fun l => sx_iOk prog_14_method_146_code l) (sx_ite (p := fun l => sx_iOk prog_14_method_146_code l) (sx_iB_s aJ_460_12) (sx_iB_s aJ_460_13)) (sx_ite (p := fun l => sx_iOk prog_14_method_146_code l) (sx_iB_s aJ_460_14) (sx_iB_s aJ_460_15)))))
def aW_460 : Nat → Option (Instr × Nat) := fun pc => sx_iF (aS_460 pc) pc
theorem aX_460 : ∀ pc i len, aW_460 pc = some (i, len) → decode aM_460.1.2.1 pc = .ok (i, len) := fun pc i len h => sx_iF_s (aT_460 pc) h
