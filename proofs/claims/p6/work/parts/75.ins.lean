/-! instructions -/
def aI_3_0 : sx_IL := [(0, .aload_n 0, 1), (1, .invokespecial 1, 3), (4, .aload_n 0, 1), (5, .iload_n 1, 1), (6, .bipush 8, 2), (8, .invokestatic 7, 3)]
theorem aJ_3_0 : sx_iB prog_9_method_1_code aI_3_0 = true := by decide +kernel
def aI_3_1 : sx_IL := [(11, .newarray .int, 2), (13, .putfield 13, 3), (16, .return_, 1)]
theorem aJ_3_1 : sx_iB prog_9_method_1_code aI_3_1 = true := by decide +kernel
def aS_3 (pc : Nat) : sx_IL := (if pc < 11 then aI_3_0 else aI_3_1)
theorem aT_3 (pc : Nat) : sx_iOk prog_9_method_1_code (aS_3 pc) := (sx_ite (p := fun l => sx_iOk prog_9_method_1_code l) (sx_iB_s aJ_3_0) (sx_iB_s aJ_3_1))
def aW_3 : Nat → Option (Instr × Nat) := fun pc => sx_iF (aS_3 pc) pc
theorem aX_3 : ∀ pc i len, aW_3 pc = some (i, len) → decode aM_3.1.2.1 pc = .ok (i, len) := fun pc i len h => sx_iF_s (aT_3 pc) h
def aI_6_0 : sx_IL := [(0, .iload_n 1, 1), (1, .iconst 1, 1), (2, .if_icmp .lt 9, 3), (5, .iload_n 1, 1), (6, .bipush 8, 2), (8, .if_icmp .le 5, 3)]
theorem aJ_6_0 : sx_iB prog_1_method_2_code aI_6_0 = true := by decide +kernel
def aI_6_1 : sx_IL := [(11, .iconst (-1), 1), (12, .ireturn, 1), (13, .aload_n 0, 1), (14, .getfield 21, 3), (17, .getfield 69, 3), (20, .iload_n 1, 1)]
theorem aJ_6_1 : sx_iB prog_1_method_2_code aI_6_1 = true := by decide +kernel
def aI_6_2 : sx_IL := [(21, .iadd, 1), (22, .sipush 800, 3), (25, .if_icmp .le 6, 3), (28, .bipush (-3), 2), (30, .ireturn, 1), (31, .iload_n 1, 1)]
theorem aJ_6_2 : sx_iB prog_1_method_2_code aI_6_2 = true := by decide +kernel
def aI_6_3 : sx_IL := [(32, .iconst 1, 1), (33, .isub, 1), (34, .istore 4, 2), (36, .iload 4, 2), (38, .ifCond .lt 24, 3), (41, .aload_n 0, 1)]
theorem aJ_6_3 : sx_iB prog_1_method_2_code aI_6_3 = true := by decide +kernel
def aI_6_4 : sx_IL := [(42, .getfield 21, 3), (45, .lload_n 2, 1), (46, .bipush 8, 2), (48, .iload 4, 2), (50, .imul, 1), (51, .lushr, 1)]
theorem aJ_6_4 : sx_iB prog_1_method_2_code aI_6_4 = true := by decide +kernel
def aI_6_5 : sx_IL := [(52, .l2i, 1), (53, .invokevirtual 73, 3), (56, .iinc 4 (-1), 3), (59, .goto (-23), 3), (62, .aload_n 0, 1), (63, .getfield 21, 3)]
theorem aJ_6_5 : sx_iB prog_1_method_2_code aI_6_5 = true := by decide +kernel
def aI_6_6 : sx_IL := [(66, .getfield 69, 3), (69, .ireturn, 1)]
theorem aJ_6_6 : sx_iB prog_1_method_2_code aI_6_6 = true := by decide +kernel
def aS_6 (pc : Nat) : sx_IL := (if pc < 32 then (if pc < 11 then aI_6_0 else (if pc < 21 then aI_6_1 else aI_6_2)) else (if pc < 52 then (if pc < 42 then aI_6_3 else aI_6_4) else (if pc < 66 then aI_6_5 else aI_6_6)))
theorem aT_6 (pc : Nat) : sx_iOk prog_1_method_2_code (aS_6 pc) := (sx_ite (p := fun l => sx_iOk prog_1_method_2_code l) (sx_ite (p := fun l => sx_iOk prog_1_method_2_code l) (sx_iB_s aJ_6_0) (sx_ite (p := fun l => sx_iOk prog_1_method_2_code l) (sx_iB_s aJ_6_1) (sx_iB_s aJ_6_2))) (sx_ite (p := fun l => sx_iOk prog_1_method_2_code l) (sx_ite (p := fun l => sx_iOk prog_1_method_2_code l) (sx_iB_s aJ_6_3) (sx_iB_s aJ_6_4)) (sx_ite (p := fun l => sx_iOk prog_1_method_2_code l) (sx_iB_s aJ_6_5) (sx_iB_s aJ_6_6))))
def aW_6 : Nat → Option (Instr × Nat) := fun pc => sx_iF (aS_6 pc) pc
theorem aX_6 : ∀ pc i len, aW_6 pc = some (i, len) → decode aM_6.1.2.1 pc = .ok (i, len) := fun pc i len h => sx_iF_s (aT_6 pc) h
def aI_7_0 : sx_IL := [(0, .aload_n 0, 1), (1, .getfield 19, 3), (4, .ldc 32, 2), (6, .if_icmp .lt 4, 3), (9, .return_, 1), (10, .aload_n 0, 1)]
theorem aJ_7_0 : sx_iB prog_9_method_7_code aI_7_0 = true := by decide +kernel
def aI_7_1 : sx_IL := [(11, .getfield 19, 3), (14, .aload_n 0, 1), (15, .getfield 13, 3), (18, .arraylength, 1), (19, .if_icmp .lt 21, 3), (22, .aload_n 0, 1)]
theorem aJ_7_1 : sx_iB prog_9_method_7_code aI_7_1 = true := by decide +kernel
def aI_7_2 : sx_IL := [(23, .aload_n 0, 1), (24, .getfield 13, 3), (27, .iconst 2, 1), (28, .aload_n 0, 1), (29, .getfield 13, 3), (32, .arraylength, 1)]
theorem aJ_7_2 : sx_iB prog_9_method_7_code aI_7_2 = true := by decide +kernel
def aI_7_3 : sx_IL := [(33, .imul, 1), (34, .invokestatic 33, 3), (37, .putfield 13, 3), (40, .aload_n 0, 1), (41, .getfield 13, 3), (44, .aload_n 0, 1)]
theorem aJ_7_3 : sx_iB prog_9_method_7_code aI_7_3 = true := by decide +kernel
def aI_7_4 : sx_IL := [(45, .getfield 19, 3), (48, .iload_n 1, 1), (49, .sipush 255, 3), (52, .iand, 1), (53, .iastore, 1), (54, .aload_n 0, 1)]
theorem aJ_7_4 : sx_iB prog_9_method_7_code aI_7_4 = true := by decide +kernel
def aI_7_5 : sx_IL := [(55, .dup, 1), (56, .getfield 19, 3), (59, .iconst 1, 1), (60, .iadd, 1), (61, .putfield 19, 3), (64, .return_, 1)]
theorem aJ_7_5 : sx_iB prog_9_method_7_code aI_7_5 = true := by decide +kernel
def aS_7 (pc : Nat) : sx_IL := (if pc < 33 then (if pc < 11 then aI_7_0 else (if pc < 23 then aI_7_1 else aI_7_2)) else (if pc < 45 then aI_7_3 else (if pc < 55 then aI_7_4 else aI_7_5)))
theorem aT_7 (pc : Nat) : sx_iOk prog_9_method_7_code (aS_7 pc) := (sx_ite (p := fun l => sx_iOk prog_9_method_7_code l) (sx_ite (p := fun l => sx_iOk prog_9_method_7_code l) (sx_iB_s aJ_7_0) (sx_ite (p := fun l => sx_iOk prog_9_method_7_code l) (sx_iB_s aJ_7_1) (sx_iB_s aJ_7_2))) (sx_ite (p := fun l => sx_iOk prog_9_method_7_code l) (sx_iB_s aJ_7_3) (sx_ite (p := fun l => sx_iOk prog_9_method_7_code l) (sx_iB_s aJ_7_4) (sx_iB_s aJ_7_5))))
def aW_7 : Nat → Option (Instr × Nat) := fun pc => sx_iF (aS_7 pc) pc
theorem aX_7 : ∀ pc i len, aW_7 pc = some (i, len) → decode aM_7.1.2.1 pc = .ok (i, len) := fun pc i len h => sx_iF_s (aT_7 pc) h
def aI_8_0 : sx_IL := [(0, .iload_n 1, 1), (1, .aload_n 0, 1), (2, .arraylength, 1), (3, .if_icmp .ne 11, 3), (6, .aload_n 0, 1), (7, .invokevirtual 316, 3)]
theorem aJ_8_0 : sx_iB prog_18_method_123_code aI_8_0 = true := by decide +kernel
def aI_8_1 : sx_IL := [(10, .checkcast 317, 3), (13, .areturn, 1), (14, .iload_n 1, 1), (15, .newarray .int, 2), (17, .astore_n 2, 1), (18, .aload_n 0, 1)]
theorem aJ_8_1 : sx_iB prog_18_method_123_code aI_8_1 = true := by decide +kernel
def aI_8_2 : sx_IL := [(19, .iconst 0, 1), (20, .aload_n 2, 1), (21, .iconst 0, 1), (22, .aload_n 0, 1), (23, .arraylength, 1), (24, .iload_n 1, 1)]
theorem aJ_8_2 : sx_iB prog_18_method_123_code aI_8_2 = true := by decide +kernel
def aI_8_3 : sx_IL := [(25, .invokestatic 304, 3), (28, .invokestatic 150, 3), (31, .aload_n 2, 1), (32, .areturn, 1)]
theorem aJ_8_3 : sx_iB prog_18_method_123_code aI_8_3 = true := by decide +kernel
def aS_8 (pc : Nat) : sx_IL := (if pc < 19 then (if pc < 10 then aI_8_0 else aI_8_1) else (if pc < 25 then aI_8_2 else aI_8_3))
theorem aT_8 (pc : Nat) : sx_iOk prog_18_method_123_code (aS_8 pc) := (sx_ite (p := fun l => sx_iOk prog_18_method_123_code l) (sx_ite (p := fun l => sx_iOk prog_18_method_123_code l) (sx_iB_s aJ_8_0) (sx_iB_s aJ_8_1)) (sx_ite (p := fun l => sx_iOk prog_18_method_123_code l) (sx_iB_s aJ_8_2) (sx_iB_s aJ_8_3)))
def aW_8 : Nat → Option (Instr × Nat) := fun pc => sx_iF (aS_8 pc) pc
theorem aX_8 : ∀ pc i len, aW_8 pc = some (i, len) → decode aM_8.1.2.1 pc = .ok (i, len) := fun pc i len h => sx_iF_s (aT_8 pc) h
def aI_9_0 : sx_IL := [(0, .iload_n 1, 1), (1, .ifCond .lt 14, 3), (4, .iload_n 1, 1), (5, .aload_n 0, 1), (6, .getfield 21, 3), (9, .getfield 69, 3)]
theorem aJ_9_0 : sx_iB prog_1_method_3_code aI_9_0 = true := by decide +kernel
def aI_9_1 : sx_IL := [(12, .if_icmp .le 5, 3), (15, .iconst (-1), 1), (16, .ireturn, 1), (17, .aload_n 0, 1), (18, .getfield 21, 3), (21, .getfield 69, 3)]
theorem aJ_9_1 : sx_iB prog_1_method_3_code aI_9_1 = true := by decide +kernel
def aI_9_2 : sx_IL := [(24, .iload_n 1, 1), (25, .isub, 1), (26, .istore_n 2, 1), (27, .aload_n 0, 1), (28, .getfield 21, 3), (31, .iload_n 1, 1)]
theorem aJ_9_2 : sx_iB prog_1_method_3_code aI_9_2 = true := by decide +kernel
def aI_9_3 : sx_IL := [(32, .putfield 69, 3), (35, .iload_n 2, 1), (36, .ireturn, 1)]
theorem aJ_9_3 : sx_iB prog_1_method_3_code aI_9_3 = true := by decide +kernel
def aS_9 (pc : Nat) : sx_IL := (if pc < 24 then (if pc < 12 then aI_9_0 else aI_9_1) else (if pc < 32 then aI_9_2 else aI_9_3))
theorem aT_9 (pc : Nat) : sx_iOk prog_1_method_3_code (aS_9 pc) := (sx_ite (p := fun l => sx_iOk prog_1_method_3_code l) (sx_ite (p := fun l => sx_iOk prog_1_method_3_code l) (sx_iB_s aJ_9_0) (sx_iB_s aJ_9_1)) (sx_ite (p := fun l => sx_iOk prog_1_method_3_code l) (sx_iB_s aJ_9_2) (sx_iB_s aJ_9_3)))
def aW_9 : Nat → Option (Instr × Nat) := fun pc => sx_iF (aS_9 pc) pc
theorem aX_9 : ∀ pc i len, aW_9 pc = some (i, len) → decode aM_9.1.2.1 pc = .ok (i, len) := fun pc i len h => sx_iF_s (aT_9 pc) h
def aI_10_0 : sx_IL := [(0, .iload_n 1, 1), (1, .iconst (-1), 1), (2, .if_icmp .lt 14, 3), (5, .iload_n 1, 1), (6, .aload_n 0, 1), (7, .getfield 25, 3)]
theorem aJ_10_0 : sx_iB prog_1_method_4_code aI_10_0 = true := by decide +kernel
def aI_10_1 : sx_IL := [(10, .getfield 69, 3), (13, .if_icmp .lt 5, 3), (16, .iconst (-1), 1), (17, .ireturn, 1), (18, .iload_n 1, 1), (19, .iconst (-1), 1)]
theorem aJ_10_1 : sx_iB prog_1_method_4_code aI_10_1 = true := by decide +kernel
def aI_10_2 : sx_IL := [(20, .if_icmp .ne 13, 3), (23, .aload_n 0, 1), (24, .getfield 25, 3), (27, .getfield 69, 3), (30, .goto 11, 3), (33, .aload_n 0, 1)]
theorem aJ_10_2 : sx_iB prog_1_method_4_code aI_10_2 = true := by decide +kernel
def aI_10_3 : sx_IL := [(34, .getfield 25, 3), (37, .iload_n 1, 1), (38, .invokevirtual 76, 3), (41, .ireturn, 1)]
theorem aJ_10_3 : sx_iB prog_1_method_4_code aI_10_3 = true := by decide +kernel
def aS_10 (pc : Nat) : sx_IL := (if pc < 20 then (if pc < 10 then aI_10_0 else aI_10_1) else (if pc < 34 then aI_10_2 else aI_10_3))
theorem aT_10 (pc : Nat) : sx_iOk prog_1_method_4_code (aS_10 pc) := (sx_ite (p := fun l => sx_iOk prog_1_method_4_code l) (sx_ite (p := fun l => sx_iOk prog_1_method_4_code l) (sx_iB_s aJ_10_0) (sx_iB_s aJ_10_1)) (sx_ite (p := fun l => sx_iOk prog_1_method_4_code l) (sx_iB_s aJ_10_2) (sx_iB_s aJ_10_3)))
def aW_10 : Nat → Option (Instr × Nat) := fun pc => sx_iF (aS_10 pc) pc
theorem aX_10 : ∀ pc i len, aW_10 pc = some (i, len) → decode aM_10.1.2.1 pc = .ok (i, len) := fun pc i len h => sx_iF_s (aT_10 pc) h
def aI_11_0 : sx_IL := [(0, .iload_n 1, 1), (1, .ifCond .lt 20, 3), (4, .iload_n 1, 1), (5, .aload_n 0, 1), (6, .getfield 19, 3), (9, .if_icmp .ge 12, 3)]
theorem aJ_11_0 : sx_iB prog_9_method_3_code aI_11_0 = true := by decide +kernel
def aI_11_1 : sx_IL := [(12, .aload_n 0, 1), (13, .getfield 13, 3), (16, .iload_n 1, 1), (17, .iaload, 1), (18, .goto 4, 3), (21, .iconst 0, 1)]
theorem aJ_11_1 : sx_iB prog_9_method_3_code aI_11_1 = true := by decide +kernel
def aI_11_2 : sx_IL := [(22, .ireturn, 1)]
theorem aJ_11_2 : sx_iB prog_9_method_3_code aI_11_2 = true := by decide +kernel
def aS_11 (pc : Nat) : sx_IL := (if pc < 12 then aI_11_0 else (if pc < 22 then aI_11_1 else aI_11_2))
theorem aT_11 (pc : Nat) : sx_iOk prog_9_method_3_code (aS_11 pc) := (sx_ite (p := fun l => sx_iOk prog_9_method_3_code l) (sx_iB_s aJ_11_0) (sx_ite (p := fun l => sx_iOk prog_9_method_3_code l) (sx_iB_s aJ_11_1) (sx_iB_s aJ_11_2)))
def aW_11 : Nat → Option (Instr × Nat) := fun pc => sx_iF (aS_11 pc) pc
theorem aX_11 : ∀ pc i len, aW_11 pc = some (i, len) → decode aM_11.1.2.1 pc = .ok (i, len) := fun pc i len h => sx_iF_s (aT_11 pc) h
def aI_12_0 : sx_IL := [(0, .aload_n 0, 1), (1, .getfield 21, 3), (4, .getfield 69, 3), (7, .aload_n 0, 1), (8, .getfield 25, 3), (11, .getfield 69, 3)]
theorem aJ_12_0 : sx_iB prog_1_method_5_code aI_12_0 = true := by decide +kernel
def aI_12_1 : sx_IL := [(14, .iadd, 1), (15, .sipush 800, 3), (18, .if_icmp .le 6, 3), (21, .bipush (-3), 2), (23, .ireturn, 1), (24, .aload_n 0, 1)]
theorem aJ_12_1 : sx_iB prog_1_method_5_code aI_12_1 = true := by decide +kernel
def aI_12_2 : sx_IL := [(25, .getfield 21, 3), (28, .aload_n 0, 1), (29, .getfield 25, 3), (32, .getfield 80, 3), (35, .iconst 0, 1), (36, .aload_n 0, 1)]
theorem aJ_12_2 : sx_iB prog_1_method_5_code aI_12_2 = true := by decide +kernel
def aI_12_3 : sx_IL := [(37, .getfield 25, 3), (40, .getfield 69, 3), (43, .invokevirtual 83, 3), (46, .aload_n 0, 1), (47, .getfield 21, 3), (50, .getfield 69, 3)]
theorem aJ_12_3 : sx_iB prog_1_method_5_code aI_12_3 = true := by decide +kernel
def aI_12_4 : sx_IL := [(53, .ireturn, 1)]
theorem aJ_12_4 : sx_iB prog_1_method_5_code aI_12_4 = true := by decide +kernel
def aS_12 (pc : Nat) : sx_IL := (if pc < 25 then (if pc < 14 then aI_12_0 else aI_12_1) else (if pc < 37 then aI_12_2 else (if pc < 53 then aI_12_3 else aI_12_4)))
theorem aT_12 (pc : Nat) : sx_iOk prog_1_method_5_code (aS_12 pc) := (sx_ite (p := fun l => sx_iOk prog_1_method_5_code l) (sx_ite (p := fun l => sx_iOk prog_1_method_5_code l) (sx_iB_s aJ_12_0) (sx_iB_s aJ_12_1)) (sx_ite (p := fun l => sx_iOk prog_1_method_5_code l) (sx_iB_s aJ_12_2) (sx_ite (p := fun l => sx_iOk prog_1_method_5_code l) (sx_iB_s aJ_12_3) (sx_iB_s aJ_12_4))))
def aW_12 : Nat → Option (Instr × Nat) := fun pc => sx_iF (aS_12 pc) pc
theorem aX_12 : ∀ pc i len, aW_12 pc = some (i, len) → decode aM_12.1.2.1 pc = .ok (i, len) := fun pc i len h => sx_iF_s (aT_12 pc) h
def aI_13_0 : sx_IL := [(0, .iload_n 2, 1), (1, .ifCond .lt 27, 3), (4, .iload_n 3, 1), (5, .aload_n 1, 1), (6, .arraylength, 1), (7, .if_icmp .gt 21, 3)]
theorem aJ_13_0 : sx_iB prog_9_method_12_code aI_13_0 = true := by decide +kernel
def aI_13_1 : sx_IL := [(10, .iload_n 2, 1), (11, .iload_n 3, 1), (12, .if_icmp .ge 16, 3), (15, .aload_n 0, 1), (16, .getfield 19, 3), (19, .iload_n 3, 1)]
theorem aJ_13_1 : sx_iB prog_9_method_12_code aI_13_1 = true := by decide +kernel
def aI_13_2 : sx_IL := [(20, .iload_n 2, 1), (21, .isub, 1), (22, .iadd, 1), (23, .ldc 32, 2), (25, .if_icmp .le 4, 3), (28, .return_, 1)]
theorem aJ_13_2 : sx_iB prog_9_method_12_code aI_13_2 = true := by decide +kernel
def aI_13_3 : sx_IL := [(29, .aload_n 0, 1), (30, .getfield 19, 3), (33, .iload_n 3, 1), (34, .iadd, 1), (35, .iload_n 2, 1), (36, .isub, 1)]
theorem aJ_13_3 : sx_iB prog_9_method_12_code aI_13_3 = true := by decide +kernel
def aI_13_4 : sx_IL := [(37, .aload_n 0, 1), (38, .getfield 13, 3), (41, .arraylength, 1), (42, .if_icmp .le 32, 3), (45, .aload_n 0, 1), (46, .aload_n 0, 1)]
theorem aJ_13_4 : sx_iB prog_9_method_12_code aI_13_4 = true := by decide +kernel
def aI_13_5 : sx_IL := [(47, .getfield 13, 3), (50, .iconst 2, 1), (51, .aload_n 0, 1), (52, .getfield 13, 3), (55, .arraylength, 1), (56, .imul, 1)]
theorem aJ_13_5 : sx_iB prog_9_method_12_code aI_13_5 = true := by decide +kernel
def aI_13_6 : sx_IL := [(57, .aload_n 0, 1), (58, .getfield 19, 3), (61, .iload_n 3, 1), (62, .iadd, 1), (63, .iload_n 2, 1), (64, .isub, 1)]
theorem aJ_13_6 : sx_iB prog_9_method_12_code aI_13_6 = true := by decide +kernel
def aI_13_7 : sx_IL := [(65, .invokestatic 7, 3), (68, .invokestatic 33, 3), (71, .putfield 13, 3), (74, .aload_n 1, 1), (75, .iload_n 2, 1), (76, .aload_n 0, 1)]
theorem aJ_13_7 : sx_iB prog_9_method_12_code aI_13_7 = true := by decide +kernel
def aI_13_8 : sx_IL := [(77, .getfield 13, 3), (80, .aload_n 0, 1), (81, .getfield 19, 3), (84, .iload_n 3, 1), (85, .iload_n 2, 1), (86, .isub, 1)]
theorem aJ_13_8 : sx_iB prog_9_method_12_code aI_13_8 = true := by decide +kernel
def aI_13_9 : sx_IL := [(87, .invokestatic 43, 3), (90, .aload_n 0, 1), (91, .dup, 1), (92, .getfield 19, 3), (95, .iload_n 3, 1), (96, .iload_n 2, 1)]
theorem aJ_13_9 : sx_iB prog_9_method_12_code aI_13_9 = true := by decide +kernel
def aI_13_10 : sx_IL := [(97, .isub, 1), (98, .iadd, 1), (99, .putfield 19, 3), (102, .return_, 1)]
theorem aJ_13_10 : sx_iB prog_9_method_12_code aI_13_10 = true := by decide +kernel
def aS_13 (pc : Nat) : sx_IL := (if pc < 47 then (if pc < 20 then (if pc < 10 then aI_13_0 else aI_13_1) else (if pc < 29 then aI_13_2 else (if pc < 37 then aI_13_3 else aI_13_4))) else (if pc < 77 then (if pc < 57 then aI_13_5 else (if pc < 65 then aI_13_6 else aI_13_7)) else (if pc < 87 then aI_13_8 else (if pc < 97 then aI_13_9 else aI_13_10))))
theorem aT_13 (pc : Nat) : sx_iOk prog_9_method_12_code (aS_13 pc) := (sx_ite (p := fun l => sx_iOk prog_9_method_12_code l) (sx_ite (p := fun l => sx_iOk prog_9_method_12_code l) (sx_ite (p := fun l => sx_iOk prog_9_method_12_code l) (sx_iB_s aJ_13_0) (sx_iB_s aJ_13_1)) (sx_ite (p := fun l => sx_iOk prog_9_method_12_code l) (sx_iB_s aJ_13_2) (sx_ite (p := fun l => sx_iOk prog_9_method_12_code l) (sx_iB_s aJ_13_3) (sx_iB_s aJ_13_4)))) (sx_ite (p := fun l => sx_iOk prog_9_method_12_code l) (sx_ite (p := fun l => sx_iOk prog_9_method_12_code l) (sx_iB_s aJ_13_5) (sx_ite (p := fun l => sx_iOk prog_9_method_12_code l) (sx_iB_s aJ_13_6) (sx_iB_s aJ_13_7))) (sx_ite (p := fun l => sx_iOk prog_9_method_12_code l) (sx_iB_s aJ_13_8) (sx_ite (p := fun l => sx_iOk prog_9_method_12_code l) (sx_iB_s aJ_13_9) (sx_iB_s aJ_13_10)))))
def aW_13 : Nat → Option (Instr × Nat) := fun pc => sx_iF (aS_13 pc) pc
theorem aX_13 : ∀ pc i len, aW_13 pc = some (i, len) → decode aM_13.1.2.1 pc = .ok (i, len) := fun pc i len h => sx_iF_s (aT_13 pc) h
def aI_14_0 : sx_IL := [(0, .iload_n 1, 1), (1, .ifCond .lt 9, 3), (4, .iload_n 1, 1), (5, .ldc 87, 2), (7, .if_icmp .le 5, 3), (10, .iconst (-1), 1)]
theorem aJ_14_0 : sx_iB prog_1_method_6_code aI_14_0 = true := by decide +kernel
def aI_14_1 : sx_IL := [(11, .ireturn, 1), (12, .aload_n 0, 1), (13, .getfield 10, 3), (16, .getfield 88, 3), (19, .ldc 91, 2), (21, .iload_n 1, 1)]
theorem aJ_14_1 : sx_iB prog_1_method_6_code aI_14_1 = true := by decide +kernel
def aI_14_2 : sx_IL := [(22, .isub, 1), (23, .if_icmp .le 6, 3), (26, .bipush (-2), 2), (28, .ireturn, 1), (29, .aload_n 0, 1), (30, .getfield 10, 3)]
theorem aJ_14_2 : sx_iB prog_1_method_6_code aI_14_2 = true := by decide +kernel
def aI_14_3 : sx_IL := [(33, .dup, 1), (34, .getfield 88, 3), (37, .iload_n 1, 1), (38, .iadd, 1), (39, .putfield 88, 3), (42, .aload_n 0, 1)]
theorem aJ_14_3 : sx_iB prog_1_method_6_code aI_14_3 = true := by decide +kernel
def aI_14_4 : sx_IL := [(43, .getfield 10, 3), (46, .getfield 88, 3), (49, .ireturn, 1)]
theorem aJ_14_4 : sx_iB prog_1_method_6_code aI_14_4 = true := by decide +kernel
def aS_14 (pc : Nat) : sx_IL := (if pc < 22 then (if pc < 11 then aI_14_0 else aI_14_1) else (if pc < 33 then aI_14_2 else (if pc < 43 then aI_14_3 else aI_14_4)))
theorem aT_14 (pc : Nat) : sx_iOk prog_1_method_6_code (aS_14 pc) := (sx_ite (p := fun l => sx_iOk prog_1_method_6_code l) (sx_ite (p := fun l => sx_iOk prog_1_method_6_code l) (sx_iB_s aJ_14_0) (sx_iB_s aJ_14_1)) (sx_ite (p := fun l => sx_iOk prog_1_method_6_code l) (sx_iB_s aJ_14_2) (sx_ite (p := fun l => sx_iOk prog_1_method_6_code l) (sx_iB_s aJ_14_3) (sx_iB_s aJ_14_4))))
def aW_14 : Nat → Option (Instr × Nat) := fun pc => sx_iF (aS_14 pc) pc
theorem aX_14 : ∀ pc i len, aW_14 pc = some (i, len) → decode aM_14.1.2.1 pc = .ok (i, len) := fun pc i len h => sx_iF_s (aT_14 pc) h
def aI_15_0 : sx_IL := [(0, .iload_n 1, 1), (1, .invokestatic 92, 3), (4, .ifCond .ne 7, 3), (7, .ldc2_w 96, 3), (10, .lreturn, 1), (11, .aload_n 0, 1)]
theorem aJ_15_0 : sx_iB prog_1_method_7_code aI_15_0 = true := by decide +kernel
def aI_15_1 : sx_IL := [(12, .getfield 10, 3), (15, .getfield 98, 3), (18, .iload_n 1, 1), (19, .aload_n 0, 1), (20, .getfield 21, 3), (23, .getfield 80, 3)]
theorem aJ_15_1 : sx_iB prog_1_method_7_code aI_15_1 = true := by decide +kernel
def aI_15_2 : sx_IL := [(26, .iconst 0, 1), (27, .aload_n 0, 1), (28, .getfield 21, 3), (31, .getfield 69, 3), (34, .invokevirtual 102, 3), (37, .lstore_n 2, 1)]
theorem aJ_15_2 : sx_iB prog_1_method_7_code aI_15_2 = true := by decide +kernel
def aI_15_3 : sx_IL := [(38, .aload_n 0, 1), (39, .getfield 21, 3), (42, .invokevirtual 108, 3), (45, .lload_n 2, 1), (46, .lreturn, 1)]
theorem aJ_15_3 : sx_iB prog_1_method_7_code aI_15_3 = true := by decide +kernel
def aS_15 (pc : Nat) : sx_IL := (if pc < 26 then (if pc < 12 then aI_15_0 else aI_15_1) else (if pc < 38 then aI_15_2 else aI_15_3))
theorem aT_15 (pc : Nat) : sx_iOk prog_1_method_7_code (aS_15 pc) := (sx_ite (p := fun l => sx_iOk prog_1_method_7_code l) (sx_ite (p := fun l => sx_iOk prog_1_method_7_code l) (sx_iB_s aJ_15_0) (sx_iB_s aJ_15_1)) (sx_ite (p := fun l => sx_iOk prog_1_method_7_code l) (sx_iB_s aJ_15_2) (sx_iB_s aJ_15_3)))
def aW_15 : Nat → Option (Instr × Nat) := fun pc => sx_iF (aS_15 pc) pc
theorem aX_15 : ∀ pc i len, aW_15 pc = some (i, len) → decode aM_15.1.2.1 pc = .ok (i, len) := fun pc i len h => sx_iF_s (aT_15 pc) h
def aI_16_0 : sx_IL := [(0, .iload_n 0, 1), (1, .ifCond .eq 8, 3), (4, .iload_n 0, 1), (5, .iconst 1, 1), (6, .if_icmp .ne 7, 3), (9, .iconst 1, 1)]
theorem aJ_16_0 : sx_iB prog_1_method_17_code aI_16_0 = true := by decide +kernel
def aI_16_1 : sx_IL := [(10, .goto 4, 3), (13, .iconst 0, 1), (14, .ireturn, 1)]
theorem aJ_16_1 : sx_iB prog_1_method_17_code aI_16_1 = true := by decide +kernel
def aS_16 (pc : Nat) : sx_IL := (if pc < 10 then aI_16_0 else aI_16_1)
theorem aT_16 (pc : Nat) : sx_iOk prog_1_method_17_code (aS_16 pc) := (sx_ite (p := fun l => sx_iOk prog_1_method_17_code l) (sx_iB_s aJ_16_0) (sx_iB_s aJ_16_1))
def aW_16 : Nat → Option (Instr × Nat) := fun pc => sx_iF (aS_16 pc) pc
theorem aX_16 : ∀ pc i len, aW_16 pc = some (i, len) → decode aM_16.1.2.1 pc = .ok (i, len) := fun pc i len h => sx_iF_s (aT_16 pc) h
def aI_17_0 : sx_IL := [(0, .aload_n 0, 1), (1, .iload_n 1, 1), (2, .invokevirtual 41, 3), (5, .aload_n 0, 1), (6, .aload_n 2, 1), (7, .iload_n 3, 1)]
theorem aJ_17_0 : sx_iB prog_6_method_12_code aI_17_0 = true := by decide +kernel
def aI_17_1 : sx_IL := [(8, .iload 4, 2), (10, .invokevirtual 45, 3), (13, .aload_n 0, 1), (14, .invokevirtual 49, 3), (17, .lreturn, 1)]
theorem aJ_17_1 : sx_iB prog_6_method_12_code aI_17_1 = true := by decide +kernel
def aS_17 (pc : Nat) : sx_IL := (if pc < 8 then aI_17_0 else aI_17_1)
theorem aT_17 (pc : Nat) : sx_iOk prog_6_method_12_code (aS_17 pc) := (sx_ite (p := fun l => sx_iOk prog_6_method_12_code l) (sx_iB_s aJ_17_0) (sx_iB_s aJ_17_1))
def aW_17 : Nat → Option (Instr × Nat) := fun pc => sx_iF (aS_17 pc) pc
theorem aX_17 : ∀ pc i len, aW_17 pc = some (i, len) → decode aM_17.1.2.1 pc = .ok (i, len) := fun pc i len h => sx_iF_s (aT_17 pc) h
def aI_18_0 : sx_IL := [(0, .aload_n 0, 1), (1, .iconst 1, 1), (2, .iload_n 1, 1), (3, .iadd, 1), (4, .putfield 7, 3), (7, .aload_n 0, 1)]
theorem aJ_18_0 : sx_iB prog_6_method_4_code aI_18_0 = true := by decide +kernel
def aI_18_1 : sx_IL := [(8, .iconst 2, 1), (9, .iload_n 1, 1), (10, .iadd, 1), (11, .putfield 13, 3), (14, .aload_n 0, 1), (15, .iconst 3, 1)]
theorem aJ_18_1 : sx_iB prog_6_method_4_code aI_18_1 = true := by decide +kernel
def aI_18_2 : sx_IL := [(16, .iload_n 1, 1), (17, .iadd, 1), (18, .putfield 16, 3), (21, .aload_n 0, 1), (22, .iconst 4, 1), (23, .iload_n 1, 1)]
theorem aJ_18_2 : sx_iB prog_6_method_4_code aI_18_2 = true := by decide +kernel
def aI_18_3 : sx_IL := [(24, .iadd, 1), (25, .putfield 19, 3), (28, .aload_n 0, 1), (29, .iconst 0, 1), (30, .putfield 22, 3), (33, .return_, 1)]
theorem aJ_18_3 : sx_iB prog_6_method_4_code aI_18_3 = true := by decide +kernel
def aS_18 (pc : Nat) : sx_IL := (if pc < 16 then (if pc < 8 then aI_18_0 else aI_18_1) else (if pc < 24 then aI_18_2 else aI_18_3))
theorem aT_18 (pc : Nat) : sx_iOk prog_6_method_4_code (aS_18 pc) := (sx_ite (p := fun l => sx_iOk prog_6_method_4_code l) (sx_ite (p := fun l => sx_iOk prog_6_method_4_code l) (sx_iB_s aJ_18_0) (sx_iB_s aJ_18_1)) (sx_ite (p := fun l => sx_iOk prog_6_method_4_code l) (sx_iB_s aJ_18_2) (sx_iB_s aJ_18_3)))
def aW_18 : Nat → Option (Instr × Nat) := fun pc => sx_iF (aS_18 pc) pc
theorem aX_18 : ∀ pc i len, aW_18 pc = some (i, len) → decode aM_18.1.2.1 pc = .ok (i, len) := fun pc i len h => sx_iF_s (aT_18 pc) h
def aI_19_0 : sx_IL := [(0, .iload_n 2, 1), (1, .ifCond .lt 9, 3), (4, .iload_n 3, 1), (5, .aload_n 1, 1), (6, .arraylength, 1), (7, .if_icmp .le 4, 3)]
theorem aJ_19_0 : sx_iB prog_6_method_10_code aI_19_0 = true := by decide +kernel
def aI_19_1 : sx_IL := [(10, .return_, 1), (11, .iload_n 2, 1), (12, .istore 4, 2), (14, .iload 4, 2), (16, .iload_n 3, 1), (17, .if_icmp .ge 54, 3)]
theorem aJ_19_1 : sx_iB prog_6_method_10_code aI_19_1 = true := by decide +kernel
def aI_19_2 : sx_IL := [(20, .aload_n 0, 1), (21, .aload_n 0, 1), (22, .getfield 25, 3), (25, .bipush 8, 2), (27, .lshl, 1), (28, .aload_n 1, 1)]
theorem aJ_19_2 : sx_iB prog_6_method_10_code aI_19_2 = true := by decide +kernel
def aI_19_3 : sx_IL := [(29, .iload 4, 2), (31, .iaload, 1), (32, .i2l, 1), (33, .lor, 1), (34, .putfield 25, 3), (37, .aload_n 0, 1)]
theorem aJ_19_3 : sx_iB prog_6_method_10_code aI_19_3 = true := by decide +kernel
def aI_19_4 : sx_IL := [(38, .dup, 1), (39, .getfield 22, 3), (42, .iconst 1, 1), (43, .iadd, 1), (44, .putfield 22, 3), (47, .aload_n 0, 1)]
theorem aJ_19_4 : sx_iB prog_6_method_10_code aI_19_4 = true := by decide +kernel
def aI_19_5 : sx_IL := [(48, .getfield 22, 3), (51, .bipush 7, 2), (53, .iand, 1), (54, .ifCond .ne 11, 3), (57, .aload_n 0, 1), (58, .aload_n 0, 1)]
theorem aJ_19_5 : sx_iB prog_6_method_10_code aI_19_5 = true := by decide +kernel
def aI_19_6 : sx_IL := [(59, .getfield 25, 3), (62, .invokevirtual 31, 3), (65, .iinc 4 1, 3), (68, .goto (-54), 3), (71, .return_, 1)]
theorem aJ_19_6 : sx_iB prog_6_method_10_code aI_19_6 = true := by decide +kernel
def aS_19 (pc : Nat) : sx_IL := (if pc < 29 then (if pc < 10 then aI_19_0 else (if pc < 20 then aI_19_1 else aI_19_2)) else (if pc < 48 then (if pc < 38 then aI_19_3 else aI_19_4) else (if pc < 59 then aI_19_5 else aI_19_6)))
theorem aT_19 (pc : Nat) : sx_iOk prog_6_method_10_code (aS_19 pc) := (sx_ite (p := fun l => sx_iOk prog_6_method_10_code l) (sx_ite (p := fun l => sx_iOk prog_6_method_10_code l) (sx_iB_s aJ_19_0) (sx_ite (p := fun l => sx_iOk prog_6_method_10_code l) (sx_iB_s aJ_19_1) (sx_iB_s aJ_19_2))) (sx_ite (p := fun l => sx_iOk prog_6_method_10_code l) (sx_ite (p := fun l => sx_iOk prog_6_method_10_code l) (sx_iB_s aJ_19_3) (sx_iB_s aJ_19_4)) (sx_ite (p := fun l => sx_iOk prog_6_method_10_code l) (sx_iB_s aJ_19_5) (sx_iB_s aJ_19_6))))
def aW_19 : Nat → Option (Instr × Nat) := fun pc => sx_iF (aS_19 pc) pc
theorem aX_19 : ∀ pc i len, aW_19 pc = some (i, len) → decode aM_19.1.2.1 pc = .ok (i, len) := fun pc i len h => sx_iF_s (aT_19 pc) h
def aI_20_0 : sx_IL := [(0, .aload_n 0, 1), (1, .getfield 7, 3), (4, .lload_n 1, 1), (5, .bipush 32, 2), (7, .lushr, 1), (8, .l2i, 1)]
theorem aJ_20_0 : sx_iB prog_6_method_6_code aI_20_0 = true := by decide +kernel
def aI_20_1 : sx_IL := [(9, .ixor, 1), (10, .istore_n 3, 1), (11, .aload_n 0, 1), (12, .getfield 13, 3), (15, .lload_n 1, 1), (16, .l2i, 1)]
theorem aJ_20_1 : sx_iB prog_6_method_6_code aI_20_1 = true := by decide +kernel
def aI_20_2 : sx_IL := [(17, .ixor, 1), (18, .istore 4, 2), (20, .aload_n 0, 1), (21, .getfield 16, 3), (24, .istore 5, 2), (26, .aload_n 0, 1)]
theorem aJ_20_2 : sx_iB prog_6_method_6_code aI_20_2 = true := by decide +kernel
def aI_20_3 : sx_IL := [(27, .getfield 19, 3), (30, .istore 6, 2), (32, .iconst 1, 1), (33, .istore 7, 2), (35, .iload 7, 2), (37, .bipush 8, 2)]
theorem aJ_20_3 : sx_iB prog_6_method_6_code aI_20_3 = true := by decide +kernel
def aI_20_4 : sx_IL := [(39, .if_icmp .gt 116, 3), (42, .iload_n 3, 1), (43, .iload 4, 2), (45, .iadd, 1), (46, .istore_n 3, 1), (47, .iload 6, 2)]
theorem aJ_20_4 : sx_iB prog_6_method_6_code aI_20_4 = true := by decide +kernel
def aI_20_5 : sx_IL := [(49, .iload_n 3, 1), (50, .ixor, 1), (51, .istore 6, 2), (53, .iload 6, 2), (55, .bipush 16, 2), (57, .ishl, 1)]
theorem aJ_20_5 : sx_iB prog_6_method_6_code aI_20_5 = true := by decide +kernel
def aI_20_6 : sx_IL := [(58, .iload 6, 2), (60, .bipush 16, 2), (62, .iushr, 1), (63, .ior, 1), (64, .istore 6, 2), (66, .iload 5, 2)]
theorem aJ_20_6 : sx_iB prog_6_method_6_code aI_20_6 = true := by decide +kernel
def aI_20_7 : sx_IL := [(68, .iload 6, 2), (70, .iadd, 1), (71, .istore 5, 2), (73, .iload 4, 2), (75, .iload 5, 2), (77, .ixor, 1)]
theorem aJ_20_7 : sx_iB prog_6_method_6_code aI_20_7 = true := by decide +kernel
def aI_20_8 : sx_IL := [(78, .istore 4, 2), (80, .iload 4, 2), (82, .bipush 12, 2), (84, .ishl, 1), (85, .iload 4, 2), (87, .bipush 20, 2)]
theorem aJ_20_8 : sx_iB prog_6_method_6_code aI_20_8 = true := by decide +kernel
def aI_20_9 : sx_IL := [(89, .iushr, 1), (90, .ior, 1), (91, .istore 4, 2), (93, .iload_n 3, 1), (94, .iload 4, 2), (96, .iadd, 1)]
theorem aJ_20_9 : sx_iB prog_6_method_6_code aI_20_9 = true := by decide +kernel
def aI_20_10 : sx_IL := [(97, .istore_n 3, 1), (98, .iload 6, 2), (100, .iload_n 3, 1), (101, .ixor, 1), (102, .istore 6, 2), (104, .iload 6, 2)]
theorem aJ_20_10 : sx_iB prog_6_method_6_code aI_20_10 = true := by decide +kernel
def aI_20_11 : sx_IL := [(106, .bipush 8, 2), (108, .ishl, 1), (109, .iload 6, 2), (111, .bipush 24, 2), (113, .iushr, 1), (114, .ior, 1)]
theorem aJ_20_11 : sx_iB prog_6_method_6_code aI_20_11 = true := by decide +kernel
def aI_20_12 : sx_IL := [(115, .istore 6, 2), (117, .iload 5, 2), (119, .iload 6, 2), (121, .iadd, 1), (122, .istore 5, 2), (124, .iload 4, 2)]
theorem aJ_20_12 : sx_iB prog_6_method_6_code aI_20_12 = true := by decide +kernel
def aI_20_13 : sx_IL := [(126, .iload 5, 2), (128, .ixor, 1), (129, .istore 4, 2), (131, .iload 4, 2), (133, .bipush 7, 2), (135, .ishl, 1)]
theorem aJ_20_13 : sx_iB prog_6_method_6_code aI_20_13 = true := by decide +kernel
def aI_20_14 : sx_IL := [(136, .iload 4, 2), (138, .bipush 25, 2), (140, .iushr, 1), (141, .ior, 1), (142, .istore 4, 2), (144, .iload_n 3, 1)]
theorem aJ_20_14 : sx_iB prog_6_method_6_code aI_20_14 = true := by decide +kernel
def aI_20_15 : sx_IL := [(145, .iload 7, 2), (147, .ixor, 1), (148, .istore_n 3, 1), (149, .iinc 7 1, 3), (152, .goto (-117), 3), (155, .aload_n 0, 1)]
theorem aJ_20_15 : sx_iB prog_6_method_6_code aI_20_15 = true := by decide +kernel
def aI_20_16 : sx_IL := [(156, .iload_n 3, 1), (157, .putfield 7, 3), (160, .aload_n 0, 1), (161, .iload 4, 2), (163, .putfield 13, 3), (166, .aload_n 0, 1)]
theorem aJ_20_16 : sx_iB prog_6_method_6_code aI_20_16 = true := by decide +kernel
def aI_20_17 : sx_IL := [(167, .iload 5, 2), (169, .putfield 16, 3), (172, .aload_n 0, 1), (173, .iload 6, 2), (175, .putfield 19, 3), (178, .return_, 1)]
theorem aJ_20_17 : sx_iB prog_6_method_6_code aI_20_17 = true := by decide +kernel
def aS_20 (pc : Nat) : sx_IL := (if pc < 89 then (if pc < 39 then (if pc < 17 then (if pc < 9 then aI_20_0 else aI_20_1) else (if pc < 27 then aI_20_2 else aI_20_3)) else (if pc < 58 then (if pc < 49 then aI_20_4 else aI_20_5) else (if pc < 68 then aI_20_6 else (if pc < 78 then aI_20_7 else aI_20_8)))) else (if pc < 126 then (if pc < 106 then (if pc < 97 then aI_20_9 else aI_20_10) else (if pc < 115 then aI_20_11 else aI_20_12)) else (if pc < 145 then (if pc < 136 then aI_20_13 else aI_20_14) else (if pc < 156 then aI_20_15 else (if pc < 167 then aI_20_16 else aI_20_17)))))
theorem aT_20 (pc : Nat) : sx_iOk prog_6_method_6_code (aS_20 pc) := (sx_ite (p := fun l => sx_iOk prog_6_method_6_code l) (sx_ite (p := fun l => sx_iOk prog_6_method_6_code l) (sx_ite (p := fun l => sx_iOk prog_6_method_6_code l) (sx_ite (p := fun l => sx_iOk prog_6_method_6_code l) (sx_iB_s aJ_20_0) (sx_iB_s aJ_20_1)) (sx_ite (p := fun l => sx_iOk prog_6_method_6_code l) (sx_iB_s aJ_20_2) (sx_iB_s aJ_20_3))) (sx_ite (p := fun l => sx_iOk prog_6_method_6_code l) (sx_ite (p := fun l => sx_iOk prog_6_method_6_code l) (sx_iB_s aJ_20_4) (sx_iB_s aJ_20_5)) (sx_ite (p := fun l => sx_iOk prog_6_method_6_code l) (sx_iB_s aJ_20_6) (sx_ite (p := fun l => sx_iOk prog_6_method_6_code l) (sx_iB_s aJ_20_7) (sx_iB_s aJ_20_8))))) (sx_ite (p := fun l => sx_iOk prog_6_method_6_code l) (sx_ite (p := fun l => sx_iOk prog_6_method_6_code l) (sx_ite (p := fun l => sx_iOk prog_6_method_6_code l) (sx_iB_s aJ_20_9) (sx_iB_s aJ_20_10)) (sx_ite (p := fun l => sx_iOk prog_6_method_6_code l) (sx_iB_s aJ_20_11) (sx_iB_s aJ_20_12))) (sx_ite (p := fun l => sx_iOk prog_6_method_6_code l) (sx_ite (p := fun l => sx_iOk prog_6_method_6_code l) (sx_iB_s aJ_20_13) (sx_iB_s aJ_20_14)) (sx_ite (p := fun l => sx_iOk prog_6_method_6_code l) (sx_iB_s aJ_20_15) (sx_ite (p := fun l => sx_iOk prog_6_method_6_code l) (sx_iB_s aJ_20_16) (sx_iB_s aJ_20_17))))))
def aW_20 : Nat → Option (Instr × Nat) := fun pc => sx_iF (aS_20 pc) pc
theorem aX_20 : ∀ pc i len, aW_20 pc = some (i, len) → decode aM_20.1.2.1 pc = .ok (i, len) := fun pc i len h => sx_iF_s (aT_20 pc) h
def aI_21_0 : sx_IL := [(0, .aload_n 0, 1), (1, .aload_n 0, 1), (2, .getfield 25, 3), (5, .bipush 8, 2), (7, .lshl, 1), (8, .ldc2_w 35, 3)]
theorem aJ_21_0 : sx_iB prog_6_method_11_code aI_21_0 = true := by decide +kernel
def aI_21_1 : sx_IL := [(11, .lor, 1), (12, .bipush 8, 2), (14, .bipush 7, 2), (16, .aload_n 0, 1), (17, .getfield 22, 3), (20, .bipush 7, 2)]
theorem aJ_21_1 : sx_iB prog_6_method_11_code aI_21_1 = true := by decide +kernel
def aI_21_2 : sx_IL := [(22, .iand, 1), (23, .isub, 1), (24, .imul, 1), (25, .lshl, 1), (26, .invokevirtual 31, 3), (29, .aload_n 0, 1)]
theorem aJ_21_2 : sx_iB prog_6_method_11_code aI_21_2 = true := by decide +kernel
def aI_21_3 : sx_IL := [(30, .dup, 1), (31, .getfield 16, 3), (34, .aload_n 0, 1), (35, .getfield 22, 3), (38, .ixor, 1), (39, .putfield 16, 3)]
theorem aJ_21_3 : sx_iB prog_6_method_11_code aI_21_3 = true := by decide +kernel
def aI_21_4 : sx_IL := [(42, .aload_n 0, 1), (43, .lconst 0, 1), (44, .invokevirtual 31, 3), (47, .aload_n 0, 1), (48, .invokevirtual 37, 3), (51, .lreturn, 1)]
theorem aJ_21_4 : sx_iB prog_6_method_11_code aI_21_4 = true := by decide +kernel
def aS_21 (pc : Nat) : sx_IL := (if pc < 22 then (if pc < 11 then aI_21_0 else aI_21_1) else (if pc < 30 then aI_21_2 else (if pc < 42 then aI_21_3 else aI_21_4)))
theorem aT_21 (pc : Nat) : sx_iOk prog_6_method_11_code (aS_21 pc) := (sx_ite (p := fun l => sx_iOk prog_6_method_11_code l) (sx_ite (p := fun l => sx_iOk prog_6_method_11_code l) (sx_iB_s aJ_21_0) (sx_iB_s aJ_21_1)) (sx_ite (p := fun l => sx_iOk prog_6_method_11_code l) (sx_iB_s aJ_21_2) (sx_ite (p := fun l => sx_iOk prog_6_method_11_code l) (sx_iB_s aJ_21_3) (sx_iB_s aJ_21_4))))
def aW_21 : Nat → Option (Instr × Nat) := fun pc => sx_iF (aS_21 pc) pc
theorem aX_21 : ∀ pc i len, aW_21 pc = some (i, len) → decode aM_21.1.2.1 pc = .ok (i, len) := fun pc i len h => sx_iF_s (aT_21 pc) h
def aI_22_0 : sx_IL := [(0, .aload_n 0, 1), (1, .getfield 7, 3), (4, .aload_n 0, 1), (5, .getfield 16, 3), (8, .ixor, 1), (9, .i2l, 1)]
theorem aJ_22_0 : sx_iB prog_6_method_7_code aI_22_0 = true := by decide +kernel
def aI_22_1 : sx_IL := [(10, .bipush 32, 2), (12, .lshl, 1), (13, .aload_n 0, 1), (14, .getfield 13, 3), (17, .aload_n 0, 1), (18, .getfield 19, 3)]
theorem aJ_22_1 : sx_iB prog_6_method_7_code aI_22_1 = true := by decide +kernel
def aI_22_2 : sx_IL := [(21, .ixor, 1), (22, .i2l, 1), (23, .ldc2_w 29, 3), (26, .land, 1), (27, .lor, 1), (28, .lreturn, 1)]
theorem aJ_22_2 : sx_iB prog_6_method_7_code aI_22_2 = true := by decide +kernel
def aS_22 (pc : Nat) : sx_IL := (if pc < 10 then aI_22_0 else (if pc < 21 then aI_22_1 else aI_22_2))
theorem aT_22 (pc : Nat) : sx_iOk prog_6_method_7_code (aS_22 pc) := (sx_ite (p := fun l => sx_iOk prog_6_method_7_code l) (sx_iB_s aJ_22_0) (sx_ite (p := fun l => sx_iOk prog_6_method_7_code l) (sx_iB_s aJ_22_1) (sx_iB_s aJ_22_2)))
def aW_22 : Nat → Option (Instr × Nat) := fun pc => sx_iF (aS_22 pc) pc
theorem aX_22 : ∀ pc i len, aW_22 pc = some (i, len) → decode aM_22.1.2.1 pc = .ok (i, len) := fun pc i len h => sx_iF_s (aT_22 pc) h
def aI_23_0 : sx_IL := [(0, .aload_n 0, 1), (1, .iconst 0, 1), (2, .putfield 19, 3), (5, .return_, 1)]
theorem aJ_23_0 : sx_iB prog_9_method_2_code aI_23_0 = true := by decide +kernel
def aS_23 (pc : Nat) : sx_IL := aI_23_0
theorem aT_23 (pc : Nat) : sx_iOk prog_9_method_2_code (aS_23 pc) := (sx_iB_s aJ_23_0)
def aW_23 : Nat → Option (Instr × Nat) := fun pc => sx_iF (aS_23 pc) pc
theorem aX_23 : ∀ pc i len, aW_23 pc = some (i, len) → decode aM_23.1.2.1 pc = .ok (i, len) := fun pc i len h => sx_iF_s (aT_23 pc) h
def aI_24_0 : sx_IL := [(0, .iload_n 1, 1), (1, .invokestatic 92, 3), (4, .ifCond .ne 7, 3), (7, .ldc2_w 96, 3), (10, .lreturn, 1), (11, .aload_n 0, 1)]
theorem aJ_24_0 : sx_iB prog_1_method_8_code aI_24_0 = true := by decide +kernel
def aI_24_1 : sx_IL := [(12, .getfield 10, 3), (15, .getfield 98, 3), (18, .iload_n 1, 1), (19, .lload_n 2, 1), (20, .aload_n 0, 1), (21, .getfield 21, 3)]
theorem aJ_24_1 : sx_iB prog_1_method_8_code aI_24_1 = true := by decide +kernel
def aI_24_2 : sx_IL := [(24, .getfield 80, 3), (27, .iconst 0, 1), (28, .aload_n 0, 1), (29, .getfield 21, 3), (32, .getfield 69, 3), (35, .invokevirtual 111, 3)]
theorem aJ_24_2 : sx_iB prog_1_method_8_code aI_24_2 = true := by decide +kernel
def aI_24_3 : sx_IL := [(38, .lstore 4, 2), (40, .aload_n 0, 1), (41, .getfield 21, 3), (44, .invokevirtual 108, 3), (47, .lload 4, 2), (49, .lreturn, 1)]
theorem aJ_24_3 : sx_iB prog_1_method_8_code aI_24_3 = true := by decide +kernel
def aS_24 (pc : Nat) : sx_IL := (if pc < 24 then (if pc < 12 then aI_24_0 else aI_24_1) else (if pc < 38 then aI_24_2 else aI_24_3))
theorem aT_24 (pc : Nat) : sx_iOk prog_1_method_8_code (aS_24 pc) := (sx_ite (p := fun l => sx_iOk prog_1_method_8_code l) (sx_ite (p := fun l => sx_iOk prog_1_method_8_code l) (sx_iB_s aJ_24_0) (sx_iB_s aJ_24_1)) (sx_ite (p := fun l => sx_iOk prog_1_method_8_code l) (sx_iB_s aJ_24_2) (sx_iB_s aJ_24_3)))
def aW_24 : Nat → Option (Instr × Nat) := fun pc => sx_iF (aS_24 pc) pc
theorem aX_24 : ∀ pc i len, aW_24 pc = some (i, len) → decode aM_24.1.2.1 pc = .ok (i, len) := fun pc i len h => sx_iF_s (aT_24 pc) h
def aI_25_0 : sx_IL := [(0, .aload_n 0, 1), (1, .iload_n 1, 1), (2, .lload_n 2, 1), (3, .invokevirtual 58, 3), (6, .aload_n 0, 1), (7, .aload 4, 2)]
theorem aJ_25_0 : sx_iB prog_6_method_15_code aI_25_0 = true := by decide +kernel
def aI_25_1 : sx_IL := [(9, .iload 5, 2), (11, .iload 6, 2), (13, .invokevirtual 45, 3), (16, .aload_n 0, 1), (17, .iload_n 1, 1), (18, .lload_n 2, 1)]
theorem aJ_25_1 : sx_iB prog_6_method_15_code aI_25_1 = true := by decide +kernel
def aI_25_2 : sx_IL := [(19, .aload_n 0, 1), (20, .invokevirtual 49, 3), (23, .invokevirtual 62, 3), (26, .lreturn, 1)]
theorem aJ_25_2 : sx_iB prog_6_method_15_code aI_25_2 = true := by decide +kernel
def aS_25 (pc : Nat) : sx_IL := (if pc < 9 then aI_25_0 else (if pc < 19 then aI_25_1 else aI_25_2))
theorem aT_25 (pc : Nat) : sx_iOk prog_6_method_15_code (aS_25 pc) := (sx_ite (p := fun l => sx_iOk prog_6_method_15_code l) (sx_iB_s aJ_25_0) (sx_ite (p := fun l => sx_iOk prog_6_method_15_code l) (sx_iB_s aJ_25_1) (sx_iB_s aJ_25_2)))
def aW_25 : Nat → Option (Instr × Nat) := fun pc => sx_iF (aS_25 pc) pc
theorem aX_25 : ∀ pc i len, aW_25 pc = some (i, len) → decode aM_25.1.2.1 pc = .ok (i, len) := fun pc i len h => sx_iF_s (aT_25 pc) h
def aI_26_0 : sx_IL := [(0, .aload_n 0, 1), (1, .iload_n 1, 1), (2, .invokevirtual 41, 3), (5, .aload_n 0, 1), (6, .lload_n 2, 1), (7, .ldc2_w 56, 3)]
theorem aJ_26_0 : sx_iB prog_6_method_14_code aI_26_0 = true := by decide +kernel
def aI_26_1 : sx_IL := [(10, .lxor, 1), (11, .invokevirtual 31, 3), (14, .aload_n 0, 1), (15, .bipush 8, 2), (17, .putfield 22, 3), (20, .return_, 1)]
theorem aJ_26_1 : sx_iB prog_6_method_14_code aI_26_1 = true := by decide +kernel
def aS_26 (pc : Nat) : sx_IL := (if pc < 10 then aI_26_0 else aI_26_1)
theorem aT_26 (pc : Nat) : sx_iOk prog_6_method_14_code (aS_26 pc) := (sx_ite (p := fun l => sx_iOk prog_6_method_14_code l) (sx_iB_s aJ_26_0) (sx_iB_s aJ_26_1))
def aW_26 : Nat → Option (Instr × Nat) := fun pc => sx_iF (aS_26 pc) pc
theorem aX_26 : ∀ pc i len, aW_26 pc = some (i, len) → decode aM_26.1.2.1 pc = .ok (i, len) := fun pc i len h => sx_iF_s (aT_26 pc) h
def aI_27_0 : sx_IL := [(0, .aload_n 0, 1), (1, .iload_n 1, 1), (2, .invokevirtual 41, 3), (5, .aload_n 0, 1), (6, .lload_n 2, 1), (7, .ldc2_w 52, 3)]
theorem aJ_27_0 : sx_iB prog_6_method_13_code aI_27_0 = true := by decide +kernel
def aI_27_1 : sx_IL := [(10, .lxor, 1), (11, .invokevirtual 31, 3), (14, .aload_n 0, 1), (15, .lload 4, 2), (17, .invokevirtual 31, 3), (20, .aload_n 0, 1)]
theorem aJ_27_1 : sx_iB prog_6_method_13_code aI_27_1 = true := by decide +kernel
def aI_27_2 : sx_IL := [(21, .ldc2_w 54, 3), (24, .invokevirtual 31, 3), (27, .aload_n 0, 1), (28, .dup, 1), (29, .getfield 16, 3), (32, .bipush 16, 2)]
theorem aJ_27_2 : sx_iB prog_6_method_13_code aI_27_2 = true := by decide +kernel
def aI_27_3 : sx_IL := [(34, .ixor, 1), (35, .putfield 16, 3), (38, .aload_n 0, 1), (39, .lconst 0, 1), (40, .invokevirtual 31, 3), (43, .aload_n 0, 1)]
theorem aJ_27_3 : sx_iB prog_6_method_13_code aI_27_3 = true := by decide +kernel
def aI_27_4 : sx_IL := [(44, .invokevirtual 37, 3), (47, .lreturn, 1)]
theorem aJ_27_4 : sx_iB prog_6_method_13_code aI_27_4 = true := by decide +kernel
def aS_27 (pc : Nat) : sx_IL := (if pc < 21 then (if pc < 10 then aI_27_0 else aI_27_1) else (if pc < 34 then aI_27_2 else (if pc < 44 then aI_27_3 else aI_27_4)))
theorem aT_27 (pc : Nat) : sx_iOk prog_6_method_13_code (aS_27 pc) := (sx_ite (p := fun l => sx_iOk prog_6_method_13_code l) (sx_ite (p := fun l => sx_iOk prog_6_method_13_code l) (sx_iB_s aJ_27_0) (sx_iB_s aJ_27_1)) (sx_ite (p := fun l => sx_iOk prog_6_method_13_code l) (sx_iB_s aJ_27_2) (sx_ite (p := fun l => sx_iOk prog_6_method_13_code l) (sx_iB_s aJ_27_3) (sx_iB_s aJ_27_4))))
def aW_27 : Nat → Option (Instr × Nat) := fun pc => sx_iF (aS_27 pc) pc
theorem aX_27 : ∀ pc i len, aW_27 pc = some (i, len) → decode aM_27.1.2.1 pc = .ok (i, len) := fun pc i len h => sx_iF_s (aT_27 pc) h
def aI_43_0 : sx_IL := [(0, .iload_n 3, 1), (1, .iconst 2, 1), (2, .invokestatic 103, 3), (5, .istore 4, 2), (7, .lconst 1, 1), (8, .lstore 5, 2)]
theorem aJ_43_0 : sx_iB prog_6_method_21_code aI_43_0 = true := by decide +kernel
def aI_43_1 : sx_IL := [(10, .lload_n 0, 1), (11, .lstore 7, 2), (13, .iconst 0, 1), (14, .istore 9, 2), (16, .iload 9, 2), (18, .bipush 31, 2)]
theorem aJ_43_1 : sx_iB prog_6_method_21_code aI_43_1 = true := by decide +kernel
def aI_43_2 : sx_IL := [(20, .if_icmp .ge 48, 3), (23, .iload_n 2, 1), (24, .iload 9, 2), (26, .iushr, 1), (27, .ifCond .eq 41, 3), (30, .iload_n 2, 1)]
theorem aJ_43_2 : sx_iB prog_6_method_21_code aI_43_2 = true := by decide +kernel
def aI_43_3 : sx_IL := [(31, .iload 9, 2), (33, .iushr, 1), (34, .iconst 1, 1), (35, .iand, 1), (36, .iconst 1, 1), (37, .if_icmp .ne 14, 3)]
theorem aJ_43_3 : sx_iB prog_6_method_21_code aI_43_3 = true := by decide +kernel
def aI_43_4 : sx_IL := [(40, .lload 5, 2), (42, .lload 7, 2), (44, .lmul, 1), (45, .iload 4, 2), (47, .i2l, 1), (48, .lrem, 1)]
theorem aJ_43_4 : sx_iB prog_6_method_21_code aI_43_4 = true := by decide +kernel
def aI_43_5 : sx_IL := [(49, .lstore 5, 2), (51, .lload 7, 2), (53, .lload 7, 2), (55, .lmul, 1), (56, .iload 4, 2), (58, .i2l, 1)]
theorem aJ_43_5 : sx_iB prog_6_method_21_code aI_43_5 = true := by decide +kernel
def aI_43_6 : sx_IL := [(59, .lrem, 1), (60, .lstore 7, 2), (62, .iinc 9 1, 3), (65, .goto (-49), 3), (68, .lload 5, 2), (70, .l2i, 1)]
theorem aJ_43_6 : sx_iB prog_6_method_21_code aI_43_6 = true := by decide +kernel
def aI_43_7 : sx_IL := [(71, .ireturn, 1)]
theorem aJ_43_7 : sx_iB prog_6_method_21_code aI_43_7 = true := by decide +kernel
def aS_43 (pc : Nat) : sx_IL := (if pc < 40 then (if pc < 20 then (if pc < 10 then aI_43_0 else aI_43_1) else (if pc < 31 then aI_43_2 else aI_43_3)) else (if pc < 59 then (if pc < 49 then aI_43_4 else aI_43_5) else (if pc < 71 then aI_43_6 else aI_43_7)))
theorem aT_43 (pc : Nat) : sx_iOk prog_6_method_21_code (aS_43 pc) := (sx_ite (p := fun l => sx_iOk prog_6_method_21_code l) (sx_ite (p := fun l => sx_iOk prog_6_method_21_code l) (sx_ite (p := fun l => sx_iOk prog_6_method_21_code l) (sx_iB_s aJ_43_0) (sx_iB_s aJ_43_1)) (sx_ite (p := fun l => sx_iOk prog_6_method_21_code l) (sx_iB_s aJ_43_2) (sx_iB_s aJ_43_3))) (sx_ite (p := fun l => sx_iOk prog_6_method_21_code l) (sx_ite (p := fun l => sx_iOk prog_6_method_21_code l) (sx_iB_s aJ_43_4) (sx_iB_s aJ_43_5)) (sx_ite (p := fun l => sx_iOk prog_6_method_21_code l) (sx_iB_s aJ_43_6) (sx_iB_s aJ_43_7))))
def aW_43 : Nat → Option (Instr × Nat) := fun pc => sx_iF (aS_43 pc) pc
theorem aX_43 : ∀ pc i len, aW_43 pc = some (i, len) → decode aM_43.1.2.1 pc = .ok (i, len) := fun pc i len h => sx_iF_s (aT_43 pc) h
def aI_47_0 : sx_IL := [(0, .iload_n 0, 1), (1, .iconst 1, 1), (2, .if_icmp .lt 13, 3), (5, .iload_n 0, 1), (6, .ldc 166, 2), (8, .if_icmp .ge 7, 3)]
theorem aJ_47_0 : sx_iB prog_1_method_19_code aI_47_0 = true := by decide +kernel
def aI_47_1 : sx_IL := [(11, .iconst 1, 1), (12, .goto 4, 3), (15, .iconst 0, 1), (16, .ireturn, 1)]
theorem aJ_47_1 : sx_iB prog_1_method_19_code aI_47_1 = true := by decide +kernel
def aS_47 (pc : Nat) : sx_IL := (if pc < 11 then aI_47_0 else aI_47_1)
theorem aT_47 (pc : Nat) : sx_iOk prog_1_method_19_code (aS_47 pc) := (sx_ite (p := fun l => sx_iOk prog_1_method_19_code l) (sx_iB_s aJ_47_0) (sx_iB_s aJ_47_1))
def aW_47 : Nat → Option (Instr × Nat) := fun pc => sx_iF (aS_47 pc) pc
theorem aX_47 : ∀ pc i len, aW_47 pc = some (i, len) → decode aM_47.1.2.1 pc = .ok (i, len) := fun pc i len h => sx_iF_s (aT_47 pc) h
def aI_48_0 : sx_IL := [(0, .ldc2_w 123, 3), (3, .iload_n 1, 1), (4, .ldc 125, 2), (6, .invokestatic 119, 3), (9, .ireturn, 1)]
theorem aJ_48_0 : sx_iB prog_6_method_25_code aI_48_0 = true := by decide +kernel
def aS_48 (pc : Nat) : sx_IL := aI_48_0
theorem aT_48 (pc : Nat) : sx_iOk prog_6_method_25_code (aS_48 pc) := (sx_iB_s aJ_48_0)
def aW_48 : Nat → Option (Instr × Nat) := fun pc => sx_iF (aS_48 pc) pc
theorem aX_48 : ∀ pc i len, aW_48 pc = some (i, len) → decode aM_48.1.2.1 pc = .ok (i, len) := fun pc i len h => sx_iF_s (aT_48 pc) h
def aI_50_0 : sx_IL := [(0, .iload_n 0, 1), (1, .iconst 1, 1), (2, .if_icmp .eq 8, 3), (5, .iload_n 0, 1), (6, .iconst 2, 1), (7, .if_icmp .ne 7, 3)]
theorem aJ_50_0 : sx_iB prog_1_method_18_code aI_50_0 = true := by decide +kernel
def aI_50_1 : sx_IL := [(10, .iconst 1, 1), (11, .goto 4, 3), (14, .iconst 0, 1), (15, .ireturn, 1)]
theorem aJ_50_1 : sx_iB prog_1_method_18_code aI_50_1 = true := by decide +kernel
def aS_50 (pc : Nat) : sx_IL := (if pc < 10 then aI_50_0 else aI_50_1)
theorem aT_50 (pc : Nat) : sx_iOk prog_1_method_18_code (aS_50 pc) := (sx_ite (p := fun l => sx_iOk prog_1_method_18_code l) (sx_iB_s aJ_50_0) (sx_iB_s aJ_50_1))
def aW_50 : Nat → Option (Instr × Nat) := fun pc => sx_iF (aS_50 pc) pc
theorem aX_50 : ∀ pc i len, aW_50 pc = some (i, len) → decode aM_50.1.2.1 pc = .ok (i, len) := fun pc i len h => sx_iF_s (aT_50 pc) h
def aI_90_0 : sx_IL := [(0, .iload_n 1, 1), (1, .ifCond .lt 18, 3), (4, .iload_n 1, 1), (5, .aload_n 0, 1), (6, .getfield 10, 3), (9, .getfield 210, 3)]
theorem aJ_90_0 : sx_iB prog_1_method_28_code aI_90_0 = true := by decide +kernel
def aI_90_1 : sx_IL := [(12, .if_icmp .ge 7, 3), (15, .iconst 1, 1), (16, .goto 4, 3), (19, .iconst 0, 1), (20, .ireturn, 1)]
theorem aJ_90_1 : sx_iB prog_1_method_28_code aI_90_1 = true := by decide +kernel
def aS_90 (pc : Nat) : sx_IL := (if pc < 12 then aI_90_0 else aI_90_1)
theorem aT_90 (pc : Nat) : sx_iOk prog_1_method_28_code (aS_90 pc) := (sx_ite (p := fun l => sx_iOk prog_1_method_28_code l) (sx_iB_s aJ_90_0) (sx_iB_s aJ_90_1))
def aW_90 : Nat → Option (Instr × Nat) := fun pc => sx_iF (aS_90 pc) pc
theorem aX_90 : ∀ pc i len, aW_90 pc = some (i, len) → decode aM_90.1.2.1 pc = .ok (i, len) := fun pc i len h => sx_iF_s (aT_90 pc) h
def aI_96_0 : sx_IL := [(0, .iload_n 1, 1), (1, .ifCond .lt 15, 3), (4, .iload_n 1, 1), (5, .aload_n 0, 1), (6, .getfield 248, 3), (9, .if_icmp .ge 7, 3)]
theorem aJ_96_0 : sx_iB prog_1_method_35_code aI_96_0 = true := by decide +kernel
def aI_96_1 : sx_IL := [(12, .iconst 1, 1), (13, .goto 4, 3), (16, .iconst 0, 1), (17, .ireturn, 1)]
theorem aJ_96_1 : sx_iB prog_1_method_35_code aI_96_1 = true := by decide +kernel
def aS_96 (pc : Nat) : sx_IL := (if pc < 12 then aI_96_0 else aI_96_1)
theorem aT_96 (pc : Nat) : sx_iOk prog_1_method_35_code (aS_96 pc) := (sx_ite (p := fun l => sx_iOk prog_1_method_35_code l) (sx_iB_s aJ_96_0) (sx_iB_s aJ_96_1))
def aW_96 : Nat → Option (Instr × Nat) := fun pc => sx_iF (aS_96 pc) pc
theorem aX_96 : ∀ pc i len, aW_96 pc = some (i, len) → decode aM_96.1.2.1 pc = .ok (i, len) := fun pc i len h => sx_iF_s (aT_96 pc) h
def aI_115_0 : sx_IL := [(0, .iload_n 1, 1), (1, .ifCond .eq 10, 3), (4, .iload_n 1, 1), (5, .iconst 1, 1), (6, .if_icmp .eq 5, 3), (9, .iconst (-1), 1)]
theorem aJ_115_0 : sx_iB prog_1_method_34_code aI_115_0 = true := by decide +kernel
def aI_115_1 : sx_IL := [(10, .ireturn, 1), (11, .aload_n 0, 1), (12, .getfield 248, 3), (15, .bipush 8, 2), (17, .if_icmp .lt 6, 3), (20, .bipush (-3), 2)]
theorem aJ_115_1 : sx_iB prog_1_method_34_code aI_115_1 = true := by decide +kernel
def aI_115_2 : sx_IL := [(22, .ireturn, 1), (23, .aload_n 0, 1), (24, .getfield 34, 3), (27, .aload_n 0, 1), (28, .getfield 248, 3), (31, .new 32, 3)]
theorem aJ_115_2 : sx_iB prog_1_method_34_code aI_115_2 = true := by decide +kernel
def aI_115_3 : sx_IL := [(34, .dup, 1), (35, .iload_n 1, 1), (36, .iconst 1, 1), (37, .if_icmp .ne 7, 3), (40, .iconst 1, 1), (41, .goto 4, 3)]
theorem aJ_115_3 : sx_iB prog_1_method_34_code aI_115_3 = true := by decide +kernel
def aI_115_4 : sx_IL := [(44, .iconst 0, 1), (45, .invokespecial 251, 3), (48, .aastore, 1), (49, .aload_n 0, 1), (50, .dup, 1), (51, .getfield 248, 3)]
theorem aJ_115_4 : sx_iB prog_1_method_34_code aI_115_4 = true := by decide +kernel
def aI_115_5 : sx_IL := [(54, .iconst 1, 1), (55, .iadd, 1), (56, .putfield 248, 3), (59, .aload_n 0, 1), (60, .getfield 248, 3), (63, .iconst 1, 1)]
theorem aJ_115_5 : sx_iB prog_1_method_34_code aI_115_5 = true := by decide +kernel
def aI_115_6 : sx_IL := [(64, .isub, 1), (65, .ireturn, 1)]
theorem aJ_115_6 : sx_iB prog_1_method_34_code aI_115_6 = true := by decide +kernel
def aS_115 (pc : Nat) : sx_IL := (if pc < 34 then (if pc < 10 then aI_115_0 else (if pc < 22 then aI_115_1 else aI_115_2)) else (if pc < 54 then (if pc < 44 then aI_115_3 else aI_115_4) else (if pc < 64 then aI_115_5 else aI_115_6)))
theorem aT_115 (pc : Nat) : sx_iOk prog_1_method_34_code (aS_115 pc) := (sx_ite (p := fun l => sx_iOk prog_1_method_34_code l) (sx_ite (p := fun l => sx_iOk prog_1_method_34_code l) (sx_iB_s aJ_115_0) (sx_ite (p := fun l => sx_iOk prog_1_method_34_code l) (sx_iB_s aJ_115_1) (sx_iB_s aJ_115_2))) (sx_ite (p := fun l => sx_iOk prog_1_method_34_code l) (sx_ite (p := fun l => sx_iOk prog_1_method_34_code l) (sx_iB_s aJ_115_3) (sx_iB_s aJ_115_4)) (sx_ite (p := fun l => sx_iOk prog_1_method_34_code l) (sx_iB_s aJ_115_5) (sx_iB_s aJ_115_6))))
def aW_115 : Nat → Option (Instr × Nat) := fun pc => sx_iF (aS_115 pc) pc
theorem aX_115 : ∀ pc i len, aW_115 pc = some (i, len) → decode aM_115.1.2.1 pc = .ok (i, len) := fun pc i len h => sx_iF_s (aT_115 pc) h
def aI_116_0 : sx_IL := [(0, .aload_n 0, 1), (1, .invokespecial 1, 3), (4, .aload_n 0, 1), (5, .iconst 3, 1), (6, .anewarray 7, 3), (9, .dup, 1)]
theorem aJ_116_0 : sx_iB prog_3_method_1_code aI_116_0 = true := by decide +kernel
def aI_116_1 : sx_IL := [(10, .iconst 0, 1), (11, .iconst 4, 1), (12, .newarray .int, 2), (14, .dup, 1), (15, .iconst 0, 1), (16, .iconst 1, 1)]
theorem aJ_116_1 : sx_iB prog_3_method_1_code aI_116_1 = true := by decide +kernel
def aI_116_2 : sx_IL := [(17, .iastore, 1), (18, .dup, 1), (19, .iconst 1, 1), (20, .iconst 2, 1), (21, .iastore, 1), (22, .dup, 1)]
theorem aJ_116_2 : sx_iB prog_3_method_1_code aI_116_2 = true := by decide +kernel
def aI_116_3 : sx_IL := [(23, .iconst 2, 1), (24, .iconst 3, 1), (25, .iastore, 1), (26, .dup, 1), (27, .iconst 3, 1), (28, .iconst 0, 1)]
theorem aJ_116_3 : sx_iB prog_3_method_1_code aI_116_3 = true := by decide +kernel
def aI_116_4 : sx_IL := [(29, .iastore, 1), (30, .aastore, 1), (31, .dup, 1), (32, .iconst 1, 1), (33, .iconst 4, 1), (34, .newarray .int, 2)]
theorem aJ_116_4 : sx_iB prog_3_method_1_code aI_116_4 = true := by decide +kernel
def aI_116_5 : sx_IL := [(36, .dup, 1), (37, .iconst 0, 1), (38, .iconst 1, 1), (39, .iastore, 1), (40, .dup, 1), (41, .iconst 1, 1)]
theorem aJ_116_5 : sx_iB prog_3_method_1_code aI_116_5 = true := by decide +kernel
def aI_116_6 : sx_IL := [(42, .iconst 2, 1), (43, .iastore, 1), (44, .dup, 1), (45, .iconst 2, 1), (46, .iconst 3, 1), (47, .iastore, 1)]
theorem aJ_116_6 : sx_iB prog_3_method_1_code aI_116_6 = true := by decide +kernel
def aI_116_7 : sx_IL := [(48, .dup, 1), (49, .iconst 3, 1), (50, .iconst 0, 1), (51, .iastore, 1), (52, .aastore, 1), (53, .dup, 1)]
theorem aJ_116_7 : sx_iB prog_3_method_1_code aI_116_7 = true := by decide +kernel
def aI_116_8 : sx_IL := [(54, .iconst 2, 1), (55, .iconst 4, 1), (56, .newarray .int, 2), (58, .dup, 1), (59, .iconst 0, 1), (60, .iconst 1, 1)]
theorem aJ_116_8 : sx_iB prog_3_method_1_code aI_116_8 = true := by decide +kernel
def aI_116_9 : sx_IL := [(61, .iastore, 1), (62, .dup, 1), (63, .iconst 1, 1), (64, .iconst 2, 1), (65, .iastore, 1), (66, .dup, 1)]
theorem aJ_116_9 : sx_iB prog_3_method_1_code aI_116_9 = true := by decide +kernel
def aI_116_10 : sx_IL := [(67, .iconst 2, 1), (68, .iconst 0, 1), (69, .iastore, 1), (70, .dup, 1), (71, .iconst 3, 1), (72, .iconst 0, 1)]
theorem aJ_116_10 : sx_iB prog_3_method_1_code aI_116_10 = true := by decide +kernel
def aI_116_11 : sx_IL := [(73, .iastore, 1), (74, .aastore, 1), (75, .putfield 9, 3), (78, .aload_n 0, 1), (79, .bipush 8, 2), (81, .newarray .int, 2)]
theorem aJ_116_11 : sx_iB prog_3_method_1_code aI_116_11 = true := by decide +kernel
def aI_116_12 : sx_IL := [(83, .dup, 1), (84, .iconst 0, 1), (85, .iconst 0, 1), (86, .iastore, 1), (87, .dup, 1), (88, .iconst 1, 1)]
theorem aJ_116_12 : sx_iB prog_3_method_1_code aI_116_12 = true := by decide +kernel
def aI_116_13 : sx_IL := [(89, .iconst 0, 1), (90, .iastore, 1), (91, .dup, 1), (92, .iconst 2, 1), (93, .iconst 1, 1), (94, .iastore, 1)]
theorem aJ_116_13 : sx_iB prog_3_method_1_code aI_116_13 = true := by decide +kernel
def aI_116_14 : sx_IL := [(95, .dup, 1), (96, .iconst 3, 1), (97, .bipush 60, 2), (99, .iastore, 1), (100, .dup, 1), (101, .iconst 4, 1)]
theorem aJ_116_14 : sx_iB prog_3_method_1_code aI_116_14 = true := by decide +kernel
def aI_116_15 : sx_IL := [(102, .iconst 0, 1), (103, .iastore, 1), (104, .dup, 1), (105, .iconst 5, 1), (106, .iconst 1, 1), (107, .iastore, 1)]
theorem aJ_116_15 : sx_iB prog_3_method_1_code aI_116_15 = true := by decide +kernel
def aI_116_16 : sx_IL := [(108, .dup, 1), (109, .bipush 6, 2), (111, .iconst 0, 1), (112, .iastore, 1), (113, .dup, 1), (114, .bipush 7, 2)]
theorem aJ_116_16 : sx_iB prog_3_method_1_code aI_116_16 = true := by decide +kernel
def aI_116_17 : sx_IL := [(116, .iconst 2, 1), (117, .iastore, 1), (118, .putfield 15, 3), (121, .aload_n 0, 1), (122, .new 18, 3), (125, .dup, 1)]
theorem aJ_116_17 : sx_iB prog_3_method_1_code aI_116_17 = true := by decide +kernel
def aI_116_18 : sx_IL := [(126, .bipush 32, 2), (128, .invokespecial 20, 3), (131, .putfield 23, 3), (134, .aload_n 0, 1), (135, .bipush 30, 2), (137, .newarray .int, 2)]
theorem aJ_116_18 : sx_iB prog_3_method_1_code aI_116_18 = true := by decide +kernel
def aI_116_19 : sx_IL := [(139, .putfield 29, 3), (142, .aload_n 0, 1), (143, .iconst 4, 1), (144, .newarray .int, 2), (146, .putfield 32, 3), (149, .aload_n 0, 1)]
theorem aJ_116_19 : sx_iB prog_3_method_1_code aI_116_19 = true := by decide +kernel
def aI_116_20 : sx_IL := [(150, .new 18, 3), (153, .dup, 1), (154, .bipush 8, 2), (156, .invokespecial 20, 3), (159, .putfield 35, 3), (162, .aload_n 0, 1)]
theorem aJ_116_20 : sx_iB prog_3_method_1_code aI_116_20 = true := by decide +kernel
def aI_116_21 : sx_IL := [(163, .bipush 6, 2), (165, .anewarray 38, 3), (168, .putfield 40, 3), (171, .aload_n 0, 1), (172, .new 18, 3), (175, .dup, 1)]
theorem aJ_116_21 : sx_iB prog_3_method_1_code aI_116_21 = true := by decide +kernel
def aI_116_22 : sx_IL := [(176, .bipush 8, 2), (178, .invokespecial 20, 3), (181, .putfield 44, 3), (184, .aload_n 0, 1), (185, .bipush 20, 2), (187, .anewarray 38, 3)]
theorem aJ_116_22 : sx_iB prog_3_method_1_code aI_116_22 = true := by decide +kernel
def aI_116_23 : sx_IL := [(190, .putfield 47, 3), (193, .aload_n 0, 1), (194, .iload_n 1, 1), (195, .putfield 50, 3), (198, .return_, 1)]
theorem aJ_116_23 : sx_iB prog_3_method_1_code aI_116_23 = true := by decide +kernel
def aS_116 (pc : Nat) : sx_IL := (if pc < 83 then (if pc < 42 then (if pc < 23 then (if pc < 10 then aI_116_0 else (if pc < 17 then aI_116_1 else aI_116_2)) else (if pc < 29 then aI_116_3 else (if pc < 36 then aI_116_4 else aI_116_5))) else (if pc < 61 then (if pc < 48 then aI_116_6 else (if pc < 54 then aI_116_7 else aI_116_8)) else (if pc < 67 then aI_116_9 else (if pc < 73 then aI_116_10 else aI_116_11)))) else (if pc < 126 then (if pc < 102 then (if pc < 89 then aI_116_12 else (if pc < 95 then aI_116_13 else aI_116_14)) else (if pc < 108 then aI_116_15 else (if pc < 116 then aI_116_16 else aI_116_17))) else (if pc < 163 then (if pc < 139 then aI_116_18 else (if pc < 150 then aI_116_19 else aI_116_20)) else (if pc < 176 then aI_116_21 else (if pc < 190 then aI_116_22 else aI_116_23)))))
theorem aT_116 (pc : Nat) : sx_iOk prog_3_method_1_code (aS_116 pc) := (sx_ite (p := fun l => sx_iOk prog_3_method_1_code l) (sx_ite (p := fun l => sx_iOk prog_3_method_1_code l) (sx_ite (p := fun l => sx_iOk prog_3_method_1_code l) (sx_ite (p := fun l => sx_iOk prog_3_method_1_code l) (sx_iB_s aJ_116_0) (sx_ite (p := fun l => sx_iOk prog_3_method_1_code l) (sx_iB_s aJ_116_1) (sx_iB_s aJ_116_2))) (sx_ite (p := fun l => sx_iOk prog_3_method_1_code l) (sx_iB_s aJ_116_3) (sx_ite (p := fun l => sx_iOk prog_3_method_1_code l) (sx_iB_s aJ_116_4) (sx_iB_s aJ_116_5)))) (sx_ite (p := fun l => sx_iOk prog_3_method_1_code l) (sx_ite (p := fun l => sx_iOk prog_3_method_1_code l) (sx_iB_s aJ_116_6) (sx_ite (p := fun l => sx_iOk prog_3_method_1_code l) (sx_iB_s aJ_116_7) (sx_iB_s aJ_116_8))) (sx_ite (p := fun l => sx_iOk prog_3_method_1_code l) (sx_iB_s aJ_116_9) (sx_ite (p := fun l => sx_iOk prog_3_method_1_code l) (sx_iB_s aJ_116_10) (sx_iB_s aJ_116_11))))) (sx_ite (p := fun l => sx_iOk prog_3_method_1_code l) (sx_ite (p := fun l => sx_iOk prog_3_method_1_code l) (sx_ite (p := fun l => sx_iOk prog_3_method_1_code l) (sx_iB_s aJ_116_12) (sx_ite (p := fun l => sx_iOk prog_3_method_1_code l) (sx_iB_s aJ_116_13) (sx_iB_s aJ_116_14))) (sx_ite (p := fun l => sx_iOk prog_3_method_1_code l) (sx_iB_s aJ_116_15) (sx_ite (p := fun l => sx_iOk prog_3_method_1_code l) (sx_iB_s aJ_116_16) (sx_iB_s aJ_116_17)))) (sx_ite (p := fun l => sx_iOk prog_3_method_1_code l) (sx_ite (p := fun l => sx_iOk prog_3_method_1_code l) (sx_iB_s aJ_116_18) (sx_ite (p := fun l => sx_iOk prog_3_method_1_code l) (sx_iB_s aJ_116_19) (sx_iB_s aJ_116_20))) (sx_ite (p := fun l => sx_iOk prog_3_method_1_code l) (sx_iB_s aJ_116_21) (sx_ite (p := fun l => sx_iOk prog_3_method_1_code l) (sx_iB_s aJ_116_22) (sx_iB_s aJ_116_23))))))
def aW_116 : Nat → Option (Instr × Nat) := fun pc => sx_iF (aS_116 pc) pc
theorem aX_116 : ∀ pc i len, aW_116 pc = some (i, len) → decode aM_116.1.2.1 pc = .ok (i, len) := fun pc i len h => sx_iF_s (aT_116 pc) h
def aI_128_0 : sx_IL := [(0, .aload_n 0, 1), (1, .iload_n 1, 1), (2, .invokevirtual 216, 3), (5, .ifCond .eq 10, 3), (8, .iload_n 2, 1), (9, .invokestatic 92, 3)]
theorem aJ_128_0 : sx_iB prog_1_method_43_code aI_128_0 = true := by decide +kernel
def aI_128_1 : sx_IL := [(12, .ifCond .ne 5, 3), (15, .iconst (-1), 1), (16, .ireturn, 1), (17, .aload_n 0, 1), (18, .getfield 21, 3), (21, .getfield 69, 3)]
theorem aJ_128_1 : sx_iB prog_1_method_43_code aI_128_1 = true := by decide +kernel
def aI_128_2 : sx_IL := [(24, .iconst 1, 1), (25, .if_icmp .lt 15, 3), (28, .aload_n 0, 1), (29, .getfield 21, 3), (32, .getfield 69, 3), (35, .bipush 16, 2)]
theorem aJ_128_2 : sx_iB prog_1_method_43_code aI_128_2 = true := by decide +kernel
def aI_128_3 : sx_IL := [(37, .if_icmp .le 6, 3), (40, .bipush (-2), 2), (42, .ireturn, 1), (43, .aload_n 0, 1), (44, .getfield 34, 3), (47, .iload_n 1, 1)]
theorem aJ_128_3 : sx_iB prog_1_method_43_code aI_128_3 = true := by decide +kernel
def aI_128_4 : sx_IL := [(48, .aaload, 1), (49, .getfield 294, 3), (52, .bipush 6, 2), (54, .if_icmp .lt 6, 3), (57, .bipush (-3), 2), (59, .ireturn, 1)]
theorem aJ_128_4 : sx_iB prog_1_method_43_code aI_128_4 = true := by decide +kernel
def aI_128_5 : sx_IL := [(60, .aload_n 0, 1), (61, .getfield 34, 3), (64, .iload_n 1, 1), (65, .aaload, 1), (66, .new 297, 3), (69, .dup, 1)]
theorem aJ_128_5 : sx_iB prog_1_method_43_code aI_128_5 = true := by decide +kernel
def aI_128_6 : sx_IL := [(70, .aload_n 0, 1), (71, .getfield 21, 3), (74, .iload_n 2, 1), (75, .lload_n 3, 1), (76, .invokespecial 299, 3), (79, .invokevirtual 302, 3)]
theorem aJ_128_6 : sx_iB prog_1_method_43_code aI_128_6 = true := by decide +kernel
def aI_128_7 : sx_IL := [(82, .aload_n 0, 1), (83, .getfield 21, 3), (86, .invokevirtual 108, 3), (89, .aload_n 0, 1), (90, .getfield 34, 3), (93, .iload_n 1, 1)]
theorem aJ_128_7 : sx_iB prog_1_method_43_code aI_128_7 = true := by decide +kernel
def aI_128_8 : sx_IL := [(94, .aaload, 1), (95, .getfield 294, 3), (98, .ireturn, 1)]
theorem aJ_128_8 : sx_iB prog_1_method_43_code aI_128_8 = true := by decide +kernel
def aS_128 (pc : Nat) : sx_IL := (if pc < 48 then (if pc < 24 then (if pc < 12 then aI_128_0 else aI_128_1) else (if pc < 37 then aI_128_2 else aI_128_3)) else (if pc < 70 then (if pc < 60 then aI_128_4 else aI_128_5) else (if pc < 82 then aI_128_6 else (if pc < 94 then aI_128_7 else aI_128_8))))
theorem aT_128 (pc : Nat) : sx_iOk prog_1_method_43_code (aS_128 pc) := (sx_ite (p := fun l => sx_iOk prog_1_method_43_code l) (sx_ite (p := fun l => sx_iOk prog_1_method_43_code l) (sx_ite (p := fun l => sx_iOk prog_1_method_43_code l) (sx_iB_s aJ_128_0) (sx_iB_s aJ_128_1)) (sx_ite (p := fun l => sx_iOk prog_1_method_43_code l) (sx_iB_s aJ_128_2) (sx_iB_s aJ_128_3))) (sx_ite (p := fun l => sx_iOk prog_1_method_43_code l) (sx_ite (p := fun l => sx_iOk prog_1_method_43_code l) (sx_iB_s aJ_128_4) (sx_iB_s aJ_128_5)) (sx_ite (p := fun l => sx_iOk prog_1_method_43_code l) (sx_iB_s aJ_128_6) (sx_ite (p := fun l => sx_iOk prog_1_method_43_code l) (sx_iB_s aJ_128_7) (sx_iB_s aJ_128_8)))))
def aW_128 : Nat → Option (Instr × Nat) := fun pc => sx_iF (aS_128 pc) pc
theorem aX_128 : ∀ pc i len, aW_128 pc = some (i, len) → decode aM_128.1.2.1 pc = .ok (i, len) := fun pc i len h => sx_iF_s (aT_128 pc) h
def aI_129_0 : sx_IL := [(0, .aload_n 0, 1), (1, .invokespecial 1, 3), (4, .aload_n 0, 1), (5, .aload_n 1, 1), (6, .getfield 7, 3), (9, .aload_n 1, 1)]
theorem aJ_129_0 : sx_iB prog_11_method_1_code aI_129_0 = true := by decide +kernel
def aI_129_1 : sx_IL := [(10, .getfield 13, 3), (13, .invokestatic 17, 3), (16, .putfield 23, 3), (19, .aload_n 0, 1), (20, .iload_n 2, 1), (21, .putfield 28, 3)]
theorem aJ_129_1 : sx_iB prog_11_method_1_code aI_129_1 = true := by decide +kernel
def aI_129_2 : sx_IL := [(24, .aload_n 0, 1), (25, .lload_n 3, 1), (26, .putfield 31, 3), (29, .return_, 1)]
theorem aJ_129_2 : sx_iB prog_11_method_1_code aI_129_2 = true := by decide +kernel
def aS_129 (pc : Nat) : sx_IL := (if pc < 10 then aI_129_0 else (if pc < 24 then aI_129_1 else aI_129_2))
theorem aT_129 (pc : Nat) : sx_iOk prog_11_method_1_code (aS_129 pc) := (sx_ite (p := fun l => sx_iOk prog_11_method_1_code l) (sx_iB_s aJ_129_0) (sx_ite (p := fun l => sx_iOk prog_11_method_1_code l) (sx_iB_s aJ_129_1) (sx_iB_s aJ_129_2)))
def aW_129 : Nat → Option (Instr × Nat) := fun pc => sx_iF (aS_129 pc) pc
theorem aX_129 : ∀ pc i len, aW_129 pc = some (i, len) → decode aM_129.1.2.1 pc = .ok (i, len) := fun pc i len h => sx_iF_s (aT_129 pc) h
def aI_130_0 : sx_IL := [(0, .aload_n 0, 1), (1, .getfield 79, 3), (4, .bipush 6, 2), (6, .if_icmp .ge 23, 3), (9, .aload_n 0, 1), (10, .getfield 40, 3)]
theorem aJ_130_0 : sx_iB prog_3_method_9_code aI_130_0 = true := by decide +kernel
def aI_130_1 : sx_IL := [(13, .aload_n 0, 1), (14, .getfield 79, 3), (17, .aload_n 1, 1), (18, .aastore, 1), (19, .aload_n 0, 1), (20, .dup, 1)]
theorem aJ_130_1 : sx_iB prog_3_method_9_code aI_130_1 = true := by decide +kernel
def aI_130_2 : sx_IL := [(21, .getfield 79, 3), (24, .iconst 1, 1), (25, .iadd, 1), (26, .putfield 79, 3), (29, .return_, 1)]
theorem aJ_130_2 : sx_iB prog_3_method_9_code aI_130_2 = true := by decide +kernel
def aS_130 (pc : Nat) : sx_IL := (if pc < 13 then aI_130_0 else (if pc < 21 then aI_130_1 else aI_130_2))
theorem aT_130 (pc : Nat) : sx_iOk prog_3_method_9_code (aS_130 pc) := (sx_ite (p := fun l => sx_iOk prog_3_method_9_code l) (sx_iB_s aJ_130_0) (sx_ite (p := fun l => sx_iOk prog_3_method_9_code l) (sx_iB_s aJ_130_1) (sx_iB_s aJ_130_2)))
def aW_130 : Nat → Option (Instr × Nat) := fun pc => sx_iF (aS_130 pc) pc
theorem aX_130 : ∀ pc i len, aW_130 pc = some (i, len) → decode aM_130.1.2.1 pc = .ok (i, len) := fun pc i len h => sx_iF_s (aT_130 pc) h
def aI_270_0 : sx_IL := [(0, .aload_n 0, 1), (1, .iload_n 1, 1), (2, .invokevirtual 193, 3), (5, .ifCond .eq 17, 3), (8, .iload_n 2, 1), (9, .invokestatic 149, 3)]
theorem aJ_270_0 : sx_iB prog_1_method_61_code aI_270_0 = true := by decide +kernel
def aI_270_1 : sx_IL := [(12, .ifCond .eq 10, 3), (15, .iload_n 3, 1), (16, .invokestatic 155, 3), (19, .ifCond .ne 5, 3), (22, .iconst (-1), 1), (23, .ireturn, 1)]
theorem aJ_270_1 : sx_iB prog_1_method_61_code aI_270_1 = true := by decide +kernel
def aI_270_2 : sx_IL := [(24, .aload_n 0, 1), (25, .getfield 10, 3), (28, .getfield 196, 3), (31, .iload_n 1, 1), (32, .aaload, 1), (33, .astore 4, 2)]
theorem aJ_270_2 : sx_iB prog_1_method_61_code aI_270_2 = true := by decide +kernel
def aI_270_3 : sx_IL := [(35, .aload 4, 2), (37, .getfield 200, 3), (40, .iconst 5, 1), (41, .iaload, 1), (42, .ifCond .eq 24, 3), (45, .aload 4, 2)]
theorem aJ_270_3 : sx_iB prog_1_method_61_code aI_270_3 = true := by decide +kernel
def aI_270_4 : sx_IL := [(47, .getfield 200, 3), (50, .iconst 4, 1), (51, .iaload, 1), (52, .aload_n 0, 1), (53, .getfield 10, 3), (56, .getfield 98, 3)]
theorem aJ_270_4 : sx_iB prog_1_method_61_code aI_270_4 = true := by decide +kernel
def aI_270_5 : sx_IL := [(59, .iload_n 2, 1), (60, .invokevirtual 152, 3), (63, .if_icmp .eq 6, 3), (66, .bipush (-2), 2), (68, .ireturn, 1), (69, .aload_n 0, 1)]
theorem aJ_270_5 : sx_iB prog_1_method_61_code aI_270_5 = true := by decide +kernel
def aI_270_6 : sx_IL := [(70, .getfield 393, 3), (73, .iconst 4, 1), (74, .if_icmp .lt 6, 3), (77, .bipush (-3), 2), (79, .ireturn, 1), (80, .aload_n 0, 1)]
theorem aJ_270_6 : sx_iB prog_1_method_61_code aI_270_6 = true := by decide +kernel
def aI_270_7 : sx_IL := [(81, .getfield 46, 3), (84, .aload_n 0, 1), (85, .getfield 393, 3), (88, .new 44, 3), (91, .dup, 1), (92, .aload_n 0, 1)]
theorem aJ_270_7 : sx_iB prog_1_method_61_code aI_270_7 = true := by decide +kernel
def aI_270_8 : sx_IL := [(93, .getfield 10, 3), (96, .aload 4, 2), (98, .iload_n 2, 1), (99, .iload_n 3, 1), (100, .invokespecial 396, 3), (103, .aastore, 1)]
theorem aJ_270_8 : sx_iB prog_1_method_61_code aI_270_8 = true := by decide +kernel
def aI_270_9 : sx_IL := [(104, .aload_n 0, 1), (105, .dup, 1), (106, .getfield 393, 3), (109, .iconst 1, 1), (110, .iadd, 1), (111, .putfield 393, 3)]
theorem aJ_270_9 : sx_iB prog_1_method_61_code aI_270_9 = true := by decide +kernel
def aI_270_10 : sx_IL := [(114, .aload_n 0, 1), (115, .getfield 393, 3), (118, .iconst 1, 1), (119, .isub, 1), (120, .ireturn, 1)]
theorem aJ_270_10 : sx_iB prog_1_method_61_code aI_270_10 = true := by decide +kernel
def aS_270 (pc : Nat) : sx_IL := (if pc < 59 then (if pc < 24 then (if pc < 12 then aI_270_0 else aI_270_1) else (if pc < 35 then aI_270_2 else (if pc < 47 then aI_270_3 else aI_270_4))) else (if pc < 93 then (if pc < 70 then aI_270_5 else (if pc < 81 then aI_270_6 else aI_270_7)) else (if pc < 104 then aI_270_8 else (if pc < 114 then aI_270_9 else aI_270_10))))
theorem aT_270 (pc : Nat) : sx_iOk prog_1_method_61_code (aS_270 pc) := (sx_ite (p := fun l => sx_iOk prog_1_method_61_code l) (sx_ite (p := fun l => sx_iOk prog_1_method_61_code l) (sx_ite (p := fun l => sx_iOk prog_1_method_61_code l) (sx_iB_s aJ_270_0) (sx_iB_s aJ_270_1)) (sx_ite (p := fun l => sx_iOk prog_1_method_61_code l) (sx_iB_s aJ_270_2) (sx_ite (p := fun l => sx_iOk prog_1_method_61_code l) (sx_iB_s aJ_270_3) (sx_iB_s aJ_270_4)))) (sx_ite (p := fun l => sx_iOk prog_1_method_61_code l) (sx_ite (p := fun l => sx_iOk prog_1_method_61_code l) (sx_iB_s aJ_270_5) (sx_ite (p := fun l => sx_iOk prog_1_method_61_code l) (sx_iB_s aJ_270_6) (sx_iB_s aJ_270_7))) (sx_ite (p := fun l => sx_iOk prog_1_method_61_code l) (sx_iB_s aJ_270_8) (sx_ite (p := fun l => sx_iOk prog_1_method_61_code l) (sx_iB_s aJ_270_9) (sx_iB_s aJ_270_10)))))
def aW_270 : Nat → Option (Instr × Nat) := fun pc => sx_iF (aS_270 pc) pc
theorem aX_270 : ∀ pc i len, aW_270 pc = some (i, len) → decode aM_270.1.2.1 pc = .ok (i, len) := fun pc i len h => sx_iF_s (aT_270 pc) h
def aI_271_0 : sx_IL := [(0, .aload_n 0, 1), (1, .invokespecial 3, 3), (4, .aload_n 0, 1), (5, .bipush 8, 2), (7, .newarray .long, 2), (9, .putfield 11, 3)]
theorem aJ_271_0 : sx_iB prog_7_method_1_code aI_271_0 = true := by decide +kernel
def aI_271_1 : sx_IL := [(12, .aload_n 0, 1), (13, .bipush 12, 2), (15, .newarray .int, 2), (17, .putfield 15, 3), (20, .aload_n 0, 1), (21, .bipush 12, 2)]
theorem aJ_271_1 : sx_iB prog_7_method_1_code aI_271_1 = true := by decide +kernel
def aI_271_2 : sx_IL := [(23, .newarray .int, 2), (25, .putfield 19, 3), (28, .aload_n 0, 1), (29, .bipush 12, 2), (31, .newarray .int, 2), (33, .putfield 22, 3)]
theorem aJ_271_2 : sx_iB prog_7_method_1_code aI_271_2 = true := by decide +kernel
def aI_271_3 : sx_IL := [(36, .aload_n 0, 1), (37, .bipush 12, 2), (39, .newarray .int, 2), (41, .putfield 25, 3), (44, .aload_n 0, 1), (45, .bipush 36, 2)]
theorem aJ_271_3 : sx_iB prog_7_method_1_code aI_271_3 = true := by decide +kernel
def aI_271_4 : sx_IL := [(47, .anewarray 28, 3), (50, .putfield 30, 3), (53, .aload_n 0, 1), (54, .bipush 36, 2), (56, .newarray .int, 2), (58, .putfield 34, 3)]
theorem aJ_271_4 : sx_iB prog_7_method_1_code aI_271_4 = true := by decide +kernel
def aI_271_5 : sx_IL := [(61, .aload_n 0, 1), (62, .bipush 36, 2), (64, .newarray .int, 2), (66, .putfield 37, 3), (69, .aload_n 0, 1), (70, .bipush 40, 2)]
theorem aJ_271_5 : sx_iB prog_7_method_1_code aI_271_5 = true := by decide +kernel
def aI_271_6 : sx_IL := [(72, .newarray .int, 2), (74, .putfield 40, 3), (77, .aload_n 0, 1), (78, .aload_n 1, 1), (79, .putfield 43, 3), (82, .aload_n 0, 1)]
theorem aJ_271_6 : sx_iB prog_7_method_1_code aI_271_6 = true := by decide +kernel
def aI_271_7 : sx_IL := [(83, .aload_n 2, 1), (84, .putfield 47, 3), (87, .aload_n 0, 1), (88, .iload_n 3, 1), (89, .putfield 51, 3), (92, .aload_n 0, 1)]
theorem aJ_271_7 : sx_iB prog_7_method_1_code aI_271_7 = true := by decide +kernel
def aI_271_8 : sx_IL := [(93, .iload 4, 2), (95, .putfield 55, 3), (98, .return_, 1)]
theorem aJ_271_8 : sx_iB prog_7_method_1_code aI_271_8 = true := by decide +kernel
def aS_271 (pc : Nat) : sx_IL := (if pc < 47 then (if pc < 23 then (if pc < 12 then aI_271_0 else aI_271_1) else (if pc < 36 then aI_271_2 else aI_271_3)) else (if pc < 72 then (if pc < 61 then aI_271_4 else aI_271_5) else (if pc < 83 then aI_271_6 else (if pc < 93 then aI_271_7 else aI_271_8))))
theorem aT_271 (pc : Nat) : sx_iOk prog_7_method_1_code (aS_271 pc) := (sx_ite (p := fun l => sx_iOk prog_7_method_1_code l) (sx_ite (p := fun l => sx_iOk prog_7_method_1_code l) (sx_ite (p := fun l => sx_iOk prog_7_method_1_code l) (sx_iB_s aJ_271_0) (sx_iB_s aJ_271_1)) (sx_ite (p := fun l => sx_iOk prog_7_method_1_code l) (sx_iB_s aJ_271_2) (sx_iB_s aJ_271_3))) (sx_ite (p := fun l => sx_iOk prog_7_method_1_code l) (sx_ite (p := fun l => sx_iOk prog_7_method_1_code l) (sx_iB_s aJ_271_4) (sx_iB_s aJ_271_5)) (sx_ite (p := fun l => sx_iOk prog_7_method_1_code l) (sx_iB_s aJ_271_6) (sx_ite (p := fun l => sx_iOk prog_7_method_1_code l) (sx_iB_s aJ_271_7) (sx_iB_s aJ_271_8)))))
def aW_271 : Nat → Option (Instr × Nat) := fun pc => sx_iF (aS_271 pc) pc
theorem aX_271 : ∀ pc i len, aW_271 pc = some (i, len) → decode aM_271.1.2.1 pc = .ok (i, len) := fun pc i len h => sx_iF_s (aT_271 pc) h
