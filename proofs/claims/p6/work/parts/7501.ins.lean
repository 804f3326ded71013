/-! instructions -/
def aI_2_0 : sx_IL := [(0, .aload_n 0, 1), (1, .invokespecial 1, 3), (4, .return_, 1)]
theorem aJ_2_0 : sx_iB prog_6_method_1_code aI_2_0 = true := by decide +kernel
def aS_2 (pc : Nat) : sx_IL := aI_2_0
theorem aT_2 (pc : Nat) : sx_iOk prog_6_method_1_code (aS_2 pc) := (sx_iB_s aJ_2_0)
def aW_2 : Nat → Option (Instr × Nat) := fun pc => sx_iF (aS_2 pc) pc
theorem aX_2 : ∀ pc i len, aW_2 pc = some (i, len) → decode aM_2.1.2.1 pc = .ok (i, len) := fun pc i len h => sx_iF_s (aT_2 pc) h
def aI_3_0 : sx_IL := [(0, .aload_n 0, 1), (1, .invokespecial 1, 3), (4, .aload_n 0, 1), (5, .iload_n 1, 1), (6, .bipush 8, 2), (8, .invokestatic 7, 3)]
theorem aJ_3_0 : sx_iB prog_9_method_1_code aI_3_0 = true := by decide +kernel
def aI_3_1 : sx_IL := [(11, .newarray .int, 2), (13, .putfield 13, 3), (16, .return_, 1)]
theorem aJ_3_1 : sx_iB prog_9_method_1_code aI_3_1 = true := by decide +kernel
def aS_3 (pc : Nat) : sx_IL := (if pc < 11 then aI_3_0 else aI_3_1)
theorem aT_3 (pc : Nat) : sx_iOk prog_9_method_1_code (aS_3 pc) := (sx_ite (p := fun l => sx_iOk prog_9_method_1_code l) (sx_iB_s aJ_3_0) (sx_iB_s aJ_3_1))
def aW_3 : Nat → Option (Instr × Nat) := fun pc => sx_iF (aS_3 pc) pc
theorem aX_3 : ∀ pc i len, aW_3 pc = some (i, len) → decode aM_3.1.2.1 pc = .ok (i, len) := fun pc i len h => sx_iF_s (aT_3 pc) h
def aI_5_0 : sx_IL := [(0, .aload_n 0, 1), (1, .invokespecial 3, 3), (4, .aload_n 0, 1), (5, .bipush 12, 2), (7, .newarray .int, 2), (9, .putfield 9, 3)]
theorem aJ_5_0 : sx_iB prog_8_method_1_code aI_5_0 = true := by decide +kernel
def aI_5_1 : sx_IL := [(12, .aload_n 0, 1), (13, .bipush 32, 2), (15, .newarray .int, 2), (17, .putfield 15, 3), (20, .aload_n 0, 1), (21, .iconst (-1), 1)]
theorem aJ_5_1 : sx_iB prog_8_method_1_code aI_5_1 = true := by decide +kernel
def aI_5_2 : sx_IL := [(22, .putfield 18, 3), (25, .aload_n 0, 1), (26, .iload_n 1, 1), (27, .iconst 1, 1), (28, .invokestatic 22, 3), (31, .newarray .int, 2)]
theorem aJ_5_2 : sx_iB prog_8_method_1_code aI_5_2 = true := by decide +kernel
def aI_5_3 : sx_IL := [(33, .putfield 28, 3), (36, .return_, 1)]
theorem aJ_5_3 : sx_iB prog_8_method_1_code aI_5_3 = true := by decide +kernel
def aS_5 (pc : Nat) : sx_IL := (if pc < 22 then (if pc < 12 then aI_5_0 else aI_5_1) else (if pc < 33 then aI_5_2 else aI_5_3))
theorem aT_5 (pc : Nat) : sx_iOk prog_8_method_1_code (aS_5 pc) := (sx_ite (p := fun l => sx_iOk prog_8_method_1_code l) (sx_ite (p := fun l => sx_iOk prog_8_method_1_code l) (sx_iB_s aJ_5_0) (sx_iB_s aJ_5_1)) (sx_ite (p := fun l => sx_iOk prog_8_method_1_code l) (sx_iB_s aJ_5_2) (sx_iB_s aJ_5_3)))
def aW_5 : Nat → Option (Instr × Nat) := fun pc => sx_iF (aS_5 pc) pc
theorem aX_5 : ∀ pc i len, aW_5 pc = some (i, len) → decode aM_5.1.2.1 pc = .ok (i, len) := fun pc i len h => sx_iF_s (aT_5 pc) h
def aI_6_0 : sx_IL := [(0, .iload_n 1, 1), (1, .iconst 1, 1), (2, .if_icmp .lt 9, 3), (5, .iload_n 1, 1), (6, .bipush 8, 2), (8, .if_icmp .le 5, 3)]
theorem aJ_6_0 : sx_iB prog_1_method_2_code aI_6_0 = true := by decide +kernel
def aI_6_1 : sx_IL := [(11, .iconst (-1), 1), (12, .ireturn, 1), (13, .aload_n 0, 1), (14, .getfield 21, 3), (17, .getfield 69, 3), (20, .iload_n 1, 1)]
theorem aJ_6_1 : sx_iB prog_1_method_2_code aI_6_1 = true := by decide +kernel
def aI_6_2 : sx_IL := [(21, .iadd, 1), (22, .sipush 800, 3), (25, .if_icmp .le 6, 3), (28, .bipush (-3), 2), (30, .ireturn, 1), (31, .iload_n 1, 1)]
theorem aJ_6_2 : sx_iB prog_1_method_2_code aI_6_2 = true := by decide +kernel
def aI_6_3 : sx_IL := [(32, .iconst 1, 1), (33, .isub, 1), (34, .istore 4, 2), (36, .iload 4, 2), (38, .ifCond .lt 24, 3), (41, .aload_n 0, 1)]
theorem aJ_6_3 : sx_iB prog_1_method_2_code aI_6_3 = true := by decide +kernel
def aI_6_4 : sx_IL := [(42, .getfield 21, 3), (45, .lload_n 2, 1), (46, .bipush 8, 2), (48, .iload 4, 2), (50, .imul, 1), (51, .lushr, 1)]
theorem aJ_6_4 : sx_iB prog_1_method_2_code aI_6_4 = true := by decide +kernel
def aI_6_5 : sx_IL := [(52, .l2i, 1), (53, .invokevirtual 73, 3), (56, .iinc 4 (-1), 3), (59, .goto (-23), 3), (62, .aload_n 0, 1), (63, .getfield 21, 3)]
theorem aJ_6_5 : sx_iB prog_1_method_2_code aI_6_5 = true := by decide +kernel
def aI_6_6 : sx_IL := [(66, .getfield 69, 3), (69, .ireturn, 1)]
theorem aJ_6_6 : sx_iB prog_1_method_2_code aI_6_6 = true := by decide +kernel
def aS_6 (pc : Nat) : sx_IL := (if pc < 32 then (if pc < 11 then aI_6_0 else (if pc < 21 then aI_6_1 else aI_6_2)) else (if pc < 52 then (if pc < 42 then aI_6_3 else aI_6_4) else (if pc < 66 then aI_6_5 else aI_6_6)))
theorem aT_6 (pc : Nat) : sx_iOk prog_1_method_2_code (aS_6 pc) := (sx_ite (p := fun l => sx_iOk prog_1_method_2_code l) (sx_ite (p := fun l => sx_iOk prog_1_method_2_code l) (sx_iB_s aJ_6_0) (sx_ite (p := fun l => sx_iOk prog_1_method_2_code l) (sx_iB_s aJ_6_1) (sx_iB_s aJ_6_2))) (sx_ite (p := fun l => sx_iOk prog_1_method_2_code l) (sx_ite (p := fun l => sx_iOk prog_1_method_2_code l) (sx_iB_s aJ_6_3) (sx_iB_s aJ_6_4)) (sx_ite (p := fun l => sx_iOk prog_1_method_2_code l) (sx_iB_s aJ_6_5) (sx_iB_s aJ_6_6))))
def aW_6 : Nat → Option (Instr × Nat) := fun pc => sx_iF (aS_6 pc) pc
theorem aX_6 : ∀ pc i len, aW_6 pc = some (i, len) → decode aM_6.1.2.1 pc = .ok (i, len) := fun pc i len h => sx_iF_s (aT_6 pc) h
def aI_7_0 : sx_IL := [(0, .aload_n 0, 1), (1, .getfield 19, 3), (4, .ldc 32, 2), (6, .if_icmp .lt 4, 3), (9, .return_, 1), (10, .aload_n 0, 1)]
theorem aJ_7_0 : sx_iB prog_9_method_7_code aI_7_0 = true := by decide +kernel
def aI_7_1 : sx_IL := [(11, .getfield 19, 3), (14, .aload_n 0, 1), (15, .getfield 13, 3), (18, .arraylength, 1), (19, .if_icmp .lt 21, 3), (22, .aload_n 0, 1)]
theorem aJ_7_1 : sx_iB prog_9_method_7_code aI_7_1 = true := by decide +kernel
def aI_7_2 : sx_IL := [(23, .aload_n 0, 1), (24, .getfield 13, 3), (27, .iconst 2, 1), (28, .aload_n 0, 1), (29, .getfield 13, 3), (32, .arraylength, 1)]
theorem aJ_7_2 : sx_iB prog_9_method_7_code aI_7_2 = true := by decide +kernel
def aI_7_3 : sx_IL := [(33, .imul, 1), (34, .invokestatic 33, 3), (37, .putfield 13, 3), (40, .aload_n 0, 1), (41, .getfield 13, 3), (44, .aload_n 0, 1)]
theorem aJ_7_3 : sx_iB prog_9_method_7_code aI_7_3 = true := by decide +kernel
def aI_7_4 : sx_IL := [(45, .getfield 19, 3), (48, .iload_n 1, 1), (49, .sipush 255, 3), (52, .iand, 1), (53, .iastore, 1), (54, .aload_n 0, 1)]
theorem aJ_7_4 : sx_iB prog_9_method_7_code aI_7_4 = true := by decide +kernel
def aI_7_5 : sx_IL := [(55, .dup, 1), (56, .getfield 19, 3), (59, .iconst 1, 1), (60, .iadd, 1), (61, .putfield 19, 3), (64, .return_, 1)]
theorem aJ_7_5 : sx_iB prog_9_method_7_code aI_7_5 = true := by decide +kernel
def aS_7 (pc : Nat) : sx_IL := (if pc < 33 then (if pc < 11 then aI_7_0 else (if pc < 23 then aI_7_1 else aI_7_2)) else (if pc < 45 then aI_7_3 else (if pc < 55 then aI_7_4 else aI_7_5)))
theorem aT_7 (pc : Nat) : sx_iOk prog_9_method_7_code (aS_7 pc) := (sx_ite (p := fun l => sx_iOk prog_9_method_7_code l) (sx_ite (p := fun l => sx_iOk prog_9_method_7_code l) (sx_iB_s aJ_7_0) (sx_ite (p := fun l => sx_iOk prog_9_method_7_code l) (sx_iB_s aJ_7_1) (sx_iB_s aJ_7_2))) (sx_ite (p := fun l => sx_iOk prog_9_method_7_code l) (sx_iB_s aJ_7_3) (sx_ite (p := fun l => sx_iOk prog_9_method_7_code l) (sx_iB_s aJ_7_4) (sx_iB_s aJ_7_5))))
def aW_7 : Nat → Option (Instr × Nat) := fun pc => sx_iF (aS_7 pc) pc
theorem aX_7 : ∀ pc i len, aW_7 pc = some (i, len) → decode aM_7.1.2.1 pc = .ok (i, len) := fun pc i len h => sx_iF_s (aT_7 pc) h
def aI_8_0 : sx_IL := [(0, .iload_n 1, 1), (1, .aload_n 0, 1), (2, .arraylength, 1), (3, .if_icmp .ne 11, 3), (6, .aload_n 0, 1), (7, .invokevirtual 316, 3)]
theorem aJ_8_0 : sx_iB prog_18_method_123_code aI_8_0 = true := by decide +kernel
def aI_8_1 : sx_IL := [(10, .checkcast 317, 3), (13, .areturn, 1), (14, .iload_n 1, 1), (15, .newarray .int, 2), (17, .astore_n 2, 1), (18, .aload_n 0, 1)]
theorem aJ_8_1 : sx_iB prog_18_method_123_code aI_8_1 = true := by decide +kernel
def aI_8_2 : sx_IL := [(19, .iconst 0, 1), (20, .aload_n 2, 1), (21, .iconst 0, 1), (22, .aload_n 0, 1), (23, .arraylength, 1), (24, .iload_n 1, 1)]
theorem aJ_8_2 : sx_iB prog_18_method_123_code aI_8_2 = true := by decide +kernel
def aI_8_3 : sx_IL := [(25, .invokestatic 304, 3), (28, .invokestatic 150, 3), (31, .aload_n 2, 1), (32, .areturn, 1)]
theorem aJ_8_3 : sx_iB prog_18_method_123_code aI_8_3 = true := by decide +kernel
def aS_8 (pc : Nat) : sx_IL := (if pc < 19 then (if pc < 10 then aI_8_0 else aI_8_1) else (if pc < 25 then aI_8_2 else aI_8_3))
theorem aT_8 (pc : Nat) : sx_iOk prog_18_method_123_code (aS_8 pc) := (sx_ite (p := fun l => sx_iOk prog_18_method_123_code l) (sx_ite (p := fun l => sx_iOk prog_18_method_123_code l) (sx_iB_s aJ_8_0) (sx_iB_s aJ_8_1)) (sx_ite (p := fun l => sx_iOk prog_18_method_123_code l) (sx_iB_s aJ_8_2) (sx_iB_s aJ_8_3)))
def aW_8 : Nat → Option (Instr × Nat) := fun pc => sx_iF (aS_8 pc) pc
theorem aX_8 : ∀ pc i len, aW_8 pc = some (i, len) → decode aM_8.1.2.1 pc = .ok (i, len) := fun pc i len h => sx_iF_s (aT_8 pc) h
def aI_9_0 : sx_IL := [(0, .iload_n 1, 1), (1, .ifCond .lt 14, 3), (4, .iload_n 1, 1), (5, .aload_n 0, 1), (6, .getfield 21, 3), (9, .getfield 69, 3)]
theorem aJ_9_0 : sx_iB prog_1_method_3_code aI_9_0 = true := by decide +kernel
def aI_9_1 : sx_IL := [(12, .if_icmp .le 5, 3), (15, .iconst (-1), 1), (16, .ireturn, 1), (17, .aload_n 0, 1), (18, .getfield 21, 3), (21, .getfield 69, 3)]
theorem aJ_9_1 : sx_iB prog_1_method_3_code aI_9_1 = true := by decide +kernel
def aI_9_2 : sx_IL := [(24, .iload_n 1, 1), (25, .isub, 1), (26, .istore_n 2, 1), (27, .aload_n 0, 1), (28, .getfield 21, 3), (31, .iload_n 1, 1)]
theorem aJ_9_2 : sx_iB prog_1_method_3_code aI_9_2 = true := by decide +kernel
def aI_9_3 : sx_IL := [(32, .putfield 69, 3), (35, .iload_n 2, 1), (36, .ireturn, 1)]
theorem aJ_9_3 : sx_iB prog_1_method_3_code aI_9_3 = true := by decide +kernel
def aS_9 (pc : Nat) : sx_IL := (if pc < 24 then (if pc < 12 then aI_9_0 else aI_9_1) else (if pc < 32 then aI_9_2 else aI_9_3))
theorem aT_9 (pc : Nat) : sx_iOk prog_1_method_3_code (aS_9 pc) := (sx_ite (p := fun l => sx_iOk prog_1_method_3_code l) (sx_ite (p := fun l => sx_iOk prog_1_method_3_code l) (sx_iB_s aJ_9_0) (sx_iB_s aJ_9_1)) (sx_ite (p := fun l => sx_iOk prog_1_method_3_code l) (sx_iB_s aJ_9_2) (sx_iB_s aJ_9_3)))
def aW_9 : Nat → Option (Instr × Nat) := fun pc => sx_iF (aS_9 pc) pc
theorem aX_9 : ∀ pc i len, aW_9 pc = some (i, len) → decode aM_9.1.2.1 pc = .ok (i, len) := fun pc i len h => sx_iF_s (aT_9 pc) h
def aI_10_0 : sx_IL := [(0, .iload_n 1, 1), (1, .iconst (-1), 1), (2, .if_icmp .lt 14, 3), (5, .iload_n 1, 1), (6, .aload_n 0, 1), (7, .getfield 25, 3)]
theorem aJ_10_0 : sx_iB prog_1_method_4_code aI_10_0 = true := by decide +kernel
def aI_10_1 : sx_IL := [(10, .getfield 69, 3), (13, .if_icmp .lt 5, 3), (16, .iconst (-1), 1), (17, .ireturn, 1), (18, .iload_n 1, 1), (19, .iconst (-1), 1)]
theorem aJ_10_1 : sx_iB prog_1_method_4_code aI_10_1 = true := by decide +kernel
def aI_10_2 : sx_IL := [(20, .if_icmp .ne 13, 3), (23, .aload_n 0, 1), (24, .getfield 25, 3), (27, .getfield 69, 3), (30, .goto 11, 3), (33, .aload_n 0, 1)]
theorem aJ_10_2 : sx_iB prog_1_method_4_code aI_10_2 = true := by decide +kernel
def aI_10_3 : sx_IL := [(34, .getfield 25, 3), (37, .iload_n 1, 1), (38, .invokevirtual 76, 3), (41, .ireturn, 1)]
theorem aJ_10_3 : sx_iB prog_1_method_4_code aI_10_3 = true := by decide +kernel
def aS_10 (pc : Nat) : sx_IL := (if pc < 20 then (if pc < 10 then aI_10_0 else aI_10_1) else (if pc < 34 then aI_10_2 else aI_10_3))
theorem aT_10 (pc : Nat) : sx_iOk prog_1_method_4_code (aS_10 pc) := (sx_ite (p := fun l => sx_iOk prog_1_method_4_code l) (sx_ite (p := fun l => sx_iOk prog_1_method_4_code l) (sx_iB_s aJ_10_0) (sx_iB_s aJ_10_1)) (sx_ite (p := fun l => sx_iOk prog_1_method_4_code l) (sx_iB_s aJ_10_2) (sx_iB_s aJ_10_3)))
def aW_10 : Nat → Option (Instr × Nat) := fun pc => sx_iF (aS_10 pc) pc
theorem aX_10 : ∀ pc i len, aW_10 pc = some (i, len) → decode aM_10.1.2.1 pc = .ok (i, len) := fun pc i len h => sx_iF_s (aT_10 pc) h
def aI_11_0 : sx_IL := [(0, .iload_n 1, 1), (1, .ifCond .lt 20, 3), (4, .iload_n 1, 1), (5, .aload_n 0, 1), (6, .getfield 19, 3), (9, .if_icmp .ge 12, 3)]
theorem aJ_11_0 : sx_iB prog_9_method_3_code aI_11_0 = true := by decide +kernel
def aI_11_1 : sx_IL := [(12, .aload_n 0, 1), (13, .getfield 13, 3), (16, .iload_n 1, 1), (17, .iaload, 1), (18, .goto 4, 3), (21, .iconst 0, 1)]
theorem aJ_11_1 : sx_iB prog_9_method_3_code aI_11_1 = true := by decide +kernel
def aI_11_2 : sx_IL := [(22, .ireturn, 1)]
theorem aJ_11_2 : sx_iB prog_9_method_3_code aI_11_2 = true := by decide +kernel
def aS_11 (pc : Nat) : sx_IL := (if pc < 12 then aI_11_0 else (if pc < 22 then aI_11_1 else aI_11_2))
theorem aT_11 (pc : Nat) : sx_iOk prog_9_method_3_code (aS_11 pc) := (sx_ite (p := fun l => sx_iOk prog_9_method_3_code l) (sx_iB_s aJ_11_0) (sx_ite (p := fun l => sx_iOk prog_9_method_3_code l) (sx_iB_s aJ_11_1) (sx_iB_s aJ_11_2)))
def aW_11 : Nat → Option (Instr × Nat) := fun pc => sx_iF (aS_11 pc) pc
theorem aX_11 : ∀ pc i len, aW_11 pc = some (i, len) → decode aM_11.1.2.1 pc = .ok (i, len) := fun pc i len h => sx_iF_s (aT_11 pc) h
def aI_12_0 : sx_IL := [(0, .aload_n 0, 1), (1, .getfield 21, 3), (4, .getfield 69, 3), (7, .aload_n 0, 1), (8, .getfield 25, 3), (11, .getfield 69, 3)]
theorem aJ_12_0 : sx_iB prog_1_method_5_code aI_12_0 = true := by decide +kernel
def aI_12_1 : sx_IL := [(14, .iadd, 1), (15, .sipush 800, 3), (18, .if_icmp .le 6, 3), (21, .bipush (-3), 2), (23, .ireturn, 1), (24, .aload_n 0, 1)]
theorem aJ_12_1 : sx_iB prog_1_method_5_code aI_12_1 = true := by decide +kernel
def aI_12_2 : sx_IL := [(25, .getfield 21, 3), (28, .aload_n 0, 1), (29, .getfield 25, 3), (32, .getfield 80, 3), (35, .iconst 0, 1), (36, .aload_n 0, 1)]
theorem aJ_12_2 : sx_iB prog_1_method_5_code aI_12_2 = true := by decide +kernel
def aI_12_3 : sx_IL := [(37, .getfield 25, 3), (40, .getfield 69, 3), (43, .invokevirtual 83, 3), (46, .aload_n 0, 1), (47, .getfield 21, 3), (50, .getfield 69, 3)]
theorem aJ_12_3 : sx_iB prog_1_method_5_code aI_12_3 = true := by decide +kernel
def aI_12_4 : sx_IL := [(53, .ireturn, 1)]
theorem aJ_12_4 : sx_iB prog_1_method_5_code aI_12_4 = true := by decide +kernel
def aS_12 (pc : Nat) : sx_IL := (if pc < 25 then (if pc < 14 then aI_12_0 else aI_12_1) else (if pc < 37 then aI_12_2 else (if pc < 53 then aI_12_3 else aI_12_4)))
theorem aT_12 (pc : Nat) : sx_iOk prog_1_method_5_code (aS_12 pc) := (sx_ite (p := fun l => sx_iOk prog_1_method_5_code l) (sx_ite (p := fun l => sx_iOk prog_1_method_5_code l) (sx_iB_s aJ_12_0) (sx_iB_s aJ_12_1)) (sx_ite (p := fun l => sx_iOk prog_1_method_5_code l) (sx_iB_s aJ_12_2) (sx_ite (p := fun l => sx_iOk prog_1_method_5_code l) (sx_iB_s aJ_12_3) (sx_iB_s aJ_12_4))))
def aW_12 : Nat → Option (Instr × Nat) := fun pc => sx_iF (aS_12 pc) pc
theorem aX_12 : ∀ pc i len, aW_12 pc = some (i, len) → decode aM_12.1.2.1 pc = .ok (i, len) := fun pc i len h => sx_iF_s (aT_12 pc) h
def aI_13_0 : sx_IL := [(0, .iload_n 2, 1), (1, .ifCond .lt 27, 3), (4, .iload_n 3, 1), (5, .aload_n 1, 1), (6, .arraylength, 1), (7, .if_icmp .gt 21, 3)]
theorem aJ_13_0 : sx_iB prog_9_method_12_code aI_13_0 = true := by decide +kernel
def aI_13_1 : sx_IL := [(10, .iload_n 2, 1), (11, .iload_n 3, 1), (12, .if_icmp .ge 16, 3), (15, .aload_n 0, 1), (16, .getfield 19, 3), (19, .iload_n 3, 1)]
theorem aJ_13_1 : sx_iB prog_9_method_12_code aI_13_1 = true := by decide +kernel
def aI_13_2 : sx_IL := [(20, .iload_n 2, 1), (21, .isub, 1), (22, .iadd, 1), (23, .ldc 32, 2), (25, .if_icmp .le 4, 3), (28, .return_, 1)]
theorem aJ_13_2 : sx_iB prog_9_method_12_code aI_13_2 = true := by decide +kernel
def aI_13_3 : sx_IL := [(29, .aload_n 0, 1), (30, .getfield 19, 3), (33, .iload_n 3, 1), (34, .iadd, 1), (35, .iload_n 2, 1), (36, .isub, 1)]
theorem aJ_13_3 : sx_iB prog_9_method_12_code aI_13_3 = true := by decide +kernel
def aI_13_4 : sx_IL := [(37, .aload_n 0, 1), (38, .getfield 13, 3), (41, .arraylength, 1), (42, .if_icmp .le 32, 3), (45, .aload_n 0, 1), (46, .aload_n 0, 1)]
theorem aJ_13_4 : sx_iB prog_9_method_12_code aI_13_4 = true := by decide +kernel
def aI_13_5 : sx_IL := [(47, .getfield 13, 3), (50, .iconst 2, 1), (51, .aload_n 0, 1), (52, .getfield 13, 3), (55, .arraylength, 1), (56, .imul, 1)]
theorem aJ_13_5 : sx_iB prog_9_method_12_code aI_13_5 = true := by decide +kernel
def aI_13_6 : sx_IL := [(57, .aload_n 0, 1), (58, .getfield 19, 3), (61, .iload_n 3, 1), (62, .iadd, 1), (63, .iload_n 2, 1), (64, .isub, 1)]
theorem aJ_13_6 : sx_iB prog_9_method_12_code aI_13_6 = true := by decide +kernel
def aI_13_7 : sx_IL := [(65, .invokestatic 7, 3), (68, .invokestatic 33, 3), (71, .putfield 13, 3), (74, .aload_n 1, 1), (75, .iload_n 2, 1), (76, .aload_n 0, 1)]
theorem aJ_13_7 : sx_iB prog_9_method_12_code aI_13_7 = true := by decide +kernel
def aI_13_8 : sx_IL := [(77, .getfield 13, 3), (80, .aload_n 0, 1), (81, .getfield 19, 3), (84, .iload_n 3, 1), (85, .iload_n 2, 1), (86, .isub, 1)]
theorem aJ_13_8 : sx_iB prog_9_method_12_code aI_13_8 = true := by decide +kernel
def aI_13_9 : sx_IL := [(87, .invokestatic 43, 3), (90, .aload_n 0, 1), (91, .dup, 1), (92, .getfield 19, 3), (95, .iload_n 3, 1), (96, .iload_n 2, 1)]
theorem aJ_13_9 : sx_iB prog_9_method_12_code aI_13_9 = true := by decide +kernel
def aI_13_10 : sx_IL := [(97, .isub, 1), (98, .iadd, 1), (99, .putfield 19, 3), (102, .return_, 1)]
theorem aJ_13_10 : sx_iB prog_9_method_12_code aI_13_10 = true := by decide +kernel
def aS_13 (pc : Nat) : sx_IL := (if pc < 47 then (if pc < 20 then (if pc < 10 then aI_13_0 else aI_13_1) else (if pc < 29 then aI_13_2 else (if pc < 37 then aI_13_3 else aI_13_4))) else (if pc < 77 then (if pc < 57 then aI_13_5 else (if pc < 65 then aI_13_6 else aI_13_7)) else (if pc < 87 then aI_13_8 else (if pc < 97 then aI_13_9 else aI_13_10))))
theorem aT_13 (pc : Nat) : sx_iOk prog_9_method_12_code (aS_13 pc) := (sx_ite (p := fun l => sx_iOk prog_9_method_12_code l) (sx_ite (p := fun l => sx_iOk prog_9_method_12_code l) (sx_ite (p := fun l => sx_iOk prog_9_method_12_code l) (sx_iB_s aJ_13_0) (sx_iB_s aJ_13_1)) (sx_ite (p := fun l => sx_iOk prog_9_method_12_code l) (sx_iB_s aJ_13_2) (sx_ite (p := fun l => sx_iOk prog_9_method_12_code l) (sx_iB_s aJ_13_3) (sx_iB_s aJ_13_4)))) (sx_ite (p := fun l => sx_iOk prog_9_method_12_code l) (sx_ite (p := fun l => sx_iOk prog_9_method_12_code l) (sx_iB_s aJ_13_5) (sx_ite (p := fun l => sx_iOk prog_9_method_12_code l) (sx_iB_s aJ_13_6) (sx_iB_s aJ_13_7))) (sx_ite (p := fun l => sx_iOk prog_9_method_12_code l) (sx_iB_s aJ_13_8) (sx_ite (p := fun l => sx_iOk prog_9_method_12_code l) (sx_iB_s aJ_13_9) (sx_iB_s aJ_13_10)))))
def aW_13 : Nat → Option (Instr × Nat) := fun pc => sx_iF (aS_13 pc) pc
theorem aX_13 : ∀ pc i len, aW_13 pc = some (i, len) → decode aM_13.1.2.1 pc = .ok (i, len) := fun pc i len h => sx_iF_s (aT_13 pc) h
def aI_14_0 : sx_IL := [(0, .iload_n 1, 1), (1, .ifCond .lt 9, 3), (4, .iload_n 1, 1), (5, .ldc 87, 2), (7, .if_icmp .le 5, 3), (10, .iconst (-1), 1)]
theorem aJ_14_0 : sx_iB prog_1_method_6_code aI_14_0 = true := by decide +kernel
def aI_14_1 : sx_IL := [(11, .ireturn, 1), (12, .aload_n 0, 1), (13, .getfield 10, 3), (16, .getfield 88, 3), (19, .ldc 91, 2), (21, .iload_n 1, 1)]
theorem aJ_14_1 : sx_iB prog_1_method_6_code aI_14_1 = true := by decide +kernel
def aI_14_2 : sx_IL := [(22, .isub, 1), (23, .if_icmp .le 6, 3), (26, .bipush (-2), 2), (28, .ireturn, 1), (29, .aload_n 0, 1), (30, .getfield 10, 3)]
theorem aJ_14_2 : sx_iB prog_1_method_6_code aI_14_2 = true := by decide +kernel
def aI_14_3 : sx_IL := [(33, .dup, 1), (34, .getfield 88, 3), (37, .iload_n 1, 1), (38, .iadd, 1), (39, .putfield 88, 3), (42, .aload_n 0, 1)]
theorem aJ_14_3 : sx_iB prog_1_method_6_code aI_14_3 = true := by decide +kernel
def aI_14_4 : sx_IL := [(43, .getfield 10, 3), (46, .getfield 88, 3), (49, .ireturn, 1)]
theorem aJ_14_4 : sx_iB prog_1_method_6_code aI_14_4 = true := by decide +kernel
def aS_14 (pc : Nat) : sx_IL := (if pc < 22 then (if pc < 11 then aI_14_0 else aI_14_1) else (if pc < 33 then aI_14_2 else (if pc < 43 then aI_14_3 else aI_14_4)))
theorem aT_14 (pc : Nat) : sx_iOk prog_1_method_6_code (aS_14 pc) := (sx_ite (p := fun l => sx_iOk prog_1_method_6_code l) (sx_ite (p := fun l => sx_iOk prog_1_method_6_code l) (sx_iB_s aJ_14_0) (sx_iB_s aJ_14_1)) (sx_ite (p := fun l => sx_iOk prog_1_method_6_code l) (sx_iB_s aJ_14_2) (sx_ite (p := fun l => sx_iOk prog_1_method_6_code l) (sx_iB_s aJ_14_3) (sx_iB_s aJ_14_4))))
def aW_14 : Nat → Option (Instr × Nat) := fun pc => sx_iF (aS_14 pc) pc
theorem aX_14 : ∀ pc i len, aW_14 pc = some (i, len) → decode aM_14.1.2.1 pc = .ok (i, len) := fun pc i len h => sx_iF_s (aT_14 pc) h
def aI_15_0 : sx_IL := [(0, .iload_n 1, 1), (1, .invokestatic 92, 3), (4, .ifCond .ne 7, 3), (7, .ldc2_w 96, 3), (10, .lreturn, 1), (11, .aload_n 0, 1)]
theorem aJ_15_0 : sx_iB prog_1_method_7_code aI_15_0 = true := by decide +kernel
def aI_15_1 : sx_IL := [(12, .getfield 10, 3), (15, .getfield 98, 3), (18, .iload_n 1, 1), (19, .aload_n 0, 1), (20, .getfield 21, 3), (23, .getfield 80, 3)]
theorem aJ_15_1 : sx_iB prog_1_method_7_code aI_15_1 = true := by decide +kernel
def aI_15_2 : sx_IL := [(26, .iconst 0, 1), (27, .aload_n 0, 1), (28, .getfield 21, 3), (31, .getfield 69, 3), (34, .invokevirtual 102, 3), (37, .lstore_n 2, 1)]
theorem aJ_15_2 : sx_iB prog_1_method_7_code aI_15_2 = true := by decide +kernel
def aI_15_3 : sx_IL := [(38, .aload_n 0, 1), (39, .getfield 21, 3), (42, .invokevirtual 108, 3), (45, .lload_n 2, 1), (46, .lreturn, 1)]
theorem aJ_15_3 : sx_iB prog_1_method_7_code aI_15_3 = true := by decide +kernel
def aS_15 (pc : Nat) : sx_IL := (if pc < 26 then (if pc < 12 then aI_15_0 else aI_15_1) else (if pc < 38 then aI_15_2 else aI_15_3))
theorem aT_15 (pc : Nat) : sx_iOk prog_1_method_7_code (aS_15 pc) := (sx_ite (p := fun l => sx_iOk prog_1_method_7_code l) (sx_ite (p := fun l => sx_iOk prog_1_method_7_code l) (sx_iB_s aJ_15_0) (sx_iB_s aJ_15_1)) (sx_ite (p := fun l => sx_iOk prog_1_method_7_code l) (sx_iB_s aJ_15_2) (sx_iB_s aJ_15_3)))
def aW_15 : Nat → Option (Instr × Nat) := fun pc => sx_iF (aS_15 pc) pc
theorem aX_15 : ∀ pc i len, aW_15 pc = some (i, len) → decode aM_15.1.2.1 pc = .ok (i, len) := fun pc i len h => sx_iF_s (aT_15 pc) h
def aI_16_0 : sx_IL := [(0, .iload_n 0, 1), (1, .ifCond .eq 8, 3), (4, .iload_n 0, 1), (5, .iconst 1, 1), (6, .if_icmp .ne 7, 3), (9, .iconst 1, 1)]
theorem aJ_16_0 : sx_iB prog_1_method_17_code aI_16_0 = true := by decide +kernel
def aI_16_1 : sx_IL := [(10, .goto 4, 3), (13, .iconst 0, 1), (14, .ireturn, 1)]
theorem aJ_16_1 : sx_iB prog_1_method_17_code aI_16_1 = true := by decide +kernel
def aS_16 (pc : Nat) : sx_IL := (if pc < 10 then aI_16_0 else aI_16_1)
theorem aT_16 (pc : Nat) : sx_iOk prog_1_method_17_code (aS_16 pc) := (sx_ite (p := fun l => sx_iOk prog_1_method_17_code l) (sx_iB_s aJ_16_0) (sx_iB_s aJ_16_1))
def aW_16 : Nat → Option (Instr × Nat) := fun pc => sx_iF (aS_16 pc) pc
theorem aX_16 : ∀ pc i len, aW_16 pc = some (i, len) → decode aM_16.1.2.1 pc = .ok (i, len) := fun pc i len h => sx_iF_s (aT_16 pc) h
def aI_17_0 : sx_IL := [(0, .aload_n 0, 1), (1, .iload_n 1, 1), (2, .invokevirtual 41, 3), (5, .aload_n 0, 1), (6, .aload_n 2, 1), (7, .iload_n 3, 1)]
theorem aJ_17_0 : sx_iB prog_6_method_12_code aI_17_0 = true := by decide +kernel
def aI_17_1 : sx_IL := [(8, .iload 4, 2), (10, .invokevirtual 45, 3), (13, .aload_n 0, 1), (14, .invokevirtual 49, 3), (17, .lreturn, 1)]
theorem aJ_17_1 : sx_iB prog_6_method_12_code aI_17_1 = true := by decide +kernel
def aS_17 (pc : Nat) : sx_IL := (if pc < 8 then aI_17_0 else aI_17_1)
theorem aT_17 (pc : Nat) : sx_iOk prog_6_method_12_code (aS_17 pc) := (sx_ite (p := fun l => sx_iOk prog_6_method_12_code l) (sx_iB_s aJ_17_0) (sx_iB_s aJ_17_1))
def aW_17 : Nat → Option (Instr × Nat) := fun pc => sx_iF (aS_17 pc) pc
theorem aX_17 : ∀ pc i len, aW_17 pc = some (i, len) → decode aM_17.1.2.1 pc = .ok (i, len) := fun pc i len h => sx_iF_s (aT_17 pc) h
def aI_18_0 : sx_IL := [(0, .aload_n 0, 1), (1, .iconst 1, 1), (2, .iload_n 1, 1), (3, .iadd, 1), (4, .putfield 7, 3), (7, .aload_n 0, 1)]
theorem aJ_18_0 : sx_iB prog_6_method_4_code aI_18_0 = true := by decide +kernel
def aI_18_1 : sx_IL := [(8, .iconst 2, 1), (9, .iload_n 1, 1), (10, .iadd, 1), (11, .putfield 13, 3), (14, .aload_n 0, 1), (15, .iconst 3, 1)]
theorem aJ_18_1 : sx_iB prog_6_method_4_code aI_18_1 = true := by decide +kernel
def aI_18_2 : sx_IL := [(16, .iload_n 1, 1), (17, .iadd, 1), (18, .putfield 16, 3), (21, .aload_n 0, 1), (22, .iconst 4, 1), (23, .iload_n 1, 1)]
theorem aJ_18_2 : sx_iB prog_6_method_4_code aI_18_2 = true := by decide +kernel
def aI_18_3 : sx_IL := [(24, .iadd, 1), (25, .putfield 19, 3), (28, .aload_n 0, 1), (29, .iconst 0, 1), (30, .putfield 22, 3), (33, .return_, 1)]
theorem aJ_18_3 : sx_iB prog_6_method_4_code aI_18_3 = true := by decide +kernel
def aS_18 (pc : Nat) : sx_IL := (if pc < 16 then (if pc < 8 then aI_18_0 else aI_18_1) else (if pc < 24 then aI_18_2 else aI_18_3))
theorem aT_18 (pc : Nat) : sx_iOk prog_6_method_4_code (aS_18 pc) := (sx_ite (p := fun l => sx_iOk prog_6_method_4_code l) (sx_ite (p := fun l => sx_iOk prog_6_method_4_code l) (sx_iB_s aJ_18_0) (sx_iB_s aJ_18_1)) (sx_ite (p := fun l => sx_iOk prog_6_method_4_code l) (sx_iB_s aJ_18_2) (sx_iB_s aJ_18_3)))
def aW_18 : Nat → Option (Instr × Nat) := fun pc => sx_iF (aS_18 pc) pc
theorem aX_18 : ∀ pc i len, aW_18 pc = some (i, len) → decode aM_18.1.2.1 pc = .ok (i, len) := fun pc i len h => sx_iF_s (aT_18 pc) h
def aI_19_0 : sx_IL := [(0, .iload_n 2, 1), (1, .ifCond .lt 9, 3), (4, .iload_n 3, 1), (5, .aload_n 1, 1), (6, .arraylength, 1), (7, .if_icmp .le 4, 3)]
theorem aJ_19_0 : sx_iB prog_6_method_10_code aI_19_0 = true := by decide +kernel
def aI_19_1 : sx_IL := [(10, .return_, 1), (11, .iload_n 2, 1), (12, .istore 4, 2), (14, .iload 4, 2), (16, .iload_n 3, 1), (17, .if_icmp .ge 54, 3)]
theorem aJ_19_1 : sx_iB prog_6_method_10_code aI_19_1 = true := by decide +kernel
def aI_19_2 : sx_IL := [(20, .aload_n 0, 1), (21, .aload_n 0, 1), (22, .getfield 25, 3), (25, .bipush 8, 2), (27, .lshl, 1), (28, .aload_n 1, 1)]
theorem aJ_19_2 : sx_iB prog_6_method_10_code aI_19_2 = true := by decide +kernel
def aI_19_3 : sx_IL := [(29, .iload 4, 2), (31, .iaload, 1), (32, .i2l, 1), (33, .lor, 1), (34, .putfield 25, 3), (37, .aload_n 0, 1)]
theorem aJ_19_3 : sx_iB prog_6_method_10_code aI_19_3 = true := by decide +kernel
def aI_19_4 : sx_IL := [(38, .dup, 1), (39, .getfield 22, 3), (42, .iconst 1, 1), (43, .iadd, 1), (44, .putfield 22, 3), (47, .aload_n 0, 1)]
theorem aJ_19_4 : sx_iB prog_6_method_10_code aI_19_4 = true := by decide +kernel
def aI_19_5 : sx_IL := [(48, .getfield 22, 3), (51, .bipush 7, 2), (53, .iand, 1), (54, .ifCond .ne 11, 3), (57, .aload_n 0, 1), (58, .aload_n 0, 1)]
theorem aJ_19_5 : sx_iB prog_6_method_10_code aI_19_5 = true := by decide +kernel
def aI_19_6 : sx_IL := [(59, .getfield 25, 3), (62, .invokevirtual 31, 3), (65, .iinc 4 1, 3), (68, .goto (-54), 3), (71, .return_, 1)]
theorem aJ_19_6 : sx_iB prog_6_method_10_code aI_19_6 = true := by decide +kernel
def aS_19 (pc : Nat) : sx_IL := (if pc < 29 then (if pc < 10 then aI_19_0 else (if pc < 20 then aI_19_1 else aI_19_2)) else (if pc < 48 then (if pc < 38 then aI_19_3 else aI_19_4) else (if pc < 59 then aI_19_5 else aI_19_6)))
theorem aT_19 (pc : Nat) : sx_iOk prog_6_method_10_code (aS_19 pc) := (sx_ite (p := fun l => sx_iOk prog_6_method_10_code l) (sx_ite (p := fun l => sx_iOk prog_6_method_10_code l) (sx_iB_s aJ_19_0) (sx_ite (p := fun l => sx_iOk prog_6_method_10_code l) (sx_iB_s aJ_19_1) (sx_iB_s aJ_19_2))) (sx_ite (p := fun l => sx_iOk prog_6_method_10_code l) (sx_ite (p := fun l => sx_iOk prog_6_method_10_code l) (sx_iB_s aJ_19_3) (sx_iB_s aJ_19_4)) (sx_ite (p := fun l => sx_iOk prog_6_method_10_code l) (sx_iB_s aJ_19_5) (sx_iB_s aJ_19_6))))
def aW_19 : Nat → Option (Instr × Nat) := fun pc => sx_iF (aS_19 pc) pc
theorem aX_19 : ∀ pc i len, aW_19 pc = some (i, len) → decode aM_19.1.2.1 pc = .ok (i, len) := fun pc i len h => sx_iF_s (aT_19 pc) h
def aI_20_0 : sx_IL := [(0, .aload_n 0, 1), (1, .getfield 7, 3), (4, .lload_n 1, 1), (5, .bipush 32, 2), (7, .lushr, 1), (8, .l2i, 1)]
theorem aJ_20_0 : sx_iB prog_6_method_6_code aI_20_0 = true := by decide +kernel
def aI_20_1 : sx_IL := [(9, .ixor, 1), (10, .istore_n 3, 1), (11, .aload_n 0, 1), (12, .getfield 13, 3), (15, .lload_n 1, 1), (16, .l2i, 1)]
theorem aJ_20_1 : sx_iB prog_6_method_6_code aI_20_1 = true := by decide +kernel
def aI_20_2 : sx_IL := [(17, .ixor, 1), (18, .istore 4, 2), (20, .aload_n 0, 1), (21, .getfield 16, 3), (24, .istore 5, 2), (26, .aload_n 0, 1)]
theorem aJ_20_2 : sx_iB prog_6_method_6_code aI_20_2 = true := by decide +kernel
def aI_20_3 : sx_IL := [(27, .getfield 19, 3), (30, .istore 6, 2), (32, .iconst 1, 1), (33, .istore 7, 2), (35, .iload 7, 2), (37, .bipush 8, 2)]
theorem aJ_20_3 : sx_iB prog_6_method_6_code aI_20_3 = true := by decide +kernel
def aI_20_4 : sx_IL := [(39, .if_icmp .gt 116, 3), (42, .iload_n 3, 1), (43, .iload 4, 2), (45, .iadd, 1), (46, .istore_n 3, 1), (47, .iload 6, 2)]
theorem aJ_20_4 : sx_iB prog_6_method_6_code aI_20_4 = true := by decide +kernel
def aI_20_5 : sx_IL := [(49, .iload_n 3, 1), (50, .ixor, 1), (51, .istore 6, 2), (53, .iload 6, 2), (55, .bipush 16, 2), (57, .ishl, 1)]
theorem aJ_20_5 : sx_iB prog_6_method_6_code aI_20_5 = true := by decide +kernel
def aI_20_6 : sx_IL := [(58, .iload 6, 2), (60, .bipush 16, 2), (62, .iushr, 1), (63, .ior, 1), (64, .istore 6, 2), (66, .iload 5, 2)]
theorem aJ_20_6 : sx_iB prog_6_method_6_code aI_20_6 = true := by decide +kernel
def aI_20_7 : sx_IL := [(68, .iload 6, 2), (70, .iadd, 1), (71, .istore 5, 2), (73, .iload 4, 2), (75, .iload 5, 2), (77, .ixor, 1)]
theorem aJ_20_7 : sx_iB prog_6_method_6_code aI_20_7 = true := by decide +kernel
def aI_20_8 : sx_IL := [(78, .istore 4, 2), (80, .iload 4, 2), (82, .bipush 12, 2), (84, .ishl, 1), (85, .iload 4, 2), (87, .bipush 20, 2)]
theorem aJ_20_8 : sx_iB prog_6_method_6_code aI_20_8 = true := by decide +kernel
def aI_20_9 : sx_IL := [(89, .iushr, 1), (90, .ior, 1), (91, .istore 4, 2), (93, .iload_n 3, 1), (94, .iload 4, 2), (96, .iadd, 1)]
theorem aJ_20_9 : sx_iB prog_6_method_6_code aI_20_9 = true := by decide +kernel
def aI_20_10 : sx_IL := [(97, .istore_n 3, 1), (98, .iload 6, 2), (100, .iload_n 3, 1), (101, .ixor, 1), (102, .istore 6, 2), (104, .iload 6, 2)]
theorem aJ_20_10 : sx_iB prog_6_method_6_code aI_20_10 = true := by decide +kernel
def aI_20_11 : sx_IL := [(106, .bipush 8, 2), (108, .ishl, 1), (109, .iload 6, 2), (111, .bipush 24, 2), (113, .iushr, 1), (114, .ior, 1)]
theorem aJ_20_11 : sx_iB prog_6_method_6_code aI_20_11 = true := by decide +kernel
def aI_20_12 : sx_IL := [(115, .istore 6, 2), (117, .iload 5, 2), (119, .iload 6, 2), (121, .iadd, 1), (122, .istore 5, 2), (124, .iload 4, 2)]
theorem aJ_20_12 : sx_iB prog_6_method_6_code aI_20_12 = true := by decide +kernel
def aI_20_13 : sx_IL := [(126, .iload 5, 2), (128, .ixor, 1), (129, .istore 4, 2), (131, .iload 4, 2), (133, .bipush 7, 2), (135, .ishl, 1)]
theorem aJ_20_13 : sx_iB prog_6_method_6_code aI_20_13 = true := by decide +kernel
def aI_20_14 : sx_IL := [(136, .iload 4, 2), (138, .bipush 25, 2), (140, .iushr, 1), (141, .ior, 1), (142, .istore 4, 2), (144, .iload_n 3, 1)]
theorem aJ_20_14 : sx_iB prog_6_method_6_code aI_20_14 = true := by decide +kernel
def aI_20_15 : sx_IL := [(145, .iload 7, 2), (147, .ixor, 1), (148, .istore_n 3, 1), (149, .iinc 7 1, 3), (152, .goto (-117), 3), (155, .aload_n 0, 1)]
theorem aJ_20_15 : sx_iB prog_6_method_6_code aI_20_15 = true := by decide +kernel
def aI_20_16 : sx_IL := [(156, .iload_n 3, 1), (157, .putfield 7, 3), (160, .aload_n 0, 1), (161, .iload 4, 2), (163, .putfield 13, 3), (166, .aload_n 0, 1)]
theorem aJ_20_16 : sx_iB prog_6_method_6_code aI_20_16 = true := by decide +kernel
def aI_20_17 : sx_IL := [(167, .iload 5, 2), (169, .putfield 16, 3), (172, .aload_n 0, 1), (173, .iload 6, 2), (175, .putfield 19, 3), (178, .return_, 1)]
theorem aJ_20_17 : sx_iB prog_6_method_6_code aI_20_17 = true := by decide +kernel
def aS_20 (pc : Nat) : sx_IL := (if pc < 89 then (if pc < 39 then (if pc < 17 then (if pc < 9 then aI_20_0 else aI_20_1) else (if pc < 27 then aI_20_2 else aI_20_3)) else (if pc < 58 then (if pc < 49 then aI_20_4 else aI_20_5) else (if pc < 68 then aI_20_6 else (if pc < 78 then aI_20_7 else aI_20_8)))) else (if pc < 126 then (if pc < 106 then (if pc < 97 then aI_20_9 else aI_20_10) else (if pc < 115 then aI_20_11 else aI_20_12)) else (if pc < 145 then (if pc < 136 then aI_20_13 else aI_20_14) else (if pc < 156 then aI_20_15 else (if pc < 167 then aI_20_16 else aI_20_17)))))
theorem aT_20 (pc : Nat) : sx_iOk prog_6_method_6_code (aS_20 pc) := (sx_ite (p := fun l => sx_iOk prog_6_method_6_code l) (sx_ite (p := fun l => sx_iOk prog_6_method_6_code l) (sx_ite (p := fun l => sx_iOk prog_6_method_6_code l) (sx_ite (p := fun l => sx_iOk prog_6_method_6_code l) (sx_iB_s aJ_20_0) (sx_iB_s aJ_20_1)) (sx_ite (p := fun l => sx_iOk prog_6_method_6_code l) (sx_iB_s aJ_20_2) (sx_iB_s aJ_20_3))) (sx_ite (p := fun l => sx_iOk prog_6_method_6_code l) (sx_ite (p := fun l => sx_iOk prog_6_method_6_code l) (sx_iB_s aJ_20_4) (sx_iB_s aJ_20_5)) (sx_ite (p := fun l => sx_iOk prog_6_method_6_code l) (sx_iB_s aJ_20_6) (sx_ite (p := fun l => sx_iOk prog_6_method_6_code l) (sx_iB_s aJ_20_7) (sx_iB_s aJ_20_8))))) (sx_ite (p := fun l => sx_iOk prog_6_method_6_code l) (sx_ite (p := fun l => sx_iOk prog_6_method_6_code l) (sx_ite (p := fun l => sx_iOk prog_6_method_6_code l) (sx_iB_s aJ_20_9) (sx_iB_s aJ_20_10)) (sx_ite (p := fun l => sx_iOk prog_6_method_6_code l) (sx_iB_s aJ_20_11) (sx_iB_s aJ_20_12))) (sx_ite (p := fun l => sx_iOk prog_6_method_6_code l) (sx_ite (p := fun l => sx_iOk prog_6_method_6_code l) (sx_iB_s aJ_20_13) (sx_iB_s aJ_20_14)) (sx_ite (p := fun l => sx_iOk prog_6_method_6_code l) (sx_iB_s aJ_20_15) (sx_ite (p := fun l => sx_iOk prog_6_method_6_code l) (sx_iB_s aJ_20_16) (sx_iB_s aJ_20_17))))))
def aW_20 : Nat → Option (Instr × Nat) := fun pc => sx_iF (aS_20 pc) pc
theorem aX_20 : ∀ pc i len, aW_20 pc = some (i, len) → decode aM_20.1.2.1 pc = .ok (i, len) := fun pc i len h => sx_iF_s (aT_20 pc) h
def aI_21_0 : sx_IL := [(0, .aload_n 0, 1), (1, .aload_n 0, 1), (2, .getfield 25, 3), (5, .bipush 8, 2), (7, .lshl, 1), (8, .ldc2_w 35, 3)]
theorem aJ_21_0 : sx_iB prog_6_method_11_code aI_21_0 = true := by decide +kernel
def aI_21_1 : sx_IL := [(11, .lor, 1), (12, .bipush 8, 2), (14, .bipush 7, 2), (16, .aload_n 0, 1), (17, .getfield 22, 3), (20, .bipush 7, 2)]
theorem aJ_21_1 : sx_iB prog_6_method_11_code aI_21_1 = true := by decide +kernel
def aI_21_2 : sx_IL := [(22, .iand, 1), (23, .isub, 1), (24, .imul, 1), (25, .lshl, 1), (26, .invokevirtual 31, 3), (29, .aload_n 0, 1)]
theorem aJ_21_2 : sx_iB prog_6_method_11_code aI_21_2 = true := by decide +kernel
def aI_21_3 : sx_IL := [(30, .dup, 1), (31, .getfield 16, 3), (34, .aload_n 0, 1), (35, .getfield 22, 3), (38, .ixor, 1), (39, .putfield 16, 3)]
theorem aJ_21_3 : sx_iB prog_6_method_11_code aI_21_3 = true := by decide +kernel
def aI_21_4 : sx_IL := [(42, .aload_n 0, 1), (43, .lconst 0, 1), (44, .invokevirtual 31, 3), (47, .aload_n 0, 1), (48, .invokevirtual 37, 3), (51, .lreturn, 1)]
theorem aJ_21_4 : sx_iB prog_6_method_11_code aI_21_4 = true := by decide +kernel
def aS_21 (pc : Nat) : sx_IL := (if pc < 22 then (if pc < 11 then aI_21_0 else aI_21_1) else (if pc < 30 then aI_21_2 else (if pc < 42 then aI_21_3 else aI_21_4)))
theorem aT_21 (pc : Nat) : sx_iOk prog_6_method_11_code (aS_21 pc) := (sx_ite (p := fun l => sx_iOk prog_6_method_11_code l) (sx_ite (p := fun l => sx_iOk prog_6_method_11_code l) (sx_iB_s aJ_21_0) (sx_iB_s aJ_21_1)) (sx_ite (p := fun l => sx_iOk prog_6_method_11_code l) (sx_iB_s aJ_21_2) (sx_ite (p := fun l => sx_iOk prog_6_method_11_code l) (sx_iB_s aJ_21_3) (sx_iB_s aJ_21_4))))
def aW_21 : Nat → Option (Instr × Nat) := fun pc => sx_iF (aS_21 pc) pc
theorem aX_21 : ∀ pc i len, aW_21 pc = some (i, len) → decode aM_21.1.2.1 pc = .ok (i, len) := fun pc i len h => sx_iF_s (aT_21 pc) h
def aI_22_0 : sx_IL := [(0, .aload_n 0, 1), (1, .getfield 7, 3), (4, .aload_n 0, 1), (5, .getfield 16, 3), (8, .ixor, 1), (9, .i2l, 1)]
theorem aJ_22_0 : sx_iB prog_6_method_7_code aI_22_0 = true := by decide +kernel
def aI_22_1 : sx_IL := [(10, .bipush 32, 2), (12, .lshl, 1), (13, .aload_n 0, 1), (14, .getfield 13, 3), (17, .aload_n 0, 1), (18, .getfield 19, 3)]
theorem aJ_22_1 : sx_iB prog_6_method_7_code aI_22_1 = true := by decide +kernel
def aI_22_2 : sx_IL := [(21, .ixor, 1), (22, .i2l, 1), (23, .ldc2_w 29, 3), (26, .land, 1), (27, .lor, 1), (28, .lreturn, 1)]
theorem aJ_22_2 : sx_iB prog_6_method_7_code aI_22_2 = true := by decide +kernel
def aS_22 (pc : Nat) : sx_IL := (if pc < 10 then aI_22_0 else (if pc < 21 then aI_22_1 else aI_22_2))
theorem aT_22 (pc : Nat) : sx_iOk prog_6_method_7_code (aS_22 pc) := (sx_ite (p := fun l => sx_iOk prog_6_method_7_code l) (sx_iB_s aJ_22_0) (sx_ite (p := fun l => sx_iOk prog_6_method_7_code l) (sx_iB_s aJ_22_1) (sx_iB_s aJ_22_2)))
def aW_22 : Nat → Option (Instr × Nat) := fun pc => sx_iF (aS_22 pc) pc
theorem aX_22 : ∀ pc i len, aW_22 pc = some (i, len) → decode aM_22.1.2.1 pc = .ok (i, len) := fun pc i len h => sx_iF_s (aT_22 pc) h
def aI_23_0 : sx_IL := [(0, .aload_n 0, 1), (1, .iconst 0, 1), (2, .putfield 19, 3), (5, .return_, 1)]
theorem aJ_23_0 : sx_iB prog_9_method_2_code aI_23_0 = true := by decide +kernel
def aS_23 (pc : Nat) : sx_IL := aI_23_0
theorem aT_23 (pc : Nat) : sx_iOk prog_9_method_2_code (aS_23 pc) := (sx_iB_s aJ_23_0)
def aW_23 : Nat → Option (Instr × Nat) := fun pc => sx_iF (aS_23 pc) pc
theorem aX_23 : ∀ pc i len, aW_23 pc = some (i, len) → decode aM_23.1.2.1 pc = .ok (i, len) := fun pc i len h => sx_iF_s (aT_23 pc) h
def aI_24_0 : sx_IL := [(0, .iload_n 1, 1), (1, .invokestatic 92, 3), (4, .ifCond .ne 7, 3), (7, .ldc2_w 96, 3), (10, .lreturn, 1), (11, .aload_n 0, 1)]
theorem aJ_24_0 : sx_iB prog_1_method_8_code aI_24_0 = true := by decide +kernel
def aI_24_1 : sx_IL := [(12, .getfield 10, 3), (15, .getfield 98, 3), (18, .iload_n 1, 1), (19, .lload_n 2, 1), (20, .aload_n 0, 1), (21, .getfield 21, 3)]
theorem aJ_24_1 : sx_iB prog_1_method_8_code aI_24_1 = true := by decide +kernel
def aI_24_2 : sx_IL := [(24, .getfield 80, 3), (27, .iconst 0, 1), (28, .aload_n 0, 1), (29, .getfield 21, 3), (32, .getfield 69, 3), (35, .invokevirtual 111, 3)]
theorem aJ_24_2 : sx_iB prog_1_method_8_code aI_24_2 = true := by decide +kernel
def aI_24_3 : sx_IL := [(38, .lstore 4, 2), (40, .aload_n 0, 1), (41, .getfield 21, 3), (44, .invokevirtual 108, 3), (47, .lload 4, 2), (49, .lreturn, 1)]
theorem aJ_24_3 : sx_iB prog_1_method_8_code aI_24_3 = true := by decide +kernel
def aS_24 (pc : Nat) : sx_IL := (if pc < 24 then (if pc < 12 then aI_24_0 else aI_24_1) else (if pc < 38 then aI_24_2 else aI_24_3))
theorem aT_24 (pc : Nat) : sx_iOk prog_1_method_8_code (aS_24 pc) := (sx_ite (p := fun l => sx_iOk prog_1_method_8_code l) (sx_ite (p := fun l => sx_iOk prog_1_method_8_code l) (sx_iB_s aJ_24_0) (sx_iB_s aJ_24_1)) (sx_ite (p := fun l => sx_iOk prog_1_method_8_code l) (sx_iB_s aJ_24_2) (sx_iB_s aJ_24_3)))
def aW_24 : Nat → Option (Instr × Nat) := fun pc => sx_iF (aS_24 pc) pc
theorem aX_24 : ∀ pc i len, aW_24 pc = some (i, len) → decode aM_24.1.2.1 pc = .ok (i, len) := fun pc i len h => sx_iF_s (aT_24 pc) h
def aI_25_0 : sx_IL := [(0, .aload_n 0, 1), (1, .iload_n 1, 1), (2, .lload_n 2, 1), (3, .invokevirtual 58, 3), (6, .aload_n 0, 1), (7, .aload 4, 2)]
theorem aJ_25_0 : sx_iB prog_6_method_15_code aI_25_0 = true := by decide +kernel
def aI_25_1 : sx_IL := [(9, .iload 5, 2), (11, .iload 6, 2), (13, .invokevirtual 45, 3), (16, .aload_n 0, 1), (17, .iload_n 1, 1), (18, .lload_n 2, 1)]
theorem aJ_25_1 : sx_iB prog_6_method_15_code aI_25_1 = true := by decide +kernel
def aI_25_2 : sx_IL := [(19, .aload_n 0, 1), (20, .invokevirtual 49, 3), (23, .invokevirtual 62, 3), (26, .lreturn, 1)]
theorem aJ_25_2 : sx_iB prog_6_method_15_code aI_25_2 = true := by decide +kernel
def aS_25 (pc : Nat) : sx_IL := (if pc < 9 then aI_25_0 else (if pc < 19 then aI_25_1 else aI_25_2))
theorem aT_25 (pc : Nat) : sx_iOk prog_6_method_15_code (aS_25 pc) := (sx_ite (p := fun l => sx_iOk prog_6_method_15_code l) (sx_iB_s aJ_25_0) (sx_ite (p := fun l => sx_iOk prog_6_method_15_code l) (sx_iB_s aJ_25_1) (sx_iB_s aJ_25_2)))
def aW_25 : Nat → Option (Instr × Nat) := fun pc => sx_iF (aS_25 pc) pc
theorem aX_25 : ∀ pc i len, aW_25 pc = some (i, len) → decode aM_25.1.2.1 pc = .ok (i, len) := fun pc i len h => sx_iF_s (aT_25 pc) h
def aI_26_0 : sx_IL := [(0, .aload_n 0, 1), (1, .iload_n 1, 1), (2, .invokevirtual 41, 3), (5, .aload_n 0, 1), (6, .lload_n 2, 1), (7, .ldc2_w 56, 3)]
theorem aJ_26_0 : sx_iB prog_6_method_14_code aI_26_0 = true := by decide +kernel
def aI_26_1 : sx_IL := [(10, .lxor, 1), (11, .invokevirtual 31, 3), (14, .aload_n 0, 1), (15, .bipush 8, 2), (17, .putfield 22, 3), (20, .return_, 1)]
theorem aJ_26_1 : sx_iB prog_6_method_14_code aI_26_1 = true := by decide +kernel
def aS_26 (pc : Nat) : sx_IL := (if pc < 10 then aI_26_0 else aI_26_1)
theorem aT_26 (pc : Nat) : sx_iOk prog_6_method_14_code (aS_26 pc) := (sx_ite (p := fun l => sx_iOk prog_6_method_14_code l) (sx_iB_s aJ_26_0) (sx_iB_s aJ_26_1))
def aW_26 : Nat → Option (Instr × Nat) := fun pc => sx_iF (aS_26 pc) pc
theorem aX_26 : ∀ pc i len, aW_26 pc = some (i, len) → decode aM_26.1.2.1 pc = .ok (i, len) := fun pc i len h => sx_iF_s (aT_26 pc) h
def aI_27_0 : sx_IL := [(0, .aload_n 0, 1), (1, .iload_n 1, 1), (2, .invokevirtual 41, 3), (5, .aload_n 0, 1), (6, .lload_n 2, 1), (7, .ldc2_w 52, 3)]
theorem aJ_27_0 : sx_iB prog_6_method_13_code aI_27_0 = true := by decide +kernel
def aI_27_1 : sx_IL := [(10, .lxor, 1), (11, .invokevirtual 31, 3), (14, .aload_n 0, 1), (15, .lload 4, 2), (17, .invokevirtual 31, 3), (20, .aload_n 0, 1)]
theorem aJ_27_1 : sx_iB prog_6_method_13_code aI_27_1 = true := by decide +kernel
def aI_27_2 : sx_IL := [(21, .ldc2_w 54, 3), (24, .invokevirtual 31, 3), (27, .aload_n 0, 1), (28, .dup, 1), (29, .getfield 16, 3), (32, .bipush 16, 2)]
theorem aJ_27_2 : sx_iB prog_6_method_13_code aI_27_2 = true := by decide +kernel
def aI_27_3 : sx_IL := [(34, .ixor, 1), (35, .putfield 16, 3), (38, .aload_n 0, 1), (39, .lconst 0, 1), (40, .invokevirtual 31, 3), (43, .aload_n 0, 1)]
theorem aJ_27_3 : sx_iB prog_6_method_13_code aI_27_3 = true := by decide +kernel
def aI_27_4 : sx_IL := [(44, .invokevirtual 37, 3), (47, .lreturn, 1)]
theorem aJ_27_4 : sx_iB prog_6_method_13_code aI_27_4 = true := by decide +kernel
def aS_27 (pc : Nat) : sx_IL := (if pc < 21 then (if pc < 10 then aI_27_0 else aI_27_1) else (if pc < 34 then aI_27_2 else (if pc < 44 then aI_27_3 else aI_27_4)))
theorem aT_27 (pc : Nat) : sx_iOk prog_6_method_13_code (aS_27 pc) := (sx_ite (p := fun l => sx_iOk prog_6_method_13_code l) (sx_ite (p := fun l => sx_iOk prog_6_method_13_code l) (sx_iB_s aJ_27_0) (sx_iB_s aJ_27_1)) (sx_ite (p := fun l => sx_iOk prog_6_method_13_code l) (sx_iB_s aJ_27_2) (sx_ite (p := fun l => sx_iOk prog_6_method_13_code l) (sx_iB_s aJ_27_3) (sx_iB_s aJ_27_4))))
def aW_27 : Nat → Option (Instr × Nat) := fun pc => sx_iF (aS_27 pc) pc
theorem aX_27 : ∀ pc i len, aW_27 pc = some (i, len) → decode aM_27.1.2.1 pc = .ok (i, len) := fun pc i len h => sx_iF_s (aT_27 pc) h
def aI_28_0 : sx_IL := [(0, .iload_n 1, 1), (1, .invokestatic 92, 3), (4, .ifCond .eq 16, 3), (7, .iload 4, 2), (9, .ifCond .lt 11, 3), (12, .iload 4, 2)]
theorem aJ_28_0 : sx_iB prog_1_method_9_code aI_28_0 = true := by decide +kernel
def aI_28_1 : sx_IL := [(14, .sipush 255, 3), (17, .if_icmp .le 7, 3), (20, .ldc2_w 96, 3), (23, .lreturn, 1), (24, .aload_n 0, 1), (25, .getfield 10, 3)]
theorem aJ_28_1 : sx_iB prog_1_method_9_code aI_28_1 = true := by decide +kernel
def aI_28_2 : sx_IL := [(28, .getfield 98, 3), (31, .iload_n 1, 1), (32, .lload_n 2, 1), (33, .iload 4, 2), (35, .lload 5, 2), (37, .invokevirtual 115, 3)]
theorem aJ_28_2 : sx_iB prog_1_method_9_code aI_28_2 = true := by decide +kernel
def aI_28_3 : sx_IL := [(40, .lreturn, 1)]
theorem aJ_28_3 : sx_iB prog_1_method_9_code aI_28_3 = true := by decide +kernel
def aS_28 (pc : Nat) : sx_IL := (if pc < 28 then (if pc < 14 then aI_28_0 else aI_28_1) else (if pc < 40 then aI_28_2 else aI_28_3))
theorem aT_28 (pc : Nat) : sx_iOk prog_1_method_9_code (aS_28 pc) := (sx_ite (p := fun l => sx_iOk prog_1_method_9_code l) (sx_ite (p := fun l => sx_iOk prog_1_method_9_code l) (sx_iB_s aJ_28_0) (sx_iB_s aJ_28_1)) (sx_ite (p := fun l => sx_iOk prog_1_method_9_code l) (sx_iB_s aJ_28_2) (sx_iB_s aJ_28_3)))
def aW_28 : Nat → Option (Instr × Nat) := fun pc => sx_iF (aS_28 pc) pc
theorem aX_28 : ∀ pc i len, aW_28 pc = some (i, len) → decode aM_28.1.2.1 pc = .ok (i, len) := fun pc i len h => sx_iF_s (aT_28 pc) h
def aI_29_0 : sx_IL := [(0, .aload_n 0, 1), (1, .iload_n 1, 1), (2, .lload_n 2, 1), (3, .invokevirtual 58, 3), (6, .aload_n 0, 1), (7, .iload 4, 2)]
theorem aJ_29_0 : sx_iB prog_6_method_17_code aI_29_0 = true := by decide +kernel
def aI_29_1 : sx_IL := [(9, .invokevirtual 69, 3), (12, .aload_n 0, 1), (13, .lload 5, 2), (15, .invokevirtual 66, 3), (18, .aload_n 0, 1), (19, .iload_n 1, 1)]
theorem aJ_29_1 : sx_iB prog_6_method_17_code aI_29_1 = true := by decide +kernel
def aI_29_2 : sx_IL := [(20, .lload_n 2, 1), (21, .aload_n 0, 1), (22, .invokevirtual 49, 3), (25, .invokevirtual 62, 3), (28, .lreturn, 1)]
theorem aJ_29_2 : sx_iB prog_6_method_17_code aI_29_2 = true := by decide +kernel
def aS_29 (pc : Nat) : sx_IL := (if pc < 9 then aI_29_0 else (if pc < 20 then aI_29_1 else aI_29_2))
theorem aT_29 (pc : Nat) : sx_iOk prog_6_method_17_code (aS_29 pc) := (sx_ite (p := fun l => sx_iOk prog_6_method_17_code l) (sx_iB_s aJ_29_0) (sx_ite (p := fun l => sx_iOk prog_6_method_17_code l) (sx_iB_s aJ_29_1) (sx_iB_s aJ_29_2)))
def aW_29 : Nat → Option (Instr × Nat) := fun pc => sx_iF (aS_29 pc) pc
theorem aX_29 : ∀ pc i len, aW_29 pc = some (i, len) → decode aM_29.1.2.1 pc = .ok (i, len) := fun pc i len h => sx_iF_s (aT_29 pc) h
def aI_30_0 : sx_IL := [(0, .aload_n 0, 1), (1, .aload_n 0, 1), (2, .getfield 25, 3), (5, .bipush 8, 2), (7, .lshl, 1), (8, .iload_n 1, 1)]
theorem aJ_30_0 : sx_iB prog_6_method_8_code aI_30_0 = true := by decide +kernel
def aI_30_1 : sx_IL := [(9, .sipush 255, 3), (12, .iand, 1), (13, .i2l, 1), (14, .lor, 1), (15, .putfield 25, 3), (18, .aload_n 0, 1)]
theorem aJ_30_1 : sx_iB prog_6_method_8_code aI_30_1 = true := by decide +kernel
def aI_30_2 : sx_IL := [(19, .dup, 1), (20, .getfield 22, 3), (23, .iconst 1, 1), (24, .iadd, 1), (25, .putfield 22, 3), (28, .aload_n 0, 1)]
theorem aJ_30_2 : sx_iB prog_6_method_8_code aI_30_2 = true := by decide +kernel
def aI_30_3 : sx_IL := [(29, .getfield 22, 3), (32, .bipush 7, 2), (34, .iand, 1), (35, .ifCond .ne 11, 3), (38, .aload_n 0, 1), (39, .aload_n 0, 1)]
theorem aJ_30_3 : sx_iB prog_6_method_8_code aI_30_3 = true := by decide +kernel
def aI_30_4 : sx_IL := [(40, .getfield 25, 3), (43, .invokevirtual 31, 3), (46, .return_, 1)]
theorem aJ_30_4 : sx_iB prog_6_method_8_code aI_30_4 = true := by decide +kernel
def aS_30 (pc : Nat) : sx_IL := (if pc < 19 then (if pc < 9 then aI_30_0 else aI_30_1) else (if pc < 29 then aI_30_2 else (if pc < 40 then aI_30_3 else aI_30_4)))
theorem aT_30 (pc : Nat) : sx_iOk prog_6_method_8_code (aS_30 pc) := (sx_ite (p := fun l => sx_iOk prog_6_method_8_code l) (sx_ite (p := fun l => sx_iOk prog_6_method_8_code l) (sx_iB_s aJ_30_0) (sx_iB_s aJ_30_1)) (sx_ite (p := fun l => sx_iOk prog_6_method_8_code l) (sx_iB_s aJ_30_2) (sx_ite (p := fun l => sx_iOk prog_6_method_8_code l) (sx_iB_s aJ_30_3) (sx_iB_s aJ_30_4))))
def aW_30 : Nat → Option (Instr × Nat) := fun pc => sx_iF (aS_30 pc) pc
theorem aX_30 : ∀ pc i len, aW_30 pc = some (i, len) → decode aM_30.1.2.1 pc = .ok (i, len) := fun pc i len h => sx_iF_s (aT_30 pc) h
def aI_31_0 : sx_IL := [(0, .bipush 8, 2), (2, .aload_n 0, 1), (3, .getfield 22, 3), (6, .bipush 7, 2), (8, .iand, 1), (9, .imul, 1)]
theorem aJ_31_0 : sx_iB prog_6_method_9_code aI_31_0 = true := by decide +kernel
def aI_31_1 : sx_IL := [(10, .istore_n 3, 1), (11, .aload_n 0, 1), (12, .iload_n 3, 1), (13, .ifCond .ne 7, 3), (16, .lload_n 1, 1), (17, .goto 16, 3)]
theorem aJ_31_1 : sx_iB prog_6_method_9_code aI_31_1 = true := by decide +kernel
def aI_31_2 : sx_IL := [(20, .aload_n 0, 1), (21, .getfield 25, 3), (24, .bipush 64, 2), (26, .iload_n 3, 1), (27, .isub, 1), (28, .lshl, 1)]
theorem aJ_31_2 : sx_iB prog_6_method_9_code aI_31_2 = true := by decide +kernel
def aI_31_3 : sx_IL := [(29, .lload_n 1, 1), (30, .iload_n 3, 1), (31, .lushr, 1), (32, .lor, 1), (33, .invokevirtual 31, 3), (36, .aload_n 0, 1)]
theorem aJ_31_3 : sx_iB prog_6_method_9_code aI_31_3 = true := by decide +kernel
def aI_31_4 : sx_IL := [(37, .lload_n 1, 1), (38, .putfield 25, 3), (41, .aload_n 0, 1), (42, .dup, 1), (43, .getfield 22, 3), (46, .bipush 8, 2)]
theorem aJ_31_4 : sx_iB prog_6_method_9_code aI_31_4 = true := by decide +kernel
def aI_31_5 : sx_IL := [(48, .iadd, 1), (49, .putfield 22, 3), (52, .return_, 1)]
theorem aJ_31_5 : sx_iB prog_6_method_9_code aI_31_5 = true := by decide +kernel
def aS_31 (pc : Nat) : sx_IL := (if pc < 29 then (if pc < 10 then aI_31_0 else (if pc < 20 then aI_31_1 else aI_31_2)) else (if pc < 37 then aI_31_3 else (if pc < 48 then aI_31_4 else aI_31_5)))
theorem aT_31 (pc : Nat) : sx_iOk prog_6_method_9_code (aS_31 pc) := (sx_ite (p := fun l => sx_iOk prog_6_method_9_code l) (sx_ite (p := fun l => sx_iOk prog_6_method_9_code l) (sx_iB_s aJ_31_0) (sx_ite (p := fun l => sx_iOk prog_6_method_9_code l) (sx_iB_s aJ_31_1) (sx_iB_s aJ_31_2))) (sx_ite (p := fun l => sx_iOk prog_6_method_9_code l) (sx_iB_s aJ_31_3) (sx_ite (p := fun l => sx_iOk prog_6_method_9_code l) (sx_iB_s aJ_31_4) (sx_iB_s aJ_31_5))))
def aW_31 : Nat → Option (Instr × Nat) := fun pc => sx_iF (aS_31 pc) pc
theorem aX_31 : ∀ pc i len, aW_31 pc = some (i, len) → decode aM_31.1.2.1 pc = .ok (i, len) := fun pc i len h => sx_iF_s (aT_31 pc) h
def aI_32_0 : sx_IL := [(0, .iload_n 1, 1), (1, .iconst 1, 1), (2, .if_icmp .lt 25, 3), (5, .iload_n 1, 1), (6, .iconst 3, 1), (7, .if_icmp .gt 20, 3)]
theorem aJ_32_0 : sx_iB prog_1_method_10_code aI_32_0 = true := by decide +kernel
def aI_32_1 : sx_IL := [(10, .iload 6, 2), (12, .ifCond .lt 15, 3), (15, .iload 6, 2), (17, .aload_n 0, 1), (18, .getfield 21, 3), (21, .getfield 69, 3)]
theorem aJ_32_1 : sx_iB prog_1_method_10_code aI_32_1 = true := by decide +kernel
def aI_32_2 : sx_IL := [(24, .if_icmp .le 5, 3), (27, .iconst (-1), 1), (28, .ireturn, 1), (29, .iload_n 1, 1), (30, .invokestatic 119, 3), (33, .istore 7, 2)]
theorem aJ_32_2 : sx_iB prog_1_method_10_code aI_32_2 = true := by decide +kernel
def aI_32_3 : sx_IL := [(35, .aload_n 0, 1), (36, .getfield 10, 3), (39, .getfield 98, 3), (42, .lload_n 2, 1), (43, .lload 4, 2), (45, .aload_n 0, 1)]
theorem aJ_32_3 : sx_iB prog_1_method_10_code aI_32_3 = true := by decide +kernel
def aI_32_4 : sx_IL := [(46, .getfield 21, 3), (49, .getfield 80, 3), (52, .iload 6, 2), (54, .aload_n 0, 1), (55, .getfield 21, 3), (58, .getfield 69, 3)]
theorem aJ_32_4 : sx_iB prog_1_method_10_code aI_32_4 = true := by decide +kernel
def aI_32_5 : sx_IL := [(61, .invokevirtual 122, 3), (64, .aload_n 0, 1), (65, .getfield 10, 3), (68, .getfield 98, 3), (71, .iload 7, 2), (73, .aload_n 0, 1)]
theorem aJ_32_5 : sx_iB prog_1_method_10_code aI_32_5 = true := by decide +kernel
def aI_32_6 : sx_IL := [(74, .getfield 10, 3), (77, .getfield 98, 3), (80, .iload 7, 2), (82, .lload_n 2, 1), (83, .bipush 116, 2), (85, .lload 4, 2)]
theorem aJ_32_6 : sx_iB prog_1_method_10_code aI_32_6 = true := by decide +kernel
def aI_32_7 : sx_IL := [(87, .invokevirtual 115, 3), (90, .aload_n 0, 1), (91, .getfield 21, 3), (94, .iload 6, 2), (96, .aload_n 0, 1), (97, .getfield 21, 3)]
theorem aJ_32_7 : sx_iB prog_1_method_10_code aI_32_7 = true := by decide +kernel
def aI_32_8 : sx_IL := [(100, .getfield 69, 3), (103, .invokevirtual 126, 3), (106, .lstore 8, 2), (108, .aload_n 0, 1), (109, .getfield 25, 3), (112, .invokevirtual 108, 3)]
theorem aJ_32_8 : sx_iB prog_1_method_10_code aI_32_8 = true := by decide +kernel
def aI_32_9 : sx_IL := [(115, .aload_n 0, 1), (116, .getfield 25, 3), (119, .aload_n 0, 1), (120, .getfield 21, 3), (123, .getfield 80, 3), (126, .iload 6, 2)]
theorem aJ_32_9 : sx_iB prog_1_method_10_code aI_32_9 = true := by decide +kernel
def aI_32_10 : sx_IL := [(128, .aload_n 0, 1), (129, .getfield 21, 3), (132, .getfield 69, 3), (135, .invokevirtual 83, 3), (138, .aload_n 0, 1), (139, .getfield 25, 3)]
theorem aJ_32_10 : sx_iB prog_1_method_10_code aI_32_10 = true := by decide +kernel
def aI_32_11 : sx_IL := [(142, .lload 8, 2), (144, .iload_n 1, 1), (145, .invokestatic 130, 3), (148, .invokevirtual 133, 3), (151, .aload_n 0, 1), (152, .getfield 21, 3)]
theorem aJ_32_11 : sx_iB prog_1_method_10_code aI_32_11 = true := by decide +kernel
def aI_32_12 : sx_IL := [(155, .invokevirtual 108, 3), (158, .aload_n 0, 1), (159, .getfield 25, 3), (162, .getfield 69, 3), (165, .ireturn, 1)]
theorem aJ_32_12 : sx_iB prog_1_method_10_code aI_32_12 = true := by decide +kernel
def aS_32 (pc : Nat) : sx_IL := (if pc < 74 then (if pc < 35 then (if pc < 10 then aI_32_0 else (if pc < 24 then aI_32_1 else aI_32_2)) else (if pc < 46 then aI_32_3 else (if pc < 61 then aI_32_4 else aI_32_5))) else (if pc < 115 then (if pc < 87 then aI_32_6 else (if pc < 100 then aI_32_7 else aI_32_8)) else (if pc < 142 then (if pc < 128 then aI_32_9 else aI_32_10) else (if pc < 155 then aI_32_11 else aI_32_12))))
theorem aT_32 (pc : Nat) : sx_iOk prog_1_method_10_code (aS_32 pc) := (sx_ite (p := fun l => sx_iOk prog_1_method_10_code l) (sx_ite (p := fun l => sx_iOk prog_1_method_10_code l) (sx_ite (p := fun l => sx_iOk prog_1_method_10_code l) (sx_iB_s aJ_32_0) (sx_ite (p := fun l => sx_iOk prog_1_method_10_code l) (sx_iB_s aJ_32_1) (sx_iB_s aJ_32_2))) (sx_ite (p := fun l => sx_iOk prog_1_method_10_code l) (sx_iB_s aJ_32_3) (sx_ite (p := fun l => sx_iOk prog_1_method_10_code l) (sx_iB_s aJ_32_4) (sx_iB_s aJ_32_5)))) (sx_ite (p := fun l => sx_iOk prog_1_method_10_code l) (sx_ite (p := fun l => sx_iOk prog_1_method_10_code l) (sx_iB_s aJ_32_6) (sx_ite (p := fun l => sx_iOk prog_1_method_10_code l) (sx_iB_s aJ_32_7) (sx_iB_s aJ_32_8))) (sx_ite (p := fun l => sx_iOk prog_1_method_10_code l) (sx_ite (p := fun l => sx_iOk prog_1_method_10_code l) (sx_iB_s aJ_32_9) (sx_iB_s aJ_32_10)) (sx_ite (p := fun l => sx_iOk prog_1_method_10_code l) (sx_iB_s aJ_32_11) (sx_iB_s aJ_32_12)))))
def aW_32 : Nat → Option (Instr × Nat) := fun pc => sx_iF (aS_32 pc) pc
theorem aX_32 : ∀ pc i len, aW_32 pc = some (i, len) → decode aM_32.1.2.1 pc = .ok (i, len) := fun pc i len h => sx_iF_s (aT_32 pc) h
def aI_33_0 : sx_IL := [(0, .iload_n 0, 1), (1, .iconst 3, 1), (2, .if_icmp .ne 7, 3), (5, .iconst 1, 1), (6, .goto 4, 3), (9, .iconst 0, 1)]
theorem aJ_33_0 : sx_iB prog_6_method_2_code aI_33_0 = true := by decide +kernel
def aI_33_1 : sx_IL := [(10, .ireturn, 1)]
theorem aJ_33_1 : sx_iB prog_6_method_2_code aI_33_1 = true := by decide +kernel
def aS_33 (pc : Nat) : sx_IL := (if pc < 10 then aI_33_0 else aI_33_1)
theorem aT_33 (pc : Nat) : sx_iOk prog_6_method_2_code (aS_33 pc) := (sx_ite (p := fun l => sx_iOk prog_6_method_2_code l) (sx_iB_s aJ_33_0) (sx_iB_s aJ_33_1))
def aW_33 : Nat → Option (Instr × Nat) := fun pc => sx_iF (aS_33 pc) pc
theorem aX_33 : ∀ pc i len, aW_33 pc = some (i, len) → decode aM_33.1.2.1 pc = .ok (i, len) := fun pc i len h => sx_iF_s (aT_33 pc) h
def aI_34_0 : sx_IL := [(0, .iload 6, 2), (2, .ifCond .lt 11, 3), (5, .iload 7, 2), (7, .aload 5, 2), (9, .arraylength, 1), (10, .if_icmp .le 4, 3)]
theorem aJ_34_0 : sx_iB prog_6_method_18_code aI_34_0 = true := by decide +kernel
def aI_34_1 : sx_IL := [(13, .return_, 1), (14, .iload 6, 2), (16, .istore 8, 2), (18, .iload 8, 2), (20, .iload 7, 2), (22, .if_icmp .ge 95, 3)]
theorem aJ_34_1 : sx_iB prog_6_method_18_code aI_34_1 = true := by decide +kernel
def aI_34_2 : sx_IL := [(25, .iload 8, 2), (27, .iload 6, 2), (29, .isub, 1), (30, .bipush 7, 2), (32, .iand, 1), (33, .istore 9, 2)]
theorem aJ_34_2 : sx_iB prog_6_method_18_code aI_34_2 = true := by decide +kernel
def aI_34_3 : sx_IL := [(35, .iload 9, 2), (37, .ifCond .ne 48, 3), (40, .aload_n 0, 1), (41, .lload_n 1, 1), (42, .bipush 32, 2), (44, .lushr, 1)]
theorem aJ_34_3 : sx_iB prog_6_method_18_code aI_34_3 = true := by decide +kernel
def aI_34_4 : sx_IL := [(45, .l2i, 1), (46, .putfield 7, 3), (49, .aload_n 0, 1), (50, .lload_n 1, 1), (51, .l2i, 1), (52, .putfield 13, 3)]
theorem aJ_34_4 : sx_iB prog_6_method_18_code aI_34_4 = true := by decide +kernel
def aI_34_5 : sx_IL := [(55, .aload_n 0, 1), (56, .lload_n 3, 1), (57, .l2i, 1), (58, .putfield 16, 3), (61, .aload_n 0, 1), (62, .iload 8, 2)]
theorem aJ_34_5 : sx_iB prog_6_method_18_code aI_34_5 = true := by decide +kernel
def aI_34_6 : sx_IL := [(64, .iload 6, 2), (66, .isub, 1), (67, .iconst 3, 1), (68, .iushr, 1), (69, .putfield 19, 3), (72, .aload_n 0, 1)]
theorem aJ_34_6 : sx_iB prog_6_method_18_code aI_34_6 = true := by decide +kernel
def aI_34_7 : sx_IL := [(73, .lconst 0, 1), (74, .invokevirtual 31, 3), (77, .aload_n 0, 1), (78, .aload_n 0, 1), (79, .invokevirtual 37, 3), (82, .putfield 25, 3)]
theorem aJ_34_7 : sx_iB prog_6_method_18_code aI_34_7 = true := by decide +kernel
def aI_34_8 : sx_IL := [(85, .aload 5, 2), (87, .iload 8, 2), (89, .dup2, 1), (90, .iaload, 1), (91, .aload_n 0, 1), (92, .getfield 25, 3)]
theorem aJ_34_8 : sx_iB prog_6_method_18_code aI_34_8 = true := by decide +kernel
def aI_34_9 : sx_IL := [(95, .bipush 56, 2), (97, .bipush 8, 2), (99, .iload 9, 2), (101, .imul, 1), (102, .isub, 1), (103, .lushr, 1)]
theorem aJ_34_9 : sx_iB prog_6_method_18_code aI_34_9 = true := by decide +kernel
def aI_34_10 : sx_IL := [(104, .l2i, 1), (105, .sipush 255, 3), (108, .iand, 1), (109, .ixor, 1), (110, .iastore, 1), (111, .iinc 8 1, 3)]
theorem aJ_34_10 : sx_iB prog_6_method_18_code aI_34_10 = true := by decide +kernel
def aI_34_11 : sx_IL := [(114, .goto (-96), 3), (117, .return_, 1)]
theorem aJ_34_11 : sx_iB prog_6_method_18_code aI_34_11 = true := by decide +kernel
def aS_34 (pc : Nat) : sx_IL := (if pc < 64 then (if pc < 35 then (if pc < 13 then aI_34_0 else (if pc < 25 then aI_34_1 else aI_34_2)) else (if pc < 45 then aI_34_3 else (if pc < 55 then aI_34_4 else aI_34_5))) else (if pc < 95 then (if pc < 73 then aI_34_6 else (if pc < 85 then aI_34_7 else aI_34_8)) else (if pc < 104 then aI_34_9 else (if pc < 114 then aI_34_10 else aI_34_11))))
theorem aT_34 (pc : Nat) : sx_iOk prog_6_method_18_code (aS_34 pc) := (sx_ite (p := fun l => sx_iOk prog_6_method_18_code l) (sx_ite (p := fun l => sx_iOk prog_6_method_18_code l) (sx_ite (p := fun l => sx_iOk prog_6_method_18_code l) (sx_iB_s aJ_34_0) (sx_ite (p := fun l => sx_iOk prog_6_method_18_code l) (sx_iB_s aJ_34_1) (sx_iB_s aJ_34_2))) (sx_ite (p := fun l => sx_iOk prog_6_method_18_code l) (sx_iB_s aJ_34_3) (sx_ite (p := fun l => sx_iOk prog_6_method_18_code l) (sx_iB_s aJ_34_4) (sx_iB_s aJ_34_5)))) (sx_ite (p := fun l => sx_iOk prog_6_method_18_code l) (sx_ite (p := fun l => sx_iOk prog_6_method_18_code l) (sx_iB_s aJ_34_6) (sx_ite (p := fun l => sx_iOk prog_6_method_18_code l) (sx_iB_s aJ_34_7) (sx_iB_s aJ_34_8))) (sx_ite (p := fun l => sx_iOk prog_6_method_18_code l) (sx_iB_s aJ_34_9) (sx_ite (p := fun l => sx_iOk prog_6_method_18_code l) (sx_iB_s aJ_34_10) (sx_iB_s aJ_34_11)))))
def aW_34 : Nat → Option (Instr × Nat) := fun pc => sx_iF (aS_34 pc) pc
theorem aX_34 : ∀ pc i len, aW_34 pc = some (i, len) → decode aM_34.1.2.1 pc = .ok (i, len) := fun pc i len h => sx_iF_s (aT_34 pc) h
def aI_35_0 : sx_IL := [(0, .aload_n 0, 1), (1, .iload_n 1, 1), (2, .lload_n 2, 1), (3, .invokevirtual 58, 3), (6, .aload_n 0, 1), (7, .aload 4, 2)]
theorem aJ_35_0 : sx_iB prog_6_method_19_code aI_35_0 = true := by decide +kernel
def aI_35_1 : sx_IL := [(9, .getfield 72, 3), (12, .iconst 0, 1), (13, .iload 6, 2), (15, .invokevirtual 45, 3), (18, .bipush 24, 2), (20, .istore 7, 2)]
theorem aJ_35_1 : sx_iB prog_6_method_19_code aI_35_1 = true := by decide +kernel
def aI_35_2 : sx_IL := [(22, .iload 7, 2), (24, .ifCond .lt 18, 3), (27, .aload_n 0, 1), (28, .iload 5, 2), (30, .iload 7, 2), (32, .iushr, 1)]
theorem aJ_35_2 : sx_iB prog_6_method_19_code aI_35_2 = true := by decide +kernel
def aI_35_3 : sx_IL := [(33, .invokevirtual 69, 3), (36, .iinc 7 (-8), 3), (39, .goto (-17), 3), (42, .aload_n 0, 1), (43, .iload_n 1, 1), (44, .lload_n 2, 1)]
theorem aJ_35_3 : sx_iB prog_6_method_19_code aI_35_3 = true := by decide +kernel
def aI_35_4 : sx_IL := [(45, .aload_n 0, 1), (46, .invokevirtual 49, 3), (49, .invokevirtual 62, 3), (52, .lreturn, 1)]
theorem aJ_35_4 : sx_iB prog_6_method_19_code aI_35_4 = true := by decide +kernel
def aS_35 (pc : Nat) : sx_IL := (if pc < 22 then (if pc < 9 then aI_35_0 else aI_35_1) else (if pc < 33 then aI_35_2 else (if pc < 45 then aI_35_3 else aI_35_4)))
theorem aT_35 (pc : Nat) : sx_iOk prog_6_method_19_code (aS_35 pc) := (sx_ite (p := fun l => sx_iOk prog_6_method_19_code l) (sx_ite (p := fun l => sx_iOk prog_6_method_19_code l) (sx_iB_s aJ_35_0) (sx_iB_s aJ_35_1)) (sx_ite (p := fun l => sx_iOk prog_6_method_19_code l) (sx_iB_s aJ_35_2) (sx_ite (p := fun l => sx_iOk prog_6_method_19_code l) (sx_iB_s aJ_35_3) (sx_iB_s aJ_35_4))))
def aW_35 : Nat → Option (Instr × Nat) := fun pc => sx_iF (aS_35 pc) pc
theorem aX_35 : ∀ pc i len, aW_35 pc = some (i, len) → decode aM_35.1.2.1 pc = .ok (i, len) := fun pc i len h => sx_iF_s (aT_35 pc) h
def aI_36_0 : sx_IL := [(0, .iload_n 0, 1), (1, .iconst 2, 1), (2, .if_icmp .ne 7, 3), (5, .iconst 4, 1), (6, .goto 5, 3), (9, .bipush 8, 2)]
theorem aJ_36_0 : sx_iB prog_6_method_3_code aI_36_0 = true := by decide +kernel
def aI_36_1 : sx_IL := [(11, .ireturn, 1)]
theorem aJ_36_1 : sx_iB prog_6_method_3_code aI_36_1 = true := by decide +kernel
def aS_36 (pc : Nat) : sx_IL := (if pc < 11 then aI_36_0 else aI_36_1)
theorem aT_36 (pc : Nat) : sx_iOk prog_6_method_3_code (aS_36 pc) := (sx_ite (p := fun l => sx_iOk prog_6_method_3_code l) (sx_iB_s aJ_36_0) (sx_iB_s aJ_36_1))
def aW_36 : Nat → Option (Instr × Nat) := fun pc => sx_iF (aS_36 pc) pc
theorem aX_36 : ∀ pc i len, aW_36 pc = some (i, len) → decode aM_36.1.2.1 pc = .ok (i, len) := fun pc i len h => sx_iF_s (aT_36 pc) h
def aI_37_0 : sx_IL := [(0, .iconst 0, 1), (1, .istore 4, 2), (3, .iload 4, 2), (5, .iload_n 3, 1), (6, .if_icmp .ge 31, 3), (9, .iload 4, 2)]
theorem aJ_37_0 : sx_iB prog_9_method_11_code aI_37_0 = true := by decide +kernel
def aI_37_1 : sx_IL := [(11, .bipush 8, 2), (13, .if_icmp .ge 24, 3), (16, .aload_n 0, 1), (17, .lload_n 1, 1), (18, .bipush 56, 2), (20, .bipush 8, 2)]
theorem aJ_37_1 : sx_iB prog_9_method_11_code aI_37_1 = true := by decide +kernel
def aI_37_2 : sx_IL := [(22, .iload 4, 2), (24, .imul, 1), (25, .isub, 1), (26, .lushr, 1), (27, .l2i, 1), (28, .invokevirtual 39, 3)]
theorem aJ_37_2 : sx_iB prog_9_method_11_code aI_37_2 = true := by decide +kernel
def aI_37_3 : sx_IL := [(31, .iinc 4 1, 3), (34, .goto (-31), 3), (37, .return_, 1)]
theorem aJ_37_3 : sx_iB prog_9_method_11_code aI_37_3 = true := by decide +kernel
def aS_37 (pc : Nat) : sx_IL := (if pc < 22 then (if pc < 11 then aI_37_0 else aI_37_1) else (if pc < 31 then aI_37_2 else aI_37_3))
theorem aT_37 (pc : Nat) : sx_iOk prog_9_method_11_code (aS_37 pc) := (sx_ite (p := fun l => sx_iOk prog_9_method_11_code l) (sx_ite (p := fun l => sx_iOk prog_9_method_11_code l) (sx_iB_s aJ_37_0) (sx_iB_s aJ_37_1)) (sx_ite (p := fun l => sx_iOk prog_9_method_11_code l) (sx_iB_s aJ_37_2) (sx_iB_s aJ_37_3)))
def aW_37 : Nat → Option (Instr × Nat) := fun pc => sx_iF (aS_37 pc) pc
theorem aX_37 : ∀ pc i len, aW_37 pc = some (i, len) → decode aM_37.1.2.1 pc = .ok (i, len) := fun pc i len h => sx_iF_s (aT_37 pc) h
def aI_38_0 : sx_IL := [(0, .iload_n 1, 1), (1, .iconst 1, 1), (2, .if_icmp .lt 25, 3), (5, .iload_n 1, 1), (6, .iconst 3, 1), (7, .if_icmp .gt 20, 3)]
theorem aJ_38_0 : sx_iB prog_1_method_11_code aI_38_0 = true := by decide +kernel
def aI_38_1 : sx_IL := [(10, .iload 6, 2), (12, .ifCond .lt 15, 3), (15, .iload 6, 2), (17, .aload_n 0, 1), (18, .getfield 21, 3), (21, .getfield 69, 3)]
theorem aJ_38_1 : sx_iB prog_1_method_11_code aI_38_1 = true := by decide +kernel
def aI_38_2 : sx_IL := [(24, .if_icmp .le 5, 3), (27, .iconst (-1), 1), (28, .ireturn, 1), (29, .aload_n 0, 1), (30, .getfield 10, 3), (33, .getfield 98, 3)]
theorem aJ_38_2 : sx_iB prog_1_method_11_code aI_38_2 = true := by decide +kernel
def aI_38_3 : sx_IL := [(36, .iload_n 1, 1), (37, .lload_n 2, 1), (38, .lload 4, 2), (40, .aload_n 0, 1), (41, .getfield 21, 3), (44, .iload 6, 2)]
theorem aJ_38_3 : sx_iB prog_1_method_11_code aI_38_3 = true := by decide +kernel
def aI_38_4 : sx_IL := [(46, .invokevirtual 137, 3), (49, .istore 7, 2), (51, .iload 7, 2), (53, .ifCond .eq 33, 3), (56, .aload_n 0, 1), (57, .getfield 25, 3)]
theorem aJ_38_4 : sx_iB prog_1_method_11_code aI_38_4 = true := by decide +kernel
def aI_38_5 : sx_IL := [(60, .invokevirtual 108, 3), (63, .aload_n 0, 1), (64, .getfield 25, 3), (67, .aload_n 0, 1), (68, .getfield 21, 3), (71, .getfield 80, 3)]
theorem aJ_38_5 : sx_iB prog_1_method_11_code aI_38_5 = true := by decide +kernel
def aI_38_6 : sx_IL := [(74, .iload 6, 2), (76, .aload_n 0, 1), (77, .getfield 21, 3), (80, .getfield 69, 3), (83, .invokevirtual 83, 3), (86, .aload_n 0, 1)]
theorem aJ_38_6 : sx_iB prog_1_method_11_code aI_38_6 = true := by decide +kernel
def aI_38_7 : sx_IL := [(87, .getfield 21, 3), (90, .invokevirtual 108, 3), (93, .iload 7, 2), (95, .ifCond .eq 7, 3), (98, .iconst 1, 1), (99, .goto 4, 3)]
theorem aJ_38_7 : sx_iB prog_1_method_11_code aI_38_7 = true := by decide +kernel
def aI_38_8 : sx_IL := [(102, .iconst 0, 1), (103, .ireturn, 1)]
theorem aJ_38_8 : sx_iB prog_1_method_11_code aI_38_8 = true := by decide +kernel
def aS_38 (pc : Nat) : sx_IL := (if pc < 46 then (if pc < 24 then (if pc < 10 then aI_38_0 else aI_38_1) else (if pc < 36 then aI_38_2 else aI_38_3)) else (if pc < 74 then (if pc < 60 then aI_38_4 else aI_38_5) else (if pc < 87 then aI_38_6 else (if pc < 102 then aI_38_7 else aI_38_8))))
theorem aT_38 (pc : Nat) : sx_iOk prog_1_method_11_code (aS_38 pc) := (sx_ite (p := fun l => sx_iOk prog_1_method_11_code l) (sx_ite (p := fun l => sx_iOk prog_1_method_11_code l) (sx_ite (p := fun l => sx_iOk prog_1_method_11_code l) (sx_iB_s aJ_38_0) (sx_iB_s aJ_38_1)) (sx_ite (p := fun l => sx_iOk prog_1_method_11_code l) (sx_iB_s aJ_38_2) (sx_iB_s aJ_38_3))) (sx_ite (p := fun l => sx_iOk prog_1_method_11_code l) (sx_ite (p := fun l => sx_iOk prog_1_method_11_code l) (sx_iB_s aJ_38_4) (sx_iB_s aJ_38_5)) (sx_ite (p := fun l => sx_iOk prog_1_method_11_code l) (sx_iB_s aJ_38_6) (sx_ite (p := fun l => sx_iOk prog_1_method_11_code l) (sx_iB_s aJ_38_7) (sx_iB_s aJ_38_8)))))
def aW_38 : Nat → Option (Instr × Nat) := fun pc => sx_iF (aS_38 pc) pc
theorem aX_38 : ∀ pc i len, aW_38 pc = some (i, len) → decode aM_38.1.2.1 pc = .ok (i, len) := fun pc i len h => sx_iF_s (aT_38 pc) h
def aI_39_0 : sx_IL := [(0, .iload_n 1, 1), (1, .invokestatic 78, 3), (4, .istore 8, 2), (6, .aload 6, 2), (8, .getfield 82, 3), (11, .iload 8, 2)]
theorem aJ_39_0 : sx_iB prog_6_method_20_code aI_39_0 = true := by decide +kernel
def aI_39_1 : sx_IL := [(13, .isub, 1), (14, .istore 9, 2), (16, .iload 7, 2), (18, .ifCond .lt 10, 3), (21, .iload 9, 2), (23, .iload 7, 2)]
theorem aJ_39_1 : sx_iB prog_6_method_20_code aI_39_1 = true := by decide +kernel
def aI_39_2 : sx_IL := [(25, .if_icmp .ge 5, 3), (28, .iconst 0, 1), (29, .ireturn, 1), (30, .iload_n 1, 1), (31, .invokestatic 85, 3), (34, .istore 10, 2)]
theorem aJ_39_2 : sx_iB prog_6_method_20_code aI_39_2 = true := by decide +kernel
def aI_39_3 : sx_IL := [(36, .aload_n 0, 1), (37, .iload 10, 2), (39, .aload_n 0, 1), (40, .iload 10, 2), (42, .lload_n 2, 1), (43, .bipush 116, 2)]
theorem aJ_39_3 : sx_iB prog_6_method_20_code aI_39_3 = true := by decide +kernel
def aI_39_4 : sx_IL := [(45, .lload 4, 2), (47, .invokevirtual 88, 3), (50, .aload 6, 2), (52, .iload 7, 2), (54, .iload 9, 2), (56, .invokevirtual 92, 3)]
theorem aJ_39_4 : sx_iB prog_6_method_20_code aI_39_4 = true := by decide +kernel
def aI_39_5 : sx_IL := [(59, .lstore 11, 2), (61, .iconst 0, 1), (62, .istore 13, 2), (64, .iload 13, 2), (66, .iload 8, 2), (68, .if_icmp .ge 40, 3)]
theorem aJ_39_5 : sx_iB prog_6_method_20_code aI_39_5 = true := by decide +kernel
def aI_39_6 : sx_IL := [(71, .aload 6, 2), (73, .iload 9, 2), (75, .iload 13, 2), (77, .iadd, 1), (78, .invokevirtual 96, 3), (81, .lload 11, 2)]
theorem aJ_39_6 : sx_iB prog_6_method_20_code aI_39_6 = true := by decide +kernel
def aI_39_7 : sx_IL := [(83, .bipush 56, 2), (85, .bipush 8, 2), (87, .iload 13, 2), (89, .imul, 1), (90, .isub, 1), (91, .lushr, 1)]
theorem aJ_39_7 : sx_iB prog_6_method_20_code aI_39_7 = true := by decide +kernel
def aI_39_8 : sx_IL := [(92, .l2i, 1), (93, .sipush 255, 3), (96, .iand, 1), (97, .if_icmp .eq 5, 3), (100, .iconst 0, 1), (101, .ireturn, 1)]
theorem aJ_39_8 : sx_iB prog_6_method_20_code aI_39_8 = true := by decide +kernel
def aI_39_9 : sx_IL := [(102, .iinc 13 1, 3), (105, .goto (-41), 3), (108, .aload 6, 2), (110, .iload 9, 2), (112, .putfield 82, 3), (115, .aload_n 0, 1)]
theorem aJ_39_9 : sx_iB prog_6_method_20_code aI_39_9 = true := by decide +kernel
def aI_39_10 : sx_IL := [(116, .lload_n 2, 1), (117, .lload 4, 2), (119, .aload 6, 2), (121, .getfield 72, 3), (124, .iload 7, 2), (126, .iload 9, 2)]
theorem aJ_39_10 : sx_iB prog_6_method_20_code aI_39_10 = true := by decide +kernel
def aI_39_11 : sx_IL := [(128, .invokevirtual 99, 3), (131, .iconst 1, 1), (132, .ireturn, 1)]
theorem aJ_39_11 : sx_iB prog_6_method_20_code aI_39_11 = true := by decide +kernel
def aS_39 (pc : Nat) : sx_IL := (if pc < 71 then (if pc < 36 then (if pc < 13 then aI_39_0 else (if pc < 25 then aI_39_1 else aI_39_2)) else (if pc < 45 then aI_39_3 else (if pc < 59 then aI_39_4 else aI_39_5))) else (if pc < 102 then (if pc < 83 then aI_39_6 else (if pc < 92 then aI_39_7 else aI_39_8)) else (if pc < 116 then aI_39_9 else (if pc < 128 then aI_39_10 else aI_39_11))))
theorem aT_39 (pc : Nat) : sx_iOk prog_6_method_20_code (aS_39 pc) := (sx_ite (p := fun l => sx_iOk prog_6_method_20_code l) (sx_ite (p := fun l => sx_iOk prog_6_method_20_code l) (sx_ite (p := fun l => sx_iOk prog_6_method_20_code l) (sx_iB_s aJ_39_0) (sx_ite (p := fun l => sx_iOk prog_6_method_20_code l) (sx_iB_s aJ_39_1) (sx_iB_s aJ_39_2))) (sx_ite (p := fun l => sx_iOk prog_6_method_20_code l) (sx_iB_s aJ_39_3) (sx_ite (p := fun l => sx_iOk prog_6_method_20_code l) (sx_iB_s aJ_39_4) (sx_iB_s aJ_39_5)))) (sx_ite (p := fun l => sx_iOk prog_6_method_20_code l) (sx_ite (p := fun l => sx_iOk prog_6_method_20_code l) (sx_iB_s aJ_39_6) (sx_ite (p := fun l => sx_iOk prog_6_method_20_code l) (sx_iB_s aJ_39_7) (sx_iB_s aJ_39_8))) (sx_ite (p := fun l => sx_iOk prog_6_method_20_code l) (sx_iB_s aJ_39_9) (sx_ite (p := fun l => sx_iOk prog_6_method_20_code l) (sx_iB_s aJ_39_10) (sx_iB_s aJ_39_11)))))
def aW_39 : Nat → Option (Instr × Nat) := fun pc => sx_iF (aS_39 pc) pc
theorem aX_39 : ∀ pc i len, aW_39 pc = some (i, len) → decode aM_39.1.2.1 pc = .ok (i, len) := fun pc i len h => sx_iF_s (aT_39 pc) h
def aI_40_0 : sx_IL := [(0, .iload_n 1, 1), (1, .iconst 1, 1), (2, .if_icmp .lt 12, 3), (5, .iload_n 1, 1), (6, .iconst 3, 1), (7, .if_icmp .gt 7, 3)]
theorem aJ_40_0 : sx_iB prog_1_method_12_code aI_40_0 = true := by decide +kernel
def aI_40_1 : sx_IL := [(10, .iload_n 2, 1), (11, .ifCond .ge 5, 3), (14, .iconst (-1), 1), (15, .ireturn, 1), (16, .aload_n 0, 1), (17, .getfield 10, 3)]
theorem aJ_40_1 : sx_iB prog_1_method_12_code aI_40_1 = true := by decide +kernel
def aI_40_2 : sx_IL := [(20, .getfield 98, 3), (23, .iload_n 1, 1), (24, .iload_n 2, 1), (25, .invokevirtual 141, 3), (28, .ireturn, 1)]
theorem aJ_40_2 : sx_iB prog_1_method_12_code aI_40_2 = true := by decide +kernel
def aS_40 (pc : Nat) : sx_IL := (if pc < 10 then aI_40_0 else (if pc < 20 then aI_40_1 else aI_40_2))
theorem aT_40 (pc : Nat) : sx_iOk prog_1_method_12_code (aS_40 pc) := (sx_ite (p := fun l => sx_iOk prog_1_method_12_code l) (sx_iB_s aJ_40_0) (sx_ite (p := fun l => sx_iOk prog_1_method_12_code l) (sx_iB_s aJ_40_1) (sx_iB_s aJ_40_2)))
def aW_40 : Nat → Option (Instr × Nat) := fun pc => sx_iF (aS_40 pc) pc
theorem aX_40 : ∀ pc i len, aW_40 pc = some (i, len) → decode aM_40.1.2.1 pc = .ok (i, len) := fun pc i len h => sx_iF_s (aT_40 pc) h
def aI_41_0 : sx_IL := [(0, .iload_n 1, 1), (1, .invokestatic 109, 3), (4, .ifCond .eq 25, 3), (7, .getstatic 113, 3), (10, .iload_n 1, 1), (11, .iconst 1, 1)]
theorem aJ_41_0 : sx_iB prog_6_method_22_code aI_41_0 = true := by decide +kernel
def aI_41_1 : sx_IL := [(12, .isub, 1), (13, .iaload, 1), (14, .i2l, 1), (15, .iload_n 2, 1), (16, .getstatic 116, 3), (19, .iload_n 1, 1)]
theorem aJ_41_1 : sx_iB prog_6_method_22_code aI_41_1 = true := by decide +kernel
def aI_41_2 : sx_IL := [(20, .iconst 1, 1), (21, .isub, 1), (22, .iaload, 1), (23, .invokestatic 119, 3), (26, .goto 4, 3), (29, .iconst 0, 1)]
theorem aJ_41_2 : sx_iB prog_6_method_22_code aI_41_2 = true := by decide +kernel
def aI_41_3 : sx_IL := [(30, .ireturn, 1)]
theorem aJ_41_3 : sx_iB prog_6_method_22_code aI_41_3 = true := by decide +kernel
def aS_41 (pc : Nat) : sx_IL := (if pc < 20 then (if pc < 12 then aI_41_0 else aI_41_1) else (if pc < 30 then aI_41_2 else aI_41_3))
theorem aT_41 (pc : Nat) : sx_iOk prog_6_method_22_code (aS_41 pc) := (sx_ite (p := fun l => sx_iOk prog_6_method_22_code l) (sx_ite (p := fun l => sx_iOk prog_6_method_22_code l) (sx_iB_s aJ_41_0) (sx_iB_s aJ_41_1)) (sx_ite (p := fun l => sx_iOk prog_6_method_22_code l) (sx_iB_s aJ_41_2) (sx_iB_s aJ_41_3)))
def aW_41 : Nat → Option (Instr × Nat) := fun pc => sx_iF (aS_41 pc) pc
theorem aX_41 : ∀ pc i len, aW_41 pc = some (i, len) → decode aM_41.1.2.1 pc = .ok (i, len) := fun pc i len h => sx_iF_s (aT_41 pc) h
def aI_42_0 : sx_IL := [(0, .iload_n 0, 1), (1, .iconst 1, 1), (2, .if_icmp .lt 12, 3), (5, .iload_n 0, 1), (6, .iconst 3, 1), (7, .if_icmp .gt 7, 3)]
theorem aJ_42_0 : sx_iB prog_6_method_23_code aI_42_0 = true := by decide +kernel
def aI_42_1 : sx_IL := [(10, .iconst 1, 1), (11, .goto 4, 3), (14, .iconst 0, 1), (15, .ireturn, 1)]
theorem aJ_42_1 : sx_iB prog_6_method_23_code aI_42_1 = true := by decide +kernel
def aS_42 (pc : Nat) : sx_IL := (if pc < 10 then aI_42_0 else aI_42_1)
theorem aT_42 (pc : Nat) : sx_iOk prog_6_method_23_code (aS_42 pc) := (sx_ite (p := fun l => sx_iOk prog_6_method_23_code l) (sx_iB_s aJ_42_0) (sx_iB_s aJ_42_1))
def aW_42 : Nat → Option (Instr × Nat) := fun pc => sx_iF (aS_42 pc) pc
theorem aX_42 : ∀ pc i len, aW_42 pc = some (i, len) → decode aM_42.1.2.1 pc = .ok (i, len) := fun pc i len h => sx_iF_s (aT_42 pc) h
def aI_43_0 : sx_IL := [(0, .iload_n 3, 1), (1, .iconst 2, 1), (2, .invokestatic 103, 3), (5, .istore 4, 2), (7, .lconst 1, 1), (8, .lstore 5, 2)]
theorem aJ_43_0 : sx_iB prog_6_method_21_code aI_43_0 = true := by decide +kernel
def aI_43_1 : sx_IL := [(10, .lload_n 0, 1), (11, .lstore 7, 2), (13, .iconst 0, 1), (14, .istore 9, 2), (16, .iload 9, 2), (18, .bipush 31, 2)]
theorem aJ_43_1 : sx_iB prog_6_method_21_code aI_43_1 = true := by decide +kernel
def aI_43_2 : sx_IL := [(20, .if_icmp .ge 48, 3), (23, .iload_n 2, 1), (24, .iload 9, 2), (26, .iushr, 1), (27, .ifCond .eq 41, 3), (30, .iload_n 2, 1)]
theorem aJ_43_2 : sx_iB prog_6_method_21_code aI_43_2 = true := by decide +kernel
def aI_43_3 : sx_IL := [(31, .iload 9, 2), (33, .iushr, 1), (34, .iconst 1, 1), (35, .iand, 1), (36, .iconst 1, 1), (37, .if_icmp .ne 14, 3)]
theorem aJ_43_3 : sx_iB prog_6_method_21_code aI_43_3 = true := by decide +kernel
def aI_43_4 : sx_IL := [(40, .lload 5, 2), (42, .lload 7, 2), (44, .lmul, 1), (45, .iload 4, 2), (47, .i2l, 1), (48, .lrem, 1)]
theorem aJ_43_4 : sx_iB prog_6_method_21_code aI_43_4 = true := by decide +kernel
def aI_43_5 : sx_IL := [(49, .lstore 5, 2), (51, .lload 7, 2), (53, .lload 7, 2), (55, .lmul, 1), (56, .iload 4, 2), (58, .i2l, 1)]
theorem aJ_43_5 : sx_iB prog_6_method_21_code aI_43_5 = true := by decide +kernel
def aI_43_6 : sx_IL := [(59, .lrem, 1), (60, .lstore 7, 2), (62, .iinc 9 1, 3), (65, .goto (-49), 3), (68, .lload 5, 2), (70, .l2i, 1)]
theorem aJ_43_6 : sx_iB prog_6_method_21_code aI_43_6 = true := by decide +kernel
def aI_43_7 : sx_IL := [(71, .ireturn, 1)]
theorem aJ_43_7 : sx_iB prog_6_method_21_code aI_43_7 = true := by decide +kernel
def aS_43 (pc : Nat) : sx_IL := (if pc < 40 then (if pc < 20 then (if pc < 10 then aI_43_0 else aI_43_1) else (if pc < 31 then aI_43_2 else aI_43_3)) else (if pc < 59 then (if pc < 49 then aI_43_4 else aI_43_5) else (if pc < 71 then aI_43_6 else aI_43_7)))
theorem aT_43 (pc : Nat) : sx_iOk prog_6_method_21_code (aS_43 pc) := (sx_ite (p := fun l => sx_iOk prog_6_method_21_code l) (sx_ite (p := fun l => sx_iOk prog_6_method_21_code l) (sx_ite (p := fun l => sx_iOk prog_6_method_21_code l) (sx_iB_s aJ_43_0) (sx_iB_s aJ_43_1)) (sx_ite (p := fun l => sx_iOk prog_6_method_21_code l) (sx_iB_s aJ_43_2) (sx_iB_s aJ_43_3))) (sx_ite (p := fun l => sx_iOk prog_6_method_21_code l) (sx_ite (p := fun l => sx_iOk prog_6_method_21_code l) (sx_iB_s aJ_43_4) (sx_iB_s aJ_43_5)) (sx_ite (p := fun l => sx_iOk prog_6_method_21_code l) (sx_iB_s aJ_43_6) (sx_iB_s aJ_43_7))))
def aW_43 : Nat → Option (Instr × Nat) := fun pc => sx_iF (aS_43 pc) pc
theorem aX_43 : ∀ pc i len, aW_43 pc = some (i, len) → decode aM_43.1.2.1 pc = .ok (i, len) := fun pc i len h => sx_iF_s (aT_43 pc) h
def aI_44_0 : sx_IL := [(0, .iload_n 1, 1), (1, .iconst 1, 1), (2, .if_icmp .lt 12, 3), (5, .iload_n 1, 1), (6, .iconst 3, 1), (7, .if_icmp .gt 7, 3)]
theorem aJ_44_0 : sx_iB prog_1_method_13_code aI_44_0 = true := by decide +kernel
def aI_44_1 : sx_IL := [(10, .iload_n 2, 1), (11, .ifCond .ge 7, 3), (14, .ldc2_w 96, 3), (17, .lreturn, 1), (18, .aload_n 0, 1), (19, .getfield 10, 3)]
theorem aJ_44_1 : sx_iB prog_1_method_13_code aI_44_1 = true := by decide +kernel
def aI_44_2 : sx_IL := [(22, .getfield 98, 3), (25, .iload_n 1, 1), (26, .iload_n 2, 1), (27, .iload_n 3, 1), (28, .invokevirtual 145, 3), (31, .lreturn, 1)]
theorem aJ_44_2 : sx_iB prog_1_method_13_code aI_44_2 = true := by decide +kernel
def aS_44 (pc : Nat) : sx_IL := (if pc < 10 then aI_44_0 else (if pc < 22 then aI_44_1 else aI_44_2))
theorem aT_44 (pc : Nat) : sx_iOk prog_1_method_13_code (aS_44 pc) := (sx_ite (p := fun l => sx_iOk prog_1_method_13_code l) (sx_iB_s aJ_44_0) (sx_ite (p := fun l => sx_iOk prog_1_method_13_code l) (sx_iB_s aJ_44_1) (sx_iB_s aJ_44_2)))
def aW_44 : Nat → Option (Instr × Nat) := fun pc => sx_iF (aS_44 pc) pc
theorem aX_44 : ∀ pc i len, aW_44 pc = some (i, len) → decode aM_44.1.2.1 pc = .ok (i, len) := fun pc i len h => sx_iF_s (aT_44 pc) h
def aI_45_0 : sx_IL := [(0, .iload_n 1, 1), (1, .invokestatic 109, 3), (4, .ifCond .ne 5, 3), (7, .lconst 0, 1), (8, .lreturn, 1), (9, .getstatic 116, 3)]
theorem aJ_45_0 : sx_iB prog_6_method_24_code aI_45_0 = true := by decide +kernel
def aI_45_1 : sx_IL := [(12, .iload_n 1, 1), (13, .iconst 1, 1), (14, .isub, 1), (15, .iaload, 1), (16, .istore 4, 2), (18, .iload_n 3, 1)]
theorem aJ_45_1 : sx_iB prog_6_method_24_code aI_45_1 = true := by decide +kernel
def aI_45_2 : sx_IL := [(19, .iconst 2, 1), (20, .if_icmp .lt 11, 3), (23, .iload_n 3, 1), (24, .iload 4, 2), (26, .iconst 2, 1), (27, .isub, 1)]
theorem aJ_45_2 : sx_iB prog_6_method_24_code aI_45_2 = true := by decide +kernel
def aI_45_3 : sx_IL := [(28, .if_icmp .le 5, 3), (31, .lconst 0, 1), (32, .lreturn, 1), (33, .iload_n 3, 1), (34, .i2l, 1), (35, .iload_n 2, 1)]
theorem aJ_45_3 : sx_iB prog_6_method_24_code aI_45_3 = true := by decide +kernel
def aI_45_4 : sx_IL := [(36, .iload 4, 2), (38, .invokestatic 119, 3), (41, .istore 5, 2), (43, .iload 5, 2), (45, .iconst 2, 1), (46, .if_icmp .lt 12, 3)]
theorem aJ_45_4 : sx_iB prog_6_method_24_code aI_45_4 = true := by decide +kernel
def aI_45_5 : sx_IL := [(49, .iload 5, 2), (51, .iload 4, 2), (53, .iconst 2, 1), (54, .isub, 1), (55, .if_icmp .le 7, 3), (58, .lconst 0, 1)]
theorem aJ_45_5 : sx_iB prog_6_method_24_code aI_45_5 = true := by decide +kernel
def aI_45_6 : sx_IL := [(59, .goto 6, 3), (62, .iload 5, 2), (64, .i2l, 1), (65, .lreturn, 1)]
theorem aJ_45_6 : sx_iB prog_6_method_24_code aI_45_6 = true := by decide +kernel
def aS_45 (pc : Nat) : sx_IL := (if pc < 28 then (if pc < 12 then aI_45_0 else (if pc < 19 then aI_45_1 else aI_45_2)) else (if pc < 49 then (if pc < 36 then aI_45_3 else aI_45_4) else (if pc < 59 then aI_45_5 else aI_45_6)))
theorem aT_45 (pc : Nat) : sx_iOk prog_6_method_24_code (aS_45 pc) := (sx_ite (p := fun l => sx_iOk prog_6_method_24_code l) (sx_ite (p := fun l => sx_iOk prog_6_method_24_code l) (sx_iB_s aJ_45_0) (sx_ite (p := fun l => sx_iOk prog_6_method_24_code l) (sx_iB_s aJ_45_1) (sx_iB_s aJ_45_2))) (sx_ite (p := fun l => sx_iOk prog_6_method_24_code l) (sx_ite (p := fun l => sx_iOk prog_6_method_24_code l) (sx_iB_s aJ_45_3) (sx_iB_s aJ_45_4)) (sx_ite (p := fun l => sx_iOk prog_6_method_24_code l) (sx_iB_s aJ_45_5) (sx_iB_s aJ_45_6))))
def aW_45 : Nat → Option (Instr × Nat) := fun pc => sx_iF (aS_45 pc) pc
theorem aX_45 : ∀ pc i len, aW_45 pc = some (i, len) → decode aM_45.1.2.1 pc = .ok (i, len) := fun pc i len h => sx_iF_s (aT_45 pc) h
def aI_46_0 : sx_IL := [(0, .iload_n 1, 1), (1, .invokestatic 149, 3), (4, .ifCond .eq 17, 3), (7, .aload_n 0, 1), (8, .getfield 10, 3), (11, .getfield 98, 3)]
theorem aJ_46_0 : sx_iB prog_1_method_14_code aI_46_0 = true := by decide +kernel
def aI_46_1 : sx_IL := [(14, .iload_n 1, 1), (15, .invokevirtual 152, 3), (18, .goto 4, 3), (21, .iconst (-1), 1), (22, .ireturn, 1)]
theorem aJ_46_1 : sx_iB prog_1_method_14_code aI_46_1 = true := by decide +kernel
def aS_46 (pc : Nat) : sx_IL := (if pc < 14 then aI_46_0 else aI_46_1)
theorem aT_46 (pc : Nat) : sx_iOk prog_1_method_14_code (aS_46 pc) := (sx_ite (p := fun l => sx_iOk prog_1_method_14_code l) (sx_iB_s aJ_46_0) (sx_iB_s aJ_46_1))
def aW_46 : Nat → Option (Instr × Nat) := fun pc => sx_iF (aS_46 pc) pc
theorem aX_46 : ∀ pc i len, aW_46 pc = some (i, len) → decode aM_46.1.2.1 pc = .ok (i, len) := fun pc i len h => sx_iF_s (aT_46 pc) h
def aI_47_0 : sx_IL := [(0, .iload_n 0, 1), (1, .iconst 1, 1), (2, .if_icmp .lt 13, 3), (5, .iload_n 0, 1), (6, .ldc 166, 2), (8, .if_icmp .ge 7, 3)]
theorem aJ_47_0 : sx_iB prog_1_method_19_code aI_47_0 = true := by decide +kernel
def aI_47_1 : sx_IL := [(11, .iconst 1, 1), (12, .goto 4, 3), (15, .iconst 0, 1), (16, .ireturn, 1)]
theorem aJ_47_1 : sx_iB prog_1_method_19_code aI_47_1 = true := by decide +kernel
def aS_47 (pc : Nat) : sx_IL := (if pc < 11 then aI_47_0 else aI_47_1)
theorem aT_47 (pc : Nat) : sx_iOk prog_1_method_19_code (aS_47 pc) := (sx_ite (p := fun l => sx_iOk prog_1_method_19_code l) (sx_iB_s aJ_47_0) (sx_iB_s aJ_47_1))
def aW_47 : Nat → Option (Instr × Nat) := fun pc => sx_iF (aS_47 pc) pc
theorem aX_47 : ∀ pc i len, aW_47 pc = some (i, len) → decode aM_47.1.2.1 pc = .ok (i, len) := fun pc i len h => sx_iF_s (aT_47 pc) h
def aI_48_0 : sx_IL := [(0, .ldc2_w 123, 3), (3, .iload_n 1, 1), (4, .ldc 125, 2), (6, .invokestatic 119, 3), (9, .ireturn, 1)]
theorem aJ_48_0 : sx_iB prog_6_method_25_code aI_48_0 = true := by decide +kernel
def aS_48 (pc : Nat) : sx_IL := aI_48_0
theorem aT_48 (pc : Nat) : sx_iOk prog_6_method_25_code (aS_48 pc) := (sx_iB_s aJ_48_0)
def aW_48 : Nat → Option (Instr × Nat) := fun pc => sx_iF (aS_48 pc) pc
theorem aX_48 : ∀ pc i len, aW_48 pc = some (i, len) → decode aM_48.1.2.1 pc = .ok (i, len) := fun pc i len h => sx_iF_s (aT_48 pc) h
def aI_49_0 : sx_IL := [(0, .iload_n 1, 1), (1, .invokestatic 155, 3), (4, .ifCond .eq 10, 3), (7, .iload_n 2, 1), (8, .invokestatic 149, 3), (11, .ifCond .ne 7, 3)]
theorem aJ_49_0 : sx_iB prog_1_method_15_code aI_49_0 = true := by decide +kernel
def aI_49_1 : sx_IL := [(14, .ldc2_w 96, 3), (17, .lreturn, 1), (18, .aload_n 0, 1), (19, .getfield 10, 3), (22, .getfield 98, 3), (25, .iload_n 1, 1)]
theorem aJ_49_1 : sx_iB prog_1_method_15_code aI_49_1 = true := by decide +kernel
def aI_49_2 : sx_IL := [(26, .iload_n 2, 1), (27, .aload_n 0, 1), (28, .getfield 21, 3), (31, .getfield 80, 3), (34, .iconst 0, 1), (35, .aload_n 0, 1)]
theorem aJ_49_2 : sx_iB prog_1_method_15_code aI_49_2 = true := by decide +kernel
def aI_49_3 : sx_IL := [(36, .getfield 21, 3), (39, .getfield 69, 3), (42, .invokevirtual 158, 3), (45, .lstore_n 3, 1), (46, .aload_n 0, 1), (47, .getfield 21, 3)]
theorem aJ_49_3 : sx_iB prog_1_method_15_code aI_49_3 = true := by decide +kernel
def aI_49_4 : sx_IL := [(50, .invokevirtual 108, 3), (53, .lload_n 3, 1), (54, .lreturn, 1)]
theorem aJ_49_4 : sx_iB prog_1_method_15_code aI_49_4 = true := by decide +kernel
def aS_49 (pc : Nat) : sx_IL := (if pc < 26 then (if pc < 14 then aI_49_0 else aI_49_1) else (if pc < 36 then aI_49_2 else (if pc < 50 then aI_49_3 else aI_49_4)))
theorem aT_49 (pc : Nat) : sx_iOk prog_1_method_15_code (aS_49 pc) := (sx_ite (p := fun l => sx_iOk prog_1_method_15_code l) (sx_ite (p := fun l => sx_iOk prog_1_method_15_code l) (sx_iB_s aJ_49_0) (sx_iB_s aJ_49_1)) (sx_ite (p := fun l => sx_iOk prog_1_method_15_code l) (sx_iB_s aJ_49_2) (sx_ite (p := fun l => sx_iOk prog_1_method_15_code l) (sx_iB_s aJ_49_3) (sx_iB_s aJ_49_4))))
def aW_49 : Nat → Option (Instr × Nat) := fun pc => sx_iF (aS_49 pc) pc
theorem aX_49 : ∀ pc i len, aW_49 pc = some (i, len) → decode aM_49.1.2.1 pc = .ok (i, len) := fun pc i len h => sx_iF_s (aT_49 pc) h
def aI_50_0 : sx_IL := [(0, .iload_n 0, 1), (1, .iconst 1, 1), (2, .if_icmp .eq 8, 3), (5, .iload_n 0, 1), (6, .iconst 2, 1), (7, .if_icmp .ne 7, 3)]
theorem aJ_50_0 : sx_iB prog_1_method_18_code aI_50_0 = true := by decide +kernel
def aI_50_1 : sx_IL := [(10, .iconst 1, 1), (11, .goto 4, 3), (14, .iconst 0, 1), (15, .ireturn, 1)]
theorem aJ_50_1 : sx_iB prog_1_method_18_code aI_50_1 = true := by decide +kernel
def aS_50 (pc : Nat) : sx_IL := (if pc < 10 then aI_50_0 else aI_50_1)
theorem aT_50 (pc : Nat) : sx_iOk prog_1_method_18_code (aS_50 pc) := (sx_ite (p := fun l => sx_iOk prog_1_method_18_code l) (sx_iB_s aJ_50_0) (sx_iB_s aJ_50_1))
def aW_50 : Nat → Option (Instr × Nat) := fun pc => sx_iF (aS_50 pc) pc
theorem aX_50 : ∀ pc i len, aW_50 pc = some (i, len) → decode aM_50.1.2.1 pc = .ok (i, len) := fun pc i len h => sx_iF_s (aT_50 pc) h
def aI_51_0 : sx_IL := [(0, .aload_n 0, 1), (1, .iload_n 1, 1), (2, .iconst 1, 1), (3, .isub, 1), (4, .iload_n 2, 1), (5, .i2l, 1)]
theorem aJ_51_0 : sx_iB prog_6_method_27_code aI_51_0 = true := by decide +kernel
def aI_51_1 : sx_IL := [(6, .aload_n 3, 1), (7, .iload 4, 2), (9, .iload 5, 2), (11, .invokevirtual 127, 3), (14, .invokestatic 131, 3), (17, .istore 6, 2)]
theorem aJ_51_1 : sx_iB prog_6_method_27_code aI_51_1 = true := by decide +kernel
def aI_51_2 : sx_IL := [(19, .iconst 1, 1), (20, .iload 6, 2), (22, .ldc 135, 2), (24, .irem, 1), (25, .iadd, 1), (26, .istore 7, 2)]
theorem aJ_51_2 : sx_iB prog_6_method_27_code aI_51_2 = true := by decide +kernel
def aI_51_3 : sx_IL := [(28, .aload_n 0, 1), (29, .iload_n 1, 1), (30, .iconst 1, 1), (31, .isub, 1), (32, .invokevirtual 41, 3), (35, .aload_n 0, 1)]
theorem aJ_51_3 : sx_iB prog_6_method_27_code aI_51_3 = true := by decide +kernel
def aI_51_4 : sx_IL := [(36, .ldc2_w 123, 3), (39, .iload 7, 2), (41, .ldc 125, 2), (43, .invokestatic 119, 3), (46, .i2l, 1), (47, .bipush 32, 2)]
theorem aJ_51_4 : sx_iB prog_6_method_27_code aI_51_4 = true := by decide +kernel
def aI_51_5 : sx_IL := [(49, .lshl, 1), (50, .aload_n 0, 1), (51, .iload_n 2, 1), (52, .invokevirtual 136, 3), (55, .i2l, 1), (56, .lor, 1)]
theorem aJ_51_5 : sx_iB prog_6_method_27_code aI_51_5 = true := by decide +kernel
def aI_51_6 : sx_IL := [(57, .invokevirtual 66, 3), (60, .aload_n 0, 1), (61, .aload_n 3, 1), (62, .iload 4, 2), (64, .iload 5, 2), (66, .invokevirtual 45, 3)]
theorem aJ_51_6 : sx_iB prog_6_method_27_code aI_51_6 = true := by decide +kernel
def aI_51_7 : sx_IL := [(69, .aload_n 0, 1), (70, .invokevirtual 49, 3), (73, .invokestatic 131, 3), (76, .ldc 139, 2), (78, .irem, 1), (79, .istore 8, 2)]
theorem aJ_51_7 : sx_iB prog_6_method_27_code aI_51_7 = true := by decide +kernel
def aI_51_8 : sx_IL := [(81, .iload 7, 2), (83, .i2l, 1), (84, .iload 8, 2), (86, .i2l, 1), (87, .iload_n 2, 1), (88, .i2l, 1)]
theorem aJ_51_8 : sx_iB prog_6_method_27_code aI_51_8 = true := by decide +kernel
def aI_51_9 : sx_IL := [(89, .lmul, 1), (90, .ladd, 1), (91, .ldc2_w 140, 3), (94, .lrem, 1), (95, .lstore 9, 2), (97, .iload 8, 2)]
theorem aJ_51_9 : sx_iB prog_6_method_27_code aI_51_9 = true := by decide +kernel
def aI_51_10 : sx_IL := [(99, .i2l, 1), (100, .bipush 32, 2), (102, .lshl, 1), (103, .lload 9, 2), (105, .lor, 1), (106, .lreturn, 1)]
theorem aJ_51_10 : sx_iB prog_6_method_27_code aI_51_10 = true := by decide +kernel
def aS_51 (pc : Nat) : sx_IL := (if pc < 49 then (if pc < 19 then (if pc < 6 then aI_51_0 else aI_51_1) else (if pc < 28 then aI_51_2 else (if pc < 36 then aI_51_3 else aI_51_4))) else (if pc < 81 then (if pc < 57 then aI_51_5 else (if pc < 69 then aI_51_6 else aI_51_7)) else (if pc < 89 then aI_51_8 else (if pc < 99 then aI_51_9 else aI_51_10))))
theorem aT_51 (pc : Nat) : sx_iOk prog_6_method_27_code (aS_51 pc) := (sx_ite (p := fun l => sx_iOk prog_6_method_27_code l) (sx_ite (p := fun l => sx_iOk prog_6_method_27_code l) (sx_ite (p := fun l => sx_iOk prog_6_method_27_code l) (sx_iB_s aJ_51_0) (sx_iB_s aJ_51_1)) (sx_ite (p := fun l => sx_iOk prog_6_method_27_code l) (sx_iB_s aJ_51_2) (sx_ite (p := fun l => sx_iOk prog_6_method_27_code l) (sx_iB_s aJ_51_3) (sx_iB_s aJ_51_4)))) (sx_ite (p := fun l => sx_iOk prog_6_method_27_code l) (sx_ite (p := fun l => sx_iOk prog_6_method_27_code l) (sx_iB_s aJ_51_5) (sx_ite (p := fun l => sx_iOk prog_6_method_27_code l) (sx_iB_s aJ_51_6) (sx_iB_s aJ_51_7))) (sx_ite (p := fun l => sx_iOk prog_6_method_27_code l) (sx_iB_s aJ_51_8) (sx_ite (p := fun l => sx_iOk prog_6_method_27_code l) (sx_iB_s aJ_51_9) (sx_iB_s aJ_51_10)))))
def aW_51 : Nat → Option (Instr × Nat) := fun pc => sx_iF (aS_51 pc) pc
theorem aX_51 : ∀ pc i len, aW_51 pc = some (i, len) → decode aM_51.1.2.1 pc = .ok (i, len) := fun pc i len h => sx_iF_s (aT_51 pc) h
def aI_52_0 : sx_IL := [(0, .lload_n 0, 1), (1, .bipush 32, 2), (3, .lushr, 1), (4, .l2i, 1), (5, .ldc 126, 2), (7, .iand, 1)]
theorem aJ_52_0 : sx_iB prog_6_method_26_code aI_52_0 = true := by decide +kernel
def aI_52_1 : sx_IL := [(8, .ireturn, 1)]
theorem aJ_52_1 : sx_iB prog_6_method_26_code aI_52_1 = true := by decide +kernel
def aS_52 (pc : Nat) : sx_IL := (if pc < 8 then aI_52_0 else aI_52_1)
theorem aT_52 (pc : Nat) : sx_iOk prog_6_method_26_code (aS_52 pc) := (sx_ite (p := fun l => sx_iOk prog_6_method_26_code l) (sx_iB_s aJ_52_0) (sx_iB_s aJ_52_1))
def aW_52 : Nat → Option (Instr × Nat) := fun pc => sx_iF (aS_52 pc) pc
theorem aX_52 : ∀ pc i len, aW_52 pc = some (i, len) → decode aM_52.1.2.1 pc = .ok (i, len) := fun pc i len h => sx_iF_s (aT_52 pc) h
def aI_53_0 : sx_IL := [(0, .iload_n 1, 1), (1, .invokestatic 155, 3), (4, .ifCond .ne 5, 3), (7, .iconst (-1), 1), (8, .ireturn, 1), (9, .aload_n 0, 1)]
theorem aJ_53_0 : sx_iB prog_1_method_16_code aI_53_0 = true := by decide +kernel
def aI_53_1 : sx_IL := [(10, .getfield 10, 3), (13, .getfield 98, 3), (16, .iload_n 1, 1), (17, .iload_n 2, 1), (18, .lload_n 3, 1), (19, .aload_n 0, 1)]
theorem aJ_53_1 : sx_iB prog_1_method_16_code aI_53_1 = true := by decide +kernel
def aI_53_2 : sx_IL := [(20, .getfield 21, 3), (23, .getfield 80, 3), (26, .iconst 0, 1), (27, .aload_n 0, 1), (28, .getfield 21, 3), (31, .getfield 69, 3)]
theorem aJ_53_2 : sx_iB prog_1_method_16_code aI_53_2 = true := by decide +kernel
def aI_53_3 : sx_IL := [(34, .invokevirtual 162, 3), (37, .istore 5, 2), (39, .aload_n 0, 1), (40, .getfield 21, 3), (43, .invokevirtual 108, 3), (46, .iload 5, 2)]
theorem aJ_53_3 : sx_iB prog_1_method_16_code aI_53_3 = true := by decide +kernel
def aI_53_4 : sx_IL := [(48, .ifCond .eq 7, 3), (51, .iconst 1, 1), (52, .goto 4, 3), (55, .iconst 0, 1), (56, .ireturn, 1)]
theorem aJ_53_4 : sx_iB prog_1_method_16_code aI_53_4 = true := by decide +kernel
def aS_53 (pc : Nat) : sx_IL := (if pc < 20 then (if pc < 10 then aI_53_0 else aI_53_1) else (if pc < 34 then aI_53_2 else (if pc < 48 then aI_53_3 else aI_53_4)))
theorem aT_53 (pc : Nat) : sx_iOk prog_1_method_16_code (aS_53 pc) := (sx_ite (p := fun l => sx_iOk prog_1_method_16_code l) (sx_ite (p := fun l => sx_iOk prog_1_method_16_code l) (sx_iB_s aJ_53_0) (sx_iB_s aJ_53_1)) (sx_ite (p := fun l => sx_iOk prog_1_method_16_code l) (sx_iB_s aJ_53_2) (sx_ite (p := fun l => sx_iOk prog_1_method_16_code l) (sx_iB_s aJ_53_3) (sx_iB_s aJ_53_4))))
def aW_53 : Nat → Option (Instr × Nat) := fun pc => sx_iF (aS_53 pc) pc
theorem aX_53 : ∀ pc i len, aW_53 pc = some (i, len) → decode aM_53.1.2.1 pc = .ok (i, len) := fun pc i len h => sx_iF_s (aT_53 pc) h
def aI_54_0 : sx_IL := [(0, .lload_n 3, 1), (1, .bipush 32, 2), (3, .lushr, 1), (4, .l2i, 1), (5, .istore 8, 2), (7, .lload_n 3, 1)]
theorem aJ_54_0 : sx_iB prog_6_method_28_code aI_54_0 = true := by decide +kernel
def aI_54_1 : sx_IL := [(8, .l2i, 1), (9, .istore 9, 2), (11, .iload_n 2, 1), (12, .iconst 2, 1), (13, .if_icmp .lt 46, 3), (16, .iload_n 2, 1)]
theorem aJ_54_1 : sx_iB prog_6_method_28_code aI_54_1 = true := by decide +kernel
def aI_54_2 : sx_IL := [(17, .ldc 142, 2), (19, .if_icmp .gt 40, 3), (22, .iload 8, 2), (24, .ifCond .lt 35, 3), (27, .iload 8, 2), (29, .ldc 139, 2)]
theorem aJ_54_2 : sx_iB prog_6_method_28_code aI_54_2 = true := by decide +kernel
def aI_54_3 : sx_IL := [(31, .if_icmp .ge 28, 3), (34, .iload 9, 2), (36, .ifCond .lt 23, 3), (39, .iload 9, 2), (41, .ldc 139, 2), (43, .if_icmp .ge 16, 3)]
theorem aJ_54_3 : sx_iB prog_6_method_28_code aI_54_3 = true := by decide +kernel
def aI_54_4 : sx_IL := [(46, .iload_n 2, 1), (47, .i2l, 1), (48, .ldc 139, 2), (50, .ldc 125, 2), (52, .invokestatic 119, 3), (55, .iconst 1, 1)]
theorem aJ_54_4 : sx_iB prog_6_method_28_code aI_54_4 = true := by decide +kernel
def aI_54_5 : sx_IL := [(56, .if_icmp .eq 5, 3), (59, .iconst 0, 1), (60, .ireturn, 1), (61, .ldc2_w 123, 3), (64, .iload 9, 2), (66, .ldc 125, 2)]
theorem aJ_54_5 : sx_iB prog_6_method_28_code aI_54_5 = true := by decide +kernel
def aI_54_6 : sx_IL := [(68, .invokestatic 119, 3), (71, .i2l, 1), (72, .iload_n 2, 1), (73, .i2l, 1), (74, .ldc 139, 2), (76, .iload 8, 2)]
theorem aJ_54_6 : sx_iB prog_6_method_28_code aI_54_6 = true := by decide +kernel
def aI_54_7 : sx_IL := [(78, .isub, 1), (79, .ldc 125, 2), (81, .invokestatic 119, 3), (84, .i2l, 1), (85, .lmul, 1), (86, .ldc2_w 143, 3)]
theorem aJ_54_7 : sx_iB prog_6_method_28_code aI_54_7 = true := by decide +kernel
def aI_54_8 : sx_IL := [(89, .lrem, 1), (90, .l2i, 1), (91, .istore 10, 2), (93, .aload_n 0, 1), (94, .iload_n 1, 1), (95, .iconst 1, 1)]
theorem aJ_54_8 : sx_iB prog_6_method_28_code aI_54_8 = true := by decide +kernel
def aI_54_9 : sx_IL := [(96, .isub, 1), (97, .invokevirtual 41, 3), (100, .aload_n 0, 1), (101, .iload 10, 2), (103, .i2l, 1), (104, .bipush 32, 2)]
theorem aJ_54_9 : sx_iB prog_6_method_28_code aI_54_9 = true := by decide +kernel
def aI_54_10 : sx_IL := [(106, .lshl, 1), (107, .iload_n 2, 1), (108, .i2l, 1), (109, .lor, 1), (110, .invokevirtual 66, 3), (113, .aload_n 0, 1)]
theorem aJ_54_10 : sx_iB prog_6_method_28_code aI_54_10 = true := by decide +kernel
def aI_54_11 : sx_IL := [(114, .aload 5, 2), (116, .iload 6, 2), (118, .iload 7, 2), (120, .invokevirtual 45, 3), (123, .aload_n 0, 1), (124, .invokevirtual 49, 3)]
theorem aJ_54_11 : sx_iB prog_6_method_28_code aI_54_11 = true := by decide +kernel
def aI_54_12 : sx_IL := [(127, .invokestatic 131, 3), (130, .ldc 139, 2), (132, .irem, 1), (133, .iload 8, 2), (135, .if_icmp .ne 7, 3), (138, .iconst 1, 1)]
theorem aJ_54_12 : sx_iB prog_6_method_28_code aI_54_12 = true := by decide +kernel
def aI_54_13 : sx_IL := [(139, .goto 4, 3), (142, .iconst 0, 1), (143, .ireturn, 1)]
theorem aJ_54_13 : sx_iB prog_6_method_28_code aI_54_13 = true := by decide +kernel
def aS_54 (pc : Nat) : sx_IL := (if pc < 78 then (if pc < 31 then (if pc < 8 then aI_54_0 else (if pc < 17 then aI_54_1 else aI_54_2)) else (if pc < 56 then (if pc < 46 then aI_54_3 else aI_54_4) else (if pc < 68 then aI_54_5 else aI_54_6))) else (if pc < 106 then (if pc < 89 then aI_54_7 else (if pc < 96 then aI_54_8 else aI_54_9)) else (if pc < 127 then (if pc < 114 then aI_54_10 else aI_54_11) else (if pc < 139 then aI_54_12 else aI_54_13))))
theorem aT_54 (pc : Nat) : sx_iOk prog_6_method_28_code (aS_54 pc) := (sx_ite (p := fun l => sx_iOk prog_6_method_28_code l) (sx_ite (p := fun l => sx_iOk prog_6_method_28_code l) (sx_ite (p := fun l => sx_iOk prog_6_method_28_code l) (sx_iB_s aJ_54_0) (sx_ite (p := fun l => sx_iOk prog_6_method_28_code l) (sx_iB_s aJ_54_1) (sx_iB_s aJ_54_2))) (sx_ite (p := fun l => sx_iOk prog_6_method_28_code l) (sx_ite (p := fun l => sx_iOk prog_6_method_28_code l) (sx_iB_s aJ_54_3) (sx_iB_s aJ_54_4)) (sx_ite (p := fun l => sx_iOk prog_6_method_28_code l) (sx_iB_s aJ_54_5) (sx_iB_s aJ_54_6)))) (sx_ite (p := fun l => sx_iOk prog_6_method_28_code l) (sx_ite (p := fun l => sx_iOk prog_6_method_28_code l) (sx_iB_s aJ_54_7) (sx_ite (p := fun l => sx_iOk prog_6_method_28_code l) (sx_iB_s aJ_54_8) (sx_iB_s aJ_54_9))) (sx_ite (p := fun l => sx_iOk prog_6_method_28_code l) (sx_ite (p := fun l => sx_iOk prog_6_method_28_code l) (sx_iB_s aJ_54_10) (sx_iB_s aJ_54_11)) (sx_ite (p := fun l => sx_iOk prog_6_method_28_code l) (sx_iB_s aJ_54_12) (sx_iB_s aJ_54_13)))))
def aW_54 : Nat → Option (Instr × Nat) := fun pc => sx_iF (aS_54 pc) pc
theorem aX_54 : ∀ pc i len, aW_54 pc = some (i, len) → decode aM_54.1.2.1 pc = .ok (i, len) := fun pc i len h => sx_iF_s (aT_54 pc) h
def aI_55_0 : sx_IL := [(0, .aload_n 0, 1), (1, .getfield 21, 3), (4, .getfield 80, 3), (7, .iconst 0, 1), (8, .aload_n 0, 1), (9, .getfield 21, 3)]
theorem aJ_55_0 : sx_iB prog_1_method_20_code aI_55_0 = true := by decide +kernel
def aI_55_1 : sx_IL := [(12, .getfield 69, 3), (15, .aload_n 0, 1), (16, .getfield 10, 3), (19, .getfield 167, 3), (22, .invokestatic 170, 3), (25, .istore_n 1, 1)]
theorem aJ_55_1 : sx_iB prog_1_method_20_code aI_55_1 = true := by decide +kernel
def aI_55_2 : sx_IL := [(26, .aload_n 0, 1), (27, .getfield 21, 3), (30, .invokevirtual 108, 3), (33, .iload_n 1, 1), (34, .ifCond .ge 7, 3), (37, .iconst 0, 1)]
theorem aJ_55_2 : sx_iB prog_1_method_20_code aI_55_2 = true := by decide +kernel
def aI_55_3 : sx_IL := [(38, .goto 7, 3), (41, .bipush (-10), 2), (43, .iload_n 1, 1), (44, .isub, 1), (45, .ireturn, 1)]
theorem aJ_55_3 : sx_iB prog_1_method_20_code aI_55_3 = true := by decide +kernel
def aS_55 (pc : Nat) : sx_IL := (if pc < 26 then (if pc < 12 then aI_55_0 else aI_55_1) else (if pc < 38 then aI_55_2 else aI_55_3))
theorem aT_55 (pc : Nat) : sx_iOk prog_1_method_20_code (aS_55 pc) := (sx_ite (p := fun l => sx_iOk prog_1_method_20_code l) (sx_ite (p := fun l => sx_iOk prog_1_method_20_code l) (sx_iB_s aJ_55_0) (sx_iB_s aJ_55_1)) (sx_ite (p := fun l => sx_iOk prog_1_method_20_code l) (sx_iB_s aJ_55_2) (sx_iB_s aJ_55_3)))
def aW_55 : Nat → Option (Instr × Nat) := fun pc => sx_iF (aS_55 pc) pc
theorem aX_55 : ∀ pc i len, aW_55 pc = some (i, len) → decode aM_55.1.2.1 pc = .ok (i, len) := fun pc i len h => sx_iF_s (aT_55 pc) h
def aI_56_0 : sx_IL := [(0, .iconst 0, 1), (1, .istore 4, 2), (3, .iload_n 1, 1), (4, .istore 5, 2), (6, .iload_n 2, 1), (7, .istore 6, 2)]
theorem aJ_56_0 : sx_iB prog_8_method_7_code aI_56_0 = true := by decide +kernel
def aI_56_1 : sx_IL := [(9, .iconst 1, 1), (10, .istore 7, 2), (12, .iconst 0, 1), (13, .istore 8, 2), (15, .iload 7, 2), (17, .ifCond .eq 272, 3)]
theorem aJ_56_1 : sx_iB prog_8_method_7_code aI_56_1 = true := by decide +kernel
def aI_56_2 : sx_IL := [(20, .iload 8, 2), (22, .iconst 2, 1), (23, .iload_n 2, 1), (24, .iload_n 1, 1), (25, .isub, 1), (26, .imul, 1)]
theorem aJ_56_2 : sx_iB prog_8_method_7_code aI_56_2 = true := by decide +kernel
def aI_56_3 : sx_IL := [(27, .iconst 2, 1), (28, .iadd, 1), (29, .if_icmp .gt 260, 3), (32, .iload 4, 2), (34, .ifCond .le 45, 3), (37, .iload 5, 2)]
theorem aJ_56_3 : sx_iB prog_8_method_7_code aI_56_3 = true := by decide +kernel
def aI_56_4 : sx_IL := [(39, .iload 6, 2), (41, .if_icmp .ne 38, 3), (44, .iinc 4 (-1), 3), (47, .iload 4, 2), (49, .ifCond .ne 7, 3), (52, .iload_n 2, 1)]
theorem aJ_56_4 : sx_iB prog_8_method_7_code aI_56_4 = true := by decide +kernel
def aI_56_5 : sx_IL := [(53, .goto 9, 3), (56, .aload_n 3, 1), (57, .iload 4, 2), (59, .iconst 1, 1), (60, .isub, 1), (61, .iaload, 1)]
theorem aJ_56_5 : sx_iB prog_8_method_7_code aI_56_5 = true := by decide +kernel
def aI_56_6 : sx_IL := [(62, .istore 6, 2), (64, .iload 4, 2), (66, .ifCond .le 7, 3), (69, .iconst 1, 1), (70, .goto 4, 3), (73, .iconst 0, 1)]
theorem aJ_56_6 : sx_iB prog_8_method_7_code aI_56_6 = true := by decide +kernel
def aI_56_7 : sx_IL := [(74, .istore 7, 2), (76, .goto 207, 3), (79, .iload 5, 2), (81, .iload 6, 2), (83, .if_icmp .lt 8, 3), (86, .iload 6, 2)]
theorem aJ_56_7 : sx_iB prog_8_method_7_code aI_56_7 = true := by decide +kernel
def aI_56_8 : sx_IL := [(88, .iload_n 1, 1), (89, .isub, 1), (90, .ireturn, 1), (91, .aload_n 0, 1), (92, .iload 5, 2), (94, .iaload, 1)]
theorem aJ_56_8 : sx_iB prog_8_method_7_code aI_56_8 = true := by decide +kernel
def aI_56_9 : sx_IL := [(95, .istore 9, 2), (97, .iload 9, 2), (99, .invokestatic 44, 3), (102, .ifCond .eq 10, 3), (105, .iload 4, 2), (107, .aload_n 3, 1)]
theorem aJ_56_9 : sx_iB prog_8_method_7_code aI_56_9 = true := by decide +kernel
def aI_56_10 : sx_IL := [(108, .arraylength, 1), (109, .if_icmp .lt 8, 3), (112, .iload 5, 2), (114, .iload_n 1, 1), (115, .isub, 1), (116, .ireturn, 1)]
theorem aJ_56_10 : sx_iB prog_8_method_7_code aI_56_10 = true := by decide +kernel
def aI_56_11 : sx_IL := [(117, .iload 5, 2), (119, .iconst 1, 1), (120, .iadd, 1), (121, .iload 6, 2), (123, .if_icmp .ge 15, 3), (126, .aload_n 0, 1)]
theorem aJ_56_11 : sx_iB prog_8_method_7_code aI_56_11 = true := by decide +kernel
def aI_56_12 : sx_IL := [(127, .iload 5, 2), (129, .iconst 1, 1), (130, .iadd, 1), (131, .iaload, 1), (132, .invokestatic 48, 3), (135, .goto 4, 3)]
theorem aJ_56_12 : sx_iB prog_8_method_7_code aI_56_12 = true := by decide +kernel
def aI_56_13 : sx_IL := [(138, .iconst 1, 1), (139, .istore 10, 2), (141, .iload 5, 2), (143, .iconst 1, 1), (144, .iadd, 1), (145, .iload 10, 2)]
theorem aJ_56_13 : sx_iB prog_8_method_7_code aI_56_13 = true := by decide +kernel
def aI_56_14 : sx_IL := [(147, .iadd, 1), (148, .istore 11, 2), (150, .iload 10, 2), (152, .ifCond .le 15, 3), (155, .iload 11, 2), (157, .iload 6, 2)]
theorem aJ_56_14 : sx_iB prog_8_method_7_code aI_56_14 = true := by decide +kernel
def aI_56_15 : sx_IL := [(159, .if_icmp .le 8, 3), (162, .iload 6, 2), (164, .iload_n 1, 1), (165, .isub, 1), (166, .ireturn, 1), (167, .aload_n 0, 1)]
theorem aJ_56_15 : sx_iB prog_8_method_7_code aI_56_15 = true := by decide +kernel
def aI_56_16 : sx_IL := [(168, .iload 5, 2), (170, .iconst 1, 1), (171, .iadd, 1), (172, .iload 10, 2), (174, .invokestatic 51, 3), (177, .istore 12, 2)]
theorem aJ_56_16 : sx_iB prog_8_method_7_code aI_56_16 = true := by decide +kernel
def aI_56_17 : sx_IL := [(179, .iload 12, 2), (181, .ifCond .lt 13, 3), (184, .iload 11, 2), (186, .iload 12, 2), (188, .iadd, 1), (189, .iload 6, 2)]
theorem aJ_56_17 : sx_iB prog_8_method_7_code aI_56_17 = true := by decide +kernel
def aI_56_18 : sx_IL := [(191, .if_icmp .le 10, 3), (194, .iload 5, 2), (196, .iconst 1, 1), (197, .iadd, 1), (198, .iload_n 1, 1), (199, .isub, 1)]
theorem aJ_56_18 : sx_iB prog_8_method_7_code aI_56_18 = true := by decide +kernel
def aI_56_19 : sx_IL := [(200, .ireturn, 1), (201, .iload 9, 2), (203, .aload_n 0, 1), (204, .iload 11, 2), (206, .iload 11, 2), (208, .iload 12, 2)]
theorem aJ_56_19 : sx_iB prog_8_method_7_code aI_56_19 = true := by decide +kernel
def aI_56_20 : sx_IL := [(210, .iadd, 1), (211, .invokestatic 55, 3), (214, .istore 13, 2), (216, .iload 13, 2), (218, .ifCond .lt 8, 3), (221, .iload 13, 2)]
theorem aJ_56_20 : sx_iB prog_8_method_7_code aI_56_20 = true := by decide +kernel
def aI_56_21 : sx_IL := [(223, .iload_n 1, 1), (224, .isub, 1), (225, .ireturn, 1), (226, .iload 9, 2), (228, .bipush 48, 2), (230, .if_icmp .ne 8, 3)]
theorem aJ_56_21 : sx_iB prog_8_method_7_code aI_56_21 = true := by decide +kernel
def aI_56_22 : sx_IL := [(233, .iload 11, 2), (235, .goto 8, 3), (238, .iload 11, 2), (240, .iload 12, 2), (242, .iadd, 1), (243, .istore 5, 2)]
theorem aJ_56_22 : sx_iB prog_8_method_7_code aI_56_22 = true := by decide +kernel
def aI_56_23 : sx_IL := [(245, .iload 9, 2), (247, .bipush 48, 2), (249, .if_icmp .ne 22, 3), (252, .aload_n 3, 1), (253, .iload 4, 2), (255, .iload 11, 2)]
theorem aJ_56_23 : sx_iB prog_8_method_7_code aI_56_23 = true := by decide +kernel
def aI_56_24 : sx_IL := [(257, .iload 12, 2), (259, .iadd, 1), (260, .iastore, 1), (261, .iload 11, 2), (263, .iload 12, 2), (265, .iadd, 1)]
theorem aJ_56_24 : sx_iB prog_8_method_7_code aI_56_24 = true := by decide +kernel
def aI_56_25 : sx_IL := [(266, .istore 6, 2), (268, .iinc 4 1, 3), (271, .iload 4, 2), (273, .ifCond .le 7, 3), (276, .iconst 1, 1), (277, .goto 4, 3)]
theorem aJ_56_25 : sx_iB prog_8_method_7_code aI_56_25 = true := by decide +kernel
def aI_56_26 : sx_IL := [(280, .iconst 0, 1), (281, .istore 7, 2), (283, .iinc 8 1, 3), (286, .goto (-271), 3), (289, .iload 5, 2), (291, .iload_n 2, 1)]
theorem aJ_56_26 : sx_iB prog_8_method_7_code aI_56_26 = true := by decide +kernel
def aI_56_27 : sx_IL := [(292, .if_icmp .ge 10, 3), (295, .iload 5, 2), (297, .iload_n 1, 1), (298, .isub, 1), (299, .goto 4, 3), (302, .iconst (-1), 1)]
theorem aJ_56_27 : sx_iB prog_8_method_7_code aI_56_27 = true := by decide +kernel
def aI_56_28 : sx_IL := [(303, .ireturn, 1)]
theorem aJ_56_28 : sx_iB prog_8_method_7_code aI_56_28 = true := by decide +kernel
def aS_56 (pc : Nat) : sx_IL := (if pc < 147 then (if pc < 74 then (if pc < 27 then (if pc < 9 then aI_56_0 else (if pc < 20 then aI_56_1 else aI_56_2)) else (if pc < 53 then (if pc < 39 then aI_56_3 else aI_56_4) else (if pc < 62 then aI_56_5 else aI_56_6))) else (if pc < 108 then (if pc < 88 then aI_56_7 else (if pc < 95 then aI_56_8 else aI_56_9)) else (if pc < 127 then (if pc < 117 then aI_56_10 else aI_56_11) else (if pc < 138 then aI_56_12 else aI_56_13)))) else (if pc < 223 then (if pc < 179 then (if pc < 159 then aI_56_14 else (if pc < 168 then aI_56_15 else aI_56_16)) else (if pc < 200 then (if pc < 191 then aI_56_17 else aI_56_18) else (if pc < 210 then aI_56_19 else aI_56_20))) else (if pc < 266 then (if pc < 245 then (if pc < 233 then aI_56_21 else aI_56_22) else (if pc < 257 then aI_56_23 else aI_56_24)) else (if pc < 292 then (if pc < 280 then aI_56_25 else aI_56_26) else (if pc < 303 then aI_56_27 else aI_56_28)))))
theorem aT_56 (pc : Nat) : sx_iOk prog_8_method_7_code (aS_56 pc) := (sx_ite (p := fun l => sx_iOk prog_8_method_7_code l) (sx_ite (p := fun l => sx_iOk prog_8_method_7_code l) (sx_ite (p := fun l => sx_iOk prog_8_method_7_code l) (sx_ite (p := fun l => sx_iOk prog_8_method_7_code l) (sx_iB_s aJ_56_0) (sx_ite (p := fun l => sx_iOk prog_8_method_7_code l) (sx_iB_s aJ_56_1) (sx_iB_s aJ_56_2))) (sx_ite (p := fun l => sx_iOk prog_8_method_7_code l) (sx_ite (p := fun l => sx_iOk prog_8_method_7_code l) (sx_iB_s aJ_56_3) (sx_iB_s aJ_56_4)) (sx_ite (p := fun l => sx_iOk prog_8_method_7_code l) (sx_iB_s aJ_56_5) (sx_iB_s aJ_56_6)))) (sx_ite (p := fun l => sx_iOk prog_8_method_7_code l) (sx_ite (p := fun l => sx_iOk prog_8_method_7_code l) (sx_iB_s aJ_56_7) (sx_ite (p := fun l => sx_iOk prog_8_method_7_code l) (sx_iB_s aJ_56_8) (sx_iB_s aJ_56_9))) (sx_ite (p := fun l => sx_iOk prog_8_method_7_code l) (sx_ite (p := fun l => sx_iOk prog_8_method_7_code l) (sx_iB_s aJ_56_10) (sx_iB_s aJ_56_11)) (sx_ite (p := fun l => sx_iOk prog_8_method_7_code l) (sx_iB_s aJ_56_12) (sx_iB_s aJ_56_13))))) (sx_ite (p := fun l => sx_iOk prog_8_method_7_code l) (sx_ite (p := fun l => sx_iOk prog_8_method_7_code l) (sx_ite (p := fun l => sx_iOk prog_8_method_7_code l) (sx_iB_s aJ_56_14) (sx_ite (p := fun l => sx_iOk prog_8_method_7_code l) (sx_iB_s aJ_56_15) (sx_iB_s aJ_56_16))) (sx_ite (p := fun l => sx_iOk prog_8_method_7_code l) (sx_ite (p := fun l => sx_iOk prog_8_method_7_code l) (sx_iB_s aJ_56_17) (sx_iB_s aJ_56_18)) (sx_ite (p := fun l => sx_iOk prog_8_method_7_code l) (sx_iB_s aJ_56_19) (sx_iB_s aJ_56_20)))) (sx_ite (p := fun l => sx_iOk prog_8_method_7_code l) (sx_ite (p := fun l => sx_iOk prog_8_method_7_code l) (sx_ite (p := fun l => sx_iOk prog_8_method_7_code l) (sx_iB_s aJ_56_21) (sx_iB_s aJ_56_22)) (sx_ite (p := fun l => sx_iOk prog_8_method_7_code l) (sx_iB_s aJ_56_23) (sx_iB_s aJ_56_24))) (sx_ite (p := fun l => sx_iOk prog_8_method_7_code l) (sx_ite (p := fun l => sx_iOk prog_8_method_7_code l) (sx_iB_s aJ_56_25) (sx_iB_s aJ_56_26)) (sx_ite (p := fun l => sx_iOk prog_8_method_7_code l) (sx_iB_s aJ_56_27) (sx_iB_s aJ_56_28))))))
def aW_56 : Nat → Option (Instr × Nat) := fun pc => sx_iF (aS_56 pc) pc
theorem aX_56 : ∀ pc i len, aW_56 pc = some (i, len) → decode aM_56.1.2.1 pc = .ok (i, len) := fun pc i len h => sx_iF_s (aT_56 pc) h
def aI_57_0 : sx_IL := [(0, .iload_n 0, 1), (1, .bipush 48, 2), (3, .if_icmp .eq 33, 3), (6, .iload_n 0, 1), (7, .iconst 2, 1), (8, .if_icmp .eq 28, 3)]
theorem aJ_57_0 : sx_iB prog_8_method_8_code aI_57_0 = true := by decide +kernel
def aI_57_1 : sx_IL := [(11, .iload_n 0, 1), (12, .iconst 4, 1), (13, .if_icmp .eq 23, 3), (16, .iload_n 0, 1), (17, .bipush 12, 2), (19, .if_icmp .eq 17, 3)]
theorem aJ_57_1 : sx_iB prog_8_method_8_code aI_57_1 = true := by decide +kernel
def aI_57_2 : sx_IL := [(22, .iload_n 0, 1), (23, .sipush 161, 3), (26, .if_icmp .lt 14, 3), (29, .iload_n 0, 1), (30, .sipush 166, 3), (33, .if_icmp .gt 7, 3)]
theorem aJ_57_2 : sx_iB prog_8_method_8_code aI_57_2 = true := by decide +kernel
def aI_57_3 : sx_IL := [(36, .iconst 1, 1), (37, .goto 4, 3), (40, .iconst 0, 1), (41, .ireturn, 1)]
theorem aJ_57_3 : sx_iB prog_8_method_8_code aI_57_3 = true := by decide +kernel
def aS_57 (pc : Nat) : sx_IL := (if pc < 22 then (if pc < 11 then aI_57_0 else aI_57_1) else (if pc < 36 then aI_57_2 else aI_57_3))
theorem aT_57 (pc : Nat) : sx_iOk prog_8_method_8_code (aS_57 pc) := (sx_ite (p := fun l => sx_iOk prog_8_method_8_code l) (sx_ite (p := fun l => sx_iOk prog_8_method_8_code l) (sx_iB_s aJ_57_0) (sx_iB_s aJ_57_1)) (sx_ite (p := fun l => sx_iOk prog_8_method_8_code l) (sx_iB_s aJ_57_2) (sx_iB_s aJ_57_3)))
def aW_57 : Nat → Option (Instr × Nat) := fun pc => sx_iF (aS_57 pc) pc
theorem aX_57 : ∀ pc i len, aW_57 pc = some (i, len) → decode aM_57.1.2.1 pc = .ok (i, len) := fun pc i len h => sx_iF_s (aT_57 pc) h
def aI_58_0 : sx_IL := [(0, .iload_n 0, 1), (1, .sipush 128, 3), (4, .if_icmp .ge 7, 3), (7, .iconst 1, 1), (8, .goto 26, 3), (11, .iload_n 0, 1)]
theorem aJ_58_0 : sx_iB prog_8_method_9_code aI_58_0 = true := by decide +kernel
def aI_58_1 : sx_IL := [(12, .sipush 129, 3), (15, .if_icmp .ne 7, 3), (18, .iconst 2, 1), (19, .goto 15, 3), (22, .iload_n 0, 1), (23, .sipush 130, 3)]
theorem aJ_58_1 : sx_iB prog_8_method_9_code aI_58_1 = true := by decide +kernel
def aI_58_2 : sx_IL := [(26, .if_icmp .ne 7, 3), (29, .iconst 3, 1), (30, .goto 4, 3), (33, .iconst 0, 1), (34, .ireturn, 1)]
theorem aJ_58_2 : sx_iB prog_8_method_9_code aI_58_2 = true := by decide +kernel
def aS_58 (pc : Nat) : sx_IL := (if pc < 12 then aI_58_0 else (if pc < 26 then aI_58_1 else aI_58_2))
theorem aT_58 (pc : Nat) : sx_iOk prog_8_method_9_code (aS_58 pc) := (sx_ite (p := fun l => sx_iOk prog_8_method_9_code l) (sx_iB_s aJ_58_0) (sx_ite (p := fun l => sx_iOk prog_8_method_9_code l) (sx_iB_s aJ_58_1) (sx_iB_s aJ_58_2)))
def aW_58 : Nat → Option (Instr × Nat) := fun pc => sx_iF (aS_58 pc) pc
theorem aX_58 : ∀ pc i len, aW_58 pc = some (i, len) → decode aM_58.1.2.1 pc = .ok (i, len) := fun pc i len h => sx_iF_s (aT_58 pc) h
def aI_59_0 : sx_IL := [(0, .iload_n 2, 1), (1, .iconst 1, 1), (2, .if_icmp .ne 7, 3), (5, .aload_n 0, 1), (6, .iload_n 1, 1), (7, .iaload, 1)]
theorem aJ_59_0 : sx_iB prog_8_method_10_code aI_59_0 = true := by decide +kernel
def aI_59_1 : sx_IL := [(8, .ireturn, 1), (9, .iload_n 2, 1), (10, .iconst 2, 1), (11, .if_icmp .ne 11, 3), (14, .aload_n 0, 1), (15, .iload_n 1, 1)]
theorem aJ_59_1 : sx_iB prog_8_method_10_code aI_59_1 = true := by decide +kernel
def aI_59_2 : sx_IL := [(16, .iconst 1, 1), (17, .iadd, 1), (18, .iaload, 1), (19, .goto 26, 3), (22, .iload_n 2, 1), (23, .iconst 3, 1)]
theorem aJ_59_2 : sx_iB prog_8_method_10_code aI_59_2 = true := by decide +kernel
def aI_59_3 : sx_IL := [(24, .if_icmp .ne 20, 3), (27, .aload_n 0, 1), (28, .iload_n 1, 1), (29, .iconst 1, 1), (30, .iadd, 1), (31, .iaload, 1)]
theorem aJ_59_3 : sx_iB prog_8_method_10_code aI_59_3 = true := by decide +kernel
def aI_59_4 : sx_IL := [(32, .bipush 8, 2), (34, .ishl, 1), (35, .aload_n 0, 1), (36, .iload_n 1, 1), (37, .iconst 2, 1), (38, .iadd, 1)]
theorem aJ_59_4 : sx_iB prog_8_method_10_code aI_59_4 = true := by decide +kernel
def aI_59_5 : sx_IL := [(39, .iaload, 1), (40, .ior, 1), (41, .goto 4, 3), (44, .iconst (-1), 1), (45, .istore_n 3, 1), (46, .iload_n 3, 1)]
theorem aJ_59_5 : sx_iB prog_8_method_10_code aI_59_5 = true := by decide +kernel
def aI_59_6 : sx_IL := [(47, .iload_n 2, 1), (48, .iconst 2, 1), (49, .if_icmp .ne 9, 3), (52, .sipush 128, 3), (55, .goto 6, 3), (58, .sipush 256, 3)]
theorem aJ_59_6 : sx_iB prog_8_method_10_code aI_59_6 = true := by decide +kernel
def aI_59_7 : sx_IL := [(61, .if_icmp .ge 7, 3), (64, .iconst (-1), 1), (65, .goto 4, 3), (68, .iload_n 3, 1), (69, .ireturn, 1)]
theorem aJ_59_7 : sx_iB prog_8_method_10_code aI_59_7 = true := by decide +kernel
def aS_59 (pc : Nat) : sx_IL := (if pc < 32 then (if pc < 16 then (if pc < 8 then aI_59_0 else aI_59_1) else (if pc < 24 then aI_59_2 else aI_59_3)) else (if pc < 47 then (if pc < 39 then aI_59_4 else aI_59_5) else (if pc < 61 then aI_59_6 else aI_59_7)))
theorem aT_59 (pc : Nat) : sx_iOk prog_8_method_10_code (aS_59 pc) := (sx_ite (p := fun l => sx_iOk prog_8_method_10_code l) (sx_ite (p := fun l => sx_iOk prog_8_method_10_code l) (sx_ite (p := fun l => sx_iOk prog_8_method_10_code l) (sx_iB_s aJ_59_0) (sx_iB_s aJ_59_1)) (sx_ite (p := fun l => sx_iOk prog_8_method_10_code l) (sx_iB_s aJ_59_2) (sx_iB_s aJ_59_3))) (sx_ite (p := fun l => sx_iOk prog_8_method_10_code l) (sx_ite (p := fun l => sx_iOk prog_8_method_10_code l) (sx_iB_s aJ_59_4) (sx_iB_s aJ_59_5)) (sx_ite (p := fun l => sx_iOk prog_8_method_10_code l) (sx_iB_s aJ_59_6) (sx_iB_s aJ_59_7))))
def aW_59 : Nat → Option (Instr × Nat) := fun pc => sx_iF (aS_59 pc) pc
theorem aX_59 : ∀ pc i len, aW_59 pc = some (i, len) → decode aM_59.1.2.1 pc = .ok (i, len) := fun pc i len h => sx_iF_s (aT_59 pc) h
def aI_60_0 : sx_IL := [(0, .iload_n 0, 1), (1, .bipush 12, 2), (3, .if_icmp .ne 10, 3), (6, .aload_n 1, 1), (7, .iload_n 2, 1), (8, .iload_n 3, 1)]
theorem aJ_60_0 : sx_iB prog_8_method_11_code aI_60_0 = true := by decide +kernel
def aI_60_1 : sx_IL := [(9, .invokestatic 59, 3), (12, .ireturn, 1), (13, .iload_n 3, 1), (14, .iload_n 2, 1), (15, .isub, 1), (16, .istore 4, 2)]
theorem aJ_60_1 : sx_iB prog_8_method_11_code aI_60_1 = true := by decide +kernel
def aI_60_2 : sx_IL := [(18, .iload 4, 2), (20, .iconst 1, 1), (21, .if_icmp .lt 44, 3), (24, .iload 4, 2), (26, .iconst 4, 1), (27, .if_icmp .gt 38, 3)]
theorem aJ_60_2 : sx_iB prog_8_method_11_code aI_60_2 = true := by decide +kernel
def aI_60_3 : sx_IL := [(30, .aload_n 1, 1), (31, .iload_n 2, 1), (32, .iaload, 1), (33, .sipush 128, 3), (36, .if_icmp .ge 29, 3), (39, .iload 4, 2)]
theorem aJ_60_3 : sx_iB prog_8_method_11_code aI_60_3 = true := by decide +kernel
def aI_60_4 : sx_IL := [(41, .iconst 1, 1), (42, .if_icmp .eq 19, 3), (45, .aload_n 1, 1), (46, .iload_n 2, 1), (47, .iaload, 1), (48, .ifCond .gt 13, 3)]
theorem aJ_60_4 : sx_iB prog_8_method_11_code aI_60_4 = true := by decide +kernel
def aI_60_5 : sx_IL := [(51, .aload_n 1, 1), (52, .iload_n 2, 1), (53, .iconst 1, 1), (54, .iadd, 1), (55, .iaload, 1), (56, .bipush 127, 2)]
theorem aJ_60_5 : sx_iB prog_8_method_11_code aI_60_5 = true := by decide +kernel
def aI_60_6 : sx_IL := [(58, .if_icmp .le 7, 3), (61, .iconst 1, 1), (62, .goto 4, 3), (65, .iconst 0, 1), (66, .istore 5, 2), (68, .iload_n 0, 1)]
theorem aJ_60_6 : sx_iB prog_8_method_11_code aI_60_6 = true := by decide +kernel
def aI_60_7 : sx_IL := [(69, .iconst 2, 1), (70, .if_icmp .ne 12, 3), (73, .iload 5, 2), (75, .ifCond .ne 7, 3), (78, .iload_n 2, 1), (79, .goto 4, 3)]
theorem aJ_60_7 : sx_iB prog_8_method_11_code aI_60_7 = true := by decide +kernel
def aI_60_8 : sx_IL := [(82, .iconst (-1), 1), (83, .ireturn, 1)]
theorem aJ_60_8 : sx_iB prog_8_method_11_code aI_60_8 = true := by decide +kernel
def aS_60 (pc : Nat) : sx_IL := (if pc < 41 then (if pc < 18 then (if pc < 9 then aI_60_0 else aI_60_1) else (if pc < 30 then aI_60_2 else aI_60_3)) else (if pc < 58 then (if pc < 51 then aI_60_4 else aI_60_5) else (if pc < 69 then aI_60_6 else (if pc < 82 then aI_60_7 else aI_60_8))))
theorem aT_60 (pc : Nat) : sx_iOk prog_8_method_11_code (aS_60 pc) := (sx_ite (p := fun l => sx_iOk prog_8_method_11_code l) (sx_ite (p := fun l => sx_iOk prog_8_method_11_code l) (sx_ite (p := fun l => sx_iOk prog_8_method_11_code l) (sx_iB_s aJ_60_0) (sx_iB_s aJ_60_1)) (sx_ite (p := fun l => sx_iOk prog_8_method_11_code l) (sx_iB_s aJ_60_2) (sx_iB_s aJ_60_3))) (sx_ite (p := fun l => sx_iOk prog_8_method_11_code l) (sx_ite (p := fun l => sx_iOk prog_8_method_11_code l) (sx_iB_s aJ_60_4) (sx_iB_s aJ_60_5)) (sx_ite (p := fun l => sx_iOk prog_8_method_11_code l) (sx_iB_s aJ_60_6) (sx_ite (p := fun l => sx_iOk prog_8_method_11_code l) (sx_iB_s aJ_60_7) (sx_iB_s aJ_60_8)))))
def aW_60 : Nat → Option (Instr × Nat) := fun pc => sx_iF (aS_60 pc) pc
theorem aX_60 : ∀ pc i len, aW_60 pc = some (i, len) → decode aM_60.1.2.1 pc = .ok (i, len) := fun pc i len h => sx_iF_s (aT_60 pc) h
def aI_61_0 : sx_IL := [(0, .iload_n 1, 1), (1, .istore_n 3, 1), (2, .iload_n 3, 1), (3, .iload_n 2, 1), (4, .if_icmp .ge 105, 3), (7, .aload_n 0, 1)]
theorem aJ_61_0 : sx_iB prog_8_method_12_code aI_61_0 = true := by decide +kernel
def aI_61_1 : sx_IL := [(8, .iload_n 3, 1), (9, .iaload, 1), (10, .istore 4, 2), (12, .iload 4, 2), (14, .bipush 97, 2), (16, .if_icmp .lt 10, 3)]
theorem aJ_61_1 : sx_iB prog_8_method_12_code aI_61_1 = true := by decide +kernel
def aI_61_2 : sx_IL := [(19, .iload 4, 2), (21, .bipush 122, 2), (23, .if_icmp .le 24, 3), (26, .iload 4, 2), (28, .bipush 48, 2), (30, .if_icmp .lt 10, 3)]
theorem aJ_61_2 : sx_iB prog_8_method_12_code aI_61_2 = true := by decide +kernel
def aI_61_3 : sx_IL := [(33, .iload 4, 2), (35, .bipush 57, 2), (37, .if_icmp .le 10, 3), (40, .iload 4, 2), (42, .bipush 45, 2), (44, .if_icmp .ne 7, 3)]
theorem aJ_61_3 : sx_iB prog_8_method_12_code aI_61_3 = true := by decide +kernel
def aI_61_4 : sx_IL := [(47, .iconst 1, 1), (48, .goto 4, 3), (51, .iconst 0, 1), (52, .istore 5, 2), (54, .iload 4, 2), (56, .bipush 46, 2)]
theorem aJ_61_4 : sx_iB prog_8_method_12_code aI_61_4 = true := by decide +kernel
def aI_61_5 : sx_IL := [(58, .if_icmp .ne 22, 3), (61, .iload_n 3, 1), (62, .iload_n 1, 1), (63, .if_icmp .le 17, 3), (66, .aload_n 0, 1), (67, .iload_n 3, 1)]
theorem aJ_61_5 : sx_iB prog_8_method_12_code aI_61_5 = true := by decide +kernel
def aI_61_6 : sx_IL := [(68, .iconst 1, 1), (69, .isub, 1), (70, .iaload, 1), (71, .bipush 46, 2), (73, .if_icmp .eq 7, 3), (76, .iconst 1, 1)]
theorem aJ_61_6 : sx_iB prog_8_method_12_code aI_61_6 = true := by decide +kernel
def aI_61_7 : sx_IL := [(77, .goto 4, 3), (80, .iconst 0, 1), (81, .istore 6, 2), (83, .iload_n 3, 1), (84, .iload_n 1, 1), (85, .isub, 1)]
theorem aJ_61_7 : sx_iB prog_8_method_12_code aI_61_7 = true := by decide +kernel
def aI_61_8 : sx_IL := [(86, .bipush 40, 2), (88, .if_icmp .eq 13, 3), (91, .iload 5, 2), (93, .ifCond .ne 10, 3), (96, .iload 6, 2), (98, .ifCond .ne 5, 3)]
theorem aJ_61_8 : sx_iB prog_8_method_12_code aI_61_8 = true := by decide +kernel
def aI_61_9 : sx_IL := [(101, .iload_n 3, 1), (102, .ireturn, 1), (103, .iinc 3 1, 3), (106, .goto (-104), 3), (109, .iload_n 2, 1), (110, .iload_n 1, 1)]
theorem aJ_61_9 : sx_iB prog_8_method_12_code aI_61_9 = true := by decide +kernel
def aI_61_10 : sx_IL := [(111, .if_icmp .le 13, 3), (114, .aload_n 0, 1), (115, .iload_n 2, 1), (116, .iconst 1, 1), (117, .isub, 1), (118, .iaload, 1)]
theorem aJ_61_10 : sx_iB prog_8_method_12_code aI_61_10 = true := by decide +kernel
def aI_61_11 : sx_IL := [(119, .bipush 46, 2), (121, .if_icmp .ne 7, 3), (124, .iload_n 2, 1), (125, .goto 4, 3), (128, .iconst (-1), 1), (129, .ireturn, 1)]
theorem aJ_61_11 : sx_iB prog_8_method_12_code aI_61_11 = true := by decide +kernel
def aS_61 (pc : Nat) : sx_IL := (if pc < 68 then (if pc < 33 then (if pc < 8 then aI_61_0 else (if pc < 19 then aI_61_1 else aI_61_2)) else (if pc < 47 then aI_61_3 else (if pc < 58 then aI_61_4 else aI_61_5))) else (if pc < 101 then (if pc < 77 then aI_61_6 else (if pc < 86 then aI_61_7 else aI_61_8)) else (if pc < 111 then aI_61_9 else (if pc < 119 then aI_61_10 else aI_61_11))))
theorem aT_61 (pc : Nat) : sx_iOk prog_8_method_12_code (aS_61 pc) := (sx_ite (p := fun l => sx_iOk prog_8_method_12_code l) (sx_ite (p := fun l => sx_iOk prog_8_method_12_code l) (sx_ite (p := fun l => sx_iOk prog_8_method_12_code l) (sx_iB_s aJ_61_0) (sx_ite (p := fun l => sx_iOk prog_8_method_12_code l) (sx_iB_s aJ_61_1) (sx_iB_s aJ_61_2))) (sx_ite (p := fun l => sx_iOk prog_8_method_12_code l) (sx_iB_s aJ_61_3) (sx_ite (p := fun l => sx_iOk prog_8_method_12_code l) (sx_iB_s aJ_61_4) (sx_iB_s aJ_61_5)))) (sx_ite (p := fun l => sx_iOk prog_8_method_12_code l) (sx_ite (p := fun l => sx_iOk prog_8_method_12_code l) (sx_iB_s aJ_61_6) (sx_ite (p := fun l => sx_iOk prog_8_method_12_code l) (sx_iB_s aJ_61_7) (sx_iB_s aJ_61_8))) (sx_ite (p := fun l => sx_iOk prog_8_method_12_code l) (sx_iB_s aJ_61_9) (sx_ite (p := fun l => sx_iOk prog_8_method_12_code l) (sx_iB_s aJ_61_10) (sx_iB_s aJ_61_11)))))
def aW_61 : Nat → Option (Instr × Nat) := fun pc => sx_iF (aS_61 pc) pc
theorem aX_61 : ∀ pc i len, aW_61 pc = some (i, len) → decode aM_61.1.2.1 pc = .ok (i, len) := fun pc i len h => sx_iF_s (aT_61 pc) h
def aI_62_0 : sx_IL := [(0, .iload_n 1, 1), (1, .invokestatic 155, 3), (4, .ifCond .eq 10, 3), (7, .iload_n 2, 1), (8, .invokestatic 149, 3), (11, .ifCond .ne 5, 3)]
theorem aJ_62_0 : sx_iB prog_1_method_21_code aI_62_0 = true := by decide +kernel
def aI_62_1 : sx_IL := [(14, .iconst (-1), 1), (15, .ireturn, 1), (16, .aload_n 0, 1), (17, .getfield 21, 3), (20, .getfield 69, 3), (23, .bipush 10, 2)]
theorem aJ_62_1 : sx_iB prog_1_method_21_code aI_62_1 = true := by decide +kernel
def aI_62_2 : sx_IL := [(25, .iadd, 1), (26, .istore_n 3, 1), (27, .iload_n 3, 1), (28, .iload_n 3, 1), (29, .invokestatic 176, 3), (32, .iadd, 1)]
theorem aJ_62_2 : sx_iB prog_1_method_21_code aI_62_2 = true := by decide +kernel
def aI_62_3 : sx_IL := [(33, .sipush 800, 3), (36, .if_icmp .le 6, 3), (39, .bipush (-3), 2), (41, .ireturn, 1), (42, .aload_n 0, 1), (43, .getfield 10, 3)]
theorem aJ_62_3 : sx_iB prog_1_method_21_code aI_62_3 = true := by decide +kernel
def aI_62_4 : sx_IL := [(46, .getfield 179, 3), (49, .astore 4, 2), (51, .aload_n 0, 1), (52, .getfield 10, 3), (55, .aload_n 0, 1), (56, .getfield 21, 3)]
theorem aJ_62_4 : sx_iB prog_1_method_21_code aI_62_4 = true := by decide +kernel
def aI_62_5 : sx_IL := [(59, .iload_n 1, 1), (60, .iload_n 2, 1), (61, .aload 4, 2), (63, .invokevirtual 182, 3), (66, .aload_n 0, 1), (67, .getfield 21, 3)]
theorem aJ_62_5 : sx_iB prog_1_method_21_code aI_62_5 = true := by decide +kernel
def aI_62_6 : sx_IL := [(70, .invokevirtual 108, 3), (73, .aload_n 0, 1), (74, .getfield 21, 3), (77, .aload 4, 2), (79, .getfield 80, 3), (82, .iconst 0, 1)]
theorem aJ_62_6 : sx_iB prog_1_method_21_code aI_62_6 = true := by decide +kernel
def aI_62_7 : sx_IL := [(83, .aload 4, 2), (85, .getfield 69, 3), (88, .invokevirtual 83, 3), (91, .aload_n 0, 1), (92, .getfield 21, 3), (95, .getfield 69, 3)]
theorem aJ_62_7 : sx_iB prog_1_method_21_code aI_62_7 = true := by decide +kernel
def aI_62_8 : sx_IL := [(98, .ireturn, 1)]
theorem aJ_62_8 : sx_iB prog_1_method_21_code aI_62_8 = true := by decide +kernel
def aS_62 (pc : Nat) : sx_IL := (if pc < 46 then (if pc < 25 then (if pc < 14 then aI_62_0 else aI_62_1) else (if pc < 33 then aI_62_2 else aI_62_3)) else (if pc < 70 then (if pc < 59 then aI_62_4 else aI_62_5) else (if pc < 83 then aI_62_6 else (if pc < 98 then aI_62_7 else aI_62_8))))
theorem aT_62 (pc : Nat) : sx_iOk prog_1_method_21_code (aS_62 pc) := (sx_ite (p := fun l => sx_iOk prog_1_method_21_code l) (sx_ite (p := fun l => sx_iOk prog_1_method_21_code l) (sx_ite (p := fun l => sx_iOk prog_1_method_21_code l) (sx_iB_s aJ_62_0) (sx_iB_s aJ_62_1)) (sx_ite (p := fun l => sx_iOk prog_1_method_21_code l) (sx_iB_s aJ_62_2) (sx_iB_s aJ_62_3))) (sx_ite (p := fun l => sx_iOk prog_1_method_21_code l) (sx_ite (p := fun l => sx_iOk prog_1_method_21_code l) (sx_iB_s aJ_62_4) (sx_iB_s aJ_62_5)) (sx_ite (p := fun l => sx_iOk prog_1_method_21_code l) (sx_iB_s aJ_62_6) (sx_ite (p := fun l => sx_iOk prog_1_method_21_code l) (sx_iB_s aJ_62_7) (sx_iB_s aJ_62_8)))))
def aW_62 : Nat → Option (Instr × Nat) := fun pc => sx_iF (aS_62 pc) pc
theorem aX_62 : ∀ pc i len, aW_62 pc = some (i, len) → decode aM_62.1.2.1 pc = .ok (i, len) := fun pc i len h => sx_iF_s (aT_62 pc) h
def aI_63_0 : sx_IL := [(0, .iload_n 0, 1), (1, .sipush 128, 3), (4, .if_icmp .ge 7, 3), (7, .iconst 2, 1), (8, .goto 15, 3), (11, .iload_n 0, 1)]
theorem aJ_63_0 : sx_iB prog_9_method_14_code aI_63_0 = true := by decide +kernel
def aI_63_1 : sx_IL := [(12, .sipush 256, 3), (15, .if_icmp .ge 7, 3), (18, .iconst 3, 1), (19, .goto 4, 3), (22, .iconst 4, 1), (23, .ireturn, 1)]
theorem aJ_63_1 : sx_iB prog_9_method_14_code aI_63_1 = true := by decide +kernel
def aS_63 (pc : Nat) : sx_IL := (if pc < 12 then aI_63_0 else aI_63_1)
theorem aT_63 (pc : Nat) : sx_iOk prog_9_method_14_code (aS_63 pc) := (sx_ite (p := fun l => sx_iOk prog_9_method_14_code l) (sx_iB_s aJ_63_0) (sx_iB_s aJ_63_1))
def aW_63 : Nat → Option (Instr × Nat) := fun pc => sx_iF (aS_63 pc) pc
theorem aX_63 : ∀ pc i len, aW_63 pc = some (i, len) → decode aM_63.1.2.1 pc = .ok (i, len) := fun pc i len h => sx_iF_s (aT_63 pc) h
def aI_64_0 : sx_IL := [(0, .aload_n 0, 1), (1, .getfield 12, 3), (4, .iload_n 2, 1), (5, .iload_n 3, 1), (6, .aload_n 1, 1), (7, .getfield 73, 3)]
theorem aJ_64_0 : sx_iB prog_5_method_2_code aI_64_0 = true := by decide +kernel
def aI_64_1 : sx_IL := [(10, .iconst 0, 1), (11, .aload_n 1, 1), (12, .getfield 76, 3), (15, .invokevirtual 80, 3), (18, .lstore 5, 2), (20, .aload 4, 2)]
theorem aJ_64_1 : sx_iB prog_5_method_2_code aI_64_1 = true := by decide +kernel
def aI_64_2 : sx_IL := [(22, .invokevirtual 84, 3), (25, .aload 4, 2), (27, .bipush 48, 2), (29, .aload_n 1, 1), (30, .getfield 76, 3), (33, .bipush 10, 2)]
theorem aJ_64_2 : sx_iB prog_5_method_2_code aI_64_2 = true := by decide +kernel
def aI_64_3 : sx_IL := [(35, .iadd, 1), (36, .invokevirtual 87, 3), (39, .aload 4, 2), (41, .aload_n 1, 1), (42, .getfield 73, 3), (45, .iconst 0, 1)]
theorem aJ_64_3 : sx_iB prog_5_method_2_code aI_64_3 = true := by decide +kernel
def aI_64_4 : sx_IL := [(46, .aload_n 1, 1), (47, .getfield 76, 3), (50, .invokevirtual 91, 3), (53, .aload 4, 2), (55, .iconst 4, 1), (56, .bipush 8, 2)]
theorem aJ_64_4 : sx_iB prog_5_method_2_code aI_64_4 = true := by decide +kernel
def aI_64_5 : sx_IL := [(58, .invokevirtual 87, 3), (61, .aload 4, 2), (63, .lload 5, 2), (65, .invokevirtual 95, 3), (68, .return_, 1)]
theorem aJ_64_5 : sx_iB prog_5_method_2_code aI_64_5 = true := by decide +kernel
def aS_64 (pc : Nat) : sx_IL := (if pc < 35 then (if pc < 10 then aI_64_0 else (if pc < 22 then aI_64_1 else aI_64_2)) else (if pc < 46 then aI_64_3 else (if pc < 58 then aI_64_4 else aI_64_5)))
theorem aT_64 (pc : Nat) : sx_iOk prog_5_method_2_code (aS_64 pc) := (sx_ite (p := fun l => sx_iOk prog_5_method_2_code l) (sx_ite (p := fun l => sx_iOk prog_5_method_2_code l) (sx_iB_s aJ_64_0) (sx_ite (p := fun l => sx_iOk prog_5_method_2_code l) (sx_iB_s aJ_64_1) (sx_iB_s aJ_64_2))) (sx_ite (p := fun l => sx_iOk prog_5_method_2_code l) (sx_iB_s aJ_64_3) (sx_ite (p := fun l => sx_iOk prog_5_method_2_code l) (sx_iB_s aJ_64_4) (sx_iB_s aJ_64_5))))
def aW_64 : Nat → Option (Instr × Nat) := fun pc => sx_iF (aS_64 pc) pc
theorem aX_64 : ∀ pc i len, aW_64 pc = some (i, len) → decode aM_64.1.2.1 pc = .ok (i, len) := fun pc i len h => sx_iF_s (aT_64 pc) h
def aI_65_0 : sx_IL := [(0, .aload_n 0, 1), (1, .iload_n 1, 1), (2, .invokevirtual 39, 3), (5, .iload_n 2, 1), (6, .sipush 128, 3), (9, .if_icmp .ge 11, 3)]
theorem aJ_65_0 : sx_iB prog_9_method_15_code aI_65_0 = true := by decide +kernel
def aI_65_1 : sx_IL := [(12, .aload_n 0, 1), (13, .iload_n 2, 1), (14, .invokevirtual 39, 3), (17, .goto 45, 3), (20, .iload_n 2, 1), (21, .sipush 256, 3)]
theorem aJ_65_1 : sx_iB prog_9_method_15_code aI_65_1 = true := by decide +kernel
def aI_65_2 : sx_IL := [(24, .if_icmp .ge 18, 3), (27, .aload_n 0, 1), (28, .sipush 129, 3), (31, .invokevirtual 39, 3), (34, .aload_n 0, 1), (35, .iload_n 2, 1)]
theorem aJ_65_2 : sx_iB prog_9_method_15_code aI_65_2 = true := by decide +kernel
def aI_65_3 : sx_IL := [(36, .invokevirtual 39, 3), (39, .goto 23, 3), (42, .aload_n 0, 1), (43, .sipush 130, 3), (46, .invokevirtual 39, 3), (49, .aload_n 0, 1)]
theorem aJ_65_3 : sx_iB prog_9_method_15_code aI_65_3 = true := by decide +kernel
def aI_65_4 : sx_IL := [(50, .iload_n 2, 1), (51, .bipush 8, 2), (53, .iushr, 1), (54, .invokevirtual 39, 3), (57, .aload_n 0, 1), (58, .iload_n 2, 1)]
theorem aJ_65_4 : sx_iB prog_9_method_15_code aI_65_4 = true := by decide +kernel
def aI_65_5 : sx_IL := [(59, .invokevirtual 39, 3), (62, .return_, 1)]
theorem aJ_65_5 : sx_iB prog_9_method_15_code aI_65_5 = true := by decide +kernel
def aS_65 (pc : Nat) : sx_IL := (if pc < 36 then (if pc < 12 then aI_65_0 else (if pc < 24 then aI_65_1 else aI_65_2)) else (if pc < 50 then aI_65_3 else (if pc < 59 then aI_65_4 else aI_65_5)))
theorem aT_65 (pc : Nat) : sx_iOk prog_9_method_15_code (aS_65 pc) := (sx_ite (p := fun l => sx_iOk prog_9_method_15_code l) (sx_ite (p := fun l => sx_iOk prog_9_method_15_code l) (sx_iB_s aJ_65_0) (sx_ite (p := fun l => sx_iOk prog_9_method_15_code l) (sx_iB_s aJ_65_1) (sx_iB_s aJ_65_2))) (sx_ite (p := fun l => sx_iOk prog_9_method_15_code l) (sx_iB_s aJ_65_3) (sx_ite (p := fun l => sx_iOk prog_9_method_15_code l) (sx_iB_s aJ_65_4) (sx_iB_s aJ_65_5))))
def aW_65 : Nat → Option (Instr × Nat) := fun pc => sx_iF (aS_65 pc) pc
theorem aX_65 : ∀ pc i len, aW_65 pc = some (i, len) → decode aM_65.1.2.1 pc = .ok (i, len) := fun pc i len h => sx_iF_s (aT_65 pc) h
def aI_66_0 : sx_IL := [(0, .bipush 56, 2), (2, .istore_n 3, 1), (3, .iload_n 3, 1), (4, .ifCond .lt 17, 3), (7, .aload_n 0, 1), (8, .lload_n 1, 1)]
theorem aJ_66_0 : sx_iB prog_9_method_10_code aI_66_0 = true := by decide +kernel
def aI_66_1 : sx_IL := [(9, .iload_n 3, 1), (10, .lushr, 1), (11, .l2i, 1), (12, .invokevirtual 39, 3), (15, .iinc 3 (-8), 3), (18, .goto (-15), 3)]
theorem aJ_66_1 : sx_iB prog_9_method_10_code aI_66_1 = true := by decide +kernel
def aI_66_2 : sx_IL := [(21, .return_, 1)]
theorem aJ_66_2 : sx_iB prog_9_method_10_code aI_66_2 = true := by decide +kernel
def aS_66 (pc : Nat) : sx_IL := (if pc < 9 then aI_66_0 else (if pc < 21 then aI_66_1 else aI_66_2))
theorem aT_66 (pc : Nat) : sx_iOk prog_9_method_10_code (aS_66 pc) := (sx_ite (p := fun l => sx_iOk prog_9_method_10_code l) (sx_iB_s aJ_66_0) (sx_ite (p := fun l => sx_iOk prog_9_method_10_code l) (sx_iB_s aJ_66_1) (sx_iB_s aJ_66_2)))
def aW_66 : Nat → Option (Instr × Nat) := fun pc => sx_iF (aS_66 pc) pc
theorem aX_66 : ∀ pc i len, aW_66 pc = some (i, len) → decode aM_66.1.2.1 pc = .ok (i, len) := fun pc i len h => sx_iF_s (aT_66 pc) h
def aI_67_0 : sx_IL := [(0, .aload_n 0, 1), (1, .iconst 0, 1), (2, .invokevirtual 186, 3), (5, .ireturn, 1)]
theorem aJ_67_0 : sx_iB prog_1_method_22_code aI_67_0 = true := by decide +kernel
def aS_67 (pc : Nat) : sx_IL := aI_67_0
theorem aT_67 (pc : Nat) : sx_iOk prog_1_method_22_code (aS_67 pc) := (sx_iB_s aJ_67_0)
def aW_67 : Nat → Option (Instr × Nat) := fun pc => sx_iF (aS_67 pc) pc
theorem aX_67 : ∀ pc i len, aW_67 pc = some (i, len) → decode aM_67.1.2.1 pc = .ok (i, len) := fun pc i len h => sx_iF_s (aT_67 pc) h
def aI_68_0 : sx_IL := [(0, .aload_n 0, 1), (1, .getfield 21, 3), (4, .getfield 80, 3), (7, .iconst 0, 1), (8, .aload_n 0, 1), (9, .getfield 21, 3)]
theorem aJ_68_0 : sx_iB prog_1_method_25_code aI_68_0 = true := by decide +kernel
def aI_68_1 : sx_IL := [(12, .getfield 69, 3), (15, .aload_n 0, 1), (16, .getfield 10, 3), (19, .getfield 167, 3), (22, .invokestatic 170, 3), (25, .istore_n 2, 1)]
theorem aJ_68_1 : sx_iB prog_1_method_25_code aI_68_1 = true := by decide +kernel
def aI_68_2 : sx_IL := [(26, .iload_n 2, 1), (27, .ifCond .lt 10, 3), (30, .bipush (-10), 2), (32, .iload_n 2, 1), (33, .isub, 1), (34, .goto 15, 3)]
theorem aJ_68_2 : sx_iB prog_1_method_25_code aI_68_2 = true := by decide +kernel
def aI_68_3 : sx_IL := [(37, .aload_n 0, 1), (38, .getfield 10, 3), (41, .iload_n 1, 1), (42, .aload_n 0, 1), (43, .getfield 21, 3), (46, .invokevirtual 189, 3)]
theorem aJ_68_3 : sx_iB prog_1_method_25_code aI_68_3 = true := by decide +kernel
def aI_68_4 : sx_IL := [(49, .istore_n 3, 1), (50, .iload_n 3, 1), (51, .bipush (-3), 2), (53, .if_icmp .eq 10, 3), (56, .aload_n 0, 1), (57, .getfield 21, 3)]
theorem aJ_68_4 : sx_iB prog_1_method_25_code aI_68_4 = true := by decide +kernel
def aI_68_5 : sx_IL := [(60, .invokevirtual 108, 3), (63, .iload_n 3, 1), (64, .ireturn, 1)]
theorem aJ_68_5 : sx_iB prog_1_method_25_code aI_68_5 = true := by decide +kernel
def aS_68 (pc : Nat) : sx_IL := (if pc < 37 then (if pc < 12 then aI_68_0 else (if pc < 26 then aI_68_1 else aI_68_2)) else (if pc < 49 then aI_68_3 else (if pc < 60 then aI_68_4 else aI_68_5)))
theorem aT_68 (pc : Nat) : sx_iOk prog_1_method_25_code (aS_68 pc) := (sx_ite (p := fun l => sx_iOk prog_1_method_25_code l) (sx_ite (p := fun l => sx_iOk prog_1_method_25_code l) (sx_iB_s aJ_68_0) (sx_ite (p := fun l => sx_iOk prog_1_method_25_code l) (sx_iB_s aJ_68_1) (sx_iB_s aJ_68_2))) (sx_ite (p := fun l => sx_iOk prog_1_method_25_code l) (sx_iB_s aJ_68_3) (sx_ite (p := fun l => sx_iOk prog_1_method_25_code l) (sx_iB_s aJ_68_4) (sx_iB_s aJ_68_5))))
def aW_68 : Nat → Option (Instr × Nat) := fun pc => sx_iF (aS_68 pc) pc
theorem aX_68 : ∀ pc i len, aW_68 pc = some (i, len) → decode aM_68.1.2.1 pc = .ok (i, len) := fun pc i len h => sx_iF_s (aT_68 pc) h
def aI_69_0 : sx_IL := [(0, .aload_n 0, 1), (1, .getfield 60, 3), (4, .iload_n 1, 1), (5, .aload_n 2, 1), (6, .getfield 73, 3), (9, .iconst 0, 1)]
theorem aJ_69_0 : sx_iB prog_5_method_3_code aI_69_0 = true := by decide +kernel
def aI_69_1 : sx_IL := [(10, .aload_n 2, 1), (11, .getfield 76, 3), (14, .invokevirtual 99, 3), (17, .ifCond .ne 6, 3), (20, .bipush (-9), 2), (22, .ireturn, 1)]
theorem aJ_69_1 : sx_iB prog_5_method_3_code aI_69_1 = true := by decide +kernel
def aI_69_2 : sx_IL := [(23, .iconst 0, 1), (24, .istore_n 3, 1), (25, .iload_n 1, 1), (26, .ifCond .ne 35, 3), (29, .iload_n 3, 1), (30, .aload_n 0, 1)]
theorem aJ_69_2 : sx_iB prog_5_method_3_code aI_69_2 = true := by decide +kernel
def aI_69_3 : sx_IL := [(31, .getfield 103, 3), (34, .if_icmp .ge 27, 3), (37, .aload_n 0, 1), (38, .getfield 49, 3), (41, .iload_n 3, 1), (42, .aaload, 1)]
theorem aJ_69_3 : sx_iB prog_5_method_3_code aI_69_3 = true := by decide +kernel
def aI_69_4 : sx_IL := [(43, .aload_n 0, 1), (44, .getfield 60, 3), (47, .invokevirtual 106, 3), (50, .ifCond .eq 5, 3), (53, .iload_n 3, 1), (54, .ireturn, 1)]
theorem aJ_69_4 : sx_iB prog_5_method_3_code aI_69_4 = true := by decide +kernel
def aI_69_5 : sx_IL := [(55, .iinc 3 1, 3), (58, .goto (-33), 3), (61, .iload_n 1, 1), (62, .ifCond .ne 10, 3), (65, .aload_n 0, 1), (66, .getfield 103, 3)]
theorem aJ_69_5 : sx_iB prog_5_method_3_code aI_69_5 = true := by decide +kernel
def aI_69_6 : sx_IL := [(69, .goto 19, 3), (72, .iload_n 1, 1), (73, .iconst 1, 1), (74, .if_icmp .ne 10, 3), (77, .aload_n 0, 1), (78, .getfield 110, 3)]
theorem aJ_69_6 : sx_iB prog_5_method_3_code aI_69_6 = true := by decide +kernel
def aI_69_7 : sx_IL := [(81, .goto 7, 3), (84, .aload_n 0, 1), (85, .getfield 113, 3), (88, .istore_n 3, 1), (89, .iload_n 3, 1), (90, .iload_n 1, 1)]
theorem aJ_69_7 : sx_iB prog_5_method_3_code aI_69_7 = true := by decide +kernel
def aI_69_8 : sx_IL := [(91, .ifCond .ne 8, 3), (94, .bipush 30, 2), (96, .goto 5, 3), (99, .bipush 12, 2), (101, .if_icmp .lt 6, 3), (104, .bipush (-3), 2)]
theorem aJ_69_8 : sx_iB prog_5_method_3_code aI_69_8 = true := by decide +kernel
def aI_69_9 : sx_IL := [(106, .ireturn, 1), (107, .new 47, 3), (110, .dup, 1), (111, .aload_n 2, 1), (112, .getfield 76, 3), (115, .invokespecial 59, 3)]
theorem aJ_69_9 : sx_iB prog_5_method_3_code aI_69_9 = true := by decide +kernel
def aI_69_10 : sx_IL := [(118, .astore 4, 2), (120, .aload 4, 2), (122, .iload_n 1, 1), (123, .aload_n 2, 1), (124, .getfield 73, 3), (127, .iconst 0, 1)]
theorem aJ_69_10 : sx_iB prog_5_method_3_code aI_69_10 = true := by decide +kernel
def aI_69_11 : sx_IL := [(128, .aload_n 2, 1), (129, .getfield 76, 3), (132, .invokevirtual 99, 3), (135, .pop, 1), (136, .aload 4, 2), (138, .bipush 30, 2)]
theorem aJ_69_11 : sx_iB prog_5_method_3_code aI_69_11 = true := by decide +kernel
def aI_69_12 : sx_IL := [(140, .newarray .int, 2), (142, .putfield 116, 3), (145, .iload_n 1, 1), (146, .ifCond .ne 30, 3), (149, .aload 4, 2), (151, .iload_n 3, 1)]
theorem aJ_69_12 : sx_iB prog_5_method_3_code aI_69_12 = true := by decide +kernel
def aI_69_13 : sx_IL := [(152, .putfield 119, 3), (155, .aload_n 0, 1), (156, .getfield 49, 3), (159, .iload_n 3, 1), (160, .aload 4, 2), (162, .aastore, 1)]
theorem aJ_69_13 : sx_iB prog_5_method_3_code aI_69_13 = true := by decide +kernel
def aI_69_14 : sx_IL := [(163, .aload_n 0, 1), (164, .dup, 1), (165, .getfield 103, 3), (168, .iconst 1, 1), (169, .iadd, 1), (170, .putfield 103, 3)]
theorem aJ_69_14 : sx_iB prog_5_method_3_code aI_69_14 = true := by decide +kernel
def aI_69_15 : sx_IL := [(173, .goto 47, 3), (176, .iload_n 1, 1), (177, .iconst 1, 1), (178, .if_icmp .ne 24, 3), (181, .aload_n 0, 1), (182, .getfield 53, 3)]
theorem aJ_69_15 : sx_iB prog_5_method_3_code aI_69_15 = true := by decide +kernel
def aI_69_16 : sx_IL := [(185, .iload_n 3, 1), (186, .aload 4, 2), (188, .aastore, 1), (189, .aload_n 0, 1), (190, .dup, 1), (191, .getfield 110, 3)]
theorem aJ_69_16 : sx_iB prog_5_method_3_code aI_69_16 = true := by decide +kernel
def aI_69_17 : sx_IL := [(194, .iconst 1, 1), (195, .iadd, 1), (196, .putfield 110, 3), (199, .goto 21, 3), (202, .aload_n 0, 1), (203, .getfield 56, 3)]
theorem aJ_69_17 : sx_iB prog_5_method_3_code aI_69_17 = true := by decide +kernel
def aI_69_18 : sx_IL := [(206, .iload_n 3, 1), (207, .aload 4, 2), (209, .aastore, 1), (210, .aload_n 0, 1), (211, .dup, 1), (212, .getfield 113, 3)]
theorem aJ_69_18 : sx_iB prog_5_method_3_code aI_69_18 = true := by decide +kernel
def aI_69_19 : sx_IL := [(215, .iconst 1, 1), (216, .iadd, 1), (217, .putfield 113, 3), (220, .iload_n 3, 1), (221, .ireturn, 1)]
theorem aJ_69_19 : sx_iB prog_5_method_3_code aI_69_19 = true := by decide +kernel
def aS_69 (pc : Nat) : sx_IL := (if pc < 118 then (if pc < 55 then (if pc < 23 then (if pc < 10 then aI_69_0 else aI_69_1) else (if pc < 31 then aI_69_2 else (if pc < 43 then aI_69_3 else aI_69_4))) else (if pc < 81 then (if pc < 69 then aI_69_5 else aI_69_6) else (if pc < 91 then aI_69_7 else (if pc < 106 then aI_69_8 else aI_69_9)))) else (if pc < 173 then (if pc < 140 then (if pc < 128 then aI_69_10 else aI_69_11) else (if pc < 152 then aI_69_12 else (if pc < 163 then aI_69_13 else aI_69_14))) else (if pc < 194 then (if pc < 185 then aI_69_15 else aI_69_16) else (if pc < 206 then aI_69_17 else (if pc < 215 then aI_69_18 else aI_69_19)))))
theorem aT_69 (pc : Nat) : sx_iOk prog_5_method_3_code (aS_69 pc) := (sx_ite (p := fun l => sx_iOk prog_5_method_3_code l) (sx_ite (p := fun l => sx_iOk prog_5_method_3_code l) (sx_ite (p := fun l => sx_iOk prog_5_method_3_code l) (sx_ite (p := fun l => sx_iOk prog_5_method_3_code l) (sx_iB_s aJ_69_0) (sx_iB_s aJ_69_1)) (sx_ite (p := fun l => sx_iOk prog_5_method_3_code l) (sx_iB_s aJ_69_2) (sx_ite (p := fun l => sx_iOk prog_5_method_3_code l) (sx_iB_s aJ_69_3) (sx_iB_s aJ_69_4)))) (sx_ite (p := fun l => sx_iOk prog_5_method_3_code l) (sx_ite (p := fun l => sx_iOk prog_5_method_3_code l) (sx_iB_s aJ_69_5) (sx_iB_s aJ_69_6)) (sx_ite (p := fun l => sx_iOk prog_5_method_3_code l) (sx_iB_s aJ_69_7) (sx_ite (p := fun l => sx_iOk prog_5_method_3_code l) (sx_iB_s aJ_69_8) (sx_iB_s aJ_69_9))))) (sx_ite (p := fun l => sx_iOk prog_5_method_3_code l) (sx_ite (p := fun l => sx_iOk prog_5_method_3_code l) (sx_ite (p := fun l => sx_iOk prog_5_method_3_code l) (sx_iB_s aJ_69_10) (sx_iB_s aJ_69_11)) (sx_ite (p := fun l => sx_iOk prog_5_method_3_code l) (sx_iB_s aJ_69_12) (sx_ite (p := fun l => sx_iOk prog_5_method_3_code l) (sx_iB_s aJ_69_13) (sx_iB_s aJ_69_14)))) (sx_ite (p := fun l => sx_iOk prog_5_method_3_code l) (sx_ite (p := fun l => sx_iOk prog_5_method_3_code l) (sx_iB_s aJ_69_15) (sx_iB_s aJ_69_16)) (sx_ite (p := fun l => sx_iOk prog_5_method_3_code l) (sx_iB_s aJ_69_17) (sx_ite (p := fun l => sx_iOk prog_5_method_3_code l) (sx_iB_s aJ_69_18) (sx_iB_s aJ_69_19))))))
def aW_69 : Nat → Option (Instr × Nat) := fun pc => sx_iF (aS_69 pc) pc
theorem aX_69 : ∀ pc i len, aW_69 pc = some (i, len) → decode aM_69.1.2.1 pc = .ok (i, len) := fun pc i len h => sx_iF_s (aT_69 pc) h
def aI_70_0 : sx_IL := [(0, .iload 4, 2), (2, .iconst 1, 1), (3, .if_icmp .lt 34, 3), (6, .iload 4, 2), (8, .sipush 400, 3), (11, .if_icmp .gt 26, 3)]
theorem aJ_70_0 : sx_iB prog_8_method_18_code aI_70_0 = true := by decide +kernel
def aI_70_1 : sx_IL := [(14, .iload 4, 2), (16, .aload_n 0, 1), (17, .getfield 28, 3), (20, .arraylength, 1), (21, .if_icmp .gt 16, 3), (24, .iload_n 3, 1)]
theorem aJ_70_1 : sx_iB prog_8_method_18_code aI_70_1 = true := by decide +kernel
def aI_70_2 : sx_IL := [(25, .ifCond .lt 12, 3), (28, .iload_n 3, 1), (29, .iload 4, 2), (31, .iadd, 1), (32, .aload_n 2, 1), (33, .arraylength, 1)]
theorem aJ_70_2 : sx_iB prog_8_method_18_code aI_70_2 = true := by decide +kernel
def aI_70_3 : sx_IL := [(34, .if_icmp .le 5, 3), (37, .iconst 0, 1), (38, .ireturn, 1), (39, .aload_n 2, 1), (40, .iload_n 3, 1), (41, .aload_n 0, 1)]
theorem aJ_70_3 : sx_iB prog_8_method_18_code aI_70_3 = true := by decide +kernel
def aI_70_4 : sx_IL := [(42, .getfield 28, 3), (45, .iconst 0, 1), (46, .iload 4, 2), (48, .invokestatic 68, 3), (51, .aload_n 0, 1), (52, .getfield 9, 3)]
theorem aJ_70_4 : sx_iB prog_8_method_18_code aI_70_4 = true := by decide +kernel
def aI_70_5 : sx_IL := [(55, .iconst 0, 1), (56, .invokestatic 74, 3), (59, .aload_n 0, 1), (60, .getfield 9, 3), (63, .bipush 6, 2), (65, .bipush (-4), 2)]
theorem aJ_70_5 : sx_iB prog_8_method_18_code aI_70_5 = true := by decide +kernel
def aI_70_6 : sx_IL := [(67, .iastore, 1), (68, .aload_n 0, 1), (69, .getfield 9, 3), (72, .bipush 7, 2), (74, .bipush 15, 2), (76, .iastore, 1)]
theorem aJ_70_6 : sx_iB prog_8_method_18_code aI_70_6 = true := by decide +kernel
def aI_70_7 : sx_IL := [(77, .aload_n 0, 1), (78, .getfield 9, 3), (81, .bipush 11, 2), (83, .iload 4, 2), (85, .iastore, 1), (86, .aload_n 0, 1)]
theorem aJ_70_7 : sx_iB prog_8_method_18_code aI_70_7 = true := by decide +kernel
def aI_70_8 : sx_IL := [(87, .iconst 0, 1), (88, .putfield 80, 3), (91, .aload_n 0, 1), (92, .bipush 48, 2), (94, .iload 4, 2), (96, .invokevirtual 83, 3)]
theorem aJ_70_8 : sx_iB prog_8_method_18_code aI_70_8 = true := by decide +kernel
def aI_70_9 : sx_IL := [(99, .istore 5, 2), (101, .aload_n 0, 1), (102, .getfield 80, 3), (105, .istore 6, 2), (107, .aload_n 0, 1), (108, .bipush 48, 2)]
theorem aJ_70_9 : sx_iB prog_8_method_18_code aI_70_9 = true := by decide +kernel
def aI_70_10 : sx_IL := [(110, .iload 5, 2), (112, .invokevirtual 83, 3), (115, .istore 7, 2), (117, .iload 7, 2), (119, .ifCond .lt 22, 3), (122, .aload_n 0, 1)]
theorem aJ_70_10 : sx_iB prog_8_method_18_code aI_70_10 = true := by decide +kernel
def aI_70_11 : sx_IL := [(123, .iload_n 1, 1), (124, .iload 7, 2), (126, .invokevirtual 86, 3), (129, .ifCond .eq 12, 3), (132, .aload_n 0, 1), (133, .getfield 80, 3)]
theorem aJ_70_11 : sx_iB prog_8_method_18_code aI_70_11 = true := by decide +kernel
def aI_70_12 : sx_IL := [(136, .iload 7, 2), (138, .if_icmp .eq 5, 3), (141, .iconst 0, 1), (142, .ireturn, 1), (143, .aload_n 0, 1), (144, .iconst 2, 1)]
theorem aJ_70_12 : sx_iB prog_8_method_18_code aI_70_12 = true := by decide +kernel
def aI_70_13 : sx_IL := [(145, .iload 6, 2), (147, .iload 7, 2), (149, .invokevirtual 90, 3), (152, .aload_n 0, 1), (153, .iconst 4, 1), (154, .iload 5, 2)]
theorem aJ_70_13 : sx_iB prog_8_method_18_code aI_70_13 = true := by decide +kernel
def aI_70_14 : sx_IL := [(156, .invokevirtual 83, 3), (159, .istore 8, 2), (161, .iload 8, 2), (163, .iload 5, 2), (165, .if_icmp .ne 15, 3), (168, .iload 8, 2)]
theorem aJ_70_14 : sx_iB prog_8_method_18_code aI_70_14 = true := by decide +kernel
def aI_70_15 : sx_IL := [(170, .aload_n 0, 1), (171, .getfield 80, 3), (174, .isub, 1), (175, .bipush 8, 2), (177, .if_icmp .eq 5, 3), (180, .iconst 0, 1)]
theorem aJ_70_15 : sx_iB prog_8_method_18_code aI_70_15 = true := by decide +kernel
def aI_70_16 : sx_IL := [(181, .ireturn, 1), (182, .aload_n 0, 1), (183, .aload_n 0, 1), (184, .aload_n 0, 1), (185, .getfield 80, 3), (188, .invokevirtual 94, 3)]
theorem aJ_70_16 : sx_iB prog_8_method_18_code aI_70_16 = true := by decide +kernel
def aI_70_17 : sx_IL := [(191, .i2l, 1), (192, .bipush 32, 2), (194, .lshl, 1), (195, .aload_n 0, 1), (196, .aload_n 0, 1), (197, .getfield 80, 3)]
theorem aJ_70_17 : sx_iB prog_8_method_18_code aI_70_17 = true := by decide +kernel
def aI_70_18 : sx_IL := [(200, .iconst 4, 1), (201, .iadd, 1), (202, .invokevirtual 94, 3), (205, .i2l, 1), (206, .ldc2_w 97, 3), (209, .land, 1)]
theorem aJ_70_18 : sx_iB prog_8_method_18_code aI_70_18 = true := by decide +kernel
def aI_70_19 : sx_IL := [(210, .lor, 1), (211, .putfield 99, 3), (214, .iconst 1, 1), (215, .ireturn, 1)]
theorem aJ_70_19 : sx_iB prog_8_method_18_code aI_70_19 = true := by decide +kernel
def aS_70 (pc : Nat) : sx_IL := (if pc < 110 then (if pc < 55 then (if pc < 25 then (if pc < 14 then aI_70_0 else aI_70_1) else (if pc < 34 then aI_70_2 else (if pc < 42 then aI_70_3 else aI_70_4))) else (if pc < 77 then (if pc < 67 then aI_70_5 else aI_70_6) else (if pc < 87 then aI_70_7 else (if pc < 99 then aI_70_8 else aI_70_9)))) else (if pc < 170 then (if pc < 136 then (if pc < 123 then aI_70_10 else aI_70_11) else (if pc < 145 then aI_70_12 else (if pc < 156 then aI_70_13 else aI_70_14))) else (if pc < 191 then (if pc < 181 then aI_70_15 else aI_70_16) else (if pc < 200 then aI_70_17 else (if pc < 210 then aI_70_18 else aI_70_19)))))
theorem aT_70 (pc : Nat) : sx_iOk prog_8_method_18_code (aS_70 pc) := (sx_ite (p := fun l => sx_iOk prog_8_method_18_code l) (sx_ite (p := fun l => sx_iOk prog_8_method_18_code l) (sx_ite (p := fun l => sx_iOk prog_8_method_18_code l) (sx_ite (p := fun l => sx_iOk prog_8_method_18_code l) (sx_iB_s aJ_70_0) (sx_iB_s aJ_70_1)) (sx_ite (p := fun l => sx_iOk prog_8_method_18_code l) (sx_iB_s aJ_70_2) (sx_ite (p := fun l => sx_iOk prog_8_method_18_code l) (sx_iB_s aJ_70_3) (sx_iB_s aJ_70_4)))) (sx_ite (p := fun l => sx_iOk prog_8_method_18_code l) (sx_ite (p := fun l => sx_iOk prog_8_method_18_code l) (sx_iB_s aJ_70_5) (sx_iB_s aJ_70_6)) (sx_ite (p := fun l => sx_iOk prog_8_method_18_code l) (sx_iB_s aJ_70_7) (sx_ite (p := fun l => sx_iOk prog_8_method_18_code l) (sx_iB_s aJ_70_8) (sx_iB_s aJ_70_9))))) (sx_ite (p := fun l => sx_iOk prog_8_method_18_code l) (sx_ite (p := fun l => sx_iOk prog_8_method_18_code l) (sx_ite (p := fun l => sx_iOk prog_8_method_18_code l) (sx_iB_s aJ_70_10) (sx_iB_s aJ_70_11)) (sx_ite (p := fun l => sx_iOk prog_8_method_18_code l) (sx_iB_s aJ_70_12) (sx_ite (p := fun l => sx_iOk prog_8_method_18_code l) (sx_iB_s aJ_70_13) (sx_iB_s aJ_70_14)))) (sx_ite (p := fun l => sx_iOk prog_8_method_18_code l) (sx_ite (p := fun l => sx_iOk prog_8_method_18_code l) (sx_iB_s aJ_70_15) (sx_iB_s aJ_70_16)) (sx_ite (p := fun l => sx_iOk prog_8_method_18_code l) (sx_iB_s aJ_70_17) (sx_ite (p := fun l => sx_iOk prog_8_method_18_code l) (sx_iB_s aJ_70_18) (sx_iB_s aJ_70_19))))))
def aW_70 : Nat → Option (Instr × Nat) := fun pc => sx_iF (aS_70 pc) pc
theorem aX_70 : ∀ pc i len, aW_70 pc = some (i, len) → decode aM_70.1.2.1 pc = .ok (i, len) := fun pc i len h => sx_iF_s (aT_70 pc) h
def aI_71_0 : sx_IL := [(0, .iconst 0, 1), (1, .istore_n 2, 1), (2, .aload_n 0, 1), (3, .arraylength, 1), (4, .istore_n 3, 1), (5, .iload_n 2, 1)]
theorem aJ_71_0 : sx_iB prog_18_method_103_code aI_71_0 = true := by decide +kernel
def aI_71_1 : sx_IL := [(6, .iload_n 3, 1), (7, .if_icmp .ge 13, 3), (10, .aload_n 0, 1), (11, .iload_n 2, 1), (12, .iload_n 1, 1), (13, .iastore, 1)]
theorem aJ_71_1 : sx_iB prog_18_method_103_code aI_71_1 = true := by decide +kernel
def aI_71_2 : sx_IL := [(14, .iinc 2 1, 3), (17, .goto (-12), 3), (20, .return_, 1)]
theorem aJ_71_2 : sx_iB prog_18_method_103_code aI_71_2 = true := by decide +kernel
def aS_71 (pc : Nat) : sx_IL := (if pc < 6 then aI_71_0 else (if pc < 14 then aI_71_1 else aI_71_2))
theorem aT_71 (pc : Nat) : sx_iOk prog_18_method_103_code (aS_71 pc) := (sx_ite (p := fun l => sx_iOk prog_18_method_103_code l) (sx_iB_s aJ_71_0) (sx_ite (p := fun l => sx_iOk prog_18_method_103_code l) (sx_iB_s aJ_71_1) (sx_iB_s aJ_71_2)))
def aW_71 : Nat → Option (Instr × Nat) := fun pc => sx_iF (aS_71 pc) pc
theorem aX_71 : ∀ pc i len, aW_71 pc = some (i, len) → decode aM_71.1.2.1 pc = .ok (i, len) := fun pc i len h => sx_iF_s (aT_71 pc) h
def aI_72_0 : sx_IL := [(0, .aload_n 0, 1), (1, .getfield 80, 3), (4, .iconst 1, 1), (5, .iadd, 1), (6, .iload_n 2, 1), (7, .if_icmp .ge 16, 3)]
theorem aJ_72_0 : sx_iB prog_8_method_20_code aI_72_0 = true := by decide +kernel
def aI_72_1 : sx_IL := [(10, .aload_n 0, 1), (11, .getfield 28, 3), (14, .aload_n 0, 1), (15, .getfield 80, 3), (18, .iaload, 1), (19, .iload_n 1, 1)]
theorem aJ_72_1 : sx_iB prog_8_method_20_code aI_72_1 = true := by decide +kernel
def aI_72_2 : sx_IL := [(20, .if_icmp .eq 5, 3), (23, .iconst (-1), 1), (24, .ireturn, 1), (25, .aload_n 0, 1), (26, .getfield 28, 3), (29, .aload_n 0, 1)]
theorem aJ_72_2 : sx_iB prog_8_method_20_code aI_72_2 = true := by decide +kernel
def aI_72_3 : sx_IL := [(30, .getfield 80, 3), (33, .iconst 1, 1), (34, .iadd, 1), (35, .iaload, 1), (36, .istore_n 3, 1), (37, .iload_n 3, 1)]
theorem aJ_72_3 : sx_iB prog_8_method_20_code aI_72_3 = true := by decide +kernel
def aI_72_4 : sx_IL := [(38, .sipush 128, 3), (41, .if_icmp .ge 7, 3), (44, .iconst 1, 1), (45, .goto 15, 3), (48, .iload_n 3, 1), (49, .sipush 129, 3)]
theorem aJ_72_4 : sx_iB prog_8_method_20_code aI_72_4 = true := by decide +kernel
def aI_72_5 : sx_IL := [(52, .if_icmp .ne 7, 3), (55, .iconst 2, 1), (56, .goto 4, 3), (59, .iconst 3, 1), (60, .istore 4, 2), (62, .aload_n 0, 1)]
theorem aJ_72_5 : sx_iB prog_8_method_20_code aI_72_5 = true := by decide +kernel
def aI_72_6 : sx_IL := [(63, .getfield 80, 3), (66, .iconst 1, 1), (67, .iadd, 1), (68, .iload 4, 2), (70, .iadd, 1), (71, .iload_n 2, 1)]
theorem aJ_72_6 : sx_iB prog_8_method_20_code aI_72_6 = true := by decide +kernel
def aI_72_7 : sx_IL := [(72, .if_icmp .le 5, 3), (75, .iconst (-1), 1), (76, .ireturn, 1), (77, .iload 4, 2), (79, .iconst 1, 1), (80, .if_icmp .ne 7, 3)]
theorem aJ_72_7 : sx_iB prog_8_method_20_code aI_72_7 = true := by decide +kernel
def aI_72_8 : sx_IL := [(83, .iload_n 3, 1), (84, .goto 49, 3), (87, .iload 4, 2), (89, .iconst 2, 1), (90, .if_icmp .ne 17, 3), (93, .aload_n 0, 1)]
theorem aJ_72_8 : sx_iB prog_8_method_20_code aI_72_8 = true := by decide +kernel
def aI_72_9 : sx_IL := [(94, .getfield 28, 3), (97, .aload_n 0, 1), (98, .getfield 80, 3), (101, .iconst 2, 1), (102, .iadd, 1), (103, .iaload, 1)]
theorem aJ_72_9 : sx_iB prog_8_method_20_code aI_72_9 = true := by decide +kernel
def aI_72_10 : sx_IL := [(104, .goto 29, 3), (107, .aload_n 0, 1), (108, .getfield 28, 3), (111, .aload_n 0, 1), (112, .getfield 80, 3), (115, .iconst 2, 1)]
theorem aJ_72_10 : sx_iB prog_8_method_20_code aI_72_10 = true := by decide +kernel
def aI_72_11 : sx_IL := [(116, .iadd, 1), (117, .iaload, 1), (118, .bipush 8, 2), (120, .ishl, 1), (121, .aload_n 0, 1), (122, .getfield 28, 3)]
theorem aJ_72_11 : sx_iB prog_8_method_20_code aI_72_11 = true := by decide +kernel
def aI_72_12 : sx_IL := [(125, .aload_n 0, 1), (126, .getfield 80, 3), (129, .iconst 3, 1), (130, .iadd, 1), (131, .iaload, 1), (132, .ior, 1)]
theorem aJ_72_12 : sx_iB prog_8_method_20_code aI_72_12 = true := by decide +kernel
def aI_72_13 : sx_IL := [(133, .istore 5, 2), (135, .aload_n 0, 1), (136, .dup, 1), (137, .getfield 80, 3), (140, .iconst 1, 1), (141, .iload 4, 2)]
theorem aJ_72_13 : sx_iB prog_8_method_20_code aI_72_13 = true := by decide +kernel
def aI_72_14 : sx_IL := [(143, .iadd, 1), (144, .iadd, 1), (145, .putfield 80, 3), (148, .aload_n 0, 1), (149, .getfield 80, 3), (152, .iload 5, 2)]
theorem aJ_72_14 : sx_iB prog_8_method_20_code aI_72_14 = true := by decide +kernel
def aI_72_15 : sx_IL := [(154, .iadd, 1), (155, .iload_n 2, 1), (156, .if_icmp .gt 13, 3), (159, .aload_n 0, 1), (160, .getfield 80, 3), (163, .iload 5, 2)]
theorem aJ_72_15 : sx_iB prog_8_method_20_code aI_72_15 = true := by decide +kernel
def aI_72_16 : sx_IL := [(165, .iadd, 1), (166, .goto 4, 3), (169, .iconst (-1), 1), (170, .ireturn, 1)]
theorem aJ_72_16 : sx_iB prog_8_method_20_code aI_72_16 = true := by decide +kernel
def aS_72 (pc : Nat) : sx_IL := (if pc < 83 then (if pc < 38 then (if pc < 20 then (if pc < 10 then aI_72_0 else aI_72_1) else (if pc < 30 then aI_72_2 else aI_72_3)) else (if pc < 63 then (if pc < 52 then aI_72_4 else aI_72_5) else (if pc < 72 then aI_72_6 else aI_72_7))) else (if pc < 125 then (if pc < 104 then (if pc < 94 then aI_72_8 else aI_72_9) else (if pc < 116 then aI_72_10 else aI_72_11)) else (if pc < 143 then (if pc < 133 then aI_72_12 else aI_72_13) else (if pc < 154 then aI_72_14 else (if pc < 165 then aI_72_15 else aI_72_16)))))
theorem aT_72 (pc : Nat) : sx_iOk prog_8_method_20_code (aS_72 pc) := (sx_ite (p := fun l => sx_iOk prog_8_method_20_code l) (sx_ite (p := fun l => sx_iOk prog_8_method_20_code l) (sx_ite (p := fun l => sx_iOk prog_8_method_20_code l) (sx_ite (p := fun l => sx_iOk prog_8_method_20_code l) (sx_iB_s aJ_72_0) (sx_iB_s aJ_72_1)) (sx_ite (p := fun l => sx_iOk prog_8_method_20_code l) (sx_iB_s aJ_72_2) (sx_iB_s aJ_72_3))) (sx_ite (p := fun l => sx_iOk prog_8_method_20_code l) (sx_ite (p := fun l => sx_iOk prog_8_method_20_code l) (sx_iB_s aJ_72_4) (sx_iB_s aJ_72_5)) (sx_ite (p := fun l => sx_iOk prog_8_method_20_code l) (sx_iB_s aJ_72_6) (sx_iB_s aJ_72_7)))) (sx_ite (p := fun l => sx_iOk prog_8_method_20_code l) (sx_ite (p := fun l => sx_iOk prog_8_method_20_code l) (sx_ite (p := fun l => sx_iOk prog_8_method_20_code l) (sx_iB_s aJ_72_8) (sx_iB_s aJ_72_9)) (sx_ite (p := fun l => sx_iOk prog_8_method_20_code l) (sx_iB_s aJ_72_10) (sx_iB_s aJ_72_11))) (sx_ite (p := fun l => sx_iOk prog_8_method_20_code l) (sx_ite (p := fun l => sx_iOk prog_8_method_20_code l) (sx_iB_s aJ_72_12) (sx_iB_s aJ_72_13)) (sx_ite (p := fun l => sx_iOk prog_8_method_20_code l) (sx_iB_s aJ_72_14) (sx_ite (p := fun l => sx_iOk prog_8_method_20_code l) (sx_iB_s aJ_72_15) (sx_iB_s aJ_72_16))))))
def aW_72 : Nat → Option (Instr × Nat) := fun pc => sx_iF (aS_72 pc) pc
theorem aX_72 : ∀ pc i len, aW_72 pc = some (i, len) → decode aM_72.1.2.1 pc = .ok (i, len) := fun pc i len h => sx_iF_s (aT_72 pc) h
def aI_73_0 : sx_IL := [(0, .iload_n 1, 1), (1, .ifCond .ne 72, 3), (4, .aload_n 0, 1), (5, .getfield 9, 3), (8, .iconst 0, 1), (9, .aload_n 0, 1)]
theorem aJ_73_0 : sx_iB prog_8_method_24_code aI_73_0 = true := by decide +kernel
def aI_73_1 : sx_IL := [(10, .iload_n 2, 1), (11, .invokevirtual 103, 3), (14, .iastore, 1), (15, .aload_n 0, 1), (16, .getfield 9, 3), (19, .iconst 0, 1)]
theorem aJ_73_1 : sx_iB prog_8_method_24_code aI_73_1 = true := by decide +kernel
def aI_73_2 : sx_IL := [(20, .iaload, 1), (21, .iconst 1, 1), (22, .if_icmp .lt 49, 3), (25, .aload_n 0, 1), (26, .iconst 0, 1), (27, .iload_n 2, 1)]
theorem aJ_73_2 : sx_iB prog_8_method_24_code aI_73_2 = true := by decide +kernel
def aI_73_3 : sx_IL := [(28, .invokevirtual 109, 3), (31, .ifCond .eq 40, 3), (34, .aload_n 0, 1), (35, .iconst 1, 1), (36, .iload_n 2, 1), (37, .invokevirtual 109, 3)]
theorem aJ_73_3 : sx_iB prog_8_method_24_code aI_73_3 = true := by decide +kernel
def aI_73_4 : sx_IL := [(40, .ifCond .eq 31, 3), (43, .aload_n 0, 1), (44, .iload_n 2, 1), (45, .invokevirtual 112, 3), (48, .ifCond .eq 23, 3), (51, .aload_n 0, 1)]
theorem aJ_73_4 : sx_iB prog_8_method_24_code aI_73_4 = true := by decide +kernel
def aI_73_5 : sx_IL := [(52, .iload_n 2, 1), (53, .invokevirtual 115, 3), (56, .ifCond .eq 15, 3), (59, .aload_n 0, 1), (60, .iload_n 2, 1), (61, .invokevirtual 118, 3)]
theorem aJ_73_5 : sx_iB prog_8_method_24_code aI_73_5 = true := by decide +kernel
def aI_73_6 : sx_IL := [(64, .ifCond .eq 7, 3), (67, .iconst 1, 1), (68, .goto 4, 3), (71, .iconst 0, 1), (72, .ireturn, 1), (73, .aload_n 0, 1)]
theorem aJ_73_6 : sx_iB prog_8_method_24_code aI_73_6 = true := by decide +kernel
def aI_73_7 : sx_IL := [(74, .iconst 0, 1), (75, .iload_n 2, 1), (76, .invokevirtual 109, 3), (79, .ifCond .ne 5, 3), (82, .iconst 0, 1), (83, .ireturn, 1)]
theorem aJ_73_7 : sx_iB prog_8_method_24_code aI_73_7 = true := by decide +kernel
def aI_73_8 : sx_IL := [(84, .aload_n 0, 1), (85, .getfield 9, 3), (88, .iconst 0, 1), (89, .aload_n 0, 1), (90, .iload_n 2, 1), (91, .invokevirtual 103, 3)]
theorem aJ_73_8 : sx_iB prog_8_method_24_code aI_73_8 = true := by decide +kernel
def aI_73_9 : sx_IL := [(94, .iastore, 1), (95, .iload_n 1, 1), (96, .iconst 1, 1), (97, .if_icmp .ne 34, 3), (100, .aload_n 0, 1), (101, .getfield 9, 3)]
theorem aJ_73_9 : sx_iB prog_8_method_24_code aI_73_9 = true := by decide +kernel
def aI_73_10 : sx_IL := [(104, .iconst 0, 1), (105, .iaload, 1), (106, .ifCond .lt 23, 3), (109, .aload_n 0, 1), (110, .iload_n 2, 1), (111, .invokevirtual 112, 3)]
theorem aJ_73_10 : sx_iB prog_8_method_24_code aI_73_10 = true := by decide +kernel
def aI_73_11 : sx_IL := [(114, .ifCond .eq 15, 3), (117, .aload_n 0, 1), (118, .iload_n 2, 1), (119, .invokevirtual 121, 3), (122, .ifCond .eq 7, 3), (125, .iconst 1, 1)]
theorem aJ_73_11 : sx_iB prog_8_method_24_code aI_73_11 = true := by decide +kernel
def aI_73_12 : sx_IL := [(126, .goto 4, 3), (129, .iconst 0, 1), (130, .ireturn, 1), (131, .aload_n 0, 1), (132, .getfield 9, 3), (135, .iconst 5, 1)]
theorem aJ_73_12 : sx_iB prog_8_method_24_code aI_73_12 = true := by decide +kernel
def aI_73_13 : sx_IL := [(136, .aload_n 0, 1), (137, .iload_n 2, 1), (138, .invokevirtual 103, 3), (141, .iastore, 1), (142, .aload_n 0, 1), (143, .getfield 9, 3)]
theorem aJ_73_13 : sx_iB prog_8_method_24_code aI_73_13 = true := by decide +kernel
def aI_73_14 : sx_IL := [(146, .iconst 0, 1), (147, .iaload, 1), (148, .ifCond .lt 34, 3), (151, .aload_n 0, 1), (152, .getfield 9, 3), (155, .iconst 5, 1)]
theorem aJ_73_14 : sx_iB prog_8_method_24_code aI_73_14 = true := by decide +kernel
def aI_73_15 : sx_IL := [(156, .iaload, 1), (157, .ifCond .eq 13, 3), (160, .aload_n 0, 1), (161, .getfield 9, 3), (164, .iconst 5, 1), (165, .iaload, 1)]
theorem aJ_73_15 : sx_iB prog_8_method_24_code aI_73_15 = true := by decide +kernel
def aI_73_16 : sx_IL := [(166, .iconst 1, 1), (167, .if_icmp .ne 15, 3), (170, .aload_n 0, 1), (171, .iload_n 2, 1), (172, .invokevirtual 112, 3), (175, .ifCond .eq 7, 3)]
theorem aJ_73_16 : sx_iB prog_8_method_24_code aI_73_16 = true := by decide +kernel
def aI_73_17 : sx_IL := [(178, .iconst 1, 1), (179, .goto 4, 3), (182, .iconst 0, 1), (183, .ireturn, 1)]
theorem aJ_73_17 : sx_iB prog_8_method_24_code aI_73_17 = true := by decide +kernel
def aS_73 (pc : Nat) : sx_IL := (if pc < 94 then (if pc < 40 then (if pc < 20 then (if pc < 10 then aI_73_0 else aI_73_1) else (if pc < 28 then aI_73_2 else aI_73_3)) else (if pc < 64 then (if pc < 52 then aI_73_4 else aI_73_5) else (if pc < 74 then aI_73_6 else (if pc < 84 then aI_73_7 else aI_73_8)))) else (if pc < 136 then (if pc < 114 then (if pc < 104 then aI_73_9 else aI_73_10) else (if pc < 126 then aI_73_11 else aI_73_12)) else (if pc < 156 then (if pc < 146 then aI_73_13 else aI_73_14) else (if pc < 166 then aI_73_15 else (if pc < 178 then aI_73_16 else aI_73_17)))))
theorem aT_73 (pc : Nat) : sx_iOk prog_8_method_24_code (aS_73 pc) := (sx_ite (p := fun l => sx_iOk prog_8_method_24_code l) (sx_ite (p := fun l => sx_iOk prog_8_method_24_code l) (sx_ite (p := fun l => sx_iOk prog_8_method_24_code l) (sx_ite (p := fun l => sx_iOk prog_8_method_24_code l) (sx_iB_s aJ_73_0) (sx_iB_s aJ_73_1)) (sx_ite (p := fun l => sx_iOk prog_8_method_24_code l) (sx_iB_s aJ_73_2) (sx_iB_s aJ_73_3))) (sx_ite (p := fun l => sx_iOk prog_8_method_24_code l) (sx_ite (p := fun l => sx_iOk prog_8_method_24_code l) (sx_iB_s aJ_73_4) (sx_iB_s aJ_73_5)) (sx_ite (p := fun l => sx_iOk prog_8_method_24_code l) (sx_iB_s aJ_73_6) (sx_ite (p := fun l => sx_iOk prog_8_method_24_code l) (sx_iB_s aJ_73_7) (sx_iB_s aJ_73_8))))) (sx_ite (p := fun l => sx_iOk prog_8_method_24_code l) (sx_ite (p := fun l => sx_iOk prog_8_method_24_code l) (sx_ite (p := fun l => sx_iOk prog_8_method_24_code l) (sx_iB_s aJ_73_9) (sx_iB_s aJ_73_10)) (sx_ite (p := fun l => sx_iOk prog_8_method_24_code l) (sx_iB_s aJ_73_11) (sx_iB_s aJ_73_12))) (sx_ite (p := fun l => sx_iOk prog_8_method_24_code l) (sx_ite (p := fun l => sx_iOk prog_8_method_24_code l) (sx_iB_s aJ_73_13) (sx_iB_s aJ_73_14)) (sx_ite (p := fun l => sx_iOk prog_8_method_24_code l) (sx_iB_s aJ_73_15) (sx_ite (p := fun l => sx_iOk prog_8_method_24_code l) (sx_iB_s aJ_73_16) (sx_iB_s aJ_73_17))))))
def aW_73 : Nat → Option (Instr × Nat) := fun pc => sx_iF (aS_73 pc) pc
theorem aX_73 : ∀ pc i len, aW_73 pc = some (i, len) → decode aM_73.1.2.1 pc = .ok (i, len) := fun pc i len h => sx_iF_s (aT_73 pc) h
def aI_74_0 : sx_IL := [(0, .aload_n 0, 1), (1, .iconst 2, 1), (2, .iload_n 1, 1), (3, .invokevirtual 83, 3), (6, .istore_n 2, 1), (7, .iload_n 2, 1)]
theorem aJ_74_0 : sx_iB prog_8_method_21_code aI_74_0 = true := by decide +kernel
def aI_74_1 : sx_IL := [(8, .ifCond .ge 7, 3), (11, .iconst (-1), 1), (12, .goto 4, 3), (15, .iconst 0, 1), (16, .istore_n 3, 1), (17, .aload_n 0, 1)]
theorem aJ_74_1 : sx_iB prog_8_method_21_code aI_74_1 = true := by decide +kernel
def aI_74_2 : sx_IL := [(18, .getfield 80, 3), (21, .iload_n 2, 1), (22, .if_icmp .ge 31, 3), (25, .iload_n 3, 1), (26, .bipush 8, 2), (28, .ishl, 1)]
theorem aJ_74_2 : sx_iB prog_8_method_21_code aI_74_2 = true := by decide +kernel
def aI_74_3 : sx_IL := [(29, .aload_n 0, 1), (30, .getfield 28, 3), (33, .aload_n 0, 1), (34, .getfield 80, 3), (37, .iaload, 1), (38, .ior, 1)]
theorem aJ_74_3 : sx_iB prog_8_method_21_code aI_74_3 = true := by decide +kernel
def aI_74_4 : sx_IL := [(39, .istore_n 3, 1), (40, .aload_n 0, 1), (41, .dup, 1), (42, .getfield 80, 3), (45, .iconst 1, 1), (46, .iadd, 1)]
theorem aJ_74_4 : sx_iB prog_8_method_21_code aI_74_4 = true := by decide +kernel
def aI_74_5 : sx_IL := [(47, .putfield 80, 3), (50, .goto (-33), 3), (53, .iload_n 3, 1), (54, .ireturn, 1)]
theorem aJ_74_5 : sx_iB prog_8_method_21_code aI_74_5 = true := by decide +kernel
def aS_74 (pc : Nat) : sx_IL := (if pc < 29 then (if pc < 8 then aI_74_0 else (if pc < 18 then aI_74_1 else aI_74_2)) else (if pc < 39 then aI_74_3 else (if pc < 47 then aI_74_4 else aI_74_5)))
theorem aT_74 (pc : Nat) : sx_iOk prog_8_method_21_code (aS_74 pc) := (sx_ite (p := fun l => sx_iOk prog_8_method_21_code l) (sx_ite (p := fun l => sx_iOk prog_8_method_21_code l) (sx_iB_s aJ_74_0) (sx_ite (p := fun l => sx_iOk prog_8_method_21_code l) (sx_iB_s aJ_74_1) (sx_iB_s aJ_74_2))) (sx_ite (p := fun l => sx_iOk prog_8_method_21_code l) (sx_iB_s aJ_74_3) (sx_ite (p := fun l => sx_iOk prog_8_method_21_code l) (sx_iB_s aJ_74_4) (sx_iB_s aJ_74_5))))
def aW_74 : Nat → Option (Instr × Nat) := fun pc => sx_iF (aS_74 pc) pc
theorem aX_74 : ∀ pc i len, aW_74 pc = some (i, len) → decode aM_74.1.2.1 pc = .ok (i, len) := fun pc i len h => sx_iF_s (aT_74 pc) h
def aI_75_0 : sx_IL := [(0, .aload_n 0, 1), (1, .bipush 12, 2), (3, .iload_n 2, 1), (4, .invokevirtual 83, 3), (7, .istore_n 3, 1), (8, .iload_n 3, 1)]
theorem aJ_75_0 : sx_iB prog_8_method_22_code aI_75_0 = true := by decide +kernel
def aI_75_1 : sx_IL := [(9, .ifCond .ge 5, 3), (12, .iconst 0, 1), (13, .ireturn, 1), (14, .aload_n 0, 1), (15, .iload_n 1, 1), (16, .aload_n 0, 1)]
theorem aJ_75_1 : sx_iB prog_8_method_22_code aI_75_1 = true := by decide +kernel
def aI_75_2 : sx_IL := [(17, .getfield 80, 3), (20, .iload_n 3, 1), (21, .invokevirtual 90, 3), (24, .aload_n 0, 1), (25, .iload_n 3, 1), (26, .putfield 80, 3)]
theorem aJ_75_2 : sx_iB prog_8_method_22_code aI_75_2 = true := by decide +kernel
def aI_75_3 : sx_IL := [(29, .iconst 1, 1), (30, .ireturn, 1)]
theorem aJ_75_3 : sx_iB prog_8_method_22_code aI_75_3 = true := by decide +kernel
def aS_75 (pc : Nat) : sx_IL := (if pc < 17 then (if pc < 9 then aI_75_0 else aI_75_1) else (if pc < 29 then aI_75_2 else aI_75_3))
theorem aT_75 (pc : Nat) : sx_iOk prog_8_method_22_code (aS_75 pc) := (sx_ite (p := fun l => sx_iOk prog_8_method_22_code l) (sx_ite (p := fun l => sx_iOk prog_8_method_22_code l) (sx_iB_s aJ_75_0) (sx_iB_s aJ_75_1)) (sx_ite (p := fun l => sx_iOk prog_8_method_22_code l) (sx_iB_s aJ_75_2) (sx_iB_s aJ_75_3)))
def aW_75 : Nat → Option (Instr × Nat) := fun pc => sx_iF (aS_75 pc) pc
theorem aX_75 : ∀ pc i len, aW_75 pc = some (i, len) → decode aM_75.1.2.1 pc = .ok (i, len) := fun pc i len h => sx_iF_s (aT_75 pc) h
def aI_76_0 : sx_IL := [(0, .aload_n 0, 1), (1, .getfield 15, 3), (4, .iconst 2, 1), (5, .iload_n 1, 1), (6, .imul, 1), (7, .iload_n 2, 1)]
theorem aJ_76_0 : sx_iB prog_8_method_4_code aI_76_0 = true := by decide +kernel
def aI_76_1 : sx_IL := [(8, .iastore, 1), (9, .aload_n 0, 1), (10, .getfield 15, 3), (13, .iconst 2, 1), (14, .iload_n 1, 1), (15, .imul, 1)]
theorem aJ_76_1 : sx_iB prog_8_method_4_code aI_76_1 = true := by decide +kernel
def aI_76_2 : sx_IL := [(16, .iconst 1, 1), (17, .iadd, 1), (18, .iload_n 3, 1), (19, .iastore, 1), (20, .return_, 1)]
theorem aJ_76_2 : sx_iB prog_8_method_4_code aI_76_2 = true := by decide +kernel
def aS_76 (pc : Nat) : sx_IL := (if pc < 8 then aI_76_0 else (if pc < 16 then aI_76_1 else aI_76_2))
theorem aT_76 (pc : Nat) : sx_iOk prog_8_method_4_code (aS_76 pc) := (sx_ite (p := fun l => sx_iOk prog_8_method_4_code l) (sx_iB_s aJ_76_0) (sx_ite (p := fun l => sx_iOk prog_8_method_4_code l) (sx_iB_s aJ_76_1) (sx_iB_s aJ_76_2)))
def aW_76 : Nat → Option (Instr × Nat) := fun pc => sx_iF (aS_76 pc) pc
theorem aX_76 : ∀ pc i len, aW_76 pc = some (i, len) → decode aM_76.1.2.1 pc = .ok (i, len) := fun pc i len h => sx_iF_s (aT_76 pc) h
def aI_77_0 : sx_IL := [(0, .aload_n 0, 1), (1, .getfield 9, 3), (4, .iconst 1, 1), (5, .aload_n 0, 1), (6, .iload_n 1, 1), (7, .invokevirtual 103, 3)]
theorem aJ_77_0 : sx_iB prog_8_method_23_code aI_77_0 = true := by decide +kernel
def aI_77_1 : sx_IL := [(10, .iastore, 1), (11, .aload_n 0, 1), (12, .getfield 9, 3), (15, .iconst 2, 1), (16, .aload_n 0, 1), (17, .iload_n 1, 1)]
theorem aJ_77_1 : sx_iB prog_8_method_23_code aI_77_1 = true := by decide +kernel
def aI_77_2 : sx_IL := [(18, .invokevirtual 103, 3), (21, .iastore, 1), (22, .aload_n 0, 1), (23, .getfield 9, 3), (26, .iconst 3, 1), (27, .aload_n 0, 1)]
theorem aJ_77_2 : sx_iB prog_8_method_23_code aI_77_2 = true := by decide +kernel
def aI_77_3 : sx_IL := [(28, .iload_n 1, 1), (29, .invokevirtual 103, 3), (32, .iastore, 1), (33, .aload_n 0, 1), (34, .getfield 9, 3), (37, .iconst 1, 1)]
theorem aJ_77_3 : sx_iB prog_8_method_23_code aI_77_3 = true := by decide +kernel
def aI_77_4 : sx_IL := [(38, .iaload, 1), (39, .ifCond .lt 34, 3), (42, .aload_n 0, 1), (43, .getfield 9, 3), (46, .iconst 2, 1), (47, .iaload, 1)]
theorem aJ_77_4 : sx_iB prog_8_method_23_code aI_77_4 = true := by decide +kernel
def aI_77_5 : sx_IL := [(48, .aload_n 0, 1), (49, .getfield 9, 3), (52, .iconst 1, 1), (53, .iaload, 1), (54, .if_icmp .lt 19, 3), (57, .aload_n 0, 1)]
theorem aJ_77_5 : sx_iB prog_8_method_23_code aI_77_5 = true := by decide +kernel
def aI_77_6 : sx_IL := [(58, .getfield 9, 3), (61, .iconst 3, 1), (62, .iaload, 1), (63, .invokestatic 106, 3), (66, .ifCond .eq 7, 3), (69, .iconst 1, 1)]
theorem aJ_77_6 : sx_iB prog_8_method_23_code aI_77_6 = true := by decide +kernel
def aI_77_7 : sx_IL := [(70, .goto 4, 3), (73, .iconst 0, 1), (74, .ireturn, 1)]
theorem aJ_77_7 : sx_iB prog_8_method_23_code aI_77_7 = true := by decide +kernel
def aS_77 (pc : Nat) : sx_IL := (if pc < 38 then (if pc < 18 then (if pc < 10 then aI_77_0 else aI_77_1) else (if pc < 28 then aI_77_2 else aI_77_3)) else (if pc < 58 then (if pc < 48 then aI_77_4 else aI_77_5) else (if pc < 70 then aI_77_6 else aI_77_7)))
theorem aT_77 (pc : Nat) : sx_iOk prog_8_method_23_code (aS_77 pc) := (sx_ite (p := fun l => sx_iOk prog_8_method_23_code l) (sx_ite (p := fun l => sx_iOk prog_8_method_23_code l) (sx_ite (p := fun l => sx_iOk prog_8_method_23_code l) (sx_iB_s aJ_77_0) (sx_iB_s aJ_77_1)) (sx_ite (p := fun l => sx_iOk prog_8_method_23_code l) (sx_iB_s aJ_77_2) (sx_iB_s aJ_77_3))) (sx_ite (p := fun l => sx_iOk prog_8_method_23_code l) (sx_ite (p := fun l => sx_iOk prog_8_method_23_code l) (sx_iB_s aJ_77_4) (sx_iB_s aJ_77_5)) (sx_ite (p := fun l => sx_iOk prog_8_method_23_code l) (sx_iB_s aJ_77_6) (sx_iB_s aJ_77_7))))
def aW_77 : Nat → Option (Instr × Nat) := fun pc => sx_iF (aS_77 pc) pc
theorem aX_77 : ∀ pc i len, aW_77 pc = some (i, len) → decode aM_77.1.2.1 pc = .ok (i, len) := fun pc i len h => sx_iF_s (aT_77 pc) h
def aI_78_0 : sx_IL := [(0, .aload_n 0, 1), (1, .iconst 4, 1), (2, .iload_n 1, 1), (3, .invokevirtual 83, 3), (6, .istore_n 2, 1), (7, .iload_n 2, 1)]
theorem aJ_78_0 : sx_iB prog_8_method_25_code aI_78_0 = true := by decide +kernel
def aI_78_1 : sx_IL := [(8, .ifCond .lt 13, 3), (11, .iload_n 2, 1), (12, .aload_n 0, 1), (13, .getfield 80, 3), (16, .isub, 1), (17, .iconst 4, 1)]
theorem aJ_78_1 : sx_iB prog_8_method_25_code aI_78_1 = true := by decide +kernel
def aI_78_2 : sx_IL := [(18, .if_icmp .eq 5, 3), (21, .iconst 0, 1), (22, .ireturn, 1), (23, .aload_n 0, 1), (24, .getfield 9, 3), (27, .iconst 4, 1)]
theorem aJ_78_2 : sx_iB prog_8_method_25_code aI_78_2 = true := by decide +kernel
def aI_78_3 : sx_IL := [(28, .aload_n 0, 1), (29, .aload_n 0, 1), (30, .getfield 80, 3), (33, .invokevirtual 94, 3), (36, .iastore, 1), (37, .aload_n 0, 1)]
theorem aJ_78_3 : sx_iB prog_8_method_25_code aI_78_3 = true := by decide +kernel
def aI_78_4 : sx_IL := [(38, .iload_n 2, 1), (39, .putfield 80, 3), (42, .iconst 1, 1), (43, .ireturn, 1)]
theorem aJ_78_4 : sx_iB prog_8_method_25_code aI_78_4 = true := by decide +kernel
def aS_78 (pc : Nat) : sx_IL := (if pc < 18 then (if pc < 8 then aI_78_0 else aI_78_1) else (if pc < 28 then aI_78_2 else (if pc < 38 then aI_78_3 else aI_78_4)))
theorem aT_78 (pc : Nat) : sx_iOk prog_8_method_25_code (aS_78 pc) := (sx_ite (p := fun l => sx_iOk prog_8_method_25_code l) (sx_ite (p := fun l => sx_iOk prog_8_method_25_code l) (sx_iB_s aJ_78_0) (sx_iB_s aJ_78_1)) (sx_ite (p := fun l => sx_iOk prog_8_method_25_code l) (sx_iB_s aJ_78_2) (sx_ite (p := fun l => sx_iOk prog_8_method_25_code l) (sx_iB_s aJ_78_3) (sx_iB_s aJ_78_4))))
def aW_78 : Nat → Option (Instr × Nat) := fun pc => sx_iF (aS_78 pc) pc
theorem aX_78 : ∀ pc i len, aW_78 pc = some (i, len) → decode aM_78.1.2.1 pc = .ok (i, len) := fun pc i len h => sx_iF_s (aT_78 pc) h
def aI_79_0 : sx_IL := [(0, .aload_n 0, 1), (1, .getfield 28, 3), (4, .iload_n 1, 1), (5, .iaload, 1), (6, .bipush 24, 2), (8, .ishl, 1)]
theorem aJ_79_0 : sx_iB prog_8_method_19_code aI_79_0 = true := by decide +kernel
def aI_79_1 : sx_IL := [(9, .aload_n 0, 1), (10, .getfield 28, 3), (13, .iload_n 1, 1), (14, .iconst 1, 1), (15, .iadd, 1), (16, .iaload, 1)]
theorem aJ_79_1 : sx_iB prog_8_method_19_code aI_79_1 = true := by decide +kernel
def aI_79_2 : sx_IL := [(17, .bipush 16, 2), (19, .ishl, 1), (20, .ior, 1), (21, .aload_n 0, 1), (22, .getfield 28, 3), (25, .iload_n 1, 1)]
theorem aJ_79_2 : sx_iB prog_8_method_19_code aI_79_2 = true := by decide +kernel
def aI_79_3 : sx_IL := [(26, .iconst 2, 1), (27, .iadd, 1), (28, .iaload, 1), (29, .bipush 8, 2), (31, .ishl, 1), (32, .ior, 1)]
theorem aJ_79_3 : sx_iB prog_8_method_19_code aI_79_3 = true := by decide +kernel
def aI_79_4 : sx_IL := [(33, .aload_n 0, 1), (34, .getfield 28, 3), (37, .iload_n 1, 1), (38, .iconst 3, 1), (39, .iadd, 1), (40, .iaload, 1)]
theorem aJ_79_4 : sx_iB prog_8_method_19_code aI_79_4 = true := by decide +kernel
def aI_79_5 : sx_IL := [(41, .ior, 1), (42, .ireturn, 1)]
theorem aJ_79_5 : sx_iB prog_8_method_19_code aI_79_5 = true := by decide +kernel
def aS_79 (pc : Nat) : sx_IL := (if pc < 26 then (if pc < 9 then aI_79_0 else (if pc < 17 then aI_79_1 else aI_79_2)) else (if pc < 33 then aI_79_3 else (if pc < 41 then aI_79_4 else aI_79_5)))
theorem aT_79 (pc : Nat) : sx_iOk prog_8_method_19_code (aS_79 pc) := (sx_ite (p := fun l => sx_iOk prog_8_method_19_code l) (sx_ite (p := fun l => sx_iOk prog_8_method_19_code l) (sx_iB_s aJ_79_0) (sx_ite (p := fun l => sx_iOk prog_8_method_19_code l) (sx_iB_s aJ_79_1) (sx_iB_s aJ_79_2))) (sx_ite (p := fun l => sx_iOk prog_8_method_19_code l) (sx_iB_s aJ_79_3) (sx_ite (p := fun l => sx_iOk prog_8_method_19_code l) (sx_iB_s aJ_79_4) (sx_iB_s aJ_79_5))))
def aW_79 : Nat → Option (Instr × Nat) := fun pc => sx_iF (aS_79 pc) pc
theorem aX_79 : ∀ pc i len, aW_79 pc = some (i, len) → decode aM_79.1.2.1 pc = .ok (i, len) := fun pc i len h => sx_iF_s (aT_79 pc) h
def aI_80_0 : sx_IL := [(0, .sipush 160, 3), (3, .istore_n 2, 1), (4, .iconst 0, 1), (5, .istore_n 3, 1), (6, .iload_n 3, 1), (7, .bipush 6, 2)]
theorem aJ_80_0 : sx_iB prog_8_method_28_code aI_80_0 = true := by decide +kernel
def aI_80_1 : sx_IL := [(9, .if_icmp .gt 275, 3), (12, .aload_n 0, 1), (13, .getfield 80, 3), (16, .iload_n 1, 1), (17, .if_icmp .ge 267, 3), (20, .aload_n 0, 1)]
theorem aJ_80_1 : sx_iB prog_8_method_28_code aI_80_1 = true := by decide +kernel
def aI_80_2 : sx_IL := [(21, .getfield 28, 3), (24, .aload_n 0, 1), (25, .getfield 80, 3), (28, .iaload, 1), (29, .istore 4, 2), (31, .aload_n 0, 1)]
theorem aJ_80_2 : sx_iB prog_8_method_28_code aI_80_2 = true := by decide +kernel
def aI_80_3 : sx_IL := [(32, .iload 4, 2), (34, .iload_n 1, 1), (35, .invokevirtual 83, 3), (38, .istore 5, 2), (40, .iload 4, 2), (42, .iload_n 2, 1)]
theorem aJ_80_3 : sx_iB prog_8_method_28_code aI_80_3 = true := by decide +kernel
def aI_80_4 : sx_IL := [(43, .if_icmp .le 16, 3), (46, .iload 4, 2), (48, .sipush 166, 3), (51, .if_icmp .gt 8, 3), (54, .iload 5, 2), (56, .ifCond .ge 5, 3)]
theorem aJ_80_4 : sx_iB prog_8_method_28_code aI_80_4 = true := by decide +kernel
def aI_80_5 : sx_IL := [(59, .iconst 0, 1), (60, .ireturn, 1), (61, .iload 5, 2), (63, .aload_n 0, 1), (64, .getfield 80, 3), (67, .isub, 1)]
theorem aJ_80_5 : sx_iB prog_8_method_28_code aI_80_5 = true := by decide +kernel
def aI_80_6 : sx_IL := [(68, .iconst 1, 1), (69, .if_icmp .ne 7, 3), (72, .iconst 1, 1), (73, .goto 4, 3), (76, .iconst 0, 1), (77, .istore 6, 2)]
theorem aJ_80_6 : sx_iB prog_8_method_28_code aI_80_6 = true := by decide +kernel
def aI_80_7 : sx_IL := [(79, .iconst 1, 1), (80, .istore 7, 2), (82, .iload 4, 2), (84, .sipush 161, 3), (87, .if_icmp .ne 29, 3), (90, .aload_n 0, 1)]
theorem aJ_80_7 : sx_iB prog_8_method_28_code aI_80_7 = true := by decide +kernel
def aI_80_8 : sx_IL := [(91, .getfield 9, 3), (94, .iconst 5, 1), (95, .iconst 1, 1), (96, .iastore, 1), (97, .iload 5, 2), (99, .aload_n 0, 1)]
theorem aJ_80_8 : sx_iB prog_8_method_28_code aI_80_8 = true := by decide +kernel
def aI_80_9 : sx_IL := [(100, .getfield 80, 3), (103, .if_icmp .ne 7, 3), (106, .iconst 1, 1), (107, .goto 4, 3), (110, .iconst 0, 1), (111, .istore 7, 2)]
theorem aJ_80_9 : sx_iB prog_8_method_28_code aI_80_9 = true := by decide +kernel
def aI_80_10 : sx_IL := [(113, .goto 149, 3), (116, .iload 4, 2), (118, .sipush 162, 3), (121, .if_icmp .ne 61, 3), (124, .aload_n 0, 1), (125, .getfield 9, 3)]
theorem aJ_80_10 : sx_iB prog_8_method_28_code aI_80_10 = true := by decide +kernel
def aI_80_11 : sx_IL := [(128, .bipush 6, 2), (130, .iload 6, 2), (132, .ifCond .eq 15, 3), (135, .aload_n 0, 1), (136, .getfield 28, 3), (139, .aload_n 0, 1)]
theorem aJ_80_11 : sx_iB prog_8_method_28_code aI_80_11 = true := by decide +kernel
def aI_80_12 : sx_IL := [(140, .getfield 80, 3), (143, .iaload, 1), (144, .goto 5, 3), (147, .bipush 7, 2), (149, .iastore, 1), (150, .aload_n 0, 1)]
theorem aJ_80_12 : sx_iB prog_8_method_28_code aI_80_12 = true := by decide +kernel
def aI_80_13 : sx_IL := [(151, .getfield 9, 3), (154, .iconst 5, 1), (155, .iaload, 1), (156, .iconst 1, 1), (157, .if_icmp .ne 19, 3), (160, .aload_n 0, 1)]
theorem aJ_80_13 : sx_iB prog_8_method_28_code aI_80_13 = true := by decide +kernel
def aI_80_14 : sx_IL := [(161, .getfield 9, 3), (164, .bipush 6, 2), (166, .iaload, 1), (167, .bipush 6, 2), (169, .if_icmp .gt 7, 3), (172, .iconst 1, 1)]
theorem aJ_80_14 : sx_iB prog_8_method_28_code aI_80_14 = true := by decide +kernel
def aI_80_15 : sx_IL := [(173, .goto 4, 3), (176, .iconst 0, 1), (177, .istore 7, 2), (179, .goto 83, 3), (182, .iload 4, 2), (184, .sipush 163, 3)]
theorem aJ_80_15 : sx_iB prog_8_method_28_code aI_80_15 = true := by decide +kernel
def aI_80_16 : sx_IL := [(187, .if_icmp .ne 61, 3), (190, .aload_n 0, 1), (191, .getfield 9, 3), (194, .bipush 7, 2), (196, .iload 6, 2), (198, .ifCond .eq 15, 3)]
theorem aJ_80_16 : sx_iB prog_8_method_28_code aI_80_16 = true := by decide +kernel
def aI_80_17 : sx_IL := [(201, .aload_n 0, 1), (202, .getfield 28, 3), (205, .aload_n 0, 1), (206, .getfield 80, 3), (209, .iaload, 1), (210, .goto 4, 3)]
theorem aJ_80_17 : sx_iB prog_8_method_28_code aI_80_17 = true := by decide +kernel
def aI_80_18 : sx_IL := [(213, .iconst 0, 1), (214, .iastore, 1), (215, .aload_n 0, 1), (216, .getfield 9, 3), (219, .bipush 7, 2), (221, .iaload, 1)]
theorem aJ_80_18 : sx_iB prog_8_method_28_code aI_80_18 = true := by decide +kernel
def aI_80_19 : sx_IL := [(222, .iconst 1, 1), (223, .if_icmp .lt 19, 3), (226, .aload_n 0, 1), (227, .getfield 9, 3), (230, .bipush 7, 2), (232, .iaload, 1)]
theorem aJ_80_19 : sx_iB prog_8_method_28_code aI_80_19 = true := by decide +kernel
def aI_80_20 : sx_IL := [(233, .bipush 15, 2), (235, .if_icmp .gt 7, 3), (238, .iconst 1, 1), (239, .goto 4, 3), (242, .iconst 0, 1), (243, .istore 7, 2)]
theorem aJ_80_20 : sx_iB prog_8_method_28_code aI_80_20 = true := by decide +kernel
def aI_80_21 : sx_IL := [(245, .goto 17, 3), (248, .aload_n 0, 1), (249, .iload 4, 2), (251, .sipush 164, 3), (254, .isub, 1), (255, .iload 5, 2)]
theorem aJ_80_21 : sx_iB prog_8_method_28_code aI_80_21 = true := by decide +kernel
def aI_80_22 : sx_IL := [(257, .invokevirtual 124, 3), (260, .istore 7, 2), (262, .iload 7, 2), (264, .ifCond .ne 5, 3), (267, .iconst 0, 1), (268, .ireturn, 1)]
theorem aJ_80_22 : sx_iB prog_8_method_28_code aI_80_22 = true := by decide +kernel
def aI_80_23 : sx_IL := [(269, .iload 4, 2), (271, .istore_n 2, 1), (272, .aload_n 0, 1), (273, .iload 5, 2), (275, .putfield 80, 3), (278, .iinc 3 1, 3)]
theorem aJ_80_23 : sx_iB prog_8_method_28_code aI_80_23 = true := by decide +kernel
def aI_80_24 : sx_IL := [(281, .goto (-275), 3), (284, .aload_n 0, 1), (285, .getfield 80, 3), (288, .iload_n 1, 1), (289, .if_icmp .ne 7, 3), (292, .iconst 1, 1)]
theorem aJ_80_24 : sx_iB prog_8_method_28_code aI_80_24 = true := by decide +kernel
def aI_80_25 : sx_IL := [(293, .goto 4, 3), (296, .iconst 0, 1), (297, .ireturn, 1)]
theorem aJ_80_25 : sx_iB prog_8_method_28_code aI_80_25 = true := by decide +kernel
def aS_80 (pc : Nat) : sx_IL := (if pc < 151 then (if pc < 68 then (if pc < 32 then (if pc < 9 then aI_80_0 else (if pc < 21 then aI_80_1 else aI_80_2)) else (if pc < 43 then aI_80_3 else (if pc < 59 then aI_80_4 else aI_80_5))) else (if pc < 100 then (if pc < 79 then aI_80_6 else (if pc < 91 then aI_80_7 else aI_80_8)) else (if pc < 128 then (if pc < 113 then aI_80_9 else aI_80_10) else (if pc < 140 then aI_80_11 else aI_80_12)))) else (if pc < 222 then (if pc < 187 then (if pc < 161 then aI_80_13 else (if pc < 173 then aI_80_14 else aI_80_15)) else (if pc < 201 then aI_80_16 else (if pc < 213 then aI_80_17 else aI_80_18))) else (if pc < 257 then (if pc < 233 then aI_80_19 else (if pc < 245 then aI_80_20 else aI_80_21)) else (if pc < 281 then (if pc < 269 then aI_80_22 else aI_80_23) else (if pc < 293 then aI_80_24 else aI_80_25)))))
theorem aT_80 (pc : Nat) : sx_iOk prog_8_method_28_code (aS_80 pc) := (sx_ite (p := fun l => sx_iOk prog_8_method_28_code l) (sx_ite (p := fun l => sx_iOk prog_8_method_28_code l) (sx_ite (p := fun l => sx_iOk prog_8_method_28_code l) (sx_ite (p := fun l => sx_iOk prog_8_method_28_code l) (sx_iB_s aJ_80_0) (sx_ite (p := fun l => sx_iOk prog_8_method_28_code l) (sx_iB_s aJ_80_1) (sx_iB_s aJ_80_2))) (sx_ite (p := fun l => sx_iOk prog_8_method_28_code l) (sx_iB_s aJ_80_3) (sx_ite (p := fun l => sx_iOk prog_8_method_28_code l) (sx_iB_s aJ_80_4) (sx_iB_s aJ_80_5)))) (sx_ite (p := fun l => sx_iOk prog_8_method_28_code l) (sx_ite (p := fun l => sx_iOk prog_8_method_28_code l) (sx_iB_s aJ_80_6) (sx_ite (p := fun l => sx_iOk prog_8_method_28_code l) (sx_iB_s aJ_80_7) (sx_iB_s aJ_80_8))) (sx_ite (p := fun l => sx_iOk prog_8_method_28_code l) (sx_ite (p := fun l => sx_iOk prog_8_method_28_code l) (sx_iB_s aJ_80_9) (sx_iB_s aJ_80_10)) (sx_ite (p := fun l => sx_iOk prog_8_method_28_code l) (sx_iB_s aJ_80_11) (sx_iB_s aJ_80_12))))) (sx_ite (p := fun l => sx_iOk prog_8_method_28_code l) (sx_ite (p := fun l => sx_iOk prog_8_method_28_code l) (sx_ite (p := fun l => sx_iOk prog_8_method_28_code l) (sx_iB_s aJ_80_13) (sx_ite (p := fun l => sx_iOk prog_8_method_28_code l) (sx_iB_s aJ_80_14) (sx_iB_s aJ_80_15))) (sx_ite (p := fun l => sx_iOk prog_8_method_28_code l) (sx_iB_s aJ_80_16) (sx_ite (p := fun l => sx_iOk prog_8_method_28_code l) (sx_iB_s aJ_80_17) (sx_iB_s aJ_80_18)))) (sx_ite (p := fun l => sx_iOk prog_8_method_28_code l) (sx_ite (p := fun l => sx_iOk prog_8_method_28_code l) (sx_iB_s aJ_80_19) (sx_ite (p := fun l => sx_iOk prog_8_method_28_code l) (sx_iB_s aJ_80_20) (sx_iB_s aJ_80_21))) (sx_ite (p := fun l => sx_iOk prog_8_method_28_code l) (sx_ite (p := fun l => sx_iOk prog_8_method_28_code l) (sx_iB_s aJ_80_22) (sx_iB_s aJ_80_23)) (sx_ite (p := fun l => sx_iOk prog_8_method_28_code l) (sx_iB_s aJ_80_24) (sx_iB_s aJ_80_25))))))
def aW_80 : Nat → Option (Instr × Nat) := fun pc => sx_iF (aS_80 pc) pc
theorem aX_80 : ∀ pc i len, aW_80 pc = some (i, len) → decode aM_80.1.2.1 pc = .ok (i, len) := fun pc i len h => sx_iF_s (aT_80 pc) h
def aI_81_0 : sx_IL := [(0, .iconst 0, 1), (1, .istore_n 3, 1), (2, .aload_n 0, 1), (3, .getfield 80, 3), (6, .iload_n 2, 1), (7, .if_icmp .ge 204, 3)]
theorem aJ_81_0 : sx_iB prog_8_method_29_code aI_81_0 = true := by decide +kernel
def aI_81_1 : sx_IL := [(10, .iload_n 3, 1), (11, .iconst 4, 1), (12, .if_icmp .ge 199, 3), (15, .aload_n 0, 1), (16, .getfield 80, 3), (19, .iconst 1, 1)]
theorem aJ_81_1 : sx_iB prog_8_method_29_code aI_81_1 = true := by decide +kernel
def aI_81_2 : sx_IL := [(20, .iadd, 1), (21, .iload_n 2, 1), (22, .if_icmp .ge 38, 3), (25, .aload_n 0, 1), (26, .getfield 28, 3), (29, .aload_n 0, 1)]
theorem aJ_81_2 : sx_iB prog_8_method_29_code aI_81_2 = true := by decide +kernel
def aI_81_3 : sx_IL := [(30, .getfield 80, 3), (33, .iaload, 1), (34, .bipush 12, 2), (36, .if_icmp .ne 24, 3), (39, .aload_n 0, 1), (40, .getfield 28, 3)]
theorem aJ_81_3 : sx_iB prog_8_method_29_code aI_81_3 = true := by decide +kernel
def aI_81_4 : sx_IL := [(43, .aload_n 0, 1), (44, .getfield 80, 3), (47, .iconst 1, 1), (48, .iadd, 1), (49, .iaload, 1), (50, .sipush 128, 3)]
theorem aJ_81_4 : sx_iB prog_8_method_29_code aI_81_4 = true := by decide +kernel
def aI_81_5 : sx_IL := [(53, .if_icmp .ge 7, 3), (56, .iconst 1, 1), (57, .goto 4, 3), (60, .iconst 0, 1), (61, .istore 4, 2), (63, .iload 4, 2)]
theorem aJ_81_5 : sx_iB prog_8_method_29_code aI_81_5 = true := by decide +kernel
def aI_81_6 : sx_IL := [(65, .ifCond .eq 24, 3), (68, .aload_n 0, 1), (69, .getfield 80, 3), (72, .iconst 2, 1), (73, .iadd, 1), (74, .aload_n 0, 1)]
theorem aJ_81_6 : sx_iB prog_8_method_29_code aI_81_6 = true := by decide +kernel
def aI_81_7 : sx_IL := [(75, .getfield 28, 3), (78, .aload_n 0, 1), (79, .getfield 80, 3), (82, .iconst 1, 1), (83, .iadd, 1), (84, .iaload, 1)]
theorem aJ_81_7 : sx_iB prog_8_method_29_code aI_81_7 = true := by decide +kernel
def aI_81_8 : sx_IL := [(85, .iadd, 1), (86, .goto 4, 3), (89, .iconst (-1), 1), (90, .istore 5, 2), (92, .iload 5, 2), (94, .ifCond .lt 9, 3)]
theorem aJ_81_8 : sx_iB prog_8_method_29_code aI_81_8 = true := by decide +kernel
def aI_81_9 : sx_IL := [(97, .iload 5, 2), (99, .iload_n 2, 1), (100, .if_icmp .le 5, 3), (103, .iconst 0, 1), (104, .ireturn, 1), (105, .aload_n 0, 1)]
theorem aJ_81_9 : sx_iB prog_8_method_29_code aI_81_9 = true := by decide +kernel
def aI_81_10 : sx_IL := [(106, .dup, 1), (107, .getfield 80, 3), (110, .iconst 2, 1), (111, .iadd, 1), (112, .putfield 80, 3), (115, .iload_n 1, 1)]
theorem aJ_81_10 : sx_iB prog_8_method_29_code aI_81_10 = true := by decide +kernel
def aI_81_11 : sx_IL := [(116, .ifCond .ne 19, 3), (119, .aload_n 0, 1), (120, .getfield 28, 3), (123, .aload_n 0, 1), (124, .getfield 80, 3), (127, .iload 5, 2)]
theorem aJ_81_11 : sx_iB prog_8_method_29_code aI_81_11 = true := by decide +kernel
def aI_81_12 : sx_IL := [(129, .invokestatic 62, 3), (132, .goto 7, 3), (135, .aload_n 0, 1), (136, .getfield 80, 3), (139, .istore 6, 2), (141, .aload_n 0, 1)]
theorem aJ_81_12 : sx_iB prog_8_method_29_code aI_81_12 = true := by decide +kernel
def aI_81_13 : sx_IL := [(142, .getfield 28, 3), (145, .iload 6, 2), (147, .iload 5, 2), (149, .invokestatic 59, 3), (152, .ifCond .ge 28, 3), (155, .iload 6, 2)]
theorem aJ_81_13 : sx_iB prog_8_method_29_code aI_81_13 = true := by decide +kernel
def aI_81_14 : sx_IL := [(157, .aload_n 0, 1), (158, .getfield 80, 3), (161, .if_icmp .le 21, 3), (164, .aload_n 0, 1), (165, .getfield 28, 3), (168, .iload 6, 2)]
theorem aJ_81_14 : sx_iB prog_8_method_29_code aI_81_14 = true := by decide +kernel
def aI_81_15 : sx_IL := [(170, .iload 5, 2), (172, .invokestatic 65, 3), (175, .iload 5, 2), (177, .if_icmp .ne 5, 3), (180, .iconst 0, 1), (181, .ireturn, 1)]
theorem aJ_81_15 : sx_iB prog_8_method_29_code aI_81_15 = true := by decide +kernel
def aI_81_16 : sx_IL := [(182, .aload_n 0, 1), (183, .iconst 4, 1), (184, .iconst 4, 1), (185, .iload_n 1, 1), (186, .imul, 1), (187, .iadd, 1)]
theorem aJ_81_16 : sx_iB prog_8_method_29_code aI_81_16 = true := by decide +kernel
def aI_81_17 : sx_IL := [(188, .iload_n 3, 1), (189, .iadd, 1), (190, .aload_n 0, 1), (191, .getfield 80, 3), (194, .iload 5, 2), (196, .invokevirtual 90, 3)]
theorem aJ_81_17 : sx_iB prog_8_method_29_code aI_81_17 = true := by decide +kernel
def aI_81_18 : sx_IL := [(199, .iinc 3 1, 3), (202, .aload_n 0, 1), (203, .iload 5, 2), (205, .putfield 80, 3), (208, .goto (-206), 3), (211, .aload_n 0, 1)]
theorem aJ_81_18 : sx_iB prog_8_method_29_code aI_81_18 = true := by decide +kernel
def aI_81_19 : sx_IL := [(212, .getfield 9, 3), (215, .bipush 8, 2), (217, .iload_n 1, 1), (218, .iadd, 1), (219, .iload_n 3, 1), (220, .iastore, 1)]
theorem aJ_81_19 : sx_iB prog_8_method_29_code aI_81_19 = true := by decide +kernel
def aI_81_20 : sx_IL := [(221, .iload_n 3, 1), (222, .ifCond .le 15, 3), (225, .aload_n 0, 1), (226, .getfield 80, 3), (229, .iload_n 2, 1), (230, .if_icmp .ne 7, 3)]
theorem aJ_81_20 : sx_iB prog_8_method_29_code aI_81_20 = true := by decide +kernel
def aI_81_21 : sx_IL := [(233, .iconst 1, 1), (234, .goto 4, 3), (237, .iconst 0, 1), (238, .ireturn, 1)]
theorem aJ_81_21 : sx_iB prog_8_method_29_code aI_81_21 = true := by decide +kernel
def aS_81 (pc : Nat) : sx_IL := (if pc < 116 then (if pc < 53 then (if pc < 20 then (if pc < 10 then aI_81_0 else aI_81_1) else (if pc < 30 then aI_81_2 else (if pc < 43 then aI_81_3 else aI_81_4))) else (if pc < 85 then (if pc < 65 then aI_81_5 else (if pc < 75 then aI_81_6 else aI_81_7)) else (if pc < 97 then aI_81_8 else (if pc < 106 then aI_81_9 else aI_81_10)))) else (if pc < 182 then (if pc < 142 then (if pc < 129 then aI_81_11 else aI_81_12) else (if pc < 157 then aI_81_13 else (if pc < 170 then aI_81_14 else aI_81_15))) else (if pc < 212 then (if pc < 188 then aI_81_16 else (if pc < 199 then aI_81_17 else aI_81_18)) else (if pc < 221 then aI_81_19 else (if pc < 233 then aI_81_20 else aI_81_21)))))
theorem aT_81 (pc : Nat) : sx_iOk prog_8_method_29_code (aS_81 pc) := (sx_ite (p := fun l => sx_iOk prog_8_method_29_code l) (sx_ite (p := fun l => sx_iOk prog_8_method_29_code l) (sx_ite (p := fun l => sx_iOk prog_8_method_29_code l) (sx_ite (p := fun l => sx_iOk prog_8_method_29_code l) (sx_iB_s aJ_81_0) (sx_iB_s aJ_81_1)) (sx_ite (p := fun l => sx_iOk prog_8_method_29_code l) (sx_iB_s aJ_81_2) (sx_ite (p := fun l => sx_iOk prog_8_method_29_code l) (sx_iB_s aJ_81_3) (sx_iB_s aJ_81_4)))) (sx_ite (p := fun l => sx_iOk prog_8_method_29_code l) (sx_ite (p := fun l => sx_iOk prog_8_method_29_code l) (sx_iB_s aJ_81_5) (sx_ite (p := fun l => sx_iOk prog_8_method_29_code l) (sx_iB_s aJ_81_6) (sx_iB_s aJ_81_7))) (sx_ite (p := fun l => sx_iOk prog_8_method_29_code l) (sx_iB_s aJ_81_8) (sx_ite (p := fun l => sx_iOk prog_8_method_29_code l) (sx_iB_s aJ_81_9) (sx_iB_s aJ_81_10))))) (sx_ite (p := fun l => sx_iOk prog_8_method_29_code l) (sx_ite (p := fun l => sx_iOk prog_8_method_29_code l) (sx_ite (p := fun l => sx_iOk prog_8_method_29_code l) (sx_iB_s aJ_81_11) (sx_iB_s aJ_81_12)) (sx_ite (p := fun l => sx_iOk prog_8_method_29_code l) (sx_iB_s aJ_81_13) (sx_ite (p := fun l => sx_iOk prog_8_method_29_code l) (sx_iB_s aJ_81_14) (sx_iB_s aJ_81_15)))) (sx_ite (p := fun l => sx_iOk prog_8_method_29_code l) (sx_ite (p := fun l => sx_iOk prog_8_method_29_code l) (sx_iB_s aJ_81_16) (sx_ite (p := fun l => sx_iOk prog_8_method_29_code l) (sx_iB_s aJ_81_17) (sx_iB_s aJ_81_18))) (sx_ite (p := fun l => sx_iOk prog_8_method_29_code l) (sx_iB_s aJ_81_19) (sx_ite (p := fun l => sx_iOk prog_8_method_29_code l) (sx_iB_s aJ_81_20) (sx_iB_s aJ_81_21))))))
def aW_81 : Nat → Option (Instr × Nat) := fun pc => sx_iF (aS_81 pc) pc
theorem aX_81 : ∀ pc i len, aW_81 pc = some (i, len) → decode aM_81.1.2.1 pc = .ok (i, len) := fun pc i len h => sx_iF_s (aT_81 pc) h
def aI_82_0 : sx_IL := [(0, .iload_n 2, 1), (1, .iload_n 1, 1), (2, .isub, 1), (3, .iconst 2, 1), (4, .if_icmp .le 27, 3), (7, .aload_n 0, 1)]
theorem aJ_82_0 : sx_iB prog_8_method_13_code aI_82_0 = true := by decide +kernel
def aI_82_1 : sx_IL := [(8, .iload_n 1, 1), (9, .iaload, 1), (10, .bipush 42, 2), (12, .if_icmp .ne 19, 3), (15, .aload_n 0, 1), (16, .iload_n 1, 1)]
theorem aJ_82_1 : sx_iB prog_8_method_13_code aI_82_1 = true := by decide +kernel
def aI_82_2 : sx_IL := [(17, .iconst 1, 1), (18, .iadd, 1), (19, .iaload, 1), (20, .bipush 46, 2), (22, .if_icmp .ne 9, 3), (25, .iload_n 1, 1)]
theorem aJ_82_2 : sx_iB prog_8_method_13_code aI_82_2 = true := by decide +kernel
def aI_82_3 : sx_IL := [(26, .iconst 2, 1), (27, .iadd, 1), (28, .goto 4, 3), (31, .iload_n 1, 1), (32, .ireturn, 1)]
theorem aJ_82_3 : sx_iB prog_8_method_13_code aI_82_3 = true := by decide +kernel
def aS_82 (pc : Nat) : sx_IL := (if pc < 17 then (if pc < 8 then aI_82_0 else aI_82_1) else (if pc < 26 then aI_82_2 else aI_82_3))
theorem aT_82 (pc : Nat) : sx_iOk prog_8_method_13_code (aS_82 pc) := (sx_ite (p := fun l => sx_iOk prog_8_method_13_code l) (sx_ite (p := fun l => sx_iOk prog_8_method_13_code l) (sx_iB_s aJ_82_0) (sx_iB_s aJ_82_1)) (sx_ite (p := fun l => sx_iOk prog_8_method_13_code l) (sx_iB_s aJ_82_2) (sx_iB_s aJ_82_3)))
def aW_82 : Nat → Option (Instr × Nat) := fun pc => sx_iF (aS_82 pc) pc
theorem aX_82 : ∀ pc i len, aW_82 pc = some (i, len) → decode aM_82.1.2.1 pc = .ok (i, len) := fun pc i len h => sx_iF_s (aT_82 pc) h
def aI_83_0 : sx_IL := [(0, .iload_n 1, 1), (1, .istore_n 3, 1), (2, .iload_n 3, 1), (3, .iload_n 2, 1), (4, .if_icmp .ge 17, 3), (7, .aload_n 0, 1)]
theorem aJ_83_0 : sx_iB prog_8_method_15_code aI_83_0 = true := by decide +kernel
def aI_83_1 : sx_IL := [(8, .iload_n 3, 1), (9, .iaload, 1), (10, .bipush 46, 2), (12, .if_icmp .eq 9, 3), (15, .iinc 3 1, 3), (18, .goto (-16), 3)]
theorem aJ_83_1 : sx_iB prog_8_method_15_code aI_83_1 = true := by decide +kernel
def aI_83_2 : sx_IL := [(21, .iload_n 3, 1), (22, .ireturn, 1)]
theorem aJ_83_2 : sx_iB prog_8_method_15_code aI_83_2 = true := by decide +kernel
def aS_83 (pc : Nat) : sx_IL := (if pc < 8 then aI_83_0 else (if pc < 21 then aI_83_1 else aI_83_2))
theorem aT_83 (pc : Nat) : sx_iOk prog_8_method_15_code (aS_83 pc) := (sx_ite (p := fun l => sx_iOk prog_8_method_15_code l) (sx_iB_s aJ_83_0) (sx_ite (p := fun l => sx_iOk prog_8_method_15_code l) (sx_iB_s aJ_83_1) (sx_iB_s aJ_83_2)))
def aW_83 : Nat → Option (Instr × Nat) := fun pc => sx_iF (aS_83 pc) pc
theorem aX_83 : ∀ pc i len, aW_83 pc = some (i, len) → decode aM_83.1.2.1 pc = .ok (i, len) := fun pc i len h => sx_iF_s (aT_83 pc) h
def aI_84_0 : sx_IL := [(0, .aload_n 0, 1), (1, .iconst 4, 1), (2, .iload_n 1, 1), (3, .invokevirtual 83, 3), (6, .istore_n 2, 1), (7, .iload_n 2, 1)]
theorem aJ_84_0 : sx_iB prog_8_method_26_code aI_84_0 = true := by decide +kernel
def aI_84_1 : sx_IL := [(8, .ifCond .lt 26, 3), (11, .iload_n 2, 1), (12, .aload_n 0, 1), (13, .getfield 80, 3), (16, .isub, 1), (17, .sipush 160, 3)]
theorem aJ_84_1 : sx_iB prog_8_method_26_code aI_84_1 = true := by decide +kernel
def aI_84_2 : sx_IL := [(20, .if_icmp .gt 14, 3), (23, .iload_n 2, 1), (24, .aload_n 0, 1), (25, .getfield 80, 3), (28, .isub, 1), (29, .iconst 4, 1)]
theorem aJ_84_2 : sx_iB prog_8_method_26_code aI_84_2 = true := by decide +kernel
def aI_84_3 : sx_IL := [(30, .irem, 1), (31, .ifCond .eq 5, 3), (34, .iconst 0, 1), (35, .ireturn, 1), (36, .aload_n 0, 1), (37, .iconst 3, 1)]
theorem aJ_84_3 : sx_iB prog_8_method_26_code aI_84_3 = true := by decide +kernel
def aI_84_4 : sx_IL := [(38, .aload_n 0, 1), (39, .getfield 80, 3), (42, .iload_n 2, 1), (43, .invokevirtual 90, 3), (46, .iconst 0, 1), (47, .istore_n 3, 1)]
theorem aJ_84_4 : sx_iB prog_8_method_26_code aI_84_4 = true := by decide +kernel
def aI_84_5 : sx_IL := [(48, .aload_n 0, 1), (49, .getfield 80, 3), (52, .iload_n 2, 1), (53, .if_icmp .ge 37, 3), (56, .aload_n 0, 1), (57, .aload_n 0, 1)]
theorem aJ_84_5 : sx_iB prog_8_method_26_code aI_84_5 = true := by decide +kernel
def aI_84_6 : sx_IL := [(58, .getfield 80, 3), (61, .invokevirtual 94, 3), (64, .istore 4, 2), (66, .iload 4, 2), (68, .iload_n 3, 1), (69, .if_icmp .gt 5, 3)]
theorem aJ_84_6 : sx_iB prog_8_method_26_code aI_84_6 = true := by decide +kernel
def aI_84_7 : sx_IL := [(72, .iconst 0, 1), (73, .ireturn, 1), (74, .iload 4, 2), (76, .istore_n 3, 1), (77, .aload_n 0, 1), (78, .dup, 1)]
theorem aJ_84_7 : sx_iB prog_8_method_26_code aI_84_7 = true := by decide +kernel
def aI_84_8 : sx_IL := [(79, .getfield 80, 3), (82, .iconst 4, 1), (83, .iadd, 1), (84, .putfield 80, 3), (87, .goto (-39), 3), (90, .iconst 1, 1)]
theorem aJ_84_8 : sx_iB prog_8_method_26_code aI_84_8 = true := by decide +kernel
def aI_84_9 : sx_IL := [(91, .ireturn, 1)]
theorem aJ_84_9 : sx_iB prog_8_method_26_code aI_84_9 = true := by decide +kernel
def aS_84 (pc : Nat) : sx_IL := (if pc < 48 then (if pc < 20 then (if pc < 8 then aI_84_0 else aI_84_1) else (if pc < 30 then aI_84_2 else (if pc < 38 then aI_84_3 else aI_84_4))) else (if pc < 72 then (if pc < 58 then aI_84_5 else aI_84_6) else (if pc < 79 then aI_84_7 else (if pc < 91 then aI_84_8 else aI_84_9))))
theorem aT_84 (pc : Nat) : sx_iOk prog_8_method_26_code (aS_84 pc) := (sx_ite (p := fun l => sx_iOk prog_8_method_26_code l) (sx_ite (p := fun l => sx_iOk prog_8_method_26_code l) (sx_ite (p := fun l => sx_iOk prog_8_method_26_code l) (sx_iB_s aJ_84_0) (sx_iB_s aJ_84_1)) (sx_ite (p := fun l => sx_iOk prog_8_method_26_code l) (sx_iB_s aJ_84_2) (sx_ite (p := fun l => sx_iOk prog_8_method_26_code l) (sx_iB_s aJ_84_3) (sx_iB_s aJ_84_4)))) (sx_ite (p := fun l => sx_iOk prog_8_method_26_code l) (sx_ite (p := fun l => sx_iOk prog_8_method_26_code l) (sx_iB_s aJ_84_5) (sx_iB_s aJ_84_6)) (sx_ite (p := fun l => sx_iOk prog_8_method_26_code l) (sx_iB_s aJ_84_7) (sx_ite (p := fun l => sx_iOk prog_8_method_26_code l) (sx_iB_s aJ_84_8) (sx_iB_s aJ_84_9)))))
def aW_84 : Nat → Option (Instr × Nat) := fun pc => sx_iF (aS_84 pc) pc
theorem aX_84 : ∀ pc i len, aW_84 pc = some (i, len) → decode aM_84.1.2.1 pc = .ok (i, len) := fun pc i len h => sx_iF_s (aT_84 pc) h
def aI_85_0 : sx_IL := [(0, .aload_n 0, 1), (1, .getfield 28, 3), (4, .iconst 0, 1), (5, .aload_n 0, 1), (6, .getfield 9, 3), (9, .bipush 11, 2)]
theorem aJ_85_0 : sx_iB prog_8_method_5_code aI_85_0 = true := by decide +kernel
def aI_85_1 : sx_IL := [(11, .iaload, 1), (12, .aload_n 1, 1), (13, .getfield 28, 3), (16, .iconst 0, 1), (17, .aload_n 1, 1), (18, .getfield 9, 3)]
theorem aJ_85_1 : sx_iB prog_8_method_5_code aI_85_1 = true := by decide +kernel
def aI_85_2 : sx_IL := [(21, .bipush 11, 2), (23, .iaload, 1), (24, .invokestatic 31, 3), (27, .ireturn, 1)]
theorem aJ_85_2 : sx_iB prog_8_method_5_code aI_85_2 = true := by decide +kernel
def aS_85 (pc : Nat) : sx_IL := (if pc < 11 then aI_85_0 else (if pc < 21 then aI_85_1 else aI_85_2))
theorem aT_85 (pc : Nat) : sx_iOk prog_8_method_5_code (aS_85 pc) := (sx_ite (p := fun l => sx_iOk prog_8_method_5_code l) (sx_iB_s aJ_85_0) (sx_ite (p := fun l => sx_iOk prog_8_method_5_code l) (sx_iB_s aJ_85_1) (sx_iB_s aJ_85_2)))
def aW_85 : Nat → Option (Instr × Nat) := fun pc => sx_iF (aS_85 pc) pc
theorem aX_85 : ∀ pc i len, aW_85 pc = some (i, len) → decode aM_85.1.2.1 pc = .ok (i, len) := fun pc i len h => sx_iF_s (aT_85 pc) h
def aI_86_0 : sx_IL := [(0, .iload_n 2, 1), (1, .iload_n 1, 1), (2, .isub, 1), (3, .iload 5, 2), (5, .iload 4, 2), (7, .isub, 1)]
theorem aJ_86_0 : sx_iB prog_9_method_18_code aI_86_0 = true := by decide +kernel
def aI_86_1 : sx_IL := [(8, .if_icmp .ne 25, 3), (11, .iload_n 1, 1), (12, .ifCond .lt 21, 3), (15, .iload 4, 2), (17, .ifCond .lt 16, 3), (20, .iload_n 2, 1)]
theorem aJ_86_1 : sx_iB prog_9_method_18_code aI_86_1 = true := by decide +kernel
def aI_86_2 : sx_IL := [(21, .aload_n 0, 1), (22, .arraylength, 1), (23, .if_icmp .gt 10, 3), (26, .iload 5, 2), (28, .aload_n 3, 1), (29, .arraylength, 1)]
theorem aJ_86_2 : sx_iB prog_9_method_18_code aI_86_2 = true := by decide +kernel
def aI_86_3 : sx_IL := [(30, .if_icmp .le 5, 3), (33, .iconst 0, 1), (34, .ireturn, 1), (35, .iconst 0, 1), (36, .istore 6, 2), (38, .iload 6, 2)]
theorem aJ_86_3 : sx_iB prog_9_method_18_code aI_86_3 = true := by decide +kernel
def aI_86_4 : sx_IL := [(40, .iload_n 2, 1), (41, .iload_n 1, 1), (42, .isub, 1), (43, .if_icmp .ge 27, 3), (46, .aload_n 0, 1), (47, .iload_n 1, 1)]
theorem aJ_86_4 : sx_iB prog_9_method_18_code aI_86_4 = true := by decide +kernel
def aI_86_5 : sx_IL := [(48, .iload 6, 2), (50, .iadd, 1), (51, .iaload, 1), (52, .aload_n 3, 1), (53, .iload 4, 2), (55, .iload 6, 2)]
theorem aJ_86_5 : sx_iB prog_9_method_18_code aI_86_5 = true := by decide +kernel
def aI_86_6 : sx_IL := [(57, .iadd, 1), (58, .iaload, 1), (59, .if_icmp .eq 5, 3), (62, .iconst 0, 1), (63, .ireturn, 1), (64, .iinc 6 1, 3)]
theorem aJ_86_6 : sx_iB prog_9_method_18_code aI_86_6 = true := by decide +kernel
def aI_86_7 : sx_IL := [(67, .goto (-29), 3), (70, .iconst 1, 1), (71, .ireturn, 1)]
theorem aJ_86_7 : sx_iB prog_9_method_18_code aI_86_7 = true := by decide +kernel
def aS_86 (pc : Nat) : sx_IL := (if pc < 40 then (if pc < 21 then (if pc < 8 then aI_86_0 else aI_86_1) else (if pc < 30 then aI_86_2 else aI_86_3)) else (if pc < 57 then (if pc < 48 then aI_86_4 else aI_86_5) else (if pc < 67 then aI_86_6 else aI_86_7)))
theorem aT_86 (pc : Nat) : sx_iOk prog_9_method_18_code (aS_86 pc) := (sx_ite (p := fun l => sx_iOk prog_9_method_18_code l) (sx_ite (p := fun l => sx_iOk prog_9_method_18_code l) (sx_ite (p := fun l => sx_iOk prog_9_method_18_code l) (sx_iB_s aJ_86_0) (sx_iB_s aJ_86_1)) (sx_ite (p := fun l => sx_iOk prog_9_method_18_code l) (sx_iB_s aJ_86_2) (sx_iB_s aJ_86_3))) (sx_ite (p := fun l => sx_iOk prog_9_method_18_code l) (sx_ite (p := fun l => sx_iOk prog_9_method_18_code l) (sx_iB_s aJ_86_4) (sx_iB_s aJ_86_5)) (sx_ite (p := fun l => sx_iOk prog_9_method_18_code l) (sx_iB_s aJ_86_6) (sx_iB_s aJ_86_7))))
def aW_86 : Nat → Option (Instr × Nat) := fun pc => sx_iF (aS_86 pc) pc
theorem aX_86 : ∀ pc i len, aW_86 pc = some (i, len) → decode aM_86.1.2.1 pc = .ok (i, len) := fun pc i len h => sx_iF_s (aT_86 pc) h
def aI_87_0 : sx_IL := [(0, .aload_n 0, 1), (1, .iconst 1, 1), (2, .invokevirtual 186, 3), (5, .ireturn, 1)]
theorem aJ_87_0 : sx_iB prog_1_method_23_code aI_87_0 = true := by decide +kernel
def aS_87 (pc : Nat) : sx_IL := aI_87_0
theorem aT_87 (pc : Nat) : sx_iOk prog_1_method_23_code (aS_87 pc) := (sx_iB_s aJ_87_0)
def aW_87 : Nat → Option (Instr × Nat) := fun pc => sx_iF (aS_87 pc) pc
theorem aX_87 : ∀ pc i len, aW_87 pc = some (i, len) → decode aM_87.1.2.1 pc = .ok (i, len) := fun pc i len h => sx_iF_s (aT_87 pc) h
def aI_88_0 : sx_IL := [(0, .aload_n 0, 1), (1, .iconst 2, 1), (2, .invokevirtual 186, 3), (5, .ireturn, 1)]
theorem aJ_88_0 : sx_iB prog_1_method_24_code aI_88_0 = true := by decide +kernel
def aS_88 (pc : Nat) : sx_IL := aI_88_0
theorem aT_88 (pc : Nat) : sx_iOk prog_1_method_24_code (aS_88 pc) := (sx_iB_s aJ_88_0)
def aW_88 : Nat → Option (Instr × Nat) := fun pc => sx_iF (aS_88 pc) pc
theorem aX_88 : ∀ pc i len, aW_88 pc = some (i, len) → decode aM_88.1.2.1 pc = .ok (i, len) := fun pc i len h => sx_iF_s (aT_88 pc) h
def aI_89_0 : sx_IL := [(0, .aload_n 0, 1), (1, .iload_n 1, 1), (2, .invokevirtual 193, 3), (5, .ifCond .eq 13, 3), (8, .iload_n 2, 1), (9, .ifCond .lt 9, 3)]
theorem aJ_89_0 : sx_iB prog_1_method_26_code aI_89_0 = true := by decide +kernel
def aI_89_1 : sx_IL := [(12, .iload_n 2, 1), (13, .bipush 11, 2), (15, .if_icmp .le 5, 3), (18, .iconst (-1), 1), (19, .ireturn, 1), (20, .aload_n 0, 1)]
theorem aJ_89_1 : sx_iB prog_1_method_26_code aI_89_1 = true := by decide +kernel
def aI_89_2 : sx_IL := [(21, .getfield 10, 3), (24, .getfield 196, 3), (27, .iload_n 1, 1), (28, .aaload, 1), (29, .getfield 200, 3), (32, .iload_n 2, 1)]
theorem aJ_89_2 : sx_iB prog_1_method_26_code aI_89_2 = true := by decide +kernel
def aI_89_3 : sx_IL := [(33, .iaload, 1), (34, .ireturn, 1)]
theorem aJ_89_3 : sx_iB prog_1_method_26_code aI_89_3 = true := by decide +kernel
def aS_89 (pc : Nat) : sx_IL := (if pc < 21 then (if pc < 12 then aI_89_0 else aI_89_1) else (if pc < 33 then aI_89_2 else aI_89_3))
theorem aT_89 (pc : Nat) : sx_iOk prog_1_method_26_code (aS_89 pc) := (sx_ite (p := fun l => sx_iOk prog_1_method_26_code l) (sx_ite (p := fun l => sx_iOk prog_1_method_26_code l) (sx_iB_s aJ_89_0) (sx_iB_s aJ_89_1)) (sx_ite (p := fun l => sx_iOk prog_1_method_26_code l) (sx_iB_s aJ_89_2) (sx_iB_s aJ_89_3)))
def aW_89 : Nat → Option (Instr × Nat) := fun pc => sx_iF (aS_89 pc) pc
theorem aX_89 : ∀ pc i len, aW_89 pc = some (i, len) → decode aM_89.1.2.1 pc = .ok (i, len) := fun pc i len h => sx_iF_s (aT_89 pc) h
def aI_90_0 : sx_IL := [(0, .iload_n 1, 1), (1, .ifCond .lt 18, 3), (4, .iload_n 1, 1), (5, .aload_n 0, 1), (6, .getfield 10, 3), (9, .getfield 210, 3)]
theorem aJ_90_0 : sx_iB prog_1_method_28_code aI_90_0 = true := by decide +kernel
def aI_90_1 : sx_IL := [(12, .if_icmp .ge 7, 3), (15, .iconst 1, 1), (16, .goto 4, 3), (19, .iconst 0, 1), (20, .ireturn, 1)]
theorem aJ_90_1 : sx_iB prog_1_method_28_code aI_90_1 = true := by decide +kernel
def aS_90 (pc : Nat) : sx_IL := (if pc < 12 then aI_90_0 else aI_90_1)
theorem aT_90 (pc : Nat) : sx_iOk prog_1_method_28_code (aS_90 pc) := (sx_ite (p := fun l => sx_iOk prog_1_method_28_code l) (sx_iB_s aJ_90_0) (sx_iB_s aJ_90_1))
def aW_90 : Nat → Option (Instr × Nat) := fun pc => sx_iF (aS_90 pc) pc
theorem aX_90 : ∀ pc i len, aW_90 pc = some (i, len) → decode aM_90.1.2.1 pc = .ok (i, len) := fun pc i len h => sx_iF_s (aT_90 pc) h
def aI_91_0 : sx_IL := [(0, .aload_n 0, 1), (1, .iload_n 1, 1), (2, .invokevirtual 193, 3), (5, .ifCond .ne 5, 3), (8, .iconst (-1), 1), (9, .ireturn, 1)]
theorem aJ_91_0 : sx_iB prog_1_method_27_code aI_91_0 = true := by decide +kernel
def aI_91_1 : sx_IL := [(10, .aload_n 0, 1), (11, .getfield 10, 3), (14, .getfield 196, 3), (17, .iload_n 1, 1), (18, .aaload, 1), (19, .astore 4, 2)]
theorem aJ_91_1 : sx_iB prog_1_method_27_code aI_91_1 = true := by decide +kernel
def aI_91_2 : sx_IL := [(21, .iconst 0, 1), (22, .istore 5, 2), (24, .aload 4, 2), (26, .getfield 200, 3), (29, .bipush 11, 2), (31, .iaload, 1)]
theorem aJ_91_2 : sx_iB prog_1_method_27_code aI_91_2 = true := by decide +kernel
def aI_91_3 : sx_IL := [(32, .istore 6, 2), (34, .iload_n 2, 1), (35, .bipush 8, 2), (37, .if_icmp .lt 57, 3), (40, .iload_n 2, 1), (41, .bipush 10, 2)]
theorem aJ_91_3 : sx_iB prog_1_method_27_code aI_91_3 = true := by decide +kernel
def aI_91_4 : sx_IL := [(43, .if_icmp .gt 51, 3), (46, .iload_n 3, 1), (47, .ifCond .lt 47, 3), (50, .iload_n 3, 1), (51, .aload 4, 2), (53, .getfield 200, 3)]
theorem aJ_91_4 : sx_iB prog_1_method_27_code aI_91_4 = true := by decide +kernel
def aI_91_5 : sx_IL := [(56, .iload_n 2, 1), (57, .iaload, 1), (58, .if_icmp .ge 36, 3), (61, .iconst 4, 1), (62, .iconst 4, 1), (63, .iload_n 2, 1)]
theorem aJ_91_5 : sx_iB prog_1_method_27_code aI_91_5 = true := by decide +kernel
def aI_91_6 : sx_IL := [(64, .bipush 8, 2), (66, .isub, 1), (67, .imul, 1), (68, .iadd, 1), (69, .iload_n 3, 1), (70, .iadd, 1)]
theorem aJ_91_6 : sx_iB prog_1_method_27_code aI_91_6 = true := by decide +kernel
def aI_91_7 : sx_IL := [(71, .istore 7, 2), (73, .aload 4, 2), (75, .iload 7, 2), (77, .invokevirtual 203, 3), (80, .istore 5, 2), (82, .aload 4, 2)]
theorem aJ_91_7 : sx_iB prog_1_method_27_code aI_91_7 = true := by decide +kernel
def aI_91_8 : sx_IL := [(84, .iload 7, 2), (86, .invokevirtual 206, 3), (89, .istore 6, 2), (91, .goto 39, 3), (94, .iload_n 2, 1), (95, .ifCond .eq 8, 3)]
theorem aJ_91_8 : sx_iB prog_1_method_27_code aI_91_8 = true := by decide +kernel
def aI_91_9 : sx_IL := [(98, .iload_n 2, 1), (99, .iconst 1, 1), (100, .if_icmp .ne 22, 3), (103, .aload 4, 2), (105, .iload_n 2, 1), (106, .invokevirtual 203, 3)]
theorem aJ_91_9 : sx_iB prog_1_method_27_code aI_91_9 = true := by decide +kernel
def aI_91_10 : sx_IL := [(109, .istore 5, 2), (111, .aload 4, 2), (113, .iload_n 2, 1), (114, .invokevirtual 206, 3), (117, .istore 6, 2), (119, .goto 11, 3)]
theorem aJ_91_10 : sx_iB prog_1_method_27_code aI_91_10 = true := by decide +kernel
def aI_91_11 : sx_IL := [(122, .iload_n 2, 1), (123, .bipush 11, 2), (125, .if_icmp .eq 5, 3), (128, .iconst (-1), 1), (129, .ireturn, 1), (130, .aload_n 0, 1)]
theorem aJ_91_11 : sx_iB prog_1_method_27_code aI_91_11 = true := by decide +kernel
def aI_91_12 : sx_IL := [(131, .getfield 25, 3), (134, .invokevirtual 108, 3), (137, .aload_n 0, 1), (138, .getfield 25, 3), (141, .aload 4, 2), (143, .getfield 209, 3)]
theorem aJ_91_12 : sx_iB prog_1_method_27_code aI_91_12 = true := by decide +kernel
def aI_91_13 : sx_IL := [(146, .iload 5, 2), (148, .iload 6, 2), (150, .invokevirtual 83, 3), (153, .aload_n 0, 1), (154, .getfield 25, 3), (157, .getfield 69, 3)]
theorem aJ_91_13 : sx_iB prog_1_method_27_code aI_91_13 = true := by decide +kernel
def aI_91_14 : sx_IL := [(160, .ireturn, 1)]
theorem aJ_91_14 : sx_iB prog_1_method_27_code aI_91_14 = true := by decide +kernel
def aS_91 (pc : Nat) : sx_IL := (if pc < 71 then (if pc < 32 then (if pc < 10 then aI_91_0 else (if pc < 21 then aI_91_1 else aI_91_2)) else (if pc < 56 then (if pc < 43 then aI_91_3 else aI_91_4) else (if pc < 64 then aI_91_5 else aI_91_6))) else (if pc < 122 then (if pc < 98 then (if pc < 84 then aI_91_7 else aI_91_8) else (if pc < 109 then aI_91_9 else aI_91_10)) else (if pc < 146 then (if pc < 131 then aI_91_11 else aI_91_12) else (if pc < 160 then aI_91_13 else aI_91_14))))
theorem aT_91 (pc : Nat) : sx_iOk prog_1_method_27_code (aS_91 pc) := (sx_ite (p := fun l => sx_iOk prog_1_method_27_code l) (sx_ite (p := fun l => sx_iOk prog_1_method_27_code l) (sx_ite (p := fun l => sx_iOk prog_1_method_27_code l) (sx_iB_s aJ_91_0) (sx_ite (p := fun l => sx_iOk prog_1_method_27_code l) (sx_iB_s aJ_91_1) (sx_iB_s aJ_91_2))) (sx_ite (p := fun l => sx_iOk prog_1_method_27_code l) (sx_ite (p := fun l => sx_iOk prog_1_method_27_code l) (sx_iB_s aJ_91_3) (sx_iB_s aJ_91_4)) (sx_ite (p := fun l => sx_iOk prog_1_method_27_code l) (sx_iB_s aJ_91_5) (sx_iB_s aJ_91_6)))) (sx_ite (p := fun l => sx_iOk prog_1_method_27_code l) (sx_ite (p := fun l => sx_iOk prog_1_method_27_code l) (sx_ite (p := fun l => sx_iOk prog_1_method_27_code l) (sx_iB_s aJ_91_7) (sx_iB_s aJ_91_8)) (sx_ite (p := fun l => sx_iOk prog_1_method_27_code l) (sx_iB_s aJ_91_9) (sx_iB_s aJ_91_10))) (sx_ite (p := fun l => sx_iOk prog_1_method_27_code l) (sx_ite (p := fun l => sx_iOk prog_1_method_27_code l) (sx_iB_s aJ_91_11) (sx_iB_s aJ_91_12)) (sx_ite (p := fun l => sx_iOk prog_1_method_27_code l) (sx_iB_s aJ_91_13) (sx_iB_s aJ_91_14)))))
def aW_91 : Nat → Option (Instr × Nat) := fun pc => sx_iF (aS_91 pc) pc
theorem aX_91 : ∀ pc i len, aW_91 pc = some (i, len) → decode aM_91.1.2.1 pc = .ok (i, len) := fun pc i len h => sx_iF_s (aT_91 pc) h
def aI_92_0 : sx_IL := [(0, .aload_n 0, 1), (1, .getfield 15, 3), (4, .iconst 2, 1), (5, .iload_n 1, 1), (6, .imul, 1), (7, .iaload, 1)]
theorem aJ_92_0 : sx_iB prog_8_method_2_code aI_92_0 = true := by decide +kernel
def aI_92_1 : sx_IL := [(8, .ireturn, 1)]
theorem aJ_92_1 : sx_iB prog_8_method_2_code aI_92_1 = true := by decide +kernel
def aS_92 (pc : Nat) : sx_IL := (if pc < 8 then aI_92_0 else aI_92_1)
theorem aT_92 (pc : Nat) : sx_iOk prog_8_method_2_code (aS_92 pc) := (sx_ite (p := fun l => sx_iOk prog_8_method_2_code l) (sx_iB_s aJ_92_0) (sx_iB_s aJ_92_1))
def aW_92 : Nat → Option (Instr × Nat) := fun pc => sx_iF (aS_92 pc) pc
theorem aX_92 : ∀ pc i len, aW_92 pc = some (i, len) → decode aM_92.1.2.1 pc = .ok (i, len) := fun pc i len h => sx_iF_s (aT_92 pc) h
def aI_93_0 : sx_IL := [(0, .aload_n 0, 1), (1, .getfield 15, 3), (4, .iconst 2, 1), (5, .iload_n 1, 1), (6, .imul, 1), (7, .iconst 1, 1)]
theorem aJ_93_0 : sx_iB prog_8_method_3_code aI_93_0 = true := by decide +kernel
def aI_93_1 : sx_IL := [(8, .iadd, 1), (9, .iaload, 1), (10, .ireturn, 1)]
theorem aJ_93_1 : sx_iB prog_8_method_3_code aI_93_1 = true := by decide +kernel
def aS_93 (pc : Nat) : sx_IL := (if pc < 8 then aI_93_0 else aI_93_1)
theorem aT_93 (pc : Nat) : sx_iOk prog_8_method_3_code (aS_93 pc) := (sx_ite (p := fun l => sx_iOk prog_8_method_3_code l) (sx_iB_s aJ_93_0) (sx_iB_s aJ_93_1))
def aW_93 : Nat → Option (Instr × Nat) := fun pc => sx_iF (aS_93 pc) pc
theorem aX_93 : ∀ pc i len, aW_93 pc = some (i, len) → decode aM_93.1.2.1 pc = .ok (i, len) := fun pc i len h => sx_iF_s (aT_93 pc) h
def aI_94_0 : sx_IL := [(0, .aload_n 0, 1), (1, .iload_n 1, 1), (2, .invokevirtual 193, 3), (5, .ifCond .ne 5, 3), (8, .iconst (-1), 1), (9, .ireturn, 1)]
theorem aJ_94_0 : sx_iB prog_1_method_29_code aI_94_0 = true := by decide +kernel
def aI_94_1 : sx_IL := [(10, .aload_n 0, 1), (11, .getfield 213, 3), (14, .bipush 6, 2), (16, .if_icmp .lt 6, 3), (19, .bipush (-3), 2), (21, .ireturn, 1)]
theorem aJ_94_1 : sx_iB prog_1_method_29_code aI_94_1 = true := by decide +kernel
def aI_94_2 : sx_IL := [(22, .aload_n 0, 1), (23, .getfield 28, 3), (26, .aload_n 0, 1), (27, .getfield 213, 3), (30, .iload_n 1, 1), (31, .iastore, 1)]
theorem aJ_94_2 : sx_iB prog_1_method_29_code aI_94_2 = true := by decide +kernel
def aI_94_3 : sx_IL := [(32, .aload_n 0, 1), (33, .dup, 1), (34, .getfield 213, 3), (37, .iconst 1, 1), (38, .iadd, 1), (39, .putfield 213, 3)]
theorem aJ_94_3 : sx_iB prog_1_method_29_code aI_94_3 = true := by decide +kernel
def aI_94_4 : sx_IL := [(42, .aload_n 0, 1), (43, .getfield 213, 3), (46, .ireturn, 1)]
theorem aJ_94_4 : sx_iB prog_1_method_29_code aI_94_4 = true := by decide +kernel
def aS_94 (pc : Nat) : sx_IL := (if pc < 22 then (if pc < 10 then aI_94_0 else aI_94_1) else (if pc < 32 then aI_94_2 else (if pc < 42 then aI_94_3 else aI_94_4)))
theorem aT_94 (pc : Nat) : sx_iOk prog_1_method_29_code (aS_94 pc) := (sx_ite (p := fun l => sx_iOk prog_1_method_29_code l) (sx_ite (p := fun l => sx_iOk prog_1_method_29_code l) (sx_iB_s aJ_94_0) (sx_iB_s aJ_94_1)) (sx_ite (p := fun l => sx_iOk prog_1_method_29_code l) (sx_iB_s aJ_94_2) (sx_ite (p := fun l => sx_iOk prog_1_method_29_code l) (sx_iB_s aJ_94_3) (sx_iB_s aJ_94_4))))
def aW_94 : Nat → Option (Instr × Nat) := fun pc => sx_iF (aS_94 pc) pc
theorem aX_94 : ∀ pc i len, aW_94 pc = some (i, len) → decode aM_94.1.2.1 pc = .ok (i, len) := fun pc i len h => sx_iF_s (aT_94 pc) h
def aI_95_0 : sx_IL := [(0, .aload_n 0, 1), (1, .iload_n 1, 1), (2, .invokevirtual 216, 3), (5, .ifCond .eq 19, 3), (8, .iload_n 3, 1), (9, .ifCond .lt 15, 3)]
theorem aJ_95_0 : sx_iB prog_1_method_30_code aI_95_0 = true := by decide +kernel
def aI_95_1 : sx_IL := [(12, .iload_n 3, 1), (13, .iconst 2, 1), (14, .if_icmp .gt 10, 3), (17, .aload_n 0, 1), (18, .getfield 213, 3), (21, .ifCond .ne 5, 3)]
theorem aJ_95_1 : sx_iB prog_1_method_30_code aI_95_1 = true := by decide +kernel
def aI_95_2 : sx_IL := [(24, .iconst (-1), 1), (25, .ireturn, 1), (26, .aload_n 0, 1), (27, .getfield 10, 3), (30, .aload_n 0, 1), (31, .getfield 213, 3)]
theorem aJ_95_2 : sx_iB prog_1_method_30_code aI_95_2 = true := by decide +kernel
def aI_95_3 : sx_IL := [(34, .putfield 219, 3), (37, .iconst 0, 1), (38, .istore 4, 2), (40, .iload 4, 2), (42, .aload_n 0, 1), (43, .getfield 213, 3)]
theorem aJ_95_3 : sx_iB prog_1_method_30_code aI_95_3 = true := by decide +kernel
def aI_95_4 : sx_IL := [(46, .if_icmp .ge 34, 3), (49, .aload_n 0, 1), (50, .getfield 10, 3), (53, .getfield 222, 3), (56, .iload 4, 2), (58, .aload_n 0, 1)]
theorem aJ_95_4 : sx_iB prog_1_method_30_code aI_95_4 = true := by decide +kernel
def aI_95_5 : sx_IL := [(59, .getfield 10, 3), (62, .getfield 196, 3), (65, .aload_n 0, 1), (66, .getfield 28, 3), (69, .iload 4, 2), (71, .iaload, 1)]
theorem aJ_95_5 : sx_iB prog_1_method_30_code aI_95_5 = true := by decide +kernel
def aI_95_6 : sx_IL := [(72, .aaload, 1), (73, .aastore, 1), (74, .iinc 4 1, 3), (77, .goto (-37), 3), (80, .aload_n 0, 1), (81, .iconst 0, 1)]
theorem aJ_95_6 : sx_iB prog_1_method_30_code aI_95_6 = true := by decide +kernel
def aI_95_7 : sx_IL := [(82, .putfield 213, 3), (85, .aload_n 0, 1), (86, .getfield 10, 3), (89, .iconst 0, 1), (90, .putfield 225, 3), (93, .aload_n 0, 1)]
theorem aJ_95_7 : sx_iB prog_1_method_30_code aI_95_7 = true := by decide +kernel
def aI_95_8 : sx_IL := [(94, .getfield 10, 3), (97, .aload_n 0, 1), (98, .getfield 34, 3), (101, .iload_n 1, 1), (102, .aaload, 1), (103, .invokevirtual 229, 3)]
theorem aJ_95_8 : sx_iB prog_1_method_30_code aI_95_8 = true := by decide +kernel
def aI_95_9 : sx_IL := [(106, .ifCond .eq 21, 3), (109, .aload_n 0, 1), (110, .getfield 10, 3), (113, .aload_n 0, 1), (114, .getfield 34, 3), (117, .iload_n 1, 1)]
theorem aJ_95_9 : sx_iB prog_1_method_30_code aI_95_9 = true := by decide +kernel
def aI_95_10 : sx_IL := [(118, .aaload, 1), (119, .iload_n 2, 1), (120, .iload_n 3, 1), (121, .invokevirtual 233, 3), (124, .goto 5, 3), (127, .bipush (-5), 2)]
theorem aJ_95_10 : sx_iB prog_1_method_30_code aI_95_10 = true := by decide +kernel
def aI_95_11 : sx_IL := [(129, .ireturn, 1)]
theorem aJ_95_11 : sx_iB prog_1_method_30_code aI_95_11 = true := by decide +kernel
def aS_95 (pc : Nat) : sx_IL := (if pc < 72 then (if pc < 34 then (if pc < 12 then aI_95_0 else (if pc < 24 then aI_95_1 else aI_95_2)) else (if pc < 46 then aI_95_3 else (if pc < 59 then aI_95_4 else aI_95_5))) else (if pc < 106 then (if pc < 82 then aI_95_6 else (if pc < 94 then aI_95_7 else aI_95_8)) else (if pc < 118 then aI_95_9 else (if pc < 129 then aI_95_10 else aI_95_11))))
theorem aT_95 (pc : Nat) : sx_iOk prog_1_method_30_code (aS_95 pc) := (sx_ite (p := fun l => sx_iOk prog_1_method_30_code l) (sx_ite (p := fun l => sx_iOk prog_1_method_30_code l) (sx_ite (p := fun l => sx_iOk prog_1_method_30_code l) (sx_iB_s aJ_95_0) (sx_ite (p := fun l => sx_iOk prog_1_method_30_code l) (sx_iB_s aJ_95_1) (sx_iB_s aJ_95_2))) (sx_ite (p := fun l => sx_iOk prog_1_method_30_code l) (sx_iB_s aJ_95_3) (sx_ite (p := fun l => sx_iOk prog_1_method_30_code l) (sx_iB_s aJ_95_4) (sx_iB_s aJ_95_5)))) (sx_ite (p := fun l => sx_iOk prog_1_method_30_code l) (sx_ite (p := fun l => sx_iOk prog_1_method_30_code l) (sx_iB_s aJ_95_6) (sx_ite (p := fun l => sx_iOk prog_1_method_30_code l) (sx_iB_s aJ_95_7) (sx_iB_s aJ_95_8))) (sx_ite (p := fun l => sx_iOk prog_1_method_30_code l) (sx_iB_s aJ_95_9) (sx_ite (p := fun l => sx_iOk prog_1_method_30_code l) (sx_iB_s aJ_95_10) (sx_iB_s aJ_95_11)))))
def aW_95 : Nat → Option (Instr × Nat) := fun pc => sx_iF (aS_95 pc) pc
theorem aX_95 : ∀ pc i len, aW_95 pc = some (i, len) → decode aM_95.1.2.1 pc = .ok (i, len) := fun pc i len h => sx_iF_s (aT_95 pc) h
def aI_96_0 : sx_IL := [(0, .iload_n 1, 1), (1, .ifCond .lt 15, 3), (4, .iload_n 1, 1), (5, .aload_n 0, 1), (6, .getfield 248, 3), (9, .if_icmp .ge 7, 3)]
theorem aJ_96_0 : sx_iB prog_1_method_35_code aI_96_0 = true := by decide +kernel
def aI_96_1 : sx_IL := [(12, .iconst 1, 1), (13, .goto 4, 3), (16, .iconst 0, 1), (17, .ireturn, 1)]
theorem aJ_96_1 : sx_iB prog_1_method_35_code aI_96_1 = true := by decide +kernel
def aS_96 (pc : Nat) : sx_IL := (if pc < 12 then aI_96_0 else aI_96_1)
theorem aT_96 (pc : Nat) : sx_iOk prog_1_method_35_code (aS_96 pc) := (sx_ite (p := fun l => sx_iOk prog_1_method_35_code l) (sx_iB_s aJ_96_0) (sx_iB_s aJ_96_1))
def aW_96 : Nat → Option (Instr × Nat) := fun pc => sx_iF (aS_96 pc) pc
theorem aX_96 : ∀ pc i len, aW_96 pc = some (i, len) → decode aM_96.1.2.1 pc = .ok (i, len) := fun pc i len h => sx_iF_s (aT_96 pc) h
def aI_97_0 : sx_IL := [(0, .aload_n 0, 1), (1, .getfield 168, 3), (4, .ifCond .le 33, 3), (7, .aload_n 0, 1), (8, .invokevirtual 175, 3), (11, .ifCond .eq 26, 3)]
theorem aJ_97_0 : sx_iB prog_5_method_11_code aI_97_0 = true := by decide +kernel
def aI_97_1 : sx_IL := [(14, .aload_n 0, 1), (15, .aload_n 1, 1), (16, .aload_n 0, 1), (17, .getfield 70, 3), (20, .aload_n 0, 1), (21, .getfield 168, 3)]
theorem aJ_97_1 : sx_iB prog_5_method_11_code aI_97_1 = true := by decide +kernel
def aI_97_2 : sx_IL := [(24, .iconst 1, 1), (25, .isub, 1), (26, .aaload, 1), (27, .invokevirtual 179, 3), (30, .ifCond .eq 7, 3), (33, .iconst 1, 1)]
theorem aJ_97_2 : sx_iB prog_5_method_11_code aI_97_2 = true := by decide +kernel
def aI_97_3 : sx_IL := [(34, .goto 4, 3), (37, .iconst 0, 1), (38, .ireturn, 1)]
theorem aJ_97_3 : sx_iB prog_5_method_11_code aI_97_3 = true := by decide +kernel
def aS_97 (pc : Nat) : sx_IL := (if pc < 24 then (if pc < 14 then aI_97_0 else aI_97_1) else (if pc < 34 then aI_97_2 else aI_97_3))
theorem aT_97 (pc : Nat) : sx_iOk prog_5_method_11_code (aS_97 pc) := (sx_ite (p := fun l => sx_iOk prog_5_method_11_code l) (sx_ite (p := fun l => sx_iOk prog_5_method_11_code l) (sx_iB_s aJ_97_0) (sx_iB_s aJ_97_1)) (sx_ite (p := fun l => sx_iOk prog_5_method_11_code l) (sx_iB_s aJ_97_2) (sx_iB_s aJ_97_3)))
def aW_97 : Nat → Option (Instr × Nat) := fun pc => sx_iF (aS_97 pc) pc
theorem aX_97 : ∀ pc i len, aW_97 pc = some (i, len) → decode aM_97.1.2.1 pc = .ok (i, len) := fun pc i len h => sx_iF_s (aT_97 pc) h
def aI_98_0 : sx_IL := [(0, .iconst 1, 1), (1, .istore_n 1, 1), (2, .iload_n 1, 1), (3, .aload_n 0, 1), (4, .getfield 168, 3), (7, .if_icmp .ge 25, 3)]
theorem aJ_98_0 : sx_iB prog_5_method_10_code aI_98_0 = true := by decide +kernel
def aI_98_1 : sx_IL := [(10, .aload_n 0, 1), (11, .aload_n 0, 1), (12, .getfield 70, 3), (15, .iload_n 1, 1), (16, .aaload, 1), (17, .iload_n 1, 1)]
theorem aJ_98_1 : sx_iB prog_5_method_10_code aI_98_1 = true := by decide +kernel
def aI_98_2 : sx_IL := [(18, .invokevirtual 171, 3), (21, .ifCond .ne 5, 3), (24, .iconst 0, 1), (25, .ireturn, 1), (26, .iinc 1 1, 3), (29, .goto (-27), 3)]
theorem aJ_98_2 : sx_iB prog_5_method_10_code aI_98_2 = true := by decide +kernel
def aI_98_3 : sx_IL := [(32, .iconst 1, 1), (33, .ireturn, 1)]
theorem aJ_98_3 : sx_iB prog_5_method_10_code aI_98_3 = true := by decide +kernel
def aS_98 (pc : Nat) : sx_IL := (if pc < 18 then (if pc < 10 then aI_98_0 else aI_98_1) else (if pc < 32 then aI_98_2 else aI_98_3))
theorem aT_98 (pc : Nat) : sx_iOk prog_5_method_10_code (aS_98 pc) := (sx_ite (p := fun l => sx_iOk prog_5_method_10_code l) (sx_ite (p := fun l => sx_iOk prog_5_method_10_code l) (sx_iB_s aJ_98_0) (sx_iB_s aJ_98_1)) (sx_ite (p := fun l => sx_iOk prog_5_method_10_code l) (sx_iB_s aJ_98_2) (sx_iB_s aJ_98_3)))
def aW_98 : Nat → Option (Instr × Nat) := fun pc => sx_iF (aS_98 pc) pc
theorem aX_98 : ∀ pc i len, aW_98 pc = some (i, len) → decode aM_98.1.2.1 pc = .ok (i, len) := fun pc i len h => sx_iF_s (aT_98 pc) h
def aI_99_0 : sx_IL := [(0, .iload_n 2, 1), (1, .iconst 1, 1), (2, .if_icmp .lt 20, 3), (5, .aload_n 0, 1), (6, .getfield 70, 3), (9, .iload_n 2, 1)]
theorem aJ_99_0 : sx_iB prog_5_method_9_code aI_99_0 = true := by decide +kernel
def aI_99_1 : sx_IL := [(10, .iconst 1, 1), (11, .isub, 1), (12, .aaload, 1), (13, .iconst 0, 1), (14, .aload_n 1, 1), (15, .iconst 1, 1)]
theorem aJ_99_1 : sx_iB prog_5_method_9_code aI_99_1 = true := by decide +kernel
def aI_99_2 : sx_IL := [(16, .invokevirtual 141, 3), (19, .ifCond .ne 5, 3), (22, .iconst 0, 1), (23, .ireturn, 1), (24, .iconst 0, 1), (25, .istore_n 3, 1)]
theorem aJ_99_2 : sx_iB prog_5_method_9_code aI_99_2 = true := by decide +kernel
def aI_99_3 : sx_IL := [(26, .iload_n 3, 1), (27, .iload_n 2, 1), (28, .if_icmp .ge 24, 3), (31, .aload_n 0, 1), (32, .getfield 70, 3), (35, .iload_n 3, 1)]
theorem aJ_99_3 : sx_iB prog_5_method_9_code aI_99_3 = true := by decide +kernel
def aI_99_4 : sx_IL := [(36, .aaload, 1), (37, .aload_n 1, 1), (38, .invokevirtual 106, 3), (41, .ifCond .eq 5, 3), (44, .iconst 0, 1), (45, .ireturn, 1)]
theorem aJ_99_4 : sx_iB prog_5_method_9_code aI_99_4 = true := by decide +kernel
def aI_99_5 : sx_IL := [(46, .iinc 3 1, 3), (49, .goto (-23), 3), (52, .iconst 1, 1), (53, .ireturn, 1)]
theorem aJ_99_5 : sx_iB prog_5_method_9_code aI_99_5 = true := by decide +kernel
def aS_99 (pc : Nat) : sx_IL := (if pc < 26 then (if pc < 10 then aI_99_0 else (if pc < 16 then aI_99_1 else aI_99_2)) else (if pc < 36 then aI_99_3 else (if pc < 46 then aI_99_4 else aI_99_5)))
theorem aT_99 (pc : Nat) : sx_iOk prog_5_method_9_code (aS_99 pc) := (sx_ite (p := fun l => sx_iOk prog_5_method_9_code l) (sx_ite (p := fun l => sx_iOk prog_5_method_9_code l) (sx_iB_s aJ_99_0) (sx_ite (p := fun l => sx_iOk prog_5_method_9_code l) (sx_iB_s aJ_99_1) (sx_iB_s aJ_99_2))) (sx_ite (p := fun l => sx_iOk prog_5_method_9_code l) (sx_iB_s aJ_99_3) (sx_ite (p := fun l => sx_iOk prog_5_method_9_code l) (sx_iB_s aJ_99_4) (sx_iB_s aJ_99_5))))
def aW_99 : Nat → Option (Instr × Nat) := fun pc => sx_iF (aS_99 pc) pc
theorem aX_99 : ∀ pc i len, aW_99 pc = some (i, len) → decode aM_99.1.2.1 pc = .ok (i, len) := fun pc i len h => sx_iF_s (aT_99 pc) h
def aI_100_0 : sx_IL := [(0, .aload_n 0, 1), (1, .getfield 28, 3), (4, .aload_n 0, 1), (5, .iload_n 1, 1), (6, .invokevirtual 37, 3), (9, .aload_n 0, 1)]
theorem aJ_100_0 : sx_iB prog_8_method_6_code aI_100_0 = true := by decide +kernel
def aI_100_1 : sx_IL := [(10, .iload_n 1, 1), (11, .invokevirtual 41, 3), (14, .aload_n 2, 1), (15, .getfield 28, 3), (18, .aload_n 2, 1), (19, .iload_n 3, 1)]
theorem aJ_100_1 : sx_iB prog_8_method_6_code aI_100_1 = true := by decide +kernel
def aI_100_2 : sx_IL := [(20, .invokevirtual 37, 3), (23, .aload_n 2, 1), (24, .iload_n 3, 1), (25, .invokevirtual 41, 3), (28, .invokestatic 31, 3), (31, .ireturn, 1)]
theorem aJ_100_2 : sx_iB prog_8_method_6_code aI_100_2 = true := by decide +kernel
def aS_100 (pc : Nat) : sx_IL := (if pc < 10 then aI_100_0 else (if pc < 20 then aI_100_1 else aI_100_2))
theorem aT_100 (pc : Nat) : sx_iOk prog_8_method_6_code (aS_100 pc) := (sx_ite (p := fun l => sx_iOk prog_8_method_6_code l) (sx_iB_s aJ_100_0) (sx_ite (p := fun l => sx_iOk prog_8_method_6_code l) (sx_iB_s aJ_100_1) (sx_iB_s aJ_100_2)))
def aW_100 : Nat → Option (Instr × Nat) := fun pc => sx_iF (aS_100 pc) pc
theorem aX_100 : ∀ pc i len, aW_100 pc = some (i, len) → decode aM_100.1.2.1 pc = .ok (i, len) := fun pc i len h => sx_iF_s (aT_100 pc) h
def aI_101_0 : sx_IL := [(0, .iconst 0, 1), (1, .istore_n 3, 1), (2, .iload_n 3, 1), (3, .aload_n 1, 1), (4, .getfield 160, 3), (7, .if_icmp .ge 29, 3)]
theorem aJ_101_0 : sx_iB prog_5_method_8_code aI_101_0 = true := by decide +kernel
def aI_101_1 : sx_IL := [(10, .aload_n 0, 1), (11, .getfield 49, 3), (14, .aload_n 1, 1), (15, .getfield 165, 3), (18, .iload_n 3, 1), (19, .iaload, 1)]
theorem aJ_101_1 : sx_iB prog_5_method_8_code aI_101_1 = true := by decide +kernel
def aI_101_2 : sx_IL := [(20, .aaload, 1), (21, .aload_n 2, 1), (22, .invokevirtual 106, 3), (25, .ifCond .eq 5, 3), (28, .iconst 1, 1), (29, .ireturn, 1)]
theorem aJ_101_2 : sx_iB prog_5_method_8_code aI_101_2 = true := by decide +kernel
def aI_101_3 : sx_IL := [(30, .iinc 3 1, 3), (33, .goto (-31), 3), (36, .iconst 0, 1), (37, .ireturn, 1)]
theorem aJ_101_3 : sx_iB prog_5_method_8_code aI_101_3 = true := by decide +kernel
def aS_101 (pc : Nat) : sx_IL := (if pc < 20 then (if pc < 10 then aI_101_0 else aI_101_1) else (if pc < 30 then aI_101_2 else aI_101_3))
theorem aT_101 (pc : Nat) : sx_iOk prog_5_method_8_code (aS_101 pc) := (sx_ite (p := fun l => sx_iOk prog_5_method_8_code l) (sx_ite (p := fun l => sx_iOk prog_5_method_8_code l) (sx_iB_s aJ_101_0) (sx_iB_s aJ_101_1)) (sx_ite (p := fun l => sx_iOk prog_5_method_8_code l) (sx_iB_s aJ_101_2) (sx_iB_s aJ_101_3)))
def aW_101 : Nat → Option (Instr × Nat) := fun pc => sx_iF (aS_101 pc) pc
theorem aX_101 : ∀ pc i len, aW_101 pc = some (i, len) → decode aM_101.1.2.1 pc = .ok (i, len) := fun pc i len h => sx_iF_s (aT_101 pc) h
def aI_102_0 : sx_IL := [(0, .aload_n 0, 1), (1, .getfield 168, 3), (4, .iconst 1, 1), (5, .isub, 1), (6, .istore 4, 2), (8, .iconst 0, 1)]
theorem aJ_102_0 : sx_iB prog_5_method_12_code aI_102_0 = true := by decide +kernel
def aI_102_1 : sx_IL := [(9, .istore 5, 2), (11, .iload 5, 2), (13, .iload 4, 2), (15, .if_icmp .gt 141, 3), (18, .iload 5, 2), (20, .iload 4, 2)]
theorem aJ_102_1 : sx_iB prog_5_method_12_code aI_102_1 = true := by decide +kernel
def aI_102_2 : sx_IL := [(22, .if_icmp .ge 27, 3), (25, .aload_n 0, 1), (26, .aload_n 0, 1), (27, .getfield 70, 3), (30, .iload 5, 2), (32, .aaload, 1)]
theorem aJ_102_2 : sx_iB prog_5_method_12_code aI_102_2 = true := by decide +kernel
def aI_102_3 : sx_IL := [(33, .aload_n 0, 1), (34, .getfield 70, 3), (37, .iload 5, 2), (39, .iconst 1, 1), (40, .iadd, 1), (41, .aaload, 1)]
theorem aJ_102_3 : sx_iB prog_5_method_12_code aI_102_3 = true := by decide +kernel
def aI_102_4 : sx_IL := [(42, .iload_n 2, 1), (43, .invokevirtual 183, 3), (46, .goto 4, 3), (49, .iconst 0, 1), (50, .istore 6, 2), (52, .iload 6, 2)]
theorem aJ_102_4 : sx_iB prog_5_method_12_code aI_102_4 = true := by decide +kernel
def aI_102_5 : sx_IL := [(54, .ifCond .ne 12, 3), (57, .aload_n 0, 1), (58, .iload 5, 2), (60, .iload_n 3, 1), (61, .invokevirtual 187, 3), (64, .istore 6, 2)]
theorem aJ_102_5 : sx_iB prog_5_method_12_code aI_102_5 = true := by decide +kernel
def aI_102_6 : sx_IL := [(66, .iload 6, 2), (68, .ifCond .ne 68, 3), (71, .iload 5, 2), (73, .iload 4, 2), (75, .if_icmp .ge 61, 3), (78, .aload_n 0, 1)]
theorem aJ_102_6 : sx_iB prog_5_method_12_code aI_102_6 = true := by decide +kernel
def aI_102_7 : sx_IL := [(79, .aload_n 0, 1), (80, .getfield 70, 3), (83, .iload 5, 2), (85, .aaload, 1), (86, .aload_n 0, 1), (87, .getfield 70, 3)]
theorem aJ_102_7 : sx_iB prog_5_method_12_code aI_102_7 = true := by decide +kernel
def aI_102_8 : sx_IL := [(90, .iload 5, 2), (92, .iconst 1, 1), (93, .iadd, 1), (94, .aaload, 1), (95, .iload_n 2, 1), (96, .invokevirtual 191, 3)]
theorem aJ_102_8 : sx_iB prog_5_method_12_code aI_102_8 = true := by decide +kernel
def aI_102_9 : sx_IL := [(99, .istore 7, 2), (101, .iload 7, 2), (103, .iconst 1, 1), (104, .if_icmp .ne 8, 3), (107, .bipush 8, 2), (109, .goto 25, 3)]
theorem aJ_102_9 : sx_iB prog_5_method_12_code aI_102_9 = true := by decide +kernel
def aI_102_10 : sx_IL := [(112, .iload 7, 2), (114, .iconst 2, 1), (115, .if_icmp .ne 18, 3), (118, .aload_n 1, 1), (119, .getfield 194, 3), (122, .iconst 0, 1)]
theorem aJ_102_10 : sx_iB prog_5_method_12_code aI_102_10 = true := by decide +kernel
def aI_102_11 : sx_IL := [(123, .iaload, 1), (124, .iconst 1, 1), (125, .if_icmp .ne 8, 3), (128, .bipush 9, 2), (130, .goto 4, 3), (133, .iconst 0, 1)]
theorem aJ_102_11 : sx_iB prog_5_method_12_code aI_102_11 = true := by decide +kernel
def aI_102_12 : sx_IL := [(134, .istore 6, 2), (136, .iload 6, 2), (138, .ifCond .eq 12, 3), (141, .iload 6, 2), (143, .bipush 100, 2), (145, .iload 5, 2)]
theorem aJ_102_12 : sx_iB prog_5_method_12_code aI_102_12 = true := by decide +kernel
def aI_102_13 : sx_IL := [(147, .imul, 1), (148, .iadd, 1), (149, .ireturn, 1), (150, .iinc 5 1, 3), (153, .goto (-142), 3), (156, .iconst 0, 1)]
theorem aJ_102_13 : sx_iB prog_5_method_12_code aI_102_13 = true := by decide +kernel
def aI_102_14 : sx_IL := [(157, .ireturn, 1)]
theorem aJ_102_14 : sx_iB prog_5_method_12_code aI_102_14 = true := by decide +kernel
def aS_102 (pc : Nat) : sx_IL := (if pc < 79 then (if pc < 33 then (if pc < 9 then aI_102_0 else (if pc < 22 then aI_102_1 else aI_102_2)) else (if pc < 54 then (if pc < 42 then aI_102_3 else aI_102_4) else (if pc < 66 then aI_102_5 else aI_102_6))) else (if pc < 123 then (if pc < 99 then (if pc < 90 then aI_102_7 else aI_102_8) else (if pc < 112 then aI_102_9 else aI_102_10)) else (if pc < 147 then (if pc < 134 then aI_102_11 else aI_102_12) else (if pc < 157 then aI_102_13 else aI_102_14))))
theorem aT_102 (pc : Nat) : sx_iOk prog_5_method_12_code (aS_102 pc) := (sx_ite (p := fun l => sx_iOk prog_5_method_12_code l) (sx_ite (p := fun l => sx_iOk prog_5_method_12_code l) (sx_ite (p := fun l => sx_iOk prog_5_method_12_code l) (sx_iB_s aJ_102_0) (sx_ite (p := fun l => sx_iOk prog_5_method_12_code l) (sx_iB_s aJ_102_1) (sx_iB_s aJ_102_2))) (sx_ite (p := fun l => sx_iOk prog_5_method_12_code l) (sx_ite (p := fun l => sx_iOk prog_5_method_12_code l) (sx_iB_s aJ_102_3) (sx_iB_s aJ_102_4)) (sx_ite (p := fun l => sx_iOk prog_5_method_12_code l) (sx_iB_s aJ_102_5) (sx_iB_s aJ_102_6)))) (sx_ite (p := fun l => sx_iOk prog_5_method_12_code l) (sx_ite (p := fun l => sx_iOk prog_5_method_12_code l) (sx_ite (p := fun l => sx_iOk prog_5_method_12_code l) (sx_iB_s aJ_102_7) (sx_iB_s aJ_102_8)) (sx_ite (p := fun l => sx_iOk prog_5_method_12_code l) (sx_iB_s aJ_102_9) (sx_iB_s aJ_102_10))) (sx_ite (p := fun l => sx_iOk prog_5_method_12_code l) (sx_ite (p := fun l => sx_iOk prog_5_method_12_code l) (sx_iB_s aJ_102_11) (sx_iB_s aJ_102_12)) (sx_ite (p := fun l => sx_iOk prog_5_method_12_code l) (sx_iB_s aJ_102_13) (sx_iB_s aJ_102_14)))))
def aW_102 : Nat → Option (Instr × Nat) := fun pc => sx_iF (aS_102 pc) pc
theorem aX_102 : ∀ pc i len, aW_102 pc = some (i, len) → decode aM_102.1.2.1 pc = .ok (i, len) := fun pc i len h => sx_iF_s (aT_102 pc) h
def aI_103_0 : sx_IL := [(0, .aload_n 0, 1), (1, .aload_n 1, 1), (2, .aload_n 2, 1), (3, .invokevirtual 153, 3), (6, .ifCond .ne 7, 3), (9, .iconst 1, 1)]
theorem aJ_103_0 : sx_iB prog_5_method_13_code aI_103_0 = true := by decide +kernel
def aI_103_1 : sx_IL := [(10, .goto 32, 3), (13, .iload_n 3, 1), (14, .aload_n 1, 1), (15, .getfield 122, 3), (18, .iconst 1, 1), (19, .iaload, 1)]
theorem aJ_103_1 : sx_iB prog_5_method_13_code aI_103_1 = true := by decide +kernel
def aI_103_2 : sx_IL := [(20, .if_icmp .ge 7, 3), (23, .iconst 2, 1), (24, .goto 18, 3), (27, .iload_n 3, 1), (28, .aload_n 1, 1), (29, .getfield 122, 3)]
theorem aJ_103_2 : sx_iB prog_5_method_13_code aI_103_2 = true := by decide +kernel
def aI_103_3 : sx_IL := [(32, .iconst 2, 1), (33, .iaload, 1), (34, .if_icmp .le 7, 3), (37, .iconst 3, 1), (38, .goto 4, 3), (41, .iconst 0, 1)]
theorem aJ_103_3 : sx_iB prog_5_method_13_code aI_103_3 = true := by decide +kernel
def aI_103_4 : sx_IL := [(42, .ireturn, 1)]
theorem aJ_103_4 : sx_iB prog_5_method_13_code aI_103_4 = true := by decide +kernel
def aS_103 (pc : Nat) : sx_IL := (if pc < 20 then (if pc < 10 then aI_103_0 else aI_103_1) else (if pc < 32 then aI_103_2 else (if pc < 42 then aI_103_3 else aI_103_4)))
theorem aT_103 (pc : Nat) : sx_iOk prog_5_method_13_code (aS_103 pc) := (sx_ite (p := fun l => sx_iOk prog_5_method_13_code l) (sx_ite (p := fun l => sx_iOk prog_5_method_13_code l) (sx_iB_s aJ_103_0) (sx_iB_s aJ_103_1)) (sx_ite (p := fun l => sx_iOk prog_5_method_13_code l) (sx_iB_s aJ_103_2) (sx_ite (p := fun l => sx_iOk prog_5_method_13_code l) (sx_iB_s aJ_103_3) (sx_iB_s aJ_103_4))))
def aW_103 : Nat → Option (Instr × Nat) := fun pc => sx_iF (aS_103 pc) pc
theorem aX_103 : ∀ pc i len, aW_103 pc = some (i, len) → decode aM_103.1.2.1 pc = .ok (i, len) := fun pc i len h => sx_iF_s (aT_103 pc) h
def aI_104_0 : sx_IL := [(0, .aload_n 2, 1), (1, .getfield 119, 3), (4, .istore_n 3, 1), (5, .aload_n 1, 1), (6, .getfield 116, 3), (9, .ifnull 20, 3)]
theorem aJ_104_0 : sx_iB prog_5_method_4_code aI_104_0 = true := by decide +kernel
def aI_104_1 : sx_IL := [(12, .iload_n 3, 1), (13, .ifCond .lt 16, 3), (16, .iload_n 3, 1), (17, .aload_n 1, 1), (18, .getfield 116, 3), (21, .arraylength, 1)]
theorem aJ_104_1 : sx_iB prog_5_method_4_code aI_104_1 = true := by decide +kernel
def aI_104_2 : sx_IL := [(22, .if_icmp .ge 7, 3), (25, .iconst 1, 1), (26, .goto 4, 3), (29, .iconst 0, 1), (30, .istore 4, 2), (32, .iload 4, 2)]
theorem aJ_104_2 : sx_iB prog_5_method_4_code aI_104_2 = true := by decide +kernel
def aI_104_3 : sx_IL := [(34, .ifCond .eq 28, 3), (37, .aload_n 1, 1), (38, .getfield 116, 3), (41, .iload_n 3, 1), (42, .iaload, 1), (43, .ifCond .eq 19, 3)]
theorem aJ_104_3 : sx_iB prog_5_method_4_code aI_104_3 = true := by decide +kernel
def aI_104_4 : sx_IL := [(46, .aload_n 1, 1), (47, .getfield 116, 3), (50, .iload_n 3, 1), (51, .iaload, 1), (52, .iconst 1, 1), (53, .if_icmp .ne 7, 3)]
theorem aJ_104_4 : sx_iB prog_5_method_4_code aI_104_4 = true := by decide +kernel
def aI_104_5 : sx_IL := [(56, .iconst 1, 1), (57, .goto 4, 3), (60, .iconst 0, 1), (61, .ireturn, 1), (62, .aload_n 0, 1), (63, .getfield 12, 3)]
theorem aJ_104_5 : sx_iB prog_5_method_4_code aI_104_5 = true := by decide +kernel
def aI_104_6 : sx_IL := [(66, .aload_n 1, 1), (67, .getfield 122, 3), (70, .iconst 3, 1), (71, .iaload, 1), (72, .aload_n 2, 1), (73, .getfield 122, 3)]
theorem aJ_104_6 : sx_iB prog_5_method_4_code aI_104_6 = true := by decide +kernel
def aI_104_7 : sx_IL := [(76, .iconst 4, 1), (77, .iaload, 1), (78, .aload_n 1, 1), (79, .getfield 125, 3), (82, .aload_n 1, 1), (83, .getfield 129, 3)]
theorem aJ_104_7 : sx_iB prog_5_method_4_code aI_104_7 = true := by decide +kernel
def aI_104_8 : sx_IL := [(86, .aload_n 1, 1), (87, .iconst 2, 1), (88, .invokevirtual 130, 3), (91, .aload_n 1, 1), (92, .iconst 2, 1), (93, .invokevirtual 134, 3)]
theorem aJ_104_8 : sx_iB prog_5_method_4_code aI_104_8 = true := by decide +kernel
def aI_104_9 : sx_IL := [(96, .invokevirtual 137, 3), (99, .istore 5, 2), (101, .iload 4, 2), (103, .ifCond .eq 19, 3), (106, .aload_n 1, 1), (107, .getfield 116, 3)]
theorem aJ_104_9 : sx_iB prog_5_method_4_code aI_104_9 = true := by decide +kernel
def aI_104_10 : sx_IL := [(110, .iload_n 3, 1), (111, .iload 5, 2), (113, .ifCond .eq 7, 3), (116, .iconst 1, 1), (117, .goto 4, 3), (120, .iconst 2, 1)]
theorem aJ_104_10 : sx_iB prog_5_method_4_code aI_104_10 = true := by decide +kernel
def aI_104_11 : sx_IL := [(121, .iastore, 1), (122, .iload 5, 2), (124, .ireturn, 1)]
theorem aJ_104_11 : sx_iB prog_5_method_4_code aI_104_11 = true := by decide +kernel
def aS_104 (pc : Nat) : sx_IL := (if pc < 66 then (if pc < 34 then (if pc < 12 then aI_104_0 else (if pc < 22 then aI_104_1 else aI_104_2)) else (if pc < 46 then aI_104_3 else (if pc < 56 then aI_104_4 else aI_104_5))) else (if pc < 96 then (if pc < 76 then aI_104_6 else (if pc < 86 then aI_104_7 else aI_104_8)) else (if pc < 110 then aI_104_9 else (if pc < 121 then aI_104_10 else aI_104_11))))
theorem aT_104 (pc : Nat) : sx_iOk prog_5_method_4_code (aS_104 pc) := (sx_ite (p := fun l => sx_iOk prog_5_method_4_code l) (sx_ite (p := fun l => sx_iOk prog_5_method_4_code l) (sx_ite (p := fun l => sx_iOk prog_5_method_4_code l) (sx_iB_s aJ_104_0) (sx_ite (p := fun l => sx_iOk prog_5_method_4_code l) (sx_iB_s aJ_104_1) (sx_iB_s aJ_104_2))) (sx_ite (p := fun l => sx_iOk prog_5_method_4_code l) (sx_iB_s aJ_104_3) (sx_ite (p := fun l => sx_iOk prog_5_method_4_code l) (sx_iB_s aJ_104_4) (sx_iB_s aJ_104_5)))) (sx_ite (p := fun l => sx_iOk prog_5_method_4_code l) (sx_ite (p := fun l => sx_iOk prog_5_method_4_code l) (sx_iB_s aJ_104_6) (sx_ite (p := fun l => sx_iOk prog_5_method_4_code l) (sx_iB_s aJ_104_7) (sx_iB_s aJ_104_8))) (sx_ite (p := fun l => sx_iOk prog_5_method_4_code l) (sx_iB_s aJ_104_9) (sx_ite (p := fun l => sx_iOk prog_5_method_4_code l) (sx_iB_s aJ_104_10) (sx_iB_s aJ_104_11)))))
def aW_104 : Nat → Option (Instr × Nat) := fun pc => sx_iF (aS_104 pc) pc
theorem aX_104 : ∀ pc i len, aW_104 pc = some (i, len) → decode aM_104.1.2.1 pc = .ok (i, len) := fun pc i len h => sx_iF_s (aT_104 pc) h
def aI_105_0 : sx_IL := [(0, .aload_n 0, 1), (1, .getfield 70, 3), (4, .iload_n 1, 1), (5, .aaload, 1), (6, .astore_n 3, 1), (7, .iload_n 1, 1)]
theorem aJ_105_0 : sx_iB prog_5_method_14_code aI_105_0 = true := by decide +kernel
def aI_105_1 : sx_IL := [(8, .ifCond .le 7, 3), (11, .iconst 4, 1), (12, .goto 4, 3), (15, .iload_n 2, 1), (16, .istore 4, 2), (18, .iload_n 1, 1)]
theorem aJ_105_1 : sx_iB prog_5_method_14_code aI_105_1 = true := by decide +kernel
def aI_105_2 : sx_IL := [(19, .ifCond .le 14, 3), (22, .aload_n 3, 1), (23, .getfield 122, 3), (26, .iconst 5, 1), (27, .iaload, 1), (28, .ifCond .ne 5, 3)]
theorem aJ_105_2 : sx_iB prog_5_method_14_code aI_105_2 = true := by decide +kernel
def aI_105_3 : sx_IL := [(31, .iconst 4, 1), (32, .ireturn, 1), (33, .aload_n 3, 1), (34, .getfield 122, 3), (37, .bipush 7, 2), (39, .iaload, 1)]
theorem aJ_105_3 : sx_iB prog_5_method_14_code aI_105_3 = true := by decide +kernel
def aI_105_4 : sx_IL := [(40, .iload 4, 2), (42, .iand, 1), (43, .iload 4, 2), (45, .if_icmp .eq 5, 3), (48, .iconst 5, 1), (49, .ireturn, 1)]
theorem aJ_105_4 : sx_iB prog_5_method_14_code aI_105_4 = true := by decide +kernel
def aI_105_5 : sx_IL := [(50, .aload_n 3, 1), (51, .getfield 122, 3), (54, .bipush 6, 2), (56, .iaload, 1), (57, .bipush (-4), 2), (59, .if_icmp .eq 19, 3)]
theorem aJ_105_5 : sx_iB prog_5_method_14_code aI_105_5 = true := by decide +kernel
def aI_105_6 : sx_IL := [(62, .aload_n 3, 1), (63, .getfield 122, 3), (66, .bipush 6, 2), (68, .iaload, 1), (69, .iload_n 1, 1), (70, .iconst 1, 1)]
theorem aJ_105_6 : sx_iB prog_5_method_14_code aI_105_6 = true := by decide +kernel
def aI_105_7 : sx_IL := [(71, .isub, 1), (72, .if_icmp .ge 6, 3), (75, .bipush 6, 2), (77, .ireturn, 1), (78, .iconst 0, 1), (79, .istore 5, 2)]
theorem aJ_105_7 : sx_iB prog_5_method_14_code aI_105_7 = true := by decide +kernel
def aI_105_8 : sx_IL := [(81, .iload 5, 2), (83, .iload_n 1, 1), (84, .if_icmp .ge 26, 3), (87, .aload_n 3, 1), (88, .aload_n 0, 1), (89, .getfield 70, 3)]
theorem aJ_105_8 : sx_iB prog_5_method_14_code aI_105_8 = true := by decide +kernel
def aI_105_9 : sx_IL := [(92, .iload 5, 2), (94, .aaload, 1), (95, .invokestatic 197, 3), (98, .ifCond .ne 6, 3), (101, .bipush 7, 2), (103, .ireturn, 1)]
theorem aJ_105_9 : sx_iB prog_5_method_14_code aI_105_9 = true := by decide +kernel
def aI_105_10 : sx_IL := [(104, .iinc 5 1, 3), (107, .goto (-26), 3), (110, .iconst 0, 1), (111, .ireturn, 1)]
theorem aJ_105_10 : sx_iB prog_5_method_14_code aI_105_10 = true := by decide +kernel
def aS_105 (pc : Nat) : sx_IL := (if pc < 50 then (if pc < 19 then (if pc < 8 then aI_105_0 else aI_105_1) else (if pc < 31 then aI_105_2 else (if pc < 40 then aI_105_3 else aI_105_4))) else (if pc < 81 then (if pc < 62 then aI_105_5 else (if pc < 71 then aI_105_6 else aI_105_7)) else (if pc < 92 then aI_105_8 else (if pc < 104 then aI_105_9 else aI_105_10))))
theorem aT_105 (pc : Nat) : sx_iOk prog_5_method_14_code (aS_105 pc) := (sx_ite (p := fun l => sx_iOk prog_5_method_14_code l) (sx_ite (p := fun l => sx_iOk prog_5_method_14_code l) (sx_ite (p := fun l => sx_iOk prog_5_method_14_code l) (sx_iB_s aJ_105_0) (sx_iB_s aJ_105_1)) (sx_ite (p := fun l => sx_iOk prog_5_method_14_code l) (sx_iB_s aJ_105_2) (sx_ite (p := fun l => sx_iOk prog_5_method_14_code l) (sx_iB_s aJ_105_3) (sx_iB_s aJ_105_4)))) (sx_ite (p := fun l => sx_iOk prog_5_method_14_code l) (sx_ite (p := fun l => sx_iOk prog_5_method_14_code l) (sx_iB_s aJ_105_5) (sx_ite (p := fun l => sx_iOk prog_5_method_14_code l) (sx_iB_s aJ_105_6) (sx_iB_s aJ_105_7))) (sx_ite (p := fun l => sx_iOk prog_5_method_14_code l) (sx_iB_s aJ_105_8) (sx_ite (p := fun l => sx_iOk prog_5_method_14_code l) (sx_iB_s aJ_105_9) (sx_iB_s aJ_105_10)))))
def aW_105 : Nat → Option (Instr × Nat) := fun pc => sx_iF (aS_105 pc) pc
theorem aX_105 : ∀ pc i len, aW_105 pc = some (i, len) → decode aM_105.1.2.1 pc = .ok (i, len) := fun pc i len h => sx_iF_s (aT_105 pc) h
def aI_106_0 : sx_IL := [(0, .iconst 0, 1), (1, .istore_n 2, 1), (2, .iload_n 2, 1), (3, .aload_n 1, 1), (4, .getfield 122, 3), (7, .bipush 8, 2)]
theorem aJ_106_0 : sx_iB prog_5_method_15_code aI_106_0 = true := by decide +kernel
def aI_106_1 : sx_IL := [(9, .iaload, 1), (10, .if_icmp .ge 117, 3), (13, .aload_n 0, 1), (14, .getfield 122, 3), (17, .bipush 9, 2), (19, .iaload, 1)]
theorem aJ_106_1 : sx_iB prog_5_method_15_code aI_106_1 = true := by decide +kernel
def aI_106_2 : sx_IL := [(20, .ifCond .ne 7, 3), (23, .iconst 1, 1), (24, .goto 4, 3), (27, .iconst 0, 1), (28, .istore_n 3, 1), (29, .iconst 0, 1)]
theorem aJ_106_2 : sx_iB prog_5_method_15_code aI_106_2 = true := by decide +kernel
def aI_106_3 : sx_IL := [(30, .istore 4, 2), (32, .iload 4, 2), (34, .aload_n 0, 1), (35, .getfield 122, 3), (38, .bipush 9, 2), (40, .iaload, 1)]
theorem aJ_106_3 : sx_iB prog_5_method_15_code aI_106_3 = true := by decide +kernel
def aI_106_4 : sx_IL := [(41, .if_icmp .ge 27, 3), (44, .iload_n 3, 1), (45, .ifCond .ne 23, 3), (48, .aload_n 1, 1), (49, .iconst 4, 1), (50, .iload_n 2, 1)]
theorem aJ_106_4 : sx_iB prog_5_method_15_code aI_106_4 = true := by decide +kernel
def aI_106_5 : sx_IL := [(51, .iadd, 1), (52, .aload_n 0, 1), (53, .bipush 8, 2), (55, .iload 4, 2), (57, .iadd, 1), (58, .invokevirtual 200, 3)]
theorem aJ_106_5 : sx_iB prog_5_method_15_code aI_106_5 = true := by decide +kernel
def aI_106_6 : sx_IL := [(61, .istore_n 3, 1), (62, .iinc 4 1, 3), (65, .goto (-33), 3), (68, .iconst 0, 1), (69, .istore 4, 2), (71, .iload 4, 2)]
theorem aJ_106_6 : sx_iB prog_5_method_15_code aI_106_6 = true := by decide +kernel
def aI_106_7 : sx_IL := [(73, .aload_n 0, 1), (74, .getfield 122, 3), (77, .bipush 10, 2), (79, .iaload, 1), (80, .if_icmp .ge 35, 3), (83, .iload_n 3, 1)]
theorem aJ_106_7 : sx_iB prog_5_method_15_code aI_106_7 = true := by decide +kernel
def aI_106_8 : sx_IL := [(84, .ifCond .eq 31, 3), (87, .aload_n 1, 1), (88, .iconst 4, 1), (89, .iload_n 2, 1), (90, .iadd, 1), (91, .aload_n 0, 1)]
theorem aJ_106_8 : sx_iB prog_5_method_15_code aI_106_8 = true := by decide +kernel
def aI_106_9 : sx_IL := [(92, .bipush 12, 2), (94, .iload 4, 2), (96, .iadd, 1), (97, .invokevirtual 200, 3), (100, .ifCond .ne 7, 3), (103, .iconst 1, 1)]
theorem aJ_106_9 : sx_iB prog_5_method_15_code aI_106_9 = true := by decide +kernel
def aI_106_10 : sx_IL := [(104, .goto 4, 3), (107, .iconst 0, 1), (108, .istore_n 3, 1), (109, .iinc 4 1, 3), (112, .goto (-41), 3), (115, .iload_n 3, 1)]
theorem aJ_106_10 : sx_iB prog_5_method_15_code aI_106_10 = true := by decide +kernel
def aI_106_11 : sx_IL := [(116, .ifCond .ne 5, 3), (119, .iconst 0, 1), (120, .ireturn, 1), (121, .iinc 2 1, 3), (124, .goto (-122), 3), (127, .iconst 1, 1)]
theorem aJ_106_11 : sx_iB prog_5_method_15_code aI_106_11 = true := by decide +kernel
def aI_106_12 : sx_IL := [(128, .ireturn, 1)]
theorem aJ_106_12 : sx_iB prog_5_method_15_code aI_106_12 = true := by decide +kernel
def aS_106 (pc : Nat) : sx_IL := (if pc < 61 then (if pc < 30 then (if pc < 9 then aI_106_0 else (if pc < 20 then aI_106_1 else aI_106_2)) else (if pc < 41 then aI_106_3 else (if pc < 51 then aI_106_4 else aI_106_5))) else (if pc < 92 then (if pc < 73 then aI_106_6 else (if pc < 84 then aI_106_7 else aI_106_8)) else (if pc < 116 then (if pc < 104 then aI_106_9 else aI_106_10) else (if pc < 128 then aI_106_11 else aI_106_12))))
theorem aT_106 (pc : Nat) : sx_iOk prog_5_method_15_code (aS_106 pc) := (sx_ite (p := fun l => sx_iOk prog_5_method_15_code l) (sx_ite (p := fun l => sx_iOk prog_5_method_15_code l) (sx_ite (p := fun l => sx_iOk prog_5_method_15_code l) (sx_iB_s aJ_106_0) (sx_ite (p := fun l => sx_iOk prog_5_method_15_code l) (sx_iB_s aJ_106_1) (sx_iB_s aJ_106_2))) (sx_ite (p := fun l => sx_iOk prog_5_method_15_code l) (sx_iB_s aJ_106_3) (sx_ite (p := fun l => sx_iOk prog_5_method_15_code l) (sx_iB_s aJ_106_4) (sx_iB_s aJ_106_5)))) (sx_ite (p := fun l => sx_iOk prog_5_method_15_code l) (sx_ite (p := fun l => sx_iOk prog_5_method_15_code l) (sx_iB_s aJ_106_6) (sx_ite (p := fun l => sx_iOk prog_5_method_15_code l) (sx_iB_s aJ_106_7) (sx_iB_s aJ_106_8))) (sx_ite (p := fun l => sx_iOk prog_5_method_15_code l) (sx_ite (p := fun l => sx_iOk prog_5_method_15_code l) (sx_iB_s aJ_106_9) (sx_iB_s aJ_106_10)) (sx_ite (p := fun l => sx_iOk prog_5_method_15_code l) (sx_iB_s aJ_106_11) (sx_iB_s aJ_106_12)))))
def aW_106 : Nat → Option (Instr × Nat) := fun pc => sx_iF (aS_106 pc) pc
theorem aX_106 : ∀ pc i len, aW_106 pc = some (i, len) → decode aM_106.1.2.1 pc = .ok (i, len) := fun pc i len h => sx_iF_s (aT_106 pc) h
def aI_107_0 : sx_IL := [(0, .aload_n 0, 1), (1, .getfield 28, 3), (4, .aload_n 0, 1), (5, .iload_n 1, 1), (6, .invokevirtual 37, 3), (9, .aload_n 0, 1)]
theorem aJ_107_0 : sx_iB prog_8_method_17_code aI_107_0 = true := by decide +kernel
def aI_107_1 : sx_IL := [(10, .iload_n 1, 1), (11, .invokevirtual 41, 3), (14, .invokestatic 62, 3), (17, .istore 4, 2), (19, .aload_n 0, 1), (20, .iload_n 1, 1)]
theorem aJ_107_1 : sx_iB prog_8_method_17_code aI_107_1 = true := by decide +kernel
def aI_107_2 : sx_IL := [(21, .invokevirtual 41, 3), (24, .aload_n 2, 1), (25, .iload_n 3, 1), (26, .invokevirtual 41, 3), (29, .aload_n 2, 1), (30, .iload_n 3, 1)]
theorem aJ_107_2 : sx_iB prog_8_method_17_code aI_107_2 = true := by decide +kernel
def aI_107_3 : sx_IL := [(31, .invokevirtual 37, 3), (34, .isub, 1), (35, .isub, 1), (36, .istore 5, 2), (38, .iload 5, 2), (40, .iload 4, 2)]
theorem aJ_107_3 : sx_iB prog_8_method_17_code aI_107_3 = true := by decide +kernel
def aI_107_4 : sx_IL := [(42, .if_icmp .lt 59, 3), (45, .aload_n 0, 1), (46, .getfield 28, 3), (49, .iload 5, 2), (51, .aload_n 0, 1), (52, .iload_n 1, 1)]
theorem aJ_107_4 : sx_iB prog_8_method_17_code aI_107_4 = true := by decide +kernel
def aI_107_5 : sx_IL := [(53, .invokevirtual 41, 3), (56, .aload_n 2, 1), (57, .getfield 28, 3), (60, .aload_n 2, 1), (61, .iload_n 3, 1), (62, .invokevirtual 37, 3)]
theorem aJ_107_5 : sx_iB prog_8_method_17_code aI_107_5 = true := by decide +kernel
def aI_107_6 : sx_IL := [(65, .aload_n 2, 1), (66, .iload_n 3, 1), (67, .invokevirtual 41, 3), (70, .invokestatic 31, 3), (73, .ifCond .eq 28, 3), (76, .iload 5, 2)]
theorem aJ_107_6 : sx_iB prog_8_method_17_code aI_107_6 = true := by decide +kernel
def aI_107_7 : sx_IL := [(78, .iload 4, 2), (80, .if_icmp .eq 17, 3), (83, .aload_n 0, 1), (84, .getfield 28, 3), (87, .iload 5, 2), (89, .iconst 1, 1)]
theorem aJ_107_7 : sx_iB prog_8_method_17_code aI_107_7 = true := by decide +kernel
def aI_107_8 : sx_IL := [(90, .isub, 1), (91, .iaload, 1), (92, .bipush 46, 2), (94, .if_icmp .ne 7, 3), (97, .iconst 1, 1), (98, .goto 4, 3)]
theorem aJ_107_8 : sx_iB prog_8_method_17_code aI_107_8 = true := by decide +kernel
def aI_107_9 : sx_IL := [(101, .iconst 0, 1), (102, .ireturn, 1)]
theorem aJ_107_9 : sx_iB prog_8_method_17_code aI_107_9 = true := by decide +kernel
def aS_107 (pc : Nat) : sx_IL := (if pc < 53 then (if pc < 21 then (if pc < 10 then aI_107_0 else aI_107_1) else (if pc < 31 then aI_107_2 else (if pc < 42 then aI_107_3 else aI_107_4))) else (if pc < 78 then (if pc < 65 then aI_107_5 else aI_107_6) else (if pc < 90 then aI_107_7 else (if pc < 101 then aI_107_8 else aI_107_9))))
theorem aT_107 (pc : Nat) : sx_iOk prog_8_method_17_code (aS_107 pc) := (sx_ite (p := fun l => sx_iOk prog_8_method_17_code l) (sx_ite (p := fun l => sx_iOk prog_8_method_17_code l) (sx_ite (p := fun l => sx_iOk prog_8_method_17_code l) (sx_iB_s aJ_107_0) (sx_iB_s aJ_107_1)) (sx_ite (p := fun l => sx_iOk prog_8_method_17_code l) (sx_iB_s aJ_107_2) (sx_ite (p := fun l => sx_iOk prog_8_method_17_code l) (sx_iB_s aJ_107_3) (sx_iB_s aJ_107_4)))) (sx_ite (p := fun l => sx_iOk prog_8_method_17_code l) (sx_ite (p := fun l => sx_iOk prog_8_method_17_code l) (sx_iB_s aJ_107_5) (sx_iB_s aJ_107_6)) (sx_ite (p := fun l => sx_iOk prog_8_method_17_code l) (sx_iB_s aJ_107_7) (sx_ite (p := fun l => sx_iOk prog_8_method_17_code l) (sx_iB_s aJ_107_8) (sx_iB_s aJ_107_9)))))
def aW_107 : Nat → Option (Instr × Nat) := fun pc => sx_iF (aS_107 pc) pc
theorem aX_107 : ∀ pc i len, aW_107 pc = some (i, len) → decode aM_107.1.2.1 pc = .ok (i, len) := fun pc i len h => sx_iF_s (aT_107 pc) h
def aI_108_0 : sx_IL := [(0, .aload_n 2, 1), (1, .getfield 122, 3), (4, .bipush 7, 2), (6, .iaload, 1), (7, .bipush 8, 2), (9, .iand, 1)]
theorem aJ_108_0 : sx_iB prog_5_method_6_code aI_108_0 = true := by decide +kernel
def aI_108_1 : sx_IL := [(10, .ifCond .ne 5, 3), (13, .iconst 2, 1), (14, .ireturn, 1), (15, .aload_n 1, 1), (16, .getfield 122, 3), (19, .iconst 0, 1)]
theorem aJ_108_1 : sx_iB prog_5_method_6_code aI_108_1 = true := by decide +kernel
def aI_108_2 : sx_IL := [(20, .iaload, 1), (21, .istore 4, 2), (23, .aload_n 0, 1), (24, .getfield 145, 3), (27, .ifCond .eq 51, 3), (30, .aload_n 0, 1)]
theorem aJ_108_2 : sx_iB prog_5_method_6_code aI_108_2 = true := by decide +kernel
def aI_108_3 : sx_IL := [(31, .getfield 67, 3), (34, .getfield 122, 3), (37, .iconst 0, 1), (38, .iaload, 1), (39, .iload 4, 2), (41, .if_icmp .ne 37, 3)]
theorem aJ_108_3 : sx_iB prog_5_method_6_code aI_108_3 = true := by decide +kernel
def aI_108_4 : sx_IL := [(44, .aload_n 0, 1), (45, .getfield 67, 3), (48, .aload_n 1, 1), (49, .iload_n 3, 1), (50, .invokestatic 149, 3), (53, .ifCond .eq 25, 3)]
theorem aJ_108_4 : sx_iB prog_5_method_6_code aI_108_4 = true := by decide +kernel
def aI_108_5 : sx_IL := [(56, .aload_n 0, 1), (57, .aload_n 0, 1), (58, .getfield 67, 3), (61, .aload_n 2, 1), (62, .invokevirtual 153, 3), (65, .ifCond .eq 13, 3)]
theorem aJ_108_5 : sx_iB prog_5_method_6_code aI_108_5 = true := by decide +kernel
def aI_108_6 : sx_IL := [(68, .aload_n 0, 1), (69, .getfield 67, 3), (72, .getfield 122, 3), (75, .iconst 5, 1), (76, .iaload, 1), (77, .ireturn, 1)]
theorem aJ_108_6 : sx_iB prog_5_method_6_code aI_108_6 = true := by decide +kernel
def aI_108_7 : sx_IL := [(78, .aload_n 0, 1), (79, .getfield 113, 3), (82, .iconst 1, 1), (83, .isub, 1), (84, .istore 5, 2), (86, .iload 5, 2)]
theorem aJ_108_7 : sx_iB prog_5_method_6_code aI_108_7 = true := by decide +kernel
def aI_108_8 : sx_IL := [(88, .ifCond .lt 69, 3), (91, .aload_n 0, 1), (92, .getfield 56, 3), (95, .iload 5, 2), (97, .aaload, 1), (98, .getfield 122, 3)]
theorem aJ_108_8 : sx_iB prog_5_method_6_code aI_108_8 = true := by decide +kernel
def aI_108_9 : sx_IL := [(101, .iconst 0, 1), (102, .iaload, 1), (103, .iload 4, 2), (105, .if_icmp .ne 46, 3), (108, .aload_n 0, 1), (109, .getfield 56, 3)]
theorem aJ_108_9 : sx_iB prog_5_method_6_code aI_108_9 = true := by decide +kernel
def aI_108_10 : sx_IL := [(112, .iload 5, 2), (114, .aaload, 1), (115, .aload_n 1, 1), (116, .iload_n 3, 1), (117, .invokestatic 149, 3), (120, .ifCond .eq 31, 3)]
theorem aJ_108_10 : sx_iB prog_5_method_6_code aI_108_10 = true := by decide +kernel
def aI_108_11 : sx_IL := [(123, .aload_n 0, 1), (124, .aload_n 0, 1), (125, .getfield 56, 3), (128, .iload 5, 2), (130, .aaload, 1), (131, .aload_n 2, 1)]
theorem aJ_108_11 : sx_iB prog_5_method_6_code aI_108_11 = true := by decide +kernel
def aI_108_12 : sx_IL := [(132, .invokevirtual 153, 3), (135, .ifCond .eq 16, 3), (138, .aload_n 0, 1), (139, .getfield 56, 3), (142, .iload 5, 2), (144, .aaload, 1)]
theorem aJ_108_12 : sx_iB prog_5_method_6_code aI_108_12 = true := by decide +kernel
def aI_108_13 : sx_IL := [(145, .getfield 122, 3), (148, .iconst 5, 1), (149, .iaload, 1), (150, .ireturn, 1), (151, .iinc 5 (-1), 3), (154, .goto (-68), 3)]
theorem aJ_108_13 : sx_iB prog_5_method_6_code aI_108_13 = true := by decide +kernel
def aI_108_14 : sx_IL := [(157, .aconst_null, 1), (158, .astore 5, 2), (160, .iconst 0, 1), (161, .istore 6, 2), (163, .iload 6, 2), (165, .aload_n 0, 1)]
theorem aJ_108_14 : sx_iB prog_5_method_6_code aI_108_14 = true := by decide +kernel
def aI_108_15 : sx_IL := [(166, .getfield 110, 3), (169, .if_icmp .ge 87, 3), (172, .aload 5, 2), (174, .ifnull 25, 3), (177, .aload_n 0, 1), (178, .getfield 53, 3)]
theorem aJ_108_15 : sx_iB prog_5_method_6_code aI_108_15 = true := by decide +kernel
def aI_108_16 : sx_IL := [(181, .iload 6, 2), (183, .aaload, 1), (184, .getfield 122, 3), (187, .iconst 0, 1), (188, .iaload, 1), (189, .aload 5, 2)]
theorem aJ_108_16 : sx_iB prog_5_method_6_code aI_108_16 = true := by decide +kernel
def aI_108_17 : sx_IL := [(191, .getfield 122, 3), (194, .iconst 0, 1), (195, .iaload, 1), (196, .if_icmp .lt 7, 3), (199, .iconst 1, 1), (200, .goto 4, 3)]
theorem aJ_108_17 : sx_iB prog_5_method_6_code aI_108_17 = true := by decide +kernel
def aI_108_18 : sx_IL := [(203, .iconst 0, 1), (204, .istore 7, 2), (206, .iload 7, 2), (208, .ifCond .eq 42, 3), (211, .aload_n 0, 1), (212, .getfield 53, 3)]
theorem aJ_108_18 : sx_iB prog_5_method_6_code aI_108_18 = true := by decide +kernel
def aI_108_19 : sx_IL := [(215, .iload 6, 2), (217, .aaload, 1), (218, .aload_n 1, 1), (219, .iload_n 3, 1), (220, .invokestatic 149, 3), (223, .ifCond .eq 27, 3)]
theorem aJ_108_19 : sx_iB prog_5_method_6_code aI_108_19 = true := by decide +kernel
def aI_108_20 : sx_IL := [(226, .aload_n 0, 1), (227, .aload_n 0, 1), (228, .getfield 53, 3), (231, .iload 6, 2), (233, .aaload, 1), (234, .aload_n 2, 1)]
theorem aJ_108_20 : sx_iB prog_5_method_6_code aI_108_20 = true := by decide +kernel
def aI_108_21 : sx_IL := [(235, .invokevirtual 153, 3), (238, .ifCond .eq 12, 3), (241, .aload_n 0, 1), (242, .getfield 53, 3), (245, .iload 6, 2), (247, .aaload, 1)]
theorem aJ_108_21 : sx_iB prog_5_method_6_code aI_108_21 = true := by decide +kernel
def aI_108_22 : sx_IL := [(248, .astore 5, 2), (250, .iinc 6 1, 3), (253, .goto (-90), 3), (256, .aload 5, 2), (258, .ifnonnull 7, 3), (261, .iconst 2, 1)]
theorem aJ_108_22 : sx_iB prog_5_method_6_code aI_108_22 = true := by decide +kernel
def aI_108_23 : sx_IL := [(262, .goto 18, 3), (265, .aload 5, 2), (267, .iload 4, 2), (269, .invokevirtual 157, 3), (272, .ifCond .eq 7, 3), (275, .iconst 1, 1)]
theorem aJ_108_23 : sx_iB prog_5_method_6_code aI_108_23 = true := by decide +kernel
def aI_108_24 : sx_IL := [(276, .goto 4, 3), (279, .iconst 0, 1), (280, .ireturn, 1)]
theorem aJ_108_24 : sx_iB prog_5_method_6_code aI_108_24 = true := by decide +kernel
def aS_108 (pc : Nat) : sx_IL := (if pc < 132 then (if pc < 68 then (if pc < 31 then (if pc < 10 then aI_108_0 else (if pc < 20 then aI_108_1 else aI_108_2)) else (if pc < 44 then aI_108_3 else (if pc < 56 then aI_108_4 else aI_108_5))) else (if pc < 101 then (if pc < 78 then aI_108_6 else (if pc < 88 then aI_108_7 else aI_108_8)) else (if pc < 112 then aI_108_9 else (if pc < 123 then aI_108_10 else aI_108_11)))) else (if pc < 203 then (if pc < 166 then (if pc < 145 then aI_108_12 else (if pc < 157 then aI_108_13 else aI_108_14)) else (if pc < 181 then aI_108_15 else (if pc < 191 then aI_108_16 else aI_108_17))) else (if pc < 235 then (if pc < 215 then aI_108_18 else (if pc < 226 then aI_108_19 else aI_108_20)) else (if pc < 262 then (if pc < 248 then aI_108_21 else aI_108_22) else (if pc < 276 then aI_108_23 else aI_108_24)))))
theorem aT_108 (pc : Nat) : sx_iOk prog_5_method_6_code (aS_108 pc) := (sx_ite (p := fun l => sx_iOk prog_5_method_6_code l) (sx_ite (p := fun l => sx_iOk prog_5_method_6_code l) (sx_ite (p := fun l => sx_iOk prog_5_method_6_code l) (sx_ite (p := fun l => sx_iOk prog_5_method_6_code l) (sx_iB_s aJ_108_0) (sx_ite (p := fun l => sx_iOk prog_5_method_6_code l) (sx_iB_s aJ_108_1) (sx_iB_s aJ_108_2))) (sx_ite (p := fun l => sx_iOk prog_5_method_6_code l) (sx_iB_s aJ_108_3) (sx_ite (p := fun l => sx_iOk prog_5_method_6_code l) (sx_iB_s aJ_108_4) (sx_iB_s aJ_108_5)))) (sx_ite (p := fun l => sx_iOk prog_5_method_6_code l) (sx_ite (p := fun l => sx_iOk prog_5_method_6_code l) (sx_iB_s aJ_108_6) (sx_ite (p := fun l => sx_iOk prog_5_method_6_code l) (sx_iB_s aJ_108_7) (sx_iB_s aJ_108_8))) (sx_ite (p := fun l => sx_iOk prog_5_method_6_code l) (sx_iB_s aJ_108_9) (sx_ite (p := fun l => sx_iOk prog_5_method_6_code l) (sx_iB_s aJ_108_10) (sx_iB_s aJ_108_11))))) (sx_ite (p := fun l => sx_iOk prog_5_method_6_code l) (sx_ite (p := fun l => sx_iOk prog_5_method_6_code l) (sx_ite (p := fun l => sx_iOk prog_5_method_6_code l) (sx_iB_s aJ_108_12) (sx_ite (p := fun l => sx_iOk prog_5_method_6_code l) (sx_iB_s aJ_108_13) (sx_iB_s aJ_108_14))) (sx_ite (p := fun l => sx_iOk prog_5_method_6_code l) (sx_iB_s aJ_108_15) (sx_ite (p := fun l => sx_iOk prog_5_method_6_code l) (sx_iB_s aJ_108_16) (sx_iB_s aJ_108_17)))) (sx_ite (p := fun l => sx_iOk prog_5_method_6_code l) (sx_ite (p := fun l => sx_iOk prog_5_method_6_code l) (sx_iB_s aJ_108_18) (sx_ite (p := fun l => sx_iOk prog_5_method_6_code l) (sx_iB_s aJ_108_19) (sx_iB_s aJ_108_20))) (sx_ite (p := fun l => sx_iOk prog_5_method_6_code l) (sx_ite (p := fun l => sx_iOk prog_5_method_6_code l) (sx_iB_s aJ_108_21) (sx_iB_s aJ_108_22)) (sx_ite (p := fun l => sx_iOk prog_5_method_6_code l) (sx_iB_s aJ_108_23) (sx_iB_s aJ_108_24))))))
def aW_108 : Nat → Option (Instr × Nat) := fun pc => sx_iF (aS_108 pc) pc
theorem aX_108 : ∀ pc i len, aW_108 pc = some (i, len) → decode aM_108.1.2.1 pc = .ok (i, len) := fun pc i len h => sx_iF_s (aT_108 pc) h
def aI_109_0 : sx_IL := [(0, .aload_n 0, 1), (1, .getfield 122, 3), (4, .iconst 1, 1), (5, .iaload, 1), (6, .iload_n 2, 1), (7, .if_icmp .gt 27, 3)]
theorem aJ_109_0 : sx_iB prog_5_method_5_code aI_109_0 = true := by decide +kernel
def aI_109_1 : sx_IL := [(10, .iload_n 2, 1), (11, .aload_n 0, 1), (12, .getfield 122, 3), (15, .iconst 2, 1), (16, .iaload, 1), (17, .if_icmp .gt 17, 3)]
theorem aJ_109_1 : sx_iB prog_5_method_5_code aI_109_1 = true := by decide +kernel
def aI_109_2 : sx_IL := [(20, .aload_n 0, 1), (21, .iconst 0, 1), (22, .aload_n 1, 1), (23, .iconst 0, 1), (24, .invokevirtual 141, 3), (27, .ifCond .eq 7, 3)]
theorem aJ_109_2 : sx_iB prog_5_method_5_code aI_109_2 = true := by decide +kernel
def aI_109_3 : sx_IL := [(30, .iconst 1, 1), (31, .goto 4, 3), (34, .iconst 0, 1), (35, .ireturn, 1)]
theorem aJ_109_3 : sx_iB prog_5_method_5_code aI_109_3 = true := by decide +kernel
def aS_109 (pc : Nat) : sx_IL := (if pc < 20 then (if pc < 10 then aI_109_0 else aI_109_1) else (if pc < 30 then aI_109_2 else aI_109_3))
theorem aT_109 (pc : Nat) : sx_iOk prog_5_method_5_code (aS_109 pc) := (sx_ite (p := fun l => sx_iOk prog_5_method_5_code l) (sx_ite (p := fun l => sx_iOk prog_5_method_5_code l) (sx_iB_s aJ_109_0) (sx_iB_s aJ_109_1)) (sx_ite (p := fun l => sx_iOk prog_5_method_5_code l) (sx_iB_s aJ_109_2) (sx_iB_s aJ_109_3)))
def aW_109 : Nat → Option (Instr × Nat) := fun pc => sx_iF (aS_109 pc) pc
theorem aX_109 : ∀ pc i len, aW_109 pc = some (i, len) → decode aM_109.1.2.1 pc = .ok (i, len) := fun pc i len h => sx_iF_s (aT_109 pc) h
def aI_110_0 : sx_IL := [(0, .aload_n 0, 1), (1, .iconst 3, 1), (2, .invokevirtual 37, 3), (5, .istore_n 2, 1), (6, .iload_n 2, 1), (7, .aload_n 0, 1)]
theorem aJ_110_0 : sx_iB prog_8_method_27_code aI_110_0 = true := by decide +kernel
def aI_110_1 : sx_IL := [(8, .iconst 3, 1), (9, .invokevirtual 41, 3), (12, .if_icmp .ge 20, 3), (15, .aload_n 0, 1), (16, .iload_n 2, 1), (17, .invokevirtual 94, 3)]
theorem aJ_110_1 : sx_iB prog_8_method_27_code aI_110_1 = true := by decide +kernel
def aI_110_2 : sx_IL := [(20, .iload_n 1, 1), (21, .if_icmp .ne 5, 3), (24, .iconst 1, 1), (25, .ireturn, 1), (26, .iinc 2 4, 3), (29, .goto (-23), 3)]
theorem aJ_110_2 : sx_iB prog_8_method_27_code aI_110_2 = true := by decide +kernel
def aI_110_3 : sx_IL := [(32, .iconst 0, 1), (33, .ireturn, 1)]
theorem aJ_110_3 : sx_iB prog_8_method_27_code aI_110_3 = true := by decide +kernel
def aS_110 (pc : Nat) : sx_IL := (if pc < 20 then (if pc < 8 then aI_110_0 else aI_110_1) else (if pc < 32 then aI_110_2 else aI_110_3))
theorem aT_110 (pc : Nat) : sx_iOk prog_8_method_27_code (aS_110 pc) := (sx_ite (p := fun l => sx_iOk prog_8_method_27_code l) (sx_ite (p := fun l => sx_iOk prog_8_method_27_code l) (sx_iB_s aJ_110_0) (sx_iB_s aJ_110_1)) (sx_ite (p := fun l => sx_iOk prog_8_method_27_code l) (sx_iB_s aJ_110_2) (sx_iB_s aJ_110_3)))
def aW_110 : Nat → Option (Instr × Nat) := fun pc => sx_iF (aS_110 pc) pc
theorem aX_110 : ∀ pc i len, aW_110 pc = some (i, len) → decode aM_110.1.2.1 pc = .ok (i, len) := fun pc i len h => sx_iF_s (aT_110 pc) h
def aI_111_0 : sx_IL := [(0, .aload_n 0, 1), (1, .iload_n 1, 1), (2, .invokevirtual 216, 3), (5, .ifCond .eq 22, 3), (8, .aload_n 0, 1), (9, .iload_n 2, 1)]
theorem aJ_111_0 : sx_iB prog_1_method_31_code aI_111_0 = true := by decide +kernel
def aI_111_1 : sx_IL := [(10, .invokevirtual 193, 3), (13, .ifCond .eq 14, 3), (16, .iload 4, 2), (18, .ifCond .lt 9, 3), (21, .iload 4, 2), (23, .iconst 2, 1)]
theorem aJ_111_1 : sx_iB prog_1_method_31_code aI_111_1 = true := by decide +kernel
def aI_111_2 : sx_IL := [(24, .if_icmp .le 5, 3), (27, .iconst (-1), 1), (28, .ireturn, 1), (29, .aload_n 0, 1), (30, .aload_n 0, 1), (31, .getfield 10, 3)]
theorem aJ_111_2 : sx_iB prog_1_method_31_code aI_111_2 = true := by decide +kernel
def aI_111_3 : sx_IL := [(34, .aload_n 0, 1), (35, .getfield 34, 3), (38, .iload_n 1, 1), (39, .aaload, 1), (40, .iload_n 2, 1), (41, .iload_n 3, 1)]
theorem aJ_111_3 : sx_iB prog_1_method_31_code aI_111_3 = true := by decide +kernel
def aI_111_4 : sx_IL := [(42, .iload 4, 2), (44, .invokevirtual 237, 3), (47, .putfield 213, 3), (50, .iconst 0, 1), (51, .istore 5, 2), (53, .iload 5, 2)]
theorem aJ_111_4 : sx_iB prog_1_method_31_code aI_111_4 = true := by decide +kernel
def aI_111_5 : sx_IL := [(55, .aload_n 0, 1), (56, .getfield 213, 3), (59, .if_icmp .ge 29, 3), (62, .aload_n 0, 1), (63, .getfield 28, 3), (66, .iload 5, 2)]
theorem aJ_111_5 : sx_iB prog_1_method_31_code aI_111_5 = true := by decide +kernel
def aI_111_6 : sx_IL := [(68, .aload_n 0, 1), (69, .getfield 10, 3), (72, .getfield 222, 3), (75, .iload 5, 2), (77, .aaload, 1), (78, .getfield 241, 3)]
theorem aJ_111_6 : sx_iB prog_1_method_31_code aI_111_6 = true := by decide +kernel
def aI_111_7 : sx_IL := [(81, .iastore, 1), (82, .iinc 5 1, 3), (85, .goto (-32), 3), (88, .aload_n 0, 1), (89, .getfield 213, 3), (92, .ireturn, 1)]
theorem aJ_111_7 : sx_iB prog_1_method_31_code aI_111_7 = true := by decide +kernel
def aS_111 (pc : Nat) : sx_IL := (if pc < 42 then (if pc < 24 then (if pc < 10 then aI_111_0 else aI_111_1) else (if pc < 34 then aI_111_2 else aI_111_3)) else (if pc < 68 then (if pc < 55 then aI_111_4 else aI_111_5) else (if pc < 81 then aI_111_6 else aI_111_7)))
theorem aT_111 (pc : Nat) : sx_iOk prog_1_method_31_code (aS_111 pc) := (sx_ite (p := fun l => sx_iOk prog_1_method_31_code l) (sx_ite (p := fun l => sx_iOk prog_1_method_31_code l) (sx_ite (p := fun l => sx_iOk prog_1_method_31_code l) (sx_iB_s aJ_111_0) (sx_iB_s aJ_111_1)) (sx_ite (p := fun l => sx_iOk prog_1_method_31_code l) (sx_iB_s aJ_111_2) (sx_iB_s aJ_111_3))) (sx_ite (p := fun l => sx_iOk prog_1_method_31_code l) (sx_ite (p := fun l => sx_iOk prog_1_method_31_code l) (sx_iB_s aJ_111_4) (sx_iB_s aJ_111_5)) (sx_ite (p := fun l => sx_iOk prog_1_method_31_code l) (sx_iB_s aJ_111_6) (sx_iB_s aJ_111_7))))
def aW_111 : Nat → Option (Instr × Nat) := fun pc => sx_iF (aS_111 pc) pc
theorem aX_111 : ∀ pc i len, aW_111 pc = some (i, len) → decode aM_111.1.2.1 pc = .ok (i, len) := fun pc i len h => sx_iF_s (aT_111 pc) h
def aI_112_0 : sx_IL := [(0, .aload_n 0, 1), (1, .iconst 0, 1), (2, .putfield 145, 3), (5, .aload_n 0, 1), (6, .getfield 70, 3), (9, .iconst 0, 1)]
theorem aJ_112_0 : sx_iB prog_5_method_16_code aI_112_0 = true := by decide +kernel
def aI_112_1 : sx_IL := [(10, .aload_n 0, 1), (11, .getfield 49, 3), (14, .iload_n 2, 1), (15, .aaload, 1), (16, .aastore, 1), (17, .iconst 0, 1)]
theorem aJ_112_1 : sx_iB prog_5_method_16_code aI_112_1 = true := by decide +kernel
def aI_112_2 : sx_IL := [(18, .istore 5, 2), (20, .iload 5, 2), (22, .iconst 3, 1), (23, .if_icmp .gt 256, 3), (26, .aload_n 0, 1), (27, .iload 5, 2)]
theorem aJ_112_2 : sx_iB prog_5_method_16_code aI_112_2 = true := by decide +kernel
def aI_112_3 : sx_IL := [(29, .iconst 1, 1), (30, .iadd, 1), (31, .putfield 168, 3), (34, .iload 5, 2), (36, .ifCond .ne 7, 3), (39, .iconst 0, 1)]
theorem aJ_112_3 : sx_iB prog_5_method_16_code aI_112_3 = true := by decide +kernel
def aI_112_4 : sx_IL := [(40, .goto 4, 3), (43, .iconst 1, 1), (44, .istore 6, 2), (46, .iload 5, 2), (48, .ifCond .ne 32, 3), (51, .aload_n 0, 1)]
theorem aJ_112_4 : sx_iB prog_5_method_16_code aI_112_4 = true := by decide +kernel
def aI_112_5 : sx_IL := [(52, .aload_n 1, 1), (53, .aload_n 0, 1), (54, .getfield 70, 3), (57, .iconst 0, 1), (58, .aaload, 1), (59, .invokevirtual 179, 3)]
theorem aJ_112_5 : sx_iB prog_5_method_16_code aI_112_5 = true := by decide +kernel
def aI_112_6 : sx_IL := [(62, .ifCond .eq 18, 3), (65, .aload_n 0, 1), (66, .aload_n 1, 1), (67, .iload_n 3, 1), (68, .iload 4, 2), (70, .invokevirtual 203, 3)]
theorem aJ_112_6 : sx_iB prog_5_method_16_code aI_112_6 = true := by decide +kernel
def aI_112_7 : sx_IL := [(73, .ifCond .ne 7, 3), (76, .iconst 1, 1), (77, .goto 4, 3), (80, .iconst 0, 1), (81, .istore 7, 2), (83, .aload_n 0, 1)]
theorem aJ_112_7 : sx_iB prog_5_method_16_code aI_112_7 = true := by decide +kernel
def aI_112_8 : sx_IL := [(84, .getfield 33, 3), (87, .iload 6, 2), (89, .iconst 0, 1), (90, .iastore, 1), (91, .iconst 0, 1), (92, .istore 8, 2)]
theorem aJ_112_8 : sx_iB prog_5_method_16_code aI_112_8 = true := by decide +kernel
def aI_112_9 : sx_IL := [(94, .iload 7, 2), (96, .ifCond .ne 167, 3), (99, .iload 6, 2), (101, .ifCond .le 162, 3), (104, .iload 8, 2), (106, .ldc 207, 2)]
theorem aJ_112_9 : sx_iB prog_5_method_16_code aI_112_9 = true := by decide +kernel
def aI_112_10 : sx_IL := [(108, .if_icmp .ge 155, 3), (111, .aload_n 0, 1), (112, .getfield 33, 3), (115, .iload 6, 2), (117, .iaload, 1), (118, .istore 9, 2)]
theorem aJ_112_10 : sx_iB prog_5_method_16_code aI_112_10 = true := by decide +kernel
def aI_112_11 : sx_IL := [(120, .aload_n 0, 1), (121, .getfield 33, 3), (124, .iload 6, 2), (126, .dup2, 1), (127, .iaload, 1), (128, .iconst 1, 1)]
theorem aJ_112_11 : sx_iB prog_5_method_16_code aI_112_11 = true := by decide +kernel
def aI_112_12 : sx_IL := [(129, .iadd, 1), (130, .iastore, 1), (131, .iload 9, 2), (133, .aload_n 0, 1), (134, .getfield 103, 3), (137, .if_icmp .lt 9, 3)]
theorem aJ_112_12 : sx_iB prog_5_method_16_code aI_112_12 = true := by decide +kernel
def aI_112_13 : sx_IL := [(140, .iinc 6 (-1), 3), (143, .goto 114, 3), (146, .aload_n 0, 1), (147, .aload_n 0, 1), (148, .getfield 49, 3), (151, .iload 9, 2)]
theorem aJ_112_13 : sx_iB prog_5_method_16_code aI_112_13 = true := by decide +kernel
def aI_112_14 : sx_IL := [(153, .aaload, 1), (154, .iload 6, 2), (156, .invokevirtual 171, 3), (159, .ifCond .eq 98, 3), (162, .aload_n 0, 1), (163, .aload_n 0, 1)]
theorem aJ_112_14 : sx_iB prog_5_method_16_code aI_112_14 = true := by decide +kernel
def aI_112_15 : sx_IL := [(164, .getfield 70, 3), (167, .iload 6, 2), (169, .iconst 1, 1), (170, .isub, 1), (171, .aaload, 1), (172, .aload_n 0, 1)]
theorem aJ_112_15 : sx_iB prog_5_method_16_code aI_112_15 = true := by decide +kernel
def aI_112_16 : sx_IL := [(173, .getfield 49, 3), (176, .iload 9, 2), (178, .aaload, 1), (179, .invokevirtual 153, 3), (182, .ifCond .eq 75, 3), (185, .aload_n 0, 1)]
theorem aJ_112_16 : sx_iB prog_5_method_16_code aI_112_16 = true := by decide +kernel
def aI_112_17 : sx_IL := [(186, .getfield 70, 3), (189, .iload 6, 2), (191, .aload_n 0, 1), (192, .getfield 49, 3), (195, .iload 9, 2), (197, .aaload, 1)]
theorem aJ_112_17 : sx_iB prog_5_method_16_code aI_112_17 = true := by decide +kernel
def aI_112_18 : sx_IL := [(198, .aastore, 1), (199, .iload 6, 2), (201, .iload 5, 2), (203, .if_icmp .ne 33, 3), (206, .aload_n 0, 1), (207, .aload_n 1, 1)]
theorem aJ_112_18 : sx_iB prog_5_method_16_code aI_112_18 = true := by decide +kernel
def aI_112_19 : sx_IL := [(208, .aload_n 0, 1), (209, .getfield 70, 3), (212, .iload 5, 2), (214, .aaload, 1), (215, .invokevirtual 179, 3), (218, .ifCond .eq 18, 3)]
theorem aJ_112_19 : sx_iB prog_5_method_16_code aI_112_19 = true := by decide +kernel
def aI_112_20 : sx_IL := [(221, .aload_n 0, 1), (222, .aload_n 1, 1), (223, .iload_n 3, 1), (224, .iload 4, 2), (226, .invokevirtual 203, 3), (229, .ifCond .ne 7, 3)]
theorem aJ_112_20 : sx_iB prog_5_method_16_code aI_112_20 = true := by decide +kernel
def aI_112_21 : sx_IL := [(232, .iconst 1, 1), (233, .goto 4, 3), (236, .iconst 0, 1), (237, .istore 7, 2), (239, .iload 6, 2), (241, .iload 5, 2)]
theorem aJ_112_21 : sx_iB prog_5_method_16_code aI_112_21 = true := by decide +kernel
def aI_112_22 : sx_IL := [(243, .if_icmp .ge 14, 3), (246, .iinc 6 1, 3), (249, .aload_n 0, 1), (250, .getfield 33, 3), (253, .iload 6, 2), (255, .iconst 0, 1)]
theorem aJ_112_22 : sx_iB prog_5_method_16_code aI_112_22 = true := by decide +kernel
def aI_112_23 : sx_IL := [(256, .iastore, 1), (257, .iinc 8 1, 3), (260, .goto (-166), 3), (263, .iload 7, 2), (265, .ifCond .eq 8, 3), (268, .iload 5, 2)]
theorem aJ_112_23 : sx_iB prog_5_method_16_code aI_112_23 = true := by decide +kernel
def aI_112_24 : sx_IL := [(270, .iconst 1, 1), (271, .iadd, 1), (272, .ireturn, 1), (273, .iinc 5 1, 3), (276, .goto (-256), 3), (279, .iconst 0, 1)]
theorem aJ_112_24 : sx_iB prog_5_method_16_code aI_112_24 = true := by decide +kernel
def aI_112_25 : sx_IL := [(280, .ireturn, 1)]
theorem aJ_112_25 : sx_iB prog_5_method_16_code aI_112_25 = true := by decide +kernel
def aS_112 (pc : Nat) : sx_IL := (if pc < 140 then (if pc < 62 then (if pc < 29 then (if pc < 10 then aI_112_0 else (if pc < 18 then aI_112_1 else aI_112_2)) else (if pc < 40 then aI_112_3 else (if pc < 52 then aI_112_4 else aI_112_5))) else (if pc < 94 then (if pc < 73 then aI_112_6 else (if pc < 84 then aI_112_7 else aI_112_8)) else (if pc < 120 then (if pc < 108 then aI_112_9 else aI_112_10) else (if pc < 129 then aI_112_11 else aI_112_12)))) else (if pc < 208 then (if pc < 173 then (if pc < 153 then aI_112_13 else (if pc < 164 then aI_112_14 else aI_112_15)) else (if pc < 186 then aI_112_16 else (if pc < 198 then aI_112_17 else aI_112_18))) else (if pc < 243 then (if pc < 221 then aI_112_19 else (if pc < 232 then aI_112_20 else aI_112_21)) else (if pc < 270 then (if pc < 256 then aI_112_22 else aI_112_23) else (if pc < 280 then aI_112_24 else aI_112_25)))))
theorem aT_112 (pc : Nat) : sx_iOk prog_5_method_16_code (aS_112 pc) := (sx_ite (p := fun l => sx_iOk prog_5_method_16_code l) (sx_ite (p := fun l => sx_iOk prog_5_method_16_code l) (sx_ite (p := fun l => sx_iOk prog_5_method_16_code l) (sx_ite (p := fun l => sx_iOk prog_5_method_16_code l) (sx_iB_s aJ_112_0) (sx_ite (p := fun l => sx_iOk prog_5_method_16_code l) (sx_iB_s aJ_112_1) (sx_iB_s aJ_112_2))) (sx_ite (p := fun l => sx_iOk prog_5_method_16_code l) (sx_iB_s aJ_112_3) (sx_ite (p := fun l => sx_iOk prog_5_method_16_code l) (sx_iB_s aJ_112_4) (sx_iB_s aJ_112_5)))) (sx_ite (p := fun l => sx_iOk prog_5_method_16_code l) (sx_ite (p := fun l => sx_iOk prog_5_method_16_code l) (sx_iB_s aJ_112_6) (sx_ite (p := fun l => sx_iOk prog_5_method_16_code l) (sx_iB_s aJ_112_7) (sx_iB_s aJ_112_8))) (sx_ite (p := fun l => sx_iOk prog_5_method_16_code l) (sx_ite (p := fun l => sx_iOk prog_5_method_16_code l) (sx_iB_s aJ_112_9) (sx_iB_s aJ_112_10)) (sx_ite (p := fun l => sx_iOk prog_5_method_16_code l) (sx_iB_s aJ_112_11) (sx_iB_s aJ_112_12))))) (sx_ite (p := fun l => sx_iOk prog_5_method_16_code l) (sx_ite (p := fun l => sx_iOk prog_5_method_16_code l) (sx_ite (p := fun l => sx_iOk prog_5_method_16_code l) (sx_iB_s aJ_112_13) (sx_ite (p := fun l => sx_iOk prog_5_method_16_code l) (sx_iB_s aJ_112_14) (sx_iB_s aJ_112_15))) (sx_ite (p := fun l => sx_iOk prog_5_method_16_code l) (sx_iB_s aJ_112_16) (sx_ite (p := fun l => sx_iOk prog_5_method_16_code l) (sx_iB_s aJ_112_17) (sx_iB_s aJ_112_18)))) (sx_ite (p := fun l => sx_iOk prog_5_method_16_code l) (sx_ite (p := fun l => sx_iOk prog_5_method_16_code l) (sx_iB_s aJ_112_19) (sx_ite (p := fun l => sx_iOk prog_5_method_16_code l) (sx_iB_s aJ_112_20) (sx_iB_s aJ_112_21))) (sx_ite (p := fun l => sx_iOk prog_5_method_16_code l) (sx_ite (p := fun l => sx_iOk prog_5_method_16_code l) (sx_iB_s aJ_112_22) (sx_iB_s aJ_112_23)) (sx_ite (p := fun l => sx_iOk prog_5_method_16_code l) (sx_iB_s aJ_112_24) (sx_iB_s aJ_112_25))))))
def aW_112 : Nat → Option (Instr × Nat) := fun pc => sx_iF (aS_112 pc) pc
theorem aX_112 : ∀ pc i len, aW_112 pc = some (i, len) → decode aM_112.1.2.1 pc = .ok (i, len) := fun pc i len h => sx_iF_s (aT_112 pc) h
def aI_113_0 : sx_IL := [(0, .iload_n 1, 1), (1, .iconst (-1), 1), (2, .if_icmp .lt 11, 3), (5, .iload_n 1, 1), (6, .aload_n 0, 1), (7, .getfield 213, 3)]
theorem aJ_113_0 : sx_iB prog_1_method_32_code aI_113_0 = true := by decide +kernel
def aI_113_1 : sx_IL := [(10, .if_icmp .lt 5, 3), (13, .iconst (-1), 1), (14, .ireturn, 1), (15, .iload_n 1, 1), (16, .iconst (-1), 1), (17, .if_icmp .ne 10, 3)]
theorem aJ_113_1 : sx_iB prog_1_method_32_code aI_113_1 = true := by decide +kernel
def aI_113_2 : sx_IL := [(20, .aload_n 0, 1), (21, .getfield 213, 3), (24, .goto 9, 3), (27, .aload_n 0, 1), (28, .getfield 28, 3), (31, .iload_n 1, 1)]
theorem aJ_113_2 : sx_iB prog_1_method_32_code aI_113_2 = true := by decide +kernel
def aI_113_3 : sx_IL := [(32, .iaload, 1), (33, .ireturn, 1)]
theorem aJ_113_3 : sx_iB prog_1_method_32_code aI_113_3 = true := by decide +kernel
def aS_113 (pc : Nat) : sx_IL := (if pc < 20 then (if pc < 10 then aI_113_0 else aI_113_1) else (if pc < 32 then aI_113_2 else aI_113_3))
theorem aT_113 (pc : Nat) : sx_iOk prog_1_method_32_code (aS_113 pc) := (sx_ite (p := fun l => sx_iOk prog_1_method_32_code l) (sx_ite (p := fun l => sx_iOk prog_1_method_32_code l) (sx_iB_s aJ_113_0) (sx_iB_s aJ_113_1)) (sx_ite (p := fun l => sx_iOk prog_1_method_32_code l) (sx_iB_s aJ_113_2) (sx_iB_s aJ_113_3)))
def aW_113 : Nat → Option (Instr × Nat) := fun pc => sx_iF (aS_113 pc) pc
theorem aX_113 : ∀ pc i len, aW_113 pc = some (i, len) → decode aM_113.1.2.1 pc = .ok (i, len) := fun pc i len h => sx_iF_s (aT_113 pc) h
def aI_114_0 : sx_IL := [(0, .aload_n 0, 1), (1, .iload_n 1, 1), (2, .invokevirtual 193, 3), (5, .ifCond .eq 11, 3), (8, .aload_n 0, 1), (9, .iload_n 2, 1)]
theorem aJ_114_0 : sx_iB prog_1_method_33_code aI_114_0 = true := by decide +kernel
def aI_114_1 : sx_IL := [(10, .invokevirtual 193, 3), (13, .ifCond .ne 5, 3), (16, .iconst (-1), 1), (17, .ireturn, 1), (18, .aload_n 0, 1), (19, .getfield 10, 3)]
theorem aJ_114_1 : sx_iB prog_1_method_33_code aI_114_1 = true := by decide +kernel
def aI_114_2 : sx_IL := [(22, .iconst 0, 1), (23, .putfield 225, 3), (26, .aload_n 0, 1), (27, .getfield 10, 3), (30, .aload_n 0, 1), (31, .getfield 10, 3)]
theorem aJ_114_2 : sx_iB prog_1_method_33_code aI_114_2 = true := by decide +kernel
def aI_114_3 : sx_IL := [(34, .getfield 196, 3), (37, .iload_n 1, 1), (38, .aaload, 1), (39, .aload_n 0, 1), (40, .getfield 10, 3), (43, .getfield 196, 3)]
theorem aJ_114_3 : sx_iB prog_1_method_33_code aI_114_3 = true := by decide +kernel
def aI_114_4 : sx_IL := [(46, .iload_n 2, 1), (47, .aaload, 1), (48, .iload_n 3, 1), (49, .invokevirtual 244, 3), (52, .ireturn, 1)]
theorem aJ_114_4 : sx_iB prog_1_method_33_code aI_114_4 = true := by decide +kernel
def aS_114 (pc : Nat) : sx_IL := (if pc < 22 then (if pc < 10 then aI_114_0 else aI_114_1) else (if pc < 34 then aI_114_2 else (if pc < 46 then aI_114_3 else aI_114_4)))
theorem aT_114 (pc : Nat) : sx_iOk prog_1_method_33_code (aS_114 pc) := (sx_ite (p := fun l => sx_iOk prog_1_method_33_code l) (sx_ite (p := fun l => sx_iOk prog_1_method_33_code l) (sx_iB_s aJ_114_0) (sx_iB_s aJ_114_1)) (sx_ite (p := fun l => sx_iOk prog_1_method_33_code l) (sx_iB_s aJ_114_2) (sx_ite (p := fun l => sx_iOk prog_1_method_33_code l) (sx_iB_s aJ_114_3) (sx_iB_s aJ_114_4))))
def aW_114 : Nat → Option (Instr × Nat) := fun pc => sx_iF (aS_114 pc) pc
theorem aX_114 : ∀ pc i len, aW_114 pc = some (i, len) → decode aM_114.1.2.1 pc = .ok (i, len) := fun pc i len h => sx_iF_s (aT_114 pc) h
def aI_115_0 : sx_IL := [(0, .iload_n 1, 1), (1, .ifCond .eq 10, 3), (4, .iload_n 1, 1), (5, .iconst 1, 1), (6, .if_icmp .eq 5, 3), (9, .iconst (-1), 1)]
theorem aJ_115_0 : sx_iB prog_1_method_34_code aI_115_0 = true := by decide +kernel
def aI_115_1 : sx_IL := [(10, .ireturn, 1), (11, .aload_n 0, 1), (12, .getfield 248, 3), (15, .bipush 8, 2), (17, .if_icmp .lt 6, 3), (20, .bipush (-3), 2)]
theorem aJ_115_1 : sx_iB prog_1_method_34_code aI_115_1 = true := by decide +kernel
def aI_115_2 : sx_IL := [(22, .ireturn, 1), (23, .aload_n 0, 1), (24, .getfield 34, 3), (27, .aload_n 0, 1), (28, .getfield 248, 3), (31, .new 32, 3)]
theorem aJ_115_2 : sx_iB prog_1_method_34_code aI_115_2 = true := by decide +kernel
def aI_115_3 : sx_IL := [(34, .dup, 1), (35, .iload_n 1, 1), (36, .iconst 1, 1), (37, .if_icmp .ne 7, 3), (40, .iconst 1, 1), (41, .goto 4, 3)]
theorem aJ_115_3 : sx_iB prog_1_method_34_code aI_115_3 = true := by decide +kernel
def aI_115_4 : sx_IL := [(44, .iconst 0, 1), (45, .invokespecial 251, 3), (48, .aastore, 1), (49, .aload_n 0, 1), (50, .dup, 1), (51, .getfield 248, 3)]
theorem aJ_115_4 : sx_iB prog_1_method_34_code aI_115_4 = true := by decide +kernel
def aI_115_5 : sx_IL := [(54, .iconst 1, 1), (55, .iadd, 1), (56, .putfield 248, 3), (59, .aload_n 0, 1), (60, .getfield 248, 3), (63, .iconst 1, 1)]
theorem aJ_115_5 : sx_iB prog_1_method_34_code aI_115_5 = true := by decide +kernel
def aI_115_6 : sx_IL := [(64, .isub, 1), (65, .ireturn, 1)]
theorem aJ_115_6 : sx_iB prog_1_method_34_code aI_115_6 = true := by decide +kernel
def aS_115 (pc : Nat) : sx_IL := (if pc < 34 then (if pc < 10 then aI_115_0 else (if pc < 22 then aI_115_1 else aI_115_2)) else (if pc < 54 then (if pc < 44 then aI_115_3 else aI_115_4) else (if pc < 64 then aI_115_5 else aI_115_6)))
theorem aT_115 (pc : Nat) : sx_iOk prog_1_method_34_code (aS_115 pc) := (sx_ite (p := fun l => sx_iOk prog_1_method_34_code l) (sx_ite (p := fun l => sx_iOk prog_1_method_34_code l) (sx_iB_s aJ_115_0) (sx_ite (p := fun l => sx_iOk prog_1_method_34_code l) (sx_iB_s aJ_115_1) (sx_iB_s aJ_115_2))) (sx_ite (p := fun l => sx_iOk prog_1_method_34_code l) (sx_ite (p := fun l => sx_iOk prog_1_method_34_code l) (sx_iB_s aJ_115_3) (sx_iB_s aJ_115_4)) (sx_ite (p := fun l => sx_iOk prog_1_method_34_code l) (sx_iB_s aJ_115_5) (sx_iB_s aJ_115_6))))
def aW_115 : Nat → Option (Instr × Nat) := fun pc => sx_iF (aS_115 pc) pc
theorem aX_115 : ∀ pc i len, aW_115 pc = some (i, len) → decode aM_115.1.2.1 pc = .ok (i, len) := fun pc i len h => sx_iF_s (aT_115 pc) h
def aI_116_0 : sx_IL := [(0, .aload_n 0, 1), (1, .invokespecial 1, 3), (4, .aload_n 0, 1), (5, .iconst 3, 1), (6, .anewarray 7, 3), (9, .dup, 1)]
theorem aJ_116_0 : sx_iB prog_3_method_1_code aI_116_0 = true := by decide +kernel
def aI_116_1 : sx_IL := [(10, .iconst 0, 1), (11, .iconst 4, 1), (12, .newarray .int, 2), (14, .dup, 1), (15, .iconst 0, 1), (16, .iconst 1, 1)]
theorem aJ_116_1 : sx_iB prog_3_method_1_code aI_116_1 = true := by decide +kernel
def aI_116_2 : sx_IL := [(17, .iastore, 1), (18, .dup, 1), (19, .iconst 1, 1), (20, .iconst 2, 1), (21, .iastore, 1), (22, .dup, 1)]
theorem aJ_116_2 : sx_iB prog_3_method_1_code aI_116_2 = true := by decide +kernel
def aI_116_3 : sx_IL := [(23, .iconst 2, 1), (24, .iconst 3, 1), (25, .iastore, 1), (26, .dup, 1), (27, .iconst 3, 1), (28, .iconst 0, 1)]
theorem aJ_116_3 : sx_iB prog_3_method_1_code aI_116_3 = true := by decide +kernel
def aI_116_4 : sx_IL := [(29, .iastore, 1), (30, .aastore, 1), (31, .dup, 1), (32, .iconst 1, 1), (33, .iconst 4, 1), (34, .newarray .int, 2)]
theorem aJ_116_4 : sx_iB prog_3_method_1_code aI_116_4 = true := by decide +kernel
def aI_116_5 : sx_IL := [(36, .dup, 1), (37, .iconst 0, 1), (38, .iconst 1, 1), (39, .iastore, 1), (40, .dup, 1), (41, .iconst 1, 1)]
theorem aJ_116_5 : sx_iB prog_3_method_1_code aI_116_5 = true := by decide +kernel
def aI_116_6 : sx_IL := [(42, .iconst 2, 1), (43, .iastore, 1), (44, .dup, 1), (45, .iconst 2, 1), (46, .iconst 3, 1), (47, .iastore, 1)]
theorem aJ_116_6 : sx_iB prog_3_method_1_code aI_116_6 = true := by decide +kernel
def aI_116_7 : sx_IL := [(48, .dup, 1), (49, .iconst 3, 1), (50, .iconst 0, 1), (51, .iastore, 1), (52, .aastore, 1), (53, .dup, 1)]
theorem aJ_116_7 : sx_iB prog_3_method_1_code aI_116_7 = true := by decide +kernel
def aI_116_8 : sx_IL := [(54, .iconst 2, 1), (55, .iconst 4, 1), (56, .newarray .int, 2), (58, .dup, 1), (59, .iconst 0, 1), (60, .iconst 1, 1)]
theorem aJ_116_8 : sx_iB prog_3_method_1_code aI_116_8 = true := by decide +kernel
def aI_116_9 : sx_IL := [(61, .iastore, 1), (62, .dup, 1), (63, .iconst 1, 1), (64, .iconst 2, 1), (65, .iastore, 1), (66, .dup, 1)]
theorem aJ_116_9 : sx_iB prog_3_method_1_code aI_116_9 = true := by decide +kernel
def aI_116_10 : sx_IL := [(67, .iconst 2, 1), (68, .iconst 0, 1), (69, .iastore, 1), (70, .dup, 1), (71, .iconst 3, 1), (72, .iconst 0, 1)]
theorem aJ_116_10 : sx_iB prog_3_method_1_code aI_116_10 = true := by decide +kernel
def aI_116_11 : sx_IL := [(73, .iastore, 1), (74, .aastore, 1), (75, .putfield 9, 3), (78, .aload_n 0, 1), (79, .bipush 8, 2), (81, .newarray .int, 2)]
theorem aJ_116_11 : sx_iB prog_3_method_1_code aI_116_11 = true := by decide +kernel
def aI_116_12 : sx_IL := [(83, .dup, 1), (84, .iconst 0, 1), (85, .iconst 0, 1), (86, .iastore, 1), (87, .dup, 1), (88, .iconst 1, 1)]
theorem aJ_116_12 : sx_iB prog_3_method_1_code aI_116_12 = true := by decide +kernel
def aI_116_13 : sx_IL := [(89, .iconst 0, 1), (90, .iastore, 1), (91, .dup, 1), (92, .iconst 2, 1), (93, .iconst 1, 1), (94, .iastore, 1)]
theorem aJ_116_13 : sx_iB prog_3_method_1_code aI_116_13 = true := by decide +kernel
def aI_116_14 : sx_IL := [(95, .dup, 1), (96, .iconst 3, 1), (97, .bipush 60, 2), (99, .iastore, 1), (100, .dup, 1), (101, .iconst 4, 1)]
theorem aJ_116_14 : sx_iB prog_3_method_1_code aI_116_14 = true := by decide +kernel
def aI_116_15 : sx_IL := [(102, .iconst 0, 1), (103, .iastore, 1), (104, .dup, 1), (105, .iconst 5, 1), (106, .iconst 1, 1), (107, .iastore, 1)]
theorem aJ_116_15 : sx_iB prog_3_method_1_code aI_116_15 = true := by decide +kernel
def aI_116_16 : sx_IL := [(108, .dup, 1), (109, .bipush 6, 2), (111, .iconst 0, 1), (112, .iastore, 1), (113, .dup, 1), (114, .bipush 7, 2)]
theorem aJ_116_16 : sx_iB prog_3_method_1_code aI_116_16 = true := by decide +kernel
def aI_116_17 : sx_IL := [(116, .iconst 2, 1), (117, .iastore, 1), (118, .putfield 15, 3), (121, .aload_n 0, 1), (122, .new 18, 3), (125, .dup, 1)]
theorem aJ_116_17 : sx_iB prog_3_method_1_code aI_116_17 = true := by decide +kernel
def aI_116_18 : sx_IL := [(126, .bipush 32, 2), (128, .invokespecial 20, 3), (131, .putfield 23, 3), (134, .aload_n 0, 1), (135, .bipush 30, 2), (137, .newarray .int, 2)]
theorem aJ_116_18 : sx_iB prog_3_method_1_code aI_116_18 = true := by decide +kernel
def aI_116_19 : sx_IL := [(139, .putfield 29, 3), (142, .aload_n 0, 1), (143, .iconst 4, 1), (144, .newarray .int, 2), (146, .putfield 32, 3), (149, .aload_n 0, 1)]
theorem aJ_116_19 : sx_iB prog_3_method_1_code aI_116_19 = true := by decide +kernel
def aI_116_20 : sx_IL := [(150, .new 18, 3), (153, .dup, 1), (154, .bipush 8, 2), (156, .invokespecial 20, 3), (159, .putfield 35, 3), (162, .aload_n 0, 1)]
theorem aJ_116_20 : sx_iB prog_3_method_1_code aI_116_20 = true := by decide +kernel
def aI_116_21 : sx_IL := [(163, .bipush 6, 2), (165, .anewarray 38, 3), (168, .putfield 40, 3), (171, .aload_n 0, 1), (172, .new 18, 3), (175, .dup, 1)]
theorem aJ_116_21 : sx_iB prog_3_method_1_code aI_116_21 = true := by decide +kernel
def aI_116_22 : sx_IL := [(176, .bipush 8, 2), (178, .invokespecial 20, 3), (181, .putfield 44, 3), (184, .aload_n 0, 1), (185, .bipush 20, 2), (187, .anewarray 38, 3)]
theorem aJ_116_22 : sx_iB prog_3_method_1_code aI_116_22 = true := by decide +kernel
def aI_116_23 : sx_IL := [(190, .putfield 47, 3), (193, .aload_n 0, 1), (194, .iload_n 1, 1), (195, .putfield 50, 3), (198, .return_, 1)]
theorem aJ_116_23 : sx_iB prog_3_method_1_code aI_116_23 = true := by decide +kernel
def aS_116 (pc : Nat) : sx_IL := (if pc < 83 then (if pc < 42 then (if pc < 23 then (if pc < 10 then aI_116_0 else (if pc < 17 then aI_116_1 else aI_116_2)) else (if pc < 29 then aI_116_3 else (if pc < 36 then aI_116_4 else aI_116_5))) else (if pc < 61 then (if pc < 48 then aI_116_6 else (if pc < 54 then aI_116_7 else aI_116_8)) else (if pc < 67 then aI_116_9 else (if pc < 73 then aI_116_10 else aI_116_11)))) else (if pc < 126 then (if pc < 102 then (if pc < 89 then aI_116_12 else (if pc < 95 then aI_116_13 else aI_116_14)) else (if pc < 108 then aI_116_15 else (if pc < 116 then aI_116_16 else aI_116_17))) else (if pc < 163 then (if pc < 139 then aI_116_18 else (if pc < 150 then aI_116_19 else aI_116_20)) else (if pc < 176 then aI_116_21 else (if pc < 190 then aI_116_22 else aI_116_23)))))
theorem aT_116 (pc : Nat) : sx_iOk prog_3_method_1_code (aS_116 pc) := (sx_ite (p := fun l => sx_iOk prog_3_method_1_code l) (sx_ite (p := fun l => sx_iOk prog_3_method_1_code l) (sx_ite (p := fun l => sx_iOk prog_3_method_1_code l) (sx_ite (p := fun l => sx_iOk prog_3_method_1_code l) (sx_iB_s aJ_116_0) (sx_ite (p := fun l => sx_iOk prog_3_method_1_code l) (sx_iB_s aJ_116_1) (sx_iB_s aJ_116_2))) (sx_ite (p := fun l => sx_iOk prog_3_method_1_code l) (sx_iB_s aJ_116_3) (sx_ite (p := fun l => sx_iOk prog_3_method_1_code l) (sx_iB_s aJ_116_4) (sx_iB_s aJ_116_5)))) (sx_ite (p := fun l => sx_iOk prog_3_method_1_code l) (sx_ite (p := fun l => sx_iOk prog_3_method_1_code l) (sx_iB_s aJ_116_6) (sx_ite (p := fun l => sx_iOk prog_3_method_1_code l) (sx_iB_s aJ_116_7) (sx_iB_s aJ_116_8))) (sx_ite (p := fun l => sx_iOk prog_3_method_1_code l) (sx_iB_s aJ_116_9) (sx_ite (p := fun l => sx_iOk prog_3_method_1_code l) (sx_iB_s aJ_116_10) (sx_iB_s aJ_116_11))))) (sx_ite (p := fun l => sx_iOk prog_3_method_1_code l) (sx_ite (p := fun l => sx_iOk prog_3_method_1_code l) (sx_ite (p := fun l => sx_iOk prog_3_method_1_code l) (sx_iB_s aJ_116_12) (sx_ite (p := fun l => sx_iOk prog_3_method_1_code l) (sx_iB_s aJ_116_13) (sx_iB_s aJ_116_14))) (sx_ite (p := fun l => sx_iOk prog_3_method_1_code l) (sx_iB_s aJ_116_15) (sx_ite (p := fun l => sx_iOk prog_3_method_1_code l) (sx_iB_s aJ_116_16) (sx_iB_s aJ_116_17)))) (sx_ite (p := fun l => sx_iOk prog_3_method_1_code l) (sx_ite (p := fun l => sx_iOk prog_3_method_1_code l) (sx_iB_s aJ_116_18) (sx_ite (p := fun l => sx_iOk prog_3_method_1_code l) (sx_iB_s aJ_116_19) (sx_iB_s aJ_116_20))) (sx_ite (p := fun l => sx_iOk prog_3_method_1_code l) (sx_iB_s aJ_116_21) (sx_ite (p := fun l => sx_iOk prog_3_method_1_code l) (sx_iB_s aJ_116_22) (sx_iB_s aJ_116_23))))))
def aW_116 : Nat → Option (Instr × Nat) := fun pc => sx_iF (aS_116 pc) pc
theorem aX_116 : ∀ pc i len, aW_116 pc = some (i, len) → decode aM_116.1.2.1 pc = .ok (i, len) := fun pc i len h => sx_iF_s (aT_116 pc) h
def aI_117_0 : sx_IL := [(0, .aload_n 0, 1), (1, .iload_n 1, 1), (2, .invokevirtual 216, 3), (5, .ifCond .eq 12, 3), (8, .iload_n 2, 1), (9, .ifCond .lt 8, 3)]
theorem aJ_117_0 : sx_iB prog_1_method_37_code aI_117_0 = true := by decide +kernel
def aI_117_1 : sx_IL := [(12, .iload_n 2, 1), (13, .iconst 2, 1), (14, .if_icmp .le 5, 3), (17, .iconst (-1), 1), (18, .ireturn, 1), (19, .iload_n 3, 1)]
theorem aJ_117_1 : sx_iB prog_1_method_37_code aI_117_1 = true := by decide +kernel
def aI_117_2 : sx_IL := [(20, .iload_n 2, 1), (21, .iconst 2, 1), (22, .if_icmp .ne 7, 3), (25, .iconst 2, 1), (26, .goto 4, 3), (29, .iconst 3, 1)]
theorem aJ_117_2 : sx_iB prog_1_method_37_code aI_117_2 = true := by decide +kernel
def aI_117_3 : sx_IL := [(30, .invokestatic 257, 3), (33, .istore 4, 2), (35, .iload 4, 2), (37, .ifCond .ne 5, 3), (40, .iconst (-1), 1), (41, .ireturn, 1)]
theorem aJ_117_3 : sx_iB prog_1_method_37_code aI_117_3 = true := by decide +kernel
def aI_117_4 : sx_IL := [(42, .aload_n 0, 1), (43, .getfield 34, 3), (46, .iload_n 1, 1), (47, .aaload, 1), (48, .iload_n 2, 1), (49, .iload_n 3, 1)]
theorem aJ_117_4 : sx_iB prog_1_method_37_code aI_117_4 = true := by decide +kernel
def aI_117_5 : sx_IL := [(50, .invokevirtual 260, 3), (53, .iload 4, 2), (55, .ireturn, 1)]
theorem aJ_117_5 : sx_iB prog_1_method_37_code aI_117_5 = true := by decide +kernel
def aS_117 (pc : Nat) : sx_IL := (if pc < 30 then (if pc < 12 then aI_117_0 else (if pc < 20 then aI_117_1 else aI_117_2)) else (if pc < 42 then aI_117_3 else (if pc < 50 then aI_117_4 else aI_117_5)))
theorem aT_117 (pc : Nat) : sx_iOk prog_1_method_37_code (aS_117 pc) := (sx_ite (p := fun l => sx_iOk prog_1_method_37_code l) (sx_ite (p := fun l => sx_iOk prog_1_method_37_code l) (sx_iB_s aJ_117_0) (sx_ite (p := fun l => sx_iOk prog_1_method_37_code l) (sx_iB_s aJ_117_1) (sx_iB_s aJ_117_2))) (sx_ite (p := fun l => sx_iOk prog_1_method_37_code l) (sx_iB_s aJ_117_3) (sx_ite (p := fun l => sx_iOk prog_1_method_37_code l) (sx_iB_s aJ_117_4) (sx_iB_s aJ_117_5))))
def aW_117 : Nat → Option (Instr × Nat) := fun pc => sx_iF (aS_117 pc) pc
theorem aX_117 : ∀ pc i len, aW_117 pc = some (i, len) → decode aM_117.1.2.1 pc = .ok (i, len) := fun pc i len h => sx_iF_s (aT_117 pc) h
def aI_118_0 : sx_IL := [(0, .iconst 0, 1), (1, .istore_n 2, 1), (2, .iconst 0, 1), (3, .istore_n 3, 1), (4, .bipush 24, 2), (6, .istore 4, 2)]
theorem aJ_118_0 : sx_iB prog_3_method_2_code aI_118_0 = true := by decide +kernel
def aI_118_1 : sx_IL := [(8, .iload 4, 2), (10, .ifCond .lt 62, 3), (13, .iload_n 0, 1), (14, .iload 4, 2), (16, .iushr, 1), (17, .sipush 255, 3)]
theorem aJ_118_1 : sx_iB prog_3_method_2_code aI_118_1 = true := by decide +kernel
def aI_118_2 : sx_IL := [(20, .iand, 1), (21, .istore 5, 2), (23, .iload 5, 2), (25, .iload_n 1, 1), (26, .if_icmp .gt 18, 3), (29, .iload 5, 2)]
theorem aJ_118_2 : sx_iB prog_3_method_2_code aI_118_2 = true := by decide +kernel
def aI_118_3 : sx_IL := [(31, .ifCond .le 15, 3), (34, .iload_n 3, 1), (35, .iload 5, 2), (37, .iushr, 1), (38, .iconst 1, 1), (39, .iand, 1)]
theorem aJ_118_3 : sx_iB prog_3_method_2_code aI_118_3 = true := by decide +kernel
def aI_118_4 : sx_IL := [(40, .iconst 1, 1), (41, .if_icmp .ne 5, 3), (44, .iconst 0, 1), (45, .ireturn, 1), (46, .iload_n 3, 1), (47, .iconst 1, 1)]
theorem aJ_118_4 : sx_iB prog_3_method_2_code aI_118_4 = true := by decide +kernel
def aI_118_5 : sx_IL := [(48, .iload 5, 2), (50, .ishl, 1), (51, .ior, 1), (52, .istore_n 3, 1), (53, .iload_n 2, 1), (54, .iload 5, 2)]
theorem aJ_118_5 : sx_iB prog_3_method_2_code aI_118_5 = true := by decide +kernel
def aI_118_6 : sx_IL := [(56, .ifCond .le 7, 3), (59, .iconst 1, 1), (60, .goto 4, 3), (63, .iconst 0, 1), (64, .iadd, 1), (65, .istore_n 2, 1)]
theorem aJ_118_6 : sx_iB prog_3_method_2_code aI_118_6 = true := by decide +kernel
def aI_118_7 : sx_IL := [(66, .iinc 4 (-8), 3), (69, .goto (-61), 3), (72, .iload_n 2, 1), (73, .ireturn, 1)]
theorem aJ_118_7 : sx_iB prog_3_method_2_code aI_118_7 = true := by decide +kernel
def aS_118 (pc : Nat) : sx_IL := (if pc < 40 then (if pc < 20 then (if pc < 8 then aI_118_0 else aI_118_1) else (if pc < 31 then aI_118_2 else aI_118_3)) else (if pc < 56 then (if pc < 48 then aI_118_4 else aI_118_5) else (if pc < 66 then aI_118_6 else aI_118_7)))
theorem aT_118 (pc : Nat) : sx_iOk prog_3_method_2_code (aS_118 pc) := (sx_ite (p := fun l => sx_iOk prog_3_method_2_code l) (sx_ite (p := fun l => sx_iOk prog_3_method_2_code l) (sx_ite (p := fun l => sx_iOk prog_3_method_2_code l) (sx_iB_s aJ_118_0) (sx_iB_s aJ_118_1)) (sx_ite (p := fun l => sx_iOk prog_3_method_2_code l) (sx_iB_s aJ_118_2) (sx_iB_s aJ_118_3))) (sx_ite (p := fun l => sx_iOk prog_3_method_2_code l) (sx_ite (p := fun l => sx_iOk prog_3_method_2_code l) (sx_iB_s aJ_118_4) (sx_iB_s aJ_118_5)) (sx_ite (p := fun l => sx_iOk prog_3_method_2_code l) (sx_iB_s aJ_118_6) (sx_iB_s aJ_118_7))))
def aW_118 : Nat → Option (Instr × Nat) := fun pc => sx_iF (aS_118 pc) pc
theorem aX_118 : ∀ pc i len, aW_118 pc = some (i, len) → decode aM_118.1.2.1 pc = .ok (i, len) := fun pc i len h => sx_iF_s (aT_118 pc) h
def aI_119_0 : sx_IL := [(0, .aload_n 0, 1), (1, .getfield 9, 3), (4, .iload_n 1, 1), (5, .aaload, 1), (6, .iconst 0, 1), (7, .invokestatic 54, 3)]
theorem aJ_119_0 : sx_iB prog_3_method_3_code aI_119_0 = true := by decide +kernel
def aI_119_1 : sx_IL := [(10, .iconst 0, 1), (11, .istore_n 3, 1), (12, .bipush 24, 2), (14, .istore 4, 2), (16, .iload 4, 2), (18, .ifCond .lt 37, 3)]
theorem aJ_119_1 : sx_iB prog_3_method_3_code aI_119_1 = true := by decide +kernel
def aI_119_2 : sx_IL := [(21, .iload_n 2, 1), (22, .iload 4, 2), (24, .iushr, 1), (25, .sipush 255, 3), (28, .iand, 1), (29, .istore 5, 2)]
theorem aJ_119_2 : sx_iB prog_3_method_3_code aI_119_2 = true := by decide +kernel
def aI_119_3 : sx_IL := [(31, .iload 5, 2), (33, .ifCond .le 16, 3), (36, .aload_n 0, 1), (37, .getfield 9, 3), (40, .iload_n 1, 1), (41, .aaload, 1)]
theorem aJ_119_3 : sx_iB prog_3_method_3_code aI_119_3 = true := by decide +kernel
def aI_119_4 : sx_IL := [(42, .iload_n 3, 1), (43, .iload 5, 2), (45, .iastore, 1), (46, .iinc 3 1, 3), (49, .iinc 4 (-8), 3), (52, .goto (-36), 3)]
theorem aJ_119_4 : sx_iB prog_3_method_3_code aI_119_4 = true := by decide +kernel
def aI_119_5 : sx_IL := [(55, .return_, 1)]
theorem aJ_119_5 : sx_iB prog_3_method_3_code aI_119_5 = true := by decide +kernel
def aS_119 (pc : Nat) : sx_IL := (if pc < 31 then (if pc < 10 then aI_119_0 else (if pc < 21 then aI_119_1 else aI_119_2)) else (if pc < 42 then aI_119_3 else (if pc < 55 then aI_119_4 else aI_119_5)))
theorem aT_119 (pc : Nat) : sx_iOk prog_3_method_3_code (aS_119 pc) := (sx_ite (p := fun l => sx_iOk prog_3_method_3_code l) (sx_ite (p := fun l => sx_iOk prog_3_method_3_code l) (sx_iB_s aJ_119_0) (sx_ite (p := fun l => sx_iOk prog_3_method_3_code l) (sx_iB_s aJ_119_1) (sx_iB_s aJ_119_2))) (sx_ite (p := fun l => sx_iOk prog_3_method_3_code l) (sx_iB_s aJ_119_3) (sx_ite (p := fun l => sx_iOk prog_3_method_3_code l) (sx_iB_s aJ_119_4) (sx_iB_s aJ_119_5))))
def aW_119 : Nat → Option (Instr × Nat) := fun pc => sx_iF (aS_119 pc) pc
theorem aX_119 : ∀ pc i len, aW_119 pc = some (i, len) → decode aM_119.1.2.1 pc = .ok (i, len) := fun pc i len h => sx_iF_s (aT_119 pc) h
def aI_120_0 : sx_IL := [(0, .aload_n 0, 1), (1, .iload_n 1, 1), (2, .invokevirtual 216, 3), (5, .ifCond .eq 17, 3), (8, .aload_n 0, 1), (9, .getfield 34, 3)]
theorem aJ_120_0 : sx_iB prog_1_method_38_code aI_120_0 = true := by decide +kernel
def aI_120_1 : sx_IL := [(12, .iload_n 1, 1), (13, .aaload, 1), (14, .iload_n 2, 1), (15, .iload_n 3, 1), (16, .invokevirtual 264, 3), (19, .ifCond .ne 5, 3)]
theorem aJ_120_1 : sx_iB prog_1_method_38_code aI_120_1 = true := by decide +kernel
def aI_120_2 : sx_IL := [(22, .iconst (-1), 1), (23, .ireturn, 1), (24, .aload_n 0, 1), (25, .getfield 34, 3), (28, .iload_n 1, 1), (29, .aaload, 1)]
theorem aJ_120_2 : sx_iB prog_1_method_38_code aI_120_2 = true := by decide +kernel
def aI_120_3 : sx_IL := [(30, .getfield 268, 3), (33, .iload_n 2, 1), (34, .iaload, 1), (35, .istore 4, 2), (37, .aload_n 0, 1), (38, .getfield 34, 3)]
theorem aJ_120_3 : sx_iB prog_1_method_38_code aI_120_3 = true := by decide +kernel
def aI_120_4 : sx_IL := [(41, .iload_n 1, 1), (42, .aaload, 1), (43, .getfield 268, 3), (46, .iload_n 2, 1), (47, .iload_n 3, 1), (48, .iastore, 1)]
theorem aJ_120_4 : sx_iB prog_1_method_38_code aI_120_4 = true := by decide +kernel
def aI_120_5 : sx_IL := [(49, .iload 4, 2), (51, .ireturn, 1)]
theorem aJ_120_5 : sx_iB prog_1_method_38_code aI_120_5 = true := by decide +kernel
def aS_120 (pc : Nat) : sx_IL := (if pc < 30 then (if pc < 12 then aI_120_0 else (if pc < 22 then aI_120_1 else aI_120_2)) else (if pc < 41 then aI_120_3 else (if pc < 49 then aI_120_4 else aI_120_5)))
theorem aT_120 (pc : Nat) : sx_iOk prog_1_method_38_code (aS_120 pc) := (sx_ite (p := fun l => sx_iOk prog_1_method_38_code l) (sx_ite (p := fun l => sx_iOk prog_1_method_38_code l) (sx_iB_s aJ_120_0) (sx_ite (p := fun l => sx_iOk prog_1_method_38_code l) (sx_iB_s aJ_120_1) (sx_iB_s aJ_120_2))) (sx_ite (p := fun l => sx_iOk prog_1_method_38_code l) (sx_iB_s aJ_120_3) (sx_ite (p := fun l => sx_iOk prog_1_method_38_code l) (sx_iB_s aJ_120_4) (sx_iB_s aJ_120_5))))
def aW_120 : Nat → Option (Instr × Nat) := fun pc => sx_iF (aS_120 pc) pc
theorem aX_120 : ∀ pc i len, aW_120 pc = some (i, len) → decode aM_120.1.2.1 pc = .ok (i, len) := fun pc i len h => sx_iF_s (aT_120 pc) h
def aI_121_0 : sx_IL := [(0, .iload_n 1, 1), (1, .ifCond .lt 25, 3), (4, .iload_n 1, 1), (5, .aload_n 0, 1), (6, .getfield 15, 3), (9, .arraylength, 1)]
theorem aJ_121_0 : sx_iB prog_3_method_7_code aI_121_0 = true := by decide +kernel
def aI_121_1 : sx_IL := [(10, .if_icmp .ge 16, 3), (13, .iload_n 2, 1), (14, .ifCond .lt 12, 3), (17, .iload_n 2, 1), (18, .getstatic 72, 3), (21, .iload_n 1, 1)]
theorem aJ_121_1 : sx_iB prog_3_method_7_code aI_121_1 = true := by decide +kernel
def aI_121_2 : sx_IL := [(22, .iaload, 1), (23, .if_icmp .le 5, 3), (26, .iconst 0, 1), (27, .ireturn, 1), (28, .iload_n 1, 1), (29, .ifCond .eq 26, 3)]
theorem aJ_121_2 : sx_iB prog_3_method_7_code aI_121_2 = true := by decide +kernel
def aI_121_3 : sx_IL := [(32, .iload_n 1, 1), (33, .bipush 6, 2), (35, .if_icmp .eq 20, 3), (38, .aload_n 0, 1), (39, .getfield 50, 3), (42, .iload_n 1, 1)]
theorem aJ_121_3 : sx_iB prog_3_method_7_code aI_121_3 = true := by decide +kernel
def aI_121_4 : sx_IL := [(43, .iconst 5, 1), (44, .if_icmp .ne 7, 3), (47, .iconst 1, 1), (48, .goto 4, 3), (51, .iconst 0, 1), (52, .if_icmp .eq 7, 3)]
theorem aJ_121_4 : sx_iB prog_3_method_7_code aI_121_4 = true := by decide +kernel
def aI_121_5 : sx_IL := [(55, .iconst 1, 1), (56, .goto 4, 3), (59, .iconst 0, 1), (60, .ireturn, 1)]
theorem aJ_121_5 : sx_iB prog_3_method_7_code aI_121_5 = true := by decide +kernel
def aS_121 (pc : Nat) : sx_IL := (if pc < 32 then (if pc < 10 then aI_121_0 else (if pc < 22 then aI_121_1 else aI_121_2)) else (if pc < 43 then aI_121_3 else (if pc < 55 then aI_121_4 else aI_121_5)))
theorem aT_121 (pc : Nat) : sx_iOk prog_3_method_7_code (aS_121 pc) := (sx_ite (p := fun l => sx_iOk prog_3_method_7_code l) (sx_ite (p := fun l => sx_iOk prog_3_method_7_code l) (sx_iB_s aJ_121_0) (sx_ite (p := fun l => sx_iOk prog_3_method_7_code l) (sx_iB_s aJ_121_1) (sx_iB_s aJ_121_2))) (sx_ite (p := fun l => sx_iOk prog_3_method_7_code l) (sx_iB_s aJ_121_3) (sx_ite (p := fun l => sx_iOk prog_3_method_7_code l) (sx_iB_s aJ_121_4) (sx_iB_s aJ_121_5))))
def aW_121 : Nat → Option (Instr × Nat) := fun pc => sx_iF (aS_121 pc) pc
theorem aX_121 : ∀ pc i len, aW_121 pc = some (i, len) → decode aM_121.1.2.1 pc = .ok (i, len) := fun pc i len h => sx_iF_s (aT_121 pc) h
def aI_122_0 : sx_IL := [(0, .aload_n 0, 1), (1, .iload_n 1, 1), (2, .invokevirtual 216, 3), (5, .ifCond .ne 5, 3), (8, .iconst (-1), 1), (9, .ireturn, 1)]
theorem aJ_122_0 : sx_iB prog_1_method_39_code aI_122_0 = true := by decide +kernel
def aI_122_1 : sx_IL := [(10, .aload_n 0, 1), (11, .getfield 34, 3), (14, .iload_n 1, 1), (15, .aaload, 1), (16, .getfield 271, 3), (19, .astore_n 2, 1)]
theorem aJ_122_1 : sx_iB prog_1_method_39_code aI_122_1 = true := by decide +kernel
def aI_122_2 : sx_IL := [(20, .aload_n 2, 1), (21, .getfield 69, 3), (24, .aload_n 0, 1), (25, .getfield 21, 3), (28, .getfield 69, 3), (31, .iadd, 1)]
theorem aJ_122_2 : sx_iB prog_1_method_39_code aI_122_2 = true := by decide +kernel
def aI_122_3 : sx_IL := [(32, .sipush 200, 3), (35, .if_icmp .le 6, 3), (38, .bipush (-3), 2), (40, .ireturn, 1), (41, .aload_n 2, 1), (42, .aload_n 0, 1)]
theorem aJ_122_3 : sx_iB prog_1_method_39_code aI_122_3 = true := by decide +kernel
def aI_122_4 : sx_IL := [(43, .getfield 21, 3), (46, .getfield 80, 3), (49, .iconst 0, 1), (50, .aload_n 0, 1), (51, .getfield 21, 3), (54, .getfield 69, 3)]
theorem aJ_122_4 : sx_iB prog_1_method_39_code aI_122_4 = true := by decide +kernel
def aI_122_5 : sx_IL := [(57, .invokevirtual 83, 3), (60, .aload_n 0, 1), (61, .getfield 21, 3), (64, .invokevirtual 108, 3), (67, .aload_n 2, 1), (68, .getfield 69, 3)]
theorem aJ_122_5 : sx_iB prog_1_method_39_code aI_122_5 = true := by decide +kernel
def aI_122_6 : sx_IL := [(71, .ireturn, 1)]
theorem aJ_122_6 : sx_iB prog_1_method_39_code aI_122_6 = true := by decide +kernel
def aS_122 (pc : Nat) : sx_IL := (if pc < 32 then (if pc < 10 then aI_122_0 else (if pc < 20 then aI_122_1 else aI_122_2)) else (if pc < 57 then (if pc < 43 then aI_122_3 else aI_122_4) else (if pc < 71 then aI_122_5 else aI_122_6)))
theorem aT_122 (pc : Nat) : sx_iOk prog_1_method_39_code (aS_122 pc) := (sx_ite (p := fun l => sx_iOk prog_1_method_39_code l) (sx_ite (p := fun l => sx_iOk prog_1_method_39_code l) (sx_iB_s aJ_122_0) (sx_ite (p := fun l => sx_iOk prog_1_method_39_code l) (sx_iB_s aJ_122_1) (sx_iB_s aJ_122_2))) (sx_ite (p := fun l => sx_iOk prog_1_method_39_code l) (sx_ite (p := fun l => sx_iOk prog_1_method_39_code l) (sx_iB_s aJ_122_3) (sx_iB_s aJ_122_4)) (sx_ite (p := fun l => sx_iOk prog_1_method_39_code l) (sx_iB_s aJ_122_5) (sx_iB_s aJ_122_6))))
def aW_122 : Nat → Option (Instr × Nat) := fun pc => sx_iF (aS_122 pc) pc
theorem aX_122 : ∀ pc i len, aW_122 pc = some (i, len) → decode aM_122.1.2.1 pc = .ok (i, len) := fun pc i len h => sx_iF_s (aT_122 pc) h
def aI_123_0 : sx_IL := [(0, .aload_n 0, 1), (1, .iload_n 1, 1), (2, .invokevirtual 216, 3), (5, .ifCond .eq 11, 3), (8, .aload_n 0, 1), (9, .iload_n 2, 1)]
theorem aJ_123_0 : sx_iB prog_1_method_40_code aI_123_0 = true := by decide +kernel
def aI_123_1 : sx_IL := [(10, .invokevirtual 193, 3), (13, .ifCond .ne 5, 3), (16, .iconst (-1), 1), (17, .ireturn, 1), (18, .aload_n 0, 1), (19, .getfield 34, 3)]
theorem aJ_123_1 : sx_iB prog_1_method_40_code aI_123_1 = true := by decide +kernel
def aI_123_2 : sx_IL := [(22, .iload_n 1, 1), (23, .aaload, 1), (24, .iload_n 2, 1), (25, .invokevirtual 272, 3), (28, .ireturn, 1)]
theorem aJ_123_2 : sx_iB prog_1_method_40_code aI_123_2 = true := by decide +kernel
def aS_123 (pc : Nat) : sx_IL := (if pc < 10 then aI_123_0 else (if pc < 22 then aI_123_1 else aI_123_2))
theorem aT_123 (pc : Nat) : sx_iOk prog_1_method_40_code (aS_123 pc) := (sx_ite (p := fun l => sx_iOk prog_1_method_40_code l) (sx_iB_s aJ_123_0) (sx_ite (p := fun l => sx_iOk prog_1_method_40_code l) (sx_iB_s aJ_123_1) (sx_iB_s aJ_123_2)))
def aW_123 : Nat → Option (Instr × Nat) := fun pc => sx_iF (aS_123 pc) pc
theorem aX_123 : ∀ pc i len, aW_123 pc = some (i, len) → decode aM_123.1.2.1 pc = .ok (i, len) := fun pc i len h => sx_iF_s (aT_123 pc) h
def aI_124_0 : sx_IL := [(0, .iconst 0, 1), (1, .istore_n 2, 1), (2, .iload_n 2, 1), (3, .aload_n 0, 1), (4, .getfield 75, 3), (7, .if_icmp .ge 24, 3)]
theorem aJ_124_0 : sx_iB prog_3_method_8_code aI_124_0 = true := by decide +kernel
def aI_124_1 : sx_IL := [(10, .aload_n 0, 1), (11, .getfield 29, 3), (14, .iload_n 2, 1), (15, .iaload, 1), (16, .iload_n 1, 1), (17, .if_icmp .ne 8, 3)]
theorem aJ_124_1 : sx_iB prog_3_method_8_code aI_124_1 = true := by decide +kernel
def aI_124_2 : sx_IL := [(20, .aload_n 0, 1), (21, .getfield 75, 3), (24, .ireturn, 1), (25, .iinc 2 1, 3), (28, .goto (-26), 3), (31, .aload_n 0, 1)]
theorem aJ_124_2 : sx_iB prog_3_method_8_code aI_124_2 = true := by decide +kernel
def aI_124_3 : sx_IL := [(32, .getfield 75, 3), (35, .aload_n 0, 1), (36, .getfield 29, 3), (39, .arraylength, 1), (40, .if_icmp .ge 23, 3), (43, .aload_n 0, 1)]
theorem aJ_124_3 : sx_iB prog_3_method_8_code aI_124_3 = true := by decide +kernel
def aI_124_4 : sx_IL := [(44, .getfield 29, 3), (47, .aload_n 0, 1), (48, .getfield 75, 3), (51, .iload_n 1, 1), (52, .iastore, 1), (53, .aload_n 0, 1)]
theorem aJ_124_4 : sx_iB prog_3_method_8_code aI_124_4 = true := by decide +kernel
def aI_124_5 : sx_IL := [(54, .dup, 1), (55, .getfield 75, 3), (58, .iconst 1, 1), (59, .iadd, 1), (60, .putfield 75, 3), (63, .aload_n 0, 1)]
theorem aJ_124_5 : sx_iB prog_3_method_8_code aI_124_5 = true := by decide +kernel
def aI_124_6 : sx_IL := [(64, .getfield 75, 3), (67, .ireturn, 1)]
theorem aJ_124_6 : sx_iB prog_3_method_8_code aI_124_6 = true := by decide +kernel
def aS_124 (pc : Nat) : sx_IL := (if pc < 32 then (if pc < 10 then aI_124_0 else (if pc < 20 then aI_124_1 else aI_124_2)) else (if pc < 54 then (if pc < 44 then aI_124_3 else aI_124_4) else (if pc < 64 then aI_124_5 else aI_124_6)))
theorem aT_124 (pc : Nat) : sx_iOk prog_3_method_8_code (aS_124 pc) := (sx_ite (p := fun l => sx_iOk prog_3_method_8_code l) (sx_ite (p := fun l => sx_iOk prog_3_method_8_code l) (sx_iB_s aJ_124_0) (sx_ite (p := fun l => sx_iOk prog_3_method_8_code l) (sx_iB_s aJ_124_1) (sx_iB_s aJ_124_2))) (sx_ite (p := fun l => sx_iOk prog_3_method_8_code l) (sx_ite (p := fun l => sx_iOk prog_3_method_8_code l) (sx_iB_s aJ_124_3) (sx_iB_s aJ_124_4)) (sx_ite (p := fun l => sx_iOk prog_3_method_8_code l) (sx_iB_s aJ_124_5) (sx_iB_s aJ_124_6))))
def aW_124 : Nat → Option (Instr × Nat) := fun pc => sx_iF (aS_124 pc) pc
theorem aX_124 : ∀ pc i len, aW_124 pc = some (i, len) → decode aM_124.1.2.1 pc = .ok (i, len) := fun pc i len h => sx_iF_s (aT_124 pc) h
def aI_125_0 : sx_IL := [(0, .aload_n 0, 1), (1, .iload_n 1, 1), (2, .invokevirtual 216, 3), (5, .ifCond .eq 10, 3), (8, .iload_n 2, 1), (9, .invokestatic 149, 3)]
theorem aJ_125_0 : sx_iB prog_1_method_41_code aI_125_0 = true := by decide +kernel
def aI_125_1 : sx_IL := [(12, .ifCond .ne 5, 3), (15, .iconst (-1), 1), (16, .ireturn, 1), (17, .aload_n 0, 1), (18, .getfield 213, 3), (21, .iconst 1, 1)]
theorem aJ_125_1 : sx_iB prog_1_method_41_code aI_125_1 = true := by decide +kernel
def aI_125_2 : sx_IL := [(22, .if_icmp .lt 11, 3), (25, .aload_n 0, 1), (26, .getfield 213, 3), (29, .iconst 4, 1), (30, .if_icmp .le 6, 3), (33, .bipush (-2), 2)]
theorem aJ_125_2 : sx_iB prog_1_method_41_code aI_125_2 = true := by decide +kernel
def aI_125_3 : sx_IL := [(35, .ireturn, 1), (36, .aload_n 0, 1), (37, .getfield 10, 3), (40, .getfield 196, 3), (43, .aload_n 0, 1), (44, .getfield 28, 3)]
theorem aJ_125_3 : sx_iB prog_1_method_41_code aI_125_3 = true := by decide +kernel
def aI_125_4 : sx_IL := [(47, .iconst 0, 1), (48, .iaload, 1), (49, .aaload, 1), (50, .getfield 200, 3), (53, .iconst 4, 1), (54, .iaload, 1)]
theorem aJ_125_4 : sx_iB prog_1_method_41_code aI_125_4 = true := by decide +kernel
def aI_125_5 : sx_IL := [(55, .aload_n 0, 1), (56, .getfield 10, 3), (59, .getfield 98, 3), (62, .iload_n 2, 1), (63, .invokevirtual 152, 3), (66, .if_icmp .eq 6, 3)]
theorem aJ_125_5 : sx_iB prog_1_method_41_code aI_125_5 = true := by decide +kernel
def aI_125_6 : sx_IL := [(69, .bipush (-2), 2), (71, .ireturn, 1), (72, .aload_n 0, 1), (73, .getfield 34, 3), (76, .iload_n 1, 1), (77, .aaload, 1)]
theorem aJ_125_6 : sx_iB prog_1_method_41_code aI_125_6 = true := by decide +kernel
def aI_125_7 : sx_IL := [(78, .astore_n 3, 1), (79, .iconst 0, 1), (80, .istore 4, 2), (82, .iload 4, 2), (84, .aload_n 0, 1), (85, .getfield 213, 3)]
theorem aJ_125_7 : sx_iB prog_1_method_41_code aI_125_7 = true := by decide +kernel
def aI_125_8 : sx_IL := [(88, .if_icmp .ge 23, 3), (91, .aload_n 3, 1), (92, .getfield 275, 3), (95, .iload 4, 2), (97, .aload_n 0, 1), (98, .getfield 28, 3)]
theorem aJ_125_8 : sx_iB prog_1_method_41_code aI_125_8 = true := by decide +kernel
def aI_125_9 : sx_IL := [(101, .iload 4, 2), (103, .iaload, 1), (104, .iastore, 1), (105, .iinc 4 1, 3), (108, .goto (-26), 3), (111, .aload_n 3, 1)]
theorem aJ_125_9 : sx_iB prog_1_method_41_code aI_125_9 = true := by decide +kernel
def aI_125_10 : sx_IL := [(112, .aload_n 0, 1), (113, .getfield 213, 3), (116, .putfield 278, 3), (119, .aload_n 3, 1), (120, .iload_n 2, 1), (121, .putfield 281, 3)]
theorem aJ_125_10 : sx_iB prog_1_method_41_code aI_125_10 = true := by decide +kernel
def aI_125_11 : sx_IL := [(124, .aload_n 0, 1), (125, .iconst 0, 1), (126, .putfield 213, 3), (129, .aload_n 3, 1), (130, .getfield 278, 3), (133, .ireturn, 1)]
theorem aJ_125_11 : sx_iB prog_1_method_41_code aI_125_11 = true := by decide +kernel
def aS_125 (pc : Nat) : sx_IL := (if pc < 69 then (if pc < 35 then (if pc < 12 then aI_125_0 else (if pc < 22 then aI_125_1 else aI_125_2)) else (if pc < 47 then aI_125_3 else (if pc < 55 then aI_125_4 else aI_125_5))) else (if pc < 101 then (if pc < 78 then aI_125_6 else (if pc < 88 then aI_125_7 else aI_125_8)) else (if pc < 112 then aI_125_9 else (if pc < 124 then aI_125_10 else aI_125_11))))
theorem aT_125 (pc : Nat) : sx_iOk prog_1_method_41_code (aS_125 pc) := (sx_ite (p := fun l => sx_iOk prog_1_method_41_code l) (sx_ite (p := fun l => sx_iOk prog_1_method_41_code l) (sx_ite (p := fun l => sx_iOk prog_1_method_41_code l) (sx_iB_s aJ_125_0) (sx_ite (p := fun l => sx_iOk prog_1_method_41_code l) (sx_iB_s aJ_125_1) (sx_iB_s aJ_125_2))) (sx_ite (p := fun l => sx_iOk prog_1_method_41_code l) (sx_iB_s aJ_125_3) (sx_ite (p := fun l => sx_iOk prog_1_method_41_code l) (sx_iB_s aJ_125_4) (sx_iB_s aJ_125_5)))) (sx_ite (p := fun l => sx_iOk prog_1_method_41_code l) (sx_ite (p := fun l => sx_iOk prog_1_method_41_code l) (sx_iB_s aJ_125_6) (sx_ite (p := fun l => sx_iOk prog_1_method_41_code l) (sx_iB_s aJ_125_7) (sx_iB_s aJ_125_8))) (sx_ite (p := fun l => sx_iOk prog_1_method_41_code l) (sx_iB_s aJ_125_9) (sx_ite (p := fun l => sx_iOk prog_1_method_41_code l) (sx_iB_s aJ_125_10) (sx_iB_s aJ_125_11)))))
def aW_125 : Nat → Option (Instr × Nat) := fun pc => sx_iF (aS_125 pc) pc
theorem aX_125 : ∀ pc i len, aW_125 pc = some (i, len) → decode aM_125.1.2.1 pc = .ok (i, len) := fun pc i len h => sx_iF_s (aT_125 pc) h
def aI_126_0 : sx_IL := [(0, .aload_n 0, 1), (1, .iload_n 1, 1), (2, .invokevirtual 284, 3), (5, .ifCond .ne 5, 3), (8, .iconst (-1), 1), (9, .ireturn, 1)]
theorem aJ_126_0 : sx_iB prog_1_method_42_code aI_126_0 = true := by decide +kernel
def aI_126_1 : sx_IL := [(10, .aload_n 0, 1), (11, .getfield 21, 3), (14, .getfield 80, 3), (17, .iconst 0, 1), (18, .aload_n 0, 1), (19, .getfield 21, 3)]
theorem aJ_126_1 : sx_iB prog_1_method_42_code aI_126_1 = true := by decide +kernel
def aI_126_2 : sx_IL := [(22, .getfield 69, 3), (25, .invokestatic 287, 3), (28, .ifCond .lt 6, 3), (31, .bipush (-2), 2), (33, .ireturn, 1), (34, .aload_n 0, 1)]
theorem aJ_126_2 : sx_iB prog_1_method_42_code aI_126_2 = true := by decide +kernel
def aI_126_3 : sx_IL := [(35, .getfield 34, 3), (38, .iload_n 1, 1), (39, .aaload, 1), (40, .getfield 291, 3), (43, .invokevirtual 108, 3), (46, .aload_n 0, 1)]
theorem aJ_126_3 : sx_iB prog_1_method_42_code aI_126_3 = true := by decide +kernel
def aI_126_4 : sx_IL := [(47, .getfield 34, 3), (50, .iload_n 1, 1), (51, .aaload, 1), (52, .getfield 291, 3), (55, .aload_n 0, 1), (56, .getfield 21, 3)]
theorem aJ_126_4 : sx_iB prog_1_method_42_code aI_126_4 = true := by decide +kernel
def aI_126_5 : sx_IL := [(59, .getfield 80, 3), (62, .iconst 0, 1), (63, .aload_n 0, 1), (64, .getfield 21, 3), (67, .getfield 69, 3), (70, .invokevirtual 83, 3)]
theorem aJ_126_5 : sx_iB prog_1_method_42_code aI_126_5 = true := by decide +kernel
def aI_126_6 : sx_IL := [(73, .aload_n 0, 1), (74, .getfield 21, 3), (77, .invokevirtual 108, 3), (80, .iconst 1, 1), (81, .ireturn, 1)]
theorem aJ_126_6 : sx_iB prog_1_method_42_code aI_126_6 = true := by decide +kernel
def aS_126 (pc : Nat) : sx_IL := (if pc < 35 then (if pc < 10 then aI_126_0 else (if pc < 22 then aI_126_1 else aI_126_2)) else (if pc < 59 then (if pc < 47 then aI_126_3 else aI_126_4) else (if pc < 73 then aI_126_5 else aI_126_6)))
theorem aT_126 (pc : Nat) : sx_iOk prog_1_method_42_code (aS_126 pc) := (sx_ite (p := fun l => sx_iOk prog_1_method_42_code l) (sx_ite (p := fun l => sx_iOk prog_1_method_42_code l) (sx_iB_s aJ_126_0) (sx_ite (p := fun l => sx_iOk prog_1_method_42_code l) (sx_iB_s aJ_126_1) (sx_iB_s aJ_126_2))) (sx_ite (p := fun l => sx_iOk prog_1_method_42_code l) (sx_ite (p := fun l => sx_iOk prog_1_method_42_code l) (sx_iB_s aJ_126_3) (sx_iB_s aJ_126_4)) (sx_ite (p := fun l => sx_iOk prog_1_method_42_code l) (sx_iB_s aJ_126_5) (sx_iB_s aJ_126_6))))
def aW_126 : Nat → Option (Instr × Nat) := fun pc => sx_iF (aS_126 pc) pc
theorem aX_126 : ∀ pc i len, aW_126 pc = some (i, len) → decode aM_126.1.2.1 pc = .ok (i, len) := fun pc i len h => sx_iF_s (aT_126 pc) h
def aI_127_0 : sx_IL := [(0, .aload_n 0, 1), (1, .iload_n 1, 1), (2, .invokevirtual 216, 3), (5, .ifCond .eq 19, 3), (8, .aload_n 0, 1), (9, .getfield 34, 3)]
theorem aJ_127_0 : sx_iB prog_1_method_36_code aI_127_0 = true := by decide +kernel
def aI_127_1 : sx_IL := [(12, .iload_n 1, 1), (13, .aaload, 1), (14, .getfield 254, 3), (17, .ifCond .ne 7, 3), (20, .iconst 1, 1), (21, .goto 4, 3)]
theorem aJ_127_1 : sx_iB prog_1_method_36_code aI_127_1 = true := by decide +kernel
def aI_127_2 : sx_IL := [(24, .iconst 0, 1), (25, .ireturn, 1)]
theorem aJ_127_2 : sx_iB prog_1_method_36_code aI_127_2 = true := by decide +kernel
def aS_127 (pc : Nat) : sx_IL := (if pc < 12 then aI_127_0 else (if pc < 24 then aI_127_1 else aI_127_2))
theorem aT_127 (pc : Nat) : sx_iOk prog_1_method_36_code (aS_127 pc) := (sx_ite (p := fun l => sx_iOk prog_1_method_36_code l) (sx_iB_s aJ_127_0) (sx_ite (p := fun l => sx_iOk prog_1_method_36_code l) (sx_iB_s aJ_127_1) (sx_iB_s aJ_127_2)))
def aW_127 : Nat → Option (Instr × Nat) := fun pc => sx_iF (aS_127 pc) pc
theorem aX_127 : ∀ pc i len, aW_127 pc = some (i, len) → decode aM_127.1.2.1 pc = .ok (i, len) := fun pc i len h => sx_iF_s (aT_127 pc) h
def aI_128_0 : sx_IL := [(0, .aload_n 0, 1), (1, .iload_n 1, 1), (2, .invokevirtual 216, 3), (5, .ifCond .eq 10, 3), (8, .iload_n 2, 1), (9, .invokestatic 92, 3)]
theorem aJ_128_0 : sx_iB prog_1_method_43_code aI_128_0 = true := by decide +kernel
def aI_128_1 : sx_IL := [(12, .ifCond .ne 5, 3), (15, .iconst (-1), 1), (16, .ireturn, 1), (17, .aload_n 0, 1), (18, .getfield 21, 3), (21, .getfield 69, 3)]
theorem aJ_128_1 : sx_iB prog_1_method_43_code aI_128_1 = true := by decide +kernel
def aI_128_2 : sx_IL := [(24, .iconst 1, 1), (25, .if_icmp .lt 15, 3), (28, .aload_n 0, 1), (29, .getfield 21, 3), (32, .getfield 69, 3), (35, .bipush 16, 2)]
theorem aJ_128_2 : sx_iB prog_1_method_43_code aI_128_2 = true := by decide +kernel
def aI_128_3 : sx_IL := [(37, .if_icmp .le 6, 3), (40, .bipush (-2), 2), (42, .ireturn, 1), (43, .aload_n 0, 1), (44, .getfield 34, 3), (47, .iload_n 1, 1)]
theorem aJ_128_3 : sx_iB prog_1_method_43_code aI_128_3 = true := by decide +kernel
def aI_128_4 : sx_IL := [(48, .aaload, 1), (49, .getfield 294, 3), (52, .bipush 6, 2), (54, .if_icmp .lt 6, 3), (57, .bipush (-3), 2), (59, .ireturn, 1)]
theorem aJ_128_4 : sx_iB prog_1_method_43_code aI_128_4 = true := by decide +kernel
def aI_128_5 : sx_IL := [(60, .aload_n 0, 1), (61, .getfield 34, 3), (64, .iload_n 1, 1), (65, .aaload, 1), (66, .new 297, 3), (69, .dup, 1)]
theorem aJ_128_5 : sx_iB prog_1_method_43_code aI_128_5 = true := by decide +kernel
def aI_128_6 : sx_IL := [(70, .aload_n 0, 1), (71, .getfield 21, 3), (74, .iload_n 2, 1), (75, .lload_n 3, 1), (76, .invokespecial 299, 3), (79, .invokevirtual 302, 3)]
theorem aJ_128_6 : sx_iB prog_1_method_43_code aI_128_6 = true := by decide +kernel
def aI_128_7 : sx_IL := [(82, .aload_n 0, 1), (83, .getfield 21, 3), (86, .invokevirtual 108, 3), (89, .aload_n 0, 1), (90, .getfield 34, 3), (93, .iload_n 1, 1)]
theorem aJ_128_7 : sx_iB prog_1_method_43_code aI_128_7 = true := by decide +kernel
def aI_128_8 : sx_IL := [(94, .aaload, 1), (95, .getfield 294, 3), (98, .ireturn, 1)]
theorem aJ_128_8 : sx_iB prog_1_method_43_code aI_128_8 = true := by decide +kernel
def aS_128 (pc : Nat) : sx_IL := (if pc < 48 then (if pc < 24 then (if pc < 12 then aI_128_0 else aI_128_1) else (if pc < 37 then aI_128_2 else aI_128_3)) else (if pc < 70 then (if pc < 60 then aI_128_4 else aI_128_5) else (if pc < 82 then aI_128_6 else (if pc < 94 then aI_128_7 else aI_128_8))))
theorem aT_128 (pc : Nat) : sx_iOk prog_1_method_43_code (aS_128 pc) := (sx_ite (p := fun l => sx_iOk prog_1_method_43_code l) (sx_ite (p := fun l => sx_iOk prog_1_method_43_code l) (sx_ite (p := fun l => sx_iOk prog_1_method_43_code l) (sx_iB_s aJ_128_0) (sx_iB_s aJ_128_1)) (sx_ite (p := fun l => sx_iOk prog_1_method_43_code l) (sx_iB_s aJ_128_2) (sx_iB_s aJ_128_3))) (sx_ite (p := fun l => sx_iOk prog_1_method_43_code l) (sx_ite (p := fun l => sx_iOk prog_1_method_43_code l) (sx_iB_s aJ_128_4) (sx_iB_s aJ_128_5)) (sx_ite (p := fun l => sx_iOk prog_1_method_43_code l) (sx_iB_s aJ_128_6) (sx_ite (p := fun l => sx_iOk prog_1_method_43_code l) (sx_iB_s aJ_128_7) (sx_iB_s aJ_128_8)))))
def aW_128 : Nat → Option (Instr × Nat) := fun pc => sx_iF (aS_128 pc) pc
theorem aX_128 : ∀ pc i len, aW_128 pc = some (i, len) → decode aM_128.1.2.1 pc = .ok (i, len) := fun pc i len h => sx_iF_s (aT_128 pc) h
def aI_129_0 : sx_IL := [(0, .aload_n 0, 1), (1, .invokespecial 1, 3), (4, .aload_n 0, 1), (5, .aload_n 1, 1), (6, .getfield 7, 3), (9, .aload_n 1, 1)]
theorem aJ_129_0 : sx_iB prog_11_method_1_code aI_129_0 = true := by decide +kernel
def aI_129_1 : sx_IL := [(10, .getfield 13, 3), (13, .invokestatic 17, 3), (16, .putfield 23, 3), (19, .aload_n 0, 1), (20, .iload_n 2, 1), (21, .putfield 28, 3)]
theorem aJ_129_1 : sx_iB prog_11_method_1_code aI_129_1 = true := by decide +kernel
def aI_129_2 : sx_IL := [(24, .aload_n 0, 1), (25, .lload_n 3, 1), (26, .putfield 31, 3), (29, .return_, 1)]
theorem aJ_129_2 : sx_iB prog_11_method_1_code aI_129_2 = true := by decide +kernel
def aS_129 (pc : Nat) : sx_IL := (if pc < 10 then aI_129_0 else (if pc < 24 then aI_129_1 else aI_129_2))
theorem aT_129 (pc : Nat) : sx_iOk prog_11_method_1_code (aS_129 pc) := (sx_ite (p := fun l => sx_iOk prog_11_method_1_code l) (sx_iB_s aJ_129_0) (sx_ite (p := fun l => sx_iOk prog_11_method_1_code l) (sx_iB_s aJ_129_1) (sx_iB_s aJ_129_2)))
def aW_129 : Nat → Option (Instr × Nat) := fun pc => sx_iF (aS_129 pc) pc
theorem aX_129 : ∀ pc i len, aW_129 pc = some (i, len) → decode aM_129.1.2.1 pc = .ok (i, len) := fun pc i len h => sx_iF_s (aT_129 pc) h
def aI_130_0 : sx_IL := [(0, .aload_n 0, 1), (1, .getfield 79, 3), (4, .bipush 6, 2), (6, .if_icmp .ge 23, 3), (9, .aload_n 0, 1), (10, .getfield 40, 3)]
theorem aJ_130_0 : sx_iB prog_3_method_9_code aI_130_0 = true := by decide +kernel
def aI_130_1 : sx_IL := [(13, .aload_n 0, 1), (14, .getfield 79, 3), (17, .aload_n 1, 1), (18, .aastore, 1), (19, .aload_n 0, 1), (20, .dup, 1)]
theorem aJ_130_1 : sx_iB prog_3_method_9_code aI_130_1 = true := by decide +kernel
def aI_130_2 : sx_IL := [(21, .getfield 79, 3), (24, .iconst 1, 1), (25, .iadd, 1), (26, .putfield 79, 3), (29, .return_, 1)]
theorem aJ_130_2 : sx_iB prog_3_method_9_code aI_130_2 = true := by decide +kernel
def aS_130 (pc : Nat) : sx_IL := (if pc < 13 then aI_130_0 else (if pc < 21 then aI_130_1 else aI_130_2))
theorem aT_130 (pc : Nat) : sx_iOk prog_3_method_9_code (aS_130 pc) := (sx_ite (p := fun l => sx_iOk prog_3_method_9_code l) (sx_iB_s aJ_130_0) (sx_ite (p := fun l => sx_iOk prog_3_method_9_code l) (sx_iB_s aJ_130_1) (sx_iB_s aJ_130_2)))
def aW_130 : Nat → Option (Instr × Nat) := fun pc => sx_iF (aS_130 pc) pc
theorem aX_130 : ∀ pc i len, aW_130 pc = some (i, len) → decode aM_130.1.2.1 pc = .ok (i, len) := fun pc i len h => sx_iF_s (aT_130 pc) h
def aI_131_0 : sx_IL := [(0, .aload_n 0, 1), (1, .iload_n 1, 1), (2, .invokevirtual 216, 3), (5, .ifCond .eq 20, 3), (8, .iload_n 2, 1), (9, .ifCond .lt 16, 3)]
theorem aJ_131_0 : sx_iB prog_1_method_44_code aI_131_0 = true := by decide +kernel
def aI_131_1 : sx_IL := [(12, .iload_n 2, 1), (13, .aload_n 0, 1), (14, .getfield 34, 3), (17, .iload_n 1, 1), (18, .aaload, 1), (19, .getfield 294, 3)]
theorem aJ_131_1 : sx_iB prog_1_method_44_code aI_131_1 = true := by decide +kernel
def aI_131_2 : sx_IL := [(22, .if_icmp .lt 5, 3), (25, .iconst (-1), 1), (26, .ireturn, 1), (27, .aload_n 0, 1), (28, .getfield 34, 3), (31, .iload_n 1, 1)]
theorem aJ_131_2 : sx_iB prog_1_method_44_code aI_131_2 = true := by decide +kernel
def aI_131_3 : sx_IL := [(32, .aaload, 1), (33, .iload_n 2, 1), (34, .invokevirtual 306, 3), (37, .ireturn, 1)]
theorem aJ_131_3 : sx_iB prog_1_method_44_code aI_131_3 = true := by decide +kernel
def aS_131 (pc : Nat) : sx_IL := (if pc < 22 then (if pc < 12 then aI_131_0 else aI_131_1) else (if pc < 32 then aI_131_2 else aI_131_3))
theorem aT_131 (pc : Nat) : sx_iOk prog_1_method_44_code (aS_131 pc) := (sx_ite (p := fun l => sx_iOk prog_1_method_44_code l) (sx_ite (p := fun l => sx_iOk prog_1_method_44_code l) (sx_iB_s aJ_131_0) (sx_iB_s aJ_131_1)) (sx_ite (p := fun l => sx_iOk prog_1_method_44_code l) (sx_iB_s aJ_131_2) (sx_iB_s aJ_131_3)))
def aW_131 : Nat → Option (Instr × Nat) := fun pc => sx_iF (aS_131 pc) pc
theorem aX_131 : ∀ pc i len, aW_131 pc = some (i, len) → decode aM_131.1.2.1 pc = .ok (i, len) := fun pc i len h => sx_iF_s (aT_131 pc) h
def aI_132_0 : sx_IL := [(0, .iload_n 1, 1), (1, .istore_n 2, 1), (2, .iload_n 2, 1), (3, .iconst 1, 1), (4, .iadd, 1), (5, .aload_n 0, 1)]
theorem aJ_132_0 : sx_iB prog_3_method_10_code aI_132_0 = true := by decide +kernel
def aI_132_1 : sx_IL := [(6, .getfield 79, 3), (9, .if_icmp .ge 23, 3), (12, .aload_n 0, 1), (13, .getfield 40, 3), (16, .iload_n 2, 1), (17, .aload_n 0, 1)]
theorem aJ_132_1 : sx_iB prog_3_method_10_code aI_132_1 = true := by decide +kernel
def aI_132_2 : sx_IL := [(18, .getfield 40, 3), (21, .iload_n 2, 1), (22, .iconst 1, 1), (23, .iadd, 1), (24, .aaload, 1), (25, .aastore, 1)]
theorem aJ_132_2 : sx_iB prog_3_method_10_code aI_132_2 = true := by decide +kernel
def aI_132_3 : sx_IL := [(26, .iinc 2 1, 3), (29, .goto (-27), 3), (32, .aload_n 0, 1), (33, .dup, 1), (34, .getfield 79, 3), (37, .iconst 1, 1)]
theorem aJ_132_3 : sx_iB prog_3_method_10_code aI_132_3 = true := by decide +kernel
def aI_132_4 : sx_IL := [(38, .isub, 1), (39, .putfield 79, 3), (42, .aload_n 0, 1), (43, .getfield 40, 3), (46, .aload_n 0, 1), (47, .getfield 79, 3)]
theorem aJ_132_4 : sx_iB prog_3_method_10_code aI_132_4 = true := by decide +kernel
def aI_132_5 : sx_IL := [(50, .aconst_null, 1), (51, .aastore, 1), (52, .aload_n 0, 1), (53, .getfield 79, 3), (56, .ireturn, 1)]
theorem aJ_132_5 : sx_iB prog_3_method_10_code aI_132_5 = true := by decide +kernel
def aS_132 (pc : Nat) : sx_IL := (if pc < 26 then (if pc < 6 then aI_132_0 else (if pc < 18 then aI_132_1 else aI_132_2)) else (if pc < 38 then aI_132_3 else (if pc < 50 then aI_132_4 else aI_132_5)))
theorem aT_132 (pc : Nat) : sx_iOk prog_3_method_10_code (aS_132 pc) := (sx_ite (p := fun l => sx_iOk prog_3_method_10_code l) (sx_ite (p := fun l => sx_iOk prog_3_method_10_code l) (sx_iB_s aJ_132_0) (sx_ite (p := fun l => sx_iOk prog_3_method_10_code l) (sx_iB_s aJ_132_1) (sx_iB_s aJ_132_2))) (sx_ite (p := fun l => sx_iOk prog_3_method_10_code l) (sx_iB_s aJ_132_3) (sx_ite (p := fun l => sx_iOk prog_3_method_10_code l) (sx_iB_s aJ_132_4) (sx_iB_s aJ_132_5))))
def aW_132 : Nat → Option (Instr × Nat) := fun pc => sx_iF (aS_132 pc) pc
theorem aX_132 : ∀ pc i len, aW_132 pc = some (i, len) → decode aM_132.1.2.1 pc = .ok (i, len) := fun pc i len h => sx_iF_s (aT_132 pc) h
def aI_133_0 : sx_IL := [(0, .aload_n 0, 1), (1, .iload_n 1, 1), (2, .invokevirtual 216, 3), (5, .ifCond .eq 29, 3), (8, .iload_n 2, 1), (9, .ifCond .lt 25, 3)]
theorem aJ_133_0 : sx_iB prog_1_method_45_code aI_133_0 = true := by decide +kernel
def aI_133_1 : sx_IL := [(12, .iload_n 2, 1), (13, .aload_n 0, 1), (14, .getfield 34, 3), (17, .iload_n 1, 1), (18, .aaload, 1), (19, .getfield 294, 3)]
theorem aJ_133_1 : sx_iB prog_1_method_45_code aI_133_1 = true := by decide +kernel
def aI_133_2 : sx_IL := [(22, .if_icmp .ge 12, 3), (25, .iload_n 3, 1), (26, .ifCond .lt 8, 3), (29, .iload_n 3, 1), (30, .iconst 5, 1), (31, .if_icmp .le 5, 3)]
theorem aJ_133_2 : sx_iB prog_1_method_45_code aI_133_2 = true := by decide +kernel
def aI_133_3 : sx_IL := [(34, .iconst (-1), 1), (35, .ireturn, 1), (36, .aload_n 0, 1), (37, .getfield 34, 3), (40, .iload_n 1, 1), (41, .aaload, 1)]
theorem aJ_133_3 : sx_iB prog_1_method_45_code aI_133_3 = true := by decide +kernel
def aI_133_4 : sx_IL := [(42, .getfield 309, 3), (45, .iload_n 2, 1), (46, .aaload, 1), (47, .astore 4, 2), (49, .aload_n 0, 1), (50, .getfield 25, 3)]
theorem aJ_133_4 : sx_iB prog_1_method_45_code aI_133_4 = true := by decide +kernel
def aI_133_5 : sx_IL := [(53, .invokevirtual 108, 3), (56, .aload_n 0, 1), (57, .getfield 25, 3), (60, .aload 4, 2), (62, .getfield 313, 3), (65, .iconst 0, 1)]
theorem aJ_133_5 : sx_iB prog_1_method_45_code aI_133_5 = true := by decide +kernel
def aI_133_6 : sx_IL := [(66, .aload 4, 2), (68, .getfield 313, 3), (71, .arraylength, 1), (72, .invokevirtual 83, 3), (75, .aload 4, 2), (77, .iload_n 3, 1)]
theorem aJ_133_6 : sx_iB prog_1_method_45_code aI_133_6 = true := by decide +kernel
def aI_133_7 : sx_IL := [(78, .invokevirtual 316, 3), (81, .ireturn, 1)]
theorem aJ_133_7 : sx_iB prog_1_method_45_code aI_133_7 = true := by decide +kernel
def aS_133 (pc : Nat) : sx_IL := (if pc < 42 then (if pc < 22 then (if pc < 12 then aI_133_0 else aI_133_1) else (if pc < 34 then aI_133_2 else aI_133_3)) else (if pc < 66 then (if pc < 53 then aI_133_4 else aI_133_5) else (if pc < 78 then aI_133_6 else aI_133_7)))
theorem aT_133 (pc : Nat) : sx_iOk prog_1_method_45_code (aS_133 pc) := (sx_ite (p := fun l => sx_iOk prog_1_method_45_code l) (sx_ite (p := fun l => sx_iOk prog_1_method_45_code l) (sx_ite (p := fun l => sx_iOk prog_1_method_45_code l) (sx_iB_s aJ_133_0) (sx_iB_s aJ_133_1)) (sx_ite (p := fun l => sx_iOk prog_1_method_45_code l) (sx_iB_s aJ_133_2) (sx_iB_s aJ_133_3))) (sx_ite (p := fun l => sx_iOk prog_1_method_45_code l) (sx_ite (p := fun l => sx_iOk prog_1_method_45_code l) (sx_iB_s aJ_133_4) (sx_iB_s aJ_133_5)) (sx_ite (p := fun l => sx_iOk prog_1_method_45_code l) (sx_iB_s aJ_133_6) (sx_iB_s aJ_133_7))))
def aW_133 : Nat → Option (Instr × Nat) := fun pc => sx_iF (aS_133 pc) pc
theorem aX_133 : ∀ pc i len, aW_133 pc = some (i, len) → decode aM_133.1.2.1 pc = .ok (i, len) := fun pc i len h => sx_iF_s (aT_133 pc) h
def aI_134_0 : sx_IL := [(0, .iload_n 1, 1), (1, .tableswitch 60 0 4 #[35, 40, 45, 50, 55], 35), (36, .aload_n 0, 1), (37, .getfield 28, 3), (40, .ireturn, 1), (41, .aload_n 0, 1)]
theorem aJ_134_0 : sx_iB prog_11_method_3_code aI_134_0 = true := by decide +kernel
def aI_134_1 : sx_IL := [(42, .getfield 42, 3), (45, .ireturn, 1), (46, .aload_n 0, 1), (47, .getfield 45, 3), (50, .ireturn, 1), (51, .aload_n 0, 1)]
theorem aJ_134_1 : sx_iB prog_11_method_3_code aI_134_1 = true := by decide +kernel
def aI_134_2 : sx_IL := [(52, .getfield 39, 3), (55, .ireturn, 1), (56, .aload_n 0, 1), (57, .getfield 48, 3), (60, .ireturn, 1), (61, .aload_n 0, 1)]
theorem aJ_134_2 : sx_iB prog_11_method_3_code aI_134_2 = true := by decide +kernel
def aI_134_3 : sx_IL := [(62, .getfield 35, 3), (65, .ifCond .eq 7, 3), (68, .iconst 1, 1), (69, .goto 4, 3), (72, .iconst 0, 1), (73, .ireturn, 1)]
theorem aJ_134_3 : sx_iB prog_11_method_3_code aI_134_3 = true := by decide +kernel
def aS_134 (pc : Nat) : sx_IL := (if pc < 52 then (if pc < 42 then aI_134_0 else aI_134_1) else (if pc < 62 then aI_134_2 else aI_134_3))
theorem aT_134 (pc : Nat) : sx_iOk prog_11_method_3_code (aS_134 pc) := (sx_ite (p := fun l => sx_iOk prog_11_method_3_code l) (sx_ite (p := fun l => sx_iOk prog_11_method_3_code l) (sx_iB_s aJ_134_0) (sx_iB_s aJ_134_1)) (sx_ite (p := fun l => sx_iOk prog_11_method_3_code l) (sx_iB_s aJ_134_2) (sx_iB_s aJ_134_3)))
def aW_134 : Nat → Option (Instr × Nat) := fun pc => sx_iF (aS_134 pc) pc
theorem aX_134 : ∀ pc i len, aW_134 pc = some (i, len) → decode aM_134.1.2.1 pc = .ok (i, len) := fun pc i len h => sx_iF_s (aT_134 pc) h
def aI_135_0 : sx_IL := [(0, .aload_n 0, 1), (1, .iload_n 1, 1), (2, .invokevirtual 284, 3), (5, .ifCond .ne 5, 3), (8, .iconst (-1), 1), (9, .ireturn, 1)]
theorem aJ_135_0 : sx_iB prog_1_method_46_code aI_135_0 = true := by decide +kernel
def aI_135_1 : sx_IL := [(10, .aload_n 0, 1), (11, .getfield 21, 3), (14, .getfield 69, 3), (17, .sipush 400, 3), (20, .if_icmp .le 6, 3), (23, .bipush (-2), 2)]
theorem aJ_135_1 : sx_iB prog_1_method_46_code aI_135_1 = true := by decide +kernel
def aI_135_2 : sx_IL := [(25, .ireturn, 1), (26, .aload_n 0, 1), (27, .getfield 34, 3), (30, .iload_n 1, 1), (31, .aaload, 1), (32, .getfield 319, 3)]
theorem aJ_135_2 : sx_iB prog_1_method_46_code aI_135_2 = true := by decide +kernel
def aI_135_3 : sx_IL := [(35, .invokevirtual 108, 3), (38, .aload_n 0, 1), (39, .getfield 34, 3), (42, .iload_n 1, 1), (43, .aaload, 1), (44, .getfield 319, 3)]
theorem aJ_135_3 : sx_iB prog_1_method_46_code aI_135_3 = true := by decide +kernel
def aI_135_4 : sx_IL := [(47, .aload_n 0, 1), (48, .getfield 21, 3), (51, .getfield 80, 3), (54, .iconst 0, 1), (55, .aload_n 0, 1), (56, .getfield 21, 3)]
theorem aJ_135_4 : sx_iB prog_1_method_46_code aI_135_4 = true := by decide +kernel
def aI_135_5 : sx_IL := [(59, .getfield 69, 3), (62, .invokevirtual 83, 3), (65, .aload_n 0, 1), (66, .getfield 21, 3), (69, .invokevirtual 108, 3), (72, .aload_n 0, 1)]
theorem aJ_135_5 : sx_iB prog_1_method_46_code aI_135_5 = true := by decide +kernel
def aI_135_6 : sx_IL := [(73, .getfield 34, 3), (76, .iload_n 1, 1), (77, .aaload, 1), (78, .getfield 319, 3), (81, .getfield 69, 3), (84, .ireturn, 1)]
theorem aJ_135_6 : sx_iB prog_1_method_46_code aI_135_6 = true := by decide +kernel
def aS_135 (pc : Nat) : sx_IL := (if pc < 35 then (if pc < 10 then aI_135_0 else (if pc < 25 then aI_135_1 else aI_135_2)) else (if pc < 59 then (if pc < 47 then aI_135_3 else aI_135_4) else (if pc < 73 then aI_135_5 else aI_135_6)))
theorem aT_135 (pc : Nat) : sx_iOk prog_1_method_46_code (aS_135 pc) := (sx_ite (p := fun l => sx_iOk prog_1_method_46_code l) (sx_ite (p := fun l => sx_iOk prog_1_method_46_code l) (sx_iB_s aJ_135_0) (sx_ite (p := fun l => sx_iOk prog_1_method_46_code l) (sx_iB_s aJ_135_1) (sx_iB_s aJ_135_2))) (sx_ite (p := fun l => sx_iOk prog_1_method_46_code l) (sx_ite (p := fun l => sx_iOk prog_1_method_46_code l) (sx_iB_s aJ_135_3) (sx_iB_s aJ_135_4)) (sx_ite (p := fun l => sx_iOk prog_1_method_46_code l) (sx_iB_s aJ_135_5) (sx_iB_s aJ_135_6))))
def aW_135 : Nat → Option (Instr × Nat) := fun pc => sx_iF (aS_135 pc) pc
theorem aX_135 : ∀ pc i len, aW_135 pc = some (i, len) → decode aM_135.1.2.1 pc = .ok (i, len) := fun pc i len h => sx_iF_s (aT_135 pc) h
def aI_136_0 : sx_IL := [(0, .iload_n 1, 1), (1, .iconst (-1), 1), (2, .if_icmp .eq 11, 3), (5, .aload_n 0, 1), (6, .iload_n 1, 1), (7, .invokevirtual 284, 3)]
theorem aJ_136_0 : sx_iB prog_1_method_47_code aI_136_0 = true := by decide +kernel
def aI_136_1 : sx_IL := [(10, .ifCond .eq 7, 3), (13, .iconst 1, 1), (14, .goto 4, 3), (17, .iconst 0, 1), (18, .istore_n 3, 1), (19, .iload_n 2, 1)]
theorem aJ_136_1 : sx_iB prog_1_method_47_code aI_136_1 = true := by decide +kernel
def aI_136_2 : sx_IL := [(20, .iconst (-1), 1), (21, .if_icmp .eq 23, 3), (24, .aload_n 0, 1), (25, .iload_n 2, 1), (26, .invokevirtual 216, 3), (29, .ifCond .eq 19, 3)]
theorem aJ_136_2 : sx_iB prog_1_method_47_code aI_136_2 = true := by decide +kernel
def aI_136_3 : sx_IL := [(32, .aload_n 0, 1), (33, .getfield 34, 3), (36, .iload_n 2, 1), (37, .aaload, 1), (38, .getfield 254, 3), (41, .ifCond .eq 7, 3)]
theorem aJ_136_3 : sx_iB prog_1_method_47_code aI_136_3 = true := by decide +kernel
def aI_136_4 : sx_IL := [(44, .iconst 1, 1), (45, .goto 4, 3), (48, .iconst 0, 1), (49, .istore 4, 2), (51, .iload_n 3, 1), (52, .ifCond .eq 18, 3)]
theorem aJ_136_4 : sx_iB prog_1_method_47_code aI_136_4 = true := by decide +kernel
def aI_136_5 : sx_IL := [(55, .iload 4, 2), (57, .ifCond .eq 13, 3), (60, .iload_n 1, 1), (61, .iconst (-1), 1), (62, .if_icmp .ne 10, 3), (65, .iload_n 2, 1)]
theorem aJ_136_5 : sx_iB prog_1_method_47_code aI_136_5 = true := by decide +kernel
def aI_136_6 : sx_IL := [(66, .iconst (-1), 1), (67, .if_icmp .ne 5, 3), (70, .iconst (-1), 1), (71, .ireturn, 1), (72, .aload_n 0, 1), (73, .getfield 322, 3)]
theorem aJ_136_6 : sx_iB prog_1_method_47_code aI_136_6 = true := by decide +kernel
def aI_136_7 : sx_IL := [(76, .bipush 12, 2), (78, .if_icmp .lt 6, 3), (81, .bipush (-3), 2), (83, .ireturn, 1), (84, .aload_n 0, 1), (85, .getfield 322, 3)]
theorem aJ_136_7 : sx_iB prog_1_method_47_code aI_136_7 = true := by decide +kernel
def aI_136_8 : sx_IL := [(88, .istore 5, 2), (90, .aload_n 0, 1), (91, .dup, 1), (92, .getfield 322, 3), (95, .iconst 1, 1), (96, .iadd, 1)]
theorem aJ_136_8 : sx_iB prog_1_method_47_code aI_136_8 = true := by decide +kernel
def aI_136_9 : sx_IL := [(97, .putfield 322, 3), (100, .iload_n 2, 1), (101, .iconst (-1), 1), (102, .if_icmp .eq 31, 3), (105, .aload_n 0, 1), (106, .getfield 40, 3)]
theorem aJ_136_9 : sx_iB prog_1_method_47_code aI_136_9 = true := by decide +kernel
def aI_136_10 : sx_IL := [(109, .iconst 2, 1), (110, .iload 5, 2), (112, .imul, 1), (113, .iconst 1, 1), (114, .iadd, 1), (115, .new 325, 3)]
theorem aJ_136_10 : sx_iB prog_1_method_47_code aI_136_10 = true := by decide +kernel
def aI_136_11 : sx_IL := [(118, .dup, 1), (119, .aload_n 0, 1), (120, .getfield 10, 3), (123, .aload_n 0, 1), (124, .getfield 34, 3), (127, .iload_n 2, 1)]
theorem aJ_136_11 : sx_iB prog_1_method_47_code aI_136_11 = true := by decide +kernel
def aI_136_12 : sx_IL := [(128, .aaload, 1), (129, .invokespecial 327, 3), (132, .aastore, 1), (133, .iload_n 1, 1), (134, .iconst (-1), 1), (135, .if_icmp .eq 38, 3)]
theorem aJ_136_12 : sx_iB prog_1_method_47_code aI_136_12 = true := by decide +kernel
def aI_136_13 : sx_IL := [(138, .new 330, 3), (141, .dup, 1), (142, .aload_n 0, 1), (143, .getfield 10, 3), (146, .aload_n 0, 1), (147, .getfield 34, 3)]
theorem aJ_136_13 : sx_iB prog_1_method_47_code aI_136_13 = true := by decide +kernel
def aI_136_14 : sx_IL := [(150, .iload_n 1, 1), (151, .aaload, 1), (152, .invokespecial 332, 3), (155, .astore 6, 2), (157, .aload_n 0, 1), (158, .getfield 40, 3)]
theorem aJ_136_14 : sx_iB prog_1_method_47_code aI_136_14 = true := by decide +kernel
def aI_136_15 : sx_IL := [(161, .iconst 2, 1), (162, .iload 5, 2), (164, .imul, 1), (165, .aload 6, 2), (167, .aastore, 1), (168, .aload 6, 2)]
theorem aJ_136_15 : sx_iB prog_1_method_47_code aI_136_15 = true := by decide +kernel
def aI_136_16 : sx_IL := [(170, .invokevirtual 333, 3), (173, .iload 5, 2), (175, .ireturn, 1)]
theorem aJ_136_16 : sx_iB prog_1_method_47_code aI_136_16 = true := by decide +kernel
def aS_136 (pc : Nat) : sx_IL := (if pc < 88 then (if pc < 44 then (if pc < 20 then (if pc < 10 then aI_136_0 else aI_136_1) else (if pc < 32 then aI_136_2 else aI_136_3)) else (if pc < 66 then (if pc < 55 then aI_136_4 else aI_136_5) else (if pc < 76 then aI_136_6 else aI_136_7))) else (if pc < 128 then (if pc < 109 then (if pc < 97 then aI_136_8 else aI_136_9) else (if pc < 118 then aI_136_10 else aI_136_11)) else (if pc < 150 then (if pc < 138 then aI_136_12 else aI_136_13) else (if pc < 161 then aI_136_14 else (if pc < 170 then aI_136_15 else aI_136_16)))))
theorem aT_136 (pc : Nat) : sx_iOk prog_1_method_47_code (aS_136 pc) := (sx_ite (p := fun l => sx_iOk prog_1_method_47_code l) (sx_ite (p := fun l => sx_iOk prog_1_method_47_code l) (sx_ite (p := fun l => sx_iOk prog_1_method_47_code l) (sx_ite (p := fun l => sx_iOk prog_1_method_47_code l) (sx_iB_s aJ_136_0) (sx_iB_s aJ_136_1)) (sx_ite (p := fun l => sx_iOk prog_1_method_47_code l) (sx_iB_s aJ_136_2) (sx_iB_s aJ_136_3))) (sx_ite (p := fun l => sx_iOk prog_1_method_47_code l) (sx_ite (p := fun l => sx_iOk prog_1_method_47_code l) (sx_iB_s aJ_136_4) (sx_iB_s aJ_136_5)) (sx_ite (p := fun l => sx_iOk prog_1_method_47_code l) (sx_iB_s aJ_136_6) (sx_iB_s aJ_136_7)))) (sx_ite (p := fun l => sx_iOk prog_1_method_47_code l) (sx_ite (p := fun l => sx_iOk prog_1_method_47_code l) (sx_ite (p := fun l => sx_iOk prog_1_method_47_code l) (sx_iB_s aJ_136_8) (sx_iB_s aJ_136_9)) (sx_ite (p := fun l => sx_iOk prog_1_method_47_code l) (sx_iB_s aJ_136_10) (sx_iB_s aJ_136_11))) (sx_ite (p := fun l => sx_iOk prog_1_method_47_code l) (sx_ite (p := fun l => sx_iOk prog_1_method_47_code l) (sx_iB_s aJ_136_12) (sx_iB_s aJ_136_13)) (sx_ite (p := fun l => sx_iOk prog_1_method_47_code l) (sx_iB_s aJ_136_14) (sx_ite (p := fun l => sx_iOk prog_1_method_47_code l) (sx_iB_s aJ_136_15) (sx_iB_s aJ_136_16))))))
def aW_136 : Nat → Option (Instr × Nat) := fun pc => sx_iF (aS_136 pc) pc
theorem aX_136 : ∀ pc i len, aW_136 pc = some (i, len) → decode aM_136.1.2.1 pc = .ok (i, len) := fun pc i len h => sx_iF_s (aT_136 pc) h
def aI_137_0 : sx_IL := [(0, .aload_n 0, 1), (1, .aload_n 1, 1), (2, .aload_n 2, 1), (3, .invokespecial 1, 3), (6, .return_, 1)]
theorem aJ_137_0 : sx_iB prog_10_method_1_code aI_137_0 = true := by decide +kernel
def aS_137 (pc : Nat) : sx_IL := aI_137_0
theorem aT_137 (pc : Nat) : sx_iOk prog_10_method_1_code (aS_137 pc) := (sx_iB_s aJ_137_0)
def aW_137 : Nat → Option (Instr × Nat) := fun pc => sx_iF (aS_137 pc) pc
theorem aX_137 : ∀ pc i len, aW_137 pc = some (i, len) → decode aM_137.1.2.1 pc = .ok (i, len) := fun pc i len h => sx_iF_s (aT_137 pc) h
def aI_138_0 : sx_IL := [(0, .aload_n 0, 1), (1, .invokespecial 3, 3), (4, .aload_n 0, 1), (5, .new 9, 3), (8, .dup, 1), (9, .sipush 128, 3)]
theorem aJ_138_0 : sx_iB prog_12_method_1_code aI_138_0 = true := by decide +kernel
def aI_138_1 : sx_IL := [(12, .invokespecial 11, 3), (15, .putfield 14, 3), (18, .aload_n 0, 1), (19, .new 9, 3), (22, .dup, 1), (23, .bipush 64, 2)]
theorem aJ_138_1 : sx_iB prog_12_method_1_code aI_138_1 = true := by decide +kernel
def aI_138_2 : sx_IL := [(25, .invokespecial 11, 3), (28, .putfield 20, 3), (31, .aload_n 0, 1), (32, .new 9, 3), (35, .dup, 1), (36, .sipush 128, 3)]
theorem aJ_138_2 : sx_iB prog_12_method_1_code aI_138_2 = true := by decide +kernel
def aI_138_3 : sx_IL := [(39, .invokespecial 11, 3), (42, .putfield 23, 3), (45, .aload_n 0, 1), (46, .new 9, 3), (49, .dup, 1), (50, .bipush 8, 2)]
theorem aJ_138_3 : sx_iB prog_12_method_1_code aI_138_3 = true := by decide +kernel
def aI_138_4 : sx_IL := [(52, .invokespecial 11, 3), (55, .putfield 26, 3), (58, .aload_n 0, 1), (59, .bipush 15, 2), (61, .newarray .int, 2), (63, .putfield 29, 3)]
theorem aJ_138_4 : sx_iB prog_12_method_1_code aI_138_4 = true := by decide +kernel
def aI_138_5 : sx_IL := [(66, .aload_n 0, 1), (67, .bipush 7, 2), (69, .newarray .long, 2), (71, .putfield 33, 3), (74, .aload_n 0, 1), (75, .iconst 2, 1)]
theorem aJ_138_5 : sx_iB prog_12_method_1_code aI_138_5 = true := by decide +kernel
def aI_138_6 : sx_IL := [(76, .anewarray 37, 3), (79, .putfield 39, 3), (82, .aload_n 0, 1), (83, .aload_n 1, 1), (84, .putfield 43, 3), (87, .aload_n 0, 1)]
theorem aJ_138_6 : sx_iB prog_12_method_1_code aI_138_6 = true := by decide +kernel
def aI_138_7 : sx_IL := [(88, .aload_n 2, 1), (89, .putfield 47, 3), (92, .aload_n 0, 1), (93, .getfield 29, 3), (96, .bipush 6, 2), (98, .bipush (-4), 2)]
theorem aJ_138_7 : sx_iB prog_12_method_1_code aI_138_7 = true := by decide +kernel
def aI_138_8 : sx_IL := [(100, .iastore, 1), (101, .aload_n 0, 1), (102, .getfield 29, 3), (105, .bipush 7, 2), (107, .bipush (-4), 2), (109, .iastore, 1)]
theorem aJ_138_8 : sx_iB prog_12_method_1_code aI_138_8 = true := by decide +kernel
def aI_138_9 : sx_IL := [(110, .iconst 0, 1), (111, .istore_n 3, 1), (112, .iload_n 3, 1), (113, .iconst 2, 1), (114, .if_icmp .ge 32, 3), (117, .aload_n 0, 1)]
theorem aJ_138_9 : sx_iB prog_12_method_1_code aI_138_9 = true := by decide +kernel
def aI_138_10 : sx_IL := [(118, .getfield 39, 3), (121, .iload_n 3, 1), (122, .new 37, 3), (125, .dup, 1), (126, .invokespecial 51, 3), (129, .aastore, 1)]
theorem aJ_138_10 : sx_iB prog_12_method_1_code aI_138_10 = true := by decide +kernel
def aI_138_11 : sx_IL := [(130, .aload_n 0, 1), (131, .getfield 39, 3), (134, .iload_n 3, 1), (135, .aaload, 1), (136, .iload_n 3, 1), (137, .invokevirtual 52, 3)]
theorem aJ_138_11 : sx_iB prog_12_method_1_code aI_138_11 = true := by decide +kernel
def aI_138_12 : sx_IL := [(140, .iinc 3 1, 3), (143, .goto (-31), 3), (146, .return_, 1)]
theorem aJ_138_12 : sx_iB prog_12_method_1_code aI_138_12 = true := by decide +kernel
def aS_138 (pc : Nat) : sx_IL := (if pc < 76 then (if pc < 39 then (if pc < 12 then aI_138_0 else (if pc < 25 then aI_138_1 else aI_138_2)) else (if pc < 52 then aI_138_3 else (if pc < 66 then aI_138_4 else aI_138_5))) else (if pc < 110 then (if pc < 88 then aI_138_6 else (if pc < 100 then aI_138_7 else aI_138_8)) else (if pc < 130 then (if pc < 118 then aI_138_9 else aI_138_10) else (if pc < 140 then aI_138_11 else aI_138_12))))
theorem aT_138 (pc : Nat) : sx_iOk prog_12_method_1_code (aS_138 pc) := (sx_ite (p := fun l => sx_iOk prog_12_method_1_code l) (sx_ite (p := fun l => sx_iOk prog_12_method_1_code l) (sx_ite (p := fun l => sx_iOk prog_12_method_1_code l) (sx_iB_s aJ_138_0) (sx_ite (p := fun l => sx_iOk prog_12_method_1_code l) (sx_iB_s aJ_138_1) (sx_iB_s aJ_138_2))) (sx_ite (p := fun l => sx_iOk prog_12_method_1_code l) (sx_iB_s aJ_138_3) (sx_ite (p := fun l => sx_iOk prog_12_method_1_code l) (sx_iB_s aJ_138_4) (sx_iB_s aJ_138_5)))) (sx_ite (p := fun l => sx_iOk prog_12_method_1_code l) (sx_ite (p := fun l => sx_iOk prog_12_method_1_code l) (sx_iB_s aJ_138_6) (sx_ite (p := fun l => sx_iOk prog_12_method_1_code l) (sx_iB_s aJ_138_7) (sx_iB_s aJ_138_8))) (sx_ite (p := fun l => sx_iOk prog_12_method_1_code l) (sx_ite (p := fun l => sx_iOk prog_12_method_1_code l) (sx_iB_s aJ_138_9) (sx_iB_s aJ_138_10)) (sx_ite (p := fun l => sx_iOk prog_12_method_1_code l) (sx_iB_s aJ_138_11) (sx_iB_s aJ_138_12)))))
def aW_138 : Nat → Option (Instr × Nat) := fun pc => sx_iF (aS_138 pc) pc
theorem aX_138 : ∀ pc i len, aW_138 pc = some (i, len) → decode aM_138.1.2.1 pc = .ok (i, len) := fun pc i len h => sx_iF_s (aT_138 pc) h
def aI_139_0 : sx_IL := [(0, .aload_n 0, 1), (1, .aload_n 1, 1), (2, .aload_n 2, 1), (3, .invokespecial 1, 3), (6, .aload_n 0, 1), (7, .bipush 6, 2)]
theorem aJ_139_0 : sx_iB prog_2_method_1_code aI_139_0 = true := by decide +kernel
def aI_139_1 : sx_IL := [(9, .anewarray 9, 3), (12, .putfield 11, 3), (15, .aload_n 0, 1), (16, .iconst (-1), 1), (17, .putfield 17, 3), (20, .return_, 1)]
theorem aJ_139_1 : sx_iB prog_2_method_1_code aI_139_1 = true := by decide +kernel
def aS_139 (pc : Nat) : sx_IL := (if pc < 9 then aI_139_0 else aI_139_1)
theorem aT_139 (pc : Nat) : sx_iOk prog_2_method_1_code (aS_139 pc) := (sx_ite (p := fun l => sx_iOk prog_2_method_1_code l) (sx_iB_s aJ_139_0) (sx_iB_s aJ_139_1))
def aW_139 : Nat → Option (Instr × Nat) := fun pc => sx_iF (aS_139 pc) pc
theorem aX_139 : ∀ pc i len, aW_139 pc = some (i, len) → decode aM_139.1.2.1 pc = .ok (i, len) := fun pc i len h => sx_iF_s (aT_139 pc) h
def aI_140_0 : sx_IL := [(0, .aload_n 0, 1), (1, .aload_n 0, 1), (2, .getfield 21, 3), (5, .invokevirtual 25, 3), (8, .putfield 29, 3), (11, .aload_n 0, 1)]
theorem aJ_140_0 : sx_iB prog_2_method_2_code aI_140_0 = true := by decide +kernel
def aI_140_1 : sx_IL := [(12, .invokevirtual 33, 3), (15, .aload_n 0, 1), (16, .getfield 11, 3), (19, .iconst 0, 1), (20, .aaload, 1), (21, .astore_n 1, 1)]
theorem aJ_140_1 : sx_iB prog_2_method_2_code aI_140_1 = true := by decide +kernel
def aI_140_2 : sx_IL := [(22, .aload_n 0, 1), (23, .aload_n 0, 1), (24, .getfield 21, 3), (27, .getfield 37, 3), (30, .getfield 41, 3), (33, .ifCond .le 35, 3)]
theorem aJ_140_2 : sx_iB prog_2_method_2_code aI_140_2 = true := by decide +kernel
def aI_140_3 : sx_IL := [(36, .aload_n 1, 1), (37, .ifnull 31, 3), (40, .aload_n 1, 1), (41, .getfield 46, 3), (44, .ifCond .eq 24, 3), (47, .aload_n 1, 1)]
theorem aJ_140_3 : sx_iB prog_2_method_2_code aI_140_3 = true := by decide +kernel
def aI_140_4 : sx_IL := [(48, .getfield 50, 3), (51, .aload_n 0, 1), (52, .getfield 21, 3), (55, .getfield 37, 3), (58, .getfield 41, 3), (61, .if_icmp .lt 7, 3)]
theorem aJ_140_4 : sx_iB prog_2_method_2_code aI_140_4 = true := by decide +kernel
def aI_140_5 : sx_IL := [(64, .iconst 1, 1), (65, .goto 4, 3), (68, .iconst 0, 1), (69, .putfield 53, 3), (72, .aload_n 0, 1), (73, .aload_n 0, 1)]
theorem aJ_140_5 : sx_iB prog_2_method_2_code aI_140_5 = true := by decide +kernel
def aI_140_6 : sx_IL := [(74, .getfield 21, 3), (77, .getfield 56, 3), (80, .iconst 5, 1), (81, .iaload, 1), (82, .iconst 1, 1), (83, .if_icmp .ne 17, 3)]
theorem aJ_140_6 : sx_iB prog_2_method_2_code aI_140_6 = true := by decide +kernel
def aI_140_7 : sx_IL := [(86, .aload_n 0, 1), (87, .getfield 21, 3), (90, .getfield 60, 3), (93, .iconst 1, 1), (94, .aaload, 1), (95, .iconst 0, 1)]
theorem aJ_140_7 : sx_iB prog_2_method_2_code aI_140_7 = true := by decide +kernel
def aI_140_8 : sx_IL := [(96, .iaload, 1), (97, .goto 4, 3), (100, .iconst 0, 1), (101, .aconst_null, 1), (102, .invokevirtual 64, 3), (105, .aload_n 0, 1)]
theorem aJ_140_8 : sx_iB prog_2_method_2_code aI_140_8 = true := by decide +kernel
def aI_140_9 : sx_IL := [(106, .invokevirtual 68, 3), (109, .aload_n 0, 1), (110, .invokevirtual 71, 3), (113, .aload_n 0, 1), (114, .getfield 53, 3), (117, .ifCond .eq 83, 3)]
theorem aJ_140_9 : sx_iB prog_2_method_2_code aI_140_9 = true := by decide +kernel
def aI_140_10 : sx_IL := [(120, .aload_n 1, 1), (121, .ifnull 79, 3), (124, .aload_n 0, 1), (125, .getfield 74, 3), (128, .getfield 78, 3), (131, .astore_n 2, 1)]
theorem aJ_140_10 : sx_iB prog_2_method_2_code aI_140_10 = true := by decide +kernel
def aI_140_11 : sx_IL := [(132, .aload_n 2, 1), (133, .aload_n 1, 1), (134, .getfield 84, 3), (137, .lconst 0, 1), (138, .aload_n 1, 1), (139, .getfield 87, 3)]
theorem aJ_140_11 : sx_iB prog_2_method_2_code aI_140_11 = true := by decide +kernel
def aI_140_12 : sx_IL := [(142, .invokevirtual 90, 3), (145, .lstore_n 3, 1), (146, .aload_n 0, 1), (147, .aload_n 2, 1), (148, .aload_n 1, 1), (149, .getfield 84, 3)]
theorem aJ_140_12 : sx_iB prog_2_method_2_code aI_140_12 = true := by decide +kernel
def aI_140_13 : sx_IL := [(152, .lload_n 3, 1), (153, .bipush 101, 2), (155, .aload_n 0, 1), (156, .aload_n 1, 1), (157, .getfield 84, 3), (160, .invokevirtual 96, 3)]
theorem aJ_140_13 : sx_iB prog_2_method_2_code aI_140_13 = true := by decide +kernel
def aI_140_14 : sx_IL := [(163, .invokevirtual 100, 3), (166, .aload_n 1, 1), (167, .getfield 104, 3), (170, .invokevirtual 107, 3), (173, .aload_n 0, 1), (174, .bipush 23, 2)]
theorem aJ_140_14 : sx_iB prog_2_method_2_code aI_140_14 = true := by decide +kernel
def aI_140_15 : sx_IL := [(176, .aload_n 0, 1), (177, .getfield 21, 3), (180, .getfield 37, 3), (183, .getfield 111, 3), (186, .iconst 0, 1), (187, .aload_n 0, 1)]
theorem aJ_140_15 : sx_iB prog_2_method_2_code aI_140_15 = true := by decide +kernel
def aI_140_16 : sx_IL := [(188, .getfield 21, 3), (191, .getfield 37, 3), (194, .getfield 41, 3), (197, .invokevirtual 114, 3), (200, .aload_n 0, 1), (201, .getfield 21, 3)]
theorem aJ_140_16 : sx_iB prog_2_method_2_code aI_140_16 = true := by decide +kernel
def aI_140_17 : sx_IL := [(204, .getfield 37, 3), (207, .invokevirtual 118, 3), (210, .return_, 1)]
theorem aJ_140_17 : sx_iB prog_2_method_2_code aI_140_17 = true := by decide +kernel
def aS_140 (pc : Nat) : sx_IL := (if pc < 106 then (if pc < 48 then (if pc < 22 then (if pc < 12 then aI_140_0 else aI_140_1) else (if pc < 36 then aI_140_2 else aI_140_3)) else (if pc < 74 then (if pc < 64 then aI_140_4 else aI_140_5) else (if pc < 86 then aI_140_6 else (if pc < 96 then aI_140_7 else aI_140_8)))) else (if pc < 152 then (if pc < 132 then (if pc < 120 then aI_140_9 else aI_140_10) else (if pc < 142 then aI_140_11 else aI_140_12)) else (if pc < 176 then (if pc < 163 then aI_140_13 else aI_140_14) else (if pc < 188 then aI_140_15 else (if pc < 204 then aI_140_16 else aI_140_17)))))
theorem aT_140 (pc : Nat) : sx_iOk prog_2_method_2_code (aS_140 pc) := (sx_ite (p := fun l => sx_iOk prog_2_method_2_code l) (sx_ite (p := fun l => sx_iOk prog_2_method_2_code l) (sx_ite (p := fun l => sx_iOk prog_2_method_2_code l) (sx_ite (p := fun l => sx_iOk prog_2_method_2_code l) (sx_iB_s aJ_140_0) (sx_iB_s aJ_140_1)) (sx_ite (p := fun l => sx_iOk prog_2_method_2_code l) (sx_iB_s aJ_140_2) (sx_iB_s aJ_140_3))) (sx_ite (p := fun l => sx_iOk prog_2_method_2_code l) (sx_ite (p := fun l => sx_iOk prog_2_method_2_code l) (sx_iB_s aJ_140_4) (sx_iB_s aJ_140_5)) (sx_ite (p := fun l => sx_iOk prog_2_method_2_code l) (sx_iB_s aJ_140_6) (sx_ite (p := fun l => sx_iOk prog_2_method_2_code l) (sx_iB_s aJ_140_7) (sx_iB_s aJ_140_8))))) (sx_ite (p := fun l => sx_iOk prog_2_method_2_code l) (sx_ite (p := fun l => sx_iOk prog_2_method_2_code l) (sx_ite (p := fun l => sx_iOk prog_2_method_2_code l) (sx_iB_s aJ_140_9) (sx_iB_s aJ_140_10)) (sx_ite (p := fun l => sx_iOk prog_2_method_2_code l) (sx_iB_s aJ_140_11) (sx_iB_s aJ_140_12))) (sx_ite (p := fun l => sx_iOk prog_2_method_2_code l) (sx_ite (p := fun l => sx_iOk prog_2_method_2_code l) (sx_iB_s aJ_140_13) (sx_iB_s aJ_140_14)) (sx_ite (p := fun l => sx_iOk prog_2_method_2_code l) (sx_iB_s aJ_140_15) (sx_ite (p := fun l => sx_iOk prog_2_method_2_code l) (sx_iB_s aJ_140_16) (sx_iB_s aJ_140_17))))))
def aW_140 : Nat → Option (Instr × Nat) := fun pc => sx_iF (aS_140 pc) pc
theorem aX_140 : ∀ pc i len, aW_140 pc = some (i, len) → decode aM_140.1.2.1 pc = .ok (i, len) := fun pc i len h => sx_iF_s (aT_140 pc) h
def aI_141_0 : sx_IL := [(0, .aload_n 0, 1), (1, .invokevirtual 107, 3), (4, .i2l, 1), (5, .lstore_n 1, 1), (6, .lload_n 1, 1), (7, .bipush 32, 2)]
theorem aJ_141_0 : sx_iB prog_3_method_14_code aI_141_0 = true := by decide +kernel
def aI_141_1 : sx_IL := [(9, .lshl, 1), (10, .aload_n 0, 1), (11, .invokevirtual 107, 3), (14, .i2l, 1), (15, .ldc2_w 111, 3), (18, .land, 1)]
theorem aJ_141_1 : sx_iB prog_3_method_14_code aI_141_1 = true := by decide +kernel
def aI_141_2 : sx_IL := [(19, .lor, 1), (20, .lreturn, 1)]
theorem aJ_141_2 : sx_iB prog_3_method_14_code aI_141_2 = true := by decide +kernel
def aS_141 (pc : Nat) : sx_IL := (if pc < 9 then aI_141_0 else (if pc < 19 then aI_141_1 else aI_141_2))
theorem aT_141 (pc : Nat) : sx_iOk prog_3_method_14_code (aS_141 pc) := (sx_ite (p := fun l => sx_iOk prog_3_method_14_code l) (sx_iB_s aJ_141_0) (sx_ite (p := fun l => sx_iOk prog_3_method_14_code l) (sx_iB_s aJ_141_1) (sx_iB_s aJ_141_2)))
def aW_141 : Nat → Option (Instr × Nat) := fun pc => sx_iF (aS_141 pc) pc
theorem aX_141 : ∀ pc i len, aW_141 pc = some (i, len) → decode aM_141.1.2.1 pc = .ok (i, len) := fun pc i len h => sx_iF_s (aT_141 pc) h
def aI_142_0 : sx_IL := [(0, .aload_n 0, 1), (1, .getfield 23, 3), (4, .iconst 0, 1), (5, .invokevirtual 101, 3), (8, .istore_n 1, 1), (9, .aload_n 0, 1)]
theorem aJ_142_0 : sx_iB prog_3_method_13_code aI_142_0 = true := by decide +kernel
def aI_142_1 : sx_IL := [(10, .getfield 23, 3), (13, .iconst 4, 1), (14, .invokevirtual 104, 3), (17, .iload_n 1, 1), (18, .ireturn, 1)]
theorem aJ_142_1 : sx_iB prog_3_method_13_code aI_142_1 = true := by decide +kernel
def aS_142 (pc : Nat) : sx_IL := (if pc < 10 then aI_142_0 else aI_142_1)
theorem aT_142 (pc : Nat) : sx_iOk prog_3_method_13_code (aS_142 pc) := (sx_ite (p := fun l => sx_iOk prog_3_method_13_code l) (sx_iB_s aJ_142_0) (sx_iB_s aJ_142_1))
def aW_142 : Nat → Option (Instr × Nat) := fun pc => sx_iF (aS_142 pc) pc
theorem aX_142 : ∀ pc i len, aW_142 pc = some (i, len) → decode aM_142.1.2.1 pc = .ok (i, len) := fun pc i len h => sx_iF_s (aT_142 pc) h
def aI_143_0 : sx_IL := [(0, .aload_n 0, 1), (1, .iload_n 1, 1), (2, .invokevirtual 23, 3), (5, .bipush 24, 2), (7, .ishl, 1), (8, .aload_n 0, 1)]
theorem aJ_143_0 : sx_iB prog_9_method_5_code aI_143_0 = true := by decide +kernel
def aI_143_1 : sx_IL := [(9, .iload_n 1, 1), (10, .iconst 1, 1), (11, .iadd, 1), (12, .invokevirtual 23, 3), (15, .bipush 16, 2), (17, .ishl, 1)]
theorem aJ_143_1 : sx_iB prog_9_method_5_code aI_143_1 = true := by decide +kernel
def aI_143_2 : sx_IL := [(18, .ior, 1), (19, .aload_n 0, 1), (20, .iload_n 1, 1), (21, .iconst 2, 1), (22, .iadd, 1), (23, .invokevirtual 23, 3)]
theorem aJ_143_2 : sx_iB prog_9_method_5_code aI_143_2 = true := by decide +kernel
def aI_143_3 : sx_IL := [(26, .bipush 8, 2), (28, .ishl, 1), (29, .ior, 1), (30, .aload_n 0, 1), (31, .iload_n 1, 1), (32, .iconst 3, 1)]
theorem aJ_143_3 : sx_iB prog_9_method_5_code aI_143_3 = true := by decide +kernel
def aI_143_4 : sx_IL := [(33, .iadd, 1), (34, .invokevirtual 23, 3), (37, .ior, 1), (38, .ireturn, 1)]
theorem aJ_143_4 : sx_iB prog_9_method_5_code aI_143_4 = true := by decide +kernel
def aS_143 (pc : Nat) : sx_IL := (if pc < 18 then (if pc < 9 then aI_143_0 else aI_143_1) else (if pc < 26 then aI_143_2 else (if pc < 33 then aI_143_3 else aI_143_4)))
theorem aT_143 (pc : Nat) : sx_iOk prog_9_method_5_code (aS_143 pc) := (sx_ite (p := fun l => sx_iOk prog_9_method_5_code l) (sx_ite (p := fun l => sx_iOk prog_9_method_5_code l) (sx_iB_s aJ_143_0) (sx_iB_s aJ_143_1)) (sx_ite (p := fun l => sx_iOk prog_9_method_5_code l) (sx_iB_s aJ_143_2) (sx_ite (p := fun l => sx_iOk prog_9_method_5_code l) (sx_iB_s aJ_143_3) (sx_iB_s aJ_143_4))))
def aW_143 : Nat → Option (Instr × Nat) := fun pc => sx_iF (aS_143 pc) pc
theorem aX_143 : ∀ pc i len, aW_143 pc = some (i, len) → decode aM_143.1.2.1 pc = .ok (i, len) := fun pc i len h => sx_iF_s (aT_143 pc) h
def aI_144_0 : sx_IL := [(0, .iconst 0, 1), (1, .iload_n 1, 1), (2, .aload_n 0, 1), (3, .getfield 19, 3), (6, .invokestatic 49, 3), (9, .invokestatic 7, 3)]
theorem aJ_144_0 : sx_iB prog_9_method_13_code aI_144_0 = true := by decide +kernel
def aI_144_1 : sx_IL := [(12, .istore_n 2, 1), (13, .aload_n 0, 1), (14, .getfield 13, 3), (17, .iload_n 2, 1), (18, .aload_n 0, 1), (19, .getfield 13, 3)]
theorem aJ_144_1 : sx_iB prog_9_method_13_code aI_144_1 = true := by decide +kernel
def aI_144_2 : sx_IL := [(22, .iconst 0, 1), (23, .aload_n 0, 1), (24, .getfield 19, 3), (27, .iload_n 2, 1), (28, .isub, 1), (29, .invokestatic 43, 3)]
theorem aJ_144_2 : sx_iB prog_9_method_13_code aI_144_2 = true := by decide +kernel
def aI_144_3 : sx_IL := [(32, .aload_n 0, 1), (33, .dup, 1), (34, .getfield 19, 3), (37, .iload_n 2, 1), (38, .isub, 1), (39, .putfield 19, 3)]
theorem aJ_144_3 : sx_iB prog_9_method_13_code aI_144_3 = true := by decide +kernel
def aI_144_4 : sx_IL := [(42, .return_, 1)]
theorem aJ_144_4 : sx_iB prog_9_method_13_code aI_144_4 = true := by decide +kernel
def aS_144 (pc : Nat) : sx_IL := (if pc < 22 then (if pc < 12 then aI_144_0 else aI_144_1) else (if pc < 32 then aI_144_2 else (if pc < 42 then aI_144_3 else aI_144_4)))
theorem aT_144 (pc : Nat) : sx_iOk prog_9_method_13_code (aS_144 pc) := (sx_ite (p := fun l => sx_iOk prog_9_method_13_code l) (sx_ite (p := fun l => sx_iOk prog_9_method_13_code l) (sx_iB_s aJ_144_0) (sx_iB_s aJ_144_1)) (sx_ite (p := fun l => sx_iOk prog_9_method_13_code l) (sx_iB_s aJ_144_2) (sx_ite (p := fun l => sx_iOk prog_9_method_13_code l) (sx_iB_s aJ_144_3) (sx_iB_s aJ_144_4))))
def aW_144 : Nat → Option (Instr × Nat) := fun pc => sx_iF (aS_144 pc) pc
theorem aX_144 : ∀ pc i len, aW_144 pc = some (i, len) → decode aM_144.1.2.1 pc = .ok (i, len) := fun pc i len h => sx_iF_s (aT_144 pc) h
def aI_145_0 : sx_IL := [(0, .iconst 0, 1), (1, .istore_n 1, 1), (2, .iload_n 1, 1), (3, .aload_n 0, 1), (4, .getfield 21, 3), (7, .getfield 121, 3)]
theorem aJ_145_0 : sx_iB prog_2_method_3_code aI_145_0 = true := by decide +kernel
def aI_145_1 : sx_IL := [(10, .if_icmp .ge 59, 3), (13, .aload_n 0, 1), (14, .getfield 21, 3), (17, .aload_n 0, 1), (18, .getfield 21, 3), (21, .getfield 124, 3)]
theorem aJ_145_1 : sx_iB prog_2_method_3_code aI_145_1 = true := by decide +kernel
def aI_145_2 : sx_IL := [(24, .iload_n 1, 1), (25, .aaload, 1), (26, .getfield 84, 3), (29, .invokevirtual 127, 3), (32, .ifCond .eq 31, 3), (35, .aload_n 0, 1)]
theorem aJ_145_2 : sx_iB prog_2_method_3_code aI_145_2 = true := by decide +kernel
def aI_145_3 : sx_IL := [(36, .getfield 11, 3), (39, .aload_n 0, 1), (40, .getfield 131, 3), (43, .aload_n 0, 1), (44, .getfield 21, 3), (47, .getfield 124, 3)]
theorem aJ_145_3 : sx_iB prog_2_method_3_code aI_145_3 = true := by decide +kernel
def aI_145_4 : sx_IL := [(50, .iload_n 1, 1), (51, .aaload, 1), (52, .aastore, 1), (53, .aload_n 0, 1), (54, .dup, 1), (55, .getfield 131, 3)]
theorem aJ_145_4 : sx_iB prog_2_method_3_code aI_145_4 = true := by decide +kernel
def aI_145_5 : sx_IL := [(58, .iconst 1, 1), (59, .iadd, 1), (60, .putfield 131, 3), (63, .iinc 1 1, 3), (66, .goto (-64), 3), (69, .aload_n 0, 1)]
theorem aJ_145_5 : sx_iB prog_2_method_3_code aI_145_5 = true := by decide +kernel
def aI_145_6 : sx_IL := [(70, .getfield 131, 3), (73, .ifCond .le 26, 3), (76, .aload_n 0, 1), (77, .aload_n 0, 1), (78, .getfield 21, 3), (81, .getfield 56, 3)]
theorem aJ_145_6 : sx_iB prog_2_method_3_code aI_145_6 = true := by decide +kernel
def aI_145_7 : sx_IL := [(84, .bipush 6, 2), (86, .iaload, 1), (87, .iconst 1, 1), (88, .if_icmp .ne 7, 3), (91, .iconst 3, 1), (92, .goto 4, 3)]
theorem aJ_145_7 : sx_iB prog_2_method_3_code aI_145_7 = true := by decide +kernel
def aI_145_8 : sx_IL := [(95, .iconst 2, 1), (96, .putfield 134, 3), (99, .return_, 1)]
theorem aJ_145_8 : sx_iB prog_2_method_3_code aI_145_8 = true := by decide +kernel
def aS_145 (pc : Nat) : sx_IL := (if pc < 50 then (if pc < 24 then (if pc < 10 then aI_145_0 else aI_145_1) else (if pc < 36 then aI_145_2 else aI_145_3)) else (if pc < 70 then (if pc < 58 then aI_145_4 else aI_145_5) else (if pc < 84 then aI_145_6 else (if pc < 95 then aI_145_7 else aI_145_8))))
theorem aT_145 (pc : Nat) : sx_iOk prog_2_method_3_code (aS_145 pc) := (sx_ite (p := fun l => sx_iOk prog_2_method_3_code l) (sx_ite (p := fun l => sx_iOk prog_2_method_3_code l) (sx_ite (p := fun l => sx_iOk prog_2_method_3_code l) (sx_iB_s aJ_145_0) (sx_iB_s aJ_145_1)) (sx_ite (p := fun l => sx_iOk prog_2_method_3_code l) (sx_iB_s aJ_145_2) (sx_iB_s aJ_145_3))) (sx_ite (p := fun l => sx_iOk prog_2_method_3_code l) (sx_ite (p := fun l => sx_iOk prog_2_method_3_code l) (sx_iB_s aJ_145_4) (sx_iB_s aJ_145_5)) (sx_ite (p := fun l => sx_iOk prog_2_method_3_code l) (sx_iB_s aJ_145_6) (sx_ite (p := fun l => sx_iOk prog_2_method_3_code l) (sx_iB_s aJ_145_7) (sx_iB_s aJ_145_8)))))
def aW_145 : Nat → Option (Instr × Nat) := fun pc => sx_iF (aS_145 pc) pc
theorem aX_145 : ∀ pc i len, aW_145 pc = some (i, len) → decode aM_145.1.2.1 pc = .ok (i, len) := fun pc i len h => sx_iF_s (aT_145 pc) h
def aI_146_0 : sx_IL := [(0, .iconst 0, 1), (1, .istore_n 2, 1), (2, .iload_n 2, 1), (3, .iconst 4, 1), (4, .if_icmp .ge 37, 3), (7, .aload_n 0, 1)]
theorem aJ_146_0 : sx_iB prog_3_method_6_code aI_146_0 = true := by decide +kernel
def aI_146_1 : sx_IL := [(8, .getfield 9, 3), (11, .iconst 0, 1), (12, .aaload, 1), (13, .iload_n 2, 1), (14, .iaload, 1), (15, .ifCond .le 20, 3)]
theorem aJ_146_1 : sx_iB prog_3_method_6_code aI_146_1 = true := by decide +kernel
def aI_146_2 : sx_IL := [(18, .aload_n 0, 1), (19, .getfield 9, 3), (22, .iconst 0, 1), (23, .aaload, 1), (24, .iload_n 2, 1), (25, .iaload, 1)]
theorem aJ_146_2 : sx_iB prog_3_method_6_code aI_146_2 = true := by decide +kernel
def aI_146_3 : sx_IL := [(26, .invokestatic 66, 3), (29, .iload_n 1, 1), (30, .if_icmp .ne 5, 3), (33, .iconst 1, 1), (34, .ireturn, 1), (35, .iinc 2 1, 3)]
theorem aJ_146_3 : sx_iB prog_3_method_6_code aI_146_3 = true := by decide +kernel
def aI_146_4 : sx_IL := [(38, .goto (-36), 3), (41, .iconst 0, 1), (42, .ireturn, 1)]
theorem aJ_146_4 : sx_iB prog_3_method_6_code aI_146_4 = true := by decide +kernel
def aS_146 (pc : Nat) : sx_IL := (if pc < 18 then (if pc < 8 then aI_146_0 else aI_146_1) else (if pc < 26 then aI_146_2 else (if pc < 38 then aI_146_3 else aI_146_4)))
theorem aT_146 (pc : Nat) : sx_iOk prog_3_method_6_code (aS_146 pc) := (sx_ite (p := fun l => sx_iOk prog_3_method_6_code l) (sx_ite (p := fun l => sx_iOk prog_3_method_6_code l) (sx_iB_s aJ_146_0) (sx_iB_s aJ_146_1)) (sx_ite (p := fun l => sx_iOk prog_3_method_6_code l) (sx_iB_s aJ_146_2) (sx_ite (p := fun l => sx_iOk prog_3_method_6_code l) (sx_iB_s aJ_146_3) (sx_iB_s aJ_146_4))))
def aW_146 : Nat → Option (Instr × Nat) := fun pc => sx_iF (aS_146 pc) pc
theorem aX_146 : ∀ pc i len, aW_146 pc = some (i, len) → decode aM_146.1.2.1 pc = .ok (i, len) := fun pc i len h => sx_iF_s (aT_146 pc) h
def aI_147_0 : sx_IL := [(0, .aload_n 0, 1), (1, .iconst 1, 1), (2, .invokevirtual 137, 3), (5, .astore_n 3, 1), (6, .aload_n 3, 1), (7, .aload_n 0, 1)]
theorem aJ_147_0 : sx_iB prog_2_method_5_code aI_147_0 = true := by decide +kernel
def aI_147_1 : sx_IL := [(8, .getfield 29, 3), (11, .invokevirtual 141, 3), (14, .aload_n 3, 1), (15, .iconst 1, 1), (16, .invokevirtual 147, 3), (19, .aload_n 3, 1)]
theorem aJ_147_1 : sx_iB prog_2_method_5_code aI_147_1 = true := by decide +kernel
def aI_147_2 : sx_IL := [(20, .iconst 1, 1), (21, .invokevirtual 150, 3), (24, .aload_n 3, 1), (25, .iconst 4, 1), (26, .invokevirtual 147, 3), (29, .aload_n 0, 1)]
theorem aJ_147_2 : sx_iB prog_2_method_5_code aI_147_2 = true := by decide +kernel
def aI_147_3 : sx_IL := [(30, .aload_n 3, 1), (31, .iconst 2, 1), (32, .iconst 0, 1), (33, .invokevirtual 153, 3), (36, .aload_n 0, 1), (37, .aload_n 3, 1)]
theorem aJ_147_3 : sx_iB prog_2_method_5_code aI_147_3 = true := by decide +kernel
def aI_147_4 : sx_IL := [(38, .iconst 3, 1), (39, .iconst 1, 1), (40, .invokevirtual 153, 3), (43, .aload_n 0, 1), (44, .iload_n 1, 1), (45, .putfield 157, 3)]
theorem aJ_147_4 : sx_iB prog_2_method_5_code aI_147_4 = true := by decide +kernel
def aI_147_5 : sx_IL := [(48, .aload_n 0, 1), (49, .getfield 157, 3), (52, .ifCond .eq 54, 3), (55, .aload_n 0, 1), (56, .aload_n 0, 1), (57, .getfield 21, 3)]
theorem aJ_147_5 : sx_iB prog_2_method_5_code aI_147_5 = true := by decide +kernel
def aI_147_6 : sx_IL := [(60, .invokevirtual 160, 3), (63, .putfield 164, 3), (66, .aload_n 3, 1), (67, .iconst 4, 1), (68, .invokevirtual 147, 3), (71, .aload_n 3, 1)]
theorem aJ_147_6 : sx_iB prog_2_method_5_code aI_147_6 = true := by decide +kernel
def aI_147_7 : sx_IL := [(72, .iconst 5, 1), (73, .invokevirtual 150, 3), (76, .aload_n 3, 1), (77, .aload_n 0, 1), (78, .getfield 157, 3), (81, .invokevirtual 147, 3)]
theorem aJ_147_7 : sx_iB prog_2_method_5_code aI_147_7 = true := by decide +kernel
def aI_147_8 : sx_IL := [(84, .aload_n 3, 1), (85, .aload_n 0, 1), (86, .getfield 74, 3), (89, .getfield 78, 3), (92, .aload_n 0, 1), (93, .getfield 157, 3)]
theorem aJ_147_8 : sx_iB prog_2_method_5_code aI_147_8 = true := by decide +kernel
def aI_147_9 : sx_IL := [(96, .aload_n 0, 1), (97, .getfield 164, 3), (100, .invokevirtual 167, 3), (103, .invokevirtual 171, 3), (106, .aload_n 0, 1), (107, .aload_n 3, 1)]
theorem aJ_147_9 : sx_iB prog_2_method_5_code aI_147_9 = true := by decide +kernel
def aI_147_10 : sx_IL := [(108, .iconst 5, 1), (109, .iconst 2, 1), (110, .invokevirtual 153, 3), (113, .aload_n 0, 1), (114, .getfield 21, 3), (117, .getfield 174, 3)]
theorem aJ_147_10 : sx_iB prog_2_method_5_code aI_147_10 = true := by decide +kernel
def aI_147_11 : sx_IL := [(120, .getfield 41, 3), (123, .ifCond .le 48, 3), (126, .aload_n 3, 1), (127, .bipush 6, 2), (129, .invokevirtual 147, 3), (132, .aload_n 3, 1)]
theorem aJ_147_11 : sx_iB prog_2_method_5_code aI_147_11 = true := by decide +kernel
def aI_147_12 : sx_IL := [(133, .aload_n 0, 1), (134, .getfield 21, 3), (137, .getfield 174, 3), (140, .getfield 41, 3), (143, .invokevirtual 150, 3), (146, .aload_n 3, 1)]
theorem aJ_147_12 : sx_iB prog_2_method_5_code aI_147_12 = true := by decide +kernel
def aI_147_13 : sx_IL := [(147, .aload_n 0, 1), (148, .getfield 21, 3), (151, .getfield 174, 3), (154, .getfield 111, 3), (157, .iconst 0, 1), (158, .aload_n 0, 1)]
theorem aJ_147_13 : sx_iB prog_2_method_5_code aI_147_13 = true := by decide +kernel
def aI_147_14 : sx_IL := [(159, .getfield 21, 3), (162, .getfield 174, 3), (165, .getfield 41, 3), (168, .invokevirtual 177, 3), (171, .aload_n 0, 1), (172, .getfield 134, 3)]
theorem aJ_147_14 : sx_iB prog_2_method_5_code aI_147_14 = true := by decide +kernel
def aI_147_15 : sx_IL := [(175, .ifCond .eq 22, 3), (178, .aload_n 3, 1), (179, .bipush 7, 2), (181, .invokevirtual 147, 3), (184, .aload_n 3, 1), (185, .iconst 1, 1)]
theorem aJ_147_15 : sx_iB prog_2_method_5_code aI_147_15 = true := by decide +kernel
def aI_147_16 : sx_IL := [(186, .invokevirtual 150, 3), (189, .aload_n 3, 1), (190, .aload_n 0, 1), (191, .getfield 134, 3), (194, .invokevirtual 147, 3), (197, .aload_n 0, 1)]
theorem aJ_147_16 : sx_iB prog_2_method_5_code aI_147_16 = true := by decide +kernel
def aI_147_17 : sx_IL := [(198, .getfield 53, 3), (201, .ifCond .eq 14, 3), (204, .aload_n 3, 1), (205, .bipush 8, 2), (207, .invokevirtual 147, 3), (210, .aload_n 3, 1)]
theorem aJ_147_17 : sx_iB prog_2_method_5_code aI_147_17 = true := by decide +kernel
def aI_147_18 : sx_IL := [(211, .iconst 0, 1), (212, .invokevirtual 150, 3), (215, .aload_n 2, 1), (216, .ifnull 35, 3), (219, .aload_n 2, 1), (220, .bipush 9, 2)]
theorem aJ_147_18 : sx_iB prog_2_method_5_code aI_147_18 = true := by decide +kernel
def aI_147_19 : sx_IL := [(222, .invokevirtual 181, 3), (225, .ifCond .eq 26, 3), (228, .aload_n 3, 1), (229, .bipush 9, 2), (231, .invokevirtual 147, 3), (234, .aload_n 3, 1)]
theorem aJ_147_19 : sx_iB prog_2_method_5_code aI_147_19 = true := by decide +kernel
def aI_147_20 : sx_IL := [(235, .bipush 8, 2), (237, .invokevirtual 150, 3), (240, .aload_n 3, 1), (241, .aload_n 2, 1), (242, .bipush 9, 2), (244, .iconst 0, 1)]
theorem aJ_147_20 : sx_iB prog_2_method_5_code aI_147_20 = true := by decide +kernel
def aI_147_21 : sx_IL := [(245, .invokevirtual 184, 3), (248, .invokevirtual 141, 3), (251, .return_, 1)]
theorem aJ_147_21 : sx_iB prog_2_method_5_code aI_147_21 = true := by decide +kernel
def aS_147 (pc : Nat) : sx_IL := (if pc < 120 then (if pc < 48 then (if pc < 20 then (if pc < 8 then aI_147_0 else aI_147_1) else (if pc < 30 then aI_147_2 else (if pc < 38 then aI_147_3 else aI_147_4))) else (if pc < 84 then (if pc < 60 then aI_147_5 else (if pc < 72 then aI_147_6 else aI_147_7)) else (if pc < 96 then aI_147_8 else (if pc < 108 then aI_147_9 else aI_147_10)))) else (if pc < 186 then (if pc < 147 then (if pc < 133 then aI_147_11 else aI_147_12) else (if pc < 159 then aI_147_13 else (if pc < 175 then aI_147_14 else aI_147_15))) else (if pc < 222 then (if pc < 198 then aI_147_16 else (if pc < 211 then aI_147_17 else aI_147_18)) else (if pc < 235 then aI_147_19 else (if pc < 245 then aI_147_20 else aI_147_21)))))
theorem aT_147 (pc : Nat) : sx_iOk prog_2_method_5_code (aS_147 pc) := (sx_ite (p := fun l => sx_iOk prog_2_method_5_code l) (sx_ite (p := fun l => sx_iOk prog_2_method_5_code l) (sx_ite (p := fun l => sx_iOk prog_2_method_5_code l) (sx_ite (p := fun l => sx_iOk prog_2_method_5_code l) (sx_iB_s aJ_147_0) (sx_iB_s aJ_147_1)) (sx_ite (p := fun l => sx_iOk prog_2_method_5_code l) (sx_iB_s aJ_147_2) (sx_ite (p := fun l => sx_iOk prog_2_method_5_code l) (sx_iB_s aJ_147_3) (sx_iB_s aJ_147_4)))) (sx_ite (p := fun l => sx_iOk prog_2_method_5_code l) (sx_ite (p := fun l => sx_iOk prog_2_method_5_code l) (sx_iB_s aJ_147_5) (sx_ite (p := fun l => sx_iOk prog_2_method_5_code l) (sx_iB_s aJ_147_6) (sx_iB_s aJ_147_7))) (sx_ite (p := fun l => sx_iOk prog_2_method_5_code l) (sx_iB_s aJ_147_8) (sx_ite (p := fun l => sx_iOk prog_2_method_5_code l) (sx_iB_s aJ_147_9) (sx_iB_s aJ_147_10))))) (sx_ite (p := fun l => sx_iOk prog_2_method_5_code l) (sx_ite (p := fun l => sx_iOk prog_2_method_5_code l) (sx_ite (p := fun l => sx_iOk prog_2_method_5_code l) (sx_iB_s aJ_147_11) (sx_iB_s aJ_147_12)) (sx_ite (p := fun l => sx_iOk prog_2_method_5_code l) (sx_iB_s aJ_147_13) (sx_ite (p := fun l => sx_iOk prog_2_method_5_code l) (sx_iB_s aJ_147_14) (sx_iB_s aJ_147_15)))) (sx_ite (p := fun l => sx_iOk prog_2_method_5_code l) (sx_ite (p := fun l => sx_iOk prog_2_method_5_code l) (sx_iB_s aJ_147_16) (sx_ite (p := fun l => sx_iOk prog_2_method_5_code l) (sx_iB_s aJ_147_17) (sx_iB_s aJ_147_18))) (sx_ite (p := fun l => sx_iOk prog_2_method_5_code l) (sx_iB_s aJ_147_19) (sx_ite (p := fun l => sx_iOk prog_2_method_5_code l) (sx_iB_s aJ_147_20) (sx_iB_s aJ_147_21))))))
def aW_147 : Nat → Option (Instr × Nat) := fun pc => sx_iF (aS_147 pc) pc
theorem aX_147 : ∀ pc i len, aW_147 pc = some (i, len) → decode aM_147.1.2.1 pc = .ok (i, len) := fun pc i len h => sx_iF_s (aT_147 pc) h
def aI_148_0 : sx_IL := [(0, .aload_n 0, 1), (1, .getfield 43, 3), (4, .getfield 199, 3), (7, .invokevirtual 89, 3), (10, .aload_n 0, 1), (11, .getfield 43, 3)]
theorem aJ_148_0 : sx_iB prog_12_method_18_code aI_148_0 = true := by decide +kernel
def aI_148_1 : sx_IL := [(14, .getfield 199, 3), (17, .iload_n 1, 1), (18, .invokevirtual 168, 3), (21, .aload_n 0, 1), (22, .getfield 43, 3), (25, .getfield 199, 3)]
theorem aJ_148_1 : sx_iB prog_12_method_18_code aI_148_1 = true := by decide +kernel
def aI_148_2 : sx_IL := [(28, .iconst 0, 1), (29, .invokevirtual 171, 3), (32, .aload_n 0, 1), (33, .getfield 43, 3), (36, .getfield 199, 3), (39, .areturn, 1)]
theorem aJ_148_2 : sx_iB prog_12_method_18_code aI_148_2 = true := by decide +kernel
def aS_148 (pc : Nat) : sx_IL := (if pc < 14 then aI_148_0 else (if pc < 28 then aI_148_1 else aI_148_2))
theorem aT_148 (pc : Nat) : sx_iOk prog_12_method_18_code (aS_148 pc) := (sx_ite (p := fun l => sx_iOk prog_12_method_18_code l) (sx_iB_s aJ_148_0) (sx_ite (p := fun l => sx_iOk prog_12_method_18_code l) (sx_iB_s aJ_148_1) (sx_iB_s aJ_148_2)))
def aW_148 : Nat → Option (Instr × Nat) := fun pc => sx_iF (aS_148 pc) pc
theorem aX_148 : ∀ pc i len, aW_148 pc = some (i, len) → decode aM_148.1.2.1 pc = .ok (i, len) := fun pc i len h => sx_iF_s (aT_148 pc) h
def aI_149_0 : sx_IL := [(0, .aload_n 0, 1), (1, .iload_n 1, 1), (2, .bipush 8, 2), (4, .iushr, 1), (5, .invokevirtual 39, 3), (8, .aload_n 0, 1)]
theorem aJ_149_0 : sx_iB prog_9_method_8_code aI_149_0 = true := by decide +kernel
def aI_149_1 : sx_IL := [(9, .iload_n 1, 1), (10, .invokevirtual 39, 3), (13, .return_, 1)]
theorem aJ_149_1 : sx_iB prog_9_method_8_code aI_149_1 = true := by decide +kernel
def aS_149 (pc : Nat) : sx_IL := (if pc < 9 then aI_149_0 else aI_149_1)
theorem aT_149 (pc : Nat) : sx_iOk prog_9_method_8_code (aS_149 pc) := (sx_ite (p := fun l => sx_iOk prog_9_method_8_code l) (sx_iB_s aJ_149_0) (sx_iB_s aJ_149_1))
def aW_149 : Nat → Option (Instr × Nat) := fun pc => sx_iF (aS_149 pc) pc
theorem aX_149 : ∀ pc i len, aW_149 pc = some (i, len) → decode aM_149.1.2.1 pc = .ok (i, len) := fun pc i len h => sx_iF_s (aT_149 pc) h
def aI_150_0 : sx_IL := [(0, .iconst 0, 1), (1, .istore 4, 2), (3, .iconst 0, 1), (4, .istore 5, 2), (6, .iload 5, 2), (8, .iconst 4, 1)]
theorem aJ_150_0 : sx_iB prog_12_method_19_code aI_150_0 = true := by decide +kernel
def aI_150_1 : sx_IL := [(9, .if_icmp .ge 34, 3), (12, .iload 4, 2), (14, .aload_n 0, 1), (15, .getfield 47, 3), (18, .getfield 205, 3), (21, .iload_n 3, 1)]
theorem aJ_150_1 : sx_iB prog_12_method_19_code aI_150_1 = true := by decide +kernel
def aI_150_2 : sx_IL := [(22, .aaload, 1), (23, .iload 5, 2), (25, .iaload, 1), (26, .ifCond .le 7, 3), (29, .iconst 1, 1), (30, .goto 4, 3)]
theorem aJ_150_2 : sx_iB prog_12_method_19_code aI_150_2 = true := by decide +kernel
def aI_150_3 : sx_IL := [(33, .iconst 0, 1), (34, .iadd, 1), (35, .istore 4, 2), (37, .iinc 5 1, 3), (40, .goto (-34), 3), (43, .aload_n 1, 1)]
theorem aJ_150_3 : sx_iB prog_12_method_19_code aI_150_3 = true := by decide +kernel
def aI_150_4 : sx_IL := [(44, .iload_n 2, 1), (45, .invokevirtual 168, 3), (48, .aload_n 1, 1), (49, .iload 4, 2), (51, .invokevirtual 171, 3), (54, .iconst 0, 1)]
theorem aJ_150_4 : sx_iB prog_12_method_19_code aI_150_4 = true := by decide +kernel
def aI_150_5 : sx_IL := [(55, .istore 5, 2), (57, .iload 5, 2), (59, .iload 4, 2), (61, .if_icmp .ge 25, 3), (64, .aload_n 1, 1), (65, .aload_n 0, 1)]
theorem aJ_150_5 : sx_iB prog_12_method_19_code aI_150_5 = true := by decide +kernel
def aI_150_6 : sx_IL := [(66, .getfield 47, 3), (69, .getfield 205, 3), (72, .iload_n 3, 1), (73, .aaload, 1), (74, .iload 5, 2), (76, .iaload, 1)]
theorem aJ_150_6 : sx_iB prog_12_method_19_code aI_150_6 = true := by decide +kernel
def aI_150_7 : sx_IL := [(77, .invokevirtual 168, 3), (80, .iinc 5 1, 3), (83, .goto (-26), 3), (86, .return_, 1)]
theorem aJ_150_7 : sx_iB prog_12_method_19_code aI_150_7 = true := by decide +kernel
def aS_150 (pc : Nat) : sx_IL := (if pc < 44 then (if pc < 22 then (if pc < 9 then aI_150_0 else aI_150_1) else (if pc < 33 then aI_150_2 else aI_150_3)) else (if pc < 66 then (if pc < 55 then aI_150_4 else aI_150_5) else (if pc < 77 then aI_150_6 else aI_150_7)))
theorem aT_150 (pc : Nat) : sx_iOk prog_12_method_19_code (aS_150 pc) := (sx_ite (p := fun l => sx_iOk prog_12_method_19_code l) (sx_ite (p := fun l => sx_iOk prog_12_method_19_code l) (sx_ite (p := fun l => sx_iOk prog_12_method_19_code l) (sx_iB_s aJ_150_0) (sx_iB_s aJ_150_1)) (sx_ite (p := fun l => sx_iOk prog_12_method_19_code l) (sx_iB_s aJ_150_2) (sx_iB_s aJ_150_3))) (sx_ite (p := fun l => sx_iOk prog_12_method_19_code l) (sx_ite (p := fun l => sx_iOk prog_12_method_19_code l) (sx_iB_s aJ_150_4) (sx_iB_s aJ_150_5)) (sx_ite (p := fun l => sx_iOk prog_12_method_19_code l) (sx_iB_s aJ_150_6) (sx_iB_s aJ_150_7))))
def aW_150 : Nat → Option (Instr × Nat) := fun pc => sx_iF (aS_150 pc) pc
theorem aX_150 : ∀ pc i len, aW_150 pc = some (i, len) → decode aM_150.1.2.1 pc = .ok (i, len) := fun pc i len h => sx_iF_s (aT_150 pc) h
def aI_151_0 : sx_IL := [(0, .iconst 2, 1), (1, .aload_n 0, 1), (2, .invokevirtual 107, 3), (5, .ldc 113, 2), (7, .iand, 1), (8, .iadd, 1)]
theorem aJ_151_0 : sx_iB prog_3_method_15_code aI_151_0 = true := by decide +kernel
def aI_151_1 : sx_IL := [(9, .ireturn, 1)]
theorem aJ_151_1 : sx_iB prog_3_method_15_code aI_151_1 = true := by decide +kernel
def aS_151 (pc : Nat) : sx_IL := (if pc < 9 then aI_151_0 else aI_151_1)
theorem aT_151 (pc : Nat) : sx_iOk prog_3_method_15_code (aS_151 pc) := (sx_ite (p := fun l => sx_iOk prog_3_method_15_code l) (sx_iB_s aJ_151_0) (sx_iB_s aJ_151_1))
def aW_151 : Nat → Option (Instr × Nat) := fun pc => sx_iF (aS_151 pc) pc
theorem aX_151 : ∀ pc i len, aW_151 pc = some (i, len) → decode aM_151.1.2.1 pc = .ok (i, len) := fun pc i len h => sx_iF_s (aT_151 pc) h
def aI_152_0 : sx_IL := [(0, .bipush 24, 2), (2, .istore_n 2, 1), (3, .iload_n 2, 1), (4, .ifCond .lt 16, 3), (7, .aload_n 0, 1), (8, .iload_n 1, 1)]
theorem aJ_152_0 : sx_iB prog_9_method_9_code aI_152_0 = true := by decide +kernel
def aI_152_1 : sx_IL := [(9, .iload_n 2, 1), (10, .iushr, 1), (11, .invokevirtual 39, 3), (14, .iinc 2 (-8), 3), (17, .goto (-14), 3), (20, .return_, 1)]
theorem aJ_152_1 : sx_iB prog_9_method_9_code aI_152_1 = true := by decide +kernel
def aS_152 (pc : Nat) : sx_IL := (if pc < 9 then aI_152_0 else aI_152_1)
theorem aT_152 (pc : Nat) : sx_iOk prog_9_method_9_code (aS_152 pc) := (sx_ite (p := fun l => sx_iOk prog_9_method_9_code l) (sx_iB_s aJ_152_0) (sx_iB_s aJ_152_1))
def aW_152 : Nat → Option (Instr × Nat) := fun pc => sx_iF (aS_152 pc) pc
theorem aX_152 : ∀ pc i len, aW_152 pc = some (i, len) → decode aM_152.1.2.1 pc = .ok (i, len) := fun pc i len h => sx_iF_s (aT_152 pc) h
def aI_153_0 : sx_IL := [(0, .aload_n 0, 1), (1, .getfield 13, 3), (4, .iload_n 1, 1), (5, .iaload, 1), (6, .ifCond .lt 7, 3), (9, .iconst 1, 1)]
theorem aJ_153_0 : sx_iB prog_4_method_6_code aI_153_0 = true := by decide +kernel
def aI_153_1 : sx_IL := [(10, .goto 4, 3), (13, .iconst 0, 1), (14, .ireturn, 1)]
theorem aJ_153_1 : sx_iB prog_4_method_6_code aI_153_1 = true := by decide +kernel
def aS_153 (pc : Nat) : sx_IL := (if pc < 10 then aI_153_0 else aI_153_1)
theorem aT_153 (pc : Nat) : sx_iOk prog_4_method_6_code (aS_153 pc) := (sx_ite (p := fun l => sx_iOk prog_4_method_6_code l) (sx_iB_s aJ_153_0) (sx_iB_s aJ_153_1))
def aW_153 : Nat → Option (Instr × Nat) := fun pc => sx_iF (aS_153 pc) pc
theorem aX_153 : ∀ pc i len, aW_153 pc = some (i, len) → decode aM_153.1.2.1 pc = .ok (i, len) := fun pc i len h => sx_iF_s (aT_153 pc) h
def aI_154_0 : sx_IL := [(0, .aload_n 0, 1), (1, .iload_n 1, 1), (2, .iload_n 2, 1), (3, .invokevirtual 56, 3), (6, .i2l, 1), (7, .bipush 32, 2)]
theorem aJ_154_0 : sx_iB prog_4_method_9_code aI_154_0 = true := by decide +kernel
def aI_154_1 : sx_IL := [(9, .lshl, 1), (10, .aload_n 0, 1), (11, .iload_n 1, 1), (12, .iload_n 2, 1), (13, .iconst 4, 1), (14, .iadd, 1)]
theorem aJ_154_1 : sx_iB prog_4_method_9_code aI_154_1 = true := by decide +kernel
def aI_154_2 : sx_IL := [(15, .invokevirtual 56, 3), (18, .i2l, 1), (19, .ldc2_w 59, 3), (22, .land, 1), (23, .lor, 1), (24, .lreturn, 1)]
theorem aJ_154_2 : sx_iB prog_4_method_9_code aI_154_2 = true := by decide +kernel
def aS_154 (pc : Nat) : sx_IL := (if pc < 9 then aI_154_0 else (if pc < 15 then aI_154_1 else aI_154_2))
theorem aT_154 (pc : Nat) : sx_iOk prog_4_method_9_code (aS_154 pc) := (sx_ite (p := fun l => sx_iOk prog_4_method_9_code l) (sx_iB_s aJ_154_0) (sx_ite (p := fun l => sx_iOk prog_4_method_9_code l) (sx_iB_s aJ_154_1) (sx_iB_s aJ_154_2)))
def aW_154 : Nat → Option (Instr × Nat) := fun pc => sx_iF (aS_154 pc) pc
theorem aX_154 : ∀ pc i len, aW_154 pc = some (i, len) → decode aM_154.1.2.1 pc = .ok (i, len) := fun pc i len h => sx_iF_s (aT_154 pc) h
def aI_155_0 : sx_IL := [(0, .aload_n 0, 1), (1, .iload_n 1, 1), (2, .iload_n 2, 1), (3, .invokevirtual 52, 3), (6, .bipush 24, 2), (8, .ishl, 1)]
theorem aJ_155_0 : sx_iB prog_4_method_8_code aI_155_0 = true := by decide +kernel
def aI_155_1 : sx_IL := [(9, .aload_n 0, 1), (10, .iload_n 1, 1), (11, .iload_n 2, 1), (12, .iconst 1, 1), (13, .iadd, 1), (14, .invokevirtual 52, 3)]
theorem aJ_155_1 : sx_iB prog_4_method_8_code aI_155_1 = true := by decide +kernel
def aI_155_2 : sx_IL := [(17, .bipush 16, 2), (19, .ishl, 1), (20, .ior, 1), (21, .aload_n 0, 1), (22, .iload_n 1, 1), (23, .iload_n 2, 1)]
theorem aJ_155_2 : sx_iB prog_4_method_8_code aI_155_2 = true := by decide +kernel
def aI_155_3 : sx_IL := [(24, .iconst 2, 1), (25, .iadd, 1), (26, .invokevirtual 52, 3), (29, .bipush 8, 2), (31, .ishl, 1), (32, .ior, 1)]
theorem aJ_155_3 : sx_iB prog_4_method_8_code aI_155_3 = true := by decide +kernel
def aI_155_4 : sx_IL := [(33, .aload_n 0, 1), (34, .iload_n 1, 1), (35, .iload_n 2, 1), (36, .iconst 3, 1), (37, .iadd, 1), (38, .invokevirtual 52, 3)]
theorem aJ_155_4 : sx_iB prog_4_method_8_code aI_155_4 = true := by decide +kernel
def aI_155_5 : sx_IL := [(41, .ior, 1), (42, .ireturn, 1)]
theorem aJ_155_5 : sx_iB prog_4_method_8_code aI_155_5 = true := by decide +kernel
def aS_155 (pc : Nat) : sx_IL := (if pc < 24 then (if pc < 9 then aI_155_0 else (if pc < 17 then aI_155_1 else aI_155_2)) else (if pc < 33 then aI_155_3 else (if pc < 41 then aI_155_4 else aI_155_5)))
theorem aT_155 (pc : Nat) : sx_iOk prog_4_method_8_code (aS_155 pc) := (sx_ite (p := fun l => sx_iOk prog_4_method_8_code l) (sx_ite (p := fun l => sx_iOk prog_4_method_8_code l) (sx_iB_s aJ_155_0) (sx_ite (p := fun l => sx_iOk prog_4_method_8_code l) (sx_iB_s aJ_155_1) (sx_iB_s aJ_155_2))) (sx_ite (p := fun l => sx_iOk prog_4_method_8_code l) (sx_iB_s aJ_155_3) (sx_ite (p := fun l => sx_iOk prog_4_method_8_code l) (sx_iB_s aJ_155_4) (sx_iB_s aJ_155_5))))
def aW_155 : Nat → Option (Instr × Nat) := fun pc => sx_iF (aS_155 pc) pc
theorem aX_155 : ∀ pc i len, aW_155 pc = some (i, len) → decode aM_155.1.2.1 pc = .ok (i, len) := fun pc i len h => sx_iF_s (aT_155 pc) h
def aI_156_0 : sx_IL := [(0, .aload_n 0, 1), (1, .getfield 13, 3), (4, .iload_n 1, 1), (5, .iaload, 1), (6, .ifCond .lt 36, 3), (9, .aload_n 0, 1)]
theorem aJ_156_0 : sx_iB prog_4_method_7_code aI_156_0 = true := by decide +kernel
def aI_156_1 : sx_IL := [(10, .getfield 13, 3), (13, .iload_n 1, 1), (14, .iaload, 1), (15, .iload_n 2, 1), (16, .iadd, 1), (17, .aload_n 0, 1)]
theorem aJ_156_1 : sx_iB prog_4_method_7_code aI_156_1 = true := by decide +kernel
def aI_156_2 : sx_IL := [(18, .getfield 16, 3), (21, .iload_n 1, 1), (22, .iaload, 1), (23, .if_icmp .ge 19, 3), (26, .aload_n 0, 1), (27, .getfield 7, 3)]
theorem aJ_156_2 : sx_iB prog_4_method_7_code aI_156_2 = true := by decide +kernel
def aI_156_3 : sx_IL := [(30, .aload_n 0, 1), (31, .getfield 13, 3), (34, .iload_n 1, 1), (35, .iaload, 1), (36, .iload_n 2, 1), (37, .iadd, 1)]
theorem aJ_156_3 : sx_iB prog_4_method_7_code aI_156_3 = true := by decide +kernel
def aI_156_4 : sx_IL := [(38, .iaload, 1), (39, .goto 4, 3), (42, .iconst 0, 1), (43, .ireturn, 1)]
theorem aJ_156_4 : sx_iB prog_4_method_7_code aI_156_4 = true := by decide +kernel
def aS_156 (pc : Nat) : sx_IL := (if pc < 18 then (if pc < 10 then aI_156_0 else aI_156_1) else (if pc < 30 then aI_156_2 else (if pc < 38 then aI_156_3 else aI_156_4)))
theorem aT_156 (pc : Nat) : sx_iOk prog_4_method_7_code (aS_156 pc) := (sx_ite (p := fun l => sx_iOk prog_4_method_7_code l) (sx_ite (p := fun l => sx_iOk prog_4_method_7_code l) (sx_iB_s aJ_156_0) (sx_iB_s aJ_156_1)) (sx_ite (p := fun l => sx_iOk prog_4_method_7_code l) (sx_iB_s aJ_156_2) (sx_ite (p := fun l => sx_iOk prog_4_method_7_code l) (sx_iB_s aJ_156_3) (sx_iB_s aJ_156_4))))
def aW_156 : Nat → Option (Instr × Nat) := fun pc => sx_iF (aS_156 pc) pc
theorem aX_156 : ∀ pc i len, aW_156 pc = some (i, len) → decode aM_156.1.2.1 pc = .ok (i, len) := fun pc i len h => sx_iF_s (aT_156 pc) h
def aI_157_0 : sx_IL := [(0, .aload_n 0, 1), (1, .getfield 74, 3), (4, .getfield 188, 3), (7, .astore_n 1, 1), (8, .aload_n 0, 1), (9, .getfield 131, 3)]
theorem aJ_157_0 : sx_iB prog_2_method_6_code aI_157_0 = true := by decide +kernel
def aI_157_1 : sx_IL := [(12, .ifCond .ne 4, 3), (15, .return_, 1), (16, .iconst 1, 1), (17, .istore_n 2, 1), (18, .iconst 0, 1), (19, .istore_n 3, 1)]
theorem aJ_157_1 : sx_iB prog_2_method_6_code aI_157_1 = true := by decide +kernel
def aI_157_2 : sx_IL := [(20, .iload_n 3, 1), (21, .aload_n 0, 1), (22, .getfield 131, 3), (25, .if_icmp .ge 29, 3), (28, .iload_n 2, 1), (29, .iconst 1, 1)]
theorem aJ_157_2 : sx_iB prog_2_method_6_code aI_157_2 = true := by decide +kernel
def aI_157_3 : sx_IL := [(30, .aload_n 0, 1), (31, .getfield 11, 3), (34, .iload_n 3, 1), (35, .aaload, 1), (36, .getfield 191, 3), (39, .arraylength, 1)]
theorem aJ_157_3 : sx_iB prog_2_method_6_code aI_157_3 = true := by decide +kernel
def aI_157_4 : sx_IL := [(40, .iadd, 1), (41, .iconst 4, 1), (42, .iadd, 1), (43, .bipush 8, 2), (45, .iadd, 1), (46, .iadd, 1)]
theorem aJ_157_4 : sx_iB prog_2_method_6_code aI_157_4 = true := by decide +kernel
def aI_157_5 : sx_IL := [(47, .istore_n 2, 1), (48, .iinc 3 1, 3), (51, .goto (-31), 3), (54, .aload_n 1, 1), (55, .bipush 10, 2), (57, .invokevirtual 147, 3)]
theorem aJ_157_5 : sx_iB prog_2_method_6_code aI_157_5 = true := by decide +kernel
def aI_157_6 : sx_IL := [(60, .aload_n 1, 1), (61, .iload_n 2, 1), (62, .invokevirtual 150, 3), (65, .aload_n 1, 1), (66, .aload_n 0, 1), (67, .getfield 131, 3)]
theorem aJ_157_6 : sx_iB prog_2_method_6_code aI_157_6 = true := by decide +kernel
def aI_157_7 : sx_IL := [(70, .invokevirtual 147, 3), (73, .iconst 0, 1), (74, .istore_n 3, 1), (75, .iload_n 3, 1), (76, .aload_n 0, 1), (77, .getfield 131, 3)]
theorem aJ_157_7 : sx_iB prog_2_method_6_code aI_157_7 = true := by decide +kernel
def aI_157_8 : sx_IL := [(80, .if_icmp .ge 84, 3), (83, .aload_n 1, 1), (84, .aload_n 0, 1), (85, .getfield 11, 3), (88, .iload_n 3, 1), (89, .aaload, 1)]
theorem aJ_157_8 : sx_iB prog_2_method_6_code aI_157_8 = true := by decide +kernel
def aI_157_9 : sx_IL := [(90, .getfield 191, 3), (93, .arraylength, 1), (94, .invokevirtual 147, 3), (97, .aload_n 1, 1), (98, .aload_n 0, 1), (99, .getfield 11, 3)]
theorem aJ_157_9 : sx_iB prog_2_method_6_code aI_157_9 = true := by decide +kernel
def aI_157_10 : sx_IL := [(102, .iload_n 3, 1), (103, .aaload, 1), (104, .getfield 191, 3), (107, .iconst 0, 1), (108, .aload_n 0, 1), (109, .getfield 11, 3)]
theorem aJ_157_10 : sx_iB prog_2_method_6_code aI_157_10 = true := by decide +kernel
def aI_157_11 : sx_IL := [(112, .iload_n 3, 1), (113, .aaload, 1), (114, .getfield 191, 3), (117, .arraylength, 1), (118, .invokevirtual 177, 3), (121, .aload_n 1, 1)]
theorem aJ_157_11 : sx_iB prog_2_method_6_code aI_157_11 = true := by decide +kernel
def aI_157_12 : sx_IL := [(122, .aload_n 0, 1), (123, .getfield 11, 3), (126, .iload_n 3, 1), (127, .aaload, 1), (128, .getfield 46, 3), (131, .ifCond .eq 23, 3)]
theorem aJ_157_12 : sx_iB prog_2_method_6_code aI_157_12 = true := by decide +kernel
def aI_157_13 : sx_IL := [(134, .aload_n 0, 1), (135, .getfield 74, 3), (138, .getfield 194, 3), (141, .aload_n 0, 1), (142, .getfield 11, 3), (145, .iload_n 3, 1)]
theorem aJ_157_13 : sx_iB prog_2_method_6_code aI_157_13 = true := by decide +kernel
def aI_157_14 : sx_IL := [(146, .aaload, 1), (147, .getfield 197, 3), (150, .isub, 1), (151, .goto 4, 3), (154, .iconst 0, 1), (155, .invokevirtual 171, 3)]
theorem aJ_157_14 : sx_iB prog_2_method_6_code aI_157_14 = true := by decide +kernel
def aI_157_15 : sx_IL := [(158, .iinc 3 1, 3), (161, .goto (-86), 3), (164, .aload_n 1, 1), (165, .getfield 41, 3), (168, .istore_n 3, 1), (169, .aload_n 1, 1)]
theorem aJ_157_15 : sx_iB prog_2_method_6_code aI_157_15 = true := by decide +kernel
def aI_157_16 : sx_IL := [(170, .bipush 8, 2), (172, .aload_n 0, 1), (173, .getfield 131, 3), (176, .imul, 1), (177, .invokestatic 200, 3), (180, .iconst 0, 1)]
theorem aJ_157_16 : sx_iB prog_2_method_6_code aI_157_16 = true := by decide +kernel
def aI_157_17 : sx_IL := [(181, .istore 4, 2), (183, .iload 4, 2), (185, .aload_n 0, 1), (186, .getfield 131, 3), (189, .if_icmp .ge 42, 3), (192, .aload_n 1, 1)]
theorem aJ_157_17 : sx_iB prog_2_method_6_code aI_157_17 = true := by decide +kernel
def aI_157_18 : sx_IL := [(193, .aload_n 0, 1), (194, .aload_n 0, 1), (195, .getfield 11, 3), (198, .iload 4, 2), (200, .aaload, 1), (201, .getfield 84, 3)]
theorem aJ_157_18 : sx_iB prog_2_method_6_code aI_157_18 = true := by decide +kernel
def aI_157_19 : sx_IL := [(204, .aload_n 0, 1), (205, .getfield 11, 3), (208, .iload 4, 2), (210, .aaload, 1), (211, .getfield 87, 3), (214, .aload_n 1, 1)]
theorem aJ_157_19 : sx_iB prog_2_method_6_code aI_157_19 = true := by decide +kernel
def aI_157_20 : sx_IL := [(215, .getfield 111, 3), (218, .iload_n 3, 1), (219, .invokevirtual 204, 3), (222, .invokevirtual 141, 3), (225, .iinc 4 1, 3), (228, .goto (-45), 3)]
theorem aJ_157_20 : sx_iB prog_2_method_6_code aI_157_20 = true := by decide +kernel
def aI_157_21 : sx_IL := [(231, .return_, 1)]
theorem aJ_157_21 : sx_iB prog_2_method_6_code aI_157_21 = true := by decide +kernel
def aS_157 (pc : Nat) : sx_IL := (if pc < 112 then (if pc < 47 then (if pc < 20 then (if pc < 12 then aI_157_0 else aI_157_1) else (if pc < 30 then aI_157_2 else (if pc < 40 then aI_157_3 else aI_157_4))) else (if pc < 80 then (if pc < 60 then aI_157_5 else (if pc < 70 then aI_157_6 else aI_157_7)) else (if pc < 90 then aI_157_8 else (if pc < 102 then aI_157_9 else aI_157_10)))) else (if pc < 170 then (if pc < 134 then (if pc < 122 then aI_157_11 else aI_157_12) else (if pc < 146 then aI_157_13 else (if pc < 158 then aI_157_14 else aI_157_15))) else (if pc < 204 then (if pc < 181 then aI_157_16 else (if pc < 193 then aI_157_17 else aI_157_18)) else (if pc < 215 then aI_157_19 else (if pc < 231 then aI_157_20 else aI_157_21)))))
theorem aT_157 (pc : Nat) : sx_iOk prog_2_method_6_code (aS_157 pc) := (sx_ite (p := fun l => sx_iOk prog_2_method_6_code l) (sx_ite (p := fun l => sx_iOk prog_2_method_6_code l) (sx_ite (p := fun l => sx_iOk prog_2_method_6_code l) (sx_ite (p := fun l => sx_iOk prog_2_method_6_code l) (sx_iB_s aJ_157_0) (sx_iB_s aJ_157_1)) (sx_ite (p := fun l => sx_iOk prog_2_method_6_code l) (sx_iB_s aJ_157_2) (sx_ite (p := fun l => sx_iOk prog_2_method_6_code l) (sx_iB_s aJ_157_3) (sx_iB_s aJ_157_4)))) (sx_ite (p := fun l => sx_iOk prog_2_method_6_code l) (sx_ite (p := fun l => sx_iOk prog_2_method_6_code l) (sx_iB_s aJ_157_5) (sx_ite (p := fun l => sx_iOk prog_2_method_6_code l) (sx_iB_s aJ_157_6) (sx_iB_s aJ_157_7))) (sx_ite (p := fun l => sx_iOk prog_2_method_6_code l) (sx_iB_s aJ_157_8) (sx_ite (p := fun l => sx_iOk prog_2_method_6_code l) (sx_iB_s aJ_157_9) (sx_iB_s aJ_157_10))))) (sx_ite (p := fun l => sx_iOk prog_2_method_6_code l) (sx_ite (p := fun l => sx_iOk prog_2_method_6_code l) (sx_ite (p := fun l => sx_iOk prog_2_method_6_code l) (sx_iB_s aJ_157_11) (sx_iB_s aJ_157_12)) (sx_ite (p := fun l => sx_iOk prog_2_method_6_code l) (sx_iB_s aJ_157_13) (sx_ite (p := fun l => sx_iOk prog_2_method_6_code l) (sx_iB_s aJ_157_14) (sx_iB_s aJ_157_15)))) (sx_ite (p := fun l => sx_iOk prog_2_method_6_code l) (sx_ite (p := fun l => sx_iOk prog_2_method_6_code l) (sx_iB_s aJ_157_16) (sx_ite (p := fun l => sx_iOk prog_2_method_6_code l) (sx_iB_s aJ_157_17) (sx_iB_s aJ_157_18))) (sx_ite (p := fun l => sx_iOk prog_2_method_6_code l) (sx_iB_s aJ_157_19) (sx_ite (p := fun l => sx_iOk prog_2_method_6_code l) (sx_iB_s aJ_157_20) (sx_iB_s aJ_157_21))))))
def aW_157 : Nat → Option (Instr × Nat) := fun pc => sx_iF (aS_157 pc) pc
theorem aX_157 : ∀ pc i len, aW_157 pc = some (i, len) → decode aM_157.1.2.1 pc = .ok (i, len) := fun pc i len h => sx_iF_s (aT_157 pc) h
def aI_158_0 : sx_IL := [(0, .aload_n 0, 1), (1, .getfield 55, 3), (4, .iconst 3, 1), (5, .isub, 1), (6, .iload_n 1, 1), (7, .iadd, 1)]
theorem aJ_158_0 : sx_iB prog_12_method_20_code aI_158_0 = true := by decide +kernel
def aI_158_1 : sx_IL := [(8, .istore_n 2, 1), (9, .aload_n 0, 1), (10, .getfield 143, 3), (13, .iconst 1, 1), (14, .iload_n 2, 1), (15, .bipush 8, 2)]
theorem aJ_158_1 : sx_iB prog_12_method_20_code aI_158_1 = true := by decide +kernel
def aI_158_2 : sx_IL := [(17, .iushr, 1), (18, .sipush 255, 3), (21, .iand, 1), (22, .iastore, 1), (23, .aload_n 0, 1), (24, .getfield 143, 3)]
theorem aJ_158_2 : sx_iB prog_12_method_20_code aI_158_2 = true := by decide +kernel
def aI_158_3 : sx_IL := [(27, .iconst 2, 1), (28, .iload_n 2, 1), (29, .sipush 255, 3), (32, .iand, 1), (33, .iastore, 1), (34, .return_, 1)]
theorem aJ_158_3 : sx_iB prog_12_method_20_code aI_158_3 = true := by decide +kernel
def aS_158 (pc : Nat) : sx_IL := (if pc < 17 then (if pc < 8 then aI_158_0 else aI_158_1) else (if pc < 27 then aI_158_2 else aI_158_3))
theorem aT_158 (pc : Nat) : sx_iOk prog_12_method_20_code (aS_158 pc) := (sx_ite (p := fun l => sx_iOk prog_12_method_20_code l) (sx_ite (p := fun l => sx_iOk prog_12_method_20_code l) (sx_iB_s aJ_158_0) (sx_iB_s aJ_158_1)) (sx_ite (p := fun l => sx_iOk prog_12_method_20_code l) (sx_iB_s aJ_158_2) (sx_iB_s aJ_158_3)))
def aW_158 : Nat → Option (Instr × Nat) := fun pc => sx_iF (aS_158 pc) pc
theorem aX_158 : ∀ pc i len, aW_158 pc = some (i, len) → decode aM_158.1.2.1 pc = .ok (i, len) := fun pc i len h => sx_iF_s (aT_158 pc) h
def aI_159_0 : sx_IL := [(0, .aload_n 0, 1), (1, .getfield 43, 3), (4, .getfield 155, 3), (7, .astore 6, 2), (9, .aload 6, 2), (11, .iload_n 1, 1)]
theorem aJ_159_0 : sx_iB prog_12_method_36_code aI_159_0 = true := by decide +kernel
def aI_159_1 : sx_IL := [(12, .lconst 0, 1), (13, .lload_n 2, 1), (14, .invokevirtual 238, 3), (17, .lstore 7, 2), (19, .aload 6, 2), (21, .iload_n 1, 1)]
theorem aJ_159_1 : sx_iB prog_12_method_36_code aI_159_1 = true := by decide +kernel
def aI_159_2 : sx_IL := [(22, .aload 6, 2), (24, .iload_n 1, 1), (25, .lload 7, 2), (27, .bipush 98, 2), (29, .lconst 0, 1), (30, .invokevirtual 187, 3)]
theorem aJ_159_2 : sx_iB prog_12_method_36_code aI_159_2 = true := by decide +kernel
def aI_159_3 : sx_IL := [(33, .bipush 102, 2), (35, .lconst 0, 1), (36, .invokevirtual 187, 3), (39, .lstore 9, 2), (41, .aload 6, 2), (43, .aload_n 0, 1)]
theorem aJ_159_3 : sx_iB prog_12_method_36_code aI_159_3 = true := by decide +kernel
def aI_159_4 : sx_IL := [(44, .getfield 39, 3), (47, .iload_n 1, 1), (48, .aaload, 1), (49, .invokevirtual 218, 3), (52, .aload 6, 2), (54, .aload 4, 2)]
theorem aJ_159_4 : sx_iB prog_12_method_36_code aI_159_4 = true := by decide +kernel
def aI_159_5 : sx_IL := [(56, .iconst 0, 1), (57, .iload 5, 2), (59, .invokevirtual 217, 3), (62, .aload 6, 2), (64, .iload_n 1, 1), (65, .lload 9, 2)]
theorem aJ_159_5 : sx_iB prog_12_method_36_code aI_159_5 = true := by decide +kernel
def aI_159_6 : sx_IL := [(67, .aload 6, 2), (69, .invokevirtual 222, 3), (72, .invokevirtual 238, 3), (75, .lreturn, 1)]
theorem aJ_159_6 : sx_iB prog_12_method_36_code aI_159_6 = true := by decide +kernel
def aS_159 (pc : Nat) : sx_IL := (if pc < 33 then (if pc < 12 then aI_159_0 else (if pc < 22 then aI_159_1 else aI_159_2)) else (if pc < 56 then (if pc < 44 then aI_159_3 else aI_159_4) else (if pc < 67 then aI_159_5 else aI_159_6)))
theorem aT_159 (pc : Nat) : sx_iOk prog_12_method_36_code (aS_159 pc) := (sx_ite (p := fun l => sx_iOk prog_12_method_36_code l) (sx_ite (p := fun l => sx_iOk prog_12_method_36_code l) (sx_iB_s aJ_159_0) (sx_ite (p := fun l => sx_iOk prog_12_method_36_code l) (sx_iB_s aJ_159_1) (sx_iB_s aJ_159_2))) (sx_ite (p := fun l => sx_iOk prog_12_method_36_code l) (sx_ite (p := fun l => sx_iOk prog_12_method_36_code l) (sx_iB_s aJ_159_3) (sx_iB_s aJ_159_4)) (sx_ite (p := fun l => sx_iOk prog_12_method_36_code l) (sx_iB_s aJ_159_5) (sx_iB_s aJ_159_6))))
def aW_159 : Nat → Option (Instr × Nat) := fun pc => sx_iF (aS_159 pc) pc
theorem aX_159 : ∀ pc i len, aW_159 pc = some (i, len) → decode aM_159.1.2.1 pc = .ok (i, len) := fun pc i len h => sx_iF_s (aT_159 pc) h
def aI_160_0 : sx_IL := [(0, .aload_n 0, 1), (1, .iload_n 1, 1), (2, .lload_n 2, 1), (3, .invokevirtual 58, 3), (6, .aload_n 0, 1), (7, .lload 4, 2)]
theorem aJ_160_0 : sx_iB prog_6_method_16_code aI_160_0 = true := by decide +kernel
def aI_160_1 : sx_IL := [(9, .invokevirtual 66, 3), (12, .aload_n 0, 1), (13, .iload_n 1, 1), (14, .lload_n 2, 1), (15, .aload_n 0, 1), (16, .invokevirtual 49, 3)]
theorem aJ_160_1 : sx_iB prog_6_method_16_code aI_160_1 = true := by decide +kernel
def aI_160_2 : sx_IL := [(19, .invokevirtual 62, 3), (22, .lreturn, 1)]
theorem aJ_160_2 : sx_iB prog_6_method_16_code aI_160_2 = true := by decide +kernel
def aS_160 (pc : Nat) : sx_IL := (if pc < 9 then aI_160_0 else (if pc < 19 then aI_160_1 else aI_160_2))
theorem aT_160 (pc : Nat) : sx_iOk prog_6_method_16_code (aS_160 pc) := (sx_ite (p := fun l => sx_iOk prog_6_method_16_code l) (sx_iB_s aJ_160_0) (sx_ite (p := fun l => sx_iOk prog_6_method_16_code l) (sx_iB_s aJ_160_1) (sx_iB_s aJ_160_2)))
def aW_160 : Nat → Option (Instr × Nat) := fun pc => sx_iF (aS_160 pc) pc
theorem aX_160 : ∀ pc i len, aW_160 pc = some (i, len) → decode aM_160.1.2.1 pc = .ok (i, len) := fun pc i len h => sx_iF_s (aT_160 pc) h
def aI_161_0 : sx_IL := [(0, .aload_n 0, 1), (1, .aload_n 1, 1), (2, .getfield 7, 3), (5, .putfield 7, 3), (8, .aload_n 0, 1), (9, .aload_n 1, 1)]
theorem aJ_161_0 : sx_iB prog_6_method_5_code aI_161_0 = true := by decide +kernel
def aI_161_1 : sx_IL := [(10, .getfield 13, 3), (13, .putfield 13, 3), (16, .aload_n 0, 1), (17, .aload_n 1, 1), (18, .getfield 16, 3), (21, .putfield 16, 3)]
theorem aJ_161_1 : sx_iB prog_6_method_5_code aI_161_1 = true := by decide +kernel
def aI_161_2 : sx_IL := [(24, .aload_n 0, 1), (25, .aload_n 1, 1), (26, .getfield 19, 3), (29, .putfield 19, 3), (32, .aload_n 0, 1), (33, .aload_n 1, 1)]
theorem aJ_161_2 : sx_iB prog_6_method_5_code aI_161_2 = true := by decide +kernel
def aI_161_3 : sx_IL := [(34, .getfield 25, 3), (37, .putfield 25, 3), (40, .aload_n 0, 1), (41, .aload_n 1, 1), (42, .getfield 22, 3), (45, .putfield 22, 3)]
theorem aJ_161_3 : sx_iB prog_6_method_5_code aI_161_3 = true := by decide +kernel
def aI_161_4 : sx_IL := [(48, .return_, 1)]
theorem aJ_161_4 : sx_iB prog_6_method_5_code aI_161_4 = true := by decide +kernel
def aS_161 (pc : Nat) : sx_IL := (if pc < 24 then (if pc < 10 then aI_161_0 else aI_161_1) else (if pc < 34 then aI_161_2 else (if pc < 48 then aI_161_3 else aI_161_4)))
theorem aT_161 (pc : Nat) : sx_iOk prog_6_method_5_code (aS_161 pc) := (sx_ite (p := fun l => sx_iOk prog_6_method_5_code l) (sx_ite (p := fun l => sx_iOk prog_6_method_5_code l) (sx_iB_s aJ_161_0) (sx_iB_s aJ_161_1)) (sx_ite (p := fun l => sx_iOk prog_6_method_5_code l) (sx_iB_s aJ_161_2) (sx_ite (p := fun l => sx_iOk prog_6_method_5_code l) (sx_iB_s aJ_161_3) (sx_iB_s aJ_161_4))))
def aW_161 : Nat → Option (Instr × Nat) := fun pc => sx_iF (aS_161 pc) pc
theorem aX_161 : ∀ pc i len, aW_161 pc = some (i, len) → decode aM_161.1.2.1 pc = .ok (i, len) := fun pc i len h => sx_iF_s (aT_161 pc) h
def aI_162_0 : sx_IL := [(0, .aload_n 0, 1), (1, .getfield 43, 3), (4, .getfield 199, 3), (7, .astore_n 1, 1), (8, .aload_n 1, 1), (9, .iconst 0, 1)]
theorem aJ_162_0 : sx_iB prog_12_method_21_code aI_162_0 = true := by decide +kernel
def aI_162_1 : sx_IL := [(10, .invokestatic 209, 3), (13, .aload_n 0, 1), (14, .aload_n 1, 1), (15, .iconst 0, 1), (16, .invokevirtual 59, 3), (19, .aload_n 1, 1)]
theorem aJ_162_1 : sx_iB prog_12_method_21_code aI_162_1 = true := by decide +kernel
def aI_162_2 : sx_IL := [(20, .getfield 143, 3), (23, .aload_n 1, 1), (24, .getfield 55, 3), (27, .invokevirtual 213, 3), (30, .aload_n 0, 1), (31, .bipush 22, 2)]
theorem aJ_162_2 : sx_iB prog_12_method_21_code aI_162_2 = true := by decide +kernel
def aI_162_3 : sx_IL := [(33, .aload_n 1, 1), (34, .getfield 143, 3), (37, .iconst 0, 1), (38, .aload_n 1, 1), (39, .getfield 55, 3), (42, .invokevirtual 202, 3)]
theorem aJ_162_3 : sx_iB prog_12_method_21_code aI_162_3 = true := by decide +kernel
def aI_162_4 : sx_IL := [(45, .return_, 1)]
theorem aJ_162_4 : sx_iB prog_12_method_21_code aI_162_4 = true := by decide +kernel
def aS_162 (pc : Nat) : sx_IL := (if pc < 20 then (if pc < 10 then aI_162_0 else aI_162_1) else (if pc < 33 then aI_162_2 else (if pc < 45 then aI_162_3 else aI_162_4)))
theorem aT_162 (pc : Nat) : sx_iOk prog_12_method_21_code (aS_162 pc) := (sx_ite (p := fun l => sx_iOk prog_12_method_21_code l) (sx_ite (p := fun l => sx_iOk prog_12_method_21_code l) (sx_iB_s aJ_162_0) (sx_iB_s aJ_162_1)) (sx_ite (p := fun l => sx_iOk prog_12_method_21_code l) (sx_iB_s aJ_162_2) (sx_ite (p := fun l => sx_iOk prog_12_method_21_code l) (sx_iB_s aJ_162_3) (sx_iB_s aJ_162_4))))
def aW_162 : Nat → Option (Instr × Nat) := fun pc => sx_iF (aS_162 pc) pc
theorem aX_162 : ∀ pc i len, aW_162 pc = some (i, len) → decode aM_162.1.2.1 pc = .ok (i, len) := fun pc i len h => sx_iF_s (aT_162 pc) h
def aI_163_0 : sx_IL := [(0, .iconst 0, 1), (1, .istore 4, 2), (3, .iload 4, 2), (5, .iconst 2, 1), (6, .if_icmp .ge 56, 3), (9, .iload_n 1, 1)]
theorem aJ_163_0 : sx_iB prog_12_method_22_code aI_163_0 = true := by decide +kernel
def aI_163_1 : sx_IL := [(10, .bipush 20, 2), (12, .if_icmp .gt 50, 3), (15, .iload_n 1, 1), (16, .iconst 4, 1), (17, .if_icmp .eq 45, 3), (20, .aload_n 0, 1)]
theorem aJ_163_1 : sx_iB prog_12_method_22_code aI_163_1 = true := by decide +kernel
def aI_163_2 : sx_IL := [(21, .getfield 29, 3), (24, .iconst 1, 1), (25, .iaload, 1), (26, .ifCond .eq 17, 3), (29, .aload_n 0, 1), (30, .getfield 29, 3)]
theorem aJ_163_2 : sx_iB prog_12_method_22_code aI_163_2 = true := by decide +kernel
def aI_163_3 : sx_IL := [(33, .iconst 1, 1), (34, .iaload, 1), (35, .invokestatic 177, 3), (38, .iload 4, 2), (40, .if_icmp .ne 16, 3), (43, .aload_n 0, 1)]
theorem aJ_163_3 : sx_iB prog_12_method_22_code aI_163_3 = true := by decide +kernel
def aI_163_4 : sx_IL := [(44, .getfield 39, 3), (47, .iload 4, 2), (49, .aaload, 1), (50, .aload_n 2, 1), (51, .iconst 0, 1), (52, .iload_n 3, 1)]
theorem aJ_163_4 : sx_iB prog_12_method_22_code aI_163_4 = true := by decide +kernel
def aI_163_5 : sx_IL := [(53, .invokevirtual 217, 3), (56, .iinc 4 1, 3), (59, .goto (-56), 3), (62, .return_, 1)]
theorem aJ_163_5 : sx_iB prog_12_method_22_code aI_163_5 = true := by decide +kernel
def aS_163 (pc : Nat) : sx_IL := (if pc < 33 then (if pc < 10 then aI_163_0 else (if pc < 21 then aI_163_1 else aI_163_2)) else (if pc < 44 then aI_163_3 else (if pc < 53 then aI_163_4 else aI_163_5)))
theorem aT_163 (pc : Nat) : sx_iOk prog_12_method_22_code (aS_163 pc) := (sx_ite (p := fun l => sx_iOk prog_12_method_22_code l) (sx_ite (p := fun l => sx_iOk prog_12_method_22_code l) (sx_iB_s aJ_163_0) (sx_ite (p := fun l => sx_iOk prog_12_method_22_code l) (sx_iB_s aJ_163_1) (sx_iB_s aJ_163_2))) (sx_ite (p := fun l => sx_iOk prog_12_method_22_code l) (sx_iB_s aJ_163_3) (sx_ite (p := fun l => sx_iOk prog_12_method_22_code l) (sx_iB_s aJ_163_4) (sx_iB_s aJ_163_5))))
def aW_163 : Nat → Option (Instr × Nat) := fun pc => sx_iF (aS_163 pc) pc
theorem aX_163 : ∀ pc i len, aW_163 pc = some (i, len) → decode aM_163.1.2.1 pc = .ok (i, len) := fun pc i len h => sx_iF_s (aT_163 pc) h
def aI_164_0 : sx_IL := [(0, .iload_n 3, 1), (1, .istore 5, 2), (3, .iload 5, 2), (5, .iload 4, 2), (7, .if_icmp .ge 266, 3), (10, .sipush 200, 3)]
theorem aJ_164_0 : sx_iB prog_12_method_16_code aI_164_0 = true := by decide +kernel
def aI_164_1 : sx_IL := [(13, .iload 4, 2), (15, .iload 5, 2), (17, .isub, 1), (18, .invokestatic 69, 3), (21, .istore 6, 2), (23, .aload_n 0, 1)]
theorem aJ_164_1 : sx_iB prog_12_method_16_code aI_164_1 = true := by decide +kernel
def aI_164_2 : sx_IL := [(24, .getfield 165, 3), (27, .ifCond .ne 38, 3), (30, .aload_n 0, 1), (31, .getfield 14, 3), (34, .iload_n 1, 1), (35, .invokevirtual 168, 3)]
theorem aJ_164_2 : sx_iB prog_12_method_16_code aI_164_2 = true := by decide +kernel
def aI_164_3 : sx_IL := [(38, .aload_n 0, 1), (39, .getfield 14, 3), (42, .iload 6, 2), (44, .invokevirtual 171, 3), (47, .aload_n 0, 1), (48, .getfield 14, 3)]
theorem aJ_164_3 : sx_iB prog_12_method_16_code aI_164_3 = true := by decide +kernel
def aI_164_4 : sx_IL := [(51, .aload_n 2, 1), (52, .iload 5, 2), (54, .iload 5, 2), (56, .iload 6, 2), (58, .iadd, 1), (59, .invokevirtual 75, 3)]
theorem aJ_164_4 : sx_iB prog_12_method_16_code aI_164_4 = true := by decide +kernel
def aI_164_5 : sx_IL := [(62, .goto 202, 3), (65, .aload_n 0, 1), (66, .getfield 174, 3), (69, .invokestatic 177, 3), (72, .istore 7, 2), (74, .aload_n 0, 1)]
theorem aJ_164_5 : sx_iB prog_12_method_16_code aI_164_5 = true := by decide +kernel
def aI_164_6 : sx_IL := [(75, .getfield 174, 3), (78, .invokestatic 152, 3), (81, .istore 8, 2), (83, .aload_n 0, 1), (84, .getfield 43, 3), (87, .getfield 180, 3)]
theorem aJ_164_6 : sx_iB prog_12_method_16_code aI_164_6 = true := by decide +kernel
def aI_164_7 : sx_IL := [(90, .astore 9, 2), (92, .aload 9, 2), (94, .invokevirtual 89, 3), (97, .aload 9, 2), (99, .bipush 23, 2), (101, .invokevirtual 168, 3)]
theorem aJ_164_7 : sx_iB prog_12_method_16_code aI_164_7 = true := by decide +kernel
def aI_164_8 : sx_IL := [(104, .aload 9, 2), (106, .iload 6, 2), (108, .iconst 1, 1), (109, .iadd, 1), (110, .iload 8, 2), (112, .iadd, 1)]
theorem aJ_164_8 : sx_iB prog_12_method_16_code aI_164_8 = true := by decide +kernel
def aI_164_9 : sx_IL := [(113, .invokevirtual 171, 3), (116, .aload 9, 2), (118, .aload_n 2, 1), (119, .iload 5, 2), (121, .iload 5, 2), (123, .iload 6, 2)]
theorem aJ_164_9 : sx_iB prog_12_method_16_code aI_164_9 = true := by decide +kernel
def aI_164_10 : sx_IL := [(125, .iadd, 1), (126, .invokevirtual 75, 3), (129, .aload 9, 2), (131, .iload_n 1, 1), (132, .invokevirtual 168, 3), (135, .aload_n 0, 1)]
theorem aJ_164_10 : sx_iB prog_12_method_16_code aI_164_10 = true := by decide +kernel
def aI_164_11 : sx_IL := [(136, .getfield 43, 3), (139, .getfield 155, 3), (142, .aload_n 0, 1), (143, .getfield 33, 3), (146, .iconst 0, 1), (147, .laload, 1)]
theorem aJ_164_11 : sx_iB prog_12_method_16_code aI_164_11 = true := by decide +kernel
def aI_164_12 : sx_IL := [(148, .aload_n 0, 1), (149, .getfield 29, 3), (152, .bipush 10, 2), (154, .iaload, 1), (155, .i2l, 1), (156, .aload 9, 2)]
theorem aJ_164_12 : sx_iB prog_12_method_16_code aI_164_12 = true := by decide +kernel
def aI_164_13 : sx_IL := [(158, .getfield 143, 3), (161, .iconst 3, 1), (162, .aload 9, 2), (164, .getfield 55, 3), (167, .invokevirtual 183, 3), (170, .aload_n 0, 1)]
theorem aJ_164_13 : sx_iB prog_12_method_16_code aI_164_13 = true := by decide +kernel
def aI_164_14 : sx_IL := [(171, .getfield 43, 3), (174, .getfield 155, 3), (177, .iload 7, 2), (179, .aload_n 0, 1), (180, .getfield 33, 3), (183, .iconst 0, 1)]
theorem aJ_164_14 : sx_iB prog_12_method_16_code aI_164_14 = true := by decide +kernel
def aI_164_15 : sx_IL := [(184, .laload, 1), (185, .bipush 116, 2), (187, .aload_n 0, 1), (188, .getfield 29, 3), (191, .bipush 10, 2), (193, .iaload, 1)]
theorem aJ_164_15 : sx_iB prog_12_method_16_code aI_164_15 = true := by decide +kernel
def aI_164_16 : sx_IL := [(194, .i2l, 1), (195, .invokevirtual 187, 3), (198, .lstore 10, 2), (200, .aload_n 0, 1), (201, .getfield 43, 3), (204, .getfield 155, 3)]
theorem aJ_164_16 : sx_iB prog_12_method_16_code aI_164_16 = true := by decide +kernel
def aI_164_17 : sx_IL := [(207, .iload 7, 2), (209, .lload 10, 2), (211, .aload 9, 2), (213, .iconst 3, 1), (214, .aload 9, 2), (216, .getfield 55, 3)]
theorem aJ_164_17 : sx_iB prog_12_method_16_code aI_164_17 = true := by decide +kernel
def aI_164_18 : sx_IL := [(219, .invokevirtual 191, 3), (222, .lstore 12, 2), (224, .aload_n 0, 1), (225, .getfield 14, 3), (228, .aload 9, 2), (230, .getfield 143, 3)]
theorem aJ_164_18 : sx_iB prog_12_method_16_code aI_164_18 = true := by decide +kernel
def aI_164_19 : sx_IL := [(233, .iconst 0, 1), (234, .aload 9, 2), (236, .getfield 55, 3), (239, .invokevirtual 75, 3), (242, .aload_n 0, 1), (243, .getfield 14, 3)]
theorem aJ_164_19 : sx_iB prog_12_method_16_code aI_164_19 = true := by decide +kernel
def aI_164_20 : sx_IL := [(246, .lload 12, 2), (248, .iload 8, 2), (250, .invokevirtual 195, 3), (253, .aload_n 0, 1), (254, .getfield 29, 3), (257, .bipush 10, 2)]
theorem aJ_164_20 : sx_iB prog_12_method_16_code aI_164_20 = true := by decide +kernel
def aI_164_21 : sx_IL := [(259, .dup2, 1), (260, .iaload, 1), (261, .iconst 1, 1), (262, .iadd, 1), (263, .iastore, 1), (264, .iinc 5 200, 6)]
theorem aJ_164_21 : sx_iB prog_12_method_16_code aI_164_21 = true := by decide +kernel
def aI_164_22 : sx_IL := [(270, .goto (-267), 3), (273, .return_, 1)]
theorem aJ_164_22 : sx_iB prog_12_method_16_code aI_164_22 = true := by decide +kernel
def aS_164 (pc : Nat) : sx_IL := (if pc < 136 then (if pc < 62 then (if pc < 24 then (if pc < 13 then aI_164_0 else aI_164_1) else (if pc < 38 then aI_164_2 else (if pc < 51 then aI_164_3 else aI_164_4))) else (if pc < 104 then (if pc < 75 then aI_164_5 else (if pc < 90 then aI_164_6 else aI_164_7)) else (if pc < 113 then aI_164_8 else (if pc < 125 then aI_164_9 else aI_164_10)))) else (if pc < 207 then (if pc < 171 then (if pc < 148 then aI_164_11 else (if pc < 158 then aI_164_12 else aI_164_13)) else (if pc < 184 then aI_164_14 else (if pc < 194 then aI_164_15 else aI_164_16))) else (if pc < 246 then (if pc < 219 then aI_164_17 else (if pc < 233 then aI_164_18 else aI_164_19)) else (if pc < 259 then aI_164_20 else (if pc < 270 then aI_164_21 else aI_164_22)))))
theorem aT_164 (pc : Nat) : sx_iOk prog_12_method_16_code (aS_164 pc) := (sx_ite (p := fun l => sx_iOk prog_12_method_16_code l) (sx_ite (p := fun l => sx_iOk prog_12_method_16_code l) (sx_ite (p := fun l => sx_iOk prog_12_method_16_code l) (sx_ite (p := fun l => sx_iOk prog_12_method_16_code l) (sx_iB_s aJ_164_0) (sx_iB_s aJ_164_1)) (sx_ite (p := fun l => sx_iOk prog_12_method_16_code l) (sx_iB_s aJ_164_2) (sx_ite (p := fun l => sx_iOk prog_12_method_16_code l) (sx_iB_s aJ_164_3) (sx_iB_s aJ_164_4)))) (sx_ite (p := fun l => sx_iOk prog_12_method_16_code l) (sx_ite (p := fun l => sx_iOk prog_12_method_16_code l) (sx_iB_s aJ_164_5) (sx_ite (p := fun l => sx_iOk prog_12_method_16_code l) (sx_iB_s aJ_164_6) (sx_iB_s aJ_164_7))) (sx_ite (p := fun l => sx_iOk prog_12_method_16_code l) (sx_iB_s aJ_164_8) (sx_ite (p := fun l => sx_iOk prog_12_method_16_code l) (sx_iB_s aJ_164_9) (sx_iB_s aJ_164_10))))) (sx_ite (p := fun l => sx_iOk prog_12_method_16_code l) (sx_ite (p := fun l => sx_iOk prog_12_method_16_code l) (sx_ite (p := fun l => sx_iOk prog_12_method_16_code l) (sx_iB_s aJ_164_11) (sx_ite (p := fun l => sx_iOk prog_12_method_16_code l) (sx_iB_s aJ_164_12) (sx_iB_s aJ_164_13))) (sx_ite (p := fun l => sx_iOk prog_12_method_16_code l) (sx_iB_s aJ_164_14) (sx_ite (p := fun l => sx_iOk prog_12_method_16_code l) (sx_iB_s aJ_164_15) (sx_iB_s aJ_164_16)))) (sx_ite (p := fun l => sx_iOk prog_12_method_16_code l) (sx_ite (p := fun l => sx_iOk prog_12_method_16_code l) (sx_iB_s aJ_164_17) (sx_ite (p := fun l => sx_iOk prog_12_method_16_code l) (sx_iB_s aJ_164_18) (sx_iB_s aJ_164_19))) (sx_ite (p := fun l => sx_iOk prog_12_method_16_code l) (sx_iB_s aJ_164_20) (sx_ite (p := fun l => sx_iOk prog_12_method_16_code l) (sx_iB_s aJ_164_21) (sx_iB_s aJ_164_22))))))
def aW_164 : Nat → Option (Instr × Nat) := fun pc => sx_iF (aS_164 pc) pc
theorem aX_164 : ∀ pc i len, aW_164 pc = some (i, len) → decode aM_164.1.2.1 pc = .ok (i, len) := fun pc i len h => sx_iF_s (aT_164 pc) h
def aI_165_0 : sx_IL := [(0, .aload_n 0, 1), (1, .getfield 43, 3), (4, .getfield 155, 3), (7, .aload_n 0, 1), (8, .getfield 39, 3), (11, .iload_n 1, 1)]
theorem aJ_165_0 : sx_iB prog_12_method_23_code aI_165_0 = true := by decide +kernel
def aI_165_1 : sx_IL := [(12, .aaload, 1), (13, .invokevirtual 218, 3), (16, .aload_n 0, 1), (17, .getfield 43, 3), (20, .getfield 155, 3), (23, .invokevirtual 222, 3)]
theorem aJ_165_1 : sx_iB prog_12_method_23_code aI_165_1 = true := by decide +kernel
def aI_165_2 : sx_IL := [(26, .lreturn, 1)]
theorem aJ_165_2 : sx_iB prog_12_method_23_code aI_165_2 = true := by decide +kernel
def aS_165 (pc : Nat) : sx_IL := (if pc < 12 then aI_165_0 else (if pc < 26 then aI_165_1 else aI_165_2))
theorem aT_165 (pc : Nat) : sx_iOk prog_12_method_23_code (aS_165 pc) := (sx_ite (p := fun l => sx_iOk prog_12_method_23_code l) (sx_iB_s aJ_165_0) (sx_ite (p := fun l => sx_iOk prog_12_method_23_code l) (sx_iB_s aJ_165_1) (sx_iB_s aJ_165_2)))
def aW_165 : Nat → Option (Instr × Nat) := fun pc => sx_iF (aS_165 pc) pc
theorem aX_165 : ∀ pc i len, aW_165 pc = some (i, len) → decode aM_165.1.2.1 pc = .ok (i, len) := fun pc i len h => sx_iF_s (aT_165 pc) h
def aI_166_0 : sx_IL := [(0, .aload_n 0, 1), (1, .getfield 33, 3), (4, .iconst 0, 1), (5, .lload_n 1, 1), (6, .lastore, 1), (7, .aload_n 0, 1)]
theorem aJ_166_0 : sx_iB prog_12_method_27_code aI_166_0 = true := by decide +kernel
def aI_166_1 : sx_IL := [(8, .iload_n 3, 1), (9, .putfield 174, 3), (12, .aload_n 0, 1), (13, .iconst 1, 1), (14, .putfield 165, 3), (17, .aload_n 0, 1)]
theorem aJ_166_1 : sx_iB prog_12_method_27_code aI_166_1 = true := by decide +kernel
def aI_166_2 : sx_IL := [(18, .getfield 29, 3), (21, .bipush 10, 2), (23, .iconst 0, 1), (24, .iastore, 1), (25, .return_, 1)]
theorem aJ_166_2 : sx_iB prog_12_method_27_code aI_166_2 = true := by decide +kernel
def aS_166 (pc : Nat) : sx_IL := (if pc < 8 then aI_166_0 else (if pc < 18 then aI_166_1 else aI_166_2))
theorem aT_166 (pc : Nat) : sx_iOk prog_12_method_27_code (aS_166 pc) := (sx_ite (p := fun l => sx_iOk prog_12_method_27_code l) (sx_iB_s aJ_166_0) (sx_ite (p := fun l => sx_iOk prog_12_method_27_code l) (sx_iB_s aJ_166_1) (sx_iB_s aJ_166_2)))
def aW_166 : Nat → Option (Instr × Nat) := fun pc => sx_iF (aS_166 pc) pc
theorem aX_166 : ∀ pc i len, aW_166 pc = some (i, len) → decode aM_166.1.2.1 pc = .ok (i, len) := fun pc i len h => sx_iF_s (aT_166 pc) h
def aI_167_0 : sx_IL := [(0, .aload_n 0, 1), (1, .iload_n 1, 1), (2, .iload_n 2, 1), (3, .invokevirtual 336, 3), (6, .ifCond .ne 5, 3), (9, .iconst (-1), 1)]
theorem aJ_167_0 : sx_iB prog_1_method_50_code aI_167_0 = true := by decide +kernel
def aI_167_1 : sx_IL := [(10, .ireturn, 1), (11, .aload_n 0, 1), (12, .iload_n 1, 1), (13, .iload_n 2, 1), (14, .invokevirtual 339, 3), (17, .astore_n 3, 1)]
theorem aJ_167_1 : sx_iB prog_1_method_50_code aI_167_1 = true := by decide +kernel
def aI_167_2 : sx_IL := [(18, .aload_n 3, 1), (19, .ifnonnull 6, 3), (22, .bipush (-2), 2), (24, .ireturn, 1), (25, .aload_n 3, 1), (26, .getfield 343, 3)]
theorem aJ_167_2 : sx_iB prog_1_method_50_code aI_167_2 = true := by decide +kernel
def aI_167_3 : sx_IL := [(29, .getfield 69, 3), (32, .sipush 2000, 3), (35, .if_icmp .le 6, 3), (38, .bipush (-3), 2), (40, .ireturn, 1), (41, .aload_n 3, 1)]
theorem aJ_167_3 : sx_iB prog_1_method_50_code aI_167_3 = true := by decide +kernel
def aI_167_4 : sx_IL := [(42, .aload_n 0, 1), (43, .getfield 21, 3), (46, .getfield 80, 3), (49, .iconst 0, 1), (50, .aload_n 0, 1), (51, .getfield 21, 3)]
theorem aJ_167_4 : sx_iB prog_1_method_50_code aI_167_4 = true := by decide +kernel
def aI_167_5 : sx_IL := [(54, .getfield 69, 3), (57, .invokevirtual 346, 3), (60, .aload_n 0, 1), (61, .getfield 21, 3), (64, .invokevirtual 108, 3), (67, .aload_n 3, 1)]
theorem aJ_167_5 : sx_iB prog_1_method_50_code aI_167_5 = true := by decide +kernel
def aI_167_6 : sx_IL := [(68, .getfield 343, 3), (71, .getfield 69, 3), (74, .ireturn, 1)]
theorem aJ_167_6 : sx_iB prog_1_method_50_code aI_167_6 = true := by decide +kernel
def aS_167 (pc : Nat) : sx_IL := (if pc < 29 then (if pc < 10 then aI_167_0 else (if pc < 18 then aI_167_1 else aI_167_2)) else (if pc < 54 then (if pc < 42 then aI_167_3 else aI_167_4) else (if pc < 68 then aI_167_5 else aI_167_6)))
theorem aT_167 (pc : Nat) : sx_iOk prog_1_method_50_code (aS_167 pc) := (sx_ite (p := fun l => sx_iOk prog_1_method_50_code l) (sx_ite (p := fun l => sx_iOk prog_1_method_50_code l) (sx_iB_s aJ_167_0) (sx_ite (p := fun l => sx_iOk prog_1_method_50_code l) (sx_iB_s aJ_167_1) (sx_iB_s aJ_167_2))) (sx_ite (p := fun l => sx_iOk prog_1_method_50_code l) (sx_ite (p := fun l => sx_iOk prog_1_method_50_code l) (sx_iB_s aJ_167_3) (sx_iB_s aJ_167_4)) (sx_ite (p := fun l => sx_iOk prog_1_method_50_code l) (sx_iB_s aJ_167_5) (sx_iB_s aJ_167_6))))
def aW_167 : Nat → Option (Instr × Nat) := fun pc => sx_iF (aS_167 pc) pc
theorem aX_167 : ∀ pc i len, aW_167 pc = some (i, len) → decode aM_167.1.2.1 pc = .ok (i, len) := fun pc i len h => sx_iF_s (aT_167 pc) h
def aI_168_0 : sx_IL := [(0, .iload_n 1, 1), (1, .ifCond .lt 24, 3), (4, .iload_n 1, 1), (5, .aload_n 0, 1), (6, .getfield 322, 3), (9, .if_icmp .ge 16, 3)]
theorem aJ_168_0 : sx_iB prog_1_method_48_code aI_168_0 = true := by decide +kernel
def aI_168_1 : sx_IL := [(12, .iload_n 2, 1), (13, .ifCond .eq 8, 3), (16, .iload_n 2, 1), (17, .iconst 1, 1), (18, .if_icmp .ne 7, 3), (21, .iconst 1, 1)]
theorem aJ_168_1 : sx_iB prog_1_method_48_code aI_168_1 = true := by decide +kernel
def aI_168_2 : sx_IL := [(22, .goto 4, 3), (25, .iconst 0, 1), (26, .ireturn, 1)]
theorem aJ_168_2 : sx_iB prog_1_method_48_code aI_168_2 = true := by decide +kernel
def aS_168 (pc : Nat) : sx_IL := (if pc < 12 then aI_168_0 else (if pc < 22 then aI_168_1 else aI_168_2))
theorem aT_168 (pc : Nat) : sx_iOk prog_1_method_48_code (aS_168 pc) := (sx_ite (p := fun l => sx_iOk prog_1_method_48_code l) (sx_iB_s aJ_168_0) (sx_ite (p := fun l => sx_iOk prog_1_method_48_code l) (sx_iB_s aJ_168_1) (sx_iB_s aJ_168_2)))
def aW_168 : Nat → Option (Instr × Nat) := fun pc => sx_iF (aS_168 pc) pc
theorem aX_168 : ∀ pc i len, aW_168 pc = some (i, len) → decode aM_168.1.2.1 pc = .ok (i, len) := fun pc i len h => sx_iF_s (aT_168 pc) h
def aI_169_0 : sx_IL := [(0, .aload_n 0, 1), (1, .iload_n 1, 1), (2, .iload_n 2, 1), (3, .invokevirtual 336, 3), (6, .ifCond .eq 16, 3), (9, .aload_n 0, 1)]
theorem aJ_169_0 : sx_iB prog_1_method_49_code aI_169_0 = true := by decide +kernel
def aI_169_1 : sx_IL := [(10, .getfield 40, 3), (13, .iconst 2, 1), (14, .iload_n 1, 1), (15, .imul, 1), (16, .iload_n 2, 1), (17, .iadd, 1)]
theorem aJ_169_1 : sx_iB prog_1_method_49_code aI_169_1 = true := by decide +kernel
def aI_169_2 : sx_IL := [(18, .aaload, 1), (19, .goto 4, 3), (22, .aconst_null, 1), (23, .areturn, 1)]
theorem aJ_169_2 : sx_iB prog_1_method_49_code aI_169_2 = true := by decide +kernel
def aS_169 (pc : Nat) : sx_IL := (if pc < 10 then aI_169_0 else (if pc < 18 then aI_169_1 else aI_169_2))
theorem aT_169 (pc : Nat) : sx_iOk prog_1_method_49_code (aS_169 pc) := (sx_ite (p := fun l => sx_iOk prog_1_method_49_code l) (sx_iB_s aJ_169_0) (sx_ite (p := fun l => sx_iOk prog_1_method_49_code l) (sx_iB_s aJ_169_1) (sx_iB_s aJ_169_2)))
def aW_169 : Nat → Option (Instr × Nat) := fun pc => sx_iF (aS_169 pc) pc
theorem aX_169 : ∀ pc i len, aW_169 pc = some (i, len) → decode aM_169.1.2.1 pc = .ok (i, len) := fun pc i len h => sx_iF_s (aT_169 pc) h
def aI_170_0 : sx_IL := [(0, .iload_n 2, 1), (1, .istore 4, 2), (3, .iload 4, 2), (5, .iload_n 3, 1), (6, .if_icmp .ge 400, 3), (9, .aload_n 0, 1)]
theorem aJ_170_0 : sx_iB prog_12_method_9_code aI_170_0 = true := by decide +kernel
def aI_170_1 : sx_IL := [(10, .getfield 29, 3), (13, .iconst 0, 1), (14, .iaload, 1), (15, .iconst 2, 1), (16, .if_icmp .eq 390, 3), (19, .aload_n 0, 1)]
theorem aJ_170_1 : sx_iB prog_12_method_9_code aI_170_1 = true := by decide +kernel
def aI_170_2 : sx_IL := [(20, .getfield 29, 3), (23, .bipush 9, 2), (25, .iaload, 1), (26, .ifCond .ne 380, 3), (29, .iload_n 3, 1), (30, .iload 4, 2)]
theorem aJ_170_2 : sx_iB prog_12_method_9_code aI_170_2 = true := by decide +kernel
def aI_170_3 : sx_IL := [(32, .isub, 1), (33, .aload_n 0, 1), (34, .getfield 20, 3), (37, .getfield 55, 3), (40, .iconst 3, 1), (41, .if_icmp .ge 15, 3)]
theorem aJ_170_3 : sx_iB prog_12_method_9_code aI_170_3 = true := by decide +kernel
def aI_170_4 : sx_IL := [(44, .iconst 3, 1), (45, .aload_n 0, 1), (46, .getfield 20, 3), (49, .getfield 55, 3), (52, .isub, 1), (53, .goto 21, 3)]
theorem aJ_170_4 : sx_iB prog_12_method_9_code aI_170_4 = true := by decide +kernel
def aI_170_5 : sx_IL := [(56, .iconst 3, 1), (57, .aload_n 0, 1), (58, .getfield 20, 3), (61, .iconst 1, 1), (62, .invokevirtual 66, 3), (65, .iadd, 1)]
theorem aJ_170_5 : sx_iB prog_12_method_9_code aI_170_5 = true := by decide +kernel
def aI_170_6 : sx_IL := [(66, .aload_n 0, 1), (67, .getfield 20, 3), (70, .getfield 55, 3), (73, .isub, 1), (74, .invokestatic 69, 3), (77, .istore 5, 2)]
theorem aJ_170_6 : sx_iB prog_12_method_9_code aI_170_6 = true := by decide +kernel
def aI_170_7 : sx_IL := [(79, .aload_n 0, 1), (80, .getfield 20, 3), (83, .aload_n 1, 1), (84, .iload 4, 2), (86, .iload 4, 2), (88, .iload 5, 2)]
theorem aJ_170_7 : sx_iB prog_12_method_9_code aI_170_7 = true := by decide +kernel
def aI_170_8 : sx_IL := [(90, .iadd, 1), (91, .invokevirtual 75, 3), (94, .iload 4, 2), (96, .iload 5, 2), (98, .iconst 1, 1), (99, .invokestatic 79, 3)]
theorem aJ_170_8 : sx_iB prog_12_method_9_code aI_170_8 = true := by decide +kernel
def aI_170_9 : sx_IL := [(102, .iadd, 1), (103, .istore 4, 2), (105, .aload_n 0, 1), (106, .getfield 20, 3), (109, .getfield 55, 3), (112, .iconst 3, 1)]
theorem aJ_170_9 : sx_iB prog_12_method_9_code aI_170_9 = true := by decide +kernel
def aI_170_10 : sx_IL := [(113, .if_icmp .ge 7, 3), (116, .iconst 0, 1), (117, .goto 7, 3), (120, .aload_n 0, 1), (121, .invokevirtual 82, 3), (124, .istore 6, 2)]
theorem aJ_170_10 : sx_iB prog_12_method_9_code aI_170_10 = true := by decide +kernel
def aI_170_11 : sx_IL := [(126, .iload 6, 2), (128, .ifCond .ne 47, 3), (131, .aload_n 0, 1), (132, .getfield 20, 3), (135, .getfield 55, 3), (138, .iconst 3, 1)]
theorem aJ_170_11 : sx_iB prog_12_method_9_code aI_170_11 = true := by decide +kernel
def aI_170_12 : sx_IL := [(139, .if_icmp .lt 36, 3), (142, .aload_n 0, 1), (143, .getfield 20, 3), (146, .getfield 55, 3), (149, .iconst 3, 1), (150, .aload_n 0, 1)]
theorem aJ_170_12 : sx_iB prog_12_method_9_code aI_170_12 = true := by decide +kernel
def aI_170_13 : sx_IL := [(151, .getfield 20, 3), (154, .iconst 1, 1), (155, .invokevirtual 66, 3), (158, .iadd, 1), (159, .if_icmp .ne 16, 3), (162, .aload_n 0, 1)]
theorem aJ_170_13 : sx_iB prog_12_method_9_code aI_170_13 = true := by decide +kernel
def aI_170_14 : sx_IL := [(163, .invokevirtual 86, 3), (166, .istore 6, 2), (168, .aload_n 0, 1), (169, .getfield 20, 3), (172, .invokevirtual 89, 3), (175, .aload_n 0, 1)]
theorem aJ_170_14 : sx_iB prog_12_method_9_code aI_170_14 = true := by decide +kernel
def aI_170_15 : sx_IL := [(176, .invokevirtual 92, 3), (179, .istore 7, 2), (181, .iconst 0, 1), (182, .istore 8, 2), (184, .iload 6, 2), (186, .ifCond .ne 185, 3)]
theorem aJ_170_15 : sx_iB prog_12_method_9_code aI_170_15 = true := by decide +kernel
def aI_170_16 : sx_IL := [(189, .iload 7, 2), (191, .ifCond .le 180, 3), (194, .iload 8, 2), (196, .sipush 1000, 3), (199, .if_icmp .ge 172, 3), (202, .aload_n 0, 1)]
theorem aJ_170_16 : sx_iB prog_12_method_9_code aI_170_16 = true := by decide +kernel
def aI_170_17 : sx_IL := [(203, .getfield 23, 3), (206, .iconst 0, 1), (207, .invokevirtual 59, 3), (210, .istore 9, 2), (212, .aload_n 0, 1), (213, .iload 9, 2)]
theorem aJ_170_17 : sx_iB prog_12_method_9_code aI_170_17 = true := by decide +kernel
def aI_170_18 : sx_IL := [(215, .iload 7, 2), (217, .invokevirtual 95, 3), (220, .istore 6, 2), (222, .iload 6, 2), (224, .ifCond .ne 72, 3), (227, .iload 9, 2)]
theorem aJ_170_18 : sx_iB prog_12_method_9_code aI_170_18 = true := by decide +kernel
def aI_170_19 : sx_IL := [(229, .bipush 11, 2), (231, .if_icmp .ne 65, 3), (234, .aload_n 0, 1), (235, .iload 7, 2), (237, .invokevirtual 98, 3), (240, .istore 6, 2)]
theorem aJ_170_19 : sx_iB prog_12_method_9_code aI_170_19 = true := by decide +kernel
def aI_170_20 : sx_IL := [(242, .iload 6, 2), (244, .ifCond .ne 52, 3), (247, .aload_n 0, 1), (248, .getfield 43, 3), (251, .getfield 101, 3), (254, .ifCond .le 42, 3)]
theorem aJ_170_20 : sx_iB prog_12_method_9_code aI_170_20 = true := by decide +kernel
def aI_170_21 : sx_IL := [(257, .aload_n 0, 1), (258, .aload_n 0, 1), (259, .getfield 43, 3), (262, .aload_n 0, 1), (263, .getfield 47, 3), (266, .aload_n 0, 1)]
theorem aJ_170_21 : sx_iB prog_12_method_9_code aI_170_21 = true := by decide +kernel
def aI_170_22 : sx_IL := [(267, .getfield 43, 3), (270, .getfield 106, 3), (273, .aload_n 0, 1), (274, .getfield 47, 3), (277, .getfield 109, 3), (280, .ifCond .eq 7, 3)]
theorem aJ_170_22 : sx_iB prog_12_method_9_code aI_170_22 = true := by decide +kernel
def aI_170_23 : sx_IL := [(283, .iconst 2, 1), (284, .goto 4, 3), (287, .iconst 1, 1), (288, .invokevirtual 115, 3), (291, .invokevirtual 119, 3), (294, .istore 6, 2)]
theorem aJ_170_23 : sx_iB prog_12_method_9_code aI_170_23 = true := by decide +kernel
def aI_170_24 : sx_IL := [(296, .iload 6, 2), (298, .ifCond .ne 28, 3), (301, .aload_n 0, 1), (302, .getfield 23, 3), (305, .getfield 55, 3), (308, .iload 7, 2)]
theorem aJ_170_24 : sx_iB prog_12_method_9_code aI_170_24 = true := by decide +kernel
def aI_170_25 : sx_IL := [(310, .if_icmp .le 16, 3), (313, .aload_n 0, 1), (314, .iload 9, 2), (316, .invokevirtual 122, 3), (319, .ifCond .eq 7, 3), (322, .bipush 10, 2)]
theorem aJ_170_25 : sx_iB prog_12_method_9_code aI_170_25 = true := by decide +kernel
def aI_170_26 : sx_IL := [(324, .istore 6, 2), (326, .iload 6, 2), (328, .ifCond .ne 37, 3), (331, .aload_n 0, 1), (332, .getfield 29, 3), (335, .bipush 13, 2)]
theorem aJ_170_26 : sx_iB prog_12_method_9_code aI_170_26 = true := by decide +kernel
def aI_170_27 : sx_IL := [(337, .dup2, 1), (338, .iaload, 1), (339, .iconst 1, 1), (340, .iadd, 1), (341, .iastore, 1), (342, .aload_n 0, 1)]
theorem aJ_170_27 : sx_iB prog_12_method_9_code aI_170_27 = true := by decide +kernel
def aI_170_28 : sx_IL := [(343, .iload 9, 2), (345, .iload 7, 2), (347, .invokevirtual 126, 3), (350, .aload_n 0, 1), (351, .getfield 23, 3), (354, .iload 7, 2)]
theorem aJ_170_28 : sx_iB prog_12_method_9_code aI_170_28 = true := by decide +kernel
def aI_170_29 : sx_IL := [(356, .invokevirtual 63, 3), (359, .aload_n 0, 1), (360, .invokevirtual 92, 3), (363, .istore 7, 2), (365, .iinc 8 1, 3), (368, .goto (-184), 3)]
theorem aJ_170_29 : sx_iB prog_12_method_9_code aI_170_29 = true := by decide +kernel
def aI_170_30 : sx_IL := [(371, .iload 6, 2), (373, .ifCond .ne 12, 3), (376, .iload 7, 2), (378, .ifCond .ge 7, 3), (381, .bipush 50, 2), (383, .istore 6, 2)]
theorem aJ_170_30 : sx_iB prog_12_method_9_code aI_170_30 = true := by decide +kernel
def aI_170_31 : sx_IL := [(385, .iload 6, 2), (387, .ifCond .eq 16, 3), (390, .aload_n 0, 1), (391, .iload 6, 2), (393, .invokevirtual 130, 3), (396, .aload_n 0, 1)]
theorem aJ_170_31 : sx_iB prog_12_method_9_code aI_170_31 = true := by decide +kernel
def aI_170_32 : sx_IL := [(397, .getfield 29, 3), (400, .iconst 0, 1), (401, .iconst 2, 1), (402, .iastore, 1), (403, .goto (-400), 3), (406, .return_, 1)]
theorem aJ_170_32 : sx_iB prog_12_method_9_code aI_170_32 = true := by decide +kernel
def aS_170 (pc : Nat) : sx_IL := (if pc < 189 then (if pc < 90 then (if pc < 44 then (if pc < 20 then (if pc < 10 then aI_170_0 else aI_170_1) else (if pc < 32 then aI_170_2 else aI_170_3)) else (if pc < 66 then (if pc < 56 then aI_170_4 else aI_170_5) else (if pc < 79 then aI_170_6 else aI_170_7))) else (if pc < 139 then (if pc < 113 then (if pc < 102 then aI_170_8 else aI_170_9) else (if pc < 126 then aI_170_10 else aI_170_11)) else (if pc < 163 then (if pc < 151 then aI_170_12 else aI_170_13) else (if pc < 176 then aI_170_14 else aI_170_15)))) else (if pc < 296 then (if pc < 242 then (if pc < 215 then (if pc < 203 then aI_170_16 else aI_170_17) else (if pc < 229 then aI_170_18 else aI_170_19)) else (if pc < 267 then (if pc < 257 then aI_170_20 else aI_170_21) else (if pc < 283 then aI_170_22 else aI_170_23))) else (if pc < 343 then (if pc < 324 then (if pc < 310 then aI_170_24 else aI_170_25) else (if pc < 337 then aI_170_26 else aI_170_27)) else (if pc < 371 then (if pc < 356 then aI_170_28 else aI_170_29) else (if pc < 385 then aI_170_30 else (if pc < 397 then aI_170_31 else aI_170_32))))))
theorem aT_170 (pc : Nat) : sx_iOk prog_12_method_9_code (aS_170 pc) := (sx_ite (p := fun l => sx_iOk prog_12_method_9_code l) (sx_ite (p := fun l => sx_iOk prog_12_method_9_code l) (sx_ite (p := fun l => sx_iOk prog_12_method_9_code l) (sx_ite (p := fun l => sx_iOk prog_12_method_9_code l) (sx_ite (p := fun l => sx_iOk prog_12_method_9_code l) (sx_iB_s aJ_170_0) (sx_iB_s aJ_170_1)) (sx_ite (p := fun l => sx_iOk prog_12_method_9_code l) (sx_iB_s aJ_170_2) (sx_iB_s aJ_170_3))) (sx_ite (p := fun l => sx_iOk prog_12_method_9_code l) (sx_ite (p := fun l => sx_iOk prog_12_method_9_code l) (sx_iB_s aJ_170_4) (sx_iB_s aJ_170_5)) (sx_ite (p := fun l => sx_iOk prog_12_method_9_code l) (sx_iB_s aJ_170_6) (sx_iB_s aJ_170_7)))) (sx_ite (p := fun l => sx_iOk prog_12_method_9_code l) (sx_ite (p := fun l => sx_iOk prog_12_method_9_code l) (sx_ite (p := fun l => sx_iOk prog_12_method_9_code l) (sx_iB_s aJ_170_8) (sx_iB_s aJ_170_9)) (sx_ite (p := fun l => sx_iOk prog_12_method_9_code l) (sx_iB_s aJ_170_10) (sx_iB_s aJ_170_11))) (sx_ite (p := fun l => sx_iOk prog_12_method_9_code l) (sx_ite (p := fun l => sx_iOk prog_12_method_9_code l) (sx_iB_s aJ_170_12) (sx_iB_s aJ_170_13)) (sx_ite (p := fun l => sx_iOk prog_12_method_9_code l) (sx_iB_s aJ_170_14) (sx_iB_s aJ_170_15))))) (sx_ite (p := fun l => sx_iOk prog_12_method_9_code l) (sx_ite (p := fun l => sx_iOk prog_12_method_9_code l) (sx_ite (p := fun l => sx_iOk prog_12_method_9_code l) (sx_ite (p := fun l => sx_iOk prog_12_method_9_code l) (sx_iB_s aJ_170_16) (sx_iB_s aJ_170_17)) (sx_ite (p := fun l => sx_iOk prog_12_method_9_code l) (sx_iB_s aJ_170_18) (sx_iB_s aJ_170_19))) (sx_ite (p := fun l => sx_iOk prog_12_method_9_code l) (sx_ite (p := fun l => sx_iOk prog_12_method_9_code l) (sx_iB_s aJ_170_20) (sx_iB_s aJ_170_21)) (sx_ite (p := fun l => sx_iOk prog_12_method_9_code l) (sx_iB_s aJ_170_22) (sx_iB_s aJ_170_23)))) (sx_ite (p := fun l => sx_iOk prog_12_method_9_code l) (sx_ite (p := fun l => sx_iOk prog_12_method_9_code l) (sx_ite (p := fun l => sx_iOk prog_12_method_9_code l) (sx_iB_s aJ_170_24) (sx_iB_s aJ_170_25)) (sx_ite (p := fun l => sx_iOk prog_12_method_9_code l) (sx_iB_s aJ_170_26) (sx_iB_s aJ_170_27))) (sx_ite (p := fun l => sx_iOk prog_12_method_9_code l) (sx_ite (p := fun l => sx_iOk prog_12_method_9_code l) (sx_iB_s aJ_170_28) (sx_iB_s aJ_170_29)) (sx_ite (p := fun l => sx_iOk prog_12_method_9_code l) (sx_iB_s aJ_170_30) (sx_ite (p := fun l => sx_iOk prog_12_method_9_code l) (sx_iB_s aJ_170_31) (sx_iB_s aJ_170_32)))))))
def aW_170 : Nat → Option (Instr × Nat) := fun pc => sx_iF (aS_170 pc) pc
theorem aX_170 : ∀ pc i len, aW_170 pc = some (i, len) → decode aM_170.1.2.1 pc = .ok (i, len) := fun pc i len h => sx_iF_s (aT_170 pc) h
def aI_171_0 : sx_IL := [(0, .aload_n 0, 1), (1, .iload_n 1, 1), (2, .invokevirtual 23, 3), (5, .bipush 8, 2), (7, .ishl, 1), (8, .aload_n 0, 1)]
theorem aJ_171_0 : sx_iB prog_9_method_4_code aI_171_0 = true := by decide +kernel
def aI_171_1 : sx_IL := [(9, .iload_n 1, 1), (10, .iconst 1, 1), (11, .iadd, 1), (12, .invokevirtual 23, 3), (15, .ior, 1), (16, .ireturn, 1)]
theorem aJ_171_1 : sx_iB prog_9_method_4_code aI_171_1 = true := by decide +kernel
def aS_171 (pc : Nat) : sx_IL := (if pc < 9 then aI_171_0 else aI_171_1)
theorem aT_171 (pc : Nat) : sx_iOk prog_9_method_4_code (aS_171 pc) := (sx_ite (p := fun l => sx_iOk prog_9_method_4_code l) (sx_iB_s aJ_171_0) (sx_iB_s aJ_171_1))
def aW_171 : Nat → Option (Instr × Nat) := fun pc => sx_iF (aS_171 pc) pc
theorem aX_171 : ∀ pc i len, aW_171 pc = some (i, len) → decode aM_171.1.2.1 pc = .ok (i, len) := fun pc i len h => sx_iF_s (aT_171 pc) h
def aI_172_0 : sx_IL := [(0, .aload_n 0, 1), (1, .getfield 20, 3), (4, .iconst 0, 1), (5, .invokevirtual 59, 3), (8, .istore_n 1, 1), (9, .iload_n 1, 1)]
theorem aJ_172_0 : sx_iB prog_12_method_11_code aI_172_0 = true := by decide +kernel
def aI_172_1 : sx_IL := [(10, .bipush 21, 2), (12, .if_icmp .lt 9, 3), (15, .iload_n 1, 1), (16, .bipush 23, 2), (18, .if_icmp .le 8, 3), (21, .bipush 10, 2)]
theorem aJ_172_1 : sx_iB prog_12_method_11_code aI_172_1 = true := by decide +kernel
def aI_172_2 : sx_IL := [(23, .goto 23, 3), (26, .aload_n 0, 1), (27, .getfield 20, 3), (30, .iconst 1, 1), (31, .invokevirtual 66, 3), (34, .sipush 300, 3)]
theorem aJ_172_2 : sx_iB prog_12_method_11_code aI_172_2 = true := by decide +kernel
def aI_172_3 : sx_IL := [(37, .if_icmp .le 8, 3), (40, .bipush 22, 2), (42, .goto 4, 3), (45, .iconst 0, 1), (46, .ireturn, 1)]
theorem aJ_172_3 : sx_iB prog_12_method_11_code aI_172_3 = true := by decide +kernel
def aS_172 (pc : Nat) : sx_IL := (if pc < 23 then (if pc < 10 then aI_172_0 else aI_172_1) else (if pc < 37 then aI_172_2 else aI_172_3))
theorem aT_172 (pc : Nat) : sx_iOk prog_12_method_11_code (aS_172 pc) := (sx_ite (p := fun l => sx_iOk prog_12_method_11_code l) (sx_ite (p := fun l => sx_iOk prog_12_method_11_code l) (sx_iB_s aJ_172_0) (sx_iB_s aJ_172_1)) (sx_ite (p := fun l => sx_iOk prog_12_method_11_code l) (sx_iB_s aJ_172_2) (sx_iB_s aJ_172_3)))
def aW_172 : Nat → Option (Instr × Nat) := fun pc => sx_iF (aS_172 pc) pc
theorem aX_172 : ∀ pc i len, aW_172 pc = some (i, len) → decode aM_172.1.2.1 pc = .ok (i, len) := fun pc i len h => sx_iF_s (aT_172 pc) h
def aI_173_0 : sx_IL := [(0, .aload_n 0, 1), (1, .getfield 20, 3), (4, .iconst 0, 1), (5, .invokevirtual 59, 3), (8, .istore_n 1, 1), (9, .aload_n 0, 1)]
theorem aJ_173_0 : sx_iB prog_12_method_12_code aI_173_0 = true := by decide +kernel
def aI_173_1 : sx_IL := [(10, .getfield 20, 3), (13, .getfield 55, 3), (16, .iconst 3, 1), (17, .isub, 1), (18, .istore_n 2, 1), (19, .aload_n 0, 1)]
theorem aJ_173_1 : sx_iB prog_12_method_12_code aI_173_1 = true := by decide +kernel
def aI_173_2 : sx_IL := [(20, .getfield 133, 3), (23, .ifCond .eq 22, 3), (26, .aload_n 0, 1), (27, .getfield 29, 3), (30, .bipush 14, 2), (32, .iaload, 1)]
theorem aJ_173_2 : sx_iB prog_12_method_12_code aI_173_2 = true := by decide +kernel
def aI_173_3 : sx_IL := [(33, .iload_n 2, 1), (34, .iadd, 1), (35, .sipush 600, 3), (38, .if_icmp .gt 7, 3), (41, .iconst 1, 1), (42, .goto 4, 3)]
theorem aJ_173_3 : sx_iB prog_12_method_12_code aI_173_3 = true := by decide +kernel
def aI_173_4 : sx_IL := [(45, .iconst 0, 1), (46, .istore_n 3, 1), (47, .iload_n 1, 1), (48, .bipush 23, 2), (50, .if_icmp .ne 17, 3), (53, .aload_n 0, 1)]
theorem aJ_173_4 : sx_iB prog_12_method_12_code aI_173_4 = true := by decide +kernel
def aI_173_5 : sx_IL := [(54, .getfield 136, 3), (57, .ifCond .ne 20, 3), (60, .iload_n 3, 1), (61, .ifCond .ne 16, 3), (64, .goto 10, 3), (67, .aload_n 0, 1)]
theorem aJ_173_5 : sx_iB prog_12_method_12_code aI_173_5 = true := by decide +kernel
def aI_173_6 : sx_IL := [(68, .getfield 136, 3), (71, .ifCond .eq 6, 3), (74, .bipush 10, 2), (76, .ireturn, 1), (77, .iload_n 2, 1), (78, .ifCond .eq 14, 3)]
theorem aJ_173_6 : sx_iB prog_12_method_12_code aI_173_6 = true := by decide +kernel
def aI_173_7 : sx_IL := [(81, .iload_n 1, 1), (82, .bipush 21, 2), (84, .if_icmp .ne 11, 3), (87, .iload_n 2, 1), (88, .iconst 1, 1), (89, .if_icmp .eq 6, 3)]
theorem aJ_173_7 : sx_iB prog_12_method_12_code aI_173_7 = true := by decide +kernel
def aI_173_8 : sx_IL := [(92, .bipush 50, 2), (94, .ireturn, 1), (95, .iload_n 1, 1), (96, .istore 4, 2), (98, .aload_n 0, 1), (99, .getfield 20, 3)]
theorem aJ_173_8 : sx_iB prog_12_method_12_code aI_173_8 = true := by decide +kernel
def aI_173_9 : sx_IL := [(102, .getfield 55, 3), (105, .istore 5, 2), (107, .iload_n 1, 1), (108, .bipush 23, 2), (110, .if_icmp .ne 85, 3), (113, .aload_n 0, 1)]
theorem aJ_173_9 : sx_iB prog_12_method_12_code aI_173_9 = true := by decide +kernel
def aI_173_10 : sx_IL := [(114, .getfield 136, 3), (117, .ifCond .eq 10, 3), (120, .aload_n 0, 1), (121, .invokevirtual 139, 3), (124, .ifCond .ne 33, 3), (127, .aload_n 0, 1)]
theorem aJ_173_10 : sx_iB prog_12_method_12_code aI_173_10 = true := by decide +kernel
def aI_173_11 : sx_IL := [(128, .getfield 29, 3), (131, .bipush 14, 2), (133, .dup2, 1), (134, .iaload, 1), (135, .iload_n 3, 1), (136, .ifCond .eq 7, 3)]
theorem aJ_173_11 : sx_iB prog_12_method_12_code aI_173_11 = true := by decide +kernel
def aI_173_12 : sx_IL := [(139, .iload_n 2, 1), (140, .goto 4, 3), (143, .iconst 0, 1), (144, .iadd, 1), (145, .iastore, 1), (146, .iload_n 3, 1)]
theorem aJ_173_12 : sx_iB prog_12_method_12_code aI_173_12 = true := by decide +kernel
def aI_173_13 : sx_IL := [(147, .ifCond .eq 7, 3), (150, .iconst 0, 1), (151, .goto 5, 3), (154, .bipush 20, 2), (156, .ireturn, 1), (157, .aload_n 0, 1)]
theorem aJ_173_13 : sx_iB prog_12_method_12_code aI_173_13 = true := by decide +kernel
def aI_173_14 : sx_IL := [(158, .iconst 0, 1), (159, .putfield 133, 3), (162, .aload_n 0, 1), (163, .getfield 29, 3), (166, .bipush 11, 2), (168, .dup2, 1)]
theorem aJ_173_14 : sx_iB prog_12_method_12_code aI_173_14 = true := by decide +kernel
def aI_173_15 : sx_IL := [(169, .iaload, 1), (170, .iconst 1, 1), (171, .iadd, 1), (172, .iastore, 1), (173, .aload_n 0, 1), (174, .getfield 20, 3)]
theorem aJ_173_15 : sx_iB prog_12_method_12_code aI_173_15 = true := by decide +kernel
def aI_173_16 : sx_IL := [(177, .getfield 55, 3), (180, .iconst 1, 1), (181, .isub, 1), (182, .istore 5, 2), (184, .aload_n 0, 1), (185, .getfield 20, 3)]
theorem aJ_173_16 : sx_iB prog_12_method_12_code aI_173_16 = true := by decide +kernel
def aI_173_17 : sx_IL := [(188, .iload 5, 2), (190, .invokevirtual 59, 3), (193, .istore 4, 2), (195, .iload 4, 2), (197, .bipush 22, 2), (199, .if_icmp .ne 33, 3)]
theorem aJ_173_17 : sx_iB prog_12_method_12_code aI_173_17 = true := by decide +kernel
def aI_173_18 : sx_IL := [(202, .aload_n 0, 1), (203, .getfield 23, 3), (206, .aload_n 0, 1), (207, .getfield 20, 3), (210, .getfield 143, 3), (213, .iconst 3, 1)]
theorem aJ_173_18 : sx_iB prog_12_method_12_code aI_173_18 = true := by decide +kernel
def aI_173_19 : sx_IL := [(214, .iload 5, 2), (216, .invokevirtual 75, 3), (219, .iload 5, 2), (221, .iconst 3, 1), (222, .if_icmp .le 7, 3), (225, .iconst 0, 1)]
theorem aJ_173_19 : sx_iB prog_12_method_12_code aI_173_19 = true := by decide +kernel
def aI_173_20 : sx_IL := [(226, .goto 5, 3), (229, .bipush 50, 2), (231, .ireturn, 1), (232, .iload 4, 2), (234, .bipush 23, 2), (236, .if_icmp .ne 10, 3)]
theorem aJ_173_20 : sx_iB prog_12_method_12_code aI_173_20 = true := by decide +kernel
def aI_173_21 : sx_IL := [(239, .aload_n 0, 1), (240, .iload 5, 2), (242, .invokevirtual 146, 3), (245, .ireturn, 1), (246, .iload 4, 2), (248, .bipush 21, 2)]
theorem aJ_173_21 : sx_iB prog_12_method_12_code aI_173_21 = true := by decide +kernel
def aI_173_22 : sx_IL := [(250, .if_icmp .ne 12, 3), (253, .aload_n 0, 1), (254, .iload 5, 2), (256, .invokevirtual 149, 3), (259, .goto 5, 3), (262, .bipush 10, 2)]
theorem aJ_173_22 : sx_iB prog_12_method_12_code aI_173_22 = true := by decide +kernel
def aI_173_23 : sx_IL := [(264, .ireturn, 1)]
theorem aJ_173_23 : sx_iB prog_12_method_12_code aI_173_23 = true := by decide +kernel
def aS_173 (pc : Nat) : sx_IL := (if pc < 139 then (if pc < 68 then (if pc < 33 then (if pc < 10 then aI_173_0 else (if pc < 20 then aI_173_1 else aI_173_2)) else (if pc < 45 then aI_173_3 else (if pc < 54 then aI_173_4 else aI_173_5))) else (if pc < 102 then (if pc < 81 then aI_173_6 else (if pc < 92 then aI_173_7 else aI_173_8)) else (if pc < 114 then aI_173_9 else (if pc < 128 then aI_173_10 else aI_173_11)))) else (if pc < 202 then (if pc < 169 then (if pc < 147 then aI_173_12 else (if pc < 158 then aI_173_13 else aI_173_14)) else (if pc < 177 then aI_173_15 else (if pc < 188 then aI_173_16 else aI_173_17))) else (if pc < 239 then (if pc < 214 then aI_173_18 else (if pc < 226 then aI_173_19 else aI_173_20)) else (if pc < 250 then aI_173_21 else (if pc < 264 then aI_173_22 else aI_173_23)))))
theorem aT_173 (pc : Nat) : sx_iOk prog_12_method_12_code (aS_173 pc) := (sx_ite (p := fun l => sx_iOk prog_12_method_12_code l) (sx_ite (p := fun l => sx_iOk prog_12_method_12_code l) (sx_ite (p := fun l => sx_iOk prog_12_method_12_code l) (sx_ite (p := fun l => sx_iOk prog_12_method_12_code l) (sx_iB_s aJ_173_0) (sx_ite (p := fun l => sx_iOk prog_12_method_12_code l) (sx_iB_s aJ_173_1) (sx_iB_s aJ_173_2))) (sx_ite (p := fun l => sx_iOk prog_12_method_12_code l) (sx_iB_s aJ_173_3) (sx_ite (p := fun l => sx_iOk prog_12_method_12_code l) (sx_iB_s aJ_173_4) (sx_iB_s aJ_173_5)))) (sx_ite (p := fun l => sx_iOk prog_12_method_12_code l) (sx_ite (p := fun l => sx_iOk prog_12_method_12_code l) (sx_iB_s aJ_173_6) (sx_ite (p := fun l => sx_iOk prog_12_method_12_code l) (sx_iB_s aJ_173_7) (sx_iB_s aJ_173_8))) (sx_ite (p := fun l => sx_iOk prog_12_method_12_code l) (sx_iB_s aJ_173_9) (sx_ite (p := fun l => sx_iOk prog_12_method_12_code l) (sx_iB_s aJ_173_10) (sx_iB_s aJ_173_11))))) (sx_ite (p := fun l => sx_iOk prog_12_method_12_code l) (sx_ite (p := fun l => sx_iOk prog_12_method_12_code l) (sx_ite (p := fun l => sx_iOk prog_12_method_12_code l) (sx_iB_s aJ_173_12) (sx_ite (p := fun l => sx_iOk prog_12_method_12_code l) (sx_iB_s aJ_173_13) (sx_iB_s aJ_173_14))) (sx_ite (p := fun l => sx_iOk prog_12_method_12_code l) (sx_iB_s aJ_173_15) (sx_ite (p := fun l => sx_iOk prog_12_method_12_code l) (sx_iB_s aJ_173_16) (sx_iB_s aJ_173_17)))) (sx_ite (p := fun l => sx_iOk prog_12_method_12_code l) (sx_ite (p := fun l => sx_iOk prog_12_method_12_code l) (sx_iB_s aJ_173_18) (sx_ite (p := fun l => sx_iOk prog_12_method_12_code l) (sx_iB_s aJ_173_19) (sx_iB_s aJ_173_20))) (sx_ite (p := fun l => sx_iOk prog_12_method_12_code l) (sx_iB_s aJ_173_21) (sx_ite (p := fun l => sx_iOk prog_12_method_12_code l) (sx_iB_s aJ_173_22) (sx_iB_s aJ_173_23))))))
def aW_173 : Nat → Option (Instr × Nat) := fun pc => sx_iF (aS_173 pc) pc
theorem aX_173 : ∀ pc i len, aW_173 pc = some (i, len) → decode aM_173.1.2.1 pc = .ok (i, len) := fun pc i len h => sx_iF_s (aT_173 pc) h
def aI_174_0 : sx_IL := [(0, .aload_n 0, 1), (1, .getfield 29, 3), (4, .iconst 1, 1), (5, .iaload, 1), (6, .istore_n 1, 1), (7, .aload_n 0, 1)]
theorem aJ_174_0 : sx_iB prog_12_method_13_code aI_174_0 = true := by decide +kernel
def aI_174_1 : sx_IL := [(8, .getfield 20, 3), (11, .getfield 55, 3), (14, .iconst 3, 1), (15, .isub, 1), (16, .iload_n 1, 1), (17, .invokestatic 152, 3)]
theorem aJ_174_1 : sx_iB prog_12_method_13_code aI_174_1 = true := by decide +kernel
def aI_174_2 : sx_IL := [(20, .if_icmp .le 40, 3), (23, .aload_n 0, 1), (24, .getfield 43, 3), (27, .getfield 155, 3), (30, .iload_n 1, 1), (31, .aload_n 0, 1)]
theorem aJ_174_2 : sx_iB prog_12_method_13_code aI_174_2 = true := by decide +kernel
def aI_174_3 : sx_IL := [(32, .getfield 33, 3), (35, .iconst 1, 1), (36, .laload, 1), (37, .aload_n 0, 1), (38, .getfield 29, 3), (41, .bipush 11, 2)]
theorem aJ_174_3 : sx_iB prog_12_method_13_code aI_174_3 = true := by decide +kernel
def aI_174_4 : sx_IL := [(43, .iaload, 1), (44, .i2l, 1), (45, .aload_n 0, 1), (46, .getfield 20, 3), (49, .iconst 3, 1), (50, .invokevirtual 159, 3)]
theorem aJ_174_4 : sx_iB prog_12_method_13_code aI_174_4 = true := by decide +kernel
def aI_174_5 : sx_IL := [(53, .ifCond .eq 7, 3), (56, .iconst 1, 1), (57, .goto 4, 3), (60, .iconst 0, 1), (61, .ireturn, 1)]
theorem aJ_174_5 : sx_iB prog_12_method_13_code aI_174_5 = true := by decide +kernel
def aS_174 (pc : Nat) : sx_IL := (if pc < 32 then (if pc < 8 then aI_174_0 else (if pc < 20 then aI_174_1 else aI_174_2)) else (if pc < 43 then aI_174_3 else (if pc < 53 then aI_174_4 else aI_174_5)))
theorem aT_174 (pc : Nat) : sx_iOk prog_12_method_13_code (aS_174 pc) := (sx_ite (p := fun l => sx_iOk prog_12_method_13_code l) (sx_ite (p := fun l => sx_iOk prog_12_method_13_code l) (sx_iB_s aJ_174_0) (sx_ite (p := fun l => sx_iOk prog_12_method_13_code l) (sx_iB_s aJ_174_1) (sx_iB_s aJ_174_2))) (sx_ite (p := fun l => sx_iOk prog_12_method_13_code l) (sx_iB_s aJ_174_3) (sx_ite (p := fun l => sx_iOk prog_12_method_13_code l) (sx_iB_s aJ_174_4) (sx_iB_s aJ_174_5))))
def aW_174 : Nat → Option (Instr × Nat) := fun pc => sx_iF (aS_174 pc) pc
theorem aX_174 : ∀ pc i len, aW_174 pc = some (i, len) → decode aM_174.1.2.1 pc = .ok (i, len) := fun pc i len h => sx_iF_s (aT_174 pc) h
def aI_175_0 : sx_IL := [(0, .aload_n 0, 1), (1, .iload_n 1, 1), (2, .iconst 3, 1), (3, .isub, 1), (4, .invokevirtual 162, 3), (7, .ifCond .ne 6, 3)]
theorem aJ_175_0 : sx_iB prog_12_method_14_code aI_175_0 = true := by decide +kernel
def aI_175_1 : sx_IL := [(10, .bipush 10, 2), (12, .ireturn, 1), (13, .aload_n 0, 1), (14, .getfield 26, 3), (17, .aload_n 0, 1), (18, .getfield 20, 3)]
theorem aJ_175_1 : sx_iB prog_12_method_14_code aI_175_1 = true := by decide +kernel
def aI_175_2 : sx_IL := [(21, .getfield 143, 3), (24, .iconst 3, 1), (25, .iload_n 1, 1), (26, .sipush 2003, 3), (29, .aload_n 0, 1), (30, .getfield 26, 3)]
theorem aJ_175_2 : sx_iB prog_12_method_14_code aI_175_2 = true := by decide +kernel
def aI_175_3 : sx_IL := [(33, .getfield 55, 3), (36, .isub, 1), (37, .invokestatic 69, 3), (40, .invokevirtual 75, 3), (43, .iconst 0, 1), (44, .ireturn, 1)]
theorem aJ_175_3 : sx_iB prog_12_method_14_code aI_175_3 = true := by decide +kernel
def aS_175 (pc : Nat) : sx_IL := (if pc < 21 then (if pc < 10 then aI_175_0 else aI_175_1) else (if pc < 33 then aI_175_2 else aI_175_3))
theorem aT_175 (pc : Nat) : sx_iOk prog_12_method_14_code (aS_175 pc) := (sx_ite (p := fun l => sx_iOk prog_12_method_14_code l) (sx_ite (p := fun l => sx_iOk prog_12_method_14_code l) (sx_iB_s aJ_175_0) (sx_iB_s aJ_175_1)) (sx_ite (p := fun l => sx_iOk prog_12_method_14_code l) (sx_iB_s aJ_175_2) (sx_iB_s aJ_175_3)))
def aW_175 : Nat → Option (Instr × Nat) := fun pc => sx_iF (aS_175 pc) pc
theorem aX_175 : ∀ pc i len, aW_175 pc = some (i, len) → decode aM_175.1.2.1 pc = .ok (i, len) := fun pc i len h => sx_iF_s (aT_175 pc) h
def aI_176_0 : sx_IL := [(0, .aload_n 0, 1), (1, .getfield 208, 3), (4, .bipush 6, 2), (6, .if_icmp .ne 7, 3), (9, .iconst 1, 1), (10, .goto 4, 3)]
theorem aJ_176_0 : sx_iB prog_2_method_10_code aI_176_0 = true := by decide +kernel
def aI_176_1 : sx_IL := [(13, .iconst 0, 1), (14, .ireturn, 1)]
theorem aJ_176_1 : sx_iB prog_2_method_10_code aI_176_1 = true := by decide +kernel
def aS_176 (pc : Nat) : sx_IL := (if pc < 13 then aI_176_0 else aI_176_1)
theorem aT_176 (pc : Nat) : sx_iOk prog_2_method_10_code (aS_176 pc) := (sx_ite (p := fun l => sx_iOk prog_2_method_10_code l) (sx_iB_s aJ_176_0) (sx_iB_s aJ_176_1))
def aW_176 : Nat → Option (Instr × Nat) := fun pc => sx_iF (aS_176 pc) pc
theorem aX_176 : ∀ pc i len, aW_176 pc = some (i, len) → decode aM_176.1.2.1 pc = .ok (i, len) := fun pc i len h => sx_iF_s (aT_176 pc) h
def aI_177_0 : sx_IL := [(0, .aload_n 0, 1), (1, .getfield 7, 3), (4, .iconst 1, 1), (5, .if_icmp .eq 17, 3), (8, .aload_n 0, 1), (9, .getfield 7, 3)]
theorem aJ_177_0 : sx_iB prog_10_method_5_code aI_177_0 = true := by decide +kernel
def aI_177_1 : sx_IL := [(12, .iconst 5, 1), (13, .if_icmp .ne 7, 3), (16, .iconst 1, 1), (17, .goto 4, 3), (20, .iconst 0, 1), (21, .ireturn, 1)]
theorem aJ_177_1 : sx_iB prog_10_method_5_code aI_177_1 = true := by decide +kernel
def aI_177_2 : sx_IL := [(22, .aload_n 0, 1), (23, .getfield 40, 3), (26, .iload_n 1, 1), (27, .iadd, 1), (28, .aload_n 0, 1), (29, .getfield 43, 3)]
theorem aJ_177_2 : sx_iB prog_10_method_5_code aI_177_2 = true := by decide +kernel
def aI_177_3 : sx_IL := [(32, .getfield 47, 3), (35, .iconst 4, 1), (36, .iaload, 1), (37, .if_icmp .le 5, 3), (40, .iconst 0, 1), (41, .ireturn, 1)]
theorem aJ_177_3 : sx_iB prog_10_method_5_code aI_177_3 = true := by decide +kernel
def aI_177_4 : sx_IL := [(42, .aload_n 0, 1), (43, .dup, 1), (44, .getfield 40, 3), (47, .iload_n 1, 1), (48, .iadd, 1), (49, .putfield 40, 3)]
theorem aJ_177_4 : sx_iB prog_10_method_5_code aI_177_4 = true := by decide +kernel
def aI_177_5 : sx_IL := [(52, .iconst 1, 1), (53, .ireturn, 1)]
theorem aJ_177_5 : sx_iB prog_10_method_5_code aI_177_5 = true := by decide +kernel
def aS_177 (pc : Nat) : sx_IL := (if pc < 32 then (if pc < 12 then aI_177_0 else (if pc < 22 then aI_177_1 else aI_177_2)) else (if pc < 42 then aI_177_3 else (if pc < 52 then aI_177_4 else aI_177_5)))
theorem aT_177 (pc : Nat) : sx_iOk prog_10_method_5_code (aS_177 pc) := (sx_ite (p := fun l => sx_iOk prog_10_method_5_code l) (sx_ite (p := fun l => sx_iOk prog_10_method_5_code l) (sx_iB_s aJ_177_0) (sx_ite (p := fun l => sx_iOk prog_10_method_5_code l) (sx_iB_s aJ_177_1) (sx_iB_s aJ_177_2))) (sx_ite (p := fun l => sx_iOk prog_10_method_5_code l) (sx_iB_s aJ_177_3) (sx_ite (p := fun l => sx_iOk prog_10_method_5_code l) (sx_iB_s aJ_177_4) (sx_iB_s aJ_177_5))))
def aW_177 : Nat → Option (Instr × Nat) := fun pc => sx_iF (aS_177 pc) pc
theorem aX_177 : ∀ pc i len, aW_177 pc = some (i, len) → decode aM_177.1.2.1 pc = .ok (i, len) := fun pc i len h => sx_iF_s (aT_177 pc) h
def aI_178_0 : sx_IL := [(0, .iload_n 1, 1), (1, .iconst 4, 1), (2, .if_icmp .eq 6, 3), (5, .bipush 50, 2), (7, .ireturn, 1), (8, .aload_n 0, 1)]
theorem aJ_178_0 : sx_iB prog_12_method_15_code aI_178_0 = true := by decide +kernel
def aI_178_1 : sx_IL := [(9, .getfield 29, 3), (12, .bipush 7, 2), (14, .aload_n 0, 1), (15, .getfield 20, 3), (18, .iconst 3, 1), (19, .invokevirtual 59, 3)]
theorem aJ_178_1 : sx_iB prog_12_method_15_code aI_178_1 = true := by decide +kernel
def aI_178_2 : sx_IL := [(22, .iastore, 1), (23, .aload_n 0, 1), (24, .getfield 29, 3), (27, .bipush 7, 2), (29, .iaload, 1), (30, .ifCond .ne 14, 3)]
theorem aJ_178_2 : sx_iB prog_12_method_15_code aI_178_2 = true := by decide +kernel
def aI_178_3 : sx_IL := [(33, .aload_n 0, 1), (34, .getfield 29, 3), (37, .bipush 9, 2), (39, .iconst 1, 1), (40, .iastore, 1), (41, .goto 10, 3)]
theorem aJ_178_3 : sx_iB prog_12_method_15_code aI_178_3 = true := by decide +kernel
def aI_178_4 : sx_IL := [(44, .aload_n 0, 1), (45, .getfield 29, 3), (48, .iconst 0, 1), (49, .iconst 2, 1), (50, .iastore, 1), (51, .iconst 0, 1)]
theorem aJ_178_4 : sx_iB prog_12_method_15_code aI_178_4 = true := by decide +kernel
def aI_178_5 : sx_IL := [(52, .ireturn, 1)]
theorem aJ_178_5 : sx_iB prog_12_method_15_code aI_178_5 = true := by decide +kernel
def aS_178 (pc : Nat) : sx_IL := (if pc < 33 then (if pc < 9 then aI_178_0 else (if pc < 22 then aI_178_1 else aI_178_2)) else (if pc < 44 then aI_178_3 else (if pc < 52 then aI_178_4 else aI_178_5)))
theorem aT_178 (pc : Nat) : sx_iOk prog_12_method_15_code (aS_178 pc) := (sx_ite (p := fun l => sx_iOk prog_12_method_15_code l) (sx_ite (p := fun l => sx_iOk prog_12_method_15_code l) (sx_iB_s aJ_178_0) (sx_ite (p := fun l => sx_iOk prog_12_method_15_code l) (sx_iB_s aJ_178_1) (sx_iB_s aJ_178_2))) (sx_ite (p := fun l => sx_iOk prog_12_method_15_code l) (sx_iB_s aJ_178_3) (sx_ite (p := fun l => sx_iOk prog_12_method_15_code l) (sx_iB_s aJ_178_4) (sx_iB_s aJ_178_5))))
def aW_178 : Nat → Option (Instr × Nat) := fun pc => sx_iF (aS_178 pc) pc
theorem aX_178 : ∀ pc i len, aW_178 pc = some (i, len) → decode aM_178.1.2.1 pc = .ok (i, len) := fun pc i len h => sx_iF_s (aT_178 pc) h
def aI_179_0 : sx_IL := [(0, .aload_n 0, 1), (1, .getfield 23, 3), (4, .iconst 1, 1), (5, .invokevirtual 66, 3), (8, .istore_n 1, 1), (9, .aload_n 0, 1)]
theorem aJ_179_0 : sx_iB prog_12_method_10_code aI_179_0 = true := by decide +kernel
def aI_179_1 : sx_IL := [(10, .getfield 23, 3), (13, .getfield 55, 3), (16, .iconst 3, 1), (17, .if_icmp .ge 5, 3), (20, .iconst 0, 1), (21, .ireturn, 1)]
theorem aJ_179_1 : sx_iB prog_12_method_10_code aI_179_1 = true := by decide +kernel
def aI_179_2 : sx_IL := [(22, .iload_n 1, 1), (23, .sipush 2500, 3), (26, .if_icmp .le 7, 3), (29, .iconst (-1), 1), (30, .goto 23, 3), (33, .aload_n 0, 1)]
theorem aJ_179_2 : sx_iB prog_12_method_10_code aI_179_2 = true := by decide +kernel
def aI_179_3 : sx_IL := [(34, .getfield 23, 3), (37, .getfield 55, 3), (40, .iconst 3, 1), (41, .iload_n 1, 1), (42, .iadd, 1), (43, .if_icmp .ge 7, 3)]
theorem aJ_179_3 : sx_iB prog_12_method_10_code aI_179_3 = true := by decide +kernel
def aI_179_4 : sx_IL := [(46, .iconst 0, 1), (47, .goto 6, 3), (50, .iconst 3, 1), (51, .iload_n 1, 1), (52, .iadd, 1), (53, .ireturn, 1)]
theorem aJ_179_4 : sx_iB prog_12_method_10_code aI_179_4 = true := by decide +kernel
def aS_179 (pc : Nat) : sx_IL := (if pc < 22 then (if pc < 10 then aI_179_0 else aI_179_1) else (if pc < 34 then aI_179_2 else (if pc < 46 then aI_179_3 else aI_179_4)))
theorem aT_179 (pc : Nat) : sx_iOk prog_12_method_10_code (aS_179 pc) := (sx_ite (p := fun l => sx_iOk prog_12_method_10_code l) (sx_ite (p := fun l => sx_iOk prog_12_method_10_code l) (sx_iB_s aJ_179_0) (sx_iB_s aJ_179_1)) (sx_ite (p := fun l => sx_iOk prog_12_method_10_code l) (sx_iB_s aJ_179_2) (sx_ite (p := fun l => sx_iOk prog_12_method_10_code l) (sx_iB_s aJ_179_3) (sx_iB_s aJ_179_4))))
def aW_179 : Nat → Option (Instr × Nat) := fun pc => sx_iF (aS_179 pc) pc
theorem aX_179 : ∀ pc i len, aW_179 pc = some (i, len) → decode aM_179.1.2.1 pc = .ok (i, len) := fun pc i len h => sx_iF_s (aT_179 pc) h
def aI_180_0 : sx_IL := [(0, .aload_n 0, 1), (1, .iload_n 1, 1), (2, .invokevirtual 214, 3), (5, .ifCond .ne 6, 3), (8, .bipush 10, 2), (10, .ireturn, 1)]
theorem aJ_180_0 : sx_iB prog_2_method_8_code aI_180_0 = true := by decide +kernel
def aI_180_1 : sx_IL := [(11, .iload_n 1, 1), (12, .tableswitch 169 2 24 #[108, 169, 150, 169, 114, 169, 120, 169, 169, 169, 169, 126, 169, 132, 169, 169, 169, 169, 140, 169, 169, 169, 163], 108), (120, .aload_n 0, 1), (121, .iload_n 2, 1), (122, .invokevirtual 217, 3), (125, .ireturn, 1)]
theorem aJ_180_1 : sx_iB prog_2_method_8_code aI_180_1 = true := by decide +kernel
def aI_180_2 : sx_IL := [(126, .aload_n 0, 1), (127, .iload_n 2, 1), (128, .invokevirtual 221, 3), (131, .ireturn, 1), (132, .aload_n 0, 1), (133, .iload_n 2, 1)]
theorem aJ_180_2 : sx_iB prog_2_method_8_code aI_180_2 = true := by decide +kernel
def aI_180_3 : sx_IL := [(134, .invokevirtual 224, 3), (137, .ireturn, 1), (138, .aload_n 0, 1), (139, .iload_n 2, 1), (140, .invokevirtual 227, 3), (143, .ireturn, 1)]
theorem aJ_180_3 : sx_iB prog_2_method_8_code aI_180_3 = true := by decide +kernel
def aI_180_4 : sx_IL := [(144, .aload_n 0, 1), (145, .iload_n 2, 1), (146, .bipush 83, 2), (148, .invokevirtual 230, 3), (151, .ireturn, 1), (152, .aload_n 0, 1)]
theorem aJ_180_4 : sx_iB prog_2_method_8_code aI_180_4 = true := by decide +kernel
def aI_180_5 : sx_IL := [(153, .iload_n 2, 1), (154, .aload_n 0, 1), (155, .getfield 233, 3), (158, .invokevirtual 236, 3), (161, .ireturn, 1), (162, .iload_n 2, 1)]
theorem aJ_180_5 : sx_iB prog_2_method_8_code aI_180_5 = true := by decide +kernel
def aI_180_6 : sx_IL := [(163, .bipush 20, 2), (165, .if_icmp .ne 7, 3), (168, .iconst 0, 1), (169, .goto 5, 3), (172, .bipush 50, 2), (174, .ireturn, 1)]
theorem aJ_180_6 : sx_iB prog_2_method_8_code aI_180_6 = true := by decide +kernel
def aI_180_7 : sx_IL := [(175, .aload_n 0, 1), (176, .iload_n 2, 1), (177, .invokevirtual 240, 3), (180, .ireturn, 1), (181, .iconst 0, 1), (182, .ireturn, 1)]
theorem aJ_180_7 : sx_iB prog_2_method_8_code aI_180_7 = true := by decide +kernel
def aS_180 (pc : Nat) : sx_IL := (if pc < 144 then (if pc < 126 then (if pc < 11 then aI_180_0 else aI_180_1) else (if pc < 134 then aI_180_2 else aI_180_3)) else (if pc < 163 then (if pc < 153 then aI_180_4 else aI_180_5) else (if pc < 175 then aI_180_6 else aI_180_7)))
theorem aT_180 (pc : Nat) : sx_iOk prog_2_method_8_code (aS_180 pc) := (sx_ite (p := fun l => sx_iOk prog_2_method_8_code l) (sx_ite (p := fun l => sx_iOk prog_2_method_8_code l) (sx_ite (p := fun l => sx_iOk prog_2_method_8_code l) (sx_iB_s aJ_180_0) (sx_iB_s aJ_180_1)) (sx_ite (p := fun l => sx_iOk prog_2_method_8_code l) (sx_iB_s aJ_180_2) (sx_iB_s aJ_180_3))) (sx_ite (p := fun l => sx_iOk prog_2_method_8_code l) (sx_ite (p := fun l => sx_iOk prog_2_method_8_code l) (sx_iB_s aJ_180_4) (sx_iB_s aJ_180_5)) (sx_ite (p := fun l => sx_iOk prog_2_method_8_code l) (sx_iB_s aJ_180_6) (sx_iB_s aJ_180_7))))
def aW_180 : Nat → Option (Instr × Nat) := fun pc => sx_iF (aS_180 pc) pc
theorem aX_180 : ∀ pc i len, aW_180 pc = some (i, len) → decode aM_180.1.2.1 pc = .ok (i, len) := fun pc i len h => sx_iF_s (aT_180 pc) h
def aI_181_0 : sx_IL := [(0, .aload_n 0, 1), (1, .getfield 208, 3), (4, .tableswitch 130 0 5 #[40, 64, 76, 94, 106, 118], 40), (44, .iload_n 1, 1), (45, .iconst 2, 1), (46, .if_icmp .eq 16, 3)]
theorem aJ_181_0 : sx_iB prog_2_method_7_code aI_181_0 = true := by decide +kernel
def aI_181_1 : sx_IL := [(49, .iload_n 1, 1), (50, .bipush 6, 2), (52, .if_icmp .ne 14, 3), (55, .aload_n 0, 1), (56, .getfield 211, 3), (59, .ifCond .ne 7, 3)]
theorem aJ_181_1 : sx_iB prog_2_method_7_code aI_181_1 = true := by decide +kernel
def aI_181_2 : sx_IL := [(62, .iconst 1, 1), (63, .goto 4, 3), (66, .iconst 0, 1), (67, .ireturn, 1), (68, .iload_n 1, 1), (69, .bipush 8, 2)]
theorem aJ_181_2 : sx_iB prog_2_method_7_code aI_181_2 = true := by decide +kernel
def aI_181_3 : sx_IL := [(71, .if_icmp .ne 7, 3), (74, .iconst 1, 1), (75, .goto 4, 3), (78, .iconst 0, 1), (79, .ireturn, 1), (80, .iload_n 1, 1)]
theorem aJ_181_3 : sx_iB prog_2_method_7_code aI_181_3 = true := by decide +kernel
def aI_181_4 : sx_IL := [(81, .bipush 13, 2), (83, .if_icmp .eq 9, 3), (86, .iload_n 1, 1), (87, .bipush 11, 2), (89, .if_icmp .ne 7, 3), (92, .iconst 1, 1)]
theorem aJ_181_4 : sx_iB prog_2_method_7_code aI_181_4 = true := by decide +kernel
def aI_181_5 : sx_IL := [(93, .goto 4, 3), (96, .iconst 0, 1), (97, .ireturn, 1), (98, .iload_n 1, 1), (99, .bipush 11, 2), (101, .if_icmp .ne 7, 3)]
theorem aJ_181_5 : sx_iB prog_2_method_7_code aI_181_5 = true := by decide +kernel
def aI_181_6 : sx_IL := [(104, .iconst 1, 1), (105, .goto 4, 3), (108, .iconst 0, 1), (109, .ireturn, 1), (110, .iload_n 1, 1), (111, .bipush 15, 2)]
theorem aJ_181_6 : sx_iB prog_2_method_7_code aI_181_6 = true := by decide +kernel
def aI_181_7 : sx_IL := [(113, .if_icmp .ne 7, 3), (116, .iconst 1, 1), (117, .goto 4, 3), (120, .iconst 0, 1), (121, .ireturn, 1), (122, .iload_n 1, 1)]
theorem aJ_181_7 : sx_iB prog_2_method_7_code aI_181_7 = true := by decide +kernel
def aI_181_8 : sx_IL := [(123, .bipush 20, 2), (125, .if_icmp .ne 7, 3), (128, .iconst 1, 1), (129, .goto 4, 3), (132, .iconst 0, 1), (133, .ireturn, 1)]
theorem aJ_181_8 : sx_iB prog_2_method_7_code aI_181_8 = true := by decide +kernel
def aI_181_9 : sx_IL := [(134, .iload_n 1, 1), (135, .iconst 4, 1), (136, .if_icmp .eq 9, 3), (139, .iload_n 1, 1), (140, .bipush 24, 2), (142, .if_icmp .ne 7, 3)]
theorem aJ_181_9 : sx_iB prog_2_method_7_code aI_181_9 = true := by decide +kernel
def aI_181_10 : sx_IL := [(145, .iconst 1, 1), (146, .goto 4, 3), (149, .iconst 0, 1), (150, .ireturn, 1)]
theorem aJ_181_10 : sx_iB prog_2_method_7_code aI_181_10 = true := by decide +kernel
def aS_181 (pc : Nat) : sx_IL := (if pc < 93 then (if pc < 62 then (if pc < 49 then aI_181_0 else aI_181_1) else (if pc < 71 then aI_181_2 else (if pc < 81 then aI_181_3 else aI_181_4))) else (if pc < 123 then (if pc < 104 then aI_181_5 else (if pc < 113 then aI_181_6 else aI_181_7)) else (if pc < 134 then aI_181_8 else (if pc < 145 then aI_181_9 else aI_181_10))))
theorem aT_181 (pc : Nat) : sx_iOk prog_2_method_7_code (aS_181 pc) := (sx_ite (p := fun l => sx_iOk prog_2_method_7_code l) (sx_ite (p := fun l => sx_iOk prog_2_method_7_code l) (sx_ite (p := fun l => sx_iOk prog_2_method_7_code l) (sx_iB_s aJ_181_0) (sx_iB_s aJ_181_1)) (sx_ite (p := fun l => sx_iOk prog_2_method_7_code l) (sx_iB_s aJ_181_2) (sx_ite (p := fun l => sx_iOk prog_2_method_7_code l) (sx_iB_s aJ_181_3) (sx_iB_s aJ_181_4)))) (sx_ite (p := fun l => sx_iOk prog_2_method_7_code l) (sx_ite (p := fun l => sx_iOk prog_2_method_7_code l) (sx_iB_s aJ_181_5) (sx_ite (p := fun l => sx_iOk prog_2_method_7_code l) (sx_iB_s aJ_181_6) (sx_iB_s aJ_181_7))) (sx_ite (p := fun l => sx_iOk prog_2_method_7_code l) (sx_iB_s aJ_181_8) (sx_ite (p := fun l => sx_iOk prog_2_method_7_code l) (sx_iB_s aJ_181_9) (sx_iB_s aJ_181_10)))))
def aW_181 : Nat → Option (Instr × Nat) := fun pc => sx_iF (aS_181 pc) pc
theorem aX_181 : ∀ pc i len, aW_181 pc = some (i, len) → decode aM_181.1.2.1 pc = .ok (i, len) := fun pc i len h => sx_iF_s (aT_181 pc) h
def aI_182_0 : sx_IL := [(0, .iload_n 1, 1), (1, .bipush 12, 2), (3, .if_icmp .ge 6, 3), (6, .bipush 50, 2), (8, .ireturn, 1), (9, .aload_n 0, 1)]
theorem aJ_182_0 : sx_iB prog_2_method_12_code aI_182_0 = true := by decide +kernel
def aI_182_1 : sx_IL := [(10, .getfield 74, 3), (13, .getfield 259, 3), (16, .astore_n 2, 1), (17, .aload_n 2, 1), (18, .aload_n 0, 1), (19, .getfield 263, 3)]
theorem aJ_182_1 : sx_iB prog_2_method_12_code aI_182_1 = true := by decide +kernel
def aI_182_2 : sx_IL := [(22, .getfield 111, 3), (25, .bipush 12, 2), (27, .iload_n 1, 1), (28, .iconst 2, 1), (29, .invokevirtual 266, 3), (32, .istore_n 3, 1)]
theorem aJ_182_2 : sx_iB prog_2_method_12_code aI_182_2 = true := by decide +kernel
def aI_182_3 : sx_IL := [(33, .iload_n 3, 1), (34, .ifCond .ne 10, 3), (37, .aload_n 2, 1), (38, .getfield 270, 3), (41, .ifCond .eq 14, 3), (44, .iload_n 3, 1)]
theorem aJ_182_3 : sx_iB prog_2_method_12_code aI_182_3 = true := by decide +kernel
def aI_182_4 : sx_IL := [(45, .ifCond .eq 7, 3), (48, .iload_n 3, 1), (49, .goto 5, 3), (52, .bipush 110, 2), (54, .ireturn, 1), (55, .aload_n 0, 1)]
theorem aJ_182_4 : sx_iB prog_2_method_12_code aI_182_4 = true := by decide +kernel
def aI_182_5 : sx_IL := [(56, .getfield 263, 3), (59, .bipush 11, 2), (61, .invokevirtual 273, 3), (64, .istore 4, 2), (66, .aload_n 2, 1), (67, .bipush 10, 2)]
theorem aJ_182_5 : sx_iB prog_2_method_12_code aI_182_5 = true := by decide +kernel
def aI_182_6 : sx_IL := [(69, .invokevirtual 181, 3), (72, .istore 5, 2), (74, .aload_n 2, 1), (75, .iconst 4, 1), (76, .invokevirtual 181, 3), (79, .istore 6, 2)]
theorem aJ_182_6 : sx_iB prog_2_method_12_code aI_182_6 = true := by decide +kernel
def aI_182_7 : sx_IL := [(81, .aload_n 0, 1), (82, .getfield 21, 3), (85, .iconst 0, 1), (86, .iload 4, 2), (88, .invokevirtual 276, 3), (91, .ifCond .eq 21, 3)]
theorem aJ_182_7 : sx_iB prog_2_method_12_code aI_182_7 = true := by decide +kernel
def aI_182_8 : sx_IL := [(94, .aload_n 0, 1), (95, .getfield 211, 3), (98, .ifCond .eq 17, 3), (101, .iload 4, 2), (103, .aload_n 0, 1), (104, .getfield 279, 3)]
theorem aJ_182_8 : sx_iB prog_2_method_12_code aI_182_8 = true := by decide +kernel
def aI_182_9 : sx_IL := [(107, .iconst 1, 1), (108, .iaload, 1), (109, .if_icmp .eq 6, 3), (112, .bipush 47, 2), (114, .ireturn, 1), (115, .iload 5, 2)]
theorem aJ_182_9 : sx_iB prog_2_method_12_code aI_182_9 = true := by decide +kernel
def aI_182_10 : sx_IL := [(117, .ifCond .eq 13, 3), (120, .aload_n 2, 1), (121, .bipush 10, 2), (123, .iconst 0, 1), (124, .invokevirtual 282, 3), (127, .goto 4, 3)]
theorem aJ_182_10 : sx_iB prog_2_method_12_code aI_182_10 = true := by decide +kernel
def aI_182_11 : sx_IL := [(130, .iconst (-1), 1), (131, .istore 7, 2), (133, .iload 5, 2), (135, .ifCond .eq 33, 3), (138, .iload 7, 2), (140, .aload_n 0, 1)]
theorem aJ_182_11 : sx_iB prog_2_method_12_code aI_182_11 = true := by decide +kernel
def aI_182_12 : sx_IL := [(141, .getfield 131, 3), (144, .if_icmp .ge 21, 3), (147, .aload_n 0, 1), (148, .getfield 11, 3), (151, .iload 7, 2), (153, .aaload, 1)]
theorem aJ_182_12 : sx_iB prog_2_method_12_code aI_182_12 = true := by decide +kernel
def aI_182_13 : sx_IL := [(154, .getfield 84, 3), (157, .iload 4, 2), (159, .invokestatic 285, 3), (162, .if_icmp .eq 6, 3), (165, .bipush 47, 2), (167, .ireturn, 1)]
theorem aJ_182_13 : sx_iB prog_2_method_12_code aI_182_13 = true := by decide +kernel
def aI_182_14 : sx_IL := [(168, .iload 6, 2), (170, .ifCond .ne 40, 3), (173, .aload_n 0, 1), (174, .lconst 0, 1), (175, .putfield 288, 3), (178, .aload_n 0, 1)]
theorem aJ_182_14 : sx_iB prog_2_method_12_code aI_182_14 = true := by decide +kernel
def aI_182_15 : sx_IL := [(179, .iload 7, 2), (181, .putfield 17, 3), (184, .iload 5, 2), (186, .ifCond .ne 8, 3), (189, .bipush 109, 2), (191, .goto 18, 3)]
theorem aJ_182_15 : sx_iB prog_2_method_12_code aI_182_15 = true := by decide +kernel
def aI_182_16 : sx_IL := [(194, .aload_n 0, 1), (195, .getfield 134, 3), (198, .iconst 1, 1), (199, .iand, 1), (200, .ifCond .ne 8, 3), (203, .bipush 47, 2)]
theorem aJ_182_16 : sx_iB prog_2_method_12_code aI_182_16 = true := by decide +kernel
def aI_182_17 : sx_IL := [(205, .goto 4, 3), (208, .iconst 0, 1), (209, .ireturn, 1), (210, .aload_n 0, 1), (211, .getfield 157, 3), (214, .ifCond .eq 16, 3)]
theorem aJ_182_17 : sx_iB prog_2_method_12_code aI_182_17 = true := by decide +kernel
def aI_182_18 : sx_IL := [(217, .aload_n 2, 1), (218, .iconst 4, 1), (219, .iconst 0, 1), (220, .invokevirtual 282, 3), (223, .aload_n 0, 1), (224, .getfield 157, 3)]
theorem aJ_182_18 : sx_iB prog_2_method_12_code aI_182_18 = true := by decide +kernel
def aI_182_19 : sx_IL := [(227, .if_icmp .eq 6, 3), (230, .bipush 47, 2), (232, .ireturn, 1), (233, .aload_n 0, 1), (234, .aload_n 0, 1), (235, .getfield 74, 3)]
theorem aJ_182_19 : sx_iB prog_2_method_12_code aI_182_19 = true := by decide +kernel
def aI_182_20 : sx_IL := [(238, .getfield 78, 3), (241, .aload_n 0, 1), (242, .getfield 157, 3), (245, .aload_n 0, 1), (246, .getfield 164, 3), (249, .aload_n 2, 1)]
theorem aJ_182_20 : sx_iB prog_2_method_12_code aI_182_20 = true := by decide +kernel
def aI_182_21 : sx_IL := [(250, .iconst 4, 1), (251, .iconst 1, 1), (252, .invokevirtual 291, 3), (255, .invokevirtual 294, 3), (258, .putfield 288, 3), (261, .aload_n 0, 1)]
theorem aJ_182_21 : sx_iB prog_2_method_12_code aI_182_21 = true := by decide +kernel
def aI_182_22 : sx_IL := [(262, .iload 7, 2), (264, .putfield 17, 3), (267, .aload_n 0, 1), (268, .getfield 288, 3), (271, .lconst 0, 1), (272, .lcmp, 1)]
theorem aJ_182_22 : sx_iB prog_2_method_12_code aI_182_22 = true := by decide +kernel
def aI_182_23 : sx_IL := [(273, .ifCond .ne 8, 3), (276, .bipush 47, 2), (278, .goto 4, 3), (281, .iconst 0, 1), (282, .ireturn, 1)]
theorem aJ_182_23 : sx_iB prog_2_method_12_code aI_182_23 = true := by decide +kernel
def aS_182 (pc : Nat) : sx_IL := (if pc < 141 then (if pc < 69 then (if pc < 33 then (if pc < 10 then aI_182_0 else (if pc < 22 then aI_182_1 else aI_182_2)) else (if pc < 45 then aI_182_3 else (if pc < 56 then aI_182_4 else aI_182_5))) else (if pc < 107 then (if pc < 81 then aI_182_6 else (if pc < 94 then aI_182_7 else aI_182_8)) else (if pc < 117 then aI_182_9 else (if pc < 130 then aI_182_10 else aI_182_11)))) else (if pc < 217 then (if pc < 179 then (if pc < 154 then aI_182_12 else (if pc < 168 then aI_182_13 else aI_182_14)) else (if pc < 194 then aI_182_15 else (if pc < 205 then aI_182_16 else aI_182_17))) else (if pc < 250 then (if pc < 227 then aI_182_18 else (if pc < 238 then aI_182_19 else aI_182_20)) else (if pc < 262 then aI_182_21 else (if pc < 273 then aI_182_22 else aI_182_23)))))
theorem aT_182 (pc : Nat) : sx_iOk prog_2_method_12_code (aS_182 pc) := (sx_ite (p := fun l => sx_iOk prog_2_method_12_code l) (sx_ite (p := fun l => sx_iOk prog_2_method_12_code l) (sx_ite (p := fun l => sx_iOk prog_2_method_12_code l) (sx_ite (p := fun l => sx_iOk prog_2_method_12_code l) (sx_iB_s aJ_182_0) (sx_ite (p := fun l => sx_iOk prog_2_method_12_code l) (sx_iB_s aJ_182_1) (sx_iB_s aJ_182_2))) (sx_ite (p := fun l => sx_iOk prog_2_method_12_code l) (sx_iB_s aJ_182_3) (sx_ite (p := fun l => sx_iOk prog_2_method_12_code l) (sx_iB_s aJ_182_4) (sx_iB_s aJ_182_5)))) (sx_ite (p := fun l => sx_iOk prog_2_method_12_code l) (sx_ite (p := fun l => sx_iOk prog_2_method_12_code l) (sx_iB_s aJ_182_6) (sx_ite (p := fun l => sx_iOk prog_2_method_12_code l) (sx_iB_s aJ_182_7) (sx_iB_s aJ_182_8))) (sx_ite (p := fun l => sx_iOk prog_2_method_12_code l) (sx_iB_s aJ_182_9) (sx_ite (p := fun l => sx_iOk prog_2_method_12_code l) (sx_iB_s aJ_182_10) (sx_iB_s aJ_182_11))))) (sx_ite (p := fun l => sx_iOk prog_2_method_12_code l) (sx_ite (p := fun l => sx_iOk prog_2_method_12_code l) (sx_ite (p := fun l => sx_iOk prog_2_method_12_code l) (sx_iB_s aJ_182_12) (sx_ite (p := fun l => sx_iOk prog_2_method_12_code l) (sx_iB_s aJ_182_13) (sx_iB_s aJ_182_14))) (sx_ite (p := fun l => sx_iOk prog_2_method_12_code l) (sx_iB_s aJ_182_15) (sx_ite (p := fun l => sx_iOk prog_2_method_12_code l) (sx_iB_s aJ_182_16) (sx_iB_s aJ_182_17)))) (sx_ite (p := fun l => sx_iOk prog_2_method_12_code l) (sx_ite (p := fun l => sx_iOk prog_2_method_12_code l) (sx_iB_s aJ_182_18) (sx_ite (p := fun l => sx_iOk prog_2_method_12_code l) (sx_iB_s aJ_182_19) (sx_iB_s aJ_182_20))) (sx_ite (p := fun l => sx_iOk prog_2_method_12_code l) (sx_iB_s aJ_182_21) (sx_ite (p := fun l => sx_iOk prog_2_method_12_code l) (sx_iB_s aJ_182_22) (sx_iB_s aJ_182_23))))))
def aW_182 : Nat → Option (Instr × Nat) := fun pc => sx_iF (aS_182 pc) pc
theorem aX_182 : ∀ pc i len, aW_182 pc = some (i, len) → decode aM_182.1.2.1 pc = .ok (i, len) := fun pc i len h => sx_iF_s (aT_182 pc) h
def aI_183_0 : sx_IL := [(0, .aload_n 0, 1), (1, .aload_n 1, 1), (2, .putfield 7, 3), (5, .aload_n 0, 1), (6, .iconst 0, 1), (7, .putfield 19, 3)]
theorem aJ_183_0 : sx_iB prog_4_method_2_code aI_183_0 = true := by decide +kernel
def aI_183_1 : sx_IL := [(10, .aload_n 0, 1), (11, .getfield 13, 3), (14, .iconst (-1), 1), (15, .invokestatic 23, 3), (18, .aload_n 0, 1), (19, .getfield 16, 3)]
theorem aJ_183_1 : sx_iB prog_4_method_2_code aI_183_1 = true := by decide +kernel
def aI_183_2 : sx_IL := [(22, .iconst (-1), 1), (23, .invokestatic 23, 3), (26, .iconst (-1), 1), (27, .istore 5, 2), (29, .iload_n 2, 1), (30, .istore 6, 2)]
theorem aJ_183_2 : sx_iB prog_4_method_2_code aI_183_2 = true := by decide +kernel
def aI_183_3 : sx_IL := [(32, .iload 6, 2), (34, .iload_n 3, 1), (35, .if_icmp .ge 148, 3), (38, .aload_n 1, 1), (39, .iload 6, 2), (41, .iaload, 1)]
theorem aJ_183_3 : sx_iB prog_4_method_2_code aI_183_3 = true := by decide +kernel
def aI_183_4 : sx_IL := [(42, .istore 7, 2), (44, .iload 7, 2), (46, .iload 5, 2), (48, .if_icmp .le 16, 3), (51, .iload 4, 2), (53, .iconst 1, 1)]
theorem aJ_183_4 : sx_iB prog_4_method_2_code aI_183_4 = true := by decide +kernel
def aI_183_5 : sx_IL := [(54, .if_icmp .ne 13, 3), (57, .iload 5, 2), (59, .bipush 10, 2), (61, .if_icmp .ne 6, 3), (64, .bipush 47, 2), (66, .ireturn, 1)]
theorem aJ_183_5 : sx_iB prog_4_method_2_code aI_183_5 = true := by decide +kernel
def aI_183_6 : sx_IL := [(67, .iload 6, 2), (69, .iconst 3, 1), (70, .iadd, 1), (71, .istore 8, 2), (73, .iload 8, 2), (75, .iload_n 3, 1)]
theorem aJ_183_6 : sx_iB prog_4_method_2_code aI_183_6 = true := by decide +kernel
def aI_183_7 : sx_IL := [(76, .if_icmp .gt 25, 3), (79, .iload 8, 2), (81, .aload_n 1, 1), (82, .iload 6, 2), (84, .iconst 1, 1), (85, .iadd, 1)]
theorem aJ_183_7 : sx_iB prog_4_method_2_code aI_183_7 = true := by decide +kernel
def aI_183_8 : sx_IL := [(86, .iaload, 1), (87, .bipush 8, 2), (89, .ishl, 1), (90, .aload_n 1, 1), (91, .iload 6, 2), (93, .iconst 2, 1)]
theorem aJ_183_8 : sx_iB prog_4_method_2_code aI_183_8 = true := by decide +kernel
def aI_183_9 : sx_IL := [(94, .iadd, 1), (95, .iaload, 1), (96, .ior, 1), (97, .iadd, 1), (98, .goto 6, 3), (101, .iload_n 3, 1)]
theorem aJ_183_9 : sx_iB prog_4_method_2_code aI_183_9 = true := by decide +kernel
def aI_183_10 : sx_IL := [(102, .iconst 1, 1), (103, .iadd, 1), (104, .istore 9, 2), (106, .iload 9, 2), (108, .iload_n 3, 1), (109, .if_icmp .le 6, 3)]
theorem aJ_183_10 : sx_iB prog_4_method_2_code aI_183_10 = true := by decide +kernel
def aI_183_11 : sx_IL := [(112, .bipush 50, 2), (114, .ireturn, 1), (115, .iload 4, 2), (117, .iload 7, 2), (119, .invokestatic 31, 3), (122, .ifCond .ne 11, 3)]
theorem aJ_183_11 : sx_iB prog_4_method_2_code aI_183_11 = true := by decide +kernel
def aI_183_12 : sx_IL := [(125, .aload_n 0, 1), (126, .iconst 1, 1), (127, .putfield 19, 3), (130, .goto 42, 3), (133, .aload_n 0, 1), (134, .iload 4, 2)]
theorem aJ_183_12 : sx_iB prog_4_method_2_code aI_183_12 = true := by decide +kernel
def aI_183_13 : sx_IL := [(136, .iload 7, 2), (138, .iload 8, 2), (140, .iload 9, 2), (142, .invokevirtual 35, 3), (145, .ifCond .eq 24, 3), (148, .aload_n 0, 1)]
theorem aJ_183_13 : sx_iB prog_4_method_2_code aI_183_13 = true := by decide +kernel
def aI_183_14 : sx_IL := [(149, .getfield 13, 3), (152, .iload 7, 2), (154, .iload 8, 2), (156, .iastore, 1), (157, .aload_n 0, 1), (158, .getfield 16, 3)]
theorem aJ_183_14 : sx_iB prog_4_method_2_code aI_183_14 = true := by decide +kernel
def aI_183_15 : sx_IL := [(161, .iload 7, 2), (163, .iload 9, 2), (165, .iastore, 1), (166, .goto 6, 3), (169, .bipush 50, 2), (171, .ireturn, 1)]
theorem aJ_183_15 : sx_iB prog_4_method_2_code aI_183_15 = true := by decide +kernel
def aI_183_16 : sx_IL := [(172, .iload 7, 2), (174, .istore 5, 2), (176, .iload 9, 2), (178, .istore 6, 2), (180, .goto (-148), 3), (183, .iconst 0, 1)]
theorem aJ_183_16 : sx_iB prog_4_method_2_code aI_183_16 = true := by decide +kernel
def aI_183_17 : sx_IL := [(184, .ireturn, 1)]
theorem aJ_183_17 : sx_iB prog_4_method_2_code aI_183_17 = true := by decide +kernel
def aS_183 (pc : Nat) : sx_IL := (if pc < 94 then (if pc < 42 then (if pc < 22 then (if pc < 10 then aI_183_0 else aI_183_1) else (if pc < 32 then aI_183_2 else aI_183_3)) else (if pc < 67 then (if pc < 54 then aI_183_4 else aI_183_5) else (if pc < 76 then aI_183_6 else (if pc < 86 then aI_183_7 else aI_183_8)))) else (if pc < 136 then (if pc < 112 then (if pc < 102 then aI_183_9 else aI_183_10) else (if pc < 125 then aI_183_11 else aI_183_12)) else (if pc < 161 then (if pc < 149 then aI_183_13 else aI_183_14) else (if pc < 172 then aI_183_15 else (if pc < 184 then aI_183_16 else aI_183_17)))))
theorem aT_183 (pc : Nat) : sx_iOk prog_4_method_2_code (aS_183 pc) := (sx_ite (p := fun l => sx_iOk prog_4_method_2_code l) (sx_ite (p := fun l => sx_iOk prog_4_method_2_code l) (sx_ite (p := fun l => sx_iOk prog_4_method_2_code l) (sx_ite (p := fun l => sx_iOk prog_4_method_2_code l) (sx_iB_s aJ_183_0) (sx_iB_s aJ_183_1)) (sx_ite (p := fun l => sx_iOk prog_4_method_2_code l) (sx_iB_s aJ_183_2) (sx_iB_s aJ_183_3))) (sx_ite (p := fun l => sx_iOk prog_4_method_2_code l) (sx_ite (p := fun l => sx_iOk prog_4_method_2_code l) (sx_iB_s aJ_183_4) (sx_iB_s aJ_183_5)) (sx_ite (p := fun l => sx_iOk prog_4_method_2_code l) (sx_iB_s aJ_183_6) (sx_ite (p := fun l => sx_iOk prog_4_method_2_code l) (sx_iB_s aJ_183_7) (sx_iB_s aJ_183_8))))) (sx_ite (p := fun l => sx_iOk prog_4_method_2_code l) (sx_ite (p := fun l => sx_iOk prog_4_method_2_code l) (sx_ite (p := fun l => sx_iOk prog_4_method_2_code l) (sx_iB_s aJ_183_9) (sx_iB_s aJ_183_10)) (sx_ite (p := fun l => sx_iOk prog_4_method_2_code l) (sx_iB_s aJ_183_11) (sx_iB_s aJ_183_12))) (sx_ite (p := fun l => sx_iOk prog_4_method_2_code l) (sx_ite (p := fun l => sx_iOk prog_4_method_2_code l) (sx_iB_s aJ_183_13) (sx_iB_s aJ_183_14)) (sx_ite (p := fun l => sx_iOk prog_4_method_2_code l) (sx_iB_s aJ_183_15) (sx_ite (p := fun l => sx_iOk prog_4_method_2_code l) (sx_iB_s aJ_183_16) (sx_iB_s aJ_183_17))))))
def aW_183 : Nat → Option (Instr × Nat) := fun pc => sx_iF (aS_183 pc) pc
theorem aX_183 : ∀ pc i len, aW_183 pc = some (i, len) → decode aM_183.1.2.1 pc = .ok (i, len) := fun pc i len h => sx_iF_s (aT_183 pc) h
def aI_184_0 : sx_IL := [(0, .iload_n 0, 1), (1, .tableswitch 110 1 8 #[47, 64, 110, 110, 110, 81, 110, 98], 47), (48, .iload_n 1, 1), (49, .iconst 1, 1), (50, .if_icmp .lt 13, 3), (53, .iload_n 1, 1)]
theorem aJ_184_0 : sx_iB prog_4_method_3_code aI_184_0 = true := by decide +kernel
def aI_184_1 : sx_IL := [(54, .bipush 10, 2), (56, .if_icmp .gt 7, 3), (59, .iconst 1, 1), (60, .goto 4, 3), (63, .iconst 0, 1), (64, .ireturn, 1)]
theorem aJ_184_1 : sx_iB prog_4_method_3_code aI_184_1 = true := by decide +kernel
def aI_184_2 : sx_IL := [(65, .iload_n 1, 1), (66, .iconst 4, 1), (67, .if_icmp .eq 9, 3), (70, .iload_n 1, 1), (71, .bipush 10, 2), (73, .if_icmp .ne 7, 3)]
theorem aJ_184_2 : sx_iB prog_4_method_3_code aI_184_2 = true := by decide +kernel
def aI_184_3 : sx_IL := [(76, .iconst 1, 1), (77, .goto 4, 3), (80, .iconst 0, 1), (81, .ireturn, 1), (82, .iload_n 1, 1), (83, .iconst 3, 1)]
theorem aJ_184_3 : sx_iB prog_4_method_3_code aI_184_3 = true := by decide +kernel
def aI_184_4 : sx_IL := [(84, .if_icmp .eq 9, 3), (87, .iload_n 1, 1), (88, .bipush 9, 2), (90, .if_icmp .ne 7, 3), (93, .iconst 1, 1), (94, .goto 4, 3)]
theorem aJ_184_4 : sx_iB prog_4_method_3_code aI_184_4 = true := by decide +kernel
def aI_184_5 : sx_IL := [(97, .iconst 0, 1), (98, .ireturn, 1), (99, .iload_n 1, 1), (100, .bipush 8, 2), (102, .if_icmp .ne 7, 3), (105, .iconst 1, 1)]
theorem aJ_184_5 : sx_iB prog_4_method_3_code aI_184_5 = true := by decide +kernel
def aI_184_6 : sx_IL := [(106, .goto 4, 3), (109, .iconst 0, 1), (110, .ireturn, 1), (111, .iload_n 1, 1), (112, .iconst 5, 1), (113, .if_icmp .ne 7, 3)]
theorem aJ_184_6 : sx_iB prog_4_method_3_code aI_184_6 = true := by decide +kernel
def aI_184_7 : sx_IL := [(116, .iconst 1, 1), (117, .goto 4, 3), (120, .iconst 0, 1), (121, .ireturn, 1)]
theorem aJ_184_7 : sx_iB prog_4_method_3_code aI_184_7 = true := by decide +kernel
def aS_184 (pc : Nat) : sx_IL := (if pc < 84 then (if pc < 65 then (if pc < 54 then aI_184_0 else aI_184_1) else (if pc < 76 then aI_184_2 else aI_184_3)) else (if pc < 106 then (if pc < 97 then aI_184_4 else aI_184_5) else (if pc < 116 then aI_184_6 else aI_184_7)))
theorem aT_184 (pc : Nat) : sx_iOk prog_4_method_3_code (aS_184 pc) := (sx_ite (p := fun l => sx_iOk prog_4_method_3_code l) (sx_ite (p := fun l => sx_iOk prog_4_method_3_code l) (sx_ite (p := fun l => sx_iOk prog_4_method_3_code l) (sx_iB_s aJ_184_0) (sx_iB_s aJ_184_1)) (sx_ite (p := fun l => sx_iOk prog_4_method_3_code l) (sx_iB_s aJ_184_2) (sx_iB_s aJ_184_3))) (sx_ite (p := fun l => sx_iOk prog_4_method_3_code l) (sx_ite (p := fun l => sx_iOk prog_4_method_3_code l) (sx_iB_s aJ_184_4) (sx_iB_s aJ_184_5)) (sx_ite (p := fun l => sx_iOk prog_4_method_3_code l) (sx_iB_s aJ_184_6) (sx_iB_s aJ_184_7))))
def aW_184 : Nat → Option (Instr × Nat) := fun pc => sx_iF (aS_184 pc) pc
theorem aX_184 : ∀ pc i len, aW_184 pc = some (i, len) → decode aM_184.1.2.1 pc = .ok (i, len) := fun pc i len h => sx_iF_s (aT_184 pc) h
def aI_185_0 : sx_IL := [(0, .iload 4, 2), (2, .iload_n 3, 1), (3, .isub, 1), (4, .istore 5, 2), (6, .iload_n 2, 1), (7, .tableswitch 191 3 10 #[45, 77, 191, 89, 108, 140, 151, 164], 45)]
theorem aJ_185_0 : sx_iB prog_4_method_4_code aI_185_0 = true := by decide +kernel
def aI_185_1 : sx_IL := [(52, .iload_n 1, 1), (53, .bipush 6, 2), (55, .if_icmp .ne 17, 3), (58, .iload 5, 2), (60, .iconst 1, 1), (61, .if_icmp .ne 7, 3)]
theorem aJ_185_1 : sx_iB prog_4_method_4_code aI_185_1 = true := by decide +kernel
def aI_185_2 : sx_IL := [(64, .iconst 1, 1), (65, .goto 18, 3), (68, .iconst 0, 1), (69, .goto 14, 3), (72, .iload 5, 2), (74, .iconst 1, 1)]
theorem aJ_185_2 : sx_iB prog_4_method_4_code aI_185_2 = true := by decide +kernel
def aI_185_3 : sx_IL := [(75, .if_icmp .lt 7, 3), (78, .iconst 1, 1), (79, .goto 4, 3), (82, .iconst 0, 1), (83, .ireturn, 1), (84, .iload 5, 2)]
theorem aJ_185_3 : sx_iB prog_4_method_4_code aI_185_3 = true := by decide +kernel
def aI_185_4 : sx_IL := [(86, .iconst 5, 1), (87, .if_icmp .ne 7, 3), (90, .iconst 1, 1), (91, .goto 4, 3), (94, .iconst 0, 1), (95, .ireturn, 1)]
theorem aJ_185_4 : sx_iB prog_4_method_4_code aI_185_4 = true := by decide +kernel
def aI_185_5 : sx_IL := [(96, .aload_n 0, 1), (97, .getfield 7, 3), (100, .iload_n 3, 1), (101, .iload 4, 2), (103, .invokestatic 39, 3), (106, .ifCond .ge 7, 3)]
theorem aJ_185_5 : sx_iB prog_4_method_4_code aI_185_5 = true := by decide +kernel
def aI_185_6 : sx_IL := [(109, .iconst 1, 1), (110, .goto 4, 3), (113, .iconst 0, 1), (114, .ireturn, 1), (115, .iload 5, 2), (117, .iconst 1, 1)]
theorem aJ_185_6 : sx_iB prog_4_method_4_code aI_185_6 = true := by decide +kernel
def aI_185_7 : sx_IL := [(118, .if_icmp .ne 27, 3), (121, .aload_n 0, 1), (122, .getfield 7, 3), (125, .iload_n 3, 1), (126, .iaload, 1), (127, .iconst 1, 1)]
theorem aJ_185_7 : sx_iB prog_4_method_4_code aI_185_7 = true := by decide +kernel
def aI_185_8 : sx_IL := [(128, .if_icmp .lt 17, 3), (131, .aload_n 0, 1), (132, .getfield 7, 3), (135, .iload_n 3, 1), (136, .iaload, 1), (137, .iconst 3, 1)]
theorem aJ_185_8 : sx_iB prog_4_method_4_code aI_185_8 = true := by decide +kernel
def aI_185_9 : sx_IL := [(138, .if_icmp .gt 7, 3), (141, .iconst 1, 1), (142, .goto 4, 3), (145, .iconst 0, 1), (146, .ireturn, 1), (147, .iload 5, 2)]
theorem aJ_185_9 : sx_iB prog_4_method_4_code aI_185_9 = true := by decide +kernel
def aI_185_10 : sx_IL := [(149, .ifCond .ne 7, 3), (152, .iconst 1, 1), (153, .goto 4, 3), (156, .iconst 0, 1), (157, .ireturn, 1), (158, .iload 5, 2)]
theorem aJ_185_10 : sx_iB prog_4_method_4_code aI_185_10 = true := by decide +kernel
def aI_185_11 : sx_IL := [(160, .bipush 8, 2), (162, .if_icmp .ne 7, 3), (165, .iconst 1, 1), (166, .goto 4, 3), (169, .iconst 0, 1), (170, .ireturn, 1)]
theorem aJ_185_11 : sx_iB prog_4_method_4_code aI_185_11 = true := by decide +kernel
def aI_185_12 : sx_IL := [(171, .iload_n 1, 1), (172, .iconst 2, 1), (173, .if_icmp .ne 17, 3), (176, .iload 5, 2), (178, .iconst 1, 1), (179, .if_icmp .ne 7, 3)]
theorem aJ_185_12 : sx_iB prog_4_method_4_code aI_185_12 = true := by decide +kernel
def aI_185_13 : sx_IL := [(182, .iconst 1, 1), (183, .goto 14, 3), (186, .iconst 0, 1), (187, .goto 10, 3), (190, .aload_n 0, 1), (191, .iload_n 3, 1)]
theorem aJ_185_13 : sx_iB prog_4_method_4_code aI_185_13 = true := by decide +kernel
def aI_185_14 : sx_IL := [(192, .iload 4, 2), (194, .invokevirtual 45, 3), (197, .ireturn, 1), (198, .iload 5, 2), (200, .iconst 1, 1), (201, .if_icmp .lt 7, 3)]
theorem aJ_185_14 : sx_iB prog_4_method_4_code aI_185_14 = true := by decide +kernel
def aI_185_15 : sx_IL := [(204, .iconst 1, 1), (205, .goto 4, 3), (208, .iconst 0, 1), (209, .ireturn, 1)]
theorem aJ_185_15 : sx_iB prog_4_method_4_code aI_185_15 = true := by decide +kernel
def aS_185 (pc : Nat) : sx_IL := (if pc < 128 then (if pc < 86 then (if pc < 64 then (if pc < 52 then aI_185_0 else aI_185_1) else (if pc < 75 then aI_185_2 else aI_185_3)) else (if pc < 109 then (if pc < 96 then aI_185_4 else aI_185_5) else (if pc < 118 then aI_185_6 else aI_185_7))) else (if pc < 171 then (if pc < 149 then (if pc < 138 then aI_185_8 else aI_185_9) else (if pc < 160 then aI_185_10 else aI_185_11)) else (if pc < 192 then (if pc < 182 then aI_185_12 else aI_185_13) else (if pc < 204 then aI_185_14 else aI_185_15))))
theorem aT_185 (pc : Nat) : sx_iOk prog_4_method_4_code (aS_185 pc) := (sx_ite (p := fun l => sx_iOk prog_4_method_4_code l) (sx_ite (p := fun l => sx_iOk prog_4_method_4_code l) (sx_ite (p := fun l => sx_iOk prog_4_method_4_code l) (sx_ite (p := fun l => sx_iOk prog_4_method_4_code l) (sx_iB_s aJ_185_0) (sx_iB_s aJ_185_1)) (sx_ite (p := fun l => sx_iOk prog_4_method_4_code l) (sx_iB_s aJ_185_2) (sx_iB_s aJ_185_3))) (sx_ite (p := fun l => sx_iOk prog_4_method_4_code l) (sx_ite (p := fun l => sx_iOk prog_4_method_4_code l) (sx_iB_s aJ_185_4) (sx_iB_s aJ_185_5)) (sx_ite (p := fun l => sx_iOk prog_4_method_4_code l) (sx_iB_s aJ_185_6) (sx_iB_s aJ_185_7)))) (sx_ite (p := fun l => sx_iOk prog_4_method_4_code l) (sx_ite (p := fun l => sx_iOk prog_4_method_4_code l) (sx_ite (p := fun l => sx_iOk prog_4_method_4_code l) (sx_iB_s aJ_185_8) (sx_iB_s aJ_185_9)) (sx_ite (p := fun l => sx_iOk prog_4_method_4_code l) (sx_iB_s aJ_185_10) (sx_iB_s aJ_185_11))) (sx_ite (p := fun l => sx_iOk prog_4_method_4_code l) (sx_ite (p := fun l => sx_iOk prog_4_method_4_code l) (sx_iB_s aJ_185_12) (sx_iB_s aJ_185_13)) (sx_ite (p := fun l => sx_iOk prog_4_method_4_code l) (sx_iB_s aJ_185_14) (sx_iB_s aJ_185_15)))))
def aW_185 : Nat → Option (Instr × Nat) := fun pc => sx_iF (aS_185 pc) pc
theorem aX_185 : ∀ pc i len, aW_185 pc = some (i, len) → decode aM_185.1.2.1 pc = .ok (i, len) := fun pc i len h => sx_iF_s (aT_185 pc) h
def aI_186_0 : sx_IL := [(0, .iload_n 1, 1), (1, .iload_n 2, 1), (2, .if_icmp .ge 13, 3), (5, .aload_n 0, 1), (6, .getfield 7, 3), (9, .iload_n 1, 1)]
theorem aJ_186_0 : sx_iB prog_4_method_5_code aI_186_0 = true := by decide +kernel
def aI_186_1 : sx_IL := [(10, .iaload, 1), (11, .iconst 1, 1), (12, .if_icmp .ge 5, 3), (15, .iconst 0, 1), (16, .ireturn, 1), (17, .iload_n 1, 1)]
theorem aJ_186_1 : sx_iB prog_4_method_5_code aI_186_1 = true := by decide +kernel
def aI_186_2 : sx_IL := [(18, .iconst 1, 1), (19, .iadd, 1), (20, .istore_n 3, 1), (21, .iconst 0, 1), (22, .istore 4, 2), (24, .iload 4, 2)]
theorem aJ_186_2 : sx_iB prog_4_method_5_code aI_186_2 = true := by decide +kernel
def aI_186_3 : sx_IL := [(26, .aload_n 0, 1), (27, .getfield 7, 3), (30, .iload_n 1, 1), (31, .iaload, 1), (32, .if_icmp .ge 50, 3), (35, .iload_n 3, 1)]
theorem aJ_186_3 : sx_iB prog_4_method_5_code aI_186_3 = true := by decide +kernel
def aI_186_4 : sx_IL := [(36, .iload_n 2, 1), (37, .if_icmp .ge 24, 3), (40, .aload_n 0, 1), (41, .getfield 7, 3), (44, .iload_n 3, 1), (45, .iaload, 1)]
theorem aJ_186_4 : sx_iB prog_4_method_5_code aI_186_4 = true := by decide +kernel
def aI_186_5 : sx_IL := [(46, .iconst 1, 1), (47, .if_icmp .lt 14, 3), (50, .aload_n 0, 1), (51, .getfield 7, 3), (54, .iload_n 3, 1), (55, .iaload, 1)]
theorem aJ_186_5 : sx_iB prog_4_method_5_code aI_186_5 = true := by decide +kernel
def aI_186_6 : sx_IL := [(56, .bipush 16, 2), (58, .if_icmp .le 5, 3), (61, .iconst 0, 1), (62, .ireturn, 1), (63, .iload_n 3, 1), (64, .iconst 1, 1)]
theorem aJ_186_6 : sx_iB prog_4_method_5_code aI_186_6 = true := by decide +kernel
def aI_186_7 : sx_IL := [(65, .aload_n 0, 1), (66, .getfield 7, 3), (69, .iload_n 3, 1), (70, .iaload, 1), (71, .iadd, 1), (72, .iconst 4, 1)]
theorem aJ_186_7 : sx_iB prog_4_method_5_code aI_186_7 = true := by decide +kernel
def aI_186_8 : sx_IL := [(73, .iadd, 1), (74, .iadd, 1), (75, .istore_n 3, 1), (76, .iinc 4 1, 3), (79, .goto (-55), 3), (82, .aload_n 0, 1)]
theorem aJ_186_8 : sx_iB prog_4_method_5_code aI_186_8 = true := by decide +kernel
def aI_186_9 : sx_IL := [(83, .iload_n 3, 1), (84, .putfield 48, 3), (87, .iload_n 3, 1), (88, .bipush 8, 2), (90, .aload_n 0, 1), (91, .getfield 7, 3)]
theorem aJ_186_9 : sx_iB prog_4_method_5_code aI_186_9 = true := by decide +kernel
def aI_186_10 : sx_IL := [(94, .iload_n 1, 1), (95, .iaload, 1), (96, .imul, 1), (97, .iadd, 1), (98, .iload_n 2, 1), (99, .if_icmp .ne 7, 3)]
theorem aJ_186_10 : sx_iB prog_4_method_5_code aI_186_10 = true := by decide +kernel
def aI_186_11 : sx_IL := [(102, .iconst 1, 1), (103, .goto 4, 3), (106, .iconst 0, 1), (107, .ireturn, 1)]
theorem aJ_186_11 : sx_iB prog_4_method_5_code aI_186_11 = true := by decide +kernel
def aS_186 (pc : Nat) : sx_IL := (if pc < 56 then (if pc < 26 then (if pc < 10 then aI_186_0 else (if pc < 18 then aI_186_1 else aI_186_2)) else (if pc < 36 then aI_186_3 else (if pc < 46 then aI_186_4 else aI_186_5))) else (if pc < 83 then (if pc < 65 then aI_186_6 else (if pc < 73 then aI_186_7 else aI_186_8)) else (if pc < 94 then aI_186_9 else (if pc < 102 then aI_186_10 else aI_186_11))))
theorem aT_186 (pc : Nat) : sx_iOk prog_4_method_5_code (aS_186 pc) := (sx_ite (p := fun l => sx_iOk prog_4_method_5_code l) (sx_ite (p := fun l => sx_iOk prog_4_method_5_code l) (sx_ite (p := fun l => sx_iOk prog_4_method_5_code l) (sx_iB_s aJ_186_0) (sx_ite (p := fun l => sx_iOk prog_4_method_5_code l) (sx_iB_s aJ_186_1) (sx_iB_s aJ_186_2))) (sx_ite (p := fun l => sx_iOk prog_4_method_5_code l) (sx_iB_s aJ_186_3) (sx_ite (p := fun l => sx_iOk prog_4_method_5_code l) (sx_iB_s aJ_186_4) (sx_iB_s aJ_186_5)))) (sx_ite (p := fun l => sx_iOk prog_4_method_5_code l) (sx_ite (p := fun l => sx_iOk prog_4_method_5_code l) (sx_iB_s aJ_186_6) (sx_ite (p := fun l => sx_iOk prog_4_method_5_code l) (sx_iB_s aJ_186_7) (sx_iB_s aJ_186_8))) (sx_ite (p := fun l => sx_iOk prog_4_method_5_code l) (sx_iB_s aJ_186_9) (sx_ite (p := fun l => sx_iOk prog_4_method_5_code l) (sx_iB_s aJ_186_10) (sx_iB_s aJ_186_11)))))
def aW_186 : Nat → Option (Instr × Nat) := fun pc => sx_iF (aS_186 pc) pc
theorem aX_186 : ∀ pc i len, aW_186 pc = some (i, len) → decode aM_186.1.2.1 pc = .ok (i, len) := fun pc i len h => sx_iF_s (aT_186 pc) h
def aI_187_0 : sx_IL := [(0, .iconst 0, 1), (1, .istore_n 3, 1), (2, .iload_n 3, 1), (3, .iconst 4, 1), (4, .if_icmp .ge 27, 3), (7, .iload_n 2, 1)]
theorem aJ_187_0 : sx_iB prog_3_method_4_code aI_187_0 = true := by decide +kernel
def aI_187_1 : sx_IL := [(8, .ifCond .le 17, 3), (11, .aload_n 0, 1), (12, .getfield 9, 3), (15, .iload_n 1, 1), (16, .aaload, 1), (17, .iload_n 3, 1)]
theorem aJ_187_1 : sx_iB prog_3_method_4_code aI_187_1 = true := by decide +kernel
def aI_187_2 : sx_IL := [(18, .iaload, 1), (19, .iload_n 2, 1), (20, .if_icmp .ne 5, 3), (23, .iconst 1, 1), (24, .ireturn, 1), (25, .iinc 3 1, 3)]
theorem aJ_187_2 : sx_iB prog_3_method_4_code aI_187_2 = true := by decide +kernel
def aI_187_3 : sx_IL := [(28, .goto (-26), 3), (31, .iconst 0, 1), (32, .ireturn, 1)]
theorem aJ_187_3 : sx_iB prog_3_method_4_code aI_187_3 = true := by decide +kernel
def aS_187 (pc : Nat) : sx_IL := (if pc < 18 then (if pc < 8 then aI_187_0 else aI_187_1) else (if pc < 28 then aI_187_2 else aI_187_3))
theorem aT_187 (pc : Nat) : sx_iOk prog_3_method_4_code (aS_187 pc) := (sx_ite (p := fun l => sx_iOk prog_3_method_4_code l) (sx_ite (p := fun l => sx_iOk prog_3_method_4_code l) (sx_iB_s aJ_187_0) (sx_iB_s aJ_187_1)) (sx_ite (p := fun l => sx_iOk prog_3_method_4_code l) (sx_iB_s aJ_187_2) (sx_iB_s aJ_187_3)))
def aW_187 : Nat → Option (Instr × Nat) := fun pc => sx_iF (aS_187 pc) pc
theorem aX_187 : ∀ pc i len, aW_187 pc = some (i, len) → decode aM_187.1.2.1 pc = .ok (i, len) := fun pc i len h => sx_iF_s (aT_187 pc) h
def aI_188_0 : sx_IL := [(0, .iload_n 1, 1), (1, .iconst 4, 1), (2, .if_icmp .ge 6, 3), (5, .bipush 50, 2), (7, .ireturn, 1), (8, .aload_n 0, 1)]
theorem aJ_188_0 : sx_iB prog_2_method_13_code aI_188_0 = true := by decide +kernel
def aI_188_1 : sx_IL := [(9, .getfield 74, 3), (12, .getfield 259, 3), (15, .astore_n 2, 1), (16, .aload_n 2, 1), (17, .aload_n 0, 1), (18, .getfield 263, 3)]
theorem aJ_188_1 : sx_iB prog_2_method_13_code aI_188_1 = true := by decide +kernel
def aI_188_2 : sx_IL := [(21, .getfield 111, 3), (24, .iconst 4, 1), (25, .iload_n 1, 1), (26, .bipush 6, 2), (28, .invokevirtual 266, 3), (31, .istore_n 3, 1)]
theorem aJ_188_2 : sx_iB prog_2_method_13_code aI_188_2 = true := by decide +kernel
def aI_188_3 : sx_IL := [(32, .iload_n 3, 1), (33, .ifCond .ne 10, 3), (36, .aload_n 2, 1), (37, .getfield 270, 3), (40, .ifCond .eq 14, 3), (43, .iload_n 3, 1)]
theorem aJ_188_3 : sx_iB prog_2_method_13_code aI_188_3 = true := by decide +kernel
def aI_188_4 : sx_IL := [(44, .ifCond .eq 7, 3), (47, .iload_n 3, 1), (48, .goto 5, 3), (51, .bipush 110, 2), (53, .ireturn, 1), (54, .aload_n 2, 1)]
theorem aJ_188_4 : sx_iB prog_2_method_13_code aI_188_4 = true := by decide +kernel
def aI_188_5 : sx_IL := [(55, .iconst 3, 1), (56, .iconst 0, 1), (57, .invokevirtual 282, 3), (60, .istore 4, 2), (62, .aload_n 0, 1), (63, .getfield 21, 3)]
theorem aJ_188_5 : sx_iB prog_2_method_13_code aI_188_5 = true := by decide +kernel
def aI_188_6 : sx_IL := [(66, .iconst 0, 1), (67, .aload_n 0, 1), (68, .getfield 263, 3), (71, .iconst 3, 1), (72, .invokevirtual 273, 3), (75, .invokevirtual 276, 3)]
theorem aJ_188_6 : sx_iB prog_2_method_13_code aI_188_6 = true := by decide +kernel
def aI_188_7 : sx_IL := [(78, .ifCond .eq 37, 3), (81, .aload_n 2, 1), (82, .iconst 3, 1), (83, .invokevirtual 181, 3), (86, .ifCond .eq 29, 3), (89, .aload_n 0, 1)]
theorem aJ_188_7 : sx_iB prog_2_method_13_code aI_188_7 = true := by decide +kernel
def aI_188_8 : sx_IL := [(90, .getfield 21, 3), (93, .iconst 1, 1), (94, .iload 4, 2), (96, .invokevirtual 276, 3), (99, .ifCond .eq 16, 3), (102, .iload 4, 2)]
theorem aJ_188_8 : sx_iB prog_2_method_13_code aI_188_8 = true := by decide +kernel
def aI_188_9 : sx_IL := [(104, .aload_n 0, 1), (105, .getfield 157, 3), (108, .if_icmp .eq 7, 3), (111, .iconst 1, 1), (112, .goto 4, 3), (115, .iconst 0, 1)]
theorem aJ_188_9 : sx_iB prog_2_method_13_code aI_188_9 = true := by decide +kernel
def aI_188_10 : sx_IL := [(116, .istore 5, 2), (118, .iload 5, 2), (120, .ifCond .eq 7, 3), (123, .iconst 0, 1), (124, .goto 5, 3), (127, .bipush 47, 2)]
theorem aJ_188_10 : sx_iB prog_2_method_13_code aI_188_10 = true := by decide +kernel
def aI_188_11 : sx_IL := [(129, .ireturn, 1)]
theorem aJ_188_11 : sx_iB prog_2_method_13_code aI_188_11 = true := by decide +kernel
def aS_188 (pc : Nat) : sx_IL := (if pc < 66 then (if pc < 32 then (if pc < 9 then aI_188_0 else (if pc < 21 then aI_188_1 else aI_188_2)) else (if pc < 44 then aI_188_3 else (if pc < 55 then aI_188_4 else aI_188_5))) else (if pc < 104 then (if pc < 78 then aI_188_6 else (if pc < 90 then aI_188_7 else aI_188_8)) else (if pc < 116 then aI_188_9 else (if pc < 129 then aI_188_10 else aI_188_11))))
theorem aT_188 (pc : Nat) : sx_iOk prog_2_method_13_code (aS_188 pc) := (sx_ite (p := fun l => sx_iOk prog_2_method_13_code l) (sx_ite (p := fun l => sx_iOk prog_2_method_13_code l) (sx_ite (p := fun l => sx_iOk prog_2_method_13_code l) (sx_iB_s aJ_188_0) (sx_ite (p := fun l => sx_iOk prog_2_method_13_code l) (sx_iB_s aJ_188_1) (sx_iB_s aJ_188_2))) (sx_ite (p := fun l => sx_iOk prog_2_method_13_code l) (sx_iB_s aJ_188_3) (sx_ite (p := fun l => sx_iOk prog_2_method_13_code l) (sx_iB_s aJ_188_4) (sx_iB_s aJ_188_5)))) (sx_ite (p := fun l => sx_iOk prog_2_method_13_code l) (sx_ite (p := fun l => sx_iOk prog_2_method_13_code l) (sx_iB_s aJ_188_6) (sx_ite (p := fun l => sx_iOk prog_2_method_13_code l) (sx_iB_s aJ_188_7) (sx_iB_s aJ_188_8))) (sx_ite (p := fun l => sx_iOk prog_2_method_13_code l) (sx_iB_s aJ_188_9) (sx_ite (p := fun l => sx_iOk prog_2_method_13_code l) (sx_iB_s aJ_188_10) (sx_iB_s aJ_188_11)))))
def aW_188 : Nat → Option (Instr × Nat) := fun pc => sx_iF (aS_188 pc) pc
theorem aX_188 : ∀ pc i len, aW_188 pc = some (i, len) → decode aM_188.1.2.1 pc = .ok (i, len) := fun pc i len h => sx_iF_s (aT_188 pc) h
def aI_189_0 : sx_IL := [(0, .aload_n 0, 1), (1, .getfield 74, 3), (4, .getfield 259, 3), (7, .aload_n 0, 1), (8, .getfield 263, 3), (11, .getfield 111, 3)]
theorem aJ_189_0 : sx_iB prog_2_method_14_code aI_189_0 = true := by decide +kernel
def aI_189_1 : sx_IL := [(14, .iconst 3, 1), (15, .iload_n 1, 1), (16, .bipush 8, 2), (18, .invokevirtual 266, 3), (21, .istore_n 2, 1), (22, .iload_n 2, 1)]
theorem aJ_189_1 : sx_iB prog_2_method_14_code aI_189_1 = true := by decide +kernel
def aI_189_2 : sx_IL := [(23, .ifCond .eq 5, 3), (26, .iload_n 2, 1), (27, .ireturn, 1), (28, .aload_n 0, 1), (29, .getfield 74, 3), (32, .getfield 259, 3)]
theorem aJ_189_2 : sx_iB prog_2_method_14_code aI_189_2 = true := by decide +kernel
def aI_189_3 : sx_IL := [(35, .bipush 8, 2), (37, .invokevirtual 181, 3), (40, .istore_n 3, 1), (41, .aload_n 0, 1), (42, .getfield 74, 3), (45, .getfield 259, 3)]
theorem aJ_189_3 : sx_iB prog_2_method_14_code aI_189_3 = true := by decide +kernel
def aI_189_4 : sx_IL := [(48, .getfield 270, 3), (51, .ifCond .ne 14, 3), (54, .iload_n 3, 1), (55, .ifCond .eq 15, 3), (58, .aload_n 0, 1), (59, .getfield 53, 3)]
theorem aJ_189_4 : sx_iB prog_2_method_14_code aI_189_4 = true := by decide +kernel
def aI_189_5 : sx_IL := [(62, .ifCond .ne 8, 3), (65, .bipush 110, 2), (67, .goto 20, 3), (70, .iload_n 3, 1), (71, .ifCond .eq 15, 3), (74, .aload_n 0, 1)]
theorem aJ_189_5 : sx_iB prog_2_method_14_code aI_189_5 = true := by decide +kernel
def aI_189_6 : sx_IL := [(75, .getfield 17, 3), (78, .ifCond .eq 8, 3), (81, .bipush 47, 2), (83, .goto 4, 3), (86, .iconst 0, 1), (87, .ireturn, 1)]
theorem aJ_189_6 : sx_iB prog_2_method_14_code aI_189_6 = true := by decide +kernel
def aS_189 (pc : Nat) : sx_IL := (if pc < 35 then (if pc < 14 then aI_189_0 else (if pc < 23 then aI_189_1 else aI_189_2)) else (if pc < 62 then (if pc < 48 then aI_189_3 else aI_189_4) else (if pc < 75 then aI_189_5 else aI_189_6)))
theorem aT_189 (pc : Nat) : sx_iOk prog_2_method_14_code (aS_189 pc) := (sx_ite (p := fun l => sx_iOk prog_2_method_14_code l) (sx_ite (p := fun l => sx_iOk prog_2_method_14_code l) (sx_iB_s aJ_189_0) (sx_ite (p := fun l => sx_iOk prog_2_method_14_code l) (sx_iB_s aJ_189_1) (sx_iB_s aJ_189_2))) (sx_ite (p := fun l => sx_iOk prog_2_method_14_code l) (sx_ite (p := fun l => sx_iOk prog_2_method_14_code l) (sx_iB_s aJ_189_3) (sx_iB_s aJ_189_4)) (sx_ite (p := fun l => sx_iOk prog_2_method_14_code l) (sx_iB_s aJ_189_5) (sx_iB_s aJ_189_6))))
def aW_189 : Nat → Option (Instr × Nat) := fun pc => sx_iF (aS_189 pc) pc
theorem aX_189 : ∀ pc i len, aW_189 pc = some (i, len) → decode aM_189.1.2.1 pc = .ok (i, len) := fun pc i len h => sx_iF_s (aT_189 pc) h
def aI_190_0 : sx_IL := [(0, .aload_n 0, 1), (1, .getfield 74, 3), (4, .getfield 259, 3), (7, .aload_n 0, 1), (8, .getfield 263, 3), (11, .getfield 111, 3)]
theorem aJ_190_0 : sx_iB prog_2_method_15_code aI_190_0 = true := by decide +kernel
def aI_190_1 : sx_IL := [(14, .iconst 3, 1), (15, .iload_n 1, 1), (16, .bipush 13, 2), (18, .invokevirtual 266, 3), (21, .istore_n 2, 1), (22, .iload_n 2, 1)]
theorem aJ_190_1 : sx_iB prog_2_method_15_code aI_190_1 = true := by decide +kernel
def aI_190_2 : sx_IL := [(23, .ifCond .eq 5, 3), (26, .iload_n 2, 1), (27, .ireturn, 1), (28, .aload_n 0, 1), (29, .getfield 74, 3), (32, .getfield 259, 3)]
theorem aJ_190_2 : sx_iB prog_2_method_15_code aI_190_2 = true := by decide +kernel
def aI_190_3 : sx_IL := [(35, .getfield 270, 3), (38, .ifCond .eq 8, 3), (41, .bipush 110, 2), (43, .goto 23, 3), (46, .aload_n 0, 1), (47, .getfield 74, 3)]
theorem aJ_190_3 : sx_iB prog_2_method_15_code aI_190_3 = true := by decide +kernel
def aI_190_4 : sx_IL := [(50, .getfield 259, 3), (53, .iconst 5, 1), (54, .invokevirtual 181, 3), (57, .ifCond .eq 7, 3), (60, .iconst 0, 1), (61, .goto 5, 3)]
theorem aJ_190_4 : sx_iB prog_2_method_15_code aI_190_4 = true := by decide +kernel
def aI_190_5 : sx_IL := [(64, .bipush 109, 2), (66, .ireturn, 1)]
theorem aJ_190_5 : sx_iB prog_2_method_15_code aI_190_5 = true := by decide +kernel
def aS_190 (pc : Nat) : sx_IL := (if pc < 35 then (if pc < 14 then aI_190_0 else (if pc < 23 then aI_190_1 else aI_190_2)) else (if pc < 50 then aI_190_3 else (if pc < 64 then aI_190_4 else aI_190_5)))
theorem aT_190 (pc : Nat) : sx_iOk prog_2_method_15_code (aS_190 pc) := (sx_ite (p := fun l => sx_iOk prog_2_method_15_code l) (sx_ite (p := fun l => sx_iOk prog_2_method_15_code l) (sx_iB_s aJ_190_0) (sx_ite (p := fun l => sx_iOk prog_2_method_15_code l) (sx_iB_s aJ_190_1) (sx_iB_s aJ_190_2))) (sx_ite (p := fun l => sx_iOk prog_2_method_15_code l) (sx_iB_s aJ_190_3) (sx_ite (p := fun l => sx_iOk prog_2_method_15_code l) (sx_iB_s aJ_190_4) (sx_iB_s aJ_190_5))))
def aW_190 : Nat → Option (Instr × Nat) := fun pc => sx_iF (aS_190 pc) pc
theorem aX_190 : ∀ pc i len, aW_190 pc = some (i, len) → decode aM_190.1.2.1 pc = .ok (i, len) := fun pc i len h => sx_iF_s (aT_190 pc) h
def aI_191_0 : sx_IL := [(0, .iload_n 1, 1), (1, .bipush 12, 2), (3, .if_icmp .eq 6, 3), (6, .bipush 50, 2), (8, .ireturn, 1), (9, .aload_n 0, 1)]
theorem aJ_191_0 : sx_iB prog_12_method_46_code aI_191_0 = true := by decide +kernel
def aI_191_1 : sx_IL := [(10, .getfield 23, 3), (13, .iconst 3, 1), (14, .invokevirtual 59, 3), (17, .istore_n 3, 1), (18, .aload_n 0, 1), (19, .getfield 47, 3)]
theorem aJ_191_1 : sx_iB prog_12_method_46_code aI_191_1 = true := by decide +kernel
def aI_191_2 : sx_IL := [(22, .iconst 2, 1), (23, .iload_n 3, 1), (24, .invokevirtual 330, 3), (27, .ifCond .ne 6, 3), (30, .bipush 47, 2), (32, .ireturn, 1)]
theorem aJ_191_2 : sx_iB prog_12_method_46_code aI_191_2 = true := by decide +kernel
def aI_191_3 : sx_IL := [(33, .aload_n 0, 1), (34, .iload_n 2, 1), (35, .aload_n 0, 1), (36, .invokevirtual 248, 3), (39, .invokevirtual 285, 3), (42, .astore 4, 2)]
theorem aJ_191_3 : sx_iB prog_12_method_46_code aI_191_3 = true := by decide +kernel
def aI_191_4 : sx_IL := [(44, .aload_n 0, 1), (45, .getfield 43, 3), (48, .getfield 155, 3), (51, .iload_n 3, 1), (52, .aload_n 0, 1), (53, .getfield 333, 3)]
theorem aJ_191_4 : sx_iB prog_12_method_46_code aI_191_4 = true := by decide +kernel
def aI_191_5 : sx_IL := [(56, .aload_n 0, 1), (57, .getfield 23, 3), (60, .iconst 4, 1), (61, .invokevirtual 336, 3), (64, .aload 4, 2), (66, .getfield 143, 3)]
theorem aJ_191_5 : sx_iB prog_12_method_46_code aI_191_5 = true := by decide +kernel
def aI_191_6 : sx_IL := [(69, .iconst 0, 1), (70, .aload 4, 2), (72, .getfield 55, 3), (75, .invokevirtual 339, 3), (78, .istore 5, 2), (80, .iload 5, 2)]
theorem aJ_191_6 : sx_iB prog_12_method_46_code aI_191_6 = true := by decide +kernel
def aI_191_7 : sx_IL := [(82, .ifCond .eq 7, 3), (85, .iconst 0, 1), (86, .goto 5, 3), (89, .bipush 51, 2), (91, .ireturn, 1)]
theorem aJ_191_7 : sx_iB prog_12_method_46_code aI_191_7 = true := by decide +kernel
def aS_191 (pc : Nat) : sx_IL := (if pc < 44 then (if pc < 22 then (if pc < 10 then aI_191_0 else aI_191_1) else (if pc < 33 then aI_191_2 else aI_191_3)) else (if pc < 69 then (if pc < 56 then aI_191_4 else aI_191_5) else (if pc < 82 then aI_191_6 else aI_191_7)))
theorem aT_191 (pc : Nat) : sx_iOk prog_12_method_46_code (aS_191 pc) := (sx_ite (p := fun l => sx_iOk prog_12_method_46_code l) (sx_ite (p := fun l => sx_iOk prog_12_method_46_code l) (sx_ite (p := fun l => sx_iOk prog_12_method_46_code l) (sx_iB_s aJ_191_0) (sx_iB_s aJ_191_1)) (sx_ite (p := fun l => sx_iOk prog_12_method_46_code l) (sx_iB_s aJ_191_2) (sx_iB_s aJ_191_3))) (sx_ite (p := fun l => sx_iOk prog_12_method_46_code l) (sx_ite (p := fun l => sx_iOk prog_12_method_46_code l) (sx_iB_s aJ_191_4) (sx_iB_s aJ_191_5)) (sx_ite (p := fun l => sx_iOk prog_12_method_46_code l) (sx_iB_s aJ_191_6) (sx_iB_s aJ_191_7))))
def aW_191 : Nat → Option (Instr × Nat) := fun pc => sx_iF (aS_191 pc) pc
theorem aX_191 : ∀ pc i len, aW_191 pc = some (i, len) → decode aM_191.1.2.1 pc = .ok (i, len) := fun pc i len h => sx_iF_s (aT_191 pc) h
def aI_192_0 : sx_IL := [(0, .aload_n 0, 1), (1, .getfield 29, 3), (4, .iconst 1, 1), (5, .iaload, 1), (6, .ifCond .ne 7, 3), (9, .lconst 0, 1)]
theorem aJ_192_0 : sx_iB prog_12_method_25_code aI_192_0 = true := by decide +kernel
def aI_192_1 : sx_IL := [(10, .goto 11, 3), (13, .aload_n 0, 1), (14, .aload_n 0, 1), (15, .invokevirtual 226, 3), (18, .invokevirtual 229, 3), (21, .lreturn, 1)]
theorem aJ_192_1 : sx_iB prog_12_method_25_code aI_192_1 = true := by decide +kernel
def aS_192 (pc : Nat) : sx_IL := (if pc < 10 then aI_192_0 else aI_192_1)
theorem aT_192 (pc : Nat) : sx_iOk prog_12_method_25_code (aS_192 pc) := (sx_ite (p := fun l => sx_iOk prog_12_method_25_code l) (sx_iB_s aJ_192_0) (sx_iB_s aJ_192_1))
def aW_192 : Nat → Option (Instr × Nat) := fun pc => sx_iF (aS_192 pc) pc
theorem aX_192 : ∀ pc i len, aW_192 pc = some (i, len) → decode aM_192.1.2.1 pc = .ok (i, len) := fun pc i len h => sx_iF_s (aT_192 pc) h
def aI_193_0 : sx_IL := [(0, .aload_n 0, 1), (1, .getfield 29, 3), (4, .iconst 1, 1), (5, .iaload, 1), (6, .invokestatic 177, 3), (9, .ireturn, 1)]
theorem aJ_193_0 : sx_iB prog_12_method_24_code aI_193_0 = true := by decide +kernel
def aS_193 (pc : Nat) : sx_IL := aI_193_0
theorem aT_193 (pc : Nat) : sx_iOk prog_12_method_24_code (aS_193 pc) := (sx_iB_s aJ_193_0)
def aW_193 : Nat → Option (Instr × Nat) := fun pc => sx_iF (aS_193 pc) pc
theorem aX_193 : ∀ pc i len, aW_193 pc = some (i, len) → decode aM_193.1.2.1 pc = .ok (i, len) := fun pc i len h => sx_iF_s (aT_193 pc) h
def aI_194_0 : sx_IL := [(0, .aload_n 0, 1), (1, .getfield 43, 3), (4, .getfield 180, 3), (7, .astore 4, 2), (9, .aload 4, 2), (11, .invokevirtual 89, 3)]
theorem aJ_194_0 : sx_iB prog_12_method_40_code aI_194_0 = true := by decide +kernel
def aI_194_1 : sx_IL := [(14, .aload 4, 2), (16, .iload_n 1, 1), (17, .invokevirtual 168, 3), (20, .aload 4, 2), (22, .lload_n 2, 1), (23, .invokevirtual 284, 3)]
theorem aJ_194_1 : sx_iB prog_12_method_40_code aI_194_1 = true := by decide +kernel
def aI_194_2 : sx_IL := [(26, .aload 4, 2), (28, .areturn, 1)]
theorem aJ_194_2 : sx_iB prog_12_method_40_code aI_194_2 = true := by decide +kernel
def aS_194 (pc : Nat) : sx_IL := (if pc < 14 then aI_194_0 else (if pc < 26 then aI_194_1 else aI_194_2))
theorem aT_194 (pc : Nat) : sx_iOk prog_12_method_40_code (aS_194 pc) := (sx_ite (p := fun l => sx_iOk prog_12_method_40_code l) (sx_iB_s aJ_194_0) (sx_ite (p := fun l => sx_iOk prog_12_method_40_code l) (sx_iB_s aJ_194_1) (sx_iB_s aJ_194_2)))
def aW_194 : Nat → Option (Instr × Nat) := fun pc => sx_iF (aS_194 pc) pc
theorem aX_194 : ∀ pc i len, aW_194 pc = some (i, len) → decode aM_194.1.2.1 pc = .ok (i, len) := fun pc i len h => sx_iF_s (aT_194 pc) h
def aI_195_0 : sx_IL := [(0, .aload_n 0, 1), (1, .iload_n 1, 1), (2, .invokevirtual 27, 3), (5, .i2l, 1), (6, .bipush 32, 2), (8, .lshl, 1)]
theorem aJ_195_0 : sx_iB prog_9_method_6_code aI_195_0 = true := by decide +kernel
def aI_195_1 : sx_IL := [(9, .aload_n 0, 1), (10, .iload_n 1, 1), (11, .iconst 4, 1), (12, .iadd, 1), (13, .invokevirtual 27, 3), (16, .i2l, 1)]
theorem aJ_195_1 : sx_iB prog_9_method_6_code aI_195_1 = true := by decide +kernel
def aI_195_2 : sx_IL := [(17, .ldc2_w 30, 3), (20, .land, 1), (21, .lor, 1), (22, .lreturn, 1)]
theorem aJ_195_2 : sx_iB prog_9_method_6_code aI_195_2 = true := by decide +kernel
def aS_195 (pc : Nat) : sx_IL := (if pc < 9 then aI_195_0 else (if pc < 17 then aI_195_1 else aI_195_2))
theorem aT_195 (pc : Nat) : sx_iOk prog_9_method_6_code (aS_195 pc) := (sx_ite (p := fun l => sx_iOk prog_9_method_6_code l) (sx_iB_s aJ_195_0) (sx_ite (p := fun l => sx_iOk prog_9_method_6_code l) (sx_iB_s aJ_195_1) (sx_iB_s aJ_195_2)))
def aW_195 : Nat → Option (Instr × Nat) := fun pc => sx_iF (aS_195 pc) pc
theorem aX_195 : ∀ pc i len, aW_195 pc = some (i, len) → decode aM_195.1.2.1 pc = .ok (i, len) := fun pc i len h => sx_iF_s (aT_195 pc) h
def aI_196_0 : sx_IL := [(0, .iload_n 1, 1), (1, .bipush 11, 2), (3, .if_icmp .eq 8, 3), (6, .bipush 50, 2), (8, .goto 30, 3), (11, .aload_n 0, 1)]
theorem aJ_196_0 : sx_iB prog_12_method_47_code aI_196_0 = true := by decide +kernel
def aI_196_1 : sx_IL := [(12, .getfield 23, 3), (15, .iconst 3, 1), (16, .invokevirtual 336, 3), (19, .aload_n 0, 1), (20, .lload_n 2, 1), (21, .aload_n 0, 1)]
theorem aJ_196_1 : sx_iB prog_12_method_47_code aI_196_1 = true := by decide +kernel
def aI_196_2 : sx_IL := [(22, .invokevirtual 248, 3), (25, .invokevirtual 296, 3), (28, .lcmp, 1), (29, .ifCond .eq 8, 3), (32, .bipush 51, 2), (34, .goto 4, 3)]
theorem aJ_196_2 : sx_iB prog_12_method_47_code aI_196_2 = true := by decide +kernel
def aI_196_3 : sx_IL := [(37, .iconst 0, 1), (38, .ireturn, 1)]
theorem aJ_196_3 : sx_iB prog_12_method_47_code aI_196_3 = true := by decide +kernel
def aS_196 (pc : Nat) : sx_IL := (if pc < 22 then (if pc < 12 then aI_196_0 else aI_196_1) else (if pc < 37 then aI_196_2 else aI_196_3))
theorem aT_196 (pc : Nat) : sx_iOk prog_12_method_47_code (aS_196 pc) := (sx_ite (p := fun l => sx_iOk prog_12_method_47_code l) (sx_ite (p := fun l => sx_iOk prog_12_method_47_code l) (sx_iB_s aJ_196_0) (sx_iB_s aJ_196_1)) (sx_ite (p := fun l => sx_iOk prog_12_method_47_code l) (sx_iB_s aJ_196_2) (sx_iB_s aJ_196_3)))
def aW_196 : Nat → Option (Instr × Nat) := fun pc => sx_iF (aS_196 pc) pc
theorem aX_196 : ∀ pc i len, aW_196 pc = some (i, len) → decode aM_196.1.2.1 pc = .ok (i, len) := fun pc i len h => sx_iF_s (aT_196 pc) h
def aI_197_0 : sx_IL := [(0, .aload_n 0, 1), (1, .getfield 43, 3), (4, .getfield 155, 3), (7, .astore 5, 2), (9, .aload 5, 2), (11, .aload_n 0, 1)]
theorem aJ_197_0 : sx_iB prog_12_method_35_code aI_197_0 = true := by decide +kernel
def aI_197_1 : sx_IL := [(12, .invokevirtual 226, 3), (15, .aload 5, 2), (17, .aload_n 0, 1), (18, .invokevirtual 226, 3), (21, .lload_n 1, 1), (22, .bipush 102, 2)]
theorem aJ_197_1 : sx_iB prog_12_method_35_code aI_197_1 = true := by decide +kernel
def aI_197_2 : sx_IL := [(24, .lconst 0, 1), (25, .invokevirtual 187, 3), (28, .lload_n 3, 1), (29, .invokevirtual 238, 3), (32, .lreturn, 1)]
theorem aJ_197_2 : sx_iB prog_12_method_35_code aI_197_2 = true := by decide +kernel
def aS_197 (pc : Nat) : sx_IL := (if pc < 12 then aI_197_0 else (if pc < 24 then aI_197_1 else aI_197_2))
theorem aT_197 (pc : Nat) : sx_iOk prog_12_method_35_code (aS_197 pc) := (sx_ite (p := fun l => sx_iOk prog_12_method_35_code l) (sx_iB_s aJ_197_0) (sx_ite (p := fun l => sx_iOk prog_12_method_35_code l) (sx_iB_s aJ_197_1) (sx_iB_s aJ_197_2)))
def aW_197 : Nat → Option (Instr × Nat) := fun pc => sx_iF (aS_197 pc) pc
theorem aX_197 : ∀ pc i len, aW_197 pc = some (i, len) → decode aM_197.1.2.1 pc = .ok (i, len) := fun pc i len h => sx_iF_s (aT_197 pc) h
def aI_198_0 : sx_IL := [(0, .iload_n 1, 1), (1, .iconst 4, 1), (2, .if_icmp .eq 8, 3), (5, .bipush 50, 2), (7, .goto 21, 3), (10, .aload_n 0, 1)]
theorem aJ_198_0 : sx_iB prog_12_method_48_code aI_198_0 = true := by decide +kernel
def aI_198_1 : sx_IL := [(11, .getfield 23, 3), (14, .iconst 3, 1), (15, .invokevirtual 59, 3), (18, .iconst 1, 1), (19, .if_icmp .le 8, 3), (22, .bipush 47, 2)]
theorem aJ_198_1 : sx_iB prog_12_method_48_code aI_198_1 = true := by decide +kernel
def aI_198_2 : sx_IL := [(24, .goto 4, 3), (27, .iconst 0, 1), (28, .ireturn, 1)]
theorem aJ_198_2 : sx_iB prog_12_method_48_code aI_198_2 = true := by decide +kernel
def aS_198 (pc : Nat) : sx_IL := (if pc < 11 then aI_198_0 else (if pc < 24 then aI_198_1 else aI_198_2))
theorem aT_198 (pc : Nat) : sx_iOk prog_12_method_48_code (aS_198 pc) := (sx_ite (p := fun l => sx_iOk prog_12_method_48_code l) (sx_iB_s aJ_198_0) (sx_ite (p := fun l => sx_iOk prog_12_method_48_code l) (sx_iB_s aJ_198_1) (sx_iB_s aJ_198_2)))
def aW_198 : Nat → Option (Instr × Nat) := fun pc => sx_iF (aS_198 pc) pc
theorem aX_198 : ∀ pc i len, aW_198 pc = some (i, len) → decode aM_198.1.2.1 pc = .ok (i, len) := fun pc i len h => sx_iF_s (aT_198 pc) h
def aI_199_0 : sx_IL := [(0, .aload_n 0, 1), (1, .iload_n 1, 1), (2, .invokevirtual 13, 3), (5, .ifCond .ne 6, 3), (8, .bipush 10, 2), (10, .ireturn, 1)]
theorem aJ_199_0 : sx_iB prog_10_method_3_code aI_199_0 = true := by decide +kernel
def aI_199_1 : sx_IL := [(11, .iload_n 1, 1), (12, .lookupswitch 94 #[(1, 52), (5, 58), (15, 70), (20, 78), (24, 88)], 52), (64, .aload_n 0, 1), (65, .iload_n 2, 1), (66, .invokevirtual 17, 3), (69, .ireturn, 1)]
theorem aJ_199_1 : sx_iB prog_10_method_3_code aI_199_1 = true := by decide +kernel
def aI_199_2 : sx_IL := [(70, .iload_n 2, 1), (71, .iconst 3, 1), (72, .if_icmp .ne 7, 3), (75, .iconst 0, 1), (76, .goto 5, 3), (79, .bipush 50, 2)]
theorem aJ_199_2 : sx_iB prog_10_method_3_code aI_199_2 = true := by decide +kernel
def aI_199_3 : sx_IL := [(81, .ireturn, 1), (82, .aload_n 0, 1), (83, .iload_n 2, 1), (84, .bipush 67, 2), (86, .invokevirtual 21, 3), (89, .ireturn, 1)]
theorem aJ_199_3 : sx_iB prog_10_method_3_code aI_199_3 = true := by decide +kernel
def aI_199_4 : sx_IL := [(90, .aload_n 0, 1), (91, .iload_n 2, 1), (92, .aload_n 0, 1), (93, .getfield 25, 3), (96, .invokevirtual 29, 3), (99, .ireturn, 1)]
theorem aJ_199_4 : sx_iB prog_10_method_3_code aI_199_4 = true := by decide +kernel
def aI_199_5 : sx_IL := [(100, .aload_n 0, 1), (101, .iload_n 2, 1), (102, .invokevirtual 33, 3), (105, .ireturn, 1), (106, .iconst 0, 1), (107, .ireturn, 1)]
theorem aJ_199_5 : sx_iB prog_10_method_3_code aI_199_5 = true := by decide +kernel
def aS_199 (pc : Nat) : sx_IL := (if pc < 81 then (if pc < 11 then aI_199_0 else (if pc < 70 then aI_199_1 else aI_199_2)) else (if pc < 90 then aI_199_3 else (if pc < 100 then aI_199_4 else aI_199_5)))
theorem aT_199 (pc : Nat) : sx_iOk prog_10_method_3_code (aS_199 pc) := (sx_ite (p := fun l => sx_iOk prog_10_method_3_code l) (sx_ite (p := fun l => sx_iOk prog_10_method_3_code l) (sx_iB_s aJ_199_0) (sx_ite (p := fun l => sx_iOk prog_10_method_3_code l) (sx_iB_s aJ_199_1) (sx_iB_s aJ_199_2))) (sx_ite (p := fun l => sx_iOk prog_10_method_3_code l) (sx_iB_s aJ_199_3) (sx_ite (p := fun l => sx_iOk prog_10_method_3_code l) (sx_iB_s aJ_199_4) (sx_iB_s aJ_199_5))))
def aW_199 : Nat → Option (Instr × Nat) := fun pc => sx_iF (aS_199 pc) pc
theorem aX_199 : ∀ pc i len, aW_199 pc = some (i, len) → decode aM_199.1.2.1 pc = .ok (i, len) := fun pc i len h => sx_iF_s (aT_199 pc) h
def aI_200_0 : sx_IL := [(0, .aload_n 0, 1), (1, .getfield 7, 3), (4, .tableswitch 94 0 4 #[36, 47, 58, 70, 82], 36), (40, .iload_n 1, 1), (41, .iconst 1, 1), (42, .if_icmp .ne 7, 3)]
theorem aJ_200_0 : sx_iB prog_10_method_2_code aI_200_0 = true := by decide +kernel
def aI_200_1 : sx_IL := [(45, .iconst 1, 1), (46, .goto 4, 3), (49, .iconst 0, 1), (50, .ireturn, 1), (51, .iload_n 1, 1), (52, .iconst 5, 1)]
theorem aJ_200_1 : sx_iB prog_10_method_2_code aI_200_1 = true := by decide +kernel
def aI_200_2 : sx_IL := [(53, .if_icmp .ne 7, 3), (56, .iconst 1, 1), (57, .goto 4, 3), (60, .iconst 0, 1), (61, .ireturn, 1), (62, .iload_n 1, 1)]
theorem aJ_200_2 : sx_iB prog_10_method_2_code aI_200_2 = true := by decide +kernel
def aI_200_3 : sx_IL := [(63, .bipush 11, 2), (65, .if_icmp .ne 7, 3), (68, .iconst 1, 1), (69, .goto 4, 3), (72, .iconst 0, 1), (73, .ireturn, 1)]
theorem aJ_200_3 : sx_iB prog_10_method_2_code aI_200_3 = true := by decide +kernel
def aI_200_4 : sx_IL := [(74, .iload_n 1, 1), (75, .bipush 15, 2), (77, .if_icmp .ne 7, 3), (80, .iconst 1, 1), (81, .goto 4, 3), (84, .iconst 0, 1)]
theorem aJ_200_4 : sx_iB prog_10_method_2_code aI_200_4 = true := by decide +kernel
def aI_200_5 : sx_IL := [(85, .ireturn, 1), (86, .iload_n 1, 1), (87, .bipush 20, 2), (89, .if_icmp .ne 7, 3), (92, .iconst 1, 1), (93, .goto 4, 3)]
theorem aJ_200_5 : sx_iB prog_10_method_2_code aI_200_5 = true := by decide +kernel
def aI_200_6 : sx_IL := [(96, .iconst 0, 1), (97, .ireturn, 1), (98, .iload_n 1, 1), (99, .bipush 24, 2), (101, .if_icmp .ne 7, 3), (104, .iconst 1, 1)]
theorem aJ_200_6 : sx_iB prog_10_method_2_code aI_200_6 = true := by decide +kernel
def aI_200_7 : sx_IL := [(105, .goto 4, 3), (108, .iconst 0, 1), (109, .ireturn, 1)]
theorem aJ_200_7 : sx_iB prog_10_method_2_code aI_200_7 = true := by decide +kernel
def aS_200 (pc : Nat) : sx_IL := (if pc < 74 then (if pc < 53 then (if pc < 45 then aI_200_0 else aI_200_1) else (if pc < 63 then aI_200_2 else aI_200_3)) else (if pc < 96 then (if pc < 85 then aI_200_4 else aI_200_5) else (if pc < 105 then aI_200_6 else aI_200_7)))
theorem aT_200 (pc : Nat) : sx_iOk prog_10_method_2_code (aS_200 pc) := (sx_ite (p := fun l => sx_iOk prog_10_method_2_code l) (sx_ite (p := fun l => sx_iOk prog_10_method_2_code l) (sx_ite (p := fun l => sx_iOk prog_10_method_2_code l) (sx_iB_s aJ_200_0) (sx_iB_s aJ_200_1)) (sx_ite (p := fun l => sx_iOk prog_10_method_2_code l) (sx_iB_s aJ_200_2) (sx_iB_s aJ_200_3))) (sx_ite (p := fun l => sx_iOk prog_10_method_2_code l) (sx_ite (p := fun l => sx_iOk prog_10_method_2_code l) (sx_iB_s aJ_200_4) (sx_iB_s aJ_200_5)) (sx_ite (p := fun l => sx_iOk prog_10_method_2_code l) (sx_iB_s aJ_200_6) (sx_iB_s aJ_200_7))))
def aW_200 : Nat → Option (Instr × Nat) := fun pc => sx_iF (aS_200 pc) pc
theorem aX_200 : ∀ pc i len, aW_200 pc = some (i, len) → decode aM_200.1.2.1 pc = .ok (i, len) := fun pc i len h => sx_iF_s (aT_200 pc) h
def aI_201_0 : sx_IL := [(0, .aload_n 0, 1), (1, .getfield 56, 3), (4, .getfield 60, 3), (7, .astore_n 2, 1), (8, .iload_n 1, 1), (9, .bipush 11, 2)]
theorem aJ_201_0 : sx_iB prog_10_method_7_code aI_201_0 = true := by decide +kernel
def aI_201_1 : sx_IL := [(11, .if_icmp .ge 6, 3), (14, .bipush 50, 2), (16, .ireturn, 1), (17, .aload_n 2, 1), (18, .aload_n 0, 1), (19, .getfield 66, 3)]
theorem aJ_201_1 : sx_iB prog_10_method_7_code aI_201_1 = true := by decide +kernel
def aI_201_2 : sx_IL := [(22, .getfield 70, 3), (25, .bipush 11, 2), (27, .iload_n 1, 1), (28, .iconst 1, 1), (29, .invokevirtual 75, 3), (32, .istore_n 3, 1)]
theorem aJ_201_2 : sx_iB prog_10_method_7_code aI_201_2 = true := by decide +kernel
def aI_201_3 : sx_IL := [(33, .iload_n 3, 1), (34, .ifCond .eq 5, 3), (37, .iload_n 3, 1), (38, .ireturn, 1), (39, .aload_n 2, 1), (40, .iconst 1, 1)]
theorem aJ_201_3 : sx_iB prog_10_method_7_code aI_201_3 = true := by decide +kernel
def aI_201_4 : sx_IL := [(41, .iconst 4, 1), (42, .invokevirtual 81, 3), (45, .ifCond .ne 6, 3), (48, .bipush 70, 2), (50, .ireturn, 1), (51, .aload_n 0, 1)]
theorem aJ_201_4 : sx_iB prog_10_method_7_code aI_201_4 = true := by decide +kernel
def aI_201_5 : sx_IL := [(52, .getfield 85, 3), (55, .ifnull 14, 3), (58, .aload_n 0, 1), (59, .aload_n 2, 1), (60, .invokevirtual 88, 3), (63, .ifCond .ne 6, 3)]
theorem aJ_201_5 : sx_iB prog_10_method_7_code aI_201_5 = true := by decide +kernel
def aI_201_6 : sx_IL := [(66, .bipush 47, 2), (68, .ireturn, 1), (69, .aload_n 2, 1), (70, .iconst 2, 1), (71, .invokevirtual 92, 3), (74, .ifCond .ne 6, 3)]
theorem aJ_201_6 : sx_iB prog_10_method_7_code aI_201_6 = true := by decide +kernel
def aI_201_7 : sx_IL := [(77, .bipush 109, 2), (79, .ireturn, 1), (80, .aload_n 0, 1), (81, .aload_n 0, 1), (82, .getfield 85, 3), (85, .ifnull 12, 3)]
theorem aJ_201_7 : sx_iB prog_10_method_7_code aI_201_7 = true := by decide +kernel
def aI_201_8 : sx_IL := [(88, .aload_n 0, 1), (89, .getfield 95, 3), (92, .iconst 1, 1), (93, .iaload, 1), (94, .goto 13, 3), (97, .aload_n 0, 1)]
theorem aJ_201_8 : sx_iB prog_10_method_7_code aI_201_8 = true := by decide +kernel
def aI_201_9 : sx_IL := [(98, .getfield 43, 3), (101, .iconst 0, 1), (102, .aload_n 2, 1), (103, .iconst 2, 1), (104, .invokevirtual 98, 3), (107, .putfield 102, 3)]
theorem aJ_201_9 : sx_iB prog_10_method_7_code aI_201_9 = true := by decide +kernel
def aI_201_10 : sx_IL := [(110, .aload_n 0, 1), (111, .getfield 102, 3), (114, .ifCond .ne 6, 3), (117, .bipush 40, 2), (119, .ireturn, 1), (120, .aload_n 0, 1)]
theorem aJ_201_10 : sx_iB prog_10_method_7_code aI_201_10 = true := by decide +kernel
def aI_201_11 : sx_IL := [(121, .aconst_null, 1), (122, .putfield 105, 3), (125, .aload_n 2, 1), (126, .bipush 10, 2), (128, .invokevirtual 92, 3), (131, .ifCond .eq 20, 3)]
theorem aJ_201_11 : sx_iB prog_10_method_7_code aI_201_11 = true := by decide +kernel
def aI_201_12 : sx_IL := [(134, .aload_n 2, 1), (135, .bipush 7, 2), (137, .invokevirtual 92, 3), (140, .ifCond .ne 6, 3), (143, .bipush 109, 2), (145, .ireturn, 1)]
theorem aJ_201_12 : sx_iB prog_10_method_7_code aI_201_12 = true := by decide +kernel
def aI_201_13 : sx_IL := [(146, .aload_n 0, 1), (147, .aload_n 2, 1), (148, .invokevirtual 109, 3), (151, .aload_n 0, 1), (152, .getfield 105, 3), (155, .ifnull 62, 3)]
theorem aJ_201_13 : sx_iB prog_10_method_7_code aI_201_13 = true := by decide +kernel
def aI_201_14 : sx_IL := [(158, .aload_n 0, 1), (159, .aload_n 0, 1), (160, .getfield 105, 3), (163, .getfield 113, 3), (166, .aload_n 0, 1), (167, .getfield 105, 3)]
theorem aJ_201_14 : sx_iB prog_10_method_7_code aI_201_14 = true := by decide +kernel
def aI_201_15 : sx_IL := [(170, .getfield 118, 3), (173, .aload_n 0, 1), (174, .getfield 66, 3), (177, .getfield 70, 3), (180, .aload_n 2, 1), (181, .getfield 121, 3)]
theorem aJ_201_15 : sx_iB prog_10_method_7_code aI_201_15 = true := by decide +kernel
def aI_201_16 : sx_IL := [(184, .invokevirtual 124, 3), (187, .lstore 4, 2), (189, .aload_n 0, 1), (190, .getfield 66, 3), (193, .aload_n 2, 1), (194, .getfield 121, 3)]
theorem aJ_201_16 : sx_iB prog_10_method_7_code aI_201_16 = true := by decide +kernel
def aI_201_17 : sx_IL := [(197, .bipush 8, 2), (199, .aload_n 0, 1), (200, .getfield 128, 3), (203, .imul, 1), (204, .iadd, 1), (205, .invokevirtual 131, 3)]
theorem aJ_201_17 : sx_iB prog_10_method_7_code aI_201_17 = true := by decide +kernel
def aI_201_18 : sx_IL := [(208, .lload 4, 2), (210, .lcmp, 1), (211, .ifCond .eq 6, 3), (214, .bipush 51, 2), (216, .ireturn, 1), (217, .aload_n 0, 1)]
theorem aJ_201_18 : sx_iB prog_10_method_7_code aI_201_18 = true := by decide +kernel
def aI_201_19 : sx_IL := [(218, .aload_n 2, 1), (219, .invokevirtual 135, 3), (222, .istore_n 3, 1), (223, .aload_n 0, 1), (224, .aload_n 0, 1), (225, .getfield 139, 3)]
theorem aJ_201_19 : sx_iB prog_10_method_7_code aI_201_19 = true := by decide +kernel
def aI_201_20 : sx_IL := [(228, .ifCond .eq 28, 3), (231, .aload_n 2, 1), (232, .iconst 4, 1), (233, .invokevirtual 92, 3), (236, .ifCond .eq 16, 3), (239, .aload_n 2, 1)]
theorem aJ_201_20 : sx_iB prog_10_method_7_code aI_201_20 = true := by decide +kernel
def aI_201_21 : sx_IL := [(240, .iconst 4, 1), (241, .iconst 0, 1), (242, .invokevirtual 142, 3), (245, .aload_n 0, 1), (246, .getfield 145, 3), (249, .if_icmp .eq 7, 3)]
theorem aJ_201_21 : sx_iB prog_10_method_7_code aI_201_21 = true := by decide +kernel
def aI_201_22 : sx_IL := [(252, .iconst 1, 1), (253, .goto 4, 3), (256, .iconst 0, 1), (257, .putfield 36, 3), (260, .iload_n 3, 1), (261, .ifCond .ne 10, 3)]
theorem aJ_201_22 : sx_iB prog_10_method_7_code aI_201_22 = true := by decide +kernel
def aI_201_23 : sx_IL := [(264, .aload_n 0, 1), (265, .getfield 36, 3), (268, .ifCond .eq 5, 3), (271, .iload_n 3, 1), (272, .ireturn, 1), (273, .aload_n 0, 1)]
theorem aJ_201_23 : sx_iB prog_10_method_7_code aI_201_23 = true := by decide +kernel
def aI_201_24 : sx_IL := [(274, .aload_n 0, 1), (275, .getfield 43, 3), (278, .invokevirtual 148, 3), (281, .putfield 152, 3), (284, .aload_n 0, 1), (285, .lconst 0, 1)]
theorem aJ_201_24 : sx_iB prog_10_method_7_code aI_201_24 = true := by decide +kernel
def aI_201_25 : sx_IL := [(286, .putfield 155, 3), (289, .aload_n 0, 1), (290, .getfield 139, 3), (293, .ifCond .eq 42, 3), (296, .aload_n 0, 1), (297, .aload_n 0, 1)]
theorem aJ_201_25 : sx_iB prog_10_method_7_code aI_201_25 = true := by decide +kernel
def aI_201_26 : sx_IL := [(298, .getfield 43, 3), (301, .invokevirtual 158, 3), (304, .putfield 162, 3), (307, .aload_n 0, 1), (308, .aload_n 0, 1), (309, .getfield 56, 3)]
theorem aJ_201_26 : sx_iB prog_10_method_7_code aI_201_26 = true := by decide +kernel
def aI_201_27 : sx_IL := [(312, .getfield 165, 3), (315, .aload_n 0, 1), (316, .getfield 145, 3), (319, .aload_n 0, 1), (320, .getfield 162, 3), (323, .aload_n 2, 1)]
theorem aJ_201_27 : sx_iB prog_10_method_7_code aI_201_27 = true := by decide +kernel
def aI_201_28 : sx_IL := [(324, .iconst 4, 1), (325, .iconst 1, 1), (326, .invokevirtual 169, 3), (329, .invokevirtual 172, 3), (332, .putfield 155, 3), (335, .aload_n 0, 1)]
theorem aJ_201_28 : sx_iB prog_10_method_7_code aI_201_28 = true := by decide +kernel
def aI_201_29 : sx_IL := [(336, .getfield 139, 3), (339, .ifCond .eq 17, 3), (342, .aload_n 0, 1), (343, .getfield 155, 3), (346, .lconst 0, 1), (347, .lcmp, 1)]
theorem aJ_201_29 : sx_iB prog_10_method_7_code aI_201_29 = true := by decide +kernel
def aI_201_30 : sx_IL := [(348, .ifCond .ne 8, 3), (351, .bipush 47, 2), (353, .goto 4, 3), (356, .iconst 0, 1), (357, .ireturn, 1)]
theorem aJ_201_30 : sx_iB prog_10_method_7_code aI_201_30 = true := by decide +kernel
def aS_201 (pc : Nat) : sx_IL := (if pc < 170 then (if pc < 77 then (if pc < 33 then (if pc < 11 then aI_201_0 else (if pc < 22 then aI_201_1 else aI_201_2)) else (if pc < 52 then (if pc < 41 then aI_201_3 else aI_201_4) else (if pc < 66 then aI_201_5 else aI_201_6))) else (if pc < 121 then (if pc < 98 then (if pc < 88 then aI_201_7 else aI_201_8) else (if pc < 110 then aI_201_9 else aI_201_10)) else (if pc < 146 then (if pc < 134 then aI_201_11 else aI_201_12) else (if pc < 158 then aI_201_13 else aI_201_14)))) else (if pc < 264 then (if pc < 218 then (if pc < 197 then (if pc < 184 then aI_201_15 else aI_201_16) else (if pc < 208 then aI_201_17 else aI_201_18)) else (if pc < 240 then (if pc < 228 then aI_201_19 else aI_201_20) else (if pc < 252 then aI_201_21 else aI_201_22))) else (if pc < 312 then (if pc < 286 then (if pc < 274 then aI_201_23 else aI_201_24) else (if pc < 298 then aI_201_25 else aI_201_26)) else (if pc < 336 then (if pc < 324 then aI_201_27 else aI_201_28) else (if pc < 348 then aI_201_29 else aI_201_30)))))
theorem aT_201 (pc : Nat) : sx_iOk prog_10_method_7_code (aS_201 pc) := (sx_ite (p := fun l => sx_iOk prog_10_method_7_code l) (sx_ite (p := fun l => sx_iOk prog_10_method_7_code l) (sx_ite (p := fun l => sx_iOk prog_10_method_7_code l) (sx_ite (p := fun l => sx_iOk prog_10_method_7_code l) (sx_iB_s aJ_201_0) (sx_ite (p := fun l => sx_iOk prog_10_method_7_code l) (sx_iB_s aJ_201_1) (sx_iB_s aJ_201_2))) (sx_ite (p := fun l => sx_iOk prog_10_method_7_code l) (sx_ite (p := fun l => sx_iOk prog_10_method_7_code l) (sx_iB_s aJ_201_3) (sx_iB_s aJ_201_4)) (sx_ite (p := fun l => sx_iOk prog_10_method_7_code l) (sx_iB_s aJ_201_5) (sx_iB_s aJ_201_6)))) (sx_ite (p := fun l => sx_iOk prog_10_method_7_code l) (sx_ite (p := fun l => sx_iOk prog_10_method_7_code l) (sx_ite (p := fun l => sx_iOk prog_10_method_7_code l) (sx_iB_s aJ_201_7) (sx_iB_s aJ_201_8)) (sx_ite (p := fun l => sx_iOk prog_10_method_7_code l) (sx_iB_s aJ_201_9) (sx_iB_s aJ_201_10))) (sx_ite (p := fun l => sx_iOk prog_10_method_7_code l) (sx_ite (p := fun l => sx_iOk prog_10_method_7_code l) (sx_iB_s aJ_201_11) (sx_iB_s aJ_201_12)) (sx_ite (p := fun l => sx_iOk prog_10_method_7_code l) (sx_iB_s aJ_201_13) (sx_iB_s aJ_201_14))))) (sx_ite (p := fun l => sx_iOk prog_10_method_7_code l) (sx_ite (p := fun l => sx_iOk prog_10_method_7_code l) (sx_ite (p := fun l => sx_iOk prog_10_method_7_code l) (sx_ite (p := fun l => sx_iOk prog_10_method_7_code l) (sx_iB_s aJ_201_15) (sx_iB_s aJ_201_16)) (sx_ite (p := fun l => sx_iOk prog_10_method_7_code l) (sx_iB_s aJ_201_17) (sx_iB_s aJ_201_18))) (sx_ite (p := fun l => sx_iOk prog_10_method_7_code l) (sx_ite (p := fun l => sx_iOk prog_10_method_7_code l) (sx_iB_s aJ_201_19) (sx_iB_s aJ_201_20)) (sx_ite (p := fun l => sx_iOk prog_10_method_7_code l) (sx_iB_s aJ_201_21) (sx_iB_s aJ_201_22)))) (sx_ite (p := fun l => sx_iOk prog_10_method_7_code l) (sx_ite (p := fun l => sx_iOk prog_10_method_7_code l) (sx_ite (p := fun l => sx_iOk prog_10_method_7_code l) (sx_iB_s aJ_201_23) (sx_iB_s aJ_201_24)) (sx_ite (p := fun l => sx_iOk prog_10_method_7_code l) (sx_iB_s aJ_201_25) (sx_iB_s aJ_201_26))) (sx_ite (p := fun l => sx_iOk prog_10_method_7_code l) (sx_ite (p := fun l => sx_iOk prog_10_method_7_code l) (sx_iB_s aJ_201_27) (sx_iB_s aJ_201_28)) (sx_ite (p := fun l => sx_iOk prog_10_method_7_code l) (sx_iB_s aJ_201_29) (sx_iB_s aJ_201_30))))))
def aW_201 : Nat → Option (Instr × Nat) := fun pc => sx_iF (aS_201 pc) pc
theorem aX_201 : ∀ pc i len, aW_201 pc = some (i, len) → decode aM_201.1.2.1 pc = .ok (i, len) := fun pc i len h => sx_iF_s (aT_201 pc) h
def aI_202_0 : sx_IL := [(0, .aload_n 0, 1), (1, .getfield 13, 3), (4, .iload_n 1, 1), (5, .iaload, 1), (6, .istore_n 3, 1), (7, .iload_n 3, 1)]
theorem aJ_202_0 : sx_iB prog_4_method_10_code aI_202_0 = true := by decide +kernel
def aI_202_1 : sx_IL := [(8, .ifCond .lt 31, 3), (11, .iload_n 3, 1), (12, .aload_n 0, 1), (13, .getfield 16, 3), (16, .iload_n 1, 1), (17, .iaload, 1)]
theorem aJ_202_1 : sx_iB prog_4_method_10_code aI_202_1 = true := by decide +kernel
def aI_202_2 : sx_IL := [(18, .if_icmp .ge 21, 3), (21, .aload_n 0, 1), (22, .getfield 7, 3), (25, .iload_n 3, 1), (26, .iaload, 1), (27, .iload_n 2, 1)]
theorem aJ_202_2 : sx_iB prog_4_method_10_code aI_202_2 = true := by decide +kernel
def aI_202_3 : sx_IL := [(28, .if_icmp .ne 5, 3), (31, .iconst 1, 1), (32, .ireturn, 1), (33, .iinc 3 1, 3), (36, .goto (-29), 3), (39, .iconst 0, 1)]
theorem aJ_202_3 : sx_iB prog_4_method_10_code aI_202_3 = true := by decide +kernel
def aI_202_4 : sx_IL := [(40, .ireturn, 1)]
theorem aJ_202_4 : sx_iB prog_4_method_10_code aI_202_4 = true := by decide +kernel
def aS_202 (pc : Nat) : sx_IL := (if pc < 18 then (if pc < 8 then aI_202_0 else aI_202_1) else (if pc < 28 then aI_202_2 else (if pc < 40 then aI_202_3 else aI_202_4)))
theorem aT_202 (pc : Nat) : sx_iOk prog_4_method_10_code (aS_202 pc) := (sx_ite (p := fun l => sx_iOk prog_4_method_10_code l) (sx_ite (p := fun l => sx_iOk prog_4_method_10_code l) (sx_iB_s aJ_202_0) (sx_iB_s aJ_202_1)) (sx_ite (p := fun l => sx_iOk prog_4_method_10_code l) (sx_iB_s aJ_202_2) (sx_ite (p := fun l => sx_iOk prog_4_method_10_code l) (sx_iB_s aJ_202_3) (sx_iB_s aJ_202_4))))
def aW_202 : Nat → Option (Instr × Nat) := fun pc => sx_iF (aS_202 pc) pc
theorem aX_202 : ∀ pc i len, aW_202 pc = some (i, len) → decode aM_202.1.2.1 pc = .ok (i, len) := fun pc i len h => sx_iF_s (aT_202 pc) h
def aI_203_0 : sx_IL := [(0, .aload_n 0, 1), (1, .getfield 56, 3), (4, .getfield 178, 3), (7, .astore_n 2, 1), (8, .aload_n 2, 1), (9, .aload_n 0, 1)]
theorem aJ_203_0 : sx_iB prog_10_method_8_code aI_203_0 = true := by decide +kernel
def aI_203_1 : sx_IL := [(10, .getfield 85, 3), (13, .getfield 70, 3), (16, .bipush 8, 2), (18, .aload_n 0, 1), (19, .getfield 85, 3), (22, .getfield 181, 3)]
theorem aJ_203_1 : sx_iB prog_10_method_8_code aI_203_1 = true := by decide +kernel
def aI_203_2 : sx_IL := [(25, .iconst 1, 1), (26, .invokevirtual 75, 3), (29, .pop, 1), (30, .iconst 1, 1), (31, .istore_n 3, 1), (32, .iload_n 3, 1)]
theorem aJ_203_2 : sx_iB prog_10_method_8_code aI_203_2 = true := by decide +kernel
def aI_203_3 : sx_IL := [(33, .bipush 7, 2), (35, .if_icmp .gt 25, 3), (38, .iload_n 3, 1), (39, .iconst 4, 1), (40, .if_icmp .eq 14, 3), (43, .aload_n 1, 1)]
theorem aJ_203_3 : sx_iB prog_10_method_8_code aI_203_3 = true := by decide +kernel
def aI_203_4 : sx_IL := [(44, .iload_n 3, 1), (45, .aload_n 2, 1), (46, .invokevirtual 184, 3), (49, .ifCond .ne 5, 3), (52, .iconst 0, 1), (53, .ireturn, 1)]
theorem aJ_203_4 : sx_iB prog_10_method_8_code aI_203_4 = true := by decide +kernel
def aI_203_5 : sx_IL := [(54, .iinc 3 1, 3), (57, .goto (-25), 3), (60, .aload_n 0, 1), (61, .getfield 66, 3), (64, .iconst 3, 1), (65, .invokevirtual 131, 3)]
theorem aJ_203_5 : sx_iB prog_10_method_8_code aI_203_5 = true := by decide +kernel
def aI_203_6 : sx_IL := [(68, .aload_n 0, 1), (69, .getfield 85, 3), (72, .iconst 0, 1), (73, .invokevirtual 131, 3), (76, .lcmp, 1), (77, .ifCond .ne 61, 3)]
theorem aJ_203_6 : sx_iB prog_10_method_8_code aI_203_6 = true := by decide +kernel
def aI_203_7 : sx_IL := [(80, .aload_n 1, 1), (81, .bipush 8, 2), (83, .invokevirtual 92, 3), (86, .ifCond .ne 52, 3), (89, .aload_n 1, 1), (90, .bipush 9, 2)]
theorem aJ_203_7 : sx_iB prog_10_method_8_code aI_203_7 = true := by decide +kernel
def aI_203_8 : sx_IL := [(92, .invokevirtual 92, 3), (95, .ifCond .eq 43, 3), (98, .aload_n 1, 1), (99, .bipush 9, 2), (101, .iconst 0, 1), (102, .invokevirtual 188, 3)]
theorem aJ_203_8 : sx_iB prog_10_method_8_code aI_203_8 = true := by decide +kernel
def aI_203_9 : sx_IL := [(105, .aload_n 0, 1), (106, .getfield 192, 3), (109, .lcmp, 1), (110, .ifCond .ne 28, 3), (113, .aload_n 1, 1), (114, .iconst 4, 1)]
theorem aJ_203_9 : sx_iB prog_10_method_8_code aI_203_9 = true := by decide +kernel
def aI_203_10 : sx_IL := [(115, .invokevirtual 92, 3), (118, .ifCond .eq 20, 3), (121, .aload_n 1, 1), (122, .iconst 4, 1), (123, .iconst 0, 1), (124, .invokevirtual 142, 3)]
theorem aJ_203_10 : sx_iB prog_10_method_8_code aI_203_10 = true := by decide +kernel
def aI_203_11 : sx_IL := [(127, .aload_n 0, 1), (128, .getfield 145, 3), (131, .if_icmp .ne 7, 3), (134, .iconst 1, 1), (135, .goto 4, 3), (138, .iconst 0, 1)]
theorem aJ_203_11 : sx_iB prog_10_method_8_code aI_203_11 = true := by decide +kernel
def aI_203_12 : sx_IL := [(139, .ireturn, 1)]
theorem aJ_203_12 : sx_iB prog_10_method_8_code aI_203_12 = true := by decide +kernel
def aS_203 (pc : Nat) : sx_IL := (if pc < 68 then (if pc < 33 then (if pc < 10 then aI_203_0 else (if pc < 25 then aI_203_1 else aI_203_2)) else (if pc < 44 then aI_203_3 else (if pc < 54 then aI_203_4 else aI_203_5))) else (if pc < 105 then (if pc < 80 then aI_203_6 else (if pc < 92 then aI_203_7 else aI_203_8)) else (if pc < 127 then (if pc < 115 then aI_203_9 else aI_203_10) else (if pc < 139 then aI_203_11 else aI_203_12))))
theorem aT_203 (pc : Nat) : sx_iOk prog_10_method_8_code (aS_203 pc) := (sx_ite (p := fun l => sx_iOk prog_10_method_8_code l) (sx_ite (p := fun l => sx_iOk prog_10_method_8_code l) (sx_ite (p := fun l => sx_iOk prog_10_method_8_code l) (sx_iB_s aJ_203_0) (sx_ite (p := fun l => sx_iOk prog_10_method_8_code l) (sx_iB_s aJ_203_1) (sx_iB_s aJ_203_2))) (sx_ite (p := fun l => sx_iOk prog_10_method_8_code l) (sx_iB_s aJ_203_3) (sx_ite (p := fun l => sx_iOk prog_10_method_8_code l) (sx_iB_s aJ_203_4) (sx_iB_s aJ_203_5)))) (sx_ite (p := fun l => sx_iOk prog_10_method_8_code l) (sx_ite (p := fun l => sx_iOk prog_10_method_8_code l) (sx_iB_s aJ_203_6) (sx_ite (p := fun l => sx_iOk prog_10_method_8_code l) (sx_iB_s aJ_203_7) (sx_iB_s aJ_203_8))) (sx_ite (p := fun l => sx_iOk prog_10_method_8_code l) (sx_ite (p := fun l => sx_iOk prog_10_method_8_code l) (sx_iB_s aJ_203_9) (sx_iB_s aJ_203_10)) (sx_ite (p := fun l => sx_iOk prog_10_method_8_code l) (sx_iB_s aJ_203_11) (sx_iB_s aJ_203_12)))))
def aW_203 : Nat → Option (Instr × Nat) := fun pc => sx_iF (aS_203 pc) pc
theorem aX_203 : ∀ pc i len, aW_203 pc = some (i, len) → decode aM_203.1.2.1 pc = .ok (i, len) := fun pc i len h => sx_iF_s (aT_203 pc) h
def aI_204_0 : sx_IL := [(0, .aload_n 0, 1), (1, .iload_n 1, 1), (2, .invokevirtual 61, 3), (5, .ifCond .eq 11, 3), (8, .aload_n 2, 1), (9, .iload_n 1, 1)]
theorem aJ_204_0 : sx_iB prog_4_method_11_code aI_204_0 = true := by decide +kernel
def aI_204_1 : sx_IL := [(10, .invokevirtual 61, 3), (13, .ifCond .ne 22, 3), (16, .aload_n 0, 1), (17, .iload_n 1, 1), (18, .invokevirtual 61, 3), (21, .aload_n 2, 1)]
theorem aJ_204_1 : sx_iB prog_4_method_11_code aI_204_1 = true := by decide +kernel
def aI_204_2 : sx_IL := [(22, .iload_n 1, 1), (23, .invokevirtual 61, 3), (26, .if_icmp .ne 7, 3), (29, .iconst 1, 1), (30, .goto 4, 3), (33, .iconst 0, 1)]
theorem aJ_204_2 : sx_iB prog_4_method_11_code aI_204_2 = true := by decide +kernel
def aI_204_3 : sx_IL := [(34, .ireturn, 1), (35, .aload_n 0, 1), (36, .getfield 7, 3), (39, .aload_n 0, 1), (40, .getfield 13, 3), (43, .iload_n 1, 1)]
theorem aJ_204_3 : sx_iB prog_4_method_11_code aI_204_3 = true := by decide +kernel
def aI_204_4 : sx_IL := [(44, .iaload, 1), (45, .aload_n 0, 1), (46, .getfield 16, 3), (49, .iload_n 1, 1), (50, .iaload, 1), (51, .aload_n 2, 1)]
theorem aJ_204_4 : sx_iB prog_4_method_11_code aI_204_4 = true := by decide +kernel
def aI_204_5 : sx_IL := [(52, .getfield 7, 3), (55, .aload_n 2, 1), (56, .getfield 13, 3), (59, .iload_n 1, 1), (60, .iaload, 1), (61, .aload_n 2, 1)]
theorem aJ_204_5 : sx_iB prog_4_method_11_code aI_204_5 = true := by decide +kernel
def aI_204_6 : sx_IL := [(62, .getfield 16, 3), (65, .iload_n 1, 1), (66, .iaload, 1), (67, .invokestatic 65, 3), (70, .ireturn, 1)]
theorem aJ_204_6 : sx_iB prog_4_method_11_code aI_204_6 = true := by decide +kernel
def aS_204 (pc : Nat) : sx_IL := (if pc < 34 then (if pc < 10 then aI_204_0 else (if pc < 22 then aI_204_1 else aI_204_2)) else (if pc < 52 then (if pc < 44 then aI_204_3 else aI_204_4) else (if pc < 62 then aI_204_5 else aI_204_6)))
theorem aT_204 (pc : Nat) : sx_iOk prog_4_method_11_code (aS_204 pc) := (sx_ite (p := fun l => sx_iOk prog_4_method_11_code l) (sx_ite (p := fun l => sx_iOk prog_4_method_11_code l) (sx_iB_s aJ_204_0) (sx_ite (p := fun l => sx_iOk prog_4_method_11_code l) (sx_iB_s aJ_204_1) (sx_iB_s aJ_204_2))) (sx_ite (p := fun l => sx_iOk prog_4_method_11_code l) (sx_ite (p := fun l => sx_iOk prog_4_method_11_code l) (sx_iB_s aJ_204_3) (sx_iB_s aJ_204_4)) (sx_ite (p := fun l => sx_iOk prog_4_method_11_code l) (sx_iB_s aJ_204_5) (sx_iB_s aJ_204_6))))
def aW_204 : Nat → Option (Instr × Nat) := fun pc => sx_iF (aS_204 pc) pc
theorem aX_204 : ∀ pc i len, aW_204 pc = some (i, len) → decode aM_204.1.2.1 pc = .ok (i, len) := fun pc i len h => sx_iF_s (aT_204 pc) h
def aI_205_0 : sx_IL := [(0, .iconst 0, 1), (1, .istore 4, 2), (3, .iload 4, 2), (5, .iconst 4, 1), (6, .if_icmp .ge 48, 3), (9, .aload_n 0, 1)]
theorem aJ_205_0 : sx_iB prog_3_method_5_code aI_205_0 = true := by decide +kernel
def aI_205_1 : sx_IL := [(10, .getfield 9, 3), (13, .iload_n 1, 1), (14, .aaload, 1), (15, .iload 4, 2), (17, .iaload, 1), (18, .ifCond .le 30, 3)]
theorem aJ_205_1 : sx_iB prog_3_method_5_code aI_205_1 = true := by decide +kernel
def aI_205_2 : sx_IL := [(21, .aload_n 2, 1), (22, .iload_n 3, 1), (23, .aload_n 0, 1), (24, .getfield 9, 3), (27, .iload_n 1, 1), (28, .aaload, 1)]
theorem aJ_205_2 : sx_iB prog_3_method_5_code aI_205_2 = true := by decide +kernel
def aI_205_3 : sx_IL := [(29, .iload 4, 2), (31, .iaload, 1), (32, .invokevirtual 60, 3), (35, .ifCond .eq 13, 3), (38, .aload_n 0, 1), (39, .getfield 9, 3)]
theorem aJ_205_3 : sx_iB prog_3_method_5_code aI_205_3 = true := by decide +kernel
def aI_205_4 : sx_IL := [(42, .iload_n 1, 1), (43, .aaload, 1), (44, .iload 4, 2), (46, .iaload, 1), (47, .ireturn, 1), (48, .iinc 4 1, 3)]
theorem aJ_205_4 : sx_iB prog_3_method_5_code aI_205_4 = true := by decide +kernel
def aI_205_5 : sx_IL := [(51, .goto (-48), 3), (54, .iconst 0, 1), (55, .ireturn, 1)]
theorem aJ_205_5 : sx_iB prog_3_method_5_code aI_205_5 = true := by decide +kernel
def aS_205 (pc : Nat) : sx_IL := (if pc < 29 then (if pc < 10 then aI_205_0 else (if pc < 21 then aI_205_1 else aI_205_2)) else (if pc < 42 then aI_205_3 else (if pc < 51 then aI_205_4 else aI_205_5)))
theorem aT_205 (pc : Nat) : sx_iOk prog_3_method_5_code (aS_205 pc) := (sx_ite (p := fun l => sx_iOk prog_3_method_5_code l) (sx_ite (p := fun l => sx_iOk prog_3_method_5_code l) (sx_iB_s aJ_205_0) (sx_ite (p := fun l => sx_iOk prog_3_method_5_code l) (sx_iB_s aJ_205_1) (sx_iB_s aJ_205_2))) (sx_ite (p := fun l => sx_iOk prog_3_method_5_code l) (sx_iB_s aJ_205_3) (sx_ite (p := fun l => sx_iOk prog_3_method_5_code l) (sx_iB_s aJ_205_4) (sx_iB_s aJ_205_5))))
def aW_205 : Nat → Option (Instr × Nat) := fun pc => sx_iF (aS_205 pc) pc
theorem aX_205 : ∀ pc i len, aW_205 pc = some (i, len) → decode aM_205.1.2.1 pc = .ok (i, len) := fun pc i len h => sx_iF_s (aT_205 pc) h
def aI_206_0 : sx_IL := [(0, .aload_n 1, 1), (1, .getfield 195, 3), (4, .bipush 10, 2), (6, .iaload, 1), (7, .iconst 1, 1), (8, .iadd, 1)]
theorem aJ_206_0 : sx_iB prog_10_method_9_code aI_206_0 = true := by decide +kernel
def aI_206_1 : sx_IL := [(9, .istore_n 2, 1), (10, .aload_n 1, 1), (11, .bipush 10, 2), (13, .iconst 0, 1), (14, .invokevirtual 142, 3), (17, .istore_n 3, 1)]
theorem aJ_206_1 : sx_iB prog_10_method_9_code aI_206_1 = true := by decide +kernel
def aI_206_2 : sx_IL := [(18, .iconst 0, 1), (19, .istore 4, 2), (21, .iload 4, 2), (23, .iload_n 3, 1), (24, .if_icmp .ge 82, 3), (27, .aload_n 0, 1)]
theorem aJ_206_2 : sx_iB prog_10_method_9_code aI_206_2 = true := by decide +kernel
def aI_206_3 : sx_IL := [(28, .getfield 105, 3), (31, .ifnonnull 75, 3), (34, .aload_n 0, 1), (35, .getfield 66, 3), (38, .iload_n 2, 1), (39, .invokevirtual 198, 3)]
theorem aJ_206_3 : sx_iB prog_10_method_9_code aI_206_3 = true := by decide +kernel
def aI_206_4 : sx_IL := [(42, .istore 5, 2), (44, .aload_n 0, 1), (45, .aload_n 0, 1), (46, .getfield 43, 3), (49, .aload_n 0, 1), (50, .getfield 66, 3)]
theorem aJ_206_4 : sx_iB prog_10_method_9_code aI_206_4 = true := by decide +kernel
def aI_206_5 : sx_IL := [(53, .getfield 70, 3), (56, .iload_n 2, 1), (57, .iconst 1, 1), (58, .iadd, 1), (59, .iload_n 2, 1), (60, .iconst 1, 1)]
theorem aJ_206_5 : sx_iB prog_10_method_9_code aI_206_5 = true := by decide +kernel
def aI_206_6 : sx_IL := [(61, .iadd, 1), (62, .iload 5, 2), (64, .iadd, 1), (65, .aload_n 0, 1), (66, .getfield 102, 3), (69, .invokestatic 201, 3)]
theorem aJ_206_6 : sx_iB prog_10_method_9_code aI_206_6 = true := by decide +kernel
def aI_206_7 : sx_IL := [(72, .aload_n 0, 1), (73, .getfield 56, 3), (76, .getfield 204, 3), (79, .invokevirtual 207, 3), (82, .putfield 105, 3), (85, .aload_n 0, 1)]
theorem aJ_206_7 : sx_iB prog_10_method_9_code aI_206_7 = true := by decide +kernel
def aI_206_8 : sx_IL := [(86, .iload 4, 2), (88, .putfield 128, 3), (91, .iload_n 2, 1), (92, .iconst 1, 1), (93, .iload 5, 2), (95, .iadd, 1)]
theorem aJ_206_8 : sx_iB prog_10_method_9_code aI_206_8 = true := by decide +kernel
def aI_206_9 : sx_IL := [(96, .iconst 4, 1), (97, .iadd, 1), (98, .iadd, 1), (99, .istore_n 2, 1), (100, .iinc 4 1, 3), (103, .goto (-82), 3)]
theorem aJ_206_9 : sx_iB prog_10_method_9_code aI_206_9 = true := by decide +kernel
def aI_206_10 : sx_IL := [(106, .return_, 1)]
theorem aJ_206_10 : sx_iB prog_10_method_9_code aI_206_10 = true := by decide +kernel
def aS_206 (pc : Nat) : sx_IL := (if pc < 53 then (if pc < 18 then (if pc < 9 then aI_206_0 else aI_206_1) else (if pc < 28 then aI_206_2 else (if pc < 42 then aI_206_3 else aI_206_4))) else (if pc < 86 then (if pc < 61 then aI_206_5 else (if pc < 72 then aI_206_6 else aI_206_7)) else (if pc < 96 then aI_206_8 else (if pc < 106 then aI_206_9 else aI_206_10))))
theorem aT_206 (pc : Nat) : sx_iOk prog_10_method_9_code (aS_206 pc) := (sx_ite (p := fun l => sx_iOk prog_10_method_9_code l) (sx_ite (p := fun l => sx_iOk prog_10_method_9_code l) (sx_ite (p := fun l => sx_iOk prog_10_method_9_code l) (sx_iB_s aJ_206_0) (sx_iB_s aJ_206_1)) (sx_ite (p := fun l => sx_iOk prog_10_method_9_code l) (sx_iB_s aJ_206_2) (sx_ite (p := fun l => sx_iOk prog_10_method_9_code l) (sx_iB_s aJ_206_3) (sx_iB_s aJ_206_4)))) (sx_ite (p := fun l => sx_iOk prog_10_method_9_code l) (sx_ite (p := fun l => sx_iOk prog_10_method_9_code l) (sx_iB_s aJ_206_5) (sx_ite (p := fun l => sx_iOk prog_10_method_9_code l) (sx_iB_s aJ_206_6) (sx_iB_s aJ_206_7))) (sx_ite (p := fun l => sx_iOk prog_10_method_9_code l) (sx_iB_s aJ_206_8) (sx_ite (p := fun l => sx_iOk prog_10_method_9_code l) (sx_iB_s aJ_206_9) (sx_iB_s aJ_206_10)))))
def aW_206 : Nat → Option (Instr × Nat) := fun pc => sx_iF (aS_206 pc) pc
theorem aX_206 : ∀ pc i len, aW_206 pc = some (i, len) → decode aM_206.1.2.1 pc = .ok (i, len) := fun pc i len h => sx_iF_s (aT_206 pc) h
def aI_207_0 : sx_IL := [(0, .iconst 0, 1), (1, .istore 6, 2), (3, .iload 6, 2), (5, .aload_n 0, 1), (6, .getfield 79, 3), (9, .if_icmp .ge 35, 3)]
theorem aJ_207_0 : sx_iB prog_3_method_12_code aI_207_0 = true := by decide +kernel
def aI_207_1 : sx_IL := [(12, .aload_n 0, 1), (13, .getfield 40, 3), (16, .iload 6, 2), (18, .aaload, 1), (19, .aload_n 1, 1), (20, .iload_n 2, 1)]
theorem aJ_207_1 : sx_iB prog_3_method_12_code aI_207_1 = true := by decide +kernel
def aI_207_2 : sx_IL := [(21, .iload_n 3, 1), (22, .iload 4, 2), (24, .invokevirtual 91, 3), (27, .ifCond .eq 11, 3), (30, .aload_n 0, 1), (31, .getfield 40, 3)]
theorem aJ_207_2 : sx_iB prog_3_method_12_code aI_207_2 = true := by decide +kernel
def aI_207_3 : sx_IL := [(34, .iload 6, 2), (36, .aaload, 1), (37, .areturn, 1), (38, .iinc 6 1, 3), (41, .goto (-38), 3), (44, .iconst 0, 1)]
theorem aJ_207_3 : sx_iB prog_3_method_12_code aI_207_3 = true := by decide +kernel
def aI_207_4 : sx_IL := [(45, .istore 6, 2), (47, .iload 6, 2), (49, .aload_n 0, 1), (50, .getfield 82, 3), (53, .if_icmp .ge 61, 3), (56, .aload_n 0, 1)]
theorem aJ_207_4 : sx_iB prog_3_method_12_code aI_207_4 = true := by decide +kernel
def aI_207_5 : sx_IL := [(57, .getfield 47, 3), (60, .iload 6, 2), (62, .aaload, 1), (63, .aload_n 1, 1), (64, .iload_n 2, 1), (65, .iload_n 3, 1)]
theorem aJ_207_5 : sx_iB prog_3_method_12_code aI_207_5 = true := by decide +kernel
def aI_207_6 : sx_IL := [(66, .iload 4, 2), (68, .invokevirtual 91, 3), (71, .ifCond .eq 37, 3), (74, .iload 5, 2), (76, .aload_n 0, 1), (77, .getfield 47, 3)]
theorem aJ_207_6 : sx_iB prog_3_method_12_code aI_207_6 = true := by decide +kernel
def aI_207_7 : sx_IL := [(80, .iload 6, 2), (82, .aaload, 1), (83, .getfield 95, 3), (86, .isub, 1), (87, .aload_n 0, 1), (88, .getfield 47, 3)]
theorem aJ_207_7 : sx_iB prog_3_method_12_code aI_207_7 = true := by decide +kernel
def aI_207_8 : sx_IL := [(91, .iload 6, 2), (93, .aaload, 1), (94, .getfield 98, 3), (97, .if_icmp .gt 11, 3), (100, .aload_n 0, 1), (101, .getfield 47, 3)]
theorem aJ_207_8 : sx_iB prog_3_method_12_code aI_207_8 = true := by decide +kernel
def aI_207_9 : sx_IL := [(104, .iload 6, 2), (106, .aaload, 1), (107, .areturn, 1), (108, .iinc 6 1, 3), (111, .goto (-64), 3), (114, .aconst_null, 1)]
theorem aJ_207_9 : sx_iB prog_3_method_12_code aI_207_9 = true := by decide +kernel
def aI_207_10 : sx_IL := [(115, .areturn, 1)]
theorem aJ_207_10 : sx_iB prog_3_method_12_code aI_207_10 = true := by decide +kernel
def aS_207 (pc : Nat) : sx_IL := (if pc < 57 then (if pc < 21 then (if pc < 12 then aI_207_0 else aI_207_1) else (if pc < 34 then aI_207_2 else (if pc < 45 then aI_207_3 else aI_207_4))) else (if pc < 91 then (if pc < 66 then aI_207_5 else (if pc < 80 then aI_207_6 else aI_207_7)) else (if pc < 104 then aI_207_8 else (if pc < 115 then aI_207_9 else aI_207_10))))
theorem aT_207 (pc : Nat) : sx_iOk prog_3_method_12_code (aS_207 pc) := (sx_ite (p := fun l => sx_iOk prog_3_method_12_code l) (sx_ite (p := fun l => sx_iOk prog_3_method_12_code l) (sx_ite (p := fun l => sx_iOk prog_3_method_12_code l) (sx_iB_s aJ_207_0) (sx_iB_s aJ_207_1)) (sx_ite (p := fun l => sx_iOk prog_3_method_12_code l) (sx_iB_s aJ_207_2) (sx_ite (p := fun l => sx_iOk prog_3_method_12_code l) (sx_iB_s aJ_207_3) (sx_iB_s aJ_207_4)))) (sx_ite (p := fun l => sx_iOk prog_3_method_12_code l) (sx_ite (p := fun l => sx_iOk prog_3_method_12_code l) (sx_iB_s aJ_207_5) (sx_ite (p := fun l => sx_iOk prog_3_method_12_code l) (sx_iB_s aJ_207_6) (sx_iB_s aJ_207_7))) (sx_ite (p := fun l => sx_iOk prog_3_method_12_code l) (sx_iB_s aJ_207_8) (sx_ite (p := fun l => sx_iOk prog_3_method_12_code l) (sx_iB_s aJ_207_9) (sx_iB_s aJ_207_10)))))
def aW_207 : Nat → Option (Instr × Nat) := fun pc => sx_iF (aS_207 pc) pc
theorem aX_207 : ∀ pc i len, aW_207 pc = some (i, len) → decode aM_207.1.2.1 pc = .ok (i, len) := fun pc i len h => sx_iF_s (aT_207 pc) h
def aI_208_0 : sx_IL := [(0, .aload_n 0, 1), (1, .getfield 28, 3), (4, .iload 4, 2), (6, .if_icmp .ne 26, 3), (9, .aload_n 0, 1), (10, .getfield 23, 3)]
theorem aJ_208_0 : sx_iB prog_11_method_4_code aI_208_0 = true := by decide +kernel
def aI_208_1 : sx_IL := [(13, .iconst 0, 1), (14, .aload_n 0, 1), (15, .getfield 23, 3), (18, .arraylength, 1), (19, .aload_n 1, 1), (20, .iload_n 2, 1)]
theorem aJ_208_1 : sx_iB prog_11_method_4_code aI_208_1 = true := by decide +kernel
def aI_208_2 : sx_IL := [(21, .iload_n 3, 1), (22, .invokestatic 51, 3), (25, .ifCond .eq 7, 3), (28, .iconst 1, 1), (29, .goto 4, 3), (32, .iconst 0, 1)]
theorem aJ_208_2 : sx_iB prog_11_method_4_code aI_208_2 = true := by decide +kernel
def aI_208_3 : sx_IL := [(33, .ireturn, 1)]
theorem aJ_208_3 : sx_iB prog_11_method_4_code aI_208_3 = true := by decide +kernel
def aS_208 (pc : Nat) : sx_IL := (if pc < 21 then (if pc < 13 then aI_208_0 else aI_208_1) else (if pc < 33 then aI_208_2 else aI_208_3))
theorem aT_208 (pc : Nat) : sx_iOk prog_11_method_4_code (aS_208 pc) := (sx_ite (p := fun l => sx_iOk prog_11_method_4_code l) (sx_ite (p := fun l => sx_iOk prog_11_method_4_code l) (sx_iB_s aJ_208_0) (sx_iB_s aJ_208_1)) (sx_ite (p := fun l => sx_iOk prog_11_method_4_code l) (sx_iB_s aJ_208_2) (sx_iB_s aJ_208_3)))
def aW_208 : Nat → Option (Instr × Nat) := fun pc => sx_iF (aS_208 pc) pc
theorem aX_208 : ∀ pc i len, aW_208 pc = some (i, len) → decode aM_208.1.2.1 pc = .ok (i, len) := fun pc i len h => sx_iF_s (aT_208 pc) h
def aI_209_0 : sx_IL := [(0, .aload_n 1, 1), (1, .bipush 7, 2), (3, .iconst 0, 1), (4, .invokevirtual 142, 3), (7, .istore_n 2, 1), (8, .aload_n 1, 1)]
theorem aJ_209_0 : sx_iB prog_10_method_10_code aI_209_0 = true := by decide +kernel
def aI_209_1 : sx_IL := [(9, .iconst 3, 1), (10, .invokevirtual 92, 3), (13, .ifCond .ne 18, 3), (16, .aload_n 0, 1), (17, .getfield 105, 3), (20, .ifnull 8, 3)]
theorem aJ_209_1 : sx_iB prog_10_method_10_code aI_209_1 = true := by decide +kernel
def aI_209_2 : sx_IL := [(23, .iload_n 2, 1), (24, .iconst 1, 1), (25, .if_icmp .eq 6, 3), (28, .bipush 109, 2), (30, .ireturn, 1), (31, .aload_n 0, 1)]
theorem aJ_209_2 : sx_iB prog_10_method_10_code aI_209_2 = true := by decide +kernel
def aI_209_3 : sx_IL := [(32, .aload_n 0, 1), (33, .getfield 85, 3), (36, .ifnull 10, 3), (39, .aload_n 0, 1), (40, .getfield 145, 3), (43, .goto 13, 3)]
theorem aJ_209_3 : sx_iB prog_10_method_10_code aI_209_3 = true := by decide +kernel
def aI_209_4 : sx_IL := [(46, .aload_n 0, 1), (47, .getfield 43, 3), (50, .iconst 1, 1), (51, .aload_n 1, 1), (52, .iconst 3, 1), (53, .invokevirtual 98, 3)]
theorem aJ_209_4 : sx_iB prog_10_method_10_code aI_209_4 = true := by decide +kernel
def aI_209_5 : sx_IL := [(56, .putfield 145, 3), (59, .aload_n 0, 1), (60, .aload_n 0, 1), (61, .getfield 105, 3), (64, .ifnull 16, 3), (67, .iload_n 2, 1)]
theorem aJ_209_5 : sx_iB prog_10_method_10_code aI_209_5 = true := by decide +kernel
def aI_209_6 : sx_IL := [(68, .iconst 2, 1), (69, .iand, 1), (70, .ifCond .eq 14, 3), (73, .aload_n 0, 1), (74, .getfield 145, 3), (77, .ifCond .eq 7, 3)]
theorem aJ_209_6 : sx_iB prog_10_method_10_code aI_209_6 = true := by decide +kernel
def aI_209_7 : sx_IL := [(80, .iconst 1, 1), (81, .goto 4, 3), (84, .iconst 0, 1), (85, .putfield 139, 3), (88, .aload_n 0, 1), (89, .getfield 105, 3)]
theorem aJ_209_7 : sx_iB prog_10_method_10_code aI_209_7 = true := by decide +kernel
def aI_209_8 : sx_IL := [(92, .ifnull 39, 3), (95, .aload_n 0, 1), (96, .getfield 139, 3), (99, .ifCond .ne 32, 3), (102, .iload_n 2, 1), (103, .iconst 1, 1)]
theorem aJ_209_8 : sx_iB prog_10_method_10_code aI_209_8 = true := by decide +kernel
def aI_209_9 : sx_IL := [(104, .iand, 1), (105, .ifCond .eq 16, 3), (108, .aload_n 0, 1), (109, .getfield 43, 3), (112, .getfield 47, 3), (115, .bipush 6, 2)]
theorem aJ_209_9 : sx_iB prog_10_method_10_code aI_209_9 = true := by decide +kernel
def aI_209_10 : sx_IL := [(117, .iaload, 1), (118, .ifCond .ne 13, 3), (121, .aload_n 0, 1), (122, .aconst_null, 1), (123, .putfield 105, 3), (126, .aload_n 0, 1)]
theorem aJ_209_10 : sx_iB prog_10_method_10_code aI_209_10 = true := by decide +kernel
def aI_209_11 : sx_IL := [(127, .iconst 1, 1), (128, .putfield 139, 3), (131, .aload_n 0, 1), (132, .iconst 0, 1), (133, .putfield 211, 3), (136, .aload_n 0, 1)]
theorem aJ_209_11 : sx_iB prog_10_method_10_code aI_209_11 = true := by decide +kernel
def aI_209_12 : sx_IL := [(137, .getfield 105, 3), (140, .ifnull 5, 3), (143, .iconst 0, 1), (144, .ireturn, 1), (145, .aload_n 0, 1), (146, .getfield 145, 3)]
theorem aJ_209_12 : sx_iB prog_10_method_10_code aI_209_12 = true := by decide +kernel
def aI_209_13 : sx_IL := [(149, .ifCond .ne 6, 3), (152, .bipush 40, 2), (154, .ireturn, 1), (155, .aload_n 1, 1), (156, .iconst 5, 1), (157, .invokevirtual 92, 3)]
theorem aJ_209_13 : sx_iB prog_10_method_10_code aI_209_13 = true := by decide +kernel
def aI_209_14 : sx_IL := [(160, .ifCond .ne 6, 3), (163, .bipush 109, 2), (165, .ireturn, 1), (166, .aload_n 0, 1), (167, .aload_n 0, 1), (168, .getfield 43, 3)]
theorem aJ_209_14 : sx_iB prog_10_method_10_code aI_209_14 = true := by decide +kernel
def aI_209_15 : sx_IL := [(171, .iconst 2, 1), (172, .aload_n 1, 1), (173, .iconst 5, 1), (174, .invokevirtual 98, 3), (177, .putfield 211, 3), (180, .aload_n 0, 1)]
theorem aJ_209_15 : sx_iB prog_10_method_10_code aI_209_15 = true := by decide +kernel
def aI_209_16 : sx_IL := [(181, .getfield 211, 3), (184, .ifCond .eq 13, 3), (187, .aload_n 0, 1), (188, .getfield 43, 3), (191, .getfield 214, 3), (194, .ifCond .ne 8, 3)]
theorem aJ_209_16 : sx_iB prog_10_method_10_code aI_209_16 = true := by decide +kernel
def aI_209_17 : sx_IL := [(197, .bipush 40, 2), (199, .goto 4, 3), (202, .iconst 0, 1), (203, .ireturn, 1)]
theorem aJ_209_17 : sx_iB prog_10_method_10_code aI_209_17 = true := by decide +kernel
def aS_209 (pc : Nat) : sx_IL := (if pc < 104 then (if pc < 46 then (if pc < 23 then (if pc < 9 then aI_209_0 else aI_209_1) else (if pc < 32 then aI_209_2 else aI_209_3)) else (if pc < 68 then (if pc < 56 then aI_209_4 else aI_209_5) else (if pc < 80 then aI_209_6 else (if pc < 92 then aI_209_7 else aI_209_8)))) else (if pc < 149 then (if pc < 127 then (if pc < 117 then aI_209_9 else aI_209_10) else (if pc < 137 then aI_209_11 else aI_209_12)) else (if pc < 171 then (if pc < 160 then aI_209_13 else aI_209_14) else (if pc < 181 then aI_209_15 else (if pc < 197 then aI_209_16 else aI_209_17)))))
theorem aT_209 (pc : Nat) : sx_iOk prog_10_method_10_code (aS_209 pc) := (sx_ite (p := fun l => sx_iOk prog_10_method_10_code l) (sx_ite (p := fun l => sx_iOk prog_10_method_10_code l) (sx_ite (p := fun l => sx_iOk prog_10_method_10_code l) (sx_ite (p := fun l => sx_iOk prog_10_method_10_code l) (sx_iB_s aJ_209_0) (sx_iB_s aJ_209_1)) (sx_ite (p := fun l => sx_iOk prog_10_method_10_code l) (sx_iB_s aJ_209_2) (sx_iB_s aJ_209_3))) (sx_ite (p := fun l => sx_iOk prog_10_method_10_code l) (sx_ite (p := fun l => sx_iOk prog_10_method_10_code l) (sx_iB_s aJ_209_4) (sx_iB_s aJ_209_5)) (sx_ite (p := fun l => sx_iOk prog_10_method_10_code l) (sx_iB_s aJ_209_6) (sx_ite (p := fun l => sx_iOk prog_10_method_10_code l) (sx_iB_s aJ_209_7) (sx_iB_s aJ_209_8))))) (sx_ite (p := fun l => sx_iOk prog_10_method_10_code l) (sx_ite (p := fun l => sx_iOk prog_10_method_10_code l) (sx_ite (p := fun l => sx_iOk prog_10_method_10_code l) (sx_iB_s aJ_209_9) (sx_iB_s aJ_209_10)) (sx_ite (p := fun l => sx_iOk prog_10_method_10_code l) (sx_iB_s aJ_209_11) (sx_iB_s aJ_209_12))) (sx_ite (p := fun l => sx_iOk prog_10_method_10_code l) (sx_ite (p := fun l => sx_iOk prog_10_method_10_code l) (sx_iB_s aJ_209_13) (sx_iB_s aJ_209_14)) (sx_ite (p := fun l => sx_iOk prog_10_method_10_code l) (sx_iB_s aJ_209_15) (sx_ite (p := fun l => sx_iOk prog_10_method_10_code l) (sx_iB_s aJ_209_16) (sx_iB_s aJ_209_17))))))
def aW_209 : Nat → Option (Instr × Nat) := fun pc => sx_iF (aS_209 pc) pc
theorem aX_209 : ∀ pc i len, aW_209 pc = some (i, len) → decode aM_209.1.2.1 pc = .ok (i, len) := fun pc i len h => sx_iF_s (aT_209 pc) h
def aI_210_0 : sx_IL := [(0, .aload_n 0, 1), (1, .getfield 47, 3), (4, .getfield 109, 3), (7, .ifCond .ne 7, 3), (10, .iconst 1, 1), (11, .goto 4, 3)]
theorem aJ_210_0 : sx_iB prog_12_method_43_code aI_210_0 = true := by decide +kernel
def aI_210_1 : sx_IL := [(14, .iconst 0, 1), (15, .istore_n 2, 1), (16, .aload_n 0, 1), (17, .getfield 23, 3), (20, .iconst 3, 1), (21, .invokevirtual 59, 3)]
theorem aJ_210_1 : sx_iB prog_12_method_43_code aI_210_1 = true := by decide +kernel
def aI_210_2 : sx_IL := [(24, .istore_n 3, 1), (25, .aload_n 0, 1), (26, .getfield 43, 3), (29, .iconst 0, 1), (30, .putfield 101, 3), (33, .aload_n 0, 1)]
theorem aJ_210_2 : sx_iB prog_12_method_43_code aI_210_2 = true := by decide +kernel
def aI_210_3 : sx_IL := [(34, .iload_n 1, 1), (35, .invokevirtual 299, 3), (38, .ifCond .eq 11, 3), (41, .iload_n 2, 1), (42, .ifCond .eq 10, 3), (45, .iload_n 3, 1)]
theorem aJ_210_3 : sx_iB prog_12_method_43_code aI_210_3 = true := by decide +kernel
def aI_210_4 : sx_IL := [(46, .ifCond .ne 6, 3), (49, .bipush 50, 2), (51, .ireturn, 1), (52, .iconst 4, 1), (53, .istore 4, 2), (55, .iconst 0, 1)]
theorem aJ_210_4 : sx_iB prog_12_method_43_code aI_210_4 = true := by decide +kernel
def aI_210_5 : sx_IL := [(56, .istore 5, 2), (58, .iload 5, 2), (60, .iload_n 3, 1), (61, .if_icmp .ge 105, 3), (64, .aload_n 0, 1), (65, .getfield 23, 3)]
theorem aJ_210_5 : sx_iB prog_12_method_43_code aI_210_5 = true := by decide +kernel
def aI_210_6 : sx_IL := [(68, .iload 4, 2), (70, .invokevirtual 66, 3), (73, .istore 6, 2), (75, .aload_n 0, 1), (76, .getfield 23, 3), (79, .getfield 143, 3)]
theorem aJ_210_6 : sx_iB prog_12_method_43_code aI_210_6 = true := by decide +kernel
def aI_210_7 : sx_IL := [(82, .iload 4, 2), (84, .iconst 2, 1), (85, .iadd, 1), (86, .iload 4, 2), (88, .iconst 2, 1), (89, .iadd, 1)]
theorem aJ_210_7 : sx_iB prog_12_method_43_code aI_210_7 = true := by decide +kernel
def aI_210_8 : sx_IL := [(90, .iload 6, 2), (92, .iadd, 1), (93, .aload_n 0, 1), (94, .getfield 43, 3), (97, .getfield 302, 3), (100, .invokestatic 305, 3)]
theorem aJ_210_8 : sx_iB prog_12_method_43_code aI_210_8 = true := by decide +kernel
def aI_210_9 : sx_IL := [(103, .ifCond .ge 7, 3), (106, .iconst 1, 1), (107, .goto 4, 3), (110, .iconst 0, 1), (111, .istore 7, 2), (113, .iload 7, 2)]
theorem aJ_210_9 : sx_iB prog_12_method_43_code aI_210_9 = true := by decide +kernel
def aI_210_10 : sx_IL := [(115, .ifCond .eq 33, 3), (118, .aload_n 0, 1), (119, .getfield 43, 3), (122, .getfield 309, 3), (125, .iload 5, 2), (127, .aaload, 1)]
theorem aJ_210_10 : sx_iB prog_12_method_43_code aI_210_10 = true := by decide +kernel
def aI_210_11 : sx_IL := [(128, .iconst 0, 1), (129, .aload_n 0, 1), (130, .getfield 23, 3), (133, .getfield 143, 3), (136, .iload 4, 2), (138, .iconst 2, 1)]
theorem aJ_210_11 : sx_iB prog_12_method_43_code aI_210_11 = true := by decide +kernel
def aI_210_12 : sx_IL := [(139, .iadd, 1), (140, .iload 6, 2), (142, .invokevirtual 312, 3), (145, .ifCond .ne 6, 3), (148, .bipush 42, 2), (150, .ireturn, 1)]
theorem aJ_210_12 : sx_iB prog_12_method_43_code aI_210_12 = true := by decide +kernel
def aI_210_13 : sx_IL := [(151, .iload 4, 2), (153, .iconst 2, 1), (154, .iload 6, 2), (156, .iadd, 1), (157, .iadd, 1), (158, .istore 4, 2)]
theorem aJ_210_13 : sx_iB prog_12_method_43_code aI_210_13 = true := by decide +kernel
def aI_210_14 : sx_IL := [(160, .iinc 5 1, 3), (163, .goto (-105), 3), (166, .aload_n 0, 1), (167, .getfield 23, 3), (170, .iload 4, 2), (172, .invokevirtual 66, 3)]
theorem aJ_210_14 : sx_iB prog_12_method_43_code aI_210_14 = true := by decide +kernel
def aI_210_15 : sx_IL := [(175, .istore 5, 2), (177, .iload_n 2, 1), (178, .ifCond .ne 23, 3), (181, .iload_n 3, 1), (182, .ifCond .ne 19, 3), (185, .aload_n 0, 1)]
theorem aJ_210_15 : sx_iB prog_12_method_43_code aI_210_15 = true := by decide +kernel
def aI_210_16 : sx_IL := [(186, .getfield 47, 3), (189, .getfield 316, 3), (192, .iconst 1, 1), (193, .iaload, 1), (194, .iconst 2, 1), (195, .if_icmp .ne 6, 3)]
theorem aJ_210_16 : sx_iB prog_12_method_43_code aI_210_16 = true := by decide +kernel
def aI_210_17 : sx_IL := [(198, .bipush 116, 2), (200, .ireturn, 1), (201, .iload_n 2, 1), (202, .ifCond .ne 11, 3), (205, .iload 5, 2), (207, .ifCond .le 6, 3)]
theorem aJ_210_17 : sx_iB prog_12_method_43_code aI_210_17 = true := by decide +kernel
def aI_210_18 : sx_IL := [(210, .bipush 50, 2), (212, .ireturn, 1), (213, .aload_n 0, 1), (214, .getfield 43, 3), (217, .iload 5, 2), (219, .ifCond .le 7, 3)]
theorem aJ_210_18 : sx_iB prog_12_method_43_code aI_210_18 = true := by decide +kernel
def aI_210_19 : sx_IL := [(222, .iconst 1, 1), (223, .goto 4, 3), (226, .iconst 0, 1), (227, .putfield 319, 3), (230, .aload_n 0, 1), (231, .getfield 23, 3)]
theorem aJ_210_19 : sx_iB prog_12_method_43_code aI_210_19 = true := by decide +kernel
def aI_210_20 : sx_IL := [(234, .getfield 143, 3), (237, .iload 4, 2), (239, .iconst 2, 1), (240, .iadd, 1), (241, .iload 4, 2), (243, .iconst 2, 1)]
theorem aJ_210_20 : sx_iB prog_12_method_43_code aI_210_20 = true := by decide +kernel
def aI_210_21 : sx_IL := [(244, .iadd, 1), (245, .iload 5, 2), (247, .iadd, 1), (248, .aload_n 0, 1), (249, .getfield 43, 3), (252, .getfield 302, 3)]
theorem aJ_210_21 : sx_iB prog_12_method_43_code aI_210_21 = true := by decide +kernel
def aI_210_22 : sx_IL := [(255, .invokestatic 305, 3), (258, .ifCond .ge 7, 3), (261, .iconst 1, 1), (262, .goto 4, 3), (265, .iconst 0, 1), (266, .istore 6, 2)]
theorem aJ_210_22 : sx_iB prog_12_method_43_code aI_210_22 = true := by decide +kernel
def aI_210_23 : sx_IL := [(268, .iload 5, 2), (270, .ifCond .le 38, 3), (273, .iload 6, 2), (275, .ifCond .eq 30, 3), (278, .aload_n 0, 1), (279, .getfield 43, 3)]
theorem aJ_210_23 : sx_iB prog_12_method_43_code aI_210_23 = true := by decide +kernel
def aI_210_24 : sx_IL := [(282, .getfield 322, 3), (285, .iconst 2, 1), (286, .aload_n 0, 1), (287, .getfield 23, 3), (290, .getfield 143, 3), (293, .iload 4, 2)]
theorem aJ_210_24 : sx_iB prog_12_method_43_code aI_210_24 = true := by decide +kernel
def aI_210_25 : sx_IL := [(295, .iconst 2, 1), (296, .iadd, 1), (297, .iload 5, 2), (299, .invokevirtual 312, 3), (302, .ifCond .ne 6, 3), (305, .bipush 113, 2)]
theorem aJ_210_25 : sx_iB prog_12_method_43_code aI_210_25 = true := by decide +kernel
def aI_210_26 : sx_IL := [(307, .ireturn, 1), (308, .iload_n 3, 1), (309, .ifCond .ne 7, 3), (312, .iconst 0, 1), (313, .goto 15, 3), (316, .aload_n 0, 1)]
theorem aJ_210_26 : sx_iB prog_12_method_43_code aI_210_26 = true := by decide +kernel
def aI_210_27 : sx_IL := [(317, .getfield 43, 3), (320, .aload_n 0, 1), (321, .getfield 47, 3), (324, .iload_n 3, 1), (325, .invokevirtual 326, 3), (328, .ireturn, 1)]
theorem aJ_210_27 : sx_iB prog_12_method_43_code aI_210_27 = true := by decide +kernel
def aS_210 (pc : Nat) : sx_IL := (if pc < 160 then (if pc < 82 then (if pc < 34 then (if pc < 14 then aI_210_0 else (if pc < 24 then aI_210_1 else aI_210_2)) else (if pc < 56 then (if pc < 46 then aI_210_3 else aI_210_4) else (if pc < 68 then aI_210_5 else aI_210_6))) else (if pc < 115 then (if pc < 90 then aI_210_7 else (if pc < 103 then aI_210_8 else aI_210_9)) else (if pc < 139 then (if pc < 128 then aI_210_10 else aI_210_11) else (if pc < 151 then aI_210_12 else aI_210_13)))) else (if pc < 244 then (if pc < 198 then (if pc < 175 then aI_210_14 else (if pc < 186 then aI_210_15 else aI_210_16)) else (if pc < 222 then (if pc < 210 then aI_210_17 else aI_210_18) else (if pc < 234 then aI_210_19 else aI_210_20))) else (if pc < 282 then (if pc < 255 then aI_210_21 else (if pc < 268 then aI_210_22 else aI_210_23)) else (if pc < 307 then (if pc < 295 then aI_210_24 else aI_210_25) else (if pc < 317 then aI_210_26 else aI_210_27)))))
theorem aT_210 (pc : Nat) : sx_iOk prog_12_method_43_code (aS_210 pc) := (sx_ite (p := fun l => sx_iOk prog_12_method_43_code l) (sx_ite (p := fun l => sx_iOk prog_12_method_43_code l) (sx_ite (p := fun l => sx_iOk prog_12_method_43_code l) (sx_ite (p := fun l => sx_iOk prog_12_method_43_code l) (sx_iB_s aJ_210_0) (sx_ite (p := fun l => sx_iOk prog_12_method_43_code l) (sx_iB_s aJ_210_1) (sx_iB_s aJ_210_2))) (sx_ite (p := fun l => sx_iOk prog_12_method_43_code l) (sx_ite (p := fun l => sx_iOk prog_12_method_43_code l) (sx_iB_s aJ_210_3) (sx_iB_s aJ_210_4)) (sx_ite (p := fun l => sx_iOk prog_12_method_43_code l) (sx_iB_s aJ_210_5) (sx_iB_s aJ_210_6)))) (sx_ite (p := fun l => sx_iOk prog_12_method_43_code l) (sx_ite (p := fun l => sx_iOk prog_12_method_43_code l) (sx_iB_s aJ_210_7) (sx_ite (p := fun l => sx_iOk prog_12_method_43_code l) (sx_iB_s aJ_210_8) (sx_iB_s aJ_210_9))) (sx_ite (p := fun l => sx_iOk prog_12_method_43_code l) (sx_ite (p := fun l => sx_iOk prog_12_method_43_code l) (sx_iB_s aJ_210_10) (sx_iB_s aJ_210_11)) (sx_ite (p := fun l => sx_iOk prog_12_method_43_code l) (sx_iB_s aJ_210_12) (sx_iB_s aJ_210_13))))) (sx_ite (p := fun l => sx_iOk prog_12_method_43_code l) (sx_ite (p := fun l => sx_iOk prog_12_method_43_code l) (sx_ite (p := fun l => sx_iOk prog_12_method_43_code l) (sx_iB_s aJ_210_14) (sx_ite (p := fun l => sx_iOk prog_12_method_43_code l) (sx_iB_s aJ_210_15) (sx_iB_s aJ_210_16))) (sx_ite (p := fun l => sx_iOk prog_12_method_43_code l) (sx_ite (p := fun l => sx_iOk prog_12_method_43_code l) (sx_iB_s aJ_210_17) (sx_iB_s aJ_210_18)) (sx_ite (p := fun l => sx_iOk prog_12_method_43_code l) (sx_iB_s aJ_210_19) (sx_iB_s aJ_210_20)))) (sx_ite (p := fun l => sx_iOk prog_12_method_43_code l) (sx_ite (p := fun l => sx_iOk prog_12_method_43_code l) (sx_iB_s aJ_210_21) (sx_ite (p := fun l => sx_iOk prog_12_method_43_code l) (sx_iB_s aJ_210_22) (sx_iB_s aJ_210_23))) (sx_ite (p := fun l => sx_iOk prog_12_method_43_code l) (sx_ite (p := fun l => sx_iOk prog_12_method_43_code l) (sx_iB_s aJ_210_24) (sx_iB_s aJ_210_25)) (sx_ite (p := fun l => sx_iOk prog_12_method_43_code l) (sx_iB_s aJ_210_26) (sx_iB_s aJ_210_27))))))
def aW_210 : Nat → Option (Instr × Nat) := fun pc => sx_iF (aS_210 pc) pc
theorem aX_210 : ∀ pc i len, aW_210 pc = some (i, len) → decode aM_210.1.2.1 pc = .ok (i, len) := fun pc i len h => sx_iF_s (aT_210 pc) h
def aI_211_0 : sx_IL := [(0, .iload_n 1, 1), (1, .iconst 3, 1), (2, .if_icmp .le 14, 3), (5, .aload_n 0, 1), (6, .getfield 23, 3), (9, .iconst 3, 1)]
theorem aJ_211_0 : sx_iB prog_12_method_44_code aI_211_0 = true := by decide +kernel
def aI_211_1 : sx_IL := [(10, .invokevirtual 59, 3), (13, .goto 4, 3), (16, .iconst 5, 1), (17, .istore_n 2, 1), (18, .iconst 4, 1), (19, .istore_n 3, 1)]
theorem aJ_211_1 : sx_iB prog_12_method_44_code aI_211_1 = true := by decide +kernel
def aI_211_2 : sx_IL := [(20, .iconst 0, 1), (21, .istore 4, 2), (23, .iload 4, 2), (25, .iload_n 2, 1), (26, .if_icmp .gt 36, 3), (29, .iload_n 2, 1)]
theorem aJ_211_2 : sx_iB prog_12_method_44_code aI_211_2 = true := by decide +kernel
def aI_211_3 : sx_IL := [(30, .iconst 4, 1), (31, .if_icmp .gt 31, 3), (34, .iload_n 3, 1), (35, .iconst 2, 1), (36, .iadd, 1), (37, .iload_n 1, 1)]
theorem aJ_211_3 : sx_iB prog_12_method_44_code aI_211_3 = true := by decide +kernel
def aI_211_4 : sx_IL := [(38, .if_icmp .le 5, 3), (41, .iconst 0, 1), (42, .ireturn, 1), (43, .iload_n 3, 1), (44, .iconst 2, 1), (45, .aload_n 0, 1)]
theorem aJ_211_4 : sx_iB prog_12_method_44_code aI_211_4 = true := by decide +kernel
def aI_211_5 : sx_IL := [(46, .getfield 23, 3), (49, .iload_n 3, 1), (50, .invokevirtual 66, 3), (53, .iadd, 1), (54, .iadd, 1), (55, .istore_n 3, 1)]
theorem aJ_211_5 : sx_iB prog_12_method_44_code aI_211_5 = true := by decide +kernel
def aI_211_6 : sx_IL := [(56, .iinc 4 1, 3), (59, .goto (-36), 3), (62, .iload_n 2, 1), (63, .iconst 4, 1), (64, .if_icmp .gt 12, 3), (67, .iload_n 3, 1)]
theorem aJ_211_6 : sx_iB prog_12_method_44_code aI_211_6 = true := by decide +kernel
def aI_211_7 : sx_IL := [(68, .iload_n 1, 1), (69, .if_icmp .ne 7, 3), (72, .iconst 1, 1), (73, .goto 4, 3), (76, .iconst 0, 1), (77, .ireturn, 1)]
theorem aJ_211_7 : sx_iB prog_12_method_44_code aI_211_7 = true := by decide +kernel
def aS_211 (pc : Nat) : sx_IL := (if pc < 38 then (if pc < 20 then (if pc < 10 then aI_211_0 else aI_211_1) else (if pc < 30 then aI_211_2 else aI_211_3)) else (if pc < 56 then (if pc < 46 then aI_211_4 else aI_211_5) else (if pc < 68 then aI_211_6 else aI_211_7)))
theorem aT_211 (pc : Nat) : sx_iOk prog_12_method_44_code (aS_211 pc) := (sx_ite (p := fun l => sx_iOk prog_12_method_44_code l) (sx_ite (p := fun l => sx_iOk prog_12_method_44_code l) (sx_ite (p := fun l => sx_iOk prog_12_method_44_code l) (sx_iB_s aJ_211_0) (sx_iB_s aJ_211_1)) (sx_ite (p := fun l => sx_iOk prog_12_method_44_code l) (sx_iB_s aJ_211_2) (sx_iB_s aJ_211_3))) (sx_ite (p := fun l => sx_iOk prog_12_method_44_code l) (sx_ite (p := fun l => sx_iOk prog_12_method_44_code l) (sx_iB_s aJ_211_4) (sx_iB_s aJ_211_5)) (sx_ite (p := fun l => sx_iOk prog_12_method_44_code l) (sx_iB_s aJ_211_6) (sx_iB_s aJ_211_7))))
def aW_211 : Nat → Option (Instr × Nat) := fun pc => sx_iF (aS_211 pc) pc
theorem aX_211 : ∀ pc i len, aW_211 pc = some (i, len) → decode aM_211.1.2.1 pc = .ok (i, len) := fun pc i len h => sx_iF_s (aT_211 pc) h
def aI_212_0 : sx_IL := [(0, .iconst 0, 1), (1, .istore_n 3, 1), (2, .iload_n 3, 1), (3, .iload_n 2, 1), (4, .if_icmp .ge 21, 3), (7, .aload_n 0, 1)]
theorem aJ_212_0 : sx_iB prog_5_method_17_code aI_212_0 = true := by decide +kernel
def aI_212_1 : sx_IL := [(8, .getfield 70, 3), (11, .iload_n 3, 1), (12, .aload_n 0, 1), (13, .getfield 64, 3), (16, .iload_n 3, 1), (17, .aaload, 1)]
theorem aJ_212_1 : sx_iB prog_5_method_17_code aI_212_1 = true := by decide +kernel
def aI_212_2 : sx_IL := [(18, .aastore, 1), (19, .iinc 3 1, 3), (22, .goto (-20), 3), (25, .aload_n 0, 1), (26, .iload_n 2, 1), (27, .putfield 168, 3)]
theorem aJ_212_2 : sx_iB prog_5_method_17_code aI_212_2 = true := by decide +kernel
def aI_212_3 : sx_IL := [(30, .aload_n 0, 1), (31, .aload_n 1, 1), (32, .aload_n 0, 1), (33, .getfield 64, 3), (36, .iload_n 2, 1), (37, .iconst 1, 1)]
theorem aJ_212_3 : sx_iB prog_5_method_17_code aI_212_3 = true := by decide +kernel
def aI_212_4 : sx_IL := [(38, .isub, 1), (39, .aaload, 1), (40, .invokevirtual 179, 3), (43, .ifCond .ne 38, 3), (46, .aload_n 0, 1), (47, .aload_n 1, 1)]
theorem aJ_212_4 : sx_iB prog_5_method_17_code aI_212_4 = true := by decide +kernel
def aI_212_5 : sx_IL := [(48, .aload_n 0, 1), (49, .getfield 64, 3), (52, .iload_n 2, 1), (53, .iconst 1, 1), (54, .isub, 1), (55, .aaload, 1)]
theorem aJ_212_5 : sx_iB prog_5_method_17_code aI_212_5 = true := by decide +kernel
def aI_212_6 : sx_IL := [(56, .invokevirtual 208, 3), (59, .astore_n 3, 1), (60, .aload_n 3, 1), (61, .ifnonnull 6, 3), (64, .bipush 48, 2), (66, .ireturn, 1)]
theorem aJ_212_6 : sx_iB prog_5_method_17_code aI_212_6 = true := by decide +kernel
def aI_212_7 : sx_IL := [(67, .aload_n 0, 1), (68, .getfield 70, 3), (71, .iload_n 2, 1), (72, .aload_n 3, 1), (73, .aastore, 1), (74, .aload_n 0, 1)]
theorem aJ_212_7 : sx_iB prog_5_method_17_code aI_212_7 = true := by decide +kernel
def aI_212_8 : sx_IL := [(75, .iload_n 2, 1), (76, .iconst 1, 1), (77, .iadd, 1), (78, .putfield 168, 3), (81, .aload_n 0, 1), (82, .invokevirtual 175, 3)]
theorem aJ_212_8 : sx_iB prog_5_method_17_code aI_212_8 = true := by decide +kernel
def aI_212_9 : sx_IL := [(85, .ifCond .eq 7, 3), (88, .iconst 0, 1), (89, .goto 5, 3), (92, .bipush 42, 2), (94, .ireturn, 1)]
theorem aJ_212_9 : sx_iB prog_5_method_17_code aI_212_9 = true := by decide +kernel
def aS_212 (pc : Nat) : sx_IL := (if pc < 48 then (if pc < 18 then (if pc < 8 then aI_212_0 else aI_212_1) else (if pc < 30 then aI_212_2 else (if pc < 38 then aI_212_3 else aI_212_4))) else (if pc < 67 then (if pc < 56 then aI_212_5 else aI_212_6) else (if pc < 75 then aI_212_7 else (if pc < 85 then aI_212_8 else aI_212_9))))
theorem aT_212 (pc : Nat) : sx_iOk prog_5_method_17_code (aS_212 pc) := (sx_ite (p := fun l => sx_iOk prog_5_method_17_code l) (sx_ite (p := fun l => sx_iOk prog_5_method_17_code l) (sx_ite (p := fun l => sx_iOk prog_5_method_17_code l) (sx_iB_s aJ_212_0) (sx_iB_s aJ_212_1)) (sx_ite (p := fun l => sx_iOk prog_5_method_17_code l) (sx_iB_s aJ_212_2) (sx_ite (p := fun l => sx_iOk prog_5_method_17_code l) (sx_iB_s aJ_212_3) (sx_iB_s aJ_212_4)))) (sx_ite (p := fun l => sx_iOk prog_5_method_17_code l) (sx_ite (p := fun l => sx_iOk prog_5_method_17_code l) (sx_iB_s aJ_212_5) (sx_iB_s aJ_212_6)) (sx_ite (p := fun l => sx_iOk prog_5_method_17_code l) (sx_iB_s aJ_212_7) (sx_ite (p := fun l => sx_iOk prog_5_method_17_code l) (sx_iB_s aJ_212_8) (sx_iB_s aJ_212_9)))))
def aW_212 : Nat → Option (Instr × Nat) := fun pc => sx_iF (aS_212 pc) pc
theorem aX_212 : ∀ pc i len, aW_212 pc = some (i, len) → decode aM_212.1.2.1 pc = .ok (i, len) := fun pc i len h => sx_iF_s (aT_212 pc) h
def aI_213_0 : sx_IL := [(0, .iconst 0, 1), (1, .istore_n 3, 1), (2, .iload_n 3, 1), (3, .aload_n 1, 1), (4, .getfield 160, 3), (7, .if_icmp .ge 36, 3)]
theorem aJ_213_0 : sx_iB prog_5_method_18_code aI_213_0 = true := by decide +kernel
def aI_213_1 : sx_IL := [(10, .aload_n 0, 1), (11, .getfield 49, 3), (14, .aload_n 1, 1), (15, .getfield 165, 3), (18, .iload_n 3, 1), (19, .iaload, 1)]
theorem aJ_213_1 : sx_iB prog_5_method_18_code aI_213_1 = true := by decide +kernel
def aI_213_2 : sx_IL := [(20, .aaload, 1), (21, .astore 4, 2), (23, .aload_n 2, 1), (24, .iconst 0, 1), (25, .aload 4, 2), (27, .iconst 1, 1)]
theorem aJ_213_2 : sx_iB prog_5_method_18_code aI_213_2 = true := by decide +kernel
def aI_213_3 : sx_IL := [(28, .invokevirtual 141, 3), (31, .ifCond .eq 6, 3), (34, .aload 4, 2), (36, .areturn, 1), (37, .iinc 3 1, 3), (40, .goto (-38), 3)]
theorem aJ_213_3 : sx_iB prog_5_method_18_code aI_213_3 = true := by decide +kernel
def aI_213_4 : sx_IL := [(43, .aconst_null, 1), (44, .areturn, 1)]
theorem aJ_213_4 : sx_iB prog_5_method_18_code aI_213_4 = true := by decide +kernel
def aS_213 (pc : Nat) : sx_IL := (if pc < 20 then (if pc < 10 then aI_213_0 else aI_213_1) else (if pc < 28 then aI_213_2 else (if pc < 43 then aI_213_3 else aI_213_4)))
theorem aT_213 (pc : Nat) : sx_iOk prog_5_method_18_code (aS_213 pc) := (sx_ite (p := fun l => sx_iOk prog_5_method_18_code l) (sx_ite (p := fun l => sx_iOk prog_5_method_18_code l) (sx_iB_s aJ_213_0) (sx_iB_s aJ_213_1)) (sx_ite (p := fun l => sx_iOk prog_5_method_18_code l) (sx_iB_s aJ_213_2) (sx_ite (p := fun l => sx_iOk prog_5_method_18_code l) (sx_iB_s aJ_213_3) (sx_iB_s aJ_213_4))))
def aW_213 : Nat → Option (Instr × Nat) := fun pc => sx_iF (aS_213 pc) pc
theorem aX_213 : ∀ pc i len, aW_213 pc = some (i, len) → decode aM_213.1.2.1 pc = .ok (i, len) := fun pc i len h => sx_iF_s (aT_213 pc) h
def aI_214_0 : sx_IL := [(0, .iload_n 1, 1), (1, .invokestatic 243, 3), (4, .istore_n 2, 1), (5, .aload_n 0, 1), (6, .getfield 74, 3), (9, .getfield 246, 3)]
theorem aJ_214_0 : sx_iB prog_2_method_11_code aI_214_0 = true := by decide +kernel
def aI_214_1 : sx_IL := [(12, .iconst 0, 1), (13, .aaload, 1), (14, .astore_n 3, 1), (15, .iload_n 2, 1), (16, .ifCond .ne 16, 3), (19, .aload_n 0, 1)]
theorem aJ_214_1 : sx_iB prog_2_method_11_code aI_214_1 = true := by decide +kernel
def aI_214_2 : sx_IL := [(20, .getfield 21, 3), (23, .getfield 174, 3), (26, .getfield 41, 3), (29, .ifCond .ne 7, 3), (32, .iconst 1, 1), (33, .goto 4, 3)]
theorem aJ_214_2 : sx_iB prog_2_method_11_code aI_214_2 = true := by decide +kernel
def aI_214_3 : sx_IL := [(36, .iconst 0, 1), (37, .istore 4, 2), (39, .iconst 0, 1), (40, .istore 5, 2), (42, .iload 5, 2), (44, .aload_n 3, 1)]
theorem aJ_214_3 : sx_iB prog_2_method_11_code aI_214_3 = true := by decide +kernel
def aI_214_4 : sx_IL := [(45, .getfield 250, 3), (48, .bipush 8, 2), (50, .iaload, 1), (51, .if_icmp .ge 44, 3), (54, .iload 4, 2), (56, .ifCond .ne 39, 3)]
theorem aJ_214_4 : sx_iB prog_2_method_11_code aI_214_4 = true := by decide +kernel
def aI_214_5 : sx_IL := [(59, .aload_n 3, 1), (60, .iconst 4, 1), (61, .iload 5, 2), (63, .iadd, 1), (64, .aload_n 0, 1), (65, .getfield 21, 3)]
theorem aJ_214_5 : sx_iB prog_2_method_11_code aI_214_5 = true := by decide +kernel
def aI_214_6 : sx_IL := [(68, .getfield 174, 3), (71, .getfield 111, 3), (74, .aload_n 0, 1), (75, .getfield 21, 3), (78, .getfield 174, 3), (81, .getfield 41, 3)]
theorem aJ_214_6 : sx_iB prog_2_method_11_code aI_214_6 = true := by decide +kernel
def aI_214_7 : sx_IL := [(84, .invokevirtual 255, 3), (87, .istore 4, 2), (89, .iinc 5 1, 3), (92, .goto (-50), 3), (95, .iload 4, 2), (97, .ifCond .eq 7, 3)]
theorem aJ_214_7 : sx_iB prog_2_method_11_code aI_214_7 = true := by decide +kernel
def aI_214_8 : sx_IL := [(100, .iload_n 2, 1), (101, .goto 5, 3), (104, .bipush 42, 2), (106, .ireturn, 1)]
theorem aJ_214_8 : sx_iB prog_2_method_11_code aI_214_8 = true := by decide +kernel
def aS_214 (pc : Nat) : sx_IL := (if pc < 45 then (if pc < 20 then (if pc < 12 then aI_214_0 else aI_214_1) else (if pc < 36 then aI_214_2 else aI_214_3)) else (if pc < 68 then (if pc < 59 then aI_214_4 else aI_214_5) else (if pc < 84 then aI_214_6 else (if pc < 100 then aI_214_7 else aI_214_8))))
theorem aT_214 (pc : Nat) : sx_iOk prog_2_method_11_code (aS_214 pc) := (sx_ite (p := fun l => sx_iOk prog_2_method_11_code l) (sx_ite (p := fun l => sx_iOk prog_2_method_11_code l) (sx_ite (p := fun l => sx_iOk prog_2_method_11_code l) (sx_iB_s aJ_214_0) (sx_iB_s aJ_214_1)) (sx_ite (p := fun l => sx_iOk prog_2_method_11_code l) (sx_iB_s aJ_214_2) (sx_iB_s aJ_214_3))) (sx_ite (p := fun l => sx_iOk prog_2_method_11_code l) (sx_ite (p := fun l => sx_iOk prog_2_method_11_code l) (sx_iB_s aJ_214_4) (sx_iB_s aJ_214_5)) (sx_ite (p := fun l => sx_iOk prog_2_method_11_code l) (sx_iB_s aJ_214_6) (sx_ite (p := fun l => sx_iOk prog_2_method_11_code l) (sx_iB_s aJ_214_7) (sx_iB_s aJ_214_8)))))
def aW_214 : Nat → Option (Instr × Nat) := fun pc => sx_iF (aS_214 pc) pc
theorem aX_214 : ∀ pc i len, aW_214 pc = some (i, len) → decode aM_214.1.2.1 pc = .ok (i, len) := fun pc i len h => sx_iF_s (aT_214 pc) h
def aI_215_0 : sx_IL := [(0, .iload_n 0, 1), (1, .bipush 100, 2), (3, .irem, 1), (4, .istore_n 1, 1), (5, .iload_n 1, 1), (6, .ifCond .ne 7, 3)]
theorem aJ_215_0 : sx_iB prog_12_method_45_code aI_215_0 = true := by decide +kernel
def aI_215_1 : sx_IL := [(9, .iconst 0, 1), (10, .goto 47, 3), (13, .iload_n 1, 1), (14, .iconst 1, 1), (15, .if_icmp .ne 8, 3), (18, .bipush 42, 2)]
theorem aJ_215_1 : sx_iB prog_12_method_45_code aI_215_1 = true := by decide +kernel
def aI_215_2 : sx_IL := [(20, .goto 37, 3), (23, .iload_n 1, 1), (24, .iconst 3, 1), (25, .if_icmp .gt 8, 3), (28, .bipush 45, 2), (30, .goto 27, 3)]
theorem aJ_215_2 : sx_iB prog_12_method_45_code aI_215_2 = true := by decide +kernel
def aI_215_3 : sx_IL := [(33, .iload_n 1, 1), (34, .bipush 7, 2), (36, .if_icmp .gt 8, 3), (39, .bipush 46, 2), (41, .goto 16, 3), (44, .iload_n 1, 1)]
theorem aJ_215_3 : sx_iB prog_12_method_45_code aI_215_3 = true := by decide +kernel
def aI_215_4 : sx_IL := [(45, .bipush 8, 2), (47, .if_icmp .ne 8, 3), (50, .bipush 44, 2), (52, .goto 5, 3), (55, .bipush 113, 2), (57, .ireturn, 1)]
theorem aJ_215_4 : sx_iB prog_12_method_45_code aI_215_4 = true := by decide +kernel
def aS_215 (pc : Nat) : sx_IL := (if pc < 20 then (if pc < 9 then aI_215_0 else aI_215_1) else (if pc < 33 then aI_215_2 else (if pc < 45 then aI_215_3 else aI_215_4)))
theorem aT_215 (pc : Nat) : sx_iOk prog_12_method_45_code (aS_215 pc) := (sx_ite (p := fun l => sx_iOk prog_12_method_45_code l) (sx_ite (p := fun l => sx_iOk prog_12_method_45_code l) (sx_iB_s aJ_215_0) (sx_iB_s aJ_215_1)) (sx_ite (p := fun l => sx_iOk prog_12_method_45_code l) (sx_iB_s aJ_215_2) (sx_ite (p := fun l => sx_iOk prog_12_method_45_code l) (sx_iB_s aJ_215_3) (sx_iB_s aJ_215_4))))
def aW_215 : Nat → Option (Instr × Nat) := fun pc => sx_iF (aS_215 pc) pc
theorem aX_215 : ∀ pc i len, aW_215 pc = some (i, len) → decode aM_215.1.2.1 pc = .ok (i, len) := fun pc i len h => sx_iF_s (aT_215 pc) h
def aI_216_0 : sx_IL := [(0, .aload_n 0, 1), (1, .iload_n 1, 1), (2, .invokevirtual 37, 3), (5, .istore 4, 2), (7, .aload_n 0, 1), (8, .getfield 28, 3)]
theorem aJ_216_0 : sx_iB prog_8_method_16_code aI_216_0 = true := by decide +kernel
def aI_216_1 : sx_IL := [(11, .iload 4, 2), (13, .aload_n 0, 1), (14, .iload_n 1, 1), (15, .invokevirtual 41, 3), (18, .invokestatic 62, 3), (21, .istore 5, 2)]
theorem aJ_216_1 : sx_iB prog_8_method_16_code aI_216_1 = true := by decide +kernel
def aI_216_2 : sx_IL := [(23, .aload_n 2, 1), (24, .iconst 0, 1), (25, .iload_n 3, 1), (26, .invokestatic 65, 3), (29, .istore 6, 2), (31, .aload_n 0, 1)]
theorem aJ_216_2 : sx_iB prog_8_method_16_code aI_216_2 = true := by decide +kernel
def aI_216_3 : sx_IL := [(32, .getfield 28, 3), (35, .iload 4, 2), (37, .aload_n 0, 1), (38, .iload_n 1, 1), (39, .invokevirtual 41, 3), (42, .aload_n 2, 1)]
theorem aJ_216_3 : sx_iB prog_8_method_16_code aI_216_3 = true := by decide +kernel
def aI_216_4 : sx_IL := [(43, .iconst 0, 1), (44, .iload_n 3, 1), (45, .invokestatic 31, 3), (48, .ifCond .ne 39, 3), (51, .iload 5, 2), (53, .iload 4, 2)]
theorem aJ_216_4 : sx_iB prog_8_method_16_code aI_216_4 = true := by decide +kernel
def aI_216_5 : sx_IL := [(55, .if_icmp .le 36, 3), (58, .iload 6, 2), (60, .iload_n 3, 1), (61, .if_icmp .ge 30, 3), (64, .aload_n 0, 1), (65, .getfield 28, 3)]
theorem aJ_216_5 : sx_iB prog_8_method_16_code aI_216_5 = true := by decide +kernel
def aI_216_6 : sx_IL := [(68, .iload 5, 2), (70, .aload_n 0, 1), (71, .iload_n 1, 1), (72, .invokevirtual 41, 3), (75, .aload_n 2, 1), (76, .iload 6, 2)]
theorem aJ_216_6 : sx_iB prog_8_method_16_code aI_216_6 = true := by decide +kernel
def aI_216_7 : sx_IL := [(78, .iconst 1, 1), (79, .iadd, 1), (80, .iload_n 3, 1), (81, .invokestatic 31, 3), (84, .ifCond .eq 7, 3), (87, .iconst 1, 1)]
theorem aJ_216_7 : sx_iB prog_8_method_16_code aI_216_7 = true := by decide +kernel
def aI_216_8 : sx_IL := [(88, .goto 4, 3), (91, .iconst 0, 1), (92, .ireturn, 1)]
theorem aJ_216_8 : sx_iB prog_8_method_16_code aI_216_8 = true := by decide +kernel
def aS_216 (pc : Nat) : sx_IL := (if pc < 43 then (if pc < 23 then (if pc < 11 then aI_216_0 else aI_216_1) else (if pc < 32 then aI_216_2 else aI_216_3)) else (if pc < 68 then (if pc < 55 then aI_216_4 else aI_216_5) else (if pc < 78 then aI_216_6 else (if pc < 88 then aI_216_7 else aI_216_8))))
theorem aT_216 (pc : Nat) : sx_iOk prog_8_method_16_code (aS_216 pc) := (sx_ite (p := fun l => sx_iOk prog_8_method_16_code l) (sx_ite (p := fun l => sx_iOk prog_8_method_16_code l) (sx_ite (p := fun l => sx_iOk prog_8_method_16_code l) (sx_iB_s aJ_216_0) (sx_iB_s aJ_216_1)) (sx_ite (p := fun l => sx_iOk prog_8_method_16_code l) (sx_iB_s aJ_216_2) (sx_iB_s aJ_216_3))) (sx_ite (p := fun l => sx_iOk prog_8_method_16_code l) (sx_ite (p := fun l => sx_iOk prog_8_method_16_code l) (sx_iB_s aJ_216_4) (sx_iB_s aJ_216_5)) (sx_ite (p := fun l => sx_iOk prog_8_method_16_code l) (sx_iB_s aJ_216_6) (sx_ite (p := fun l => sx_iOk prog_8_method_16_code l) (sx_iB_s aJ_216_7) (sx_iB_s aJ_216_8)))))
def aW_216 : Nat → Option (Instr × Nat) := fun pc => sx_iF (aS_216 pc) pc
theorem aX_216 : ∀ pc i len, aW_216 pc = some (i, len) → decode aM_216.1.2.1 pc = .ok (i, len) := fun pc i len h => sx_iF_s (aT_216 pc) h
def aI_217_0 : sx_IL := [(0, .iload_n 1, 1), (1, .invokestatic 53, 3), (4, .ireturn, 1)]
theorem aJ_217_0 : sx_iB prog_10_method_6_code aI_217_0 = true := by decide +kernel
def aS_217 (pc : Nat) : sx_IL := aI_217_0
theorem aT_217 (pc : Nat) : sx_iOk prog_10_method_6_code (aS_217 pc) := (sx_iB_s aJ_217_0)
def aW_217 : Nat → Option (Instr × Nat) := fun pc => sx_iF (aS_217 pc) pc
theorem aX_217 : ∀ pc i len, aW_217 pc = some (i, len) → decode aM_217.1.2.1 pc = .ok (i, len) := fun pc i len h => sx_iF_s (aT_217 pc) h
def aI_218_0 : sx_IL := [(0, .iload_n 1, 1), (1, .iconst 2, 1), (2, .if_icmp .eq 15, 3), (5, .iload_n 1, 1), (6, .bipush 20, 2), (8, .if_icmp .eq 9, 3)]
theorem aJ_218_0 : sx_iB prog_2_method_9_code aI_218_0 = true := by decide +kernel
def aI_218_1 : sx_IL := [(11, .iload_n 1, 1), (12, .bipush 24, 2), (14, .if_icmp .ne 7, 3), (17, .iconst 1, 1), (18, .goto 4, 3), (21, .iconst 0, 1)]
theorem aJ_218_1 : sx_iB prog_2_method_9_code aI_218_1 = true := by decide +kernel
def aI_218_2 : sx_IL := [(22, .ireturn, 1)]
theorem aJ_218_2 : sx_iB prog_2_method_9_code aI_218_2 = true := by decide +kernel
def aS_218 (pc : Nat) : sx_IL := (if pc < 11 then aI_218_0 else (if pc < 22 then aI_218_1 else aI_218_2))
theorem aT_218 (pc : Nat) : sx_iOk prog_2_method_9_code (aS_218 pc) := (sx_ite (p := fun l => sx_iOk prog_2_method_9_code l) (sx_iB_s aJ_218_0) (sx_ite (p := fun l => sx_iOk prog_2_method_9_code l) (sx_iB_s aJ_218_1) (sx_iB_s aJ_218_2)))
def aW_218 : Nat → Option (Instr × Nat) := fun pc => sx_iF (aS_218 pc) pc
theorem aX_218 : ∀ pc i len, aW_218 pc = some (i, len) → decode aM_218.1.2.1 pc = .ok (i, len) := fun pc i len h => sx_iF_s (aT_218 pc) h
def aI_219_0 : sx_IL := [(0, .iload_n 1, 1), (1, .iconst 1, 1), (2, .if_icmp .ne 10, 3), (5, .aload_n 0, 1), (6, .getfield 36, 3), (9, .ifCond .eq 20, 3)]
theorem aJ_219_0 : sx_iB prog_10_method_4_code aI_219_0 = true := by decide +kernel
def aI_219_1 : sx_IL := [(12, .iload_n 1, 1), (13, .iconst 5, 1), (14, .if_icmp .eq 15, 3), (17, .iload_n 1, 1), (18, .bipush 20, 2), (20, .if_icmp .eq 9, 3)]
theorem aJ_219_1 : sx_iB prog_10_method_4_code aI_219_1 = true := by decide +kernel
def aI_219_2 : sx_IL := [(23, .iload_n 1, 1), (24, .bipush 24, 2), (26, .if_icmp .ne 7, 3), (29, .iconst 1, 1), (30, .goto 4, 3), (33, .iconst 0, 1)]
theorem aJ_219_2 : sx_iB prog_10_method_4_code aI_219_2 = true := by decide +kernel
def aI_219_3 : sx_IL := [(34, .ireturn, 1)]
theorem aJ_219_3 : sx_iB prog_10_method_4_code aI_219_3 = true := by decide +kernel
def aS_219 (pc : Nat) : sx_IL := (if pc < 23 then (if pc < 12 then aI_219_0 else aI_219_1) else (if pc < 34 then aI_219_2 else aI_219_3))
theorem aT_219 (pc : Nat) : sx_iOk prog_10_method_4_code (aS_219 pc) := (sx_ite (p := fun l => sx_iOk prog_10_method_4_code l) (sx_ite (p := fun l => sx_iOk prog_10_method_4_code l) (sx_iB_s aJ_219_0) (sx_iB_s aJ_219_1)) (sx_ite (p := fun l => sx_iOk prog_10_method_4_code l) (sx_iB_s aJ_219_2) (sx_iB_s aJ_219_3)))
def aW_219 : Nat → Option (Instr × Nat) := fun pc => sx_iF (aS_219 pc) pc
theorem aX_219 : ∀ pc i len, aW_219 pc = some (i, len) → decode aM_219.1.2.1 pc = .ok (i, len) := fun pc i len h => sx_iF_s (aT_219 pc) h
def aI_220_0 : sx_IL := [(0, .iload_n 1, 1), (1, .bipush 6, 2), (3, .if_icmp .ne 24, 3), (6, .aload_n 0, 1), (7, .getfield 279, 3), (10, .iconst 1, 1)]
theorem aJ_220_0 : sx_iB prog_2_method_16_code aI_220_0 = true := by decide +kernel
def aI_220_1 : sx_IL := [(11, .aload_n 0, 1), (12, .getfield 263, 3), (15, .iconst 3, 1), (16, .invokevirtual 273, 3), (19, .iastore, 1), (20, .aload_n 0, 1)]
theorem aJ_220_1 : sx_iB prog_2_method_16_code aI_220_1 = true := by decide +kernel
def aI_220_2 : sx_IL := [(21, .invokevirtual 298, 3), (24, .goto 23, 3), (27, .iload_n 1, 1), (28, .iconst 2, 1), (29, .if_icmp .ne 18, 3), (32, .aload_n 0, 1)]
theorem aJ_220_2 : sx_iB prog_2_method_16_code aI_220_2 = true := by decide +kernel
def aI_220_3 : sx_IL := [(33, .getfield 279, 3), (36, .iconst 1, 1), (37, .aload_n 0, 1), (38, .getfield 263, 3), (41, .bipush 11, 2), (43, .invokevirtual 273, 3)]
theorem aJ_220_3 : sx_iB prog_2_method_16_code aI_220_3 = true := by decide +kernel
def aI_220_4 : sx_IL := [(46, .iastore, 1), (47, .aload_n 0, 1), (48, .iload_n 1, 1), (49, .aload_n 0, 1), (50, .getfield 263, 3), (53, .getfield 111, 3)]
theorem aJ_220_4 : sx_iB prog_2_method_16_code aI_220_4 = true := by decide +kernel
def aI_220_5 : sx_IL := [(56, .iload_n 2, 1), (57, .invokevirtual 301, 3), (60, .iload_n 1, 1), (61, .lookupswitch 297 #[(2, 51), (4, 267), (6, 90), (20, 128), (24, 274)], 51), (112, .aload_n 0, 1), (113, .aload_n 0, 1)]
theorem aJ_220_5 : sx_iB prog_2_method_16_code aI_220_5 = true := by decide +kernel
def aI_220_6 : sx_IL := [(114, .getfield 17, 3), (117, .iconst (-1), 1), (118, .if_icmp .ne 7, 3), (121, .lconst 0, 1), (122, .goto 15, 3), (125, .aload_n 0, 1)]
theorem aJ_220_6 : sx_iB prog_2_method_16_code aI_220_6 = true := by decide +kernel
def aI_220_7 : sx_IL := [(126, .getfield 11, 3), (129, .aload_n 0, 1), (130, .getfield 17, 3), (133, .aaload, 1), (134, .getfield 87, 3), (137, .aload_n 0, 1)]
theorem aJ_220_7 : sx_iB prog_2_method_16_code aI_220_7 = true := by decide +kernel
def aI_220_8 : sx_IL := [(138, .getfield 288, 3), (141, .invokevirtual 305, 3), (144, .aload_n 0, 1), (145, .invokevirtual 309, 3), (148, .goto 215, 3), (151, .aload_n 0, 1)]
theorem aJ_220_8 : sx_iB prog_2_method_16_code aI_220_8 = true := by decide +kernel
def aI_220_9 : sx_IL := [(152, .invokevirtual 312, 3), (155, .aload_n 0, 1), (156, .aload_n 0, 1), (157, .getfield 74, 3), (160, .getfield 259, 3), (163, .iconst 3, 1)]
theorem aJ_220_9 : sx_iB prog_2_method_16_code aI_220_9 = true := by decide +kernel
def aI_220_10 : sx_IL := [(164, .iconst 0, 1), (165, .invokevirtual 282, 3), (168, .aload_n 0, 1), (169, .getfield 74, 3), (172, .getfield 259, 3), (175, .invokevirtual 64, 3)]
theorem aJ_220_10 : sx_iB prog_2_method_16_code aI_220_10 = true := by decide +kernel
def aI_220_11 : sx_IL := [(178, .aload_n 0, 1), (179, .invokevirtual 68, 3), (182, .aload_n 0, 1), (183, .invokevirtual 71, 3), (186, .goto 177, 3), (189, .aload_n 0, 1)]
theorem aJ_220_11 : sx_iB prog_2_method_16_code aI_220_11 = true := by decide +kernel
def aI_220_12 : sx_IL := [(190, .aload_n 0, 1), (191, .invokevirtual 315, 3), (194, .invokevirtual 318, 3), (197, .aload_n 0, 1), (198, .getfield 279, 3), (201, .iconst 5, 1)]
theorem aJ_220_12 : sx_iB prog_2_method_16_code aI_220_12 = true := by decide +kernel
def aI_220_13 : sx_IL := [(202, .iaload, 1), (203, .iconst 1, 1), (204, .if_icmp .ne 27, 3), (207, .aload_n 0, 1), (208, .iconst 5, 1), (209, .invokevirtual 137, 3)]
theorem aJ_220_13 : sx_iB prog_2_method_16_code aI_220_13 = true := by decide +kernel
def aI_220_14 : sx_IL := [(212, .pop, 1), (213, .aload_n 0, 1), (214, .invokevirtual 71, 3), (217, .aload_n 0, 1), (218, .aload_n 0, 1), (219, .getfield 321, 3)]
theorem aJ_220_14 : sx_iB prog_2_method_16_code aI_220_14 = true := by decide +kernel
def aI_220_15 : sx_IL := [(222, .aload_n 0, 1), (223, .getfield 279, 3), (226, .iconst 1, 1), (227, .iaload, 1), (228, .invokevirtual 107, 3), (231, .aload_n 0, 1)]
theorem aJ_220_15 : sx_iB prog_2_method_16_code aI_220_15 = true := by decide +kernel
def aI_220_16 : sx_IL := [(232, .getfield 324, 3), (235, .ifCond .eq 47, 3), (238, .aload_n 0, 1), (239, .invokevirtual 327, 3), (242, .istore_n 3, 1), (243, .aload_n 0, 1)]
theorem aJ_220_16 : sx_iB prog_2_method_16_code aI_220_16 = true := by decide +kernel
def aI_220_17 : sx_IL := [(244, .iload_n 3, 1), (245, .ifCond .ne 7, 3), (248, .iconst 0, 1), (249, .goto 10, 3), (252, .aload_n 0, 1), (253, .getfield 21, 3)]
theorem aJ_220_17 : sx_iB prog_2_method_16_code aI_220_17 = true := by decide +kernel
def aI_220_18 : sx_IL := [(256, .getfield 330, 3), (259, .aconst_null, 1), (260, .invokevirtual 333, 3), (263, .aload_n 0, 1), (264, .invokevirtual 71, 3), (267, .iload_n 3, 1)]
theorem aJ_220_18 : sx_iB prog_2_method_16_code aI_220_18 = true := by decide +kernel
def aI_220_19 : sx_IL := [(268, .ifCond .eq 14, 3), (271, .aload_n 0, 1), (272, .bipush 67, 2), (274, .iload_n 3, 1), (275, .invokevirtual 337, 3), (278, .aload_n 0, 1)]
theorem aJ_220_19 : sx_iB prog_2_method_16_code aI_220_19 = true := by decide +kernel
def aI_220_20 : sx_IL := [(279, .invokevirtual 71, 3), (282, .aload_n 0, 1), (283, .aload_n 0, 1), (284, .getfield 321, 3), (287, .invokevirtual 341, 3), (290, .aload_n 0, 1)]
theorem aJ_220_20 : sx_iB prog_2_method_16_code aI_220_20 = true := by decide +kernel
def aI_220_21 : sx_IL := [(291, .invokevirtual 71, 3), (294, .aload_n 0, 1), (295, .invokevirtual 344, 3), (298, .aload_n 0, 1), (299, .aload_n 0, 1), (300, .getfield 347, 3)]
theorem aJ_220_21 : sx_iB prog_2_method_16_code aI_220_21 = true := by decide +kernel
def aI_220_22 : sx_IL := [(303, .aload_n 0, 1), (304, .getfield 279, 3), (307, .iconst 1, 1), (308, .iaload, 1), (309, .invokevirtual 107, 3), (312, .aload_n 0, 1)]
theorem aJ_220_22 : sx_iB prog_2_method_16_code aI_220_22 = true := by decide +kernel
def aI_220_23 : sx_IL := [(313, .getfield 279, 3), (316, .iconst 0, 1), (317, .iconst 1, 1), (318, .iastore, 1), (319, .aload_n 0, 1), (320, .bipush 6, 2)]
theorem aJ_220_23 : sx_iB prog_2_method_16_code aI_220_23 = true := by decide +kernel
def aI_220_24 : sx_IL := [(322, .putfield 208, 3), (325, .goto 38, 3), (328, .aload_n 0, 1), (329, .invokevirtual 350, 3), (332, .goto 31, 3), (335, .aload_n 0, 1)]
theorem aJ_220_24 : sx_iB prog_2_method_16_code aI_220_24 = true := by decide +kernel
def aI_220_25 : sx_IL := [(336, .invokevirtual 353, 3), (339, .ifCond .eq 24, 3), (342, .aload_n 0, 1), (343, .iconst 0, 1), (344, .invokevirtual 357, 3), (347, .aload_n 0, 1)]
theorem aJ_220_25 : sx_iB prog_2_method_16_code aI_220_25 = true := by decide +kernel
def aI_220_26 : sx_IL := [(348, .invokevirtual 71, 3), (351, .aload_n 0, 1), (352, .invokevirtual 360, 3), (355, .goto 8, 3), (358, .aload_n 0, 1), (359, .iload_n 1, 1)]
theorem aJ_220_26 : sx_iB prog_2_method_16_code aI_220_26 = true := by decide +kernel
def aI_220_27 : sx_IL := [(360, .invokevirtual 363, 3), (363, .return_, 1)]
theorem aJ_220_27 : sx_iB prog_2_method_16_code aI_220_27 = true := by decide +kernel
def aS_220 (pc : Nat) : sx_IL := (if pc < 212 then (if pc < 126 then (if pc < 33 then (if pc < 11 then aI_220_0 else (if pc < 21 then aI_220_1 else aI_220_2)) else (if pc < 56 then (if pc < 46 then aI_220_3 else aI_220_4) else (if pc < 114 then aI_220_5 else aI_220_6))) else (if pc < 164 then (if pc < 138 then aI_220_7 else (if pc < 152 then aI_220_8 else aI_220_9)) else (if pc < 190 then (if pc < 178 then aI_220_10 else aI_220_11) else (if pc < 202 then aI_220_12 else aI_220_13)))) else (if pc < 291 then (if pc < 244 then (if pc < 222 then aI_220_14 else (if pc < 232 then aI_220_15 else aI_220_16)) else (if pc < 268 then (if pc < 256 then aI_220_17 else aI_220_18) else (if pc < 279 then aI_220_19 else aI_220_20))) else (if pc < 322 then (if pc < 303 then aI_220_21 else (if pc < 313 then aI_220_22 else aI_220_23)) else (if pc < 348 then (if pc < 336 then aI_220_24 else aI_220_25) else (if pc < 360 then aI_220_26 else aI_220_27)))))
theorem aT_220 (pc : Nat) : sx_iOk prog_2_method_16_code (aS_220 pc) := (sx_ite (p := fun l => sx_iOk prog_2_method_16_code l) (sx_ite (p := fun l => sx_iOk prog_2_method_16_code l) (sx_ite (p := fun l => sx_iOk prog_2_method_16_code l) (sx_ite (p := fun l => sx_iOk prog_2_method_16_code l) (sx_iB_s aJ_220_0) (sx_ite (p := fun l => sx_iOk prog_2_method_16_code l) (sx_iB_s aJ_220_1) (sx_iB_s aJ_220_2))) (sx_ite (p := fun l => sx_iOk prog_2_method_16_code l) (sx_ite (p := fun l => sx_iOk prog_2_method_16_code l) (sx_iB_s aJ_220_3) (sx_iB_s aJ_220_4)) (sx_ite (p := fun l => sx_iOk prog_2_method_16_code l) (sx_iB_s aJ_220_5) (sx_iB_s aJ_220_6)))) (sx_ite (p := fun l => sx_iOk prog_2_method_16_code l) (sx_ite (p := fun l => sx_iOk prog_2_method_16_code l) (sx_iB_s aJ_220_7) (sx_ite (p := fun l => sx_iOk prog_2_method_16_code l) (sx_iB_s aJ_220_8) (sx_iB_s aJ_220_9))) (sx_ite (p := fun l => sx_iOk prog_2_method_16_code l) (sx_ite (p := fun l => sx_iOk prog_2_method_16_code l) (sx_iB_s aJ_220_10) (sx_iB_s aJ_220_11)) (sx_ite (p := fun l => sx_iOk prog_2_method_16_code l) (sx_iB_s aJ_220_12) (sx_iB_s aJ_220_13))))) (sx_ite (p := fun l => sx_iOk prog_2_method_16_code l) (sx_ite (p := fun l => sx_iOk prog_2_method_16_code l) (sx_ite (p := fun l => sx_iOk prog_2_method_16_code l) (sx_iB_s aJ_220_14) (sx_ite (p := fun l => sx_iOk prog_2_method_16_code l) (sx_iB_s aJ_220_15) (sx_iB_s aJ_220_16))) (sx_ite (p := fun l => sx_iOk prog_2_method_16_code l) (sx_ite (p := fun l => sx_iOk prog_2_method_16_code l) (sx_iB_s aJ_220_17) (sx_iB_s aJ_220_18)) (sx_ite (p := fun l => sx_iOk prog_2_method_16_code l) (sx_iB_s aJ_220_19) (sx_iB_s aJ_220_20)))) (sx_ite (p := fun l => sx_iOk prog_2_method_16_code l) (sx_ite (p := fun l => sx_iOk prog_2_method_16_code l) (sx_iB_s aJ_220_21) (sx_ite (p := fun l => sx_iOk prog_2_method_16_code l) (sx_iB_s aJ_220_22) (sx_iB_s aJ_220_23))) (sx_ite (p := fun l => sx_iOk prog_2_method_16_code l) (sx_ite (p := fun l => sx_iOk prog_2_method_16_code l) (sx_iB_s aJ_220_24) (sx_iB_s aJ_220_25)) (sx_ite (p := fun l => sx_iOk prog_2_method_16_code l) (sx_iB_s aJ_220_26) (sx_iB_s aJ_220_27))))))
def aW_220 : Nat → Option (Instr × Nat) := fun pc => sx_iF (aS_220 pc) pc
theorem aX_220 : ∀ pc i len, aW_220 pc = some (i, len) → decode aM_220.1.2.1 pc = .ok (i, len) := fun pc i len h => sx_iF_s (aT_220 pc) h
def aI_221_0 : sx_IL := [(0, .aload_n 0, 1), (1, .getfield 39, 3), (4, .aload_n 0, 1), (5, .invokevirtual 226, 3), (8, .aaload, 1), (9, .astore_n 1, 1)]
theorem aJ_221_0 : sx_iB prog_12_method_26_code aI_221_0 = true := by decide +kernel
def aI_221_1 : sx_IL := [(10, .aload_n 0, 1), (11, .aload_n 0, 1), (12, .invokevirtual 226, 3), (15, .invokevirtual 229, 3), (18, .lstore_n 2, 1), (19, .aload_n 1, 1)]
theorem aJ_221_1 : sx_iB prog_12_method_26_code aI_221_1 = true := by decide +kernel
def aI_221_2 : sx_IL := [(20, .aload_n 0, 1), (21, .invokevirtual 226, 3), (24, .invokevirtual 52, 3), (27, .aload_n 1, 1), (28, .sipush 254, 3), (31, .invokevirtual 233, 3)]
theorem aJ_221_2 : sx_iB prog_12_method_26_code aI_221_2 = true := by decide +kernel
def aI_221_3 : sx_IL := [(34, .aload_n 1, 1), (35, .iconst 0, 1), (36, .invokevirtual 233, 3), (39, .aload_n 1, 1), (40, .bipush 8, 2), (42, .invokevirtual 233, 3)]
theorem aJ_221_3 : sx_iB prog_12_method_26_code aI_221_3 = true := by decide +kernel
def aI_221_4 : sx_IL := [(45, .aload_n 1, 1), (46, .lload_n 2, 1), (47, .invokevirtual 234, 3), (50, .return_, 1)]
theorem aJ_221_4 : sx_iB prog_12_method_26_code aI_221_4 = true := by decide +kernel
def aS_221 (pc : Nat) : sx_IL := (if pc < 20 then (if pc < 10 then aI_221_0 else aI_221_1) else (if pc < 34 then aI_221_2 else (if pc < 45 then aI_221_3 else aI_221_4)))
theorem aT_221 (pc : Nat) : sx_iOk prog_12_method_26_code (aS_221 pc) := (sx_ite (p := fun l => sx_iOk prog_12_method_26_code l) (sx_ite (p := fun l => sx_iOk prog_12_method_26_code l) (sx_iB_s aJ_221_0) (sx_iB_s aJ_221_1)) (sx_ite (p := fun l => sx_iOk prog_12_method_26_code l) (sx_iB_s aJ_221_2) (sx_ite (p := fun l => sx_iOk prog_12_method_26_code l) (sx_iB_s aJ_221_3) (sx_iB_s aJ_221_4))))
def aW_221 : Nat → Option (Instr × Nat) := fun pc => sx_iF (aS_221 pc) pc
theorem aX_221 : ∀ pc i len, aW_221 pc = some (i, len) → decode aM_221.1.2.1 pc = .ok (i, len) := fun pc i len h => sx_iF_s (aT_221 pc) h
def aI_222_0 : sx_IL := [(0, .aload_n 0, 1), (1, .getfield 33, 3), (4, .iconst 2, 1), (5, .aload_n 0, 1), (6, .lconst 0, 1), (7, .lload_n 1, 1)]
theorem aJ_222_0 : sx_iB prog_12_method_32_code aI_222_0 = true := by decide +kernel
def aI_222_1 : sx_IL := [(8, .invokevirtual 242, 3), (11, .lastore, 1), (12, .aload_n 0, 1), (13, .getfield 33, 3), (16, .iconst 3, 1), (17, .aload_n 0, 1)]
theorem aJ_222_1 : sx_iB prog_12_method_32_code aI_222_1 = true := by decide +kernel
def aI_222_2 : sx_IL := [(18, .aload_n 0, 1), (19, .aload_n 0, 1), (20, .getfield 33, 3), (23, .iconst 2, 1), (24, .laload, 1), (25, .bipush 100, 2)]
theorem aJ_222_2 : sx_iB prog_12_method_32_code aI_222_2 = true := by decide +kernel
def aI_222_3 : sx_IL := [(27, .lconst 0, 1), (28, .invokevirtual 245, 3), (31, .lload_n 3, 1), (32, .invokevirtual 242, 3), (35, .lastore, 1), (36, .aload_n 0, 1)]
theorem aJ_222_3 : sx_iB prog_12_method_32_code aI_222_3 = true := by decide +kernel
def aI_222_4 : sx_IL := [(37, .invokevirtual 248, 3), (40, .lstore 5, 2), (42, .aload_n 0, 1), (43, .aload_n 0, 1), (44, .aload_n 0, 1), (45, .getfield 33, 3)]
theorem aJ_222_4 : sx_iB prog_12_method_32_code aI_222_4 = true := by decide +kernel
def aI_222_5 : sx_IL := [(48, .iconst 3, 1), (49, .laload, 1), (50, .bipush 99, 2), (52, .lload 5, 2), (54, .invokevirtual 245, 3), (57, .putfield 251, 3)]
theorem aJ_222_5 : sx_iB prog_12_method_32_code aI_222_5 = true := by decide +kernel
def aI_222_6 : sx_IL := [(60, .aload_n 0, 1), (61, .aload_n 0, 1), (62, .aload_n 0, 1), (63, .getfield 33, 3), (66, .iconst 3, 1), (67, .laload, 1)]
theorem aJ_222_6 : sx_iB prog_12_method_32_code aI_222_6 = true := by decide +kernel
def aI_222_7 : sx_IL := [(68, .bipush 115, 2), (70, .lload 5, 2), (72, .invokevirtual 245, 3), (75, .putfield 255, 3), (78, .return_, 1)]
theorem aJ_222_7 : sx_iB prog_12_method_32_code aI_222_7 = true := by decide +kernel
def aS_222 (pc : Nat) : sx_IL := (if pc < 37 then (if pc < 18 then (if pc < 8 then aI_222_0 else aI_222_1) else (if pc < 27 then aI_222_2 else aI_222_3)) else (if pc < 60 then (if pc < 48 then aI_222_4 else aI_222_5) else (if pc < 68 then aI_222_6 else aI_222_7)))
theorem aT_222 (pc : Nat) : sx_iOk prog_12_method_32_code (aS_222 pc) := (sx_ite (p := fun l => sx_iOk prog_12_method_32_code l) (sx_ite (p := fun l => sx_iOk prog_12_method_32_code l) (sx_ite (p := fun l => sx_iOk prog_12_method_32_code l) (sx_iB_s aJ_222_0) (sx_iB_s aJ_222_1)) (sx_ite (p := fun l => sx_iOk prog_12_method_32_code l) (sx_iB_s aJ_222_2) (sx_iB_s aJ_222_3))) (sx_ite (p := fun l => sx_iOk prog_12_method_32_code l) (sx_ite (p := fun l => sx_iOk prog_12_method_32_code l) (sx_iB_s aJ_222_4) (sx_iB_s aJ_222_5)) (sx_ite (p := fun l => sx_iOk prog_12_method_32_code l) (sx_iB_s aJ_222_6) (sx_iB_s aJ_222_7))))
def aW_222 : Nat → Option (Instr × Nat) := fun pc => sx_iF (aS_222 pc) pc
theorem aX_222 : ∀ pc i len, aW_222 pc = some (i, len) → decode aM_222.1.2.1 pc = .ok (i, len) := fun pc i len h => sx_iF_s (aT_222 pc) h
def aI_223_0 : sx_IL := [(0, .aload_n 0, 1), (1, .getfield 43, 3), (4, .getfield 155, 3), (7, .aload_n 0, 1), (8, .invokevirtual 226, 3), (11, .lload_n 1, 1)]
theorem aJ_223_0 : sx_iB prog_12_method_31_code aI_223_0 = true := by decide +kernel
def aI_223_1 : sx_IL := [(12, .lload_n 3, 1), (13, .invokevirtual 238, 3), (16, .lreturn, 1)]
theorem aJ_223_1 : sx_iB prog_12_method_31_code aI_223_1 = true := by decide +kernel
def aS_223 (pc : Nat) : sx_IL := (if pc < 12 then aI_223_0 else aI_223_1)
theorem aT_223 (pc : Nat) : sx_iOk prog_12_method_31_code (aS_223 pc) := (sx_ite (p := fun l => sx_iOk prog_12_method_31_code l) (sx_iB_s aJ_223_0) (sx_iB_s aJ_223_1))
def aW_223 : Nat → Option (Instr × Nat) := fun pc => sx_iF (aS_223 pc) pc
theorem aX_223 : ∀ pc i len, aW_223 pc = some (i, len) → decode aM_223.1.2.1 pc = .ok (i, len) := fun pc i len h => sx_iF_s (aT_223 pc) h
def aI_224_0 : sx_IL := [(0, .aload_n 0, 1), (1, .getfield 43, 3), (4, .getfield 155, 3), (7, .aload_n 0, 1), (8, .invokevirtual 226, 3), (11, .lload_n 1, 1)]
theorem aJ_224_0 : sx_iB prog_12_method_30_code aI_224_0 = true := by decide +kernel
def aI_224_1 : sx_IL := [(12, .iload_n 3, 1), (13, .lload 4, 2), (15, .invokevirtual 187, 3), (18, .lreturn, 1)]
theorem aJ_224_1 : sx_iB prog_12_method_30_code aI_224_1 = true := by decide +kernel
def aS_224 (pc : Nat) : sx_IL := (if pc < 12 then aI_224_0 else aI_224_1)
theorem aT_224 (pc : Nat) : sx_iOk prog_12_method_30_code (aS_224 pc) := (sx_ite (p := fun l => sx_iOk prog_12_method_30_code l) (sx_iB_s aJ_224_0) (sx_iB_s aJ_224_1))
def aW_224 : Nat → Option (Instr × Nat) := fun pc => sx_iF (aS_224 pc) pc
theorem aX_224 : ∀ pc i len, aW_224 pc = some (i, len) → decode aM_224.1.2.1 pc = .ok (i, len) := fun pc i len h => sx_iF_s (aT_224 pc) h
def aI_225_0 : sx_IL := [(0, .aload_n 0, 1), (1, .getfield 17, 3), (4, .iconst (-1), 1), (5, .if_icmp .ne 7, 3), (8, .aconst_null, 1), (9, .goto 12, 3)]
theorem aJ_225_0 : sx_iB prog_2_method_18_code aI_225_0 = true := by decide +kernel
def aI_225_1 : sx_IL := [(12, .aload_n 0, 1), (13, .getfield 11, 3), (16, .aload_n 0, 1), (17, .getfield 17, 3), (20, .aaload, 1), (21, .astore_n 1, 1)]
theorem aJ_225_1 : sx_iB prog_2_method_18_code aI_225_1 = true := by decide +kernel
def aI_225_2 : sx_IL := [(22, .aload_n 0, 1), (23, .getfield 279, 3), (26, .iconst 2, 1), (27, .aload_n 0, 1), (28, .getfield 288, 3), (31, .lconst 0, 1)]
theorem aJ_225_2 : sx_iB prog_2_method_18_code aI_225_2 = true := by decide +kernel
def aI_225_3 : sx_IL := [(32, .lcmp, 1), (33, .ifCond .ne 7, 3), (36, .iconst 0, 1), (37, .goto 7, 3), (40, .aload_n 0, 1), (41, .getfield 157, 3)]
theorem aJ_225_3 : sx_iB prog_2_method_18_code aI_225_3 = true := by decide +kernel
def aI_225_4 : sx_IL := [(44, .iastore, 1), (45, .aload_n 0, 1), (46, .getfield 279, 3), (49, .iconst 4, 1), (50, .aload_n 1, 1), (51, .ifnonnull 7, 3)]
theorem aJ_225_4 : sx_iB prog_2_method_18_code aI_225_4 = true := by decide +kernel
def aI_225_5 : sx_IL := [(54, .iconst 0, 1), (55, .goto 15, 3), (58, .aload_n 1, 1), (59, .getfield 46, 3), (62, .ifCond .eq 7, 3), (65, .iconst 2, 1)]
theorem aJ_225_5 : sx_iB prog_2_method_18_code aI_225_5 = true := by decide +kernel
def aI_225_6 : sx_IL := [(66, .goto 4, 3), (69, .iconst 1, 1), (70, .iastore, 1), (71, .aload_n 0, 1), (72, .aload_n 0, 1), (73, .getfield 233, 3)]
theorem aJ_225_6 : sx_iB prog_2_method_18_code aI_225_6 = true := by decide +kernel
def aI_225_7 : sx_IL := [(76, .invokevirtual 318, 3), (79, .aload_n 0, 1), (80, .getfield 53, 3), (83, .ifCond .ne 17, 3), (86, .aload_n 0, 1), (87, .aload_n 0, 1)]
theorem aJ_225_7 : sx_iB prog_2_method_18_code aI_225_7 = true := by decide +kernel
def aI_225_8 : sx_IL := [(88, .getfield 321, 3), (91, .aload_n 0, 1), (92, .getfield 279, 3), (95, .iconst 1, 1), (96, .iaload, 1), (97, .invokevirtual 107, 3)]
theorem aJ_225_8 : sx_iB prog_2_method_18_code aI_225_8 = true := by decide +kernel
def aI_225_9 : sx_IL := [(100, .aload_n 0, 1), (101, .iconst 1, 1), (102, .putfield 208, 3), (105, .return_, 1)]
theorem aJ_225_9 : sx_iB prog_2_method_18_code aI_225_9 = true := by decide +kernel
def aS_225 (pc : Nat) : sx_IL := (if pc < 54 then (if pc < 22 then (if pc < 12 then aI_225_0 else aI_225_1) else (if pc < 32 then aI_225_2 else (if pc < 44 then aI_225_3 else aI_225_4))) else (if pc < 76 then (if pc < 66 then aI_225_5 else aI_225_6) else (if pc < 88 then aI_225_7 else (if pc < 100 then aI_225_8 else aI_225_9))))
theorem aT_225 (pc : Nat) : sx_iOk prog_2_method_18_code (aS_225 pc) := (sx_ite (p := fun l => sx_iOk prog_2_method_18_code l) (sx_ite (p := fun l => sx_iOk prog_2_method_18_code l) (sx_ite (p := fun l => sx_iOk prog_2_method_18_code l) (sx_iB_s aJ_225_0) (sx_iB_s aJ_225_1)) (sx_ite (p := fun l => sx_iOk prog_2_method_18_code l) (sx_iB_s aJ_225_2) (sx_ite (p := fun l => sx_iOk prog_2_method_18_code l) (sx_iB_s aJ_225_3) (sx_iB_s aJ_225_4)))) (sx_ite (p := fun l => sx_iOk prog_2_method_18_code l) (sx_ite (p := fun l => sx_iOk prog_2_method_18_code l) (sx_iB_s aJ_225_5) (sx_iB_s aJ_225_6)) (sx_ite (p := fun l => sx_iOk prog_2_method_18_code l) (sx_iB_s aJ_225_7) (sx_ite (p := fun l => sx_iOk prog_2_method_18_code l) (sx_iB_s aJ_225_8) (sx_iB_s aJ_225_9)))))
def aW_225 : Nat → Option (Instr × Nat) := fun pc => sx_iF (aS_225 pc) pc
theorem aX_225 : ∀ pc i len, aW_225 pc = some (i, len) → decode aM_225.1.2.1 pc = .ok (i, len) := fun pc i len h => sx_iF_s (aT_225 pc) h
def aI_226_0 : sx_IL := [(0, .aload_n 0, 1), (1, .getfield 33, 3), (4, .iconst 1, 1), (5, .lload_n 1, 1), (6, .lastore, 1), (7, .aload_n 0, 1)]
theorem aJ_226_0 : sx_iB prog_12_method_29_code aI_226_0 = true := by decide +kernel
def aI_226_1 : sx_IL := [(8, .iconst 1, 1), (9, .putfield 136, 3), (12, .aload_n 0, 1), (13, .getfield 29, 3), (16, .bipush 11, 2), (18, .iconst 0, 1)]
theorem aJ_226_1 : sx_iB prog_12_method_29_code aI_226_1 = true := by decide +kernel
def aI_226_2 : sx_IL := [(19, .iastore, 1), (20, .return_, 1)]
theorem aJ_226_2 : sx_iB prog_12_method_29_code aI_226_2 = true := by decide +kernel
def aS_226 (pc : Nat) : sx_IL := (if pc < 8 then aI_226_0 else (if pc < 19 then aI_226_1 else aI_226_2))
theorem aT_226 (pc : Nat) : sx_iOk prog_12_method_29_code (aS_226 pc) := (sx_ite (p := fun l => sx_iOk prog_12_method_29_code l) (sx_iB_s aJ_226_0) (sx_ite (p := fun l => sx_iOk prog_12_method_29_code l) (sx_iB_s aJ_226_1) (sx_iB_s aJ_226_2)))
def aW_226 : Nat → Option (Instr × Nat) := fun pc => sx_iF (aS_226 pc) pc
theorem aX_226 : ∀ pc i len, aW_226 pc = some (i, len) → decode aM_226.1.2.1 pc = .ok (i, len) := fun pc i len h => sx_iF_s (aT_226 pc) h
def aI_227_0 : sx_IL := [(0, .aload_n 0, 1), (1, .iconst 1, 1), (2, .putfield 211, 3), (5, .aload_n 0, 1), (6, .iconst 0, 1), (7, .putfield 53, 3)]
theorem aJ_227_0 : sx_iB prog_2_method_19_code aI_227_0 = true := by decide +kernel
def aI_227_1 : sx_IL := [(10, .aload_n 0, 1), (11, .invokevirtual 375, 3), (14, .aload_n 0, 1), (15, .aload_n 0, 1), (16, .invokevirtual 378, 3), (19, .invokevirtual 381, 3)]
theorem aJ_227_1 : sx_iB prog_2_method_19_code aI_227_1 = true := by decide +kernel
def aI_227_2 : sx_IL := [(22, .return_, 1)]
theorem aJ_227_2 : sx_iB prog_2_method_19_code aI_227_2 = true := by decide +kernel
def aS_227 (pc : Nat) : sx_IL := (if pc < 10 then aI_227_0 else (if pc < 22 then aI_227_1 else aI_227_2))
theorem aT_227 (pc : Nat) : sx_iOk prog_2_method_19_code (aS_227 pc) := (sx_ite (p := fun l => sx_iOk prog_2_method_19_code l) (sx_iB_s aJ_227_0) (sx_ite (p := fun l => sx_iOk prog_2_method_19_code l) (sx_iB_s aJ_227_1) (sx_iB_s aJ_227_2)))
def aW_227 : Nat → Option (Instr × Nat) := fun pc => sx_iF (aS_227 pc) pc
theorem aX_227 : ∀ pc i len, aW_227 pc = some (i, len) → decode aM_227.1.2.1 pc = .ok (i, len) := fun pc i len h => sx_iF_s (aT_227 pc) h
def aI_228_0 : sx_IL := [(0, .aload_n 0, 1), (1, .getfield 33, 3), (4, .iconst 0, 1), (5, .lconst 0, 1), (6, .lastore, 1), (7, .aload_n 0, 1)]
theorem aJ_228_0 : sx_iB prog_12_method_28_code aI_228_0 = true := by decide +kernel
def aI_228_1 : sx_IL := [(8, .iconst 0, 1), (9, .putfield 165, 3), (12, .aload_n 0, 1), (13, .getfield 29, 3), (16, .bipush 10, 2), (18, .iconst 0, 1)]
theorem aJ_228_1 : sx_iB prog_12_method_28_code aI_228_1 = true := by decide +kernel
def aI_228_2 : sx_IL := [(19, .iastore, 1), (20, .return_, 1)]
theorem aJ_228_2 : sx_iB prog_12_method_28_code aI_228_2 = true := by decide +kernel
def aS_228 (pc : Nat) : sx_IL := (if pc < 8 then aI_228_0 else (if pc < 19 then aI_228_1 else aI_228_2))
theorem aT_228 (pc : Nat) : sx_iOk prog_12_method_28_code (aS_228 pc) := (sx_ite (p := fun l => sx_iOk prog_12_method_28_code l) (sx_iB_s aJ_228_0) (sx_ite (p := fun l => sx_iOk prog_12_method_28_code l) (sx_iB_s aJ_228_1) (sx_iB_s aJ_228_2)))
def aW_228 : Nat → Option (Instr × Nat) := fun pc => sx_iF (aS_228 pc) pc
theorem aX_228 : ∀ pc i len, aW_228 pc = some (i, len) → decode aM_228.1.2.1 pc = .ok (i, len) := fun pc i len h => sx_iF_s (aT_228 pc) h
def aI_229_0 : sx_IL := [(0, .iconst 0, 1), (1, .istore_n 2, 1), (2, .iconst 0, 1), (3, .istore_n 3, 1), (4, .iload_n 3, 1), (5, .aload_n 0, 1)]
theorem aJ_229_0 : sx_iB prog_2_method_4_code aI_229_0 = true := by decide +kernel
def aI_229_1 : sx_IL := [(6, .getfield 131, 3), (9, .if_icmp .ge 37, 3), (12, .aload_n 0, 1), (13, .getfield 11, 3), (16, .iload_n 3, 1), (17, .aaload, 1)]
theorem aJ_229_1 : sx_iB prog_2_method_4_code aI_229_1 = true := by decide +kernel
def aI_229_2 : sx_IL := [(18, .getfield 84, 3), (21, .iload_n 1, 1), (22, .if_icmp .ne 18, 3), (25, .aload_n 0, 1), (26, .getfield 11, 3), (29, .iload_n 2, 1)]
theorem aJ_229_2 : sx_iB prog_2_method_4_code aI_229_2 = true := by decide +kernel
def aI_229_3 : sx_IL := [(30, .aload_n 0, 1), (31, .getfield 11, 3), (34, .iload_n 3, 1), (35, .aaload, 1), (36, .aastore, 1), (37, .iinc 2 1, 3)]
theorem aJ_229_3 : sx_iB prog_2_method_4_code aI_229_3 = true := by decide +kernel
def aI_229_4 : sx_IL := [(40, .iinc 3 1, 3), (43, .goto (-39), 3), (46, .aload_n 0, 1), (47, .iload_n 2, 1), (48, .putfield 131, 3), (51, .return_, 1)]
theorem aJ_229_4 : sx_iB prog_2_method_4_code aI_229_4 = true := by decide +kernel
def aS_229 (pc : Nat) : sx_IL := (if pc < 18 then (if pc < 6 then aI_229_0 else aI_229_1) else (if pc < 30 then aI_229_2 else (if pc < 40 then aI_229_3 else aI_229_4)))
theorem aT_229 (pc : Nat) : sx_iOk prog_2_method_4_code (aS_229 pc) := (sx_ite (p := fun l => sx_iOk prog_2_method_4_code l) (sx_ite (p := fun l => sx_iOk prog_2_method_4_code l) (sx_iB_s aJ_229_0) (sx_iB_s aJ_229_1)) (sx_ite (p := fun l => sx_iOk prog_2_method_4_code l) (sx_iB_s aJ_229_2) (sx_ite (p := fun l => sx_iOk prog_2_method_4_code l) (sx_iB_s aJ_229_3) (sx_iB_s aJ_229_4))))
def aW_229 : Nat → Option (Instr × Nat) := fun pc => sx_iF (aS_229 pc) pc
theorem aX_229 : ∀ pc i len, aW_229 pc = some (i, len) → decode aM_229.1.2.1 pc = .ok (i, len) := fun pc i len h => sx_iF_s (aT_229 pc) h
def aI_230_0 : sx_IL := [(0, .aload_n 0, 1), (1, .invokevirtual 248, 3), (4, .lstore_n 1, 1), (5, .aload_n 0, 1), (6, .getfield 33, 3), (9, .iconst 4, 1)]
theorem aJ_230_0 : sx_iB prog_12_method_33_code aI_230_0 = true := by decide +kernel
def aI_230_1 : sx_IL := [(10, .aload_n 0, 1), (11, .aload_n 0, 1), (12, .aload_n 0, 1), (13, .getfield 33, 3), (16, .iconst 3, 1), (17, .laload, 1)]
theorem aJ_230_1 : sx_iB prog_12_method_33_code aI_230_1 = true := by decide +kernel
def aI_230_2 : sx_IL := [(18, .bipush 100, 2), (20, .lconst 0, 1), (21, .invokevirtual 245, 3), (24, .lconst 0, 1), (25, .invokevirtual 242, 3), (28, .lastore, 1)]
theorem aJ_230_2 : sx_iB prog_12_method_33_code aI_230_2 = true := by decide +kernel
def aI_230_3 : sx_IL := [(29, .aload_n 0, 1), (30, .getfield 33, 3), (33, .iconst 5, 1), (34, .aload_n 0, 1), (35, .aload_n 0, 1), (36, .getfield 33, 3)]
theorem aJ_230_3 : sx_iB prog_12_method_33_code aI_230_3 = true := by decide +kernel
def aI_230_4 : sx_IL := [(39, .iconst 4, 1), (40, .laload, 1), (41, .bipush 120, 2), (43, .lload_n 1, 1), (44, .invokevirtual 245, 3), (47, .lastore, 1)]
theorem aJ_230_4 : sx_iB prog_12_method_33_code aI_230_4 = true := by decide +kernel
def aI_230_5 : sx_IL := [(48, .aload_n 0, 1), (49, .iconst 1, 1), (50, .putfield 258, 3), (53, .aload_n 0, 1), (54, .aload_n 0, 1), (55, .aload_n 0, 1)]
theorem aJ_230_5 : sx_iB prog_12_method_33_code aI_230_5 = true := by decide +kernel
def aI_230_6 : sx_IL := [(56, .getfield 33, 3), (59, .iconst 4, 1), (60, .laload, 1), (61, .bipush 67, 2), (63, .lload_n 1, 1), (64, .invokevirtual 245, 3)]
theorem aJ_230_6 : sx_iB prog_12_method_33_code aI_230_6 = true := by decide +kernel
def aI_230_7 : sx_IL := [(67, .putfield 261, 3), (70, .aload_n 0, 1), (71, .aload_n 0, 1), (72, .getfield 33, 3), (75, .iconst 4, 1), (76, .laload, 1)]
theorem aJ_230_7 : sx_iB prog_12_method_33_code aI_230_7 = true := by decide +kernel
def aI_230_8 : sx_IL := [(77, .bipush 83, 2), (79, .lload_n 1, 1), (80, .invokevirtual 245, 3), (83, .lreturn, 1)]
theorem aJ_230_8 : sx_iB prog_12_method_33_code aI_230_8 = true := by decide +kernel
def aS_230 (pc : Nat) : sx_IL := (if pc < 39 then (if pc < 18 then (if pc < 10 then aI_230_0 else aI_230_1) else (if pc < 29 then aI_230_2 else aI_230_3)) else (if pc < 56 then (if pc < 48 then aI_230_4 else aI_230_5) else (if pc < 67 then aI_230_6 else (if pc < 77 then aI_230_7 else aI_230_8))))
theorem aT_230 (pc : Nat) : sx_iOk prog_12_method_33_code (aS_230 pc) := (sx_ite (p := fun l => sx_iOk prog_12_method_33_code l) (sx_ite (p := fun l => sx_iOk prog_12_method_33_code l) (sx_ite (p := fun l => sx_iOk prog_12_method_33_code l) (sx_iB_s aJ_230_0) (sx_iB_s aJ_230_1)) (sx_ite (p := fun l => sx_iOk prog_12_method_33_code l) (sx_iB_s aJ_230_2) (sx_iB_s aJ_230_3))) (sx_ite (p := fun l => sx_iOk prog_12_method_33_code l) (sx_ite (p := fun l => sx_iOk prog_12_method_33_code l) (sx_iB_s aJ_230_4) (sx_iB_s aJ_230_5)) (sx_ite (p := fun l => sx_iOk prog_12_method_33_code l) (sx_iB_s aJ_230_6) (sx_ite (p := fun l => sx_iOk prog_12_method_33_code l) (sx_iB_s aJ_230_7) (sx_iB_s aJ_230_8)))))
def aW_230 : Nat → Option (Instr × Nat) := fun pc => sx_iF (aS_230 pc) pc
theorem aX_230 : ∀ pc i len, aW_230 pc = some (i, len) → decode aM_230.1.2.1 pc = .ok (i, len) := fun pc i len h => sx_iF_s (aT_230 pc) h
def aI_231_0 : sx_IL := [(0, .iconst 0, 1), (1, .istore_n 1, 1), (2, .iload_n 1, 1), (3, .iconst 4, 1), (4, .if_icmp .ge 49, 3), (7, .aload_n 0, 1)]
theorem aJ_231_0 : sx_iB prog_2_method_22_code aI_231_0 = true := by decide +kernel
def aI_231_1 : sx_IL := [(8, .getfield 21, 3), (11, .getfield 330, 3), (14, .ifCond .le 39, 3), (17, .aload_n 0, 1), (18, .getfield 21, 3), (21, .getfield 60, 3)]
theorem aJ_231_1 : sx_iB prog_2_method_22_code aI_231_1 = true := by decide +kernel
def aI_231_2 : sx_IL := [(24, .iconst 2, 1), (25, .aaload, 1), (26, .iload_n 1, 1), (27, .iaload, 1), (28, .istore_n 2, 1), (29, .iload_n 2, 1)]
theorem aJ_231_2 : sx_iB prog_2_method_22_code aI_231_2 = true := by decide +kernel
def aI_231_3 : sx_IL := [(30, .ifCond .le 17, 3), (33, .aload_n 0, 1), (34, .getfield 384, 3), (37, .iload_n 2, 1), (38, .iushr, 1), (39, .iconst 1, 1)]
theorem aJ_231_3 : sx_iB prog_2_method_22_code aI_231_3 = true := by decide +kernel
def aI_231_4 : sx_IL := [(40, .iand, 1), (41, .iconst 1, 1), (42, .if_icmp .ne 5, 3), (45, .iload_n 2, 1), (46, .ireturn, 1), (47, .iinc 1 1, 3)]
theorem aJ_231_4 : sx_iB prog_2_method_22_code aI_231_4 = true := by decide +kernel
def aI_231_5 : sx_IL := [(50, .goto (-48), 3), (53, .iconst 0, 1), (54, .ireturn, 1)]
theorem aJ_231_5 : sx_iB prog_2_method_22_code aI_231_5 = true := by decide +kernel
def aS_231 (pc : Nat) : sx_IL := (if pc < 30 then (if pc < 8 then aI_231_0 else (if pc < 24 then aI_231_1 else aI_231_2)) else (if pc < 40 then aI_231_3 else (if pc < 50 then aI_231_4 else aI_231_5)))
theorem aT_231 (pc : Nat) : sx_iOk prog_2_method_22_code (aS_231 pc) := (sx_ite (p := fun l => sx_iOk prog_2_method_22_code l) (sx_ite (p := fun l => sx_iOk prog_2_method_22_code l) (sx_iB_s aJ_231_0) (sx_ite (p := fun l => sx_iOk prog_2_method_22_code l) (sx_iB_s aJ_231_1) (sx_iB_s aJ_231_2))) (sx_ite (p := fun l => sx_iOk prog_2_method_22_code l) (sx_iB_s aJ_231_3) (sx_ite (p := fun l => sx_iOk prog_2_method_22_code l) (sx_iB_s aJ_231_4) (sx_iB_s aJ_231_5))))
def aW_231 : Nat → Option (Instr × Nat) := fun pc => sx_iF (aS_231 pc) pc
theorem aX_231 : ∀ pc i len, aW_231 pc = some (i, len) → decode aM_231.1.2.1 pc = .ok (i, len) := fun pc i len h => sx_iF_s (aT_231 pc) h
def aI_232_0 : sx_IL := [(0, .aload_n 0, 1), (1, .bipush 11, 2), (3, .invokevirtual 264, 3), (6, .astore_n 3, 1), (7, .aload_n 3, 1), (8, .iload_n 1, 1)]
theorem aJ_232_0 : sx_iB prog_12_method_39_code aI_232_0 = true := by decide +kernel
def aI_232_1 : sx_IL := [(9, .invokevirtual 168, 3), (12, .iconst 0, 1), (13, .istore 4, 2), (15, .iload 4, 2), (17, .iload_n 1, 1), (18, .if_icmp .ge 59, 3)]
theorem aJ_232_1 : sx_iB prog_12_method_39_code aI_232_1 = true := by decide +kernel
def aI_232_2 : sx_IL := [(21, .aload_n 0, 1), (22, .getfield 43, 3), (25, .getfield 271, 3), (28, .aload_n 0, 1), (29, .getfield 47, 3), (32, .getfield 275, 3)]
theorem aJ_232_2 : sx_iB prog_12_method_39_code aI_232_2 = true := by decide +kernel
def aI_232_3 : sx_IL := [(35, .iload 4, 2), (37, .iaload, 1), (38, .aaload, 1), (39, .astore 5, 2), (41, .aload_n 3, 1), (42, .aload 5, 2)]
theorem aJ_232_3 : sx_iB prog_12_method_39_code aI_232_3 = true := by decide +kernel
def aI_232_4 : sx_IL := [(44, .getfield 278, 3), (47, .bipush 11, 2), (49, .iaload, 1), (50, .invokevirtual 171, 3), (53, .aload_n 3, 1), (54, .aload 5, 2)]
theorem aJ_232_4 : sx_iB prog_12_method_39_code aI_232_4 = true := by decide +kernel
def aI_232_5 : sx_IL := [(56, .getfield 283, 3), (59, .iconst 0, 1), (60, .aload 5, 2), (62, .getfield 278, 3), (65, .bipush 11, 2), (67, .iaload, 1)]
theorem aJ_232_5 : sx_iB prog_12_method_39_code aI_232_5 = true := by decide +kernel
def aI_232_6 : sx_IL := [(68, .invokevirtual 75, 3), (71, .iinc 4 1, 3), (74, .goto (-59), 3), (77, .aload_n 3, 1), (78, .aload_n 2, 1), (79, .ifnonnull 7, 3)]
theorem aJ_232_6 : sx_iB prog_12_method_39_code aI_232_6 = true := by decide +kernel
def aI_232_7 : sx_IL := [(82, .iconst 0, 1), (83, .goto 10, 3), (86, .aload_n 2, 1), (87, .getfield 278, 3), (90, .bipush 11, 2), (92, .iaload, 1)]
theorem aJ_232_7 : sx_iB prog_12_method_39_code aI_232_7 = true := by decide +kernel
def aI_232_8 : sx_IL := [(93, .invokevirtual 171, 3), (96, .aload_n 2, 1), (97, .ifnull 19, 3), (100, .aload_n 3, 1), (101, .aload_n 2, 1), (102, .getfield 283, 3)]
theorem aJ_232_8 : sx_iB prog_12_method_39_code aI_232_8 = true := by decide +kernel
def aI_232_9 : sx_IL := [(105, .iconst 0, 1), (106, .aload_n 2, 1), (107, .getfield 278, 3), (110, .bipush 11, 2), (112, .iaload, 1), (113, .invokevirtual 75, 3)]
theorem aJ_232_9 : sx_iB prog_12_method_39_code aI_232_9 = true := by decide +kernel
def aI_232_10 : sx_IL := [(116, .return_, 1)]
theorem aJ_232_10 : sx_iB prog_12_method_39_code aI_232_10 = true := by decide +kernel
def aS_232 (pc : Nat) : sx_IL := (if pc < 56 then (if pc < 21 then (if pc < 9 then aI_232_0 else aI_232_1) else (if pc < 35 then aI_232_2 else (if pc < 44 then aI_232_3 else aI_232_4))) else (if pc < 93 then (if pc < 68 then aI_232_5 else (if pc < 82 then aI_232_6 else aI_232_7)) else (if pc < 105 then aI_232_8 else (if pc < 116 then aI_232_9 else aI_232_10))))
theorem aT_232 (pc : Nat) : sx_iOk prog_12_method_39_code (aS_232 pc) := (sx_ite (p := fun l => sx_iOk prog_12_method_39_code l) (sx_ite (p := fun l => sx_iOk prog_12_method_39_code l) (sx_ite (p := fun l => sx_iOk prog_12_method_39_code l) (sx_iB_s aJ_232_0) (sx_iB_s aJ_232_1)) (sx_ite (p := fun l => sx_iOk prog_12_method_39_code l) (sx_iB_s aJ_232_2) (sx_ite (p := fun l => sx_iOk prog_12_method_39_code l) (sx_iB_s aJ_232_3) (sx_iB_s aJ_232_4)))) (sx_ite (p := fun l => sx_iOk prog_12_method_39_code l) (sx_ite (p := fun l => sx_iOk prog_12_method_39_code l) (sx_iB_s aJ_232_5) (sx_ite (p := fun l => sx_iOk prog_12_method_39_code l) (sx_iB_s aJ_232_6) (sx_iB_s aJ_232_7))) (sx_ite (p := fun l => sx_iOk prog_12_method_39_code l) (sx_iB_s aJ_232_8) (sx_ite (p := fun l => sx_iOk prog_12_method_39_code l) (sx_iB_s aJ_232_9) (sx_iB_s aJ_232_10)))))
def aW_232 : Nat → Option (Instr × Nat) := fun pc => sx_iF (aS_232 pc) pc
theorem aX_232 : ∀ pc i len, aW_232 pc = some (i, len) → decode aM_232.1.2.1 pc = .ok (i, len) := fun pc i len h => sx_iF_s (aT_232 pc) h
def aI_233_0 : sx_IL := [(0, .aload_n 0, 1), (1, .iload_n 1, 1), (2, .aload_n 0, 1), (3, .invokevirtual 248, 3), (6, .invokevirtual 285, 3), (9, .astore_n 3, 1)]
theorem aJ_233_0 : sx_iB prog_12_method_41_code aI_233_0 = true := by decide +kernel
def aI_233_1 : sx_IL := [(10, .aload_n 0, 1), (11, .getfield 43, 3), (14, .getfield 155, 3), (17, .iload_n 2, 1), (18, .aload_n 0, 1), (19, .getfield 47, 3)]
theorem aJ_233_1 : sx_iB prog_12_method_41_code aI_233_1 = true := by decide +kernel
def aI_233_2 : sx_IL := [(22, .getfield 289, 3), (25, .aload_n 3, 1), (26, .getfield 143, 3), (29, .iconst 0, 1), (30, .aload_n 3, 1), (31, .getfield 55, 3)]
theorem aJ_233_2 : sx_iB prog_12_method_41_code aI_233_2 = true := by decide +kernel
def aI_233_3 : sx_IL := [(34, .invokevirtual 292, 3), (37, .lstore 4, 2), (39, .aload_n 0, 1), (40, .bipush 15, 2), (42, .invokevirtual 264, 3), (45, .astore 6, 2)]
theorem aJ_233_3 : sx_iB prog_12_method_41_code aI_233_3 = true := by decide +kernel
def aI_233_4 : sx_IL := [(47, .aload 6, 2), (49, .iload_n 2, 1), (50, .invokevirtual 168, 3), (53, .aload 6, 2), (55, .lload 4, 2), (57, .invokevirtual 284, 3)]
theorem aJ_233_4 : sx_iB prog_12_method_41_code aI_233_4 = true := by decide +kernel
def aI_233_5 : sx_IL := [(60, .return_, 1)]
theorem aJ_233_5 : sx_iB prog_12_method_41_code aI_233_5 = true := by decide +kernel
def aS_233 (pc : Nat) : sx_IL := (if pc < 34 then (if pc < 10 then aI_233_0 else (if pc < 22 then aI_233_1 else aI_233_2)) else (if pc < 47 then aI_233_3 else (if pc < 60 then aI_233_4 else aI_233_5)))
theorem aT_233 (pc : Nat) : sx_iOk prog_12_method_41_code (aS_233 pc) := (sx_ite (p := fun l => sx_iOk prog_12_method_41_code l) (sx_ite (p := fun l => sx_iOk prog_12_method_41_code l) (sx_iB_s aJ_233_0) (sx_ite (p := fun l => sx_iOk prog_12_method_41_code l) (sx_iB_s aJ_233_1) (sx_iB_s aJ_233_2))) (sx_ite (p := fun l => sx_iOk prog_12_method_41_code l) (sx_iB_s aJ_233_3) (sx_ite (p := fun l => sx_iOk prog_12_method_41_code l) (sx_iB_s aJ_233_4) (sx_iB_s aJ_233_5))))
def aW_233 : Nat → Option (Instr × Nat) := fun pc => sx_iF (aS_233 pc) pc
theorem aX_233 : ∀ pc i len, aW_233 pc = some (i, len) → decode aM_233.1.2.1 pc = .ok (i, len) := fun pc i len h => sx_iF_s (aT_233 pc) h
def aI_234_0 : sx_IL := [(0, .aload_n 0, 1), (1, .lload_n 1, 1), (2, .aload_n 0, 1), (3, .invokevirtual 248, 3), (6, .invokevirtual 296, 3), (9, .lstore_n 3, 1)]
theorem aJ_234_0 : sx_iB prog_12_method_42_code aI_234_0 = true := by decide +kernel
def aI_234_1 : sx_IL := [(10, .aload_n 0, 1), (11, .bipush 20, 2), (13, .invokevirtual 264, 3), (16, .lload_n 3, 1), (17, .invokevirtual 284, 3), (20, .return_, 1)]
theorem aJ_234_1 : sx_iB prog_12_method_42_code aI_234_1 = true := by decide +kernel
def aS_234 (pc : Nat) : sx_IL := (if pc < 10 then aI_234_0 else aI_234_1)
theorem aT_234 (pc : Nat) : sx_iOk prog_12_method_42_code (aS_234 pc) := (sx_ite (p := fun l => sx_iOk prog_12_method_42_code l) (sx_iB_s aJ_234_0) (sx_iB_s aJ_234_1))
def aW_234 : Nat → Option (Instr × Nat) := fun pc => sx_iF (aS_234 pc) pc
theorem aX_234 : ∀ pc i len, aW_234 pc = some (i, len) → decode aM_234.1.2.1 pc = .ok (i, len) := fun pc i len h => sx_iF_s (aT_234 pc) h
def aI_235_0 : sx_IL := [(0, .aload_n 0, 1), (1, .getfield 33, 3), (4, .bipush 6, 2), (6, .aload_n 0, 1), (7, .aload_n 0, 1), (8, .getfield 33, 3)]
theorem aJ_235_0 : sx_iB prog_12_method_34_code aI_235_0 = true := by decide +kernel
def aI_235_1 : sx_IL := [(11, .iconst 4, 1), (12, .laload, 1), (13, .bipush 114, 2), (15, .aload_n 0, 1), (16, .invokevirtual 248, 3), (19, .invokevirtual 245, 3)]
theorem aJ_235_1 : sx_iB prog_12_method_34_code aI_235_1 = true := by decide +kernel
def aI_235_2 : sx_IL := [(22, .lastore, 1), (23, .return_, 1)]
theorem aJ_235_2 : sx_iB prog_12_method_34_code aI_235_2 = true := by decide +kernel
def aS_235 (pc : Nat) : sx_IL := (if pc < 11 then aI_235_0 else (if pc < 22 then aI_235_1 else aI_235_2))
theorem aT_235 (pc : Nat) : sx_iOk prog_12_method_34_code (aS_235 pc) := (sx_ite (p := fun l => sx_iOk prog_12_method_34_code l) (sx_iB_s aJ_235_0) (sx_ite (p := fun l => sx_iOk prog_12_method_34_code l) (sx_iB_s aJ_235_1) (sx_iB_s aJ_235_2)))
def aW_235 : Nat → Option (Instr × Nat) := fun pc => sx_iF (aS_235 pc) pc
theorem aX_235 : ∀ pc i len, aW_235 pc = some (i, len) → decode aM_235.1.2.1 pc = .ok (i, len) := fun pc i len h => sx_iF_s (aT_235 pc) h
def aI_236_0 : sx_IL := [(0, .aload_n 0, 1), (1, .getfield 21, 3), (4, .getfield 121, 3), (7, .bipush 6, 2), (9, .if_icmp .lt 4, 3), (12, .return_, 1)]
theorem aJ_236_0 : sx_iB prog_2_method_23_code aI_236_0 = true := by decide +kernel
def aI_236_1 : sx_IL := [(13, .aload_n 0, 1), (14, .getfield 74, 3), (17, .getfield 188, 3), (20, .astore_n 1, 1), (21, .aload_n 1, 1), (22, .invokevirtual 118, 3)]
theorem aJ_236_1 : sx_iB prog_2_method_23_code aI_236_1 = true := by decide +kernel
def aI_236_2 : sx_IL := [(25, .aload_n 1, 1), (26, .aload_n 0, 1), (27, .getfield 263, 3), (30, .bipush 11, 2), (32, .invokevirtual 390, 3), (35, .invokevirtual 141, 3)]
theorem aJ_236_2 : sx_iB prog_2_method_23_code aI_236_2 = true := by decide +kernel
def aI_236_3 : sx_IL := [(38, .new 9, 3), (41, .dup, 1), (42, .aload_n 1, 1), (43, .aload_n 0, 1), (44, .invokevirtual 378, 3), (47, .aload_n 0, 1)]
theorem aJ_236_3 : sx_iB prog_2_method_23_code aI_236_3 = true := by decide +kernel
def aI_236_4 : sx_IL := [(48, .aload_n 0, 1), (49, .getfield 393, 3), (52, .bipush 6, 2), (54, .laload, 1), (55, .bipush 116, 2), (57, .aload_n 0, 1)]
theorem aJ_236_4 : sx_iB prog_2_method_23_code aI_236_4 = true := by decide +kernel
def aI_236_5 : sx_IL := [(58, .getfield 263, 3), (61, .bipush 19, 2), (63, .invokevirtual 273, 3), (66, .i2l, 1), (67, .invokevirtual 397, 3), (70, .invokespecial 400, 3)]
theorem aJ_236_5 : sx_iB prog_2_method_23_code aI_236_5 = true := by decide +kernel
def aI_236_6 : sx_IL := [(73, .astore_n 2, 1), (74, .aload_n 2, 1), (75, .aload_n 0, 1), (76, .getfield 279, 3), (79, .iconst 1, 1), (80, .iaload, 1)]
theorem aJ_236_6 : sx_iB prog_2_method_23_code aI_236_6 = true := by decide +kernel
def aI_236_7 : sx_IL := [(81, .aload_n 0, 1), (82, .getfield 263, 3), (85, .iconst 3, 1), (86, .invokevirtual 403, 3), (89, .aload_n 0, 1), (90, .getfield 263, 3)]
theorem aJ_236_7 : sx_iB prog_2_method_23_code aI_236_7 = true := by decide +kernel
def aI_236_8 : sx_IL := [(93, .bipush 7, 2), (95, .invokevirtual 403, 3), (98, .aload_n 0, 1), (99, .getfield 74, 3), (102, .getfield 194, 3), (105, .invokevirtual 406, 3)]
theorem aJ_236_8 : sx_iB prog_2_method_23_code aI_236_8 = true := by decide +kernel
def aI_236_9 : sx_IL := [(108, .aload_n 0, 1), (109, .getfield 21, 3), (112, .aload_n 2, 1), (113, .invokevirtual 410, 3), (116, .return_, 1)]
theorem aJ_236_9 : sx_iB prog_2_method_23_code aI_236_9 = true := by decide +kernel
def aS_236 (pc : Nat) : sx_IL := (if pc < 58 then (if pc < 25 then (if pc < 13 then aI_236_0 else aI_236_1) else (if pc < 38 then aI_236_2 else (if pc < 48 then aI_236_3 else aI_236_4))) else (if pc < 81 then (if pc < 73 then aI_236_5 else aI_236_6) else (if pc < 93 then aI_236_7 else (if pc < 108 then aI_236_8 else aI_236_9))))
theorem aT_236 (pc : Nat) : sx_iOk prog_2_method_23_code (aS_236 pc) := (sx_ite (p := fun l => sx_iOk prog_2_method_23_code l) (sx_ite (p := fun l => sx_iOk prog_2_method_23_code l) (sx_ite (p := fun l => sx_iOk prog_2_method_23_code l) (sx_iB_s aJ_236_0) (sx_iB_s aJ_236_1)) (sx_ite (p := fun l => sx_iOk prog_2_method_23_code l) (sx_iB_s aJ_236_2) (sx_ite (p := fun l => sx_iOk prog_2_method_23_code l) (sx_iB_s aJ_236_3) (sx_iB_s aJ_236_4)))) (sx_ite (p := fun l => sx_iOk prog_2_method_23_code l) (sx_ite (p := fun l => sx_iOk prog_2_method_23_code l) (sx_iB_s aJ_236_5) (sx_iB_s aJ_236_6)) (sx_ite (p := fun l => sx_iOk prog_2_method_23_code l) (sx_iB_s aJ_236_7) (sx_ite (p := fun l => sx_iOk prog_2_method_23_code l) (sx_iB_s aJ_236_8) (sx_iB_s aJ_236_9)))))
def aW_236 : Nat → Option (Instr × Nat) := fun pc => sx_iF (aS_236 pc) pc
theorem aX_236 : ∀ pc i len, aW_236 pc = some (i, len) → decode aM_236.1.2.1 pc = .ok (i, len) := fun pc i len h => sx_iF_s (aT_236 pc) h
def aI_237_0 : sx_IL := [(0, .aload_n 0, 1), (1, .iconst 1, 1), (2, .putfield 35, 3), (5, .aload_n 0, 1), (6, .iload_n 1, 1), (7, .putfield 39, 3)]
theorem aJ_237_0 : sx_iB prog_11_method_2_code aI_237_0 = true := by decide +kernel
def aI_237_1 : sx_IL := [(10, .aload_n 0, 1), (11, .iload_n 2, 1), (12, .putfield 42, 3), (15, .aload_n 0, 1), (16, .iload_n 3, 1), (17, .putfield 45, 3)]
theorem aJ_237_1 : sx_iB prog_11_method_2_code aI_237_1 = true := by decide +kernel
def aI_237_2 : sx_IL := [(20, .aload_n 0, 1), (21, .iload 4, 2), (23, .putfield 48, 3), (26, .return_, 1)]
theorem aJ_237_2 : sx_iB prog_11_method_2_code aI_237_2 = true := by decide +kernel
def aS_237 (pc : Nat) : sx_IL := (if pc < 10 then aI_237_0 else (if pc < 20 then aI_237_1 else aI_237_2))
theorem aT_237 (pc : Nat) : sx_iOk prog_11_method_2_code (aS_237 pc) := (sx_ite (p := fun l => sx_iOk prog_11_method_2_code l) (sx_iB_s aJ_237_0) (sx_ite (p := fun l => sx_iOk prog_11_method_2_code l) (sx_iB_s aJ_237_1) (sx_iB_s aJ_237_2)))
def aW_237 : Nat → Option (Instr × Nat) := fun pc => sx_iF (aS_237 pc) pc
theorem aX_237 : ∀ pc i len, aW_237 pc = some (i, len) → decode aM_237.1.2.1 pc = .ok (i, len) := fun pc i len h => sx_iF_s (aT_237 pc) h
def aI_238_0 : sx_IL := [(0, .aload_n 0, 1), (1, .aload_n 0, 1), (2, .aload_n 0, 1), (3, .getfield 33, 3), (6, .iconst 1, 1), (7, .laload, 1)]
theorem aJ_238_0 : sx_iB prog_12_method_50_code aI_238_0 = true := by decide +kernel
def aI_238_1 : sx_IL := [(8, .bipush 117, 2), (10, .lconst 0, 1), (11, .invokevirtual 245, 3), (14, .invokevirtual 343, 3), (17, .aload_n 0, 1), (18, .getfield 23, 3)]
theorem aJ_238_1 : sx_iB prog_12_method_50_code aI_238_1 = true := by decide +kernel
def aI_238_2 : sx_IL := [(21, .iconst 3, 1), (22, .invokevirtual 59, 3), (25, .iconst 1, 1), (26, .if_icmp .ne 17, 3), (29, .aload_n 0, 1), (30, .getfield 29, 3)]
theorem aJ_238_2 : sx_iB prog_12_method_50_code aI_238_2 = true := by decide +kernel
def aI_238_3 : sx_IL := [(33, .bipush 8, 2), (35, .iaload, 1), (36, .ifCond .ne 7, 3), (39, .iconst 1, 1), (40, .goto 4, 3), (43, .iconst 0, 1)]
theorem aJ_238_3 : sx_iB prog_12_method_50_code aI_238_3 = true := by decide +kernel
def aI_238_4 : sx_IL := [(44, .ireturn, 1)]
theorem aJ_238_4 : sx_iB prog_12_method_50_code aI_238_4 = true := by decide +kernel
def aS_238 (pc : Nat) : sx_IL := (if pc < 21 then (if pc < 8 then aI_238_0 else aI_238_1) else (if pc < 33 then aI_238_2 else (if pc < 44 then aI_238_3 else aI_238_4)))
theorem aT_238 (pc : Nat) : sx_iOk prog_12_method_50_code (aS_238 pc) := (sx_ite (p := fun l => sx_iOk prog_12_method_50_code l) (sx_ite (p := fun l => sx_iOk prog_12_method_50_code l) (sx_iB_s aJ_238_0) (sx_iB_s aJ_238_1)) (sx_ite (p := fun l => sx_iOk prog_12_method_50_code l) (sx_iB_s aJ_238_2) (sx_ite (p := fun l => sx_iOk prog_12_method_50_code l) (sx_iB_s aJ_238_3) (sx_iB_s aJ_238_4))))
def aW_238 : Nat → Option (Instr × Nat) := fun pc => sx_iF (aS_238 pc) pc
theorem aX_238 : ∀ pc i len, aW_238 pc = some (i, len) → decode aM_238.1.2.1 pc = .ok (i, len) := fun pc i len h => sx_iF_s (aT_238 pc) h
def aI_239_0 : sx_IL := [(0, .aload_n 0, 1), (1, .bipush 24, 2), (3, .invokevirtual 264, 3), (6, .iload_n 1, 1), (7, .invokevirtual 168, 3), (10, .return_, 1)]
theorem aJ_239_0 : sx_iB prog_12_method_37_code aI_239_0 = true := by decide +kernel
def aS_239 (pc : Nat) : sx_IL := aI_239_0
theorem aT_239 (pc : Nat) : sx_iOk prog_12_method_37_code (aS_239 pc) := (sx_iB_s aJ_239_0)
def aW_239 : Nat → Option (Instr × Nat) := fun pc => sx_iF (aS_239 pc) pc
theorem aX_239 : ∀ pc i len, aW_239 pc = some (i, len) → decode aM_239.1.2.1 pc = .ok (i, len) := fun pc i len h => sx_iF_s (aT_239 pc) h
def aI_240_0 : sx_IL := [(0, .aload_n 0, 1), (1, .aload_n 0, 1), (2, .aload_n 0, 1), (3, .getfield 33, 3), (6, .iconst 0, 1), (7, .laload, 1)]
theorem aJ_240_0 : sx_iB prog_12_method_38_code aI_240_0 = true := by decide +kernel
def aI_240_1 : sx_IL := [(8, .bipush 117, 2), (10, .lconst 0, 1), (11, .invokevirtual 245, 3), (14, .aload_n 0, 1), (15, .getfield 174, 3), (18, .invokevirtual 268, 3)]
theorem aJ_240_1 : sx_iB prog_12_method_38_code aI_240_1 = true := by decide +kernel
def aI_240_2 : sx_IL := [(21, .return_, 1)]
theorem aJ_240_2 : sx_iB prog_12_method_38_code aI_240_2 = true := by decide +kernel
def aS_240 (pc : Nat) : sx_IL := (if pc < 8 then aI_240_0 else (if pc < 21 then aI_240_1 else aI_240_2))
theorem aT_240 (pc : Nat) : sx_iOk prog_12_method_38_code (aS_240 pc) := (sx_ite (p := fun l => sx_iOk prog_12_method_38_code l) (sx_iB_s aJ_240_0) (sx_ite (p := fun l => sx_iOk prog_12_method_38_code l) (sx_iB_s aJ_240_1) (sx_iB_s aJ_240_2)))
def aW_240 : Nat → Option (Instr × Nat) := fun pc => sx_iF (aS_240 pc) pc
theorem aX_240 : ∀ pc i len, aW_240 pc = some (i, len) → decode aM_240.1.2.1 pc = .ok (i, len) := fun pc i len h => sx_iF_s (aT_240 pc) h
def aI_241_0 : sx_IL := [(0, .iload_n 1, 1), (1, .bipush 8, 2), (3, .if_icmp .ne 10, 3), (6, .aload_n 0, 1), (7, .invokevirtual 366, 3), (10, .goto 53, 3)]
theorem aJ_241_0 : sx_iB prog_2_method_17_code aI_241_0 = true := by decide +kernel
def aI_241_1 : sx_IL := [(13, .iload_n 1, 1), (14, .bipush 13, 2), (16, .if_icmp .ne 10, 3), (19, .aload_n 0, 1), (20, .invokevirtual 369, 3), (23, .goto 40, 3)]
theorem aJ_241_1 : sx_iB prog_2_method_17_code aI_241_1 = true := by decide +kernel
def aI_241_2 : sx_IL := [(26, .iload_n 1, 1), (27, .bipush 11, 2), (29, .if_icmp .ne 15, 3), (32, .aload_n 0, 1), (33, .invokevirtual 372, 3), (36, .aload_n 0, 1)]
theorem aJ_241_2 : sx_iB prog_2_method_17_code aI_241_2 = true := by decide +kernel
def aI_241_3 : sx_IL := [(37, .iconst 4, 1), (38, .putfield 208, 3), (41, .goto 22, 3), (44, .aload_n 0, 1), (45, .getfield 279, 3), (48, .iconst 3, 1)]
theorem aJ_241_3 : sx_iB prog_2_method_17_code aI_241_3 = true := by decide +kernel
def aI_241_4 : sx_IL := [(49, .aload_n 0, 1), (50, .getfield 263, 3), (53, .iconst 3, 1), (54, .invokevirtual 273, 3), (57, .iastore, 1), (58, .aload_n 0, 1)]
theorem aJ_241_4 : sx_iB prog_2_method_17_code aI_241_4 = true := by decide +kernel
def aI_241_5 : sx_IL := [(59, .iconst 5, 1), (60, .putfield 208, 3), (63, .return_, 1)]
theorem aJ_241_5 : sx_iB prog_2_method_17_code aI_241_5 = true := by decide +kernel
def aS_241 (pc : Nat) : sx_IL := (if pc < 37 then (if pc < 13 then aI_241_0 else (if pc < 26 then aI_241_1 else aI_241_2)) else (if pc < 49 then aI_241_3 else (if pc < 59 then aI_241_4 else aI_241_5)))
theorem aT_241 (pc : Nat) : sx_iOk prog_2_method_17_code (aS_241 pc) := (sx_ite (p := fun l => sx_iOk prog_2_method_17_code l) (sx_ite (p := fun l => sx_iOk prog_2_method_17_code l) (sx_iB_s aJ_241_0) (sx_ite (p := fun l => sx_iOk prog_2_method_17_code l) (sx_iB_s aJ_241_1) (sx_iB_s aJ_241_2))) (sx_ite (p := fun l => sx_iOk prog_2_method_17_code l) (sx_iB_s aJ_241_3) (sx_ite (p := fun l => sx_iOk prog_2_method_17_code l) (sx_iB_s aJ_241_4) (sx_iB_s aJ_241_5))))
def aW_241 : Nat → Option (Instr × Nat) := fun pc => sx_iF (aS_241 pc) pc
theorem aX_241 : ∀ pc i len, aW_241 pc = some (i, len) → decode aM_241.1.2.1 pc = .ok (i, len) := fun pc i len h => sx_iF_s (aT_241 pc) h
def aI_242_0 : sx_IL := [(0, .aload_n 0, 1), (1, .getfield 279, 3), (4, .iconst 5, 1), (5, .aload_n 0, 1), (6, .getfield 74, 3), (9, .getfield 259, 3)]
theorem aJ_242_0 : sx_iB prog_2_method_20_code aI_242_0 = true := by decide +kernel
def aI_242_1 : sx_IL := [(12, .bipush 8, 2), (14, .invokevirtual 181, 3), (17, .ifCond .eq 7, 3), (20, .iconst 1, 1), (21, .goto 4, 3), (24, .iconst 0, 1)]
theorem aJ_242_1 : sx_iB prog_2_method_20_code aI_242_1 = true := by decide +kernel
def aI_242_2 : sx_IL := [(25, .iastore, 1), (26, .aload_n 0, 1), (27, .getfield 53, 3), (30, .ifCond .eq 26, 3), (33, .aload_n 0, 1), (34, .getfield 279, 3)]
theorem aJ_242_2 : sx_iB prog_2_method_20_code aI_242_2 = true := by decide +kernel
def aI_242_3 : sx_IL := [(37, .iconst 5, 1), (38, .iaload, 1), (39, .ifCond .ne 17, 3), (42, .aload_n 0, 1), (43, .aload_n 0, 1), (44, .getfield 321, 3)]
theorem aJ_242_3 : sx_iB prog_2_method_20_code aI_242_3 = true := by decide +kernel
def aI_242_4 : sx_IL := [(47, .aload_n 0, 1), (48, .getfield 279, 3), (51, .iconst 1, 1), (52, .iaload, 1), (53, .invokevirtual 107, 3), (56, .aload_n 0, 1)]
theorem aJ_242_4 : sx_iB prog_2_method_20_code aI_242_4 = true := by decide +kernel
def aI_242_5 : sx_IL := [(57, .aload_n 0, 1), (58, .getfield 17, 3), (61, .iconst (-1), 1), (62, .if_icmp .ne 7, 3), (65, .iconst 2, 1), (66, .goto 4, 3)]
theorem aJ_242_5 : sx_iB prog_2_method_20_code aI_242_5 = true := by decide +kernel
def aI_242_6 : sx_IL := [(69, .iconst 5, 1), (70, .putfield 208, 3), (73, .return_, 1)]
theorem aJ_242_6 : sx_iB prog_2_method_20_code aI_242_6 = true := by decide +kernel
def aS_242 (pc : Nat) : sx_IL := (if pc < 37 then (if pc < 12 then aI_242_0 else (if pc < 25 then aI_242_1 else aI_242_2)) else (if pc < 57 then (if pc < 47 then aI_242_3 else aI_242_4) else (if pc < 69 then aI_242_5 else aI_242_6)))
theorem aT_242 (pc : Nat) : sx_iOk prog_2_method_20_code (aS_242 pc) := (sx_ite (p := fun l => sx_iOk prog_2_method_20_code l) (sx_ite (p := fun l => sx_iOk prog_2_method_20_code l) (sx_iB_s aJ_242_0) (sx_ite (p := fun l => sx_iOk prog_2_method_20_code l) (sx_iB_s aJ_242_1) (sx_iB_s aJ_242_2))) (sx_ite (p := fun l => sx_iOk prog_2_method_20_code l) (sx_ite (p := fun l => sx_iOk prog_2_method_20_code l) (sx_iB_s aJ_242_3) (sx_iB_s aJ_242_4)) (sx_ite (p := fun l => sx_iOk prog_2_method_20_code l) (sx_iB_s aJ_242_5) (sx_iB_s aJ_242_6))))
def aW_242 : Nat → Option (Instr × Nat) := fun pc => sx_iF (aS_242 pc) pc
theorem aX_242 : ∀ pc i len, aW_242 pc = some (i, len) → decode aM_242.1.2.1 pc = .ok (i, len) := fun pc i len h => sx_iF_s (aT_242 pc) h
def aI_243_0 : sx_IL := [(0, .aload_n 0, 1), (1, .iconst 1, 1), (2, .putfield 324, 3), (5, .iconst 1, 1), (6, .istore_n 1, 1), (7, .iload_n 1, 1)]
theorem aJ_243_0 : sx_iB prog_2_method_21_code aI_243_0 = true := by decide +kernel
def aI_243_1 : sx_IL := [(8, .iconst 2, 1), (9, .if_icmp .gt 40, 3), (12, .aload_n 0, 1), (13, .dup, 1), (14, .getfield 384, 3), (17, .aload_n 0, 1)]
theorem aJ_243_1 : sx_iB prog_2_method_21_code aI_243_1 = true := by decide +kernel
def aI_243_2 : sx_IL := [(18, .getfield 74, 3), (21, .getfield 259, 3), (24, .iconst 5, 1), (25, .iload_n 1, 1), (26, .invokevirtual 387, 3), (29, .ifCond .eq 9, 3)]
theorem aJ_243_2 : sx_iB prog_2_method_21_code aI_243_2 = true := by decide +kernel
def aI_243_3 : sx_IL := [(32, .iconst 1, 1), (33, .iload_n 1, 1), (34, .ishl, 1), (35, .goto 4, 3), (38, .iconst 0, 1), (39, .ior, 1)]
theorem aJ_243_3 : sx_iB prog_2_method_21_code aI_243_3 = true := by decide +kernel
def aI_243_4 : sx_IL := [(40, .putfield 384, 3), (43, .iinc 1 1, 3), (46, .goto (-39), 3), (49, .aload_n 0, 1), (50, .iconst 3, 1), (51, .putfield 208, 3)]
theorem aJ_243_4 : sx_iB prog_2_method_21_code aI_243_4 = true := by decide +kernel
def aI_243_5 : sx_IL := [(54, .return_, 1)]
theorem aJ_243_5 : sx_iB prog_2_method_21_code aI_243_5 = true := by decide +kernel
def aS_243 (pc : Nat) : sx_IL := (if pc < 32 then (if pc < 8 then aI_243_0 else (if pc < 18 then aI_243_1 else aI_243_2)) else (if pc < 40 then aI_243_3 else (if pc < 54 then aI_243_4 else aI_243_5)))
theorem aT_243 (pc : Nat) : sx_iOk prog_2_method_21_code (aS_243 pc) := (sx_ite (p := fun l => sx_iOk prog_2_method_21_code l) (sx_ite (p := fun l => sx_iOk prog_2_method_21_code l) (sx_iB_s aJ_243_0) (sx_ite (p := fun l => sx_iOk prog_2_method_21_code l) (sx_iB_s aJ_243_1) (sx_iB_s aJ_243_2))) (sx_ite (p := fun l => sx_iOk prog_2_method_21_code l) (sx_iB_s aJ_243_3) (sx_ite (p := fun l => sx_iOk prog_2_method_21_code l) (sx_iB_s aJ_243_4) (sx_iB_s aJ_243_5))))
def aW_243 : Nat → Option (Instr × Nat) := fun pc => sx_iF (aS_243 pc) pc
theorem aX_243 : ∀ pc i len, aW_243 pc = some (i, len) → decode aM_243.1.2.1 pc = .ok (i, len) := fun pc i len h => sx_iF_s (aT_243 pc) h
def aI_244_0 : sx_IL := [(0, .aload_n 0, 1), (1, .getfield 29, 3), (4, .bipush 12, 2), (6, .aload_n 0, 1), (7, .getfield 23, 3), (10, .iconst 3, 1)]
theorem aJ_244_0 : sx_iB prog_12_method_49_code aI_244_0 = true := by decide +kernel
def aI_244_1 : sx_IL := [(11, .invokevirtual 59, 3), (14, .iastore, 1), (15, .aload_n 0, 1), (16, .aload_n 0, 1), (17, .getfield 43, 3), (20, .getfield 309, 3)]
theorem aJ_244_1 : sx_iB prog_12_method_49_code aI_244_1 = true := by decide +kernel
def aI_244_2 : sx_IL := [(23, .iconst 0, 1), (24, .aaload, 1), (25, .getfield 278, 3), (28, .iconst 4, 1), (29, .iaload, 1), (30, .putfield 333, 3)]
theorem aJ_244_2 : sx_iB prog_12_method_49_code aI_244_2 = true := by decide +kernel
def aI_244_3 : sx_IL := [(33, .return_, 1)]
theorem aJ_244_3 : sx_iB prog_12_method_49_code aI_244_3 = true := by decide +kernel
def aS_244 (pc : Nat) : sx_IL := (if pc < 23 then (if pc < 11 then aI_244_0 else aI_244_1) else (if pc < 33 then aI_244_2 else aI_244_3))
theorem aT_244 (pc : Nat) : sx_iOk prog_12_method_49_code (aS_244 pc) := (sx_ite (p := fun l => sx_iOk prog_12_method_49_code l) (sx_ite (p := fun l => sx_iOk prog_12_method_49_code l) (sx_iB_s aJ_244_0) (sx_iB_s aJ_244_1)) (sx_ite (p := fun l => sx_iOk prog_12_method_49_code l) (sx_iB_s aJ_244_2) (sx_iB_s aJ_244_3)))
def aW_244 : Nat → Option (Instr × Nat) := fun pc => sx_iF (aS_244 pc) pc
theorem aX_244 : ∀ pc i len, aW_244 pc = some (i, len) → decode aM_244.1.2.1 pc = .ok (i, len) := fun pc i len h => sx_iF_s (aT_244 pc) h
def aI_245_0 : sx_IL := [(0, .aload_n 0, 1), (1, .iload_n 1, 1), (2, .aload_n 0, 1), (3, .getfield 66, 3), (6, .getfield 70, 3), (9, .iload_n 2, 1)]
theorem aJ_245_0 : sx_iB prog_10_method_12_code aI_245_0 = true := by decide +kernel
def aI_245_1 : sx_IL := [(10, .invokevirtual 233, 3), (13, .iload_n 1, 1), (14, .lookupswitch 328 #[(1, 34), (20, 248), (24, 305)], 34), (48, .aload_n 0, 1), (49, .getfield 95, 3), (52, .iconst 1, 1)]
theorem aJ_245_1 : sx_iB prog_10_method_12_code aI_245_1 = true := by decide +kernel
def aI_245_2 : sx_IL := [(53, .aload_n 0, 1), (54, .getfield 102, 3), (57, .iastore, 1), (58, .aload_n 0, 1), (59, .aload_n 0, 1), (60, .getfield 237, 3)]
theorem aJ_245_2 : sx_iB prog_10_method_12_code aI_245_2 = true := by decide +kernel
def aI_245_3 : sx_IL := [(63, .ifCond .ne 18, 3), (66, .aload_n 0, 1), (67, .getfield 56, 3), (70, .getfield 60, 3), (73, .bipush 8, 2), (75, .invokevirtual 92, 3)]
theorem aJ_245_3 : sx_iB prog_10_method_12_code aI_245_3 = true := by decide +kernel
def aI_245_4 : sx_IL := [(78, .ifCond .eq 7, 3), (81, .iconst 1, 1), (82, .goto 4, 3), (85, .iconst 0, 1), (86, .putfield 237, 3), (89, .aload_n 0, 1)]
theorem aJ_245_4 : sx_iB prog_10_method_12_code aI_245_4 = true := by decide +kernel
def aI_245_5 : sx_IL := [(90, .getfield 36, 3), (93, .ifCond .eq 15, 3), (96, .aload_n 0, 1), (97, .iload_n 2, 1), (98, .invokevirtual 240, 3), (101, .aload_n 0, 1)]
theorem aJ_245_5 : sx_iB prog_10_method_12_code aI_245_5 = true := by decide +kernel
def aI_245_6 : sx_IL := [(102, .invokevirtual 244, 3), (105, .goto 242, 3), (108, .aload_n 0, 1), (109, .invokevirtual 248, 3), (112, .lstore_n 3, 1), (113, .aload_n 0, 1)]
theorem aJ_245_6 : sx_iB prog_10_method_12_code aI_245_6 = true := by decide +kernel
def aI_245_7 : sx_IL := [(114, .invokevirtual 251, 3), (117, .aload_n 0, 1), (118, .invokevirtual 244, 3), (121, .aload_n 0, 1), (122, .aload_n 0, 1), (123, .getfield 105, 3)]
theorem aJ_245_7 : sx_iB prog_10_method_12_code aI_245_7 = true := by decide +kernel
def aI_245_8 : sx_IL := [(126, .ifnonnull 7, 3), (129, .lconst 0, 1), (130, .goto 10, 3), (133, .aload_n 0, 1), (134, .getfield 105, 3), (137, .getfield 118, 3)]
theorem aJ_245_8 : sx_iB prog_10_method_12_code aI_245_8 = true := by decide +kernel
def aI_245_9 : sx_IL := [(140, .aload_n 0, 1), (141, .getfield 155, 3), (144, .invokevirtual 254, 3), (147, .aload_n 0, 1), (148, .lload_n 3, 1), (149, .invokevirtual 258, 3)]
theorem aJ_245_9 : sx_iB prog_10_method_12_code aI_245_9 = true := by decide +kernel
def aI_245_10 : sx_IL := [(152, .aload_n 0, 1), (153, .invokevirtual 262, 3), (156, .aload_n 0, 1), (157, .invokevirtual 244, 3), (160, .aload_n 0, 1), (161, .getfield 265, 3)]
theorem aJ_245_10 : sx_iB prog_10_method_12_code aI_245_10 = true := by decide +kernel
def aI_245_11 : sx_IL := [(164, .ifCond .eq 11, 3), (167, .aload_n 0, 1), (168, .invokevirtual 268, 3), (171, .aload_n 0, 1), (172, .invokevirtual 244, 3), (175, .aload_n 0, 1)]
theorem aJ_245_11 : sx_iB prog_10_method_12_code aI_245_11 = true := by decide +kernel
def aI_245_12 : sx_IL := [(176, .getfield 105, 3), (179, .ifnonnull 56, 3), (182, .aload_n 0, 1), (183, .aload_n 0, 1), (184, .getfield 43, 3), (187, .getfield 214, 3)]
theorem aJ_245_12 : sx_iB prog_10_method_12_code aI_245_12 = true := by decide +kernel
def aI_245_13 : sx_IL := [(190, .aload_n 0, 1), (191, .getfield 56, 3), (194, .aload_n 0, 1), (195, .getfield 56, 3), (198, .getfield 271, 3), (201, .aload_n 0, 1)]
theorem aJ_245_13 : sx_iB prog_10_method_12_code aI_245_13 = true := by decide +kernel
def aI_245_14 : sx_IL := [(202, .getfield 43, 3), (205, .getfield 275, 3), (208, .iconst 0, 1), (209, .iaload, 1), (210, .aaload, 1), (211, .invokevirtual 278, 3)]
theorem aJ_245_14 : sx_iB prog_10_method_12_code aI_245_14 = true := by decide +kernel
def aI_245_15 : sx_IL := [(214, .invokevirtual 282, 3), (217, .aload_n 0, 1), (218, .invokevirtual 244, 3), (221, .aload_n 0, 1), (222, .bipush 83, 2), (224, .aload_n 0, 1)]
theorem aJ_245_15 : sx_iB prog_10_method_12_code aI_245_15 = true := by decide +kernel
def aI_245_16 : sx_IL := [(225, .getfield 211, 3), (228, .invokevirtual 286, 3), (231, .aload_n 0, 1), (232, .invokevirtual 244, 3), (235, .aload_n 0, 1), (236, .aload_n 0, 1)]
theorem aJ_245_16 : sx_iB prog_10_method_12_code aI_245_16 = true := by decide +kernel
def aI_245_17 : sx_IL := [(237, .getfield 290, 3), (240, .invokevirtual 293, 3), (243, .aload_n 0, 1), (244, .invokevirtual 244, 3), (247, .aload_n 0, 1), (248, .aload_n 0, 1)]
theorem aJ_245_17 : sx_iB prog_10_method_12_code aI_245_17 = true := by decide +kernel
def aI_245_18 : sx_IL := [(249, .invokevirtual 296, 3), (252, .aload_n 0, 1), (253, .getfield 102, 3), (256, .invokevirtual 299, 3), (259, .goto 88, 3), (262, .aload_n 0, 1)]
theorem aJ_245_18 : sx_iB prog_10_method_12_code aI_245_18 = true := by decide +kernel
def aI_245_19 : sx_IL := [(263, .invokevirtual 303, 3), (266, .aload_n 0, 1), (267, .aload_n 0, 1), (268, .getfield 306, 3), (271, .invokevirtual 309, 3), (274, .aload_n 0, 1)]
theorem aJ_245_19 : sx_iB prog_10_method_12_code aI_245_19 = true := by decide +kernel
def aI_245_20 : sx_IL := [(275, .getfield 95, 3), (278, .iconst 0, 1), (279, .iconst 1, 1), (280, .iastore, 1), (281, .aload_n 0, 1), (282, .iconst 5, 1)]
theorem aJ_245_20 : sx_iB prog_10_method_12_code aI_245_20 = true := by decide +kernel
def aI_245_21 : sx_IL := [(283, .putfield 7, 3), (286, .iconst 0, 1), (287, .istore_n 3, 1), (288, .iload_n 3, 1), (289, .aload_n 0, 1), (290, .getfield 43, 3)]
theorem aJ_245_21 : sx_iB prog_10_method_12_code aI_245_21 = true := by decide +kernel
def aI_245_22 : sx_IL := [(293, .getfield 47, 3), (296, .iconst 2, 1), (297, .iaload, 1), (298, .if_icmp .ge 18, 3), (301, .aload_n 0, 1), (302, .iload_n 3, 1)]
theorem aJ_245_22 : sx_iB prog_10_method_12_code aI_245_22 = true := by decide +kernel
def aI_245_23 : sx_IL := [(303, .invokevirtual 312, 3), (306, .aload_n 0, 1), (307, .invokevirtual 244, 3), (310, .iinc 3 1, 3), (313, .goto (-25), 3), (316, .goto 31, 3)]
theorem aJ_245_23 : sx_iB prog_10_method_12_code aI_245_23 = true := by decide +kernel
def aI_245_24 : sx_IL := [(319, .aload_n 0, 1), (320, .invokevirtual 315, 3), (323, .ifCond .eq 24, 3), (326, .aload_n 0, 1), (327, .iconst 0, 1), (328, .invokevirtual 319, 3)]
theorem aJ_245_24 : sx_iB prog_10_method_12_code aI_245_24 = true := by decide +kernel
def aI_245_25 : sx_IL := [(331, .aload_n 0, 1), (332, .invokevirtual 244, 3), (335, .aload_n 0, 1), (336, .invokevirtual 322, 3), (339, .goto 8, 3), (342, .aload_n 0, 1)]
theorem aJ_245_25 : sx_iB prog_10_method_12_code aI_245_25 = true := by decide +kernel
def aI_245_26 : sx_IL := [(343, .iload_n 1, 1), (344, .invokevirtual 325, 3), (347, .return_, 1)]
theorem aJ_245_26 : sx_iB prog_10_method_12_code aI_245_26 = true := by decide +kernel
def aS_245 (pc : Nat) : sx_IL := (if pc < 190 then (if pc < 102 then (if pc < 63 then (if pc < 10 then aI_245_0 else (if pc < 53 then aI_245_1 else aI_245_2)) else (if pc < 78 then aI_245_3 else (if pc < 90 then aI_245_4 else aI_245_5))) else (if pc < 140 then (if pc < 114 then aI_245_6 else (if pc < 126 then aI_245_7 else aI_245_8)) else (if pc < 164 then (if pc < 152 then aI_245_9 else aI_245_10) else (if pc < 176 then aI_245_11 else aI_245_12)))) else (if pc < 275 then (if pc < 225 then (if pc < 202 then aI_245_13 else (if pc < 214 then aI_245_14 else aI_245_15)) else (if pc < 249 then (if pc < 237 then aI_245_16 else aI_245_17) else (if pc < 263 then aI_245_18 else aI_245_19))) else (if pc < 303 then (if pc < 283 then aI_245_20 else (if pc < 293 then aI_245_21 else aI_245_22)) else (if pc < 331 then (if pc < 319 then aI_245_23 else aI_245_24) else (if pc < 343 then aI_245_25 else aI_245_26)))))
theorem aT_245 (pc : Nat) : sx_iOk prog_10_method_12_code (aS_245 pc) := (sx_ite (p := fun l => sx_iOk prog_10_method_12_code l) (sx_ite (p := fun l => sx_iOk prog_10_method_12_code l) (sx_ite (p := fun l => sx_iOk prog_10_method_12_code l) (sx_ite (p := fun l => sx_iOk prog_10_method_12_code l) (sx_iB_s aJ_245_0) (sx_ite (p := fun l => sx_iOk prog_10_method_12_code l) (sx_iB_s aJ_245_1) (sx_iB_s aJ_245_2))) (sx_ite (p := fun l => sx_iOk prog_10_method_12_code l) (sx_iB_s aJ_245_3) (sx_ite (p := fun l => sx_iOk prog_10_method_12_code l) (sx_iB_s aJ_245_4) (sx_iB_s aJ_245_5)))) (sx_ite (p := fun l => sx_iOk prog_10_method_12_code l) (sx_ite (p := fun l => sx_iOk prog_10_method_12_code l) (sx_iB_s aJ_245_6) (sx_ite (p := fun l => sx_iOk prog_10_method_12_code l) (sx_iB_s aJ_245_7) (sx_iB_s aJ_245_8))) (sx_ite (p := fun l => sx_iOk prog_10_method_12_code l) (sx_ite (p := fun l => sx_iOk prog_10_method_12_code l) (sx_iB_s aJ_245_9) (sx_iB_s aJ_245_10)) (sx_ite (p := fun l => sx_iOk prog_10_method_12_code l) (sx_iB_s aJ_245_11) (sx_iB_s aJ_245_12))))) (sx_ite (p := fun l => sx_iOk prog_10_method_12_code l) (sx_ite (p := fun l => sx_iOk prog_10_method_12_code l) (sx_ite (p := fun l => sx_iOk prog_10_method_12_code l) (sx_iB_s aJ_245_13) (sx_ite (p := fun l => sx_iOk prog_10_method_12_code l) (sx_iB_s aJ_245_14) (sx_iB_s aJ_245_15))) (sx_ite (p := fun l => sx_iOk prog_10_method_12_code l) (sx_ite (p := fun l => sx_iOk prog_10_method_12_code l) (sx_iB_s aJ_245_16) (sx_iB_s aJ_245_17)) (sx_ite (p := fun l => sx_iOk prog_10_method_12_code l) (sx_iB_s aJ_245_18) (sx_iB_s aJ_245_19)))) (sx_ite (p := fun l => sx_iOk prog_10_method_12_code l) (sx_ite (p := fun l => sx_iOk prog_10_method_12_code l) (sx_iB_s aJ_245_20) (sx_ite (p := fun l => sx_iOk prog_10_method_12_code l) (sx_iB_s aJ_245_21) (sx_iB_s aJ_245_22))) (sx_ite (p := fun l => sx_iOk prog_10_method_12_code l) (sx_ite (p := fun l => sx_iOk prog_10_method_12_code l) (sx_iB_s aJ_245_23) (sx_iB_s aJ_245_24)) (sx_ite (p := fun l => sx_iOk prog_10_method_12_code l) (sx_iB_s aJ_245_25) (sx_iB_s aJ_245_26))))))
def aW_245 : Nat → Option (Instr × Nat) := fun pc => sx_iF (aS_245 pc) pc
theorem aX_245 : ∀ pc i len, aW_245 pc = some (i, len) → decode aM_245.1.2.1 pc = .ok (i, len) := fun pc i len h => sx_iF_s (aT_245 pc) h
def aI_246_0 : sx_IL := [(0, .aload_n 0, 1), (1, .invokevirtual 331, 3), (4, .aload_n 0, 1), (5, .new 71, 3), (8, .dup, 1), (9, .iload_n 1, 1)]
theorem aJ_246_0 : sx_iB prog_10_method_14_code aI_246_0 = true := by decide +kernel
def aI_246_1 : sx_IL := [(10, .iconst 3, 1), (11, .isub, 1), (12, .invokespecial 334, 3), (15, .putfield 85, 3), (18, .aload_n 0, 1), (19, .getfield 85, 3)]
theorem aJ_246_1 : sx_iB prog_10_method_14_code aI_246_1 = true := by decide +kernel
def aI_246_2 : sx_IL := [(22, .aload_n 0, 1), (23, .getfield 66, 3), (26, .getfield 70, 3), (29, .iconst 3, 1), (30, .iload_n 1, 1), (31, .invokevirtual 336, 3)]
theorem aJ_246_2 : sx_iB prog_10_method_14_code aI_246_2 = true := by decide +kernel
def aI_246_3 : sx_IL := [(34, .aload_n 0, 1), (35, .aload_n 0, 1), (36, .getfield 56, 3), (39, .getfield 165, 3), (42, .iconst 0, 1), (43, .lconst 0, 1)]
theorem aJ_246_3 : sx_iB prog_10_method_14_code aI_246_3 = true := by decide +kernel
def aI_246_4 : sx_IL := [(44, .bipush 107, 2), (46, .aload_n 0, 1), (47, .getfield 56, 3), (50, .getfield 165, 3), (53, .iconst 0, 1), (54, .aload_n 0, 1)]
theorem aJ_246_4 : sx_iB prog_10_method_14_code aI_246_4 = true := by decide +kernel
def aI_246_5 : sx_IL := [(55, .getfield 66, 3), (58, .getfield 70, 3), (61, .iconst 3, 1), (62, .iload_n 1, 1), (63, .invokevirtual 340, 3), (66, .invokevirtual 344, 3)]
theorem aJ_246_5 : sx_iB prog_10_method_14_code aI_246_5 = true := by decide +kernel
def aI_246_6 : sx_IL := [(69, .putfield 192, 3), (72, .aload_n 0, 1), (73, .bipush 6, 2), (75, .invokevirtual 348, 3), (78, .astore_n 2, 1), (79, .aload_n 2, 1)]
theorem aJ_246_6 : sx_iB prog_10_method_14_code aI_246_6 = true := by decide +kernel
def aI_246_7 : sx_IL := [(80, .aload_n 0, 1), (81, .getfield 102, 3), (84, .invokevirtual 352, 3), (87, .aload_n 2, 1), (88, .iconst 3, 1), (89, .invokevirtual 352, 3)]
theorem aJ_246_7 : sx_iB prog_10_method_14_code aI_246_7 = true := by decide +kernel
def aI_246_8 : sx_IL := [(92, .aload_n 2, 1), (93, .iconst 1, 1), (94, .invokevirtual 355, 3), (97, .aload_n 2, 1), (98, .aload_n 0, 1), (99, .getfield 145, 3)]
theorem aJ_246_8 : sx_iB prog_10_method_14_code aI_246_8 = true := by decide +kernel
def aI_246_9 : sx_IL := [(102, .invokevirtual 352, 3), (105, .aload_n 2, 1), (106, .bipush 9, 2), (108, .invokevirtual 352, 3), (111, .aload_n 2, 1), (112, .bipush 8, 2)]
theorem aJ_246_9 : sx_iB prog_10_method_14_code aI_246_9 = true := by decide +kernel
def aI_246_10 : sx_IL := [(114, .invokevirtual 355, 3), (117, .aload_n 2, 1), (118, .aload_n 0, 1), (119, .getfield 192, 3), (122, .invokevirtual 358, 3), (125, .return_, 1)]
theorem aJ_246_10 : sx_iB prog_10_method_14_code aI_246_10 = true := by decide +kernel
def aS_246 (pc : Nat) : sx_IL := (if pc < 55 then (if pc < 22 then (if pc < 10 then aI_246_0 else aI_246_1) else (if pc < 34 then aI_246_2 else (if pc < 44 then aI_246_3 else aI_246_4))) else (if pc < 92 then (if pc < 69 then aI_246_5 else (if pc < 80 then aI_246_6 else aI_246_7)) else (if pc < 102 then aI_246_8 else (if pc < 114 then aI_246_9 else aI_246_10))))
theorem aT_246 (pc : Nat) : sx_iOk prog_10_method_14_code (aS_246 pc) := (sx_ite (p := fun l => sx_iOk prog_10_method_14_code l) (sx_ite (p := fun l => sx_iOk prog_10_method_14_code l) (sx_ite (p := fun l => sx_iOk prog_10_method_14_code l) (sx_iB_s aJ_246_0) (sx_iB_s aJ_246_1)) (sx_ite (p := fun l => sx_iOk prog_10_method_14_code l) (sx_iB_s aJ_246_2) (sx_ite (p := fun l => sx_iOk prog_10_method_14_code l) (sx_iB_s aJ_246_3) (sx_iB_s aJ_246_4)))) (sx_ite (p := fun l => sx_iOk prog_10_method_14_code l) (sx_ite (p := fun l => sx_iOk prog_10_method_14_code l) (sx_iB_s aJ_246_5) (sx_ite (p := fun l => sx_iOk prog_10_method_14_code l) (sx_iB_s aJ_246_6) (sx_iB_s aJ_246_7))) (sx_ite (p := fun l => sx_iOk prog_10_method_14_code l) (sx_iB_s aJ_246_8) (sx_ite (p := fun l => sx_iOk prog_10_method_14_code l) (sx_iB_s aJ_246_9) (sx_iB_s aJ_246_10)))))
def aW_246 : Nat → Option (Instr × Nat) := fun pc => sx_iF (aS_246 pc) pc
theorem aX_246 : ∀ pc i len, aW_246 pc = some (i, len) → decode aM_246.1.2.1 pc = .ok (i, len) := fun pc i len h => sx_iF_s (aT_246 pc) h
def aI_247_0 : sx_IL := [(0, .aload_n 0, 1), (1, .iconst 2, 1), (2, .invokevirtual 348, 3), (5, .astore_n 1, 1), (6, .aload_n 1, 1), (7, .aload_n 0, 1)]
theorem aJ_247_0 : sx_iB prog_10_method_15_code aI_247_0 = true := by decide +kernel
def aI_247_1 : sx_IL := [(8, .getfield 152, 3), (11, .invokevirtual 358, 3), (14, .aload_n 1, 1), (15, .aload_n 0, 1), (16, .getfield 102, 3), (19, .invokevirtual 352, 3)]
theorem aJ_247_1 : sx_iB prog_10_method_15_code aI_247_1 = true := by decide +kernel
def aI_247_2 : sx_IL := [(22, .aload_n 0, 1), (23, .getfield 139, 3), (26, .ifCond .eq 43, 3), (29, .aload_n 1, 1), (30, .iconst 4, 1), (31, .invokevirtual 352, 3)]
theorem aJ_247_2 : sx_iB prog_10_method_15_code aI_247_2 = true := by decide +kernel
def aI_247_3 : sx_IL := [(34, .aload_n 1, 1), (35, .iconst 5, 1), (36, .invokevirtual 355, 3), (39, .aload_n 1, 1), (40, .aload_n 0, 1), (41, .getfield 145, 3)]
theorem aJ_247_3 : sx_iB prog_10_method_15_code aI_247_3 = true := by decide +kernel
def aI_247_4 : sx_IL := [(44, .invokevirtual 352, 3), (47, .aload_n 1, 1), (48, .aload_n 0, 1), (49, .getfield 56, 3), (52, .getfield 165, 3), (55, .aload_n 0, 1)]
theorem aJ_247_4 : sx_iB prog_10_method_15_code aI_247_4 = true := by decide +kernel
def aI_247_5 : sx_IL := [(56, .getfield 145, 3), (59, .aload_n 0, 1), (60, .getfield 162, 3), (63, .invokevirtual 361, 3), (66, .invokevirtual 364, 3), (69, .aload_n 0, 1)]
theorem aJ_247_5 : sx_iB prog_10_method_15_code aI_247_5 = true := by decide +kernel
def aI_247_6 : sx_IL := [(70, .getfield 105, 3), (73, .ifnull 22, 3), (76, .aload_n 1, 1), (77, .bipush 10, 2), (79, .invokevirtual 352, 3), (82, .aload_n 1, 1)]
theorem aJ_247_6 : sx_iB prog_10_method_15_code aI_247_6 = true := by decide +kernel
def aI_247_7 : sx_IL := [(83, .iconst 1, 1), (84, .invokevirtual 355, 3), (87, .aload_n 1, 1), (88, .aload_n 0, 1), (89, .getfield 128, 3), (92, .invokevirtual 352, 3)]
theorem aJ_247_7 : sx_iB prog_10_method_15_code aI_247_7 = true := by decide +kernel
def aI_247_8 : sx_IL := [(95, .return_, 1)]
theorem aJ_247_8 : sx_iB prog_10_method_15_code aI_247_8 = true := by decide +kernel
def aS_247 (pc : Nat) : sx_IL := (if pc < 44 then (if pc < 22 then (if pc < 8 then aI_247_0 else aI_247_1) else (if pc < 34 then aI_247_2 else aI_247_3)) else (if pc < 70 then (if pc < 56 then aI_247_4 else aI_247_5) else (if pc < 83 then aI_247_6 else (if pc < 95 then aI_247_7 else aI_247_8))))
theorem aT_247 (pc : Nat) : sx_iOk prog_10_method_15_code (aS_247 pc) := (sx_ite (p := fun l => sx_iOk prog_10_method_15_code l) (sx_ite (p := fun l => sx_iOk prog_10_method_15_code l) (sx_ite (p := fun l => sx_iOk prog_10_method_15_code l) (sx_iB_s aJ_247_0) (sx_iB_s aJ_247_1)) (sx_ite (p := fun l => sx_iOk prog_10_method_15_code l) (sx_iB_s aJ_247_2) (sx_iB_s aJ_247_3))) (sx_ite (p := fun l => sx_iOk prog_10_method_15_code l) (sx_ite (p := fun l => sx_iOk prog_10_method_15_code l) (sx_iB_s aJ_247_4) (sx_iB_s aJ_247_5)) (sx_ite (p := fun l => sx_iOk prog_10_method_15_code l) (sx_iB_s aJ_247_6) (sx_ite (p := fun l => sx_iOk prog_10_method_15_code l) (sx_iB_s aJ_247_7) (sx_iB_s aJ_247_8)))))
def aW_247 : Nat → Option (Instr × Nat) := fun pc => sx_iF (aS_247 pc) pc
theorem aX_247 : ∀ pc i len, aW_247 pc = some (i, len) → decode aM_247.1.2.1 pc = .ok (i, len) := fun pc i len h => sx_iF_s (aT_247 pc) h
def aI_248_0 : sx_IL := [(0, .aload_n 0, 1), (1, .aload_n 0, 1), (2, .aload_n 0, 1), (3, .getfield 56, 3), (6, .getfield 60, 3), (9, .invokevirtual 367, 3)]
theorem aJ_248_0 : sx_iB prog_10_method_16_code aI_248_0 = true := by decide +kernel
def aI_248_1 : sx_IL := [(12, .putfield 370, 3), (15, .aload_n 0, 1), (16, .aload_n 0, 1), (17, .getfield 105, 3), (20, .ifnonnull 19, 3), (23, .aload_n 0, 1)]
theorem aJ_248_1 : sx_iB prog_10_method_16_code aI_248_1 = true := by decide +kernel
def aI_248_2 : sx_IL := [(24, .getfield 43, 3), (27, .getfield 47, 3), (30, .iconst 1, 1), (31, .iaload, 1), (32, .ifCond .eq 7, 3), (35, .iconst 1, 1)]
theorem aJ_248_2 : sx_iB prog_10_method_16_code aI_248_2 = true := by decide +kernel
def aI_248_3 : sx_IL := [(36, .goto 4, 3), (39, .iconst 0, 1), (40, .putfield 265, 3), (43, .aload_n 0, 1), (44, .getfield 95, 3), (47, .iconst 2, 1)]
theorem aJ_248_3 : sx_iB prog_10_method_16_code aI_248_3 = true := by decide +kernel
def aI_248_4 : sx_IL := [(48, .aload_n 0, 1), (49, .getfield 139, 3), (52, .ifCond .eq 10, 3), (55, .aload_n 0, 1), (56, .getfield 145, 3), (59, .goto 4, 3)]
theorem aJ_248_4 : sx_iB prog_10_method_16_code aI_248_4 = true := by decide +kernel
def aI_248_5 : sx_IL := [(62, .iconst 0, 1), (63, .iastore, 1), (64, .aload_n 0, 1), (65, .getfield 95, 3), (68, .iconst 3, 1), (69, .aload_n 0, 1)]
theorem aJ_248_5 : sx_iB prog_10_method_16_code aI_248_5 = true := by decide +kernel
def aI_248_6 : sx_IL := [(70, .getfield 211, 3), (73, .iastore, 1), (74, .aload_n 0, 1), (75, .getfield 95, 3), (78, .iconst 4, 1), (79, .aload_n 0, 1)]
theorem aJ_248_6 : sx_iB prog_10_method_16_code aI_248_6 = true := by decide +kernel
def aI_248_7 : sx_IL := [(80, .getfield 105, 3), (83, .ifnonnull 7, 3), (86, .iconst 0, 1), (87, .goto 18, 3), (90, .aload_n 0, 1), (91, .getfield 105, 3)]
theorem aJ_248_7 : sx_iB prog_10_method_16_code aI_248_7 = true := by decide +kernel
def aI_248_8 : sx_IL := [(94, .getfield 217, 3), (97, .ifCond .eq 7, 3), (100, .iconst 2, 1), (101, .goto 4, 3), (104, .iconst 1, 1), (105, .iastore, 1)]
theorem aJ_248_8 : sx_iB prog_10_method_16_code aI_248_8 = true := by decide +kernel
def aI_248_9 : sx_IL := [(106, .aload_n 0, 1), (107, .aload_n 0, 1), (108, .getfield 290, 3), (111, .aload_n 0, 1), (112, .getfield 102, 3), (115, .invokevirtual 299, 3)]
theorem aJ_248_9 : sx_iB prog_10_method_16_code aI_248_9 = true := by decide +kernel
def aI_248_10 : sx_IL := [(118, .aload_n 0, 1), (119, .getfield 370, 3), (122, .ifCond .eq 50, 3), (125, .aload_n 0, 1), (126, .getfield 105, 3), (129, .ifnull 43, 3)]
theorem aJ_248_10 : sx_iB prog_10_method_16_code aI_248_10 = true := by decide +kernel
def aI_248_11 : sx_IL := [(132, .aload_n 0, 1), (133, .getfield 105, 3), (136, .iconst 1, 1), (137, .putfield 224, 3), (140, .aload_n 0, 1), (141, .iconst 0, 1)]
theorem aJ_248_11 : sx_iB prog_10_method_16_code aI_248_11 = true := by decide +kernel
def aI_248_12 : sx_IL := [(142, .putfield 237, 3), (145, .aload_n 0, 1), (146, .getfield 95, 3), (149, .iconst 5, 1), (150, .iconst 1, 1), (151, .iastore, 1)]
theorem aJ_248_12 : sx_iB prog_10_method_16_code aI_248_12 = true := by decide +kernel
def aI_248_13 : sx_IL := [(152, .aload_n 0, 1), (153, .aload_n 0, 1), (154, .aload_n 0, 1), (155, .getfield 373, 3), (158, .iconst 2, 1), (159, .laload, 1)]
theorem aJ_248_13 : sx_iB prog_10_method_16_code aI_248_13 = true := by decide +kernel
def aI_248_14 : sx_IL := [(160, .bipush 101, 2), (162, .lload_n 1, 1), (163, .invokevirtual 377, 3), (166, .invokevirtual 309, 3), (169, .goto 11, 3), (172, .aload_n 0, 1)]
theorem aJ_248_14 : sx_iB prog_10_method_16_code aI_248_14 = true := by decide +kernel
def aI_248_15 : sx_IL := [(173, .aload_n 0, 1), (174, .getfield 25, 3), (177, .invokevirtual 309, 3), (180, .aload_n 0, 1), (181, .aload_n 0, 1), (182, .getfield 370, 3)]
theorem aJ_248_15 : sx_iB prog_10_method_16_code aI_248_15 = true := by decide +kernel
def aI_248_16 : sx_IL := [(185, .ifCond .eq 7, 3), (188, .iconst 1, 1), (189, .goto 15, 3), (192, .aload_n 0, 1), (193, .getfield 265, 3), (196, .ifCond .eq 7, 3)]
theorem aJ_248_16 : sx_iB prog_10_method_16_code aI_248_16 = true := by decide +kernel
def aI_248_17 : sx_IL := [(199, .iconst 2, 1), (200, .goto 4, 3), (203, .iconst 4, 1), (204, .putfield 7, 3), (207, .return_, 1)]
theorem aJ_248_17 : sx_iB prog_10_method_16_code aI_248_17 = true := by decide +kernel
def aS_248 (pc : Nat) : sx_IL := (if pc < 106 then (if pc < 48 then (if pc < 24 then (if pc < 12 then aI_248_0 else aI_248_1) else (if pc < 36 then aI_248_2 else aI_248_3)) else (if pc < 70 then (if pc < 62 then aI_248_4 else aI_248_5) else (if pc < 80 then aI_248_6 else (if pc < 94 then aI_248_7 else aI_248_8)))) else (if pc < 152 then (if pc < 132 then (if pc < 118 then aI_248_9 else aI_248_10) else (if pc < 142 then aI_248_11 else aI_248_12)) else (if pc < 173 then (if pc < 160 then aI_248_13 else aI_248_14) else (if pc < 185 then aI_248_15 else (if pc < 199 then aI_248_16 else aI_248_17)))))
theorem aT_248 (pc : Nat) : sx_iOk prog_10_method_16_code (aS_248 pc) := (sx_ite (p := fun l => sx_iOk prog_10_method_16_code l) (sx_ite (p := fun l => sx_iOk prog_10_method_16_code l) (sx_ite (p := fun l => sx_iOk prog_10_method_16_code l) (sx_ite (p := fun l => sx_iOk prog_10_method_16_code l) (sx_iB_s aJ_248_0) (sx_iB_s aJ_248_1)) (sx_ite (p := fun l => sx_iOk prog_10_method_16_code l) (sx_iB_s aJ_248_2) (sx_iB_s aJ_248_3))) (sx_ite (p := fun l => sx_iOk prog_10_method_16_code l) (sx_ite (p := fun l => sx_iOk prog_10_method_16_code l) (sx_iB_s aJ_248_4) (sx_iB_s aJ_248_5)) (sx_ite (p := fun l => sx_iOk prog_10_method_16_code l) (sx_iB_s aJ_248_6) (sx_ite (p := fun l => sx_iOk prog_10_method_16_code l) (sx_iB_s aJ_248_7) (sx_iB_s aJ_248_8))))) (sx_ite (p := fun l => sx_iOk prog_10_method_16_code l) (sx_ite (p := fun l => sx_iOk prog_10_method_16_code l) (sx_ite (p := fun l => sx_iOk prog_10_method_16_code l) (sx_iB_s aJ_248_9) (sx_iB_s aJ_248_10)) (sx_ite (p := fun l => sx_iOk prog_10_method_16_code l) (sx_iB_s aJ_248_11) (sx_iB_s aJ_248_12))) (sx_ite (p := fun l => sx_iOk prog_10_method_16_code l) (sx_ite (p := fun l => sx_iOk prog_10_method_16_code l) (sx_iB_s aJ_248_13) (sx_iB_s aJ_248_14)) (sx_ite (p := fun l => sx_iOk prog_10_method_16_code l) (sx_iB_s aJ_248_15) (sx_ite (p := fun l => sx_iOk prog_10_method_16_code l) (sx_iB_s aJ_248_16) (sx_iB_s aJ_248_17))))))
def aW_248 : Nat → Option (Instr × Nat) := fun pc => sx_iF (aS_248 pc) pc
theorem aX_248 : ∀ pc i len, aW_248 pc = some (i, len) → decode aM_248.1.2.1 pc = .ok (i, len) := fun pc i len h => sx_iF_s (aT_248 pc) h
def aI_249_0 : sx_IL := [(0, .aload_n 1, 1), (1, .bipush 8, 2), (3, .invokevirtual 92, 3), (6, .ifCond .eq 34, 3), (9, .aload_n 0, 1), (10, .getfield 85, 3)]
theorem aJ_249_0 : sx_iB prog_10_method_11_code aI_249_0 = true := by decide +kernel
def aI_249_1 : sx_IL := [(13, .ifnonnull 27, 3), (16, .aload_n 0, 1), (17, .getfield 105, 3), (20, .ifnull 20, 3), (23, .aload_n 0, 1), (24, .getfield 128, 3)]
theorem aJ_249_1 : sx_iB prog_10_method_11_code aI_249_1 = true := by decide +kernel
def aI_249_2 : sx_IL := [(27, .ifCond .ne 13, 3), (30, .aload_n 0, 1), (31, .getfield 105, 3), (34, .getfield 217, 3), (37, .ifCond .ne 5, 3), (40, .iconst 0, 1)]
theorem aJ_249_2 : sx_iB prog_10_method_11_code aI_249_2 = true := by decide +kernel
def aI_249_3 : sx_IL := [(41, .ireturn, 1), (42, .aload_n 1, 1), (43, .bipush 10, 2), (45, .iconst 1, 1), (46, .invokevirtual 142, 3), (49, .istore_n 2, 1)]
theorem aJ_249_3 : sx_iB prog_10_method_11_code aI_249_3 = true := by decide +kernel
def aI_249_4 : sx_IL := [(50, .aload_n 1, 1), (51, .bipush 10, 2), (53, .iconst 2, 1), (54, .iload_n 2, 1), (55, .iadd, 1), (56, .invokevirtual 169, 3)]
theorem aJ_249_4 : sx_iB prog_10_method_11_code aI_249_4 = true := by decide +kernel
def aI_249_5 : sx_IL := [(59, .i2l, 1), (60, .aload_n 0, 1), (61, .getfield 56, 3), (64, .getfield 204, 3), (67, .aload_n 0, 1), (68, .getfield 105, 3)]
theorem aJ_249_5 : sx_iB prog_10_method_11_code aI_249_5 = true := by decide +kernel
def aI_249_6 : sx_IL := [(71, .getfield 220, 3), (74, .isub, 1), (75, .i2l, 1), (76, .lsub, 1), (77, .lstore_n 3, 1), (78, .aload_n 0, 1)]
theorem aJ_249_6 : sx_iB prog_10_method_11_code aI_249_6 = true := by decide +kernel
def aI_249_7 : sx_IL := [(79, .getfield 105, 3), (82, .getfield 223, 3), (85, .aload_n 0, 1), (86, .getfield 102, 3), (89, .if_icmp .ne 48, 3), (92, .aload_n 0, 1)]
theorem aJ_249_7 : sx_iB prog_10_method_11_code aI_249_7 = true := by decide +kernel
def aI_249_8 : sx_IL := [(93, .getfield 105, 3), (96, .getfield 224, 3), (99, .ifCond .ne 38, 3), (102, .aload_n 0, 1), (103, .getfield 43, 3), (106, .getfield 47, 3)]
theorem aJ_249_8 : sx_iB prog_10_method_11_code aI_249_8 = true := by decide +kernel
def aI_249_9 : sx_IL := [(109, .iconst 4, 1), (110, .iaload, 1), (111, .ifCond .le 26, 3), (114, .lload_n 3, 1), (115, .invokestatic 227, 3), (118, .aload_n 0, 1)]
theorem aJ_249_9 : sx_iB prog_10_method_11_code aI_249_9 = true := by decide +kernel
def aI_249_10 : sx_IL := [(119, .getfield 43, 3), (122, .getfield 47, 3), (125, .bipush 7, 2), (127, .iaload, 1), (128, .i2l, 1), (129, .lcmp, 1)]
theorem aJ_249_10 : sx_iB prog_10_method_11_code aI_249_10 = true := by decide +kernel
def aI_249_11 : sx_IL := [(130, .ifCond .gt 7, 3), (133, .iconst 1, 1), (134, .goto 4, 3), (137, .iconst 0, 1), (138, .ireturn, 1)]
theorem aJ_249_11 : sx_iB prog_10_method_11_code aI_249_11 = true := by decide +kernel
def aS_249 (pc : Nat) : sx_IL := (if pc < 71 then (if pc < 41 then (if pc < 13 then aI_249_0 else (if pc < 27 then aI_249_1 else aI_249_2)) else (if pc < 50 then aI_249_3 else (if pc < 59 then aI_249_4 else aI_249_5))) else (if pc < 109 then (if pc < 79 then aI_249_6 else (if pc < 93 then aI_249_7 else aI_249_8)) else (if pc < 119 then aI_249_9 else (if pc < 130 then aI_249_10 else aI_249_11))))
theorem aT_249 (pc : Nat) : sx_iOk prog_10_method_11_code (aS_249 pc) := (sx_ite (p := fun l => sx_iOk prog_10_method_11_code l) (sx_ite (p := fun l => sx_iOk prog_10_method_11_code l) (sx_ite (p := fun l => sx_iOk prog_10_method_11_code l) (sx_iB_s aJ_249_0) (sx_ite (p := fun l => sx_iOk prog_10_method_11_code l) (sx_iB_s aJ_249_1) (sx_iB_s aJ_249_2))) (sx_ite (p := fun l => sx_iOk prog_10_method_11_code l) (sx_iB_s aJ_249_3) (sx_ite (p := fun l => sx_iOk prog_10_method_11_code l) (sx_iB_s aJ_249_4) (sx_iB_s aJ_249_5)))) (sx_ite (p := fun l => sx_iOk prog_10_method_11_code l) (sx_ite (p := fun l => sx_iOk prog_10_method_11_code l) (sx_iB_s aJ_249_6) (sx_ite (p := fun l => sx_iOk prog_10_method_11_code l) (sx_iB_s aJ_249_7) (sx_iB_s aJ_249_8))) (sx_ite (p := fun l => sx_iOk prog_10_method_11_code l) (sx_iB_s aJ_249_9) (sx_ite (p := fun l => sx_iOk prog_10_method_11_code l) (sx_iB_s aJ_249_10) (sx_iB_s aJ_249_11)))))
def aW_249 : Nat → Option (Instr × Nat) := fun pc => sx_iF (aS_249 pc) pc
theorem aX_249 : ∀ pc i len, aW_249 pc = some (i, len) → decode aM_249.1.2.1 pc = .ok (i, len) := fun pc i len h => sx_iF_s (aT_249 pc) h
def aI_250_0 : sx_IL := [(0, .aload_n 0, 1), (1, .bipush 8, 2), (3, .invokevirtual 348, 3), (6, .astore_n 1, 1), (7, .aload_n 0, 1), (8, .getfield 370, 3)]
theorem aJ_250_0 : sx_iB prog_10_method_17_code aI_250_0 = true := by decide +kernel
def aI_250_1 : sx_IL := [(11, .ifCond .eq 14, 3), (14, .aload_n 1, 1), (15, .bipush 8, 2), (17, .invokevirtual 352, 3), (20, .aload_n 1, 1), (21, .iconst 0, 1)]
theorem aJ_250_1 : sx_iB prog_10_method_17_code aI_250_1 = true := by decide +kernel
def aI_250_2 : sx_IL := [(22, .invokevirtual 355, 3), (25, .return_, 1)]
theorem aJ_250_2 : sx_iB prog_10_method_17_code aI_250_2 = true := by decide +kernel
def aS_250 (pc : Nat) : sx_IL := (if pc < 11 then aI_250_0 else (if pc < 22 then aI_250_1 else aI_250_2))
theorem aT_250 (pc : Nat) : sx_iOk prog_10_method_17_code (aS_250 pc) := (sx_ite (p := fun l => sx_iOk prog_10_method_17_code l) (sx_iB_s aJ_250_0) (sx_ite (p := fun l => sx_iOk prog_10_method_17_code l) (sx_iB_s aJ_250_1) (sx_iB_s aJ_250_2)))
def aW_250 : Nat → Option (Instr × Nat) := fun pc => sx_iF (aS_250 pc) pc
theorem aX_250 : ∀ pc i len, aW_250 pc = some (i, len) → decode aM_250.1.2.1 pc = .ok (i, len) := fun pc i len h => sx_iF_s (aT_250 pc) h
def aI_251_0 : sx_IL := [(0, .aload_n 0, 1), (1, .aload_n 0, 1), (2, .bipush 13, 2), (4, .invokevirtual 348, 3), (7, .iconst 5, 1), (8, .iconst 2, 1)]
theorem aJ_251_0 : sx_iB prog_10_method_18_code aI_251_0 = true := by decide +kernel
def aI_251_1 : sx_IL := [(9, .invokevirtual 380, 3), (12, .return_, 1)]
theorem aJ_251_1 : sx_iB prog_10_method_18_code aI_251_1 = true := by decide +kernel
def aS_251 (pc : Nat) : sx_IL := (if pc < 9 then aI_251_0 else aI_251_1)
theorem aT_251 (pc : Nat) : sx_iOk prog_10_method_18_code (aS_251 pc) := (sx_ite (p := fun l => sx_iOk prog_10_method_18_code l) (sx_iB_s aJ_251_0) (sx_iB_s aJ_251_1))
def aW_251 : Nat → Option (Instr × Nat) := fun pc => sx_iF (aS_251 pc) pc
theorem aX_251 : ∀ pc i len, aW_251 pc = some (i, len) → decode aM_251.1.2.1 pc = .ok (i, len) := fun pc i len h => sx_iF_s (aT_251 pc) h
def aI_252_0 : sx_IL := [(0, .aload_n 0, 1), (1, .getfield 113, 3), (4, .iconst 1, 1), (5, .isub, 1), (6, .istore_n 2, 1), (7, .iload_n 2, 1)]
theorem aJ_252_0 : sx_iB prog_5_method_7_code aI_252_0 = true := by decide +kernel
def aI_252_1 : sx_IL := [(8, .ifCond .lt 61, 3), (11, .aload_n 0, 1), (12, .getfield 56, 3), (15, .iload_n 2, 1), (16, .aaload, 1), (17, .getfield 122, 3)]
theorem aJ_252_1 : sx_iB prog_5_method_7_code aI_252_1 = true := by decide +kernel
def aI_252_2 : sx_IL := [(20, .iconst 0, 1), (21, .iaload, 1), (22, .aload_n 1, 1), (23, .getfield 122, 3), (26, .iconst 0, 1), (27, .iaload, 1)]
theorem aJ_252_2 : sx_iB prog_5_method_7_code aI_252_2 = true := by decide +kernel
def aI_252_3 : sx_IL := [(28, .if_icmp .ne 7, 3), (31, .iconst 1, 1), (32, .goto 4, 3), (35, .iconst 0, 1), (36, .istore_n 3, 1), (37, .iload_n 3, 1)]
theorem aJ_252_3 : sx_iB prog_5_method_7_code aI_252_3 = true := by decide +kernel
def aI_252_4 : sx_IL := [(38, .ifCond .eq 25, 3), (41, .aload_n 0, 1), (42, .getfield 56, 3), (45, .iload_n 2, 1), (46, .aaload, 1), (47, .iconst 0, 1)]
theorem aJ_252_4 : sx_iB prog_5_method_7_code aI_252_4 = true := by decide +kernel
def aI_252_5 : sx_IL := [(48, .aload_n 1, 1), (49, .iconst 0, 1), (50, .invokevirtual 141, 3), (53, .ifCond .eq 10, 3), (56, .aload_n 0, 1), (57, .getfield 56, 3)]
theorem aJ_252_5 : sx_iB prog_5_method_7_code aI_252_5 = true := by decide +kernel
def aI_252_6 : sx_IL := [(60, .iload_n 2, 1), (61, .aaload, 1), (62, .areturn, 1), (63, .iinc 2 (-1), 3), (66, .goto (-59), 3), (69, .aconst_null, 1)]
theorem aJ_252_6 : sx_iB prog_5_method_7_code aI_252_6 = true := by decide +kernel
def aI_252_7 : sx_IL := [(70, .areturn, 1)]
theorem aJ_252_7 : sx_iB prog_5_method_7_code aI_252_7 = true := by decide +kernel
def aS_252 (pc : Nat) : sx_IL := (if pc < 38 then (if pc < 20 then (if pc < 8 then aI_252_0 else aI_252_1) else (if pc < 28 then aI_252_2 else aI_252_3)) else (if pc < 60 then (if pc < 48 then aI_252_4 else aI_252_5) else (if pc < 70 then aI_252_6 else aI_252_7)))
theorem aT_252 (pc : Nat) : sx_iOk prog_5_method_7_code (aS_252 pc) := (sx_ite (p := fun l => sx_iOk prog_5_method_7_code l) (sx_ite (p := fun l => sx_iOk prog_5_method_7_code l) (sx_ite (p := fun l => sx_iOk prog_5_method_7_code l) (sx_iB_s aJ_252_0) (sx_iB_s aJ_252_1)) (sx_ite (p := fun l => sx_iOk prog_5_method_7_code l) (sx_iB_s aJ_252_2) (sx_iB_s aJ_252_3))) (sx_ite (p := fun l => sx_iOk prog_5_method_7_code l) (sx_ite (p := fun l => sx_iOk prog_5_method_7_code l) (sx_iB_s aJ_252_4) (sx_iB_s aJ_252_5)) (sx_ite (p := fun l => sx_iOk prog_5_method_7_code l) (sx_iB_s aJ_252_6) (sx_iB_s aJ_252_7))))
def aW_252 : Nat → Option (Instr × Nat) := fun pc => sx_iF (aS_252 pc) pc
theorem aX_252 : ∀ pc i len, aW_252 pc = some (i, len) → decode aM_252.1.2.1 pc = .ok (i, len) := fun pc i len h => sx_iF_s (aT_252 pc) h
def aI_253_0 : sx_IL := [(0, .aload_n 0, 1), (1, .getfield 43, 3), (4, .getfield 47, 3), (7, .iconst 3, 1), (8, .iaload, 1), (9, .istore_n 2, 1)]
theorem aJ_253_0 : sx_iB prog_10_method_19_code aI_253_0 = true := by decide +kernel
def aI_253_1 : sx_IL := [(10, .aload_n 0, 1), (11, .getfield 43, 3), (14, .getfield 47, 3), (17, .iconst 4, 1), (18, .iaload, 1), (19, .istore_n 3, 1)]
theorem aJ_253_1 : sx_iB prog_10_method_19_code aI_253_1 = true := by decide +kernel
def aI_253_2 : sx_IL := [(20, .aload_n 0, 1), (21, .getfield 43, 3), (24, .getfield 384, 3), (27, .ifCond .ne 17, 3), (30, .aload_n 0, 1), (31, .getfield 43, 3)]
theorem aJ_253_2 : sx_iB prog_10_method_19_code aI_253_2 = true := by decide +kernel
def aI_253_3 : sx_IL := [(34, .aload_n 0, 1), (35, .getfield 43, 3), (38, .invokevirtual 148, 3), (41, .putfield 387, 3), (44, .aload_n 0, 1), (45, .getfield 43, 3)]
theorem aJ_253_3 : sx_iB prog_10_method_19_code aI_253_3 = true := by decide +kernel
def aI_253_4 : sx_IL := [(48, .aload_n 0, 1), (49, .getfield 56, 3), (52, .getfield 165, 3), (55, .invokevirtual 390, 3), (58, .lstore 4, 2), (60, .aload_n 0, 1)]
theorem aJ_253_4 : sx_iB prog_10_method_19_code aI_253_4 = true := by decide +kernel
def aI_253_5 : sx_IL := [(61, .getfield 56, 3), (64, .getfield 394, 3), (67, .astore 6, 2), (69, .aload 6, 2), (71, .invokevirtual 397, 3), (74, .aload 6, 2)]
theorem aJ_253_5 : sx_iB prog_10_method_19_code aI_253_5 = true := by decide +kernel
def aI_253_6 : sx_IL := [(76, .lload 4, 2), (78, .invokevirtual 358, 3), (81, .new 114, 3), (84, .dup, 1), (85, .aload 6, 2), (87, .aload_n 0, 1)]
theorem aJ_253_6 : sx_iB prog_10_method_19_code aI_253_6 = true := by decide +kernel
def aI_253_7 : sx_IL := [(88, .invokevirtual 400, 3), (91, .aload_n 0, 1), (92, .aload_n 0, 1), (93, .getfield 373, 3), (96, .bipush 6, 2), (98, .laload, 1)]
theorem aJ_253_7 : sx_iB prog_10_method_19_code aI_253_7 = true := by decide +kernel
def aI_253_8 : sx_IL := [(99, .bipush 116, 2), (101, .iload_n 1, 1), (102, .i2l, 1), (103, .invokevirtual 377, 3), (106, .invokespecial 403, 3), (109, .astore 7, 2)]
theorem aJ_253_8 : sx_iB prog_10_method_19_code aI_253_8 = true := by decide +kernel
def aI_253_9 : sx_IL := [(111, .aload 7, 2), (113, .aload_n 0, 1), (114, .getfield 95, 3), (117, .iconst 1, 1), (118, .iaload, 1), (119, .iload_n 2, 1)]
theorem aJ_253_9 : sx_iB prog_10_method_19_code aI_253_9 = true := by decide +kernel
def aI_253_10 : sx_IL := [(120, .iload_n 3, 1), (121, .aload_n 0, 1), (122, .getfield 56, 3), (125, .getfield 204, 3), (128, .invokevirtual 406, 3), (131, .aload_n 0, 1)]
theorem aJ_253_10 : sx_iB prog_10_method_19_code aI_253_10 = true := by decide +kernel
def aI_253_11 : sx_IL := [(132, .getfield 43, 3), (135, .aload 7, 2), (137, .invokevirtual 410, 3), (140, .aload_n 0, 1), (141, .iconst 4, 1), (142, .invokevirtual 348, 3)]
theorem aJ_253_11 : sx_iB prog_10_method_19_code aI_253_11 = true := by decide +kernel
def aI_253_12 : sx_IL := [(145, .astore 8, 2), (147, .aload 8, 2), (149, .iload_n 2, 1), (150, .invokevirtual 364, 3), (153, .aload 8, 2), (155, .iload_n 3, 1)]
theorem aJ_253_12 : sx_iB prog_10_method_19_code aI_253_12 = true := by decide +kernel
def aI_253_13 : sx_IL := [(156, .invokevirtual 364, 3), (159, .aload 8, 2), (161, .lload 4, 2), (163, .invokevirtual 358, 3), (166, .aload 8, 2), (168, .iload_n 1, 1)]
theorem aJ_253_13 : sx_iB prog_10_method_19_code aI_253_13 = true := by decide +kernel
def aI_253_14 : sx_IL := [(169, .invokevirtual 352, 3), (172, .return_, 1)]
theorem aJ_253_14 : sx_iB prog_10_method_19_code aI_253_14 = true := by decide +kernel
def aS_253 (pc : Nat) : sx_IL := (if pc < 88 then (if pc < 34 then (if pc < 10 then aI_253_0 else (if pc < 20 then aI_253_1 else aI_253_2)) else (if pc < 61 then (if pc < 48 then aI_253_3 else aI_253_4) else (if pc < 76 then aI_253_5 else aI_253_6))) else (if pc < 132 then (if pc < 111 then (if pc < 99 then aI_253_7 else aI_253_8) else (if pc < 120 then aI_253_9 else aI_253_10)) else (if pc < 156 then (if pc < 145 then aI_253_11 else aI_253_12) else (if pc < 169 then aI_253_13 else aI_253_14))))
theorem aT_253 (pc : Nat) : sx_iOk prog_10_method_19_code (aS_253 pc) := (sx_ite (p := fun l => sx_iOk prog_10_method_19_code l) (sx_ite (p := fun l => sx_iOk prog_10_method_19_code l) (sx_ite (p := fun l => sx_iOk prog_10_method_19_code l) (sx_iB_s aJ_253_0) (sx_ite (p := fun l => sx_iOk prog_10_method_19_code l) (sx_iB_s aJ_253_1) (sx_iB_s aJ_253_2))) (sx_ite (p := fun l => sx_iOk prog_10_method_19_code l) (sx_ite (p := fun l => sx_iOk prog_10_method_19_code l) (sx_iB_s aJ_253_3) (sx_iB_s aJ_253_4)) (sx_ite (p := fun l => sx_iOk prog_10_method_19_code l) (sx_iB_s aJ_253_5) (sx_iB_s aJ_253_6)))) (sx_ite (p := fun l => sx_iOk prog_10_method_19_code l) (sx_ite (p := fun l => sx_iOk prog_10_method_19_code l) (sx_ite (p := fun l => sx_iOk prog_10_method_19_code l) (sx_iB_s aJ_253_7) (sx_iB_s aJ_253_8)) (sx_ite (p := fun l => sx_iOk prog_10_method_19_code l) (sx_iB_s aJ_253_9) (sx_iB_s aJ_253_10))) (sx_ite (p := fun l => sx_iOk prog_10_method_19_code l) (sx_ite (p := fun l => sx_iOk prog_10_method_19_code l) (sx_iB_s aJ_253_11) (sx_iB_s aJ_253_12)) (sx_ite (p := fun l => sx_iOk prog_10_method_19_code l) (sx_iB_s aJ_253_13) (sx_iB_s aJ_253_14)))))
def aW_253 : Nat → Option (Instr × Nat) := fun pc => sx_iF (aS_253 pc) pc
theorem aX_253 : ∀ pc i len, aW_253 pc = some (i, len) → decode aM_253.1.2.1 pc = .ok (i, len) := fun pc i len h => sx_iF_s (aT_253 pc) h
def aI_254_0 : sx_IL := [(0, .aload_n 0, 1), (1, .dup, 1), (2, .getfield 114, 3), (5, .iconst 1, 1), (6, .iadd, 1), (7, .putfield 114, 3)]
theorem aJ_254_0 : sx_iB prog_3_method_16_code aI_254_0 = true := by decide +kernel
def aI_254_1 : sx_IL := [(10, .aload_n 1, 1), (11, .iconst 0, 1), (12, .aload_n 0, 1), (13, .getfield 117, 3), (16, .bipush 110, 2), (18, .aload_n 0, 1)]
theorem aJ_254_1 : sx_iB prog_3_method_16_code aI_254_1 = true := by decide +kernel
def aI_254_2 : sx_IL := [(19, .getfield 114, 3), (22, .iconst 1, 1), (23, .isub, 1), (24, .i2l, 1), (25, .invokevirtual 121, 3), (28, .lreturn, 1)]
theorem aJ_254_2 : sx_iB prog_3_method_16_code aI_254_2 = true := by decide +kernel
def aS_254 (pc : Nat) : sx_IL := (if pc < 10 then aI_254_0 else (if pc < 19 then aI_254_1 else aI_254_2))
theorem aT_254 (pc : Nat) : sx_iOk prog_3_method_16_code (aS_254 pc) := (sx_ite (p := fun l => sx_iOk prog_3_method_16_code l) (sx_iB_s aJ_254_0) (sx_ite (p := fun l => sx_iOk prog_3_method_16_code l) (sx_iB_s aJ_254_1) (sx_iB_s aJ_254_2)))
def aW_254 : Nat → Option (Instr × Nat) := fun pc => sx_iF (aS_254 pc) pc
theorem aX_254 : ∀ pc i len, aW_254 pc = some (i, len) → decode aM_254.1.2.1 pc = .ok (i, len) := fun pc i len h => sx_iF_s (aT_254 pc) h
def aI_255_0 : sx_IL := [(0, .iconst 0, 1), (1, .istore_n 2, 1), (2, .aload_n 0, 1), (3, .getfield 82, 3), (6, .bipush 20, 2), (8, .if_icmp .ne 31, 3)]
theorem aJ_255_0 : sx_iB prog_3_method_11_code aI_255_0 = true := by decide +kernel
def aI_255_1 : sx_IL := [(11, .iload_n 2, 1), (12, .iconst 1, 1), (13, .iadd, 1), (14, .bipush 20, 2), (16, .if_icmp .ge 23, 3), (19, .aload_n 0, 1)]
theorem aJ_255_1 : sx_iB prog_3_method_11_code aI_255_1 = true := by decide +kernel
def aI_255_2 : sx_IL := [(20, .getfield 47, 3), (23, .iload_n 2, 1), (24, .aload_n 0, 1), (25, .getfield 47, 3), (28, .iload_n 2, 1), (29, .iconst 1, 1)]
theorem aJ_255_2 : sx_iB prog_3_method_11_code aI_255_2 = true := by decide +kernel
def aI_255_3 : sx_IL := [(30, .iadd, 1), (31, .aaload, 1), (32, .aastore, 1), (33, .iinc 2 1, 3), (36, .goto (-34), 3), (39, .aload_n 0, 1)]
theorem aJ_255_3 : sx_iB prog_3_method_11_code aI_255_3 = true := by decide +kernel
def aI_255_4 : sx_IL := [(40, .aload_n 0, 1), (41, .getfield 82, 3), (44, .bipush 19, 2), (46, .invokestatic 85, 3), (49, .putfield 82, 3), (52, .aload_n 0, 1)]
theorem aJ_255_4 : sx_iB prog_3_method_11_code aI_255_4 = true := by decide +kernel
def aI_255_5 : sx_IL := [(53, .getfield 47, 3), (56, .aload_n 0, 1), (57, .getfield 82, 3), (60, .aload_n 1, 1), (61, .aastore, 1), (62, .aload_n 0, 1)]
theorem aJ_255_5 : sx_iB prog_3_method_11_code aI_255_5 = true := by decide +kernel
def aI_255_6 : sx_IL := [(63, .dup, 1), (64, .getfield 82, 3), (67, .iconst 1, 1), (68, .iadd, 1), (69, .putfield 82, 3), (72, .return_, 1)]
theorem aJ_255_6 : sx_iB prog_3_method_11_code aI_255_6 = true := by decide +kernel
def aS_255 (pc : Nat) : sx_IL := (if pc < 30 then (if pc < 11 then aI_255_0 else (if pc < 20 then aI_255_1 else aI_255_2)) else (if pc < 53 then (if pc < 40 then aI_255_3 else aI_255_4) else (if pc < 63 then aI_255_5 else aI_255_6)))
theorem aT_255 (pc : Nat) : sx_iOk prog_3_method_11_code (aS_255 pc) := (sx_ite (p := fun l => sx_iOk prog_3_method_11_code l) (sx_ite (p := fun l => sx_iOk prog_3_method_11_code l) (sx_iB_s aJ_255_0) (sx_ite (p := fun l => sx_iOk prog_3_method_11_code l) (sx_iB_s aJ_255_1) (sx_iB_s aJ_255_2))) (sx_ite (p := fun l => sx_iOk prog_3_method_11_code l) (sx_ite (p := fun l => sx_iOk prog_3_method_11_code l) (sx_iB_s aJ_255_3) (sx_iB_s aJ_255_4)) (sx_ite (p := fun l => sx_iOk prog_3_method_11_code l) (sx_iB_s aJ_255_5) (sx_iB_s aJ_255_6))))
def aW_255 : Nat → Option (Instr × Nat) := fun pc => sx_iF (aS_255 pc) pc
theorem aX_255 : ∀ pc i len, aW_255 pc = some (i, len) → decode aM_255.1.2.1 pc = .ok (i, len) := fun pc i len h => sx_iF_s (aT_255 pc) h
def aI_256_0 : sx_IL := [(0, .aload_n 0, 1), (1, .iconst 4, 1), (2, .putfield 7, 3), (5, .iload_n 1, 1), (6, .iconst 5, 1), (7, .if_icmp .ne 14, 3)]
theorem aJ_256_0 : sx_iB prog_10_method_13_code aI_256_0 = true := by decide +kernel
def aI_256_1 : sx_IL := [(10, .aload_n 0, 1), (11, .aload_n 0, 1), (12, .getfield 25, 3), (15, .invokevirtual 309, 3), (18, .goto 32, 3), (21, .iload_n 1, 1)]
theorem aJ_256_1 : sx_iB prog_10_method_13_code aI_256_1 = true := by decide +kernel
def aI_256_2 : sx_IL := [(22, .bipush 11, 2), (24, .if_icmp .ne 26, 3), (27, .aload_n 0, 1), (28, .invokevirtual 328, 3), (31, .aload_n 0, 1), (32, .aload_n 0, 1)]
theorem aJ_256_2 : sx_iB prog_10_method_13_code aI_256_2 = true := by decide +kernel
def aI_256_3 : sx_IL := [(33, .getfield 95, 3), (36, .bipush 12, 2), (38, .iaload, 1), (39, .ifCond .ne 7, 3), (42, .iconst 4, 1), (43, .goto 4, 3)]
theorem aJ_256_3 : sx_iB prog_10_method_13_code aI_256_3 = true := by decide +kernel
def aI_256_4 : sx_IL := [(46, .iconst 3, 1), (47, .putfield 7, 3), (50, .return_, 1)]
theorem aJ_256_4 : sx_iB prog_10_method_13_code aI_256_4 = true := by decide +kernel
def aS_256 (pc : Nat) : sx_IL := (if pc < 22 then (if pc < 10 then aI_256_0 else aI_256_1) else (if pc < 33 then aI_256_2 else (if pc < 46 then aI_256_3 else aI_256_4)))
theorem aT_256 (pc : Nat) : sx_iOk prog_10_method_13_code (aS_256 pc) := (sx_ite (p := fun l => sx_iOk prog_10_method_13_code l) (sx_ite (p := fun l => sx_iOk prog_10_method_13_code l) (sx_iB_s aJ_256_0) (sx_iB_s aJ_256_1)) (sx_ite (p := fun l => sx_iOk prog_10_method_13_code l) (sx_iB_s aJ_256_2) (sx_ite (p := fun l => sx_iOk prog_10_method_13_code l) (sx_iB_s aJ_256_3) (sx_iB_s aJ_256_4))))
def aW_256 : Nat → Option (Instr × Nat) := fun pc => sx_iF (aS_256 pc) pc
theorem aX_256 : ∀ pc i len, aW_256 pc = some (i, len) → decode aM_256.1.2.1 pc = .ok (i, len) := fun pc i len h => sx_iF_s (aT_256 pc) h
def aI_257_0 : sx_IL := [(0, .aload_n 0, 1), (1, .getfield 43, 3), (4, .getfield 199, 3), (7, .invokevirtual 89, 3), (10, .aload_n 0, 1), (11, .getfield 43, 3)]
theorem aJ_257_0 : sx_iB prog_12_method_17_code aI_257_0 = true := by decide +kernel
def aI_257_1 : sx_IL := [(14, .getfield 199, 3), (17, .iload_n 1, 1), (18, .invokevirtual 168, 3), (21, .aload_n 0, 1), (22, .getfield 29, 3), (25, .bipush 6, 2)]
theorem aJ_257_1 : sx_iB prog_12_method_17_code aI_257_1 = true := by decide +kernel
def aI_257_2 : sx_IL := [(27, .iload_n 1, 1), (28, .iastore, 1), (29, .aload_n 0, 1), (30, .bipush 21, 2), (32, .aload_n 0, 1), (33, .getfield 43, 3)]
theorem aJ_257_2 : sx_iB prog_12_method_17_code aI_257_2 = true := by decide +kernel
def aI_257_3 : sx_IL := [(36, .getfield 199, 3), (39, .getfield 143, 3), (42, .iconst 0, 1), (43, .iconst 1, 1), (44, .invokevirtual 202, 3), (47, .return_, 1)]
theorem aJ_257_3 : sx_iB prog_12_method_17_code aI_257_3 = true := by decide +kernel
def aS_257 (pc : Nat) : sx_IL := (if pc < 27 then (if pc < 14 then aI_257_0 else aI_257_1) else (if pc < 36 then aI_257_2 else aI_257_3))
theorem aT_257 (pc : Nat) : sx_iOk prog_12_method_17_code (aS_257 pc) := (sx_ite (p := fun l => sx_iOk prog_12_method_17_code l) (sx_ite (p := fun l => sx_iOk prog_12_method_17_code l) (sx_iB_s aJ_257_0) (sx_iB_s aJ_257_1)) (sx_ite (p := fun l => sx_iOk prog_12_method_17_code l) (sx_iB_s aJ_257_2) (sx_iB_s aJ_257_3)))
def aW_257 : Nat → Option (Instr × Nat) := fun pc => sx_iF (aS_257 pc) pc
theorem aX_257 : ∀ pc i len, aW_257 pc = some (i, len) → decode aM_257.1.2.1 pc = .ok (i, len) := fun pc i len h => sx_iF_s (aT_257 pc) h
def aI_258_0 : sx_IL := [(0, .aload_n 0, 1), (1, .iload_n 1, 1), (2, .iload_n 2, 1), (3, .invokevirtual 336, 3), (6, .ifCond .eq 15, 3), (9, .iload_n 3, 1)]
theorem aJ_258_0 : sx_iB prog_1_method_51_code aI_258_0 = true := by decide +kernel
def aI_258_1 : sx_IL := [(10, .iconst 1, 1), (11, .if_icmp .lt 10, 3), (14, .iload_n 3, 1), (15, .sipush 8000, 3), (18, .if_icmp .le 5, 3), (21, .iconst (-1), 1)]
theorem aJ_258_1 : sx_iB prog_1_method_51_code aI_258_1 = true := by decide +kernel
def aI_258_2 : sx_IL := [(22, .ireturn, 1), (23, .aload_n 0, 1), (24, .iload_n 1, 1), (25, .iload_n 2, 1), (26, .invokevirtual 339, 3), (29, .astore 4, 2)]
theorem aJ_258_2 : sx_iB prog_1_method_51_code aI_258_2 = true := by decide +kernel
def aI_258_3 : sx_IL := [(31, .aload_n 0, 1), (32, .iload_n 1, 1), (33, .iconst 1, 1), (34, .iload_n 2, 1), (35, .isub, 1), (36, .invokevirtual 339, 3)]
theorem aJ_258_3 : sx_iB prog_1_method_51_code aI_258_3 = true := by decide +kernel
def aI_258_4 : sx_IL := [(39, .astore 5, 2), (41, .aload 5, 2), (43, .ifnull 20, 3), (46, .aload 5, 2), (48, .getfield 343, 3), (51, .getfield 69, 3)]
theorem aJ_258_4 : sx_iB prog_1_method_51_code aI_258_4 = true := by decide +kernel
def aI_258_5 : sx_IL := [(54, .sipush 4000, 3), (57, .if_icmp .le 6, 3), (60, .bipush (-3), 2), (62, .ireturn, 1), (63, .aload 4, 2), (65, .ifnonnull 7, 3)]
theorem aJ_258_5 : sx_iB prog_1_method_51_code aI_258_5 = true := by decide +kernel
def aI_258_6 : sx_IL := [(68, .iconst 0, 1), (69, .goto 15, 3), (72, .iload_n 3, 1), (73, .aload 4, 2), (75, .getfield 343, 3), (78, .getfield 69, 3)]
theorem aJ_258_6 : sx_iB prog_1_method_51_code aI_258_6 = true := by decide +kernel
def aI_258_7 : sx_IL := [(81, .invokestatic 349, 3), (84, .istore 6, 2), (86, .aload 5, 2), (88, .ifnonnull 46, 3), (91, .iload 6, 2), (93, .sipush 800, 3)]
theorem aJ_258_7 : sx_iB prog_1_method_51_code aI_258_7 = true := by decide +kernel
def aI_258_8 : sx_IL := [(96, .invokestatic 349, 3), (99, .istore 6, 2), (101, .aload_n 0, 1), (102, .getfield 25, 3), (105, .invokevirtual 108, 3), (108, .aload 4, 2)]
theorem aJ_258_8 : sx_iB prog_1_method_51_code aI_258_8 = true := by decide +kernel
def aI_258_9 : sx_IL := [(110, .ifnull 45, 3), (113, .aload_n 0, 1), (114, .getfield 25, 3), (117, .aload 4, 2), (119, .getfield 343, 3), (122, .getfield 80, 3)]
theorem aJ_258_9 : sx_iB prog_1_method_51_code aI_258_9 = true := by decide +kernel
def aI_258_10 : sx_IL := [(125, .iconst 0, 1), (126, .iload 6, 2), (128, .invokevirtual 83, 3), (131, .goto 24, 3), (134, .aload 4, 2), (136, .ifnull 19, 3)]
theorem aJ_258_10 : sx_iB prog_1_method_51_code aI_258_10 = true := by decide +kernel
def aI_258_11 : sx_IL := [(139, .aload 5, 2), (141, .aload 4, 2), (143, .getfield 343, 3), (146, .getfield 80, 3), (149, .iconst 0, 1), (150, .iload 6, 2)]
theorem aJ_258_11 : sx_iB prog_1_method_51_code aI_258_11 = true := by decide +kernel
def aI_258_12 : sx_IL := [(152, .invokevirtual 346, 3), (155, .aload 4, 2), (157, .ifnull 13, 3), (160, .aload 4, 2), (162, .getfield 343, 3), (165, .iload 6, 2)]
theorem aJ_258_12 : sx_iB prog_1_method_51_code aI_258_12 = true := by decide +kernel
def aI_258_13 : sx_IL := [(167, .invokevirtual 354, 3), (170, .iload 6, 2), (172, .ireturn, 1)]
theorem aJ_258_13 : sx_iB prog_1_method_51_code aI_258_13 = true := by decide +kernel
def aS_258 (pc : Nat) : sx_IL := (if pc < 81 then (if pc < 31 then (if pc < 10 then aI_258_0 else (if pc < 22 then aI_258_1 else aI_258_2)) else (if pc < 54 then (if pc < 39 then aI_258_3 else aI_258_4) else (if pc < 68 then aI_258_5 else aI_258_6))) else (if pc < 125 then (if pc < 96 then aI_258_7 else (if pc < 110 then aI_258_8 else aI_258_9)) else (if pc < 152 then (if pc < 139 then aI_258_10 else aI_258_11) else (if pc < 167 then aI_258_12 else aI_258_13))))
theorem aT_258 (pc : Nat) : sx_iOk prog_1_method_51_code (aS_258 pc) := (sx_ite (p := fun l => sx_iOk prog_1_method_51_code l) (sx_ite (p := fun l => sx_iOk prog_1_method_51_code l) (sx_ite (p := fun l => sx_iOk prog_1_method_51_code l) (sx_iB_s aJ_258_0) (sx_ite (p := fun l => sx_iOk prog_1_method_51_code l) (sx_iB_s aJ_258_1) (sx_iB_s aJ_258_2))) (sx_ite (p := fun l => sx_iOk prog_1_method_51_code l) (sx_ite (p := fun l => sx_iOk prog_1_method_51_code l) (sx_iB_s aJ_258_3) (sx_iB_s aJ_258_4)) (sx_ite (p := fun l => sx_iOk prog_1_method_51_code l) (sx_iB_s aJ_258_5) (sx_iB_s aJ_258_6)))) (sx_ite (p := fun l => sx_iOk prog_1_method_51_code l) (sx_ite (p := fun l => sx_iOk prog_1_method_51_code l) (sx_iB_s aJ_258_7) (sx_ite (p := fun l => sx_iOk prog_1_method_51_code l) (sx_iB_s aJ_258_8) (sx_iB_s aJ_258_9))) (sx_ite (p := fun l => sx_iOk prog_1_method_51_code l) (sx_ite (p := fun l => sx_iOk prog_1_method_51_code l) (sx_iB_s aJ_258_10) (sx_iB_s aJ_258_11)) (sx_ite (p := fun l => sx_iOk prog_1_method_51_code l) (sx_iB_s aJ_258_12) (sx_iB_s aJ_258_13)))))
def aW_258 : Nat → Option (Instr × Nat) := fun pc => sx_iF (aS_258 pc) pc
theorem aX_258 : ∀ pc i len, aW_258 pc = some (i, len) → decode aM_258.1.2.1 pc = .ok (i, len) := fun pc i len h => sx_iF_s (aT_258 pc) h
def aI_259_0 : sx_IL := [(0, .aload_n 0, 1), (1, .iload_n 1, 1), (2, .iload_n 2, 1), (3, .invokevirtual 339, 3), (6, .astore 4, 2), (8, .aload 4, 2)]
theorem aJ_259_0 : sx_iB prog_1_method_52_code aI_259_0 = true := by decide +kernel
def aI_259_1 : sx_IL := [(10, .ifnonnull 7, 3), (13, .iconst 0, 1), (14, .goto 11, 3), (17, .aload 4, 2), (19, .getfield 343, 3), (22, .getfield 69, 3)]
theorem aJ_259_1 : sx_iB prog_1_method_52_code aI_259_1 = true := by decide +kernel
def aI_259_2 : sx_IL := [(25, .istore 5, 2), (27, .aload_n 0, 1), (28, .iload_n 1, 1), (29, .iload_n 2, 1), (30, .invokevirtual 336, 3), (33, .ifCond .eq 14, 3)]
theorem aJ_259_2 : sx_iB prog_1_method_52_code aI_259_2 = true := by decide +kernel
def aI_259_3 : sx_IL := [(36, .iload_n 3, 1), (37, .iconst (-1), 1), (38, .if_icmp .lt 9, 3), (41, .iload_n 3, 1), (42, .iload 5, 2), (44, .if_icmp .lt 5, 3)]
theorem aJ_259_3 : sx_iB prog_1_method_52_code aI_259_3 = true := by decide +kernel
def aI_259_4 : sx_IL := [(47, .iconst (-1), 1), (48, .ireturn, 1), (49, .iload_n 3, 1), (50, .iconst (-1), 1), (51, .if_icmp .eq 8, 3), (54, .aload 4, 2)]
theorem aJ_259_4 : sx_iB prog_1_method_52_code aI_259_4 = true := by decide +kernel
def aI_259_5 : sx_IL := [(56, .ifnonnull 8, 3), (59, .iload 5, 2), (61, .goto 12, 3), (64, .aload 4, 2), (66, .getfield 343, 3), (69, .iload_n 3, 1)]
theorem aJ_259_5 : sx_iB prog_1_method_52_code aI_259_5 = true := by decide +kernel
def aI_259_6 : sx_IL := [(70, .invokevirtual 76, 3), (73, .ireturn, 1)]
theorem aJ_259_6 : sx_iB prog_1_method_52_code aI_259_6 = true := by decide +kernel
def aS_259 (pc : Nat) : sx_IL := (if pc < 36 then (if pc < 10 then aI_259_0 else (if pc < 25 then aI_259_1 else aI_259_2)) else (if pc < 56 then (if pc < 47 then aI_259_3 else aI_259_4) else (if pc < 70 then aI_259_5 else aI_259_6)))
theorem aT_259 (pc : Nat) : sx_iOk prog_1_method_52_code (aS_259 pc) := (sx_ite (p := fun l => sx_iOk prog_1_method_52_code l) (sx_ite (p := fun l => sx_iOk prog_1_method_52_code l) (sx_iB_s aJ_259_0) (sx_ite (p := fun l => sx_iOk prog_1_method_52_code l) (sx_iB_s aJ_259_1) (sx_iB_s aJ_259_2))) (sx_ite (p := fun l => sx_iOk prog_1_method_52_code l) (sx_ite (p := fun l => sx_iOk prog_1_method_52_code l) (sx_iB_s aJ_259_3) (sx_iB_s aJ_259_4)) (sx_ite (p := fun l => sx_iOk prog_1_method_52_code l) (sx_iB_s aJ_259_5) (sx_iB_s aJ_259_6))))
def aW_259 : Nat → Option (Instr × Nat) := fun pc => sx_iF (aS_259 pc) pc
theorem aX_259 : ∀ pc i len, aW_259 pc = some (i, len) → decode aM_259.1.2.1 pc = .ok (i, len) := fun pc i len h => sx_iF_s (aT_259 pc) h
def aI_260_0 : sx_IL := [(0, .aload_n 0, 1), (1, .iload_n 1, 1), (2, .iload_n 2, 1), (3, .invokevirtual 339, 3), (6, .astore 5, 2), (8, .aload 5, 2)]
theorem aJ_260_0 : sx_iB prog_1_method_53_code aI_260_0 = true := by decide +kernel
def aI_260_1 : sx_IL := [(10, .ifnull 33, 3), (13, .iload_n 3, 1), (14, .ifCond .lt 29, 3), (17, .iload_n 3, 1), (18, .aload 5, 2), (20, .getfield 343, 3)]
theorem aJ_260_1 : sx_iB prog_1_method_53_code aI_260_1 = true := by decide +kernel
def aI_260_2 : sx_IL := [(23, .getfield 69, 3), (26, .if_icmp .ge 17, 3), (29, .iload 4, 2), (31, .iconst 1, 1), (32, .if_icmp .lt 11, 3), (35, .iload 4, 2)]
theorem aJ_260_2 : sx_iB prog_1_method_53_code aI_260_2 = true := by decide +kernel
def aI_260_3 : sx_IL := [(37, .sipush 255, 3), (40, .if_icmp .le 5, 3), (43, .iconst (-1), 1), (44, .ireturn, 1), (45, .aload 5, 2), (47, .getfield 343, 3)]
theorem aJ_260_3 : sx_iB prog_1_method_53_code aI_260_3 = true := by decide +kernel
def aI_260_4 : sx_IL := [(50, .getfield 80, 3), (53, .iload_n 3, 1), (54, .dup2, 1), (55, .iaload, 1), (56, .iload 4, 2), (58, .ixor, 1)]
theorem aJ_260_4 : sx_iB prog_1_method_53_code aI_260_4 = true := by decide +kernel
def aI_260_5 : sx_IL := [(59, .iastore, 1), (60, .aload 5, 2), (62, .getfield 343, 3), (65, .iload_n 3, 1), (66, .invokevirtual 76, 3), (69, .ireturn, 1)]
theorem aJ_260_5 : sx_iB prog_1_method_53_code aI_260_5 = true := by decide +kernel
def aS_260 (pc : Nat) : sx_IL := (if pc < 37 then (if pc < 10 then aI_260_0 else (if pc < 23 then aI_260_1 else aI_260_2)) else (if pc < 50 then aI_260_3 else (if pc < 59 then aI_260_4 else aI_260_5)))
theorem aT_260 (pc : Nat) : sx_iOk prog_1_method_53_code (aS_260 pc) := (sx_ite (p := fun l => sx_iOk prog_1_method_53_code l) (sx_ite (p := fun l => sx_iOk prog_1_method_53_code l) (sx_iB_s aJ_260_0) (sx_ite (p := fun l => sx_iOk prog_1_method_53_code l) (sx_iB_s aJ_260_1) (sx_iB_s aJ_260_2))) (sx_ite (p := fun l => sx_iOk prog_1_method_53_code l) (sx_iB_s aJ_260_3) (sx_ite (p := fun l => sx_iOk prog_1_method_53_code l) (sx_iB_s aJ_260_4) (sx_iB_s aJ_260_5))))
def aW_260 : Nat → Option (Instr × Nat) := fun pc => sx_iF (aS_260 pc) pc
theorem aX_260 : ∀ pc i len, aW_260 pc = some (i, len) → decode aM_260.1.2.1 pc = .ok (i, len) := fun pc i len h => sx_iF_s (aT_260 pc) h
def aI_261_0 : sx_IL := [(0, .aload_n 0, 1), (1, .iload_n 1, 1), (2, .iload_n 2, 1), (3, .invokevirtual 336, 3), (6, .ifCond .ne 5, 3), (9, .iconst (-1), 1)]
theorem aJ_261_0 : sx_iB prog_1_method_54_code aI_261_0 = true := by decide +kernel
def aI_261_1 : sx_IL := [(10, .ireturn, 1), (11, .aload_n 0, 1), (12, .iload_n 1, 1), (13, .iload_n 2, 1), (14, .invokevirtual 339, 3), (17, .astore_n 3, 1)]
theorem aJ_261_1 : sx_iB prog_1_method_54_code aI_261_1 = true := by decide +kernel
def aI_261_2 : sx_IL := [(18, .aload_n 3, 1), (19, .ifnull 10, 3), (22, .aload_n 3, 1), (23, .invokevirtual 357, 3), (26, .ifCond .ne 6, 3), (29, .bipush (-2), 2)]
theorem aJ_261_2 : sx_iB prog_1_method_54_code aI_261_2 = true := by decide +kernel
def aI_261_3 : sx_IL := [(31, .ireturn, 1), (32, .aload_n 3, 1), (33, .getfield 343, 3), (36, .getfield 69, 3), (39, .sipush 2000, 3), (42, .if_icmp .le 6, 3)]
theorem aJ_261_3 : sx_iB prog_1_method_54_code aI_261_3 = true := by decide +kernel
def aI_261_4 : sx_IL := [(45, .bipush (-3), 2), (47, .ireturn, 1), (48, .aload_n 0, 1), (49, .getfield 21, 3), (52, .getfield 69, 3), (55, .istore 4, 2)]
theorem aJ_261_4 : sx_iB prog_1_method_54_code aI_261_4 = true := by decide +kernel
def aI_261_5 : sx_IL := [(57, .aload_n 3, 1), (58, .bipush 23, 2), (60, .aload_n 0, 1), (61, .getfield 21, 3), (64, .getfield 80, 3), (67, .iconst 0, 1)]
theorem aJ_261_5 : sx_iB prog_1_method_54_code aI_261_5 = true := by decide +kernel
def aI_261_6 : sx_IL := [(68, .iload 4, 2), (70, .invokevirtual 361, 3), (73, .aload_n 0, 1), (74, .getfield 21, 3), (77, .invokevirtual 108, 3), (80, .iload 4, 2)]
theorem aJ_261_6 : sx_iB prog_1_method_54_code aI_261_6 = true := by decide +kernel
def aI_261_7 : sx_IL := [(82, .ireturn, 1)]
theorem aJ_261_7 : sx_iB prog_1_method_54_code aI_261_7 = true := by decide +kernel
def aS_261 (pc : Nat) : sx_IL := (if pc < 45 then (if pc < 18 then (if pc < 10 then aI_261_0 else aI_261_1) else (if pc < 31 then aI_261_2 else aI_261_3)) else (if pc < 68 then (if pc < 57 then aI_261_4 else aI_261_5) else (if pc < 82 then aI_261_6 else aI_261_7)))
theorem aT_261 (pc : Nat) : sx_iOk prog_1_method_54_code (aS_261 pc) := (sx_ite (p := fun l => sx_iOk prog_1_method_54_code l) (sx_ite (p := fun l => sx_iOk prog_1_method_54_code l) (sx_ite (p := fun l => sx_iOk prog_1_method_54_code l) (sx_iB_s aJ_261_0) (sx_iB_s aJ_261_1)) (sx_ite (p := fun l => sx_iOk prog_1_method_54_code l) (sx_iB_s aJ_261_2) (sx_iB_s aJ_261_3))) (sx_ite (p := fun l => sx_iOk prog_1_method_54_code l) (sx_ite (p := fun l => sx_iOk prog_1_method_54_code l) (sx_iB_s aJ_261_4) (sx_iB_s aJ_261_5)) (sx_ite (p := fun l => sx_iOk prog_1_method_54_code l) (sx_iB_s aJ_261_6) (sx_iB_s aJ_261_7))))
def aW_261 : Nat → Option (Instr × Nat) := fun pc => sx_iF (aS_261 pc) pc
theorem aX_261 : ∀ pc i len, aW_261 pc = some (i, len) → decode aM_261.1.2.1 pc = .ok (i, len) := fun pc i len h => sx_iF_s (aT_261 pc) h
def aI_262_0 : sx_IL := [(0, .aload_n 0, 1), (1, .getfield 29, 3), (4, .iconst 0, 1), (5, .iaload, 1), (6, .iconst 1, 1), (7, .if_icmp .ne 17, 3)]
theorem aJ_262_0 : sx_iB prog_12_method_7_code aI_262_0 = true := by decide +kernel
def aI_262_1 : sx_IL := [(10, .aload_n 0, 1), (11, .getfield 29, 3), (14, .bipush 8, 2), (16, .iaload, 1), (17, .ifCond .ne 7, 3), (20, .iconst 1, 1)]
theorem aJ_262_1 : sx_iB prog_12_method_7_code aI_262_1 = true := by decide +kernel
def aI_262_2 : sx_IL := [(21, .goto 4, 3), (24, .iconst 0, 1), (25, .ireturn, 1)]
theorem aJ_262_2 : sx_iB prog_12_method_7_code aI_262_2 = true := by decide +kernel
def aS_262 (pc : Nat) : sx_IL := (if pc < 10 then aI_262_0 else (if pc < 21 then aI_262_1 else aI_262_2))
theorem aT_262 (pc : Nat) : sx_iOk prog_12_method_7_code (aS_262 pc) := (sx_ite (p := fun l => sx_iOk prog_12_method_7_code l) (sx_iB_s aJ_262_0) (sx_ite (p := fun l => sx_iOk prog_12_method_7_code l) (sx_iB_s aJ_262_1) (sx_iB_s aJ_262_2)))
def aW_262 : Nat → Option (Instr × Nat) := fun pc => sx_iF (aS_262 pc) pc
theorem aX_262 : ∀ pc i len, aW_262 pc = some (i, len) → decode aM_262.1.2.1 pc = .ok (i, len) := fun pc i len h => sx_iF_s (aT_262 pc) h
def aI_263_0 : sx_IL := [(0, .aload_n 0, 1), (1, .iload_n 1, 1), (2, .iload_n 2, 1), (3, .invokevirtual 339, 3), (6, .astore_n 3, 1), (7, .aload_n 3, 1)]
theorem aJ_263_0 : sx_iB prog_1_method_55_code aI_263_0 = true := by decide +kernel
def aI_263_1 : sx_IL := [(8, .ifnonnull 7, 3), (11, .iconst (-1), 1), (12, .goto 7, 3), (15, .aload_n 3, 1), (16, .invokevirtual 364, 3), (19, .ireturn, 1)]
theorem aJ_263_1 : sx_iB prog_1_method_55_code aI_263_1 = true := by decide +kernel
def aS_263 (pc : Nat) : sx_IL := (if pc < 8 then aI_263_0 else aI_263_1)
theorem aT_263 (pc : Nat) : sx_iOk prog_1_method_55_code (aS_263 pc) := (sx_ite (p := fun l => sx_iOk prog_1_method_55_code l) (sx_iB_s aJ_263_0) (sx_iB_s aJ_263_1))
def aW_263 : Nat → Option (Instr × Nat) := fun pc => sx_iF (aS_263 pc) pc
theorem aX_263 : ∀ pc i len, aW_263 pc = some (i, len) → decode aM_263.1.2.1 pc = .ok (i, len) := fun pc i len h => sx_iF_s (aT_263 pc) h
def aI_264_0 : sx_IL := [(0, .aload_n 0, 1), (1, .getfield 26, 3), (4, .getfield 55, 3), (7, .ifCond .ne 37, 3), (10, .aload_n 0, 1), (11, .getfield 29, 3)]
theorem aJ_264_0 : sx_iB prog_12_method_8_code aI_264_0 = true := by decide +kernel
def aI_264_1 : sx_IL := [(14, .bipush 9, 2), (16, .iaload, 1), (17, .iconst 1, 1), (18, .if_icmp .ne 8, 3), (21, .bipush (-11), 2), (23, .goto 20, 3)]
theorem aJ_264_1 : sx_iB prog_12_method_8_code aI_264_1 = true := by decide +kernel
def aI_264_2 : sx_IL := [(26, .aload_n 0, 1), (27, .getfield 29, 3), (30, .iconst 0, 1), (31, .iaload, 1), (32, .iconst 2, 1), (33, .if_icmp .ne 8, 3)]
theorem aJ_264_2 : sx_iB prog_12_method_8_code aI_264_2 = true := by decide +kernel
def aI_264_3 : sx_IL := [(36, .bipush (-12), 2), (38, .goto 5, 3), (41, .bipush (-10), 2), (43, .ireturn, 1), (44, .aload_n 0, 1), (45, .getfield 26, 3)]
theorem aJ_264_3 : sx_iB prog_12_method_8_code aI_264_3 = true := by decide +kernel
def aI_264_4 : sx_IL := [(48, .iconst 0, 1), (49, .invokevirtual 59, 3), (52, .istore_n 1, 1), (53, .aload_n 0, 1), (54, .getfield 26, 3), (57, .iconst 1, 1)]
theorem aJ_264_4 : sx_iB prog_12_method_8_code aI_264_4 = true := by decide +kernel
def aI_264_5 : sx_IL := [(58, .invokevirtual 63, 3), (61, .iload_n 1, 1), (62, .ireturn, 1)]
theorem aJ_264_5 : sx_iB prog_12_method_8_code aI_264_5 = true := by decide +kernel
def aS_264 (pc : Nat) : sx_IL := (if pc < 36 then (if pc < 14 then aI_264_0 else (if pc < 26 then aI_264_1 else aI_264_2)) else (if pc < 48 then aI_264_3 else (if pc < 58 then aI_264_4 else aI_264_5)))
theorem aT_264 (pc : Nat) : sx_iOk prog_12_method_8_code (aS_264 pc) := (sx_ite (p := fun l => sx_iOk prog_12_method_8_code l) (sx_ite (p := fun l => sx_iOk prog_12_method_8_code l) (sx_iB_s aJ_264_0) (sx_ite (p := fun l => sx_iOk prog_12_method_8_code l) (sx_iB_s aJ_264_1) (sx_iB_s aJ_264_2))) (sx_ite (p := fun l => sx_iOk prog_12_method_8_code l) (sx_iB_s aJ_264_3) (sx_ite (p := fun l => sx_iOk prog_12_method_8_code l) (sx_iB_s aJ_264_4) (sx_iB_s aJ_264_5))))
def aW_264 : Nat → Option (Instr × Nat) := fun pc => sx_iF (aS_264 pc) pc
theorem aX_264 : ∀ pc i len, aW_264 pc = some (i, len) → decode aM_264.1.2.1 pc = .ok (i, len) := fun pc i len h => sx_iF_s (aT_264 pc) h
def aI_265_0 : sx_IL := [(0, .aload_n 0, 1), (1, .iload_n 1, 1), (2, .iload_n 2, 1), (3, .invokevirtual 336, 3), (6, .ifCond .ne 5, 3), (9, .iconst (-1), 1)]
theorem aJ_265_0 : sx_iB prog_1_method_56_code aI_265_0 = true := by decide +kernel
def aI_265_1 : sx_IL := [(10, .ireturn, 1), (11, .aload_n 0, 1), (12, .iload_n 1, 1), (13, .iload_n 2, 1), (14, .invokevirtual 339, 3), (17, .astore_n 3, 1)]
theorem aJ_265_1 : sx_iB prog_1_method_56_code aI_265_1 = true := by decide +kernel
def aI_265_2 : sx_IL := [(18, .aload_n 3, 1), (19, .ifnull 10, 3), (22, .aload_n 3, 1), (23, .invokevirtual 357, 3), (26, .ifCond .ne 6, 3), (29, .bipush (-2), 2)]
theorem aJ_265_2 : sx_iB prog_1_method_56_code aI_265_2 = true := by decide +kernel
def aI_265_3 : sx_IL := [(31, .ireturn, 1), (32, .aload_n 3, 1), (33, .iconst 0, 1), (34, .invokevirtual 368, 3), (37, .aload_n 3, 1), (38, .getfield 371, 3)]
theorem aJ_265_3 : sx_iB prog_1_method_56_code aI_265_3 = true := by decide +kernel
def aI_265_4 : sx_IL := [(41, .bipush 8, 2), (43, .iconst 1, 1), (44, .iastore, 1), (45, .iconst 1, 1), (46, .ireturn, 1)]
theorem aJ_265_4 : sx_iB prog_1_method_56_code aI_265_4 = true := by decide +kernel
def aS_265 (pc : Nat) : sx_IL := (if pc < 18 then (if pc < 10 then aI_265_0 else aI_265_1) else (if pc < 31 then aI_265_2 else (if pc < 41 then aI_265_3 else aI_265_4)))
theorem aT_265 (pc : Nat) : sx_iOk prog_1_method_56_code (aS_265 pc) := (sx_ite (p := fun l => sx_iOk prog_1_method_56_code l) (sx_ite (p := fun l => sx_iOk prog_1_method_56_code l) (sx_iB_s aJ_265_0) (sx_iB_s aJ_265_1)) (sx_ite (p := fun l => sx_iOk prog_1_method_56_code l) (sx_iB_s aJ_265_2) (sx_ite (p := fun l => sx_iOk prog_1_method_56_code l) (sx_iB_s aJ_265_3) (sx_iB_s aJ_265_4))))
def aW_265 : Nat → Option (Instr × Nat) := fun pc => sx_iF (aS_265 pc) pc
theorem aX_265 : ∀ pc i len, aW_265 pc = some (i, len) → decode aM_265.1.2.1 pc = .ok (i, len) := fun pc i len h => sx_iF_s (aT_265 pc) h
def aI_266_0 : sx_IL := [(0, .aload_n 0, 1), (1, .iload_n 1, 1), (2, .iload_n 2, 1), (3, .invokevirtual 336, 3), (6, .ifCond .eq 12, 3), (9, .iload_n 3, 1)]
theorem aJ_266_0 : sx_iB prog_1_method_57_code aI_266_0 = true := by decide +kernel
def aI_266_1 : sx_IL := [(10, .ifCond .eq 10, 3), (13, .iload_n 3, 1), (14, .iconst 1, 1), (15, .if_icmp .eq 5, 3), (18, .iconst (-1), 1), (19, .ireturn, 1)]
theorem aJ_266_1 : sx_iB prog_1_method_57_code aI_266_1 = true := by decide +kernel
def aI_266_2 : sx_IL := [(20, .aload_n 0, 1), (21, .iload_n 1, 1), (22, .iload_n 2, 1), (23, .invokevirtual 339, 3), (26, .astore 4, 2), (28, .aload 4, 2)]
theorem aJ_266_2 : sx_iB prog_1_method_57_code aI_266_2 = true := by decide +kernel
def aI_266_3 : sx_IL := [(30, .ifnull 11, 3), (33, .aload 4, 2), (35, .invokevirtual 357, 3), (38, .ifCond .ne 6, 3), (41, .bipush (-2), 2), (43, .ireturn, 1)]
theorem aJ_266_3 : sx_iB prog_1_method_57_code aI_266_3 = true := by decide +kernel
def aI_266_4 : sx_IL := [(44, .aload 4, 2), (46, .getfield 343, 3), (49, .getfield 69, 3), (52, .sipush 2000, 3), (55, .if_icmp .le 6, 3), (58, .bipush (-3), 2)]
theorem aJ_266_4 : sx_iB prog_1_method_57_code aI_266_4 = true := by decide +kernel
def aI_266_5 : sx_IL := [(60, .ireturn, 1), (61, .aload 4, 2), (63, .iload_n 3, 1), (64, .invokevirtual 374, 3), (67, .aload 4, 2), (69, .invokevirtual 377, 3)]
theorem aJ_266_5 : sx_iB prog_1_method_57_code aI_266_5 = true := by decide +kernel
def aI_266_6 : sx_IL := [(72, .aload 4, 2), (74, .invokevirtual 380, 3), (77, .iconst 1, 1), (78, .ireturn, 1)]
theorem aJ_266_6 : sx_iB prog_1_method_57_code aI_266_6 = true := by decide +kernel
def aS_266 (pc : Nat) : sx_IL := (if pc < 30 then (if pc < 10 then aI_266_0 else (if pc < 20 then aI_266_1 else aI_266_2)) else (if pc < 60 then (if pc < 44 then aI_266_3 else aI_266_4) else (if pc < 72 then aI_266_5 else aI_266_6)))
theorem aT_266 (pc : Nat) : sx_iOk prog_1_method_57_code (aS_266 pc) := (sx_ite (p := fun l => sx_iOk prog_1_method_57_code l) (sx_ite (p := fun l => sx_iOk prog_1_method_57_code l) (sx_iB_s aJ_266_0) (sx_ite (p := fun l => sx_iOk prog_1_method_57_code l) (sx_iB_s aJ_266_1) (sx_iB_s aJ_266_2))) (sx_ite (p := fun l => sx_iOk prog_1_method_57_code l) (sx_ite (p := fun l => sx_iOk prog_1_method_57_code l) (sx_iB_s aJ_266_3) (sx_iB_s aJ_266_4)) (sx_ite (p := fun l => sx_iOk prog_1_method_57_code l) (sx_iB_s aJ_266_5) (sx_iB_s aJ_266_6))))
def aW_266 : Nat → Option (Instr × Nat) := fun pc => sx_iF (aS_266 pc) pc
theorem aX_266 : ∀ pc i len, aW_266 pc = some (i, len) → decode aM_266.1.2.1 pc = .ok (i, len) := fun pc i len h => sx_iF_s (aT_266 pc) h
def aI_267_0 : sx_IL := [(0, .aload_n 0, 1), (1, .iload_n 1, 1), (2, .iload_n 2, 1), (3, .invokevirtual 339, 3), (6, .astore 4, 2), (8, .aload 4, 2)]
theorem aJ_267_0 : sx_iB prog_1_method_58_code aI_267_0 = true := by decide +kernel
def aI_267_1 : sx_IL := [(10, .ifnull 17, 3), (13, .iload_n 3, 1), (14, .ifCond .lt 13, 3), (17, .iload_n 3, 1), (18, .aload 4, 2), (20, .getfield 371, 3)]
theorem aJ_267_1 : sx_iB prog_1_method_58_code aI_267_1 = true := by decide +kernel
def aI_267_2 : sx_IL := [(23, .arraylength, 1), (24, .if_icmp .lt 5, 3), (27, .iconst (-1), 1), (28, .ireturn, 1), (29, .aload 4, 2), (31, .getfield 371, 3)]
theorem aJ_267_2 : sx_iB prog_1_method_58_code aI_267_2 = true := by decide +kernel
def aI_267_3 : sx_IL := [(34, .iload_n 3, 1), (35, .iaload, 1), (36, .ireturn, 1)]
theorem aJ_267_3 : sx_iB prog_1_method_58_code aI_267_3 = true := by decide +kernel
def aS_267 (pc : Nat) : sx_IL := (if pc < 23 then (if pc < 10 then aI_267_0 else aI_267_1) else (if pc < 34 then aI_267_2 else aI_267_3))
theorem aT_267 (pc : Nat) : sx_iOk prog_1_method_58_code (aS_267 pc) := (sx_ite (p := fun l => sx_iOk prog_1_method_58_code l) (sx_ite (p := fun l => sx_iOk prog_1_method_58_code l) (sx_iB_s aJ_267_0) (sx_iB_s aJ_267_1)) (sx_ite (p := fun l => sx_iOk prog_1_method_58_code l) (sx_iB_s aJ_267_2) (sx_iB_s aJ_267_3)))
def aW_267 : Nat → Option (Instr × Nat) := fun pc => sx_iF (aS_267 pc) pc
theorem aX_267 : ∀ pc i len, aW_267 pc = some (i, len) → decode aM_267.1.2.1 pc = .ok (i, len) := fun pc i len h => sx_iF_s (aT_267 pc) h
def aI_268_0 : sx_IL := [(0, .aload_n 0, 1), (1, .iload_n 1, 1), (2, .iload_n 2, 1), (3, .invokevirtual 339, 3), (6, .astore 4, 2), (8, .aload 4, 2)]
theorem aJ_268_0 : sx_iB prog_1_method_59_code aI_268_0 = true := by decide +kernel
def aI_268_1 : sx_IL := [(10, .ifnull 13, 3), (13, .iload_n 3, 1), (14, .ifCond .lt 9, 3), (17, .iload_n 3, 1), (18, .bipush 7, 2), (20, .if_icmp .le 7, 3)]
theorem aJ_268_1 : sx_iB prog_1_method_59_code aI_268_1 = true := by decide +kernel
def aI_268_2 : sx_IL := [(23, .ldc2_w 96, 3), (26, .lreturn, 1), (27, .iload_n 3, 1), (28, .bipush 7, 2), (30, .if_icmp .ne 11, 3), (33, .aload 4, 2)]
theorem aJ_268_2 : sx_iB prog_1_method_59_code aI_268_2 = true := by decide +kernel
def aI_268_3 : sx_IL := [(35, .invokevirtual 383, 3), (38, .goto 10, 3), (41, .aload 4, 2), (43, .getfield 387, 3), (46, .iload_n 3, 1), (47, .laload, 1)]
theorem aJ_268_3 : sx_iB prog_1_method_59_code aI_268_3 = true := by decide +kernel
def aI_268_4 : sx_IL := [(48, .lreturn, 1)]
theorem aJ_268_4 : sx_iB prog_1_method_59_code aI_268_4 = true := by decide +kernel
def aS_268 (pc : Nat) : sx_IL := (if pc < 23 then (if pc < 10 then aI_268_0 else aI_268_1) else (if pc < 35 then aI_268_2 else (if pc < 48 then aI_268_3 else aI_268_4)))
theorem aT_268 (pc : Nat) : sx_iOk prog_1_method_59_code (aS_268 pc) := (sx_ite (p := fun l => sx_iOk prog_1_method_59_code l) (sx_ite (p := fun l => sx_iOk prog_1_method_59_code l) (sx_iB_s aJ_268_0) (sx_iB_s aJ_268_1)) (sx_ite (p := fun l => sx_iOk prog_1_method_59_code l) (sx_iB_s aJ_268_2) (sx_ite (p := fun l => sx_iOk prog_1_method_59_code l) (sx_iB_s aJ_268_3) (sx_iB_s aJ_268_4))))
def aW_268 : Nat → Option (Instr × Nat) := fun pc => sx_iF (aS_268 pc) pc
theorem aX_268 : ∀ pc i len, aW_268 pc = some (i, len) → decode aM_268.1.2.1 pc = .ok (i, len) := fun pc i len h => sx_iF_s (aT_268 pc) h
def aI_269_0 : sx_IL := [(0, .aload_n 0, 1), (1, .iload_n 1, 1), (2, .iload_n 2, 1), (3, .invokevirtual 339, 3), (6, .astore_n 3, 1), (7, .aload_n 3, 1)]
theorem aJ_269_0 : sx_iB prog_1_method_60_code aI_269_0 = true := by decide +kernel
def aI_269_1 : sx_IL := [(8, .ifnonnull 7, 3), (11, .ldc2_w 96, 3), (14, .lreturn, 1), (15, .lconst 0, 1), (16, .lstore 4, 2), (18, .aload_n 3, 1)]
theorem aJ_269_1 : sx_iB prog_1_method_60_code aI_269_1 = true := by decide +kernel
def aI_269_2 : sx_IL := [(19, .getfield 390, 3), (22, .ifCond .eq 67, 3), (25, .aload_n 3, 1), (26, .getfield 371, 3), (29, .iconst 1, 1), (30, .iaload, 1)]
theorem aJ_269_2 : sx_iB prog_1_method_60_code aI_269_2 = true := by decide +kernel
def aI_269_3 : sx_IL := [(31, .invokestatic 119, 3), (34, .istore 6, 2), (36, .aload_n 0, 1), (37, .getfield 10, 3), (40, .getfield 98, 3), (43, .iload 6, 2)]
theorem aJ_269_3 : sx_iB prog_1_method_60_code aI_269_3 = true := by decide +kernel
def aI_269_4 : sx_IL := [(45, .aload_n 0, 1), (46, .getfield 21, 3), (49, .getfield 80, 3), (52, .iconst 0, 1), (53, .aload_n 0, 1), (54, .getfield 21, 3)]
theorem aJ_269_4 : sx_iB prog_1_method_60_code aI_269_4 = true := by decide +kernel
def aI_269_5 : sx_IL := [(57, .getfield 69, 3), (60, .invokevirtual 102, 3), (63, .lstore 7, 2), (65, .aload_n 0, 1), (66, .getfield 10, 3), (69, .getfield 98, 3)]
theorem aJ_269_5 : sx_iB prog_1_method_60_code aI_269_5 = true := by decide +kernel
def aI_269_6 : sx_IL := [(72, .iload 6, 2), (74, .aload_n 3, 1), (75, .getfield 387, 3), (78, .iconst 5, 1), (79, .laload, 1), (80, .bipush 121, 2)]
theorem aJ_269_6 : sx_iB prog_1_method_60_code aI_269_6 = true := by decide +kernel
def aI_269_7 : sx_IL := [(82, .lload 7, 2), (84, .invokevirtual 115, 3), (87, .lstore 4, 2), (89, .aload_n 0, 1), (90, .getfield 21, 3), (93, .invokevirtual 108, 3)]
theorem aJ_269_7 : sx_iB prog_1_method_60_code aI_269_7 = true := by decide +kernel
def aI_269_8 : sx_IL := [(96, .lload 4, 2), (98, .lreturn, 1)]
theorem aJ_269_8 : sx_iB prog_1_method_60_code aI_269_8 = true := by decide +kernel
def aS_269 (pc : Nat) : sx_IL := (if pc < 45 then (if pc < 19 then (if pc < 8 then aI_269_0 else aI_269_1) else (if pc < 31 then aI_269_2 else aI_269_3)) else (if pc < 72 then (if pc < 57 then aI_269_4 else aI_269_5) else (if pc < 82 then aI_269_6 else (if pc < 96 then aI_269_7 else aI_269_8))))
theorem aT_269 (pc : Nat) : sx_iOk prog_1_method_60_code (aS_269 pc) := (sx_ite (p := fun l => sx_iOk prog_1_method_60_code l) (sx_ite (p := fun l => sx_iOk prog_1_method_60_code l) (sx_ite (p := fun l => sx_iOk prog_1_method_60_code l) (sx_iB_s aJ_269_0) (sx_iB_s aJ_269_1)) (sx_ite (p := fun l => sx_iOk prog_1_method_60_code l) (sx_iB_s aJ_269_2) (sx_iB_s aJ_269_3))) (sx_ite (p := fun l => sx_iOk prog_1_method_60_code l) (sx_ite (p := fun l => sx_iOk prog_1_method_60_code l) (sx_iB_s aJ_269_4) (sx_iB_s aJ_269_5)) (sx_ite (p := fun l => sx_iOk prog_1_method_60_code l) (sx_iB_s aJ_269_6) (sx_ite (p := fun l => sx_iOk prog_1_method_60_code l) (sx_iB_s aJ_269_7) (sx_iB_s aJ_269_8)))))
def aW_269 : Nat → Option (Instr × Nat) := fun pc => sx_iF (aS_269 pc) pc
theorem aX_269 : ∀ pc i len, aW_269 pc = some (i, len) → decode aM_269.1.2.1 pc = .ok (i, len) := fun pc i len h => sx_iF_s (aT_269 pc) h
def aI_270_0 : sx_IL := [(0, .aload_n 0, 1), (1, .iload_n 1, 1), (2, .invokevirtual 193, 3), (5, .ifCond .eq 17, 3), (8, .iload_n 2, 1), (9, .invokestatic 149, 3)]
theorem aJ_270_0 : sx_iB prog_1_method_61_code aI_270_0 = true := by decide +kernel
def aI_270_1 : sx_IL := [(12, .ifCond .eq 10, 3), (15, .iload_n 3, 1), (16, .invokestatic 155, 3), (19, .ifCond .ne 5, 3), (22, .iconst (-1), 1), (23, .ireturn, 1)]
theorem aJ_270_1 : sx_iB prog_1_method_61_code aI_270_1 = true := by decide +kernel
def aI_270_2 : sx_IL := [(24, .aload_n 0, 1), (25, .getfield 10, 3), (28, .getfield 196, 3), (31, .iload_n 1, 1), (32, .aaload, 1), (33, .astore 4, 2)]
theorem aJ_270_2 : sx_iB prog_1_method_61_code aI_270_2 = true := by decide +kernel
def aI_270_3 : sx_IL := [(35, .aload 4, 2), (37, .getfield 200, 3), (40, .iconst 5, 1), (41, .iaload, 1), (42, .ifCond .eq 24, 3), (45, .aload 4, 2)]
theorem aJ_270_3 : sx_iB prog_1_method_61_code aI_270_3 = true := by decide +kernel
def aI_270_4 : sx_IL := [(47, .getfield 200, 3), (50, .iconst 4, 1), (51, .iaload, 1), (52, .aload_n 0, 1), (53, .getfield 10, 3), (56, .getfield 98, 3)]
theorem aJ_270_4 : sx_iB prog_1_method_61_code aI_270_4 = true := by decide +kernel
def aI_270_5 : sx_IL := [(59, .iload_n 2, 1), (60, .invokevirtual 152, 3), (63, .if_icmp .eq 6, 3), (66, .bipush (-2), 2), (68, .ireturn, 1), (69, .aload_n 0, 1)]
theorem aJ_270_5 : sx_iB prog_1_method_61_code aI_270_5 = true := by decide +kernel
def aI_270_6 : sx_IL := [(70, .getfield 393, 3), (73, .iconst 4, 1), (74, .if_icmp .lt 6, 3), (77, .bipush (-3), 2), (79, .ireturn, 1), (80, .aload_n 0, 1)]
theorem aJ_270_6 : sx_iB prog_1_method_61_code aI_270_6 = true := by decide +kernel
def aI_270_7 : sx_IL := [(81, .getfield 46, 3), (84, .aload_n 0, 1), (85, .getfield 393, 3), (88, .new 44, 3), (91, .dup, 1), (92, .aload_n 0, 1)]
theorem aJ_270_7 : sx_iB prog_1_method_61_code aI_270_7 = true := by decide +kernel
def aI_270_8 : sx_IL := [(93, .getfield 10, 3), (96, .aload 4, 2), (98, .iload_n 2, 1), (99, .iload_n 3, 1), (100, .invokespecial 396, 3), (103, .aastore, 1)]
theorem aJ_270_8 : sx_iB prog_1_method_61_code aI_270_8 = true := by decide +kernel
def aI_270_9 : sx_IL := [(104, .aload_n 0, 1), (105, .dup, 1), (106, .getfield 393, 3), (109, .iconst 1, 1), (110, .iadd, 1), (111, .putfield 393, 3)]
theorem aJ_270_9 : sx_iB prog_1_method_61_code aI_270_9 = true := by decide +kernel
def aI_270_10 : sx_IL := [(114, .aload_n 0, 1), (115, .getfield 393, 3), (118, .iconst 1, 1), (119, .isub, 1), (120, .ireturn, 1)]
theorem aJ_270_10 : sx_iB prog_1_method_61_code aI_270_10 = true := by decide +kernel
def aS_270 (pc : Nat) : sx_IL := (if pc < 59 then (if pc < 24 then (if pc < 12 then aI_270_0 else aI_270_1) else (if pc < 35 then aI_270_2 else (if pc < 47 then aI_270_3 else aI_270_4))) else (if pc < 93 then (if pc < 70 then aI_270_5 else (if pc < 81 then aI_270_6 else aI_270_7)) else (if pc < 104 then aI_270_8 else (if pc < 114 then aI_270_9 else aI_270_10))))
theorem aT_270 (pc : Nat) : sx_iOk prog_1_method_61_code (aS_270 pc) := (sx_ite (p := fun l => sx_iOk prog_1_method_61_code l) (sx_ite (p := fun l => sx_iOk prog_1_method_61_code l) (sx_ite (p := fun l => sx_iOk prog_1_method_61_code l) (sx_iB_s aJ_270_0) (sx_iB_s aJ_270_1)) (sx_ite (p := fun l => sx_iOk prog_1_method_61_code l) (sx_iB_s aJ_270_2) (sx_ite (p := fun l => sx_iOk prog_1_method_61_code l) (sx_iB_s aJ_270_3) (sx_iB_s aJ_270_4)))) (sx_ite (p := fun l => sx_iOk prog_1_method_61_code l) (sx_ite (p := fun l => sx_iOk prog_1_method_61_code l) (sx_iB_s aJ_270_5) (sx_ite (p := fun l => sx_iOk prog_1_method_61_code l) (sx_iB_s aJ_270_6) (sx_iB_s aJ_270_7))) (sx_ite (p := fun l => sx_iOk prog_1_method_61_code l) (sx_iB_s aJ_270_8) (sx_ite (p := fun l => sx_iOk prog_1_method_61_code l) (sx_iB_s aJ_270_9) (sx_iB_s aJ_270_10)))))
def aW_270 : Nat → Option (Instr × Nat) := fun pc => sx_iF (aS_270 pc) pc
theorem aX_270 : ∀ pc i len, aW_270 pc = some (i, len) → decode aM_270.1.2.1 pc = .ok (i, len) := fun pc i len h => sx_iF_s (aT_270 pc) h
def aI_271_0 : sx_IL := [(0, .aload_n 0, 1), (1, .invokespecial 3, 3), (4, .aload_n 0, 1), (5, .bipush 8, 2), (7, .newarray .long, 2), (9, .putfield 11, 3)]
theorem aJ_271_0 : sx_iB prog_7_method_1_code aI_271_0 = true := by decide +kernel
def aI_271_1 : sx_IL := [(12, .aload_n 0, 1), (13, .bipush 12, 2), (15, .newarray .int, 2), (17, .putfield 15, 3), (20, .aload_n 0, 1), (21, .bipush 12, 2)]
theorem aJ_271_1 : sx_iB prog_7_method_1_code aI_271_1 = true := by decide +kernel
def aI_271_2 : sx_IL := [(23, .newarray .int, 2), (25, .putfield 19, 3), (28, .aload_n 0, 1), (29, .bipush 12, 2), (31, .newarray .int, 2), (33, .putfield 22, 3)]
theorem aJ_271_2 : sx_iB prog_7_method_1_code aI_271_2 = true := by decide +kernel
def aI_271_3 : sx_IL := [(36, .aload_n 0, 1), (37, .bipush 12, 2), (39, .newarray .int, 2), (41, .putfield 25, 3), (44, .aload_n 0, 1), (45, .bipush 36, 2)]
theorem aJ_271_3 : sx_iB prog_7_method_1_code aI_271_3 = true := by decide +kernel
def aI_271_4 : sx_IL := [(47, .anewarray 28, 3), (50, .putfield 30, 3), (53, .aload_n 0, 1), (54, .bipush 36, 2), (56, .newarray .int, 2), (58, .putfield 34, 3)]
theorem aJ_271_4 : sx_iB prog_7_method_1_code aI_271_4 = true := by decide +kernel
def aI_271_5 : sx_IL := [(61, .aload_n 0, 1), (62, .bipush 36, 2), (64, .newarray .int, 2), (66, .putfield 37, 3), (69, .aload_n 0, 1), (70, .bipush 40, 2)]
theorem aJ_271_5 : sx_iB prog_7_method_1_code aI_271_5 = true := by decide +kernel
def aI_271_6 : sx_IL := [(72, .newarray .int, 2), (74, .putfield 40, 3), (77, .aload_n 0, 1), (78, .aload_n 1, 1), (79, .putfield 43, 3), (82, .aload_n 0, 1)]
theorem aJ_271_6 : sx_iB prog_7_method_1_code aI_271_6 = true := by decide +kernel
def aI_271_7 : sx_IL := [(83, .aload_n 2, 1), (84, .putfield 47, 3), (87, .aload_n 0, 1), (88, .iload_n 3, 1), (89, .putfield 51, 3), (92, .aload_n 0, 1)]
theorem aJ_271_7 : sx_iB prog_7_method_1_code aI_271_7 = true := by decide +kernel
def aI_271_8 : sx_IL := [(93, .iload 4, 2), (95, .putfield 55, 3), (98, .return_, 1)]
theorem aJ_271_8 : sx_iB prog_7_method_1_code aI_271_8 = true := by decide +kernel
def aS_271 (pc : Nat) : sx_IL := (if pc < 47 then (if pc < 23 then (if pc < 12 then aI_271_0 else aI_271_1) else (if pc < 36 then aI_271_2 else aI_271_3)) else (if pc < 72 then (if pc < 61 then aI_271_4 else aI_271_5) else (if pc < 83 then aI_271_6 else (if pc < 93 then aI_271_7 else aI_271_8))))
theorem aT_271 (pc : Nat) : sx_iOk prog_7_method_1_code (aS_271 pc) := (sx_ite (p := fun l => sx_iOk prog_7_method_1_code l) (sx_ite (p := fun l => sx_iOk prog_7_method_1_code l) (sx_ite (p := fun l => sx_iOk prog_7_method_1_code l) (sx_iB_s aJ_271_0) (sx_iB_s aJ_271_1)) (sx_ite (p := fun l => sx_iOk prog_7_method_1_code l) (sx_iB_s aJ_271_2) (sx_iB_s aJ_271_3))) (sx_ite (p := fun l => sx_iOk prog_7_method_1_code l) (sx_ite (p := fun l => sx_iOk prog_7_method_1_code l) (sx_iB_s aJ_271_4) (sx_iB_s aJ_271_5)) (sx_ite (p := fun l => sx_iOk prog_7_method_1_code l) (sx_iB_s aJ_271_6) (sx_ite (p := fun l => sx_iOk prog_7_method_1_code l) (sx_iB_s aJ_271_7) (sx_iB_s aJ_271_8)))))
def aW_271 : Nat → Option (Instr × Nat) := fun pc => sx_iF (aS_271 pc) pc
theorem aX_271 : ∀ pc i len, aW_271 pc = some (i, len) → decode aM_271.1.2.1 pc = .ok (i, len) := fun pc i len h => sx_iF_s (aT_271 pc) h
def aI_272_0 : sx_IL := [(0, .aload_n 0, 1), (1, .iload_n 1, 1), (2, .invokevirtual 399, 3), (5, .ifCond .eq 16, 3), (8, .aload_n 0, 1), (9, .getfield 46, 3)]
theorem aJ_272_0 : sx_iB prog_1_method_65_code aI_272_0 = true := by decide +kernel
def aI_272_1 : sx_IL := [(12, .iload_n 1, 1), (13, .aaload, 1), (14, .lload_n 2, 1), (15, .invokevirtual 405, 3), (18, .goto 4, 3), (21, .iconst (-1), 1)]
theorem aJ_272_1 : sx_iB prog_1_method_65_code aI_272_1 = true := by decide +kernel
def aI_272_2 : sx_IL := [(22, .ireturn, 1)]
theorem aJ_272_2 : sx_iB prog_1_method_65_code aI_272_2 = true := by decide +kernel
def aS_272 (pc : Nat) : sx_IL := (if pc < 12 then aI_272_0 else (if pc < 22 then aI_272_1 else aI_272_2))
theorem aT_272 (pc : Nat) : sx_iOk prog_1_method_65_code (aS_272 pc) := (sx_ite (p := fun l => sx_iOk prog_1_method_65_code l) (sx_iB_s aJ_272_0) (sx_ite (p := fun l => sx_iOk prog_1_method_65_code l) (sx_iB_s aJ_272_1) (sx_iB_s aJ_272_2)))
def aW_272 : Nat → Option (Instr × Nat) := fun pc => sx_iF (aS_272 pc) pc
theorem aX_272 : ∀ pc i len, aW_272 pc = some (i, len) → decode aM_272.1.2.1 pc = .ok (i, len) := fun pc i len h => sx_iF_s (aT_272 pc) h
def aI_273_0 : sx_IL := [(0, .iload_n 1, 1), (1, .ifCond .lt 15, 3), (4, .iload_n 1, 1), (5, .aload_n 0, 1), (6, .getfield 393, 3), (9, .if_icmp .ge 7, 3)]
theorem aJ_273_0 : sx_iB prog_1_method_62_code aI_273_0 = true := by decide +kernel
def aI_273_1 : sx_IL := [(12, .iconst 1, 1), (13, .goto 4, 3), (16, .iconst 0, 1), (17, .ireturn, 1)]
theorem aJ_273_1 : sx_iB prog_1_method_62_code aI_273_1 = true := by decide +kernel
def aS_273 (pc : Nat) : sx_IL := (if pc < 12 then aI_273_0 else aI_273_1)
theorem aT_273 (pc : Nat) : sx_iOk prog_1_method_62_code (aS_273 pc) := (sx_ite (p := fun l => sx_iOk prog_1_method_62_code l) (sx_iB_s aJ_273_0) (sx_iB_s aJ_273_1))
def aW_273 : Nat → Option (Instr × Nat) := fun pc => sx_iF (aS_273 pc) pc
theorem aX_273 : ∀ pc i len, aW_273 pc = some (i, len) → decode aM_273.1.2.1 pc = .ok (i, len) := fun pc i len h => sx_iF_s (aT_273 pc) h
def aI_274_0 : sx_IL := [(0, .aload_n 0, 1), (1, .getfield 58, 3), (4, .bipush 8, 2), (6, .if_icmp .lt 6, 3), (9, .bipush (-3), 2), (11, .ireturn, 1)]
theorem aJ_274_0 : sx_iB prog_7_method_2_code aI_274_0 = true := by decide +kernel
def aI_274_1 : sx_IL := [(12, .aload_n 0, 1), (13, .getfield 11, 3), (16, .aload_n 0, 1), (17, .getfield 58, 3), (20, .lload_n 1, 1), (21, .lastore, 1)]
theorem aJ_274_1 : sx_iB prog_7_method_2_code aI_274_1 = true := by decide +kernel
def aI_274_2 : sx_IL := [(22, .aload_n 0, 1), (23, .dup, 1), (24, .getfield 58, 3), (27, .iconst 1, 1), (28, .iadd, 1), (29, .putfield 58, 3)]
theorem aJ_274_2 : sx_iB prog_7_method_2_code aI_274_2 = true := by decide +kernel
def aI_274_3 : sx_IL := [(32, .aload_n 0, 1), (33, .getfield 58, 3), (36, .iconst 1, 1), (37, .isub, 1), (38, .ireturn, 1)]
theorem aJ_274_3 : sx_iB prog_7_method_2_code aI_274_3 = true := by decide +kernel
def aS_274 (pc : Nat) : sx_IL := (if pc < 22 then (if pc < 12 then aI_274_0 else aI_274_1) else (if pc < 32 then aI_274_2 else aI_274_3))
theorem aT_274 (pc : Nat) : sx_iOk prog_7_method_2_code (aS_274 pc) := (sx_ite (p := fun l => sx_iOk prog_7_method_2_code l) (sx_ite (p := fun l => sx_iOk prog_7_method_2_code l) (sx_iB_s aJ_274_0) (sx_iB_s aJ_274_1)) (sx_ite (p := fun l => sx_iOk prog_7_method_2_code l) (sx_iB_s aJ_274_2) (sx_iB_s aJ_274_3)))
def aW_274 : Nat → Option (Instr × Nat) := fun pc => sx_iF (aS_274 pc) pc
theorem aX_274 : ∀ pc i len, aW_274 pc = some (i, len) → decode aM_274.1.2.1 pc = .ok (i, len) := fun pc i len h => sx_iF_s (aT_274 pc) h
def aI_275_0 : sx_IL := [(0, .aload_n 0, 1), (1, .iload_n 1, 1), (2, .invokevirtual 399, 3), (5, .ifCond .eq 20, 3), (8, .iload_n 2, 1), (9, .ifCond .lt 16, 3)]
theorem aJ_275_0 : sx_iB prog_1_method_66_code aI_275_0 = true := by decide +kernel
def aI_275_1 : sx_IL := [(12, .iload_n 2, 1), (13, .aload_n 0, 1), (14, .getfield 46, 3), (17, .iload_n 1, 1), (18, .aaload, 1), (19, .getfield 409, 3)]
theorem aJ_275_1 : sx_iB prog_1_method_66_code aI_275_1 = true := by decide +kernel
def aI_275_2 : sx_IL := [(22, .if_icmp .lt 5, 3), (25, .iconst (-1), 1), (26, .ireturn, 1), (27, .aload_n 0, 1), (28, .getfield 46, 3), (31, .iload_n 1, 1)]
theorem aJ_275_2 : sx_iB prog_1_method_66_code aI_275_2 = true := by decide +kernel
def aI_275_3 : sx_IL := [(32, .aaload, 1), (33, .iload_n 2, 1), (34, .aload_n 0, 1), (35, .getfield 21, 3), (38, .invokevirtual 412, 3), (41, .istore_n 3, 1)]
theorem aJ_275_3 : sx_iB prog_1_method_66_code aI_275_3 = true := by decide +kernel
def aI_275_4 : sx_IL := [(42, .iload_n 3, 1), (43, .ifCond .lt 10, 3), (46, .aload_n 0, 1), (47, .getfield 21, 3), (50, .invokevirtual 108, 3), (53, .iload_n 3, 1)]
theorem aJ_275_4 : sx_iB prog_1_method_66_code aI_275_4 = true := by decide +kernel
def aI_275_5 : sx_IL := [(54, .ireturn, 1)]
theorem aJ_275_5 : sx_iB prog_1_method_66_code aI_275_5 = true := by decide +kernel
def aS_275 (pc : Nat) : sx_IL := (if pc < 32 then (if pc < 12 then aI_275_0 else (if pc < 22 then aI_275_1 else aI_275_2)) else (if pc < 42 then aI_275_3 else (if pc < 54 then aI_275_4 else aI_275_5)))
theorem aT_275 (pc : Nat) : sx_iOk prog_1_method_66_code (aS_275 pc) := (sx_ite (p := fun l => sx_iOk prog_1_method_66_code l) (sx_ite (p := fun l => sx_iOk prog_1_method_66_code l) (sx_iB_s aJ_275_0) (sx_ite (p := fun l => sx_iOk prog_1_method_66_code l) (sx_iB_s aJ_275_1) (sx_iB_s aJ_275_2))) (sx_ite (p := fun l => sx_iOk prog_1_method_66_code l) (sx_iB_s aJ_275_3) (sx_ite (p := fun l => sx_iOk prog_1_method_66_code l) (sx_iB_s aJ_275_4) (sx_iB_s aJ_275_5))))
def aW_275 : Nat → Option (Instr × Nat) := fun pc => sx_iF (aS_275 pc) pc
theorem aX_275 : ∀ pc i len, aW_275 pc = some (i, len) → decode aM_275.1.2.1 pc = .ok (i, len) := fun pc i len h => sx_iF_s (aT_275 pc) h
def aI_276_0 : sx_IL := [(0, .aload_n 2, 1), (1, .invokestatic 61, 3), (4, .istore_n 3, 1), (5, .iload_n 3, 1), (6, .iconst 1, 1), (7, .if_icmp .ge 6, 3)]
theorem aJ_276_0 : sx_iB prog_7_method_3_code aI_276_0 = true := by decide +kernel
def aI_276_1 : sx_IL := [(10, .bipush (-2), 2), (12, .ireturn, 1), (13, .aload_n 0, 1), (14, .getfield 65, 3), (17, .bipush 12, 2), (19, .if_icmp .lt 6, 3)]
theorem aJ_276_1 : sx_iB prog_7_method_3_code aI_276_1 = true := by decide +kernel
def aI_276_2 : sx_IL := [(22, .bipush (-3), 2), (24, .ireturn, 1), (25, .iconst 0, 1), (26, .istore 4, 2), (28, .iconst 0, 1), (29, .istore 5, 2)]
theorem aJ_276_2 : sx_iB prog_7_method_3_code aI_276_2 = true := by decide +kernel
def aI_276_3 : sx_IL := [(31, .iload 5, 2), (33, .iload_n 3, 1), (34, .if_icmp .ge 92, 3), (37, .aload_n 2, 1), (38, .iload 4, 2), (40, .invokestatic 68, 3)]
theorem aJ_276_3 : sx_iB prog_7_method_3_code aI_276_3 = true := by decide +kernel
def aI_276_4 : sx_IL := [(43, .istore 6, 2), (45, .iconst 3, 1), (46, .aload_n 0, 1), (47, .getfield 65, 3), (50, .imul, 1), (51, .iload 5, 2)]
theorem aJ_276_4 : sx_iB prog_7_method_3_code aI_276_4 = true := by decide +kernel
def aI_276_5 : sx_IL := [(53, .iadd, 1), (54, .istore 7, 2), (56, .aload_n 0, 1), (57, .getfield 30, 3), (60, .iload 7, 2), (62, .new 28, 3)]
theorem aJ_276_5 : sx_iB prog_7_method_3_code aI_276_5 = true := by decide +kernel
def aI_276_6 : sx_IL := [(65, .dup, 1), (66, .iload 6, 2), (68, .iload 4, 2), (70, .isub, 1), (71, .invokespecial 72, 3), (74, .aastore, 1)]
theorem aJ_276_6 : sx_iB prog_7_method_3_code aI_276_6 = true := by decide +kernel
def aI_276_7 : sx_IL := [(75, .aload_n 0, 1), (76, .getfield 30, 3), (79, .iload 7, 2), (81, .aaload, 1), (82, .aload_n 2, 1), (83, .getfield 75, 3)]
theorem aJ_276_7 : sx_iB prog_7_method_3_code aI_276_7 = true := by decide +kernel
def aI_276_8 : sx_IL := [(86, .iload 4, 2), (88, .iload 6, 2), (90, .invokevirtual 78, 3), (93, .aload_n 0, 1), (94, .dup, 1), (95, .getfield 82, 3)]
theorem aJ_276_8 : sx_iB prog_7_method_3_code aI_276_8 = true := by decide +kernel
def aI_276_9 : sx_IL := [(98, .iconst 1, 1), (99, .iadd, 1), (100, .putfield 82, 3), (103, .aload_n 0, 1), (104, .getfield 34, 3), (107, .iload 7, 2)]
theorem aJ_276_9 : sx_iB prog_7_method_3_code aI_276_9 = true := by decide +kernel
def aI_276_10 : sx_IL := [(109, .aload_n 0, 1), (110, .getfield 82, 3), (113, .iastore, 1), (114, .iload 6, 2), (116, .iconst 1, 1), (117, .iadd, 1)]
theorem aJ_276_10 : sx_iB prog_7_method_3_code aI_276_10 = true := by decide +kernel
def aI_276_11 : sx_IL := [(118, .istore 4, 2), (120, .iinc 5 1, 3), (123, .goto (-92), 3), (126, .aload_n 0, 1), (127, .getfield 25, 3), (130, .aload_n 0, 1)]
theorem aJ_276_11 : sx_iB prog_7_method_3_code aI_276_11 = true := by decide +kernel
def aI_276_12 : sx_IL := [(131, .getfield 65, 3), (134, .iload_n 3, 1), (135, .iastore, 1), (136, .aload_n 0, 1), (137, .getfield 19, 3), (140, .aload_n 0, 1)]
theorem aJ_276_12 : sx_iB prog_7_method_3_code aI_276_12 = true := by decide +kernel
def aI_276_13 : sx_IL := [(141, .getfield 65, 3), (144, .iload_n 1, 1), (145, .iastore, 1), (146, .aload_n 0, 1), (147, .getfield 22, 3), (150, .aload_n 0, 1)]
theorem aJ_276_13 : sx_iB prog_7_method_3_code aI_276_13 = true := by decide +kernel
def aI_276_14 : sx_IL := [(151, .getfield 65, 3), (154, .bipush (-4), 2), (156, .iastore, 1), (157, .aload_n 0, 1), (158, .dup, 1), (159, .getfield 65, 3)]
theorem aJ_276_14 : sx_iB prog_7_method_3_code aI_276_14 = true := by decide +kernel
def aI_276_15 : sx_IL := [(162, .iconst 1, 1), (163, .iadd, 1), (164, .putfield 65, 3), (167, .aload_n 0, 1), (168, .getfield 65, 3), (171, .iconst 1, 1)]
theorem aJ_276_15 : sx_iB prog_7_method_3_code aI_276_15 = true := by decide +kernel
def aI_276_16 : sx_IL := [(172, .isub, 1), (173, .ireturn, 1)]
theorem aJ_276_16 : sx_iB prog_7_method_3_code aI_276_16 = true := by decide +kernel
def aS_276 (pc : Nat) : sx_IL := (if pc < 86 then (if pc < 43 then (if pc < 22 then (if pc < 10 then aI_276_0 else aI_276_1) else (if pc < 31 then aI_276_2 else aI_276_3)) else (if pc < 65 then (if pc < 53 then aI_276_4 else aI_276_5) else (if pc < 75 then aI_276_6 else aI_276_7))) else (if pc < 131 then (if pc < 109 then (if pc < 98 then aI_276_8 else aI_276_9) else (if pc < 118 then aI_276_10 else aI_276_11)) else (if pc < 151 then (if pc < 141 then aI_276_12 else aI_276_13) else (if pc < 162 then aI_276_14 else (if pc < 172 then aI_276_15 else aI_276_16)))))
theorem aT_276 (pc : Nat) : sx_iOk prog_7_method_3_code (aS_276 pc) := (sx_ite (p := fun l => sx_iOk prog_7_method_3_code l) (sx_ite (p := fun l => sx_iOk prog_7_method_3_code l) (sx_ite (p := fun l => sx_iOk prog_7_method_3_code l) (sx_ite (p := fun l => sx_iOk prog_7_method_3_code l) (sx_iB_s aJ_276_0) (sx_iB_s aJ_276_1)) (sx_ite (p := fun l => sx_iOk prog_7_method_3_code l) (sx_iB_s aJ_276_2) (sx_iB_s aJ_276_3))) (sx_ite (p := fun l => sx_iOk prog_7_method_3_code l) (sx_ite (p := fun l => sx_iOk prog_7_method_3_code l) (sx_iB_s aJ_276_4) (sx_iB_s aJ_276_5)) (sx_ite (p := fun l => sx_iOk prog_7_method_3_code l) (sx_iB_s aJ_276_6) (sx_iB_s aJ_276_7)))) (sx_ite (p := fun l => sx_iOk prog_7_method_3_code l) (sx_ite (p := fun l => sx_iOk prog_7_method_3_code l) (sx_ite (p := fun l => sx_iOk prog_7_method_3_code l) (sx_iB_s aJ_276_8) (sx_iB_s aJ_276_9)) (sx_ite (p := fun l => sx_iOk prog_7_method_3_code l) (sx_iB_s aJ_276_10) (sx_iB_s aJ_276_11))) (sx_ite (p := fun l => sx_iOk prog_7_method_3_code l) (sx_ite (p := fun l => sx_iOk prog_7_method_3_code l) (sx_iB_s aJ_276_12) (sx_iB_s aJ_276_13)) (sx_ite (p := fun l => sx_iOk prog_7_method_3_code l) (sx_iB_s aJ_276_14) (sx_ite (p := fun l => sx_iOk prog_7_method_3_code l) (sx_iB_s aJ_276_15) (sx_iB_s aJ_276_16))))))
def aW_276 : Nat → Option (Instr × Nat) := fun pc => sx_iF (aS_276 pc) pc
theorem aX_276 : ∀ pc i len, aW_276 pc = some (i, len) → decode aM_276.1.2.1 pc = .ok (i, len) := fun pc i len h => sx_iF_s (aT_276 pc) h
def aI_277_0 : sx_IL := [(0, .iconst 3, 1), (1, .newarray .int, 2), (3, .astore_n 1, 1), (4, .iconst 0, 1), (5, .istore_n 2, 1), (6, .iconst 0, 1)]
theorem aJ_277_0 : sx_iB prog_7_method_5_code aI_277_0 = true := by decide +kernel
def aI_277_1 : sx_IL := [(7, .istore_n 3, 1), (8, .iload_n 3, 1), (9, .aload_n 0, 1), (10, .getfield 85, 3), (13, .if_icmp .gt 91, 3), (16, .aload_n 0, 1)]
theorem aJ_277_1 : sx_iB prog_7_method_5_code aI_277_1 = true := by decide +kernel
def aI_277_2 : sx_IL := [(17, .iload_n 3, 1), (18, .invokestatic 68, 3), (21, .istore 4, 2), (23, .iload_n 2, 1), (24, .iconst 3, 1), (25, .if_icmp .eq 16, 3)]
theorem aJ_277_2 : sx_iB prog_7_method_5_code aI_277_2 = true := by decide +kernel
def aI_277_3 : sx_IL := [(28, .aload_n 0, 1), (29, .getfield 75, 3), (32, .iload_n 3, 1), (33, .iload 4, 2), (35, .invokestatic 92, 3), (38, .ifCond .ne 5, 3)]
theorem aJ_277_3 : sx_iB prog_7_method_5_code aI_277_3 = true := by decide +kernel
def aI_277_4 : sx_IL := [(41, .iconst 0, 1), (42, .ireturn, 1), (43, .iconst 0, 1), (44, .istore 5, 2), (46, .iload 5, 2), (48, .iload_n 2, 1)]
theorem aJ_277_4 : sx_iB prog_7_method_5_code aI_277_4 = true := by decide +kernel
def aI_277_5 : sx_IL := [(49, .if_icmp .ge 40, 3), (52, .aload_n 0, 1), (53, .getfield 75, 3), (56, .aload_n 1, 1), (57, .iload 5, 2), (59, .iaload, 1)]
theorem aJ_277_5 : sx_iB prog_7_method_5_code aI_277_5 = true := by decide +kernel
def aI_277_6 : sx_IL := [(60, .aload_n 0, 1), (61, .aload_n 1, 1), (62, .iload 5, 2), (64, .iaload, 1), (65, .invokestatic 68, 3), (68, .aload_n 0, 1)]
theorem aJ_277_6 : sx_iB prog_7_method_5_code aI_277_6 = true := by decide +kernel
def aI_277_7 : sx_IL := [(69, .getfield 75, 3), (72, .iload_n 3, 1), (73, .iload 4, 2), (75, .invokestatic 98, 3), (78, .ifCond .eq 5, 3), (81, .iconst 0, 1)]
theorem aJ_277_7 : sx_iB prog_7_method_5_code aI_277_7 = true := by decide +kernel
def aI_277_8 : sx_IL := [(82, .ireturn, 1), (83, .iinc 5 1, 3), (86, .goto (-40), 3), (89, .aload_n 1, 1), (90, .iload_n 2, 1), (91, .iload_n 3, 1)]
theorem aJ_277_8 : sx_iB prog_7_method_5_code aI_277_8 = true := by decide +kernel
def aI_277_9 : sx_IL := [(92, .iastore, 1), (93, .iinc 2 1, 3), (96, .iload 4, 2), (98, .iconst 1, 1), (99, .iadd, 1), (100, .istore_n 3, 1)]
theorem aJ_277_9 : sx_iB prog_7_method_5_code aI_277_9 = true := by decide +kernel
def aI_277_10 : sx_IL := [(101, .goto (-93), 3), (104, .iload_n 2, 1), (105, .ireturn, 1)]
theorem aJ_277_10 : sx_iB prog_7_method_5_code aI_277_10 = true := by decide +kernel
def aS_277 (pc : Nat) : sx_IL := (if pc < 49 then (if pc < 17 then (if pc < 7 then aI_277_0 else aI_277_1) else (if pc < 28 then aI_277_2 else (if pc < 41 then aI_277_3 else aI_277_4))) else (if pc < 82 then (if pc < 60 then aI_277_5 else (if pc < 69 then aI_277_6 else aI_277_7)) else (if pc < 92 then aI_277_8 else (if pc < 101 then aI_277_9 else aI_277_10))))
theorem aT_277 (pc : Nat) : sx_iOk prog_7_method_5_code (aS_277 pc) := (sx_ite (p := fun l => sx_iOk prog_7_method_5_code l) (sx_ite (p := fun l => sx_iOk prog_7_method_5_code l) (sx_ite (p := fun l => sx_iOk prog_7_method_5_code l) (sx_iB_s aJ_277_0) (sx_iB_s aJ_277_1)) (sx_ite (p := fun l => sx_iOk prog_7_method_5_code l) (sx_iB_s aJ_277_2) (sx_ite (p := fun l => sx_iOk prog_7_method_5_code l) (sx_iB_s aJ_277_3) (sx_iB_s aJ_277_4)))) (sx_ite (p := fun l => sx_iOk prog_7_method_5_code l) (sx_ite (p := fun l => sx_iOk prog_7_method_5_code l) (sx_iB_s aJ_277_5) (sx_ite (p := fun l => sx_iOk prog_7_method_5_code l) (sx_iB_s aJ_277_6) (sx_iB_s aJ_277_7))) (sx_ite (p := fun l => sx_iOk prog_7_method_5_code l) (sx_iB_s aJ_277_8) (sx_ite (p := fun l => sx_iOk prog_7_method_5_code l) (sx_iB_s aJ_277_9) (sx_iB_s aJ_277_10)))))
def aW_277 : Nat → Option (Instr × Nat) := fun pc => sx_iF (aS_277 pc) pc
theorem aX_277 : ∀ pc i len, aW_277 pc = some (i, len) → decode aM_277.1.2.1 pc = .ok (i, len) := fun pc i len h => sx_iF_s (aT_277 pc) h
def aI_278_0 : sx_IL := [(0, .iload_n 1, 1), (1, .istore_n 2, 1), (2, .iload_n 2, 1), (3, .aload_n 0, 1), (4, .getfield 85, 3), (7, .if_icmp .ge 19, 3)]
theorem aJ_278_0 : sx_iB prog_7_method_4_code aI_278_0 = true := by decide +kernel
def aI_278_1 : sx_IL := [(10, .aload_n 0, 1), (11, .iload_n 2, 1), (12, .invokevirtual 88, 3), (15, .bipush 44, 2), (17, .if_icmp .eq 9, 3), (20, .iinc 2 1, 3)]
theorem aJ_278_1 : sx_iB prog_7_method_4_code aI_278_1 = true := by decide +kernel
def aI_278_2 : sx_IL := [(23, .goto (-21), 3), (26, .iload_n 2, 1), (27, .ireturn, 1)]
theorem aJ_278_2 : sx_iB prog_7_method_4_code aI_278_2 = true := by decide +kernel
def aS_278 (pc : Nat) : sx_IL := (if pc < 10 then aI_278_0 else (if pc < 23 then aI_278_1 else aI_278_2))
theorem aT_278 (pc : Nat) : sx_iOk prog_7_method_4_code (aS_278 pc) := (sx_ite (p := fun l => sx_iOk prog_7_method_4_code l) (sx_iB_s aJ_278_0) (sx_ite (p := fun l => sx_iOk prog_7_method_4_code l) (sx_iB_s aJ_278_1) (sx_iB_s aJ_278_2)))
def aW_278 : Nat → Option (Instr × Nat) := fun pc => sx_iF (aS_278 pc) pc
theorem aX_278 : ∀ pc i len, aW_278 pc = some (i, len) → decode aM_278.1.2.1 pc = .ok (i, len) := fun pc i len h => sx_iF_s (aT_278 pc) h
def aI_279_0 : sx_IL := [(0, .aload_n 0, 1), (1, .iload_n 1, 1), (2, .iload_n 2, 1), (3, .invokestatic 62, 3), (6, .istore_n 3, 1), (7, .aload_n 0, 1)]
theorem aJ_279_0 : sx_iB prog_8_method_14_code aI_279_0 = true := by decide +kernel
def aI_279_1 : sx_IL := [(8, .iload_n 3, 1), (9, .iload_n 2, 1), (10, .invokestatic 59, 3), (13, .ifCond .ge 22, 3), (16, .iload_n 3, 1), (17, .iload_n 1, 1)]
theorem aJ_279_1 : sx_iB prog_8_method_14_code aI_279_1 = true := by decide +kernel
def aI_279_2 : sx_IL := [(18, .if_icmp .eq 13, 3), (21, .aload_n 0, 1), (22, .iload_n 3, 1), (23, .iload_n 2, 1), (24, .invokestatic 65, 3), (27, .iload_n 2, 1)]
theorem aJ_279_2 : sx_iB prog_8_method_14_code aI_279_2 = true := by decide +kernel
def aI_279_3 : sx_IL := [(28, .if_icmp .ge 7, 3), (31, .iconst 1, 1), (32, .goto 4, 3), (35, .iconst 0, 1), (36, .ireturn, 1)]
theorem aJ_279_3 : sx_iB prog_8_method_14_code aI_279_3 = true := by decide +kernel
def aS_279 (pc : Nat) : sx_IL := (if pc < 18 then (if pc < 8 then aI_279_0 else aI_279_1) else (if pc < 28 then aI_279_2 else aI_279_3))
theorem aT_279 (pc : Nat) : sx_iOk prog_8_method_14_code (aS_279 pc) := (sx_ite (p := fun l => sx_iOk prog_8_method_14_code l) (sx_ite (p := fun l => sx_iOk prog_8_method_14_code l) (sx_iB_s aJ_279_0) (sx_iB_s aJ_279_1)) (sx_ite (p := fun l => sx_iOk prog_8_method_14_code l) (sx_iB_s aJ_279_2) (sx_iB_s aJ_279_3)))
def aW_279 : Nat → Option (Instr × Nat) := fun pc => sx_iF (aS_279 pc) pc
theorem aX_279 : ∀ pc i len, aW_279 pc = some (i, len) → decode aM_279.1.2.1 pc = .ok (i, len) := fun pc i len h => sx_iF_s (aT_279 pc) h
def aI_280_0 : sx_IL := [(0, .aload_n 0, 1), (1, .iload_n 1, 1), (2, .iload_n 2, 1), (3, .invokevirtual 415, 3), (6, .ifCond .eq 17, 3), (9, .aload_n 0, 1)]
theorem aJ_280_0 : sx_iB prog_1_method_67_code aI_280_0 = true := by decide +kernel
def aI_280_1 : sx_IL := [(10, .getfield 46, 3), (13, .iload_n 1, 1), (14, .aaload, 1), (15, .iload_n 2, 1), (16, .iload_n 3, 1), (17, .invokevirtual 418, 3)]
theorem aJ_280_1 : sx_iB prog_1_method_67_code aI_280_1 = true := by decide +kernel
def aI_280_2 : sx_IL := [(20, .goto 4, 3), (23, .iconst (-1), 1), (24, .ireturn, 1)]
theorem aJ_280_2 : sx_iB prog_1_method_67_code aI_280_2 = true := by decide +kernel
def aS_280 (pc : Nat) : sx_IL := (if pc < 10 then aI_280_0 else (if pc < 20 then aI_280_1 else aI_280_2))
theorem aT_280 (pc : Nat) : sx_iOk prog_1_method_67_code (aS_280 pc) := (sx_ite (p := fun l => sx_iOk prog_1_method_67_code l) (sx_iB_s aJ_280_0) (sx_ite (p := fun l => sx_iOk prog_1_method_67_code l) (sx_iB_s aJ_280_1) (sx_iB_s aJ_280_2)))
def aW_280 : Nat → Option (Instr × Nat) := fun pc => sx_iF (aS_280 pc) pc
theorem aX_280 : ∀ pc i len, aW_280 pc = some (i, len) → decode aM_280.1.2.1 pc = .ok (i, len) := fun pc i len h => sx_iF_s (aT_280 pc) h
def aI_281_0 : sx_IL := [(0, .aload_n 0, 1), (1, .iload_n 1, 1), (2, .invokevirtual 399, 3), (5, .ifCond .eq 24, 3), (8, .iload_n 2, 1), (9, .ifCond .lt 20, 3)]
theorem aJ_281_0 : sx_iB prog_1_method_63_code aI_281_0 = true := by decide +kernel
def aI_281_1 : sx_IL := [(12, .iload_n 2, 1), (13, .aload_n 0, 1), (14, .getfield 46, 3), (17, .iload_n 1, 1), (18, .aaload, 1), (19, .getfield 402, 3)]
theorem aJ_281_1 : sx_iB prog_1_method_63_code aI_281_1 = true := by decide +kernel
def aI_281_2 : sx_IL := [(22, .if_icmp .ge 7, 3), (25, .iconst 1, 1), (26, .goto 4, 3), (29, .iconst 0, 1), (30, .ireturn, 1)]
theorem aJ_281_2 : sx_iB prog_1_method_63_code aI_281_2 = true := by decide +kernel
def aS_281 (pc : Nat) : sx_IL := (if pc < 12 then aI_281_0 else (if pc < 22 then aI_281_1 else aI_281_2))
theorem aT_281 (pc : Nat) : sx_iOk prog_1_method_63_code (aS_281 pc) := (sx_ite (p := fun l => sx_iOk prog_1_method_63_code l) (sx_iB_s aJ_281_0) (sx_ite (p := fun l => sx_iOk prog_1_method_63_code l) (sx_iB_s aJ_281_1) (sx_iB_s aJ_281_2)))
def aW_281 : Nat → Option (Instr × Nat) := fun pc => sx_iF (aS_281 pc) pc
theorem aX_281 : ∀ pc i len, aW_281 pc = some (i, len) → decode aM_281.1.2.1 pc = .ok (i, len) := fun pc i len h => sx_iF_s (aT_281 pc) h
def aI_282_0 : sx_IL := [(0, .iload_n 2, 1), (1, .tableswitch 59 0 3 #[31, 38, 45, 52], 31), (32, .aload_n 0, 1), (33, .getfield 15, 3), (36, .iload_n 1, 1), (37, .iaload, 1)]
theorem aJ_282_0 : sx_iB prog_7_method_6_code aI_282_0 = true := by decide +kernel
def aI_282_1 : sx_IL := [(38, .ireturn, 1), (39, .aload_n 0, 1), (40, .getfield 19, 3), (43, .iload_n 1, 1), (44, .iaload, 1), (45, .ireturn, 1)]
theorem aJ_282_1 : sx_iB prog_7_method_6_code aI_282_1 = true := by decide +kernel
def aI_282_2 : sx_IL := [(46, .aload_n 0, 1), (47, .getfield 25, 3), (50, .iload_n 1, 1), (51, .iaload, 1), (52, .ireturn, 1), (53, .aload_n 0, 1)]
theorem aJ_282_2 : sx_iB prog_7_method_6_code aI_282_2 = true := by decide +kernel
def aI_282_3 : sx_IL := [(54, .getfield 22, 3), (57, .iload_n 1, 1), (58, .iaload, 1), (59, .ireturn, 1), (60, .iload_n 2, 1), (61, .bipush 10, 2)]
theorem aJ_282_3 : sx_iB prog_7_method_6_code aI_282_3 = true := by decide +kernel
def aI_282_4 : sx_IL := [(63, .irem, 1), (64, .istore_n 3, 1), (65, .iload_n 2, 1), (66, .bipush 10, 2), (68, .if_icmp .lt 19, 3), (71, .iload_n 2, 1)]
theorem aJ_282_4 : sx_iB prog_7_method_6_code aI_282_4 = true := by decide +kernel
def aI_282_5 : sx_IL := [(72, .bipush 30, 2), (74, .if_icmp .ge 13, 3), (77, .iload_n 3, 1), (78, .aload_n 0, 1), (79, .getfield 25, 3), (82, .iload_n 1, 1)]
theorem aJ_282_5 : sx_iB prog_7_method_6_code aI_282_5 = true := by decide +kernel
def aI_282_6 : sx_IL := [(83, .iaload, 1), (84, .if_icmp .lt 5, 3), (87, .iconst (-1), 1), (88, .ireturn, 1), (89, .iload_n 2, 1), (90, .bipush 20, 2)]
theorem aJ_282_6 : sx_iB prog_7_method_6_code aI_282_6 = true := by decide +kernel
def aI_282_7 : sx_IL := [(92, .if_icmp .ge 16, 3), (95, .aload_n 0, 1), (96, .getfield 34, 3), (99, .iconst 3, 1), (100, .iload_n 1, 1), (101, .imul, 1)]
theorem aJ_282_7 : sx_iB prog_7_method_6_code aI_282_7 = true := by decide +kernel
def aI_282_8 : sx_IL := [(102, .iload_n 3, 1), (103, .iadd, 1), (104, .iaload, 1), (105, .goto 13, 3), (108, .aload_n 0, 1), (109, .getfield 37, 3)]
theorem aJ_282_8 : sx_iB prog_7_method_6_code aI_282_8 = true := by decide +kernel
def aI_282_9 : sx_IL := [(112, .iconst 3, 1), (113, .iload_n 1, 1), (114, .imul, 1), (115, .iload_n 3, 1), (116, .iadd, 1), (117, .iaload, 1)]
theorem aJ_282_9 : sx_iB prog_7_method_6_code aI_282_9 = true := by decide +kernel
def aI_282_10 : sx_IL := [(118, .ireturn, 1)]
theorem aJ_282_10 : sx_iB prog_7_method_6_code aI_282_10 = true := by decide +kernel
def aS_282 (pc : Nat) : sx_IL := (if pc < 72 then (if pc < 46 then (if pc < 38 then aI_282_0 else aI_282_1) else (if pc < 54 then aI_282_2 else (if pc < 63 then aI_282_3 else aI_282_4))) else (if pc < 102 then (if pc < 83 then aI_282_5 else (if pc < 92 then aI_282_6 else aI_282_7)) else (if pc < 112 then aI_282_8 else (if pc < 118 then aI_282_9 else aI_282_10))))
theorem aT_282 (pc : Nat) : sx_iOk prog_7_method_6_code (aS_282 pc) := (sx_ite (p := fun l => sx_iOk prog_7_method_6_code l) (sx_ite (p := fun l => sx_iOk prog_7_method_6_code l) (sx_ite (p := fun l => sx_iOk prog_7_method_6_code l) (sx_iB_s aJ_282_0) (sx_iB_s aJ_282_1)) (sx_ite (p := fun l => sx_iOk prog_7_method_6_code l) (sx_iB_s aJ_282_2) (sx_ite (p := fun l => sx_iOk prog_7_method_6_code l) (sx_iB_s aJ_282_3) (sx_iB_s aJ_282_4)))) (sx_ite (p := fun l => sx_iOk prog_7_method_6_code l) (sx_ite (p := fun l => sx_iOk prog_7_method_6_code l) (sx_iB_s aJ_282_5) (sx_ite (p := fun l => sx_iOk prog_7_method_6_code l) (sx_iB_s aJ_282_6) (sx_iB_s aJ_282_7))) (sx_ite (p := fun l => sx_iOk prog_7_method_6_code l) (sx_iB_s aJ_282_8) (sx_ite (p := fun l => sx_iOk prog_7_method_6_code l) (sx_iB_s aJ_282_9) (sx_iB_s aJ_282_10)))))
def aW_282 : Nat → Option (Instr × Nat) := fun pc => sx_iF (aS_282 pc) pc
theorem aX_282 : ∀ pc i len, aW_282 pc = some (i, len) → decode aM_282.1.2.1 pc = .ok (i, len) := fun pc i len h => sx_iF_s (aT_282 pc) h
def aI_283_0 : sx_IL := [(0, .aload_n 0, 1), (1, .getfield 21, 3), (4, .getfield 80, 3), (7, .iconst 0, 1), (8, .aload_n 0, 1), (9, .getfield 21, 3)]
theorem aJ_283_0 : sx_iB prog_1_method_68_code aI_283_0 = true := by decide +kernel
def aI_283_1 : sx_IL := [(12, .getfield 69, 3), (15, .invokestatic 287, 3), (18, .ifCond .lt 6, 3), (21, .bipush (-2), 2), (23, .ireturn, 1), (24, .aload_n 0, 1)]
theorem aJ_283_1 : sx_iB prog_1_method_68_code aI_283_1 = true := by decide +kernel
def aI_283_2 : sx_IL := [(25, .aload_n 0, 1), (26, .getfield 21, 3), (29, .getfield 80, 3), (32, .iconst 0, 1), (33, .aload_n 0, 1), (34, .getfield 21, 3)]
theorem aJ_283_2 : sx_iB prog_1_method_68_code aI_283_2 = true := by decide +kernel
def aI_283_3 : sx_IL := [(37, .getfield 69, 3), (40, .invokevirtual 420, 3), (43, .istore_n 3, 1), (44, .iload_n 3, 1), (45, .bipush 16, 2), (47, .if_icmp .lt 6, 3)]
theorem aJ_283_3 : sx_iB prog_1_method_68_code aI_283_3 = true := by decide +kernel
def aI_283_4 : sx_IL := [(50, .bipush (-3), 2), (52, .ireturn, 1), (53, .iload_n 3, 1), (54, .aload_n 0, 1), (55, .getfield 423, 3), (58, .if_icmp .ne 57, 3)]
theorem aJ_283_4 : sx_iB prog_1_method_68_code aI_283_4 = true := by decide +kernel
def aI_283_5 : sx_IL := [(61, .aload_n 0, 1), (62, .getfield 50, 3), (65, .iload_n 3, 1), (66, .new 16, 3), (69, .dup, 1), (70, .aload_n 0, 1)]
theorem aJ_283_5 : sx_iB prog_1_method_68_code aI_283_5 = true := by decide +kernel
def aI_283_6 : sx_IL := [(71, .getfield 21, 3), (74, .getfield 69, 3), (77, .invokespecial 18, 3), (80, .aastore, 1), (81, .aload_n 0, 1), (82, .getfield 50, 3)]
theorem aJ_283_6 : sx_iB prog_1_method_68_code aI_283_6 = true := by decide +kernel
def aI_283_7 : sx_IL := [(85, .iload_n 3, 1), (86, .aaload, 1), (87, .aload_n 0, 1), (88, .getfield 21, 3), (91, .getfield 80, 3), (94, .iconst 0, 1)]
theorem aJ_283_7 : sx_iB prog_1_method_68_code aI_283_7 = true := by decide +kernel
def aI_283_8 : sx_IL := [(95, .aload_n 0, 1), (96, .getfield 21, 3), (99, .getfield 69, 3), (102, .invokevirtual 83, 3), (105, .aload_n 0, 1), (106, .dup, 1)]
theorem aJ_283_8 : sx_iB prog_1_method_68_code aI_283_8 = true := by decide +kernel
def aI_283_9 : sx_IL := [(107, .getfield 423, 3), (110, .iconst 1, 1), (111, .iadd, 1), (112, .putfield 423, 3), (115, .aload_n 0, 1), (116, .getfield 54, 3)]
theorem aJ_283_9 : sx_iB prog_1_method_68_code aI_283_9 = true := by decide +kernel
def aI_283_10 : sx_IL := [(119, .iload_n 3, 1), (120, .lload_n 1, 1), (121, .lastore, 1), (122, .aload_n 0, 1), (123, .getfield 21, 3), (126, .invokevirtual 108, 3)]
theorem aJ_283_10 : sx_iB prog_1_method_68_code aI_283_10 = true := by decide +kernel
def aI_283_11 : sx_IL := [(129, .aload_n 0, 1), (130, .getfield 423, 3), (133, .ireturn, 1)]
theorem aJ_283_11 : sx_iB prog_1_method_68_code aI_283_11 = true := by decide +kernel
def aS_283 (pc : Nat) : sx_IL := (if pc < 71 then (if pc < 37 then (if pc < 12 then aI_283_0 else (if pc < 25 then aI_283_1 else aI_283_2)) else (if pc < 50 then aI_283_3 else (if pc < 61 then aI_283_4 else aI_283_5))) else (if pc < 107 then (if pc < 85 then aI_283_6 else (if pc < 95 then aI_283_7 else aI_283_8)) else (if pc < 119 then aI_283_9 else (if pc < 129 then aI_283_10 else aI_283_11))))
theorem aT_283 (pc : Nat) : sx_iOk prog_1_method_68_code (aS_283 pc) := (sx_ite (p := fun l => sx_iOk prog_1_method_68_code l) (sx_ite (p := fun l => sx_iOk prog_1_method_68_code l) (sx_ite (p := fun l => sx_iOk prog_1_method_68_code l) (sx_iB_s aJ_283_0) (sx_ite (p := fun l => sx_iOk prog_1_method_68_code l) (sx_iB_s aJ_283_1) (sx_iB_s aJ_283_2))) (sx_ite (p := fun l => sx_iOk prog_1_method_68_code l) (sx_iB_s aJ_283_3) (sx_ite (p := fun l => sx_iOk prog_1_method_68_code l) (sx_iB_s aJ_283_4) (sx_iB_s aJ_283_5)))) (sx_ite (p := fun l => sx_iOk prog_1_method_68_code l) (sx_ite (p := fun l => sx_iOk prog_1_method_68_code l) (sx_iB_s aJ_283_6) (sx_ite (p := fun l => sx_iOk prog_1_method_68_code l) (sx_iB_s aJ_283_7) (sx_iB_s aJ_283_8))) (sx_ite (p := fun l => sx_iOk prog_1_method_68_code l) (sx_iB_s aJ_283_9) (sx_ite (p := fun l => sx_iOk prog_1_method_68_code l) (sx_iB_s aJ_283_10) (sx_iB_s aJ_283_11)))))
def aW_283 : Nat → Option (Instr × Nat) := fun pc => sx_iF (aS_283 pc) pc
theorem aX_283 : ∀ pc i len, aW_283 pc = some (i, len) → decode aM_283.1.2.1 pc = .ok (i, len) := fun pc i len h => sx_iF_s (aT_283 pc) h
def aI_284_0 : sx_IL := [(0, .iconst 0, 1), (1, .istore 4, 2), (3, .iload 4, 2), (5, .aload_n 0, 1), (6, .getfield 423, 3), (9, .if_icmp .ge 41, 3)]
theorem aJ_284_0 : sx_iB prog_1_method_69_code aI_284_0 = true := by decide +kernel
def aI_284_1 : sx_IL := [(12, .aload_n 0, 1), (13, .getfield 50, 3), (16, .iload 4, 2), (18, .aaload, 1), (19, .astore 5, 2), (21, .aload 5, 2)]
theorem aJ_284_1 : sx_iB prog_1_method_69_code aI_284_1 = true := by decide +kernel
def aI_284_2 : sx_IL := [(23, .getfield 80, 3), (26, .iconst 0, 1), (27, .aload 5, 2), (29, .getfield 69, 3), (32, .aload_n 1, 1), (33, .iload_n 2, 1)]
theorem aJ_284_2 : sx_iB prog_1_method_69_code aI_284_2 = true := by decide +kernel
def aI_284_3 : sx_IL := [(34, .iload_n 3, 1), (35, .invokestatic 426, 3), (38, .ifCond .eq 6, 3), (41, .iload 4, 2), (43, .ireturn, 1), (44, .iinc 4 1, 3)]
theorem aJ_284_3 : sx_iB prog_1_method_69_code aI_284_3 = true := by decide +kernel
def aI_284_4 : sx_IL := [(47, .goto (-44), 3), (50, .aload_n 0, 1), (51, .getfield 423, 3), (54, .ireturn, 1)]
theorem aJ_284_4 : sx_iB prog_1_method_69_code aI_284_4 = true := by decide +kernel
def aS_284 (pc : Nat) : sx_IL := (if pc < 23 then (if pc < 12 then aI_284_0 else aI_284_1) else (if pc < 34 then aI_284_2 else (if pc < 47 then aI_284_3 else aI_284_4)))
theorem aT_284 (pc : Nat) : sx_iOk prog_1_method_69_code (aS_284 pc) := (sx_ite (p := fun l => sx_iOk prog_1_method_69_code l) (sx_ite (p := fun l => sx_iOk prog_1_method_69_code l) (sx_iB_s aJ_284_0) (sx_iB_s aJ_284_1)) (sx_ite (p := fun l => sx_iOk prog_1_method_69_code l) (sx_iB_s aJ_284_2) (sx_ite (p := fun l => sx_iOk prog_1_method_69_code l) (sx_iB_s aJ_284_3) (sx_iB_s aJ_284_4))))
def aW_284 : Nat → Option (Instr × Nat) := fun pc => sx_iF (aS_284 pc) pc
theorem aX_284 : ∀ pc i len, aW_284 pc = some (i, len) → decode aM_284.1.2.1 pc = .ok (i, len) := fun pc i len h => sx_iF_s (aT_284 pc) h
def aI_285_0 : sx_IL := [(0, .aload_n 0, 1), (1, .iload_n 1, 1), (2, .iload_n 2, 1), (3, .invokevirtual 415, 3), (6, .ifCond .eq 22, 3), (9, .iload_n 3, 1)]
theorem aJ_285_0 : sx_iB prog_1_method_70_code aI_285_0 = true := by decide +kernel
def aI_285_1 : sx_IL := [(10, .ifCond .lt 18, 3), (13, .iload_n 3, 1), (14, .aload_n 0, 1), (15, .getfield 46, 3), (18, .iload_n 1, 1), (19, .aaload, 1)]
theorem aJ_285_1 : sx_iB prog_1_method_70_code aI_285_1 = true := by decide +kernel
def aI_285_2 : sx_IL := [(20, .getfield 430, 3), (23, .iload_n 2, 1), (24, .iaload, 1), (25, .if_icmp .lt 5, 3), (28, .iconst (-1), 1), (29, .ireturn, 1)]
theorem aJ_285_2 : sx_iB prog_1_method_70_code aI_285_2 = true := by decide +kernel
def aI_285_3 : sx_IL := [(30, .aload_n 0, 1), (31, .getfield 46, 3), (34, .iload_n 1, 1), (35, .aaload, 1), (36, .astore 4, 2), (38, .aload 4, 2)]
theorem aJ_285_3 : sx_iB prog_1_method_70_code aI_285_3 = true := by decide +kernel
def aI_285_4 : sx_IL := [(40, .iload_n 2, 1), (41, .iload_n 3, 1), (42, .invokevirtual 433, 3), (45, .ifCond .ne 6, 3), (48, .bipush (-2), 2), (50, .ireturn, 1)]
theorem aJ_285_4 : sx_iB prog_1_method_70_code aI_285_4 = true := by decide +kernel
def aI_285_5 : sx_IL := [(51, .aload 4, 2), (53, .getfield 436, 3), (56, .iconst 3, 1), (57, .iload_n 2, 1), (58, .imul, 1), (59, .iload_n 3, 1)]
theorem aJ_285_5 : sx_iB prog_1_method_70_code aI_285_5 = true := by decide +kernel
def aI_285_6 : sx_IL := [(60, .iadd, 1), (61, .aaload, 1), (62, .astore 5, 2), (64, .aload_n 0, 1), (65, .aload 5, 2), (67, .getfield 80, 3)]
theorem aJ_285_6 : sx_iB prog_1_method_70_code aI_285_6 = true := by decide +kernel
def aI_285_7 : sx_IL := [(70, .aload 5, 2), (72, .getfield 80, 3), (75, .iconst 0, 1), (76, .aload 5, 2), (78, .getfield 69, 3), (81, .invokestatic 439, 3)]
theorem aJ_285_7 : sx_iB prog_1_method_70_code aI_285_7 = true := by decide +kernel
def aI_285_8 : sx_IL := [(84, .aload 5, 2), (86, .getfield 69, 3), (89, .invokevirtual 420, 3), (92, .istore 6, 2), (94, .iload 6, 2), (96, .aload_n 0, 1)]
theorem aJ_285_8 : sx_iB prog_1_method_70_code aI_285_8 = true := by decide +kernel
def aI_285_9 : sx_IL := [(97, .getfield 423, 3), (100, .if_icmp .ge 25, 3), (103, .aload_n 0, 1), (104, .getfield 54, 3), (107, .iload 6, 2), (109, .laload, 1)]
theorem aJ_285_9 : sx_iB prog_1_method_70_code aI_285_9 = true := by decide +kernel
def aI_285_10 : sx_IL := [(110, .aload 4, 2), (112, .iload_n 2, 1), (113, .iload_n 3, 1), (114, .invokevirtual 442, 3), (117, .lcmp, 1), (118, .ifCond .ne 7, 3)]
theorem aJ_285_10 : sx_iB prog_1_method_70_code aI_285_10 = true := by decide +kernel
def aI_285_11 : sx_IL := [(121, .iconst 1, 1), (122, .goto 4, 3), (125, .iconst 0, 1), (126, .istore 7, 2), (128, .aload 4, 2), (130, .iload_n 2, 1)]
theorem aJ_285_11 : sx_iB prog_1_method_70_code aI_285_11 = true := by decide +kernel
def aI_285_12 : sx_IL := [(131, .iload_n 3, 1), (132, .iload 7, 2), (134, .invokevirtual 446, 3), (137, .ireturn, 1)]
theorem aJ_285_12 : sx_iB prog_1_method_70_code aI_285_12 = true := by decide +kernel
def aS_285 (pc : Nat) : sx_IL := (if pc < 60 then (if pc < 30 then (if pc < 10 then aI_285_0 else (if pc < 20 then aI_285_1 else aI_285_2)) else (if pc < 40 then aI_285_3 else (if pc < 51 then aI_285_4 else aI_285_5))) else (if pc < 97 then (if pc < 70 then aI_285_6 else (if pc < 84 then aI_285_7 else aI_285_8)) else (if pc < 121 then (if pc < 110 then aI_285_9 else aI_285_10) else (if pc < 131 then aI_285_11 else aI_285_12))))
theorem aT_285 (pc : Nat) : sx_iOk prog_1_method_70_code (aS_285 pc) := (sx_ite (p := fun l => sx_iOk prog_1_method_70_code l) (sx_ite (p := fun l => sx_iOk prog_1_method_70_code l) (sx_ite (p := fun l => sx_iOk prog_1_method_70_code l) (sx_iB_s aJ_285_0) (sx_ite (p := fun l => sx_iOk prog_1_method_70_code l) (sx_iB_s aJ_285_1) (sx_iB_s aJ_285_2))) (sx_ite (p := fun l => sx_iOk prog_1_method_70_code l) (sx_iB_s aJ_285_3) (sx_ite (p := fun l => sx_iOk prog_1_method_70_code l) (sx_iB_s aJ_285_4) (sx_iB_s aJ_285_5)))) (sx_ite (p := fun l => sx_iOk prog_1_method_70_code l) (sx_ite (p := fun l => sx_iOk prog_1_method_70_code l) (sx_iB_s aJ_285_6) (sx_ite (p := fun l => sx_iOk prog_1_method_70_code l) (sx_iB_s aJ_285_7) (sx_iB_s aJ_285_8))) (sx_ite (p := fun l => sx_iOk prog_1_method_70_code l) (sx_ite (p := fun l => sx_iOk prog_1_method_70_code l) (sx_iB_s aJ_285_9) (sx_iB_s aJ_285_10)) (sx_ite (p := fun l => sx_iOk prog_1_method_70_code l) (sx_iB_s aJ_285_11) (sx_iB_s aJ_285_12)))))
def aW_285 : Nat → Option (Instr × Nat) := fun pc => sx_iF (aS_285 pc) pc
theorem aX_285 : ∀ pc i len, aW_285 pc = some (i, len) → decode aM_285.1.2.1 pc = .ok (i, len) := fun pc i len h => sx_iF_s (aT_285 pc) h
def aI_286_0 : sx_IL := [(0, .aload_n 0, 1), (1, .getfield 15, 3), (4, .iload_n 1, 1), (5, .iaload, 1), (6, .ifCond .ne 20, 3), (9, .aload_n 0, 1)]
theorem aJ_286_0 : sx_iB prog_7_method_7_code aI_286_0 = true := by decide +kernel
def aI_286_1 : sx_IL := [(10, .getfield 37, 3), (13, .iconst 3, 1), (14, .iload_n 1, 1), (15, .imul, 1), (16, .iload_n 2, 1), (17, .iadd, 1)]
theorem aJ_286_1 : sx_iB prog_7_method_7_code aI_286_1 = true := by decide +kernel
def aI_286_2 : sx_IL := [(18, .iaload, 1), (19, .ifCond .ne 7, 3), (22, .iconst 1, 1), (23, .goto 4, 3), (26, .iconst 0, 1), (27, .ireturn, 1)]
theorem aJ_286_2 : sx_iB prog_7_method_7_code aI_286_2 = true := by decide +kernel
def aS_286 (pc : Nat) : sx_IL := (if pc < 10 then aI_286_0 else (if pc < 18 then aI_286_1 else aI_286_2))
theorem aT_286 (pc : Nat) : sx_iOk prog_7_method_7_code (aS_286 pc) := (sx_ite (p := fun l => sx_iOk prog_7_method_7_code l) (sx_iB_s aJ_286_0) (sx_ite (p := fun l => sx_iOk prog_7_method_7_code l) (sx_iB_s aJ_286_1) (sx_iB_s aJ_286_2)))
def aW_286 : Nat → Option (Instr × Nat) := fun pc => sx_iF (aS_286 pc) pc
theorem aX_286 : ∀ pc i len, aW_286 pc = some (i, len) → decode aM_286.1.2.1 pc = .ok (i, len) := fun pc i len h => sx_iF_s (aT_286 pc) h
def aI_287_0 : sx_IL := [(0, .aload_n 0, 1), (1, .getfield 43, 3), (4, .getfield 102, 3), (7, .iconst 0, 1), (8, .aload_n 0, 1), (9, .getfield 11, 3)]
theorem aJ_287_0 : sx_iB prog_7_method_8_code aI_287_0 = true := by decide +kernel
def aI_287_1 : sx_IL := [(12, .aload_n 0, 1), (13, .getfield 19, 3), (16, .iload_n 1, 1), (17, .iaload, 1), (18, .laload, 1), (19, .bipush 122, 2)]
theorem aJ_287_1 : sx_iB prog_7_method_8_code aI_287_1 = true := by decide +kernel
def aI_287_2 : sx_IL := [(21, .aload_n 0, 1), (22, .getfield 34, 3), (25, .iconst 3, 1), (26, .iload_n 1, 1), (27, .imul, 1), (28, .iload_n 2, 1)]
theorem aJ_287_2 : sx_iB prog_7_method_8_code aI_287_2 = true := by decide +kernel
def aI_287_3 : sx_IL := [(29, .iadd, 1), (30, .iaload, 1), (31, .i2l, 1), (32, .invokevirtual 108, 3), (35, .lreturn, 1)]
theorem aJ_287_3 : sx_iB prog_7_method_8_code aI_287_3 = true := by decide +kernel
def aS_287 (pc : Nat) : sx_IL := (if pc < 21 then (if pc < 12 then aI_287_0 else aI_287_1) else (if pc < 29 then aI_287_2 else aI_287_3))
theorem aT_287 (pc : Nat) : sx_iOk prog_7_method_8_code (aS_287 pc) := (sx_ite (p := fun l => sx_iOk prog_7_method_8_code l) (sx_ite (p := fun l => sx_iOk prog_7_method_8_code l) (sx_iB_s aJ_287_0) (sx_iB_s aJ_287_1)) (sx_ite (p := fun l => sx_iOk prog_7_method_8_code l) (sx_iB_s aJ_287_2) (sx_iB_s aJ_287_3)))
def aW_287 : Nat → Option (Instr × Nat) := fun pc => sx_iF (aS_287 pc) pc
theorem aX_287 : ∀ pc i len, aW_287 pc = some (i, len) → decode aM_287.1.2.1 pc = .ok (i, len) := fun pc i len h => sx_iF_s (aT_287 pc) h
def aI_288_0 : sx_IL := [(0, .iconst 3, 1), (1, .iload_n 1, 1), (2, .imul, 1), (3, .istore 4, 2), (5, .aload_n 0, 1), (6, .getfield 37, 3)]
theorem aJ_288_0 : sx_iB prog_7_method_9_code aI_288_0 = true := by decide +kernel
def aI_288_1 : sx_IL := [(9, .iload 4, 2), (11, .iload_n 2, 1), (12, .iadd, 1), (13, .iload_n 3, 1), (14, .ifCond .eq 7, 3), (17, .iconst 1, 1)]
theorem aJ_288_1 : sx_iB prog_7_method_9_code aI_288_1 = true := by decide +kernel
def aI_288_2 : sx_IL := [(18, .goto 4, 3), (21, .iconst 2, 1), (22, .iastore, 1), (23, .iconst 1, 1), (24, .istore 5, 2), (26, .iconst 0, 1)]
theorem aJ_288_2 : sx_iB prog_7_method_9_code aI_288_2 = true := by decide +kernel
def aI_288_3 : sx_IL := [(27, .istore 6, 2), (29, .iload 6, 2), (31, .aload_n 0, 1), (32, .getfield 25, 3), (35, .iload_n 1, 1), (36, .iaload, 1)]
theorem aJ_288_3 : sx_iB prog_7_method_9_code aI_288_3 = true := by decide +kernel
def aI_288_4 : sx_IL := [(37, .if_icmp .ge 35, 3), (40, .iload 5, 2), (42, .ifCond .eq 21, 3), (45, .aload_n 0, 1), (46, .getfield 37, 3), (49, .iload 4, 2)]
theorem aJ_288_4 : sx_iB prog_7_method_9_code aI_288_4 = true := by decide +kernel
def aI_288_5 : sx_IL := [(51, .iload 6, 2), (53, .iadd, 1), (54, .iaload, 1), (55, .iconst 1, 1), (56, .if_icmp .ne 7, 3), (59, .iconst 1, 1)]
theorem aJ_288_5 : sx_iB prog_7_method_9_code aI_288_5 = true := by decide +kernel
def aI_288_6 : sx_IL := [(60, .goto 4, 3), (63, .iconst 0, 1), (64, .istore 5, 2), (66, .iinc 6 1, 3), (69, .goto (-40), 3), (72, .aload_n 0, 1)]
theorem aJ_288_6 : sx_iB prog_7_method_9_code aI_288_6 = true := by decide +kernel
def aI_288_7 : sx_IL := [(73, .getfield 15, 3), (76, .iload_n 1, 1), (77, .iload_n 3, 1), (78, .ifCond .ne 7, 3), (81, .iconst 3, 1), (82, .goto 13, 3)]
theorem aJ_288_7 : sx_iB prog_7_method_9_code aI_288_7 = true := by decide +kernel
def aI_288_8 : sx_IL := [(85, .iload 5, 2), (87, .ifCond .eq 7, 3), (90, .iconst 1, 1), (91, .goto 4, 3), (94, .iconst 0, 1), (95, .iastore, 1)]
theorem aJ_288_8 : sx_iB prog_7_method_9_code aI_288_8 = true := by decide +kernel
def aI_288_9 : sx_IL := [(96, .aload_n 0, 1), (97, .getfield 37, 3), (100, .iload 4, 2), (102, .iload_n 2, 1), (103, .iadd, 1), (104, .iaload, 1)]
theorem aJ_288_9 : sx_iB prog_7_method_9_code aI_288_9 = true := by decide +kernel
def aI_288_10 : sx_IL := [(105, .ireturn, 1)]
theorem aJ_288_10 : sx_iB prog_7_method_9_code aI_288_10 = true := by decide +kernel
def aS_288 (pc : Nat) : sx_IL := (if pc < 51 then (if pc < 18 then (if pc < 9 then aI_288_0 else aI_288_1) else (if pc < 27 then aI_288_2 else (if pc < 37 then aI_288_3 else aI_288_4))) else (if pc < 85 then (if pc < 60 then aI_288_5 else (if pc < 73 then aI_288_6 else aI_288_7)) else (if pc < 96 then aI_288_8 else (if pc < 105 then aI_288_9 else aI_288_10))))
theorem aT_288 (pc : Nat) : sx_iOk prog_7_method_9_code (aS_288 pc) := (sx_ite (p := fun l => sx_iOk prog_7_method_9_code l) (sx_ite (p := fun l => sx_iOk prog_7_method_9_code l) (sx_ite (p := fun l => sx_iOk prog_7_method_9_code l) (sx_iB_s aJ_288_0) (sx_iB_s aJ_288_1)) (sx_ite (p := fun l => sx_iOk prog_7_method_9_code l) (sx_iB_s aJ_288_2) (sx_ite (p := fun l => sx_iOk prog_7_method_9_code l) (sx_iB_s aJ_288_3) (sx_iB_s aJ_288_4)))) (sx_ite (p := fun l => sx_iOk prog_7_method_9_code l) (sx_ite (p := fun l => sx_iOk prog_7_method_9_code l) (sx_iB_s aJ_288_5) (sx_ite (p := fun l => sx_iOk prog_7_method_9_code l) (sx_iB_s aJ_288_6) (sx_iB_s aJ_288_7))) (sx_ite (p := fun l => sx_iOk prog_7_method_9_code l) (sx_iB_s aJ_288_8) (sx_ite (p := fun l => sx_iOk prog_7_method_9_code l) (sx_iB_s aJ_288_9) (sx_iB_s aJ_288_10)))))
def aW_288 : Nat → Option (Instr × Nat) := fun pc => sx_iF (aS_288 pc) pc
theorem aX_288 : ∀ pc i len, aW_288 pc = some (i, len) → decode aM_288.1.2.1 pc = .ok (i, len) := fun pc i len h => sx_iF_s (aT_288 pc) h
def aI_289_0 : sx_IL := [(0, .aload_n 0, 1), (1, .iload_n 1, 1), (2, .iload_n 2, 1), (3, .invokevirtual 415, 3), (6, .ifCond .eq 23, 3), (9, .iload_n 3, 1)]
theorem aJ_289_0 : sx_iB prog_1_method_71_code aI_289_0 = true := by decide +kernel
def aI_289_1 : sx_IL := [(10, .iconst 2, 1), (11, .if_icmp .lt 18, 3), (14, .iload_n 3, 1), (15, .ldc_w 450, 3), (18, .if_icmp .gt 11, 3), (21, .iload 4, 2)]
theorem aJ_289_1 : sx_iB prog_1_method_71_code aI_289_1 = true := by decide +kernel
def aI_289_2 : sx_IL := [(23, .invokestatic 451, 3), (26, .ifCond .ne 5, 3), (29, .iconst (-1), 1), (30, .ireturn, 1), (31, .aload_n 0, 1), (32, .getfield 46, 3)]
theorem aJ_289_2 : sx_iB prog_1_method_71_code aI_289_2 = true := by decide +kernel
def aI_289_3 : sx_IL := [(35, .iload_n 1, 1), (36, .aaload, 1), (37, .iload_n 2, 1), (38, .iload_n 3, 1), (39, .iload 4, 2), (41, .invokevirtual 454, 3)]
theorem aJ_289_3 : sx_iB prog_1_method_71_code aI_289_3 = true := by decide +kernel
def aI_289_4 : sx_IL := [(44, .ireturn, 1)]
theorem aJ_289_4 : sx_iB prog_1_method_71_code aI_289_4 = true := by decide +kernel
def aS_289 (pc : Nat) : sx_IL := (if pc < 23 then (if pc < 10 then aI_289_0 else aI_289_1) else (if pc < 35 then aI_289_2 else (if pc < 44 then aI_289_3 else aI_289_4)))
theorem aT_289 (pc : Nat) : sx_iOk prog_1_method_71_code (aS_289 pc) := (sx_ite (p := fun l => sx_iOk prog_1_method_71_code l) (sx_ite (p := fun l => sx_iOk prog_1_method_71_code l) (sx_iB_s aJ_289_0) (sx_iB_s aJ_289_1)) (sx_ite (p := fun l => sx_iOk prog_1_method_71_code l) (sx_iB_s aJ_289_2) (sx_ite (p := fun l => sx_iOk prog_1_method_71_code l) (sx_iB_s aJ_289_3) (sx_iB_s aJ_289_4))))
def aW_289 : Nat → Option (Instr × Nat) := fun pc => sx_iF (aS_289 pc) pc
theorem aX_289 : ∀ pc i len, aW_289 pc = some (i, len) → decode aM_289.1.2.1 pc = .ok (i, len) := fun pc i len h => sx_iF_s (aT_289 pc) h
def aI_290_0 : sx_IL := [(0, .iload_n 0, 1), (1, .iconst 1, 1), (2, .if_icmp .lt 13, 3), (5, .iload_n 0, 1), (6, .ldc 87, 2), (8, .if_icmp .gt 7, 3)]
theorem aJ_290_0 : sx_iB prog_1_method_64_code aI_290_0 = true := by decide +kernel
def aI_290_1 : sx_IL := [(11, .iconst 1, 1), (12, .goto 4, 3), (15, .iconst 0, 1), (16, .ireturn, 1)]
theorem aJ_290_1 : sx_iB prog_1_method_64_code aI_290_1 = true := by decide +kernel
def aS_290 (pc : Nat) : sx_IL := (if pc < 11 then aI_290_0 else aI_290_1)
theorem aT_290 (pc : Nat) : sx_iOk prog_1_method_64_code (aS_290 pc) := (sx_ite (p := fun l => sx_iOk prog_1_method_64_code l) (sx_iB_s aJ_290_0) (sx_iB_s aJ_290_1))
def aW_290 : Nat → Option (Instr × Nat) := fun pc => sx_iF (aS_290 pc) pc
theorem aX_290 : ∀ pc i len, aW_290 pc = some (i, len) → decode aM_290.1.2.1 pc = .ok (i, len) := fun pc i len h => sx_iF_s (aT_290 pc) h
def aI_291_0 : sx_IL := [(0, .aload_n 0, 1), (1, .getfield 15, 3), (4, .iload_n 1, 1), (5, .iaload, 1), (6, .iconst 1, 1), (7, .if_icmp .eq 6, 3)]
theorem aJ_291_0 : sx_iB prog_7_method_11_code aI_291_0 = true := by decide +kernel
def aI_291_1 : sx_IL := [(10, .bipush (-2), 2), (12, .ireturn, 1), (13, .aload_n 0, 1), (14, .getfield 43, 3), (17, .getfield 117, 3), (20, .bipush 30, 2)]
theorem aJ_291_1 : sx_iB prog_7_method_11_code aI_291_1 = true := by decide +kernel
def aI_291_2 : sx_IL := [(22, .if_icmp .lt 6, 3), (25, .bipush (-3), 2), (27, .ireturn, 1), (28, .aload_n 0, 1), (29, .getfield 43, 3), (32, .iconst 0, 1)]
theorem aJ_291_2 : sx_iB prog_7_method_11_code aI_291_2 = true := by decide +kernel
def aI_291_3 : sx_IL := [(33, .aload_n 0, 1), (34, .aload_n 0, 1), (35, .iload_n 1, 1), (36, .iload_n 2, 1), (37, .iload_n 3, 1), (38, .invokevirtual 120, 3)]
theorem aJ_291_3 : sx_iB prog_7_method_11_code aI_291_3 = true := by decide +kernel
def aI_291_4 : sx_IL := [(41, .invokevirtual 124, 3), (44, .invokevirtual 128, 3), (47, .istore 4, 2), (49, .iload 4, 2), (51, .ifCond .lt 28, 3), (54, .aload_n 0, 1)]
theorem aJ_291_4 : sx_iB prog_7_method_11_code aI_291_4 = true := by decide +kernel
def aI_291_5 : sx_IL := [(55, .dup, 1), (56, .getfield 114, 3), (59, .iconst 1, 1), (60, .iadd, 1), (61, .putfield 114, 3), (64, .aload_n 0, 1)]
theorem aJ_291_5 : sx_iB prog_7_method_11_code aI_291_5 = true := by decide +kernel
def aI_291_6 : sx_IL := [(65, .getfield 15, 3), (68, .iload_n 1, 1), (69, .iconst 2, 1), (70, .iastore, 1), (71, .aload_n 0, 1), (72, .getfield 22, 3)]
theorem aJ_291_6 : sx_iB prog_7_method_11_code aI_291_6 = true := by decide +kernel
def aI_291_7 : sx_IL := [(75, .iload_n 1, 1), (76, .iload 4, 2), (78, .iastore, 1), (79, .iload 4, 2), (81, .ireturn, 1)]
theorem aJ_291_7 : sx_iB prog_7_method_11_code aI_291_7 = true := by decide +kernel
def aS_291 (pc : Nat) : sx_IL := (if pc < 41 then (if pc < 22 then (if pc < 10 then aI_291_0 else aI_291_1) else (if pc < 33 then aI_291_2 else aI_291_3)) else (if pc < 65 then (if pc < 55 then aI_291_4 else aI_291_5) else (if pc < 75 then aI_291_6 else aI_291_7)))
theorem aT_291 (pc : Nat) : sx_iOk prog_7_method_11_code (aS_291 pc) := (sx_ite (p := fun l => sx_iOk prog_7_method_11_code l) (sx_ite (p := fun l => sx_iOk prog_7_method_11_code l) (sx_ite (p := fun l => sx_iOk prog_7_method_11_code l) (sx_iB_s aJ_291_0) (sx_iB_s aJ_291_1)) (sx_ite (p := fun l => sx_iOk prog_7_method_11_code l) (sx_iB_s aJ_291_2) (sx_iB_s aJ_291_3))) (sx_ite (p := fun l => sx_iOk prog_7_method_11_code l) (sx_ite (p := fun l => sx_iOk prog_7_method_11_code l) (sx_iB_s aJ_291_4) (sx_iB_s aJ_291_5)) (sx_ite (p := fun l => sx_iOk prog_7_method_11_code l) (sx_iB_s aJ_291_6) (sx_iB_s aJ_291_7))))
def aW_291 : Nat → Option (Instr × Nat) := fun pc => sx_iF (aS_291 pc) pc
theorem aX_291 : ∀ pc i len, aW_291 pc = some (i, len) → decode aM_291.1.2.1 pc = .ok (i, len) := fun pc i len h => sx_iF_s (aT_291 pc) h
def aI_292_0 : sx_IL := [(0, .iconst 3, 1), (1, .iload_n 1, 1), (2, .imul, 1), (3, .istore 4, 2), (5, .aload_n 0, 1), (6, .getfield 43, 3)]
theorem aJ_292_0 : sx_iB prog_7_method_12_code aI_292_0 = true := by decide +kernel
def aI_292_1 : sx_IL := [(9, .getfield 132, 3), (12, .astore 5, 2), (14, .aload 5, 2), (16, .invokevirtual 136, 3), (19, .aload 5, 2), (21, .aload_n 0, 1)]
theorem aJ_292_1 : sx_iB prog_7_method_12_code aI_292_1 = true := by decide +kernel
def aI_292_2 : sx_IL := [(22, .getfield 114, 3), (25, .iconst 1, 1), (26, .iadd, 1), (27, .invokevirtual 139, 3), (30, .aload_n 0, 1), (31, .aload 5, 2)]
theorem aJ_292_2 : sx_iB prog_7_method_12_code aI_292_2 = true := by decide +kernel
def aI_292_3 : sx_IL := [(33, .invokevirtual 142, 3), (36, .aload_n 0, 1), (37, .getfield 30, 3), (40, .iload 4, 2), (42, .aaload, 1), (43, .astore 6, 2)]
theorem aJ_292_3 : sx_iB prog_7_method_12_code aI_292_3 = true := by decide +kernel
def aI_292_4 : sx_IL := [(45, .aload 5, 2), (47, .bipush 12, 2), (49, .aload 6, 2), (51, .getfield 75, 3), (54, .aload 6, 2), (56, .getfield 75, 3)]
theorem aJ_292_4 : sx_iB prog_7_method_12_code aI_292_4 = true := by decide +kernel
def aI_292_5 : sx_IL := [(59, .iconst 0, 1), (60, .aload 6, 2), (62, .getfield 85, 3), (65, .invokestatic 146, 3), (68, .aload 6, 2), (70, .getfield 85, 3)]
theorem aJ_292_5 : sx_iB prog_7_method_12_code aI_292_5 = true := by decide +kernel
def aI_292_6 : sx_IL := [(73, .invokevirtual 150, 3), (76, .aload_n 0, 1), (77, .aload 5, 2), (79, .iload_n 3, 1), (80, .invokevirtual 154, 3), (83, .aload 5, 2)]
theorem aJ_292_6 : sx_iB prog_7_method_12_code aI_292_6 = true := by decide +kernel
def aI_292_7 : sx_IL := [(85, .iconst 4, 1), (86, .iconst 4, 1), (87, .invokevirtual 158, 3), (90, .aload 5, 2), (92, .iload_n 2, 1), (93, .invokevirtual 162, 3)]
theorem aJ_292_7 : sx_iB prog_7_method_12_code aI_292_7 = true := by decide +kernel
def aI_292_8 : sx_IL := [(96, .aload 5, 2), (98, .sipush 163, 3), (101, .iconst 1, 1), (102, .invokevirtual 158, 3), (105, .aload 5, 2), (107, .iconst 3, 1)]
theorem aJ_292_8 : sx_iB prog_7_method_12_code aI_292_8 = true := by decide +kernel
def aI_292_9 : sx_IL := [(108, .invokevirtual 165, 3), (111, .iconst 0, 1), (112, .istore 7, 2), (114, .iconst 0, 1), (115, .istore 8, 2), (117, .iload 8, 2)]
theorem aJ_292_9 : sx_iB prog_7_method_12_code aI_292_9 = true := by decide +kernel
def aI_292_10 : sx_IL := [(119, .aload_n 0, 1), (120, .getfield 25, 3), (123, .iload_n 1, 1), (124, .iaload, 1), (125, .if_icmp .ge 29, 3), (128, .iload 7, 2)]
theorem aJ_292_10 : sx_iB prog_7_method_12_code aI_292_10 = true := by decide +kernel
def aI_292_11 : sx_IL := [(130, .iconst 2, 1), (131, .aload_n 0, 1), (132, .getfield 30, 3), (135, .iload 4, 2), (137, .iload 8, 2), (139, .iadd, 1)]
theorem aJ_292_11 : sx_iB prog_7_method_12_code aI_292_11 = true := by decide +kernel
def aI_292_12 : sx_IL := [(140, .aaload, 1), (141, .getfield 85, 3), (144, .iadd, 1), (145, .iadd, 1), (146, .istore 7, 2), (148, .iinc 8 1, 3)]
theorem aJ_292_12 : sx_iB prog_7_method_12_code aI_292_12 = true := by decide +kernel
def aI_292_13 : sx_IL := [(151, .goto (-34), 3), (154, .aload 5, 2), (156, .sipush 164, 3), (159, .iload 7, 2), (161, .invokevirtual 158, 3), (164, .iconst 0, 1)]
theorem aJ_292_13 : sx_iB prog_7_method_12_code aI_292_13 = true := by decide +kernel
def aI_292_14 : sx_IL := [(165, .istore 8, 2), (167, .iload 8, 2), (169, .aload_n 0, 1), (170, .getfield 25, 3), (173, .iload_n 1, 1), (174, .iaload, 1)]
theorem aJ_292_14 : sx_iB prog_7_method_12_code aI_292_14 = true := by decide +kernel
def aI_292_15 : sx_IL := [(175, .if_icmp .ge 43, 3), (178, .aload 5, 2), (180, .bipush 12, 2), (182, .aload_n 0, 1), (183, .getfield 30, 3), (186, .iload 4, 2)]
theorem aJ_292_15 : sx_iB prog_7_method_12_code aI_292_15 = true := by decide +kernel
def aI_292_16 : sx_IL := [(188, .iload 8, 2), (190, .iadd, 1), (191, .aaload, 1), (192, .getfield 75, 3), (195, .iconst 0, 1), (196, .aload_n 0, 1)]
theorem aJ_292_16 : sx_iB prog_7_method_12_code aI_292_16 = true := by decide +kernel
def aI_292_17 : sx_IL := [(197, .getfield 30, 3), (200, .iload 4, 2), (202, .iload 8, 2), (204, .iadd, 1), (205, .aaload, 1), (206, .getfield 85, 3)]
theorem aJ_292_17 : sx_iB prog_7_method_12_code aI_292_17 = true := by decide +kernel
def aI_292_18 : sx_IL := [(209, .invokevirtual 150, 3), (212, .iinc 8 1, 3), (215, .goto (-48), 3), (218, .aload 5, 2), (220, .areturn, 1)]
theorem aJ_292_18 : sx_iB prog_7_method_12_code aI_292_18 = true := by decide +kernel
def aS_292 (pc : Nat) : sx_IL := (if pc < 108 then (if pc < 45 then (if pc < 22 then (if pc < 9 then aI_292_0 else aI_292_1) else (if pc < 33 then aI_292_2 else aI_292_3)) else (if pc < 73 then (if pc < 59 then aI_292_4 else aI_292_5) else (if pc < 85 then aI_292_6 else (if pc < 96 then aI_292_7 else aI_292_8)))) else (if pc < 165 then (if pc < 130 then (if pc < 119 then aI_292_9 else aI_292_10) else (if pc < 140 then aI_292_11 else (if pc < 151 then aI_292_12 else aI_292_13))) else (if pc < 188 then (if pc < 175 then aI_292_14 else aI_292_15) else (if pc < 197 then aI_292_16 else (if pc < 209 then aI_292_17 else aI_292_18)))))
theorem aT_292 (pc : Nat) : sx_iOk prog_7_method_12_code (aS_292 pc) := (sx_ite (p := fun l => sx_iOk prog_7_method_12_code l) (sx_ite (p := fun l => sx_iOk prog_7_method_12_code l) (sx_ite (p := fun l => sx_iOk prog_7_method_12_code l) (sx_ite (p := fun l => sx_iOk prog_7_method_12_code l) (sx_iB_s aJ_292_0) (sx_iB_s aJ_292_1)) (sx_ite (p := fun l => sx_iOk prog_7_method_12_code l) (sx_iB_s aJ_292_2) (sx_iB_s aJ_292_3))) (sx_ite (p := fun l => sx_iOk prog_7_method_12_code l) (sx_ite (p := fun l => sx_iOk prog_7_method_12_code l) (sx_iB_s aJ_292_4) (sx_iB_s aJ_292_5)) (sx_ite (p := fun l => sx_iOk prog_7_method_12_code l) (sx_iB_s aJ_292_6) (sx_ite (p := fun l => sx_iOk prog_7_method_12_code l) (sx_iB_s aJ_292_7) (sx_iB_s aJ_292_8))))) (sx_ite (p := fun l => sx_iOk prog_7_method_12_code l) (sx_ite (p := fun l => sx_iOk prog_7_method_12_code l) (sx_ite (p := fun l => sx_iOk prog_7_method_12_code l) (sx_iB_s aJ_292_9) (sx_iB_s aJ_292_10)) (sx_ite (p := fun l => sx_iOk prog_7_method_12_code l) (sx_iB_s aJ_292_11) (sx_ite (p := fun l => sx_iOk prog_7_method_12_code l) (sx_iB_s aJ_292_12) (sx_iB_s aJ_292_13)))) (sx_ite (p := fun l => sx_iOk prog_7_method_12_code l) (sx_ite (p := fun l => sx_iOk prog_7_method_12_code l) (sx_iB_s aJ_292_14) (sx_iB_s aJ_292_15)) (sx_ite (p := fun l => sx_iOk prog_7_method_12_code l) (sx_iB_s aJ_292_16) (sx_ite (p := fun l => sx_iOk prog_7_method_12_code l) (sx_iB_s aJ_292_17) (sx_iB_s aJ_292_18))))))
def aW_292 : Nat → Option (Instr × Nat) := fun pc => sx_iF (aS_292 pc) pc
theorem aX_292 : ∀ pc i len, aW_292 pc = some (i, len) → decode aM_292.1.2.1 pc = .ok (i, len) := fun pc i len h => sx_iF_s (aT_292 pc) h
def aI_293_0 : sx_IL := [(0, .iload_n 1, 1), (1, .sipush 128, 3), (4, .if_icmp .ge 7, 3), (7, .iconst 1, 1), (8, .goto 24, 3), (11, .iload_n 1, 1)]
theorem aJ_293_0 : sx_iB prog_9_method_16_code aI_293_0 = true := by decide +kernel
def aI_293_1 : sx_IL := [(12, .ldc 52, 2), (14, .if_icmp .ge 7, 3), (17, .iconst 2, 1), (18, .goto 14, 3), (21, .iload_n 1, 1), (22, .ldc 53, 2)]
theorem aJ_293_1 : sx_iB prog_9_method_16_code aI_293_1 = true := by decide +kernel
def aI_293_2 : sx_IL := [(24, .if_icmp .ge 7, 3), (27, .iconst 3, 1), (28, .goto 4, 3), (31, .iconst 4, 1), (32, .istore_n 2, 1), (33, .aload_n 0, 1)]
theorem aJ_293_2 : sx_iB prog_9_method_16_code aI_293_2 = true := by decide +kernel
def aI_293_3 : sx_IL := [(34, .iconst 2, 1), (35, .iload_n 2, 1), (36, .invokevirtual 56, 3), (39, .iload_n 2, 1), (40, .iconst 1, 1), (41, .isub, 1)]
theorem aJ_293_3 : sx_iB prog_9_method_16_code aI_293_3 = true := by decide +kernel
def aI_293_4 : sx_IL := [(42, .istore_n 3, 1), (43, .iload_n 3, 1), (44, .ifCond .lt 19, 3), (47, .aload_n 0, 1), (48, .iload_n 1, 1), (49, .bipush 8, 2)]
theorem aJ_293_4 : sx_iB prog_9_method_16_code aI_293_4 = true := by decide +kernel
def aI_293_5 : sx_IL := [(51, .iload_n 3, 1), (52, .imul, 1), (53, .iushr, 1), (54, .invokevirtual 39, 3), (57, .iinc 3 (-1), 3), (60, .goto (-17), 3)]
theorem aJ_293_5 : sx_iB prog_9_method_16_code aI_293_5 = true := by decide +kernel
def aI_293_6 : sx_IL := [(63, .return_, 1)]
theorem aJ_293_6 : sx_iB prog_9_method_16_code aI_293_6 = true := by decide +kernel
def aS_293 (pc : Nat) : sx_IL := (if pc < 34 then (if pc < 12 then aI_293_0 else (if pc < 24 then aI_293_1 else aI_293_2)) else (if pc < 51 then (if pc < 42 then aI_293_3 else aI_293_4) else (if pc < 63 then aI_293_5 else aI_293_6)))
theorem aT_293 (pc : Nat) : sx_iOk prog_9_method_16_code (aS_293 pc) := (sx_ite (p := fun l => sx_iOk prog_9_method_16_code l) (sx_ite (p := fun l => sx_iOk prog_9_method_16_code l) (sx_iB_s aJ_293_0) (sx_ite (p := fun l => sx_iOk prog_9_method_16_code l) (sx_iB_s aJ_293_1) (sx_iB_s aJ_293_2))) (sx_ite (p := fun l => sx_iOk prog_9_method_16_code l) (sx_ite (p := fun l => sx_iOk prog_9_method_16_code l) (sx_iB_s aJ_293_3) (sx_iB_s aJ_293_4)) (sx_ite (p := fun l => sx_iOk prog_9_method_16_code l) (sx_iB_s aJ_293_5) (sx_iB_s aJ_293_6))))
def aW_293 : Nat → Option (Instr × Nat) := fun pc => sx_iF (aS_293 pc) pc
theorem aX_293 : ∀ pc i len, aW_293 pc = some (i, len) → decode aM_293.1.2.1 pc = .ok (i, len) := fun pc i len h => sx_iF_s (aT_293 pc) h
def aI_294_0 : sx_IL := [(0, .aload_n 1, 1), (1, .bipush 12, 2), (3, .aload_n 0, 1), (4, .getfield 47, 3), (7, .getfield 168, 3), (10, .aload_n 0, 1)]
theorem aJ_294_0 : sx_iB prog_7_method_13_code aI_294_0 = true := by decide +kernel
def aI_294_1 : sx_IL := [(11, .getfield 47, 3), (14, .iconst 1, 1), (15, .invokevirtual 169, 3), (18, .aload_n 0, 1), (19, .getfield 47, 3), (22, .iconst 1, 1)]
theorem aJ_294_1 : sx_iB prog_7_method_13_code aI_294_1 = true := by decide +kernel
def aI_294_2 : sx_IL := [(23, .invokevirtual 172, 3), (26, .invokevirtual 150, 3), (29, .return_, 1)]
theorem aJ_294_2 : sx_iB prog_7_method_13_code aI_294_2 = true := by decide +kernel
def aS_294 (pc : Nat) : sx_IL := (if pc < 11 then aI_294_0 else (if pc < 23 then aI_294_1 else aI_294_2))
theorem aT_294 (pc : Nat) : sx_iOk prog_7_method_13_code (aS_294 pc) := (sx_ite (p := fun l => sx_iOk prog_7_method_13_code l) (sx_iB_s aJ_294_0) (sx_ite (p := fun l => sx_iOk prog_7_method_13_code l) (sx_iB_s aJ_294_1) (sx_iB_s aJ_294_2)))
def aW_294 : Nat → Option (Instr × Nat) := fun pc => sx_iF (aS_294 pc) pc
theorem aX_294 : ∀ pc i len, aW_294 pc = some (i, len) → decode aM_294.1.2.1 pc = .ok (i, len) := fun pc i len h => sx_iF_s (aT_294 pc) h
def aI_295_0 : sx_IL := [(0, .aload_n 0, 1), (1, .iload_n 1, 1), (2, .iconst 0, 1), (3, .iload 4, 2), (5, .iload_n 3, 1), (6, .isub, 1)]
theorem aJ_295_0 : sx_iB prog_9_method_17_code aI_295_0 = true := by decide +kernel
def aI_295_1 : sx_IL := [(7, .invokestatic 7, 3), (10, .invokevirtual 56, 3), (13, .aload_n 0, 1), (14, .aload_n 2, 1), (15, .iload_n 3, 1), (16, .iload 4, 2)]
theorem aJ_295_1 : sx_iB prog_9_method_17_code aI_295_1 = true := by decide +kernel
def aI_295_2 : sx_IL := [(18, .invokevirtual 60, 3), (21, .return_, 1)]
theorem aJ_295_2 : sx_iB prog_9_method_17_code aI_295_2 = true := by decide +kernel
def aS_295 (pc : Nat) : sx_IL := (if pc < 7 then aI_295_0 else (if pc < 18 then aI_295_1 else aI_295_2))
theorem aT_295 (pc : Nat) : sx_iOk prog_9_method_17_code (aS_295 pc) := (sx_ite (p := fun l => sx_iOk prog_9_method_17_code l) (sx_iB_s aJ_295_0) (sx_ite (p := fun l => sx_iOk prog_9_method_17_code l) (sx_iB_s aJ_295_1) (sx_iB_s aJ_295_2)))
def aW_295 : Nat → Option (Instr × Nat) := fun pc => sx_iF (aS_295 pc) pc
theorem aX_295 : ∀ pc i len, aW_295 pc = some (i, len) → decode aM_295.1.2.1 pc = .ok (i, len) := fun pc i len h => sx_iF_s (aT_295 pc) h
def aI_296_0 : sx_IL := [(0, .aload_n 1, 1), (1, .aload_n 0, 1), (2, .getfield 43, 3), (5, .getfield 175, 3), (8, .invokevirtual 139, 3), (11, .aload_n 1, 1)]
theorem aJ_296_0 : sx_iB prog_7_method_14_code aI_296_0 = true := by decide +kernel
def aI_296_1 : sx_IL := [(12, .ldc2_w 178, 3), (15, .aload_n 0, 1), (16, .getfield 43, 3), (19, .getfield 175, 3), (22, .i2l, 1), (23, .iload_n 2, 1)]
theorem aJ_296_1 : sx_iB prog_7_method_14_code aI_296_1 = true := by decide +kernel
def aI_296_2 : sx_IL := [(24, .i2l, 1), (25, .ladd, 1), (26, .invokestatic 180, 3), (29, .l2i, 1), (30, .invokevirtual 139, 3), (33, .aload_n 1, 1)]
theorem aJ_296_2 : sx_iB prog_7_method_14_code aI_296_2 = true := by decide +kernel
def aI_296_3 : sx_IL := [(34, .aload_n 0, 1), (35, .getfield 55, 3), (38, .invokevirtual 139, 3), (41, .return_, 1)]
theorem aJ_296_3 : sx_iB prog_7_method_14_code aI_296_3 = true := by decide +kernel
def aS_296 (pc : Nat) : sx_IL := (if pc < 24 then (if pc < 12 then aI_296_0 else aI_296_1) else (if pc < 34 then aI_296_2 else aI_296_3))
theorem aT_296 (pc : Nat) : sx_iOk prog_7_method_14_code (aS_296 pc) := (sx_ite (p := fun l => sx_iOk prog_7_method_14_code l) (sx_ite (p := fun l => sx_iOk prog_7_method_14_code l) (sx_iB_s aJ_296_0) (sx_iB_s aJ_296_1)) (sx_ite (p := fun l => sx_iOk prog_7_method_14_code l) (sx_iB_s aJ_296_2) (sx_iB_s aJ_296_3)))
def aW_296 : Nat → Option (Instr × Nat) := fun pc => sx_iF (aS_296 pc) pc
theorem aX_296 : ∀ pc i len, aW_296 pc = some (i, len) → decode aM_296.1.2.1 pc = .ok (i, len) := fun pc i len h => sx_iF_s (aT_296 pc) h
def aI_297_0 : sx_IL := [(0, .aload_n 0, 1), (1, .getfield 43, 3), (4, .getfield 186, 3), (7, .astore_n 2, 1), (8, .aload_n 2, 1), (9, .invokevirtual 136, 3)]
theorem aJ_297_0 : sx_iB prog_7_method_15_code aI_297_0 = true := by decide +kernel
def aI_297_1 : sx_IL := [(12, .aload_n 2, 1), (13, .bipush 48, 2), (15, .aload_n 1, 1), (16, .getfield 75, 3), (19, .iconst 0, 1), (20, .aload_n 1, 1)]
theorem aJ_297_1 : sx_iB prog_7_method_15_code aI_297_1 = true := by decide +kernel
def aI_297_2 : sx_IL := [(21, .getfield 85, 3), (24, .invokevirtual 150, 3), (27, .aload_n 0, 1), (28, .getfield 43, 3), (31, .aload_n 2, 1), (32, .aload_n 0, 1)]
theorem aJ_297_2 : sx_iB prog_7_method_15_code aI_297_2 = true := by decide +kernel
def aI_297_3 : sx_IL := [(33, .getfield 55, 3), (36, .aload_n 0, 1), (37, .getfield 51, 3), (40, .aload_n 0, 1), (41, .getfield 43, 3), (44, .getfield 189, 3)]
theorem aJ_297_3 : sx_iB prog_7_method_15_code aI_297_3 = true := by decide +kernel
def aI_297_4 : sx_IL := [(47, .invokevirtual 192, 3), (50, .aload_n 0, 1), (51, .getfield 43, 3), (54, .getfield 189, 3), (57, .areturn, 1)]
theorem aJ_297_4 : sx_iB prog_7_method_15_code aI_297_4 = true := by decide +kernel
def aS_297 (pc : Nat) : sx_IL := (if pc < 21 then (if pc < 12 then aI_297_0 else aI_297_1) else (if pc < 33 then aI_297_2 else (if pc < 47 then aI_297_3 else aI_297_4)))
theorem aT_297 (pc : Nat) : sx_iOk prog_7_method_15_code (aS_297 pc) := (sx_ite (p := fun l => sx_iOk prog_7_method_15_code l) (sx_ite (p := fun l => sx_iOk prog_7_method_15_code l) (sx_iB_s aJ_297_0) (sx_iB_s aJ_297_1)) (sx_ite (p := fun l => sx_iOk prog_7_method_15_code l) (sx_iB_s aJ_297_2) (sx_ite (p := fun l => sx_iOk prog_7_method_15_code l) (sx_iB_s aJ_297_3) (sx_iB_s aJ_297_4))))
def aW_297 : Nat → Option (Instr × Nat) := fun pc => sx_iF (aS_297 pc) pc
theorem aX_297 : ∀ pc i len, aW_297 pc = some (i, len) → decode aM_297.1.2.1 pc = .ok (i, len) := fun pc i len h => sx_iF_s (aT_297 pc) h
def aI_298_0 : sx_IL := [(0, .aload_n 0, 1), (1, .iload_n 1, 1), (2, .invokevirtual 399, 3), (5, .ifCond .eq 29, 3), (8, .aload_n 0, 1), (9, .getfield 46, 3)]
theorem aJ_298_0 : sx_iB prog_1_method_72_code aI_298_0 = true := by decide +kernel
def aI_298_1 : sx_IL := [(12, .iload_n 1, 1), (13, .aaload, 1), (14, .iload_n 2, 1), (15, .invokevirtual 458, 3), (18, .ifCond .eq 16, 3), (21, .aload_n 0, 1)]
theorem aJ_298_1 : sx_iB prog_1_method_72_code aI_298_1 = true := by decide +kernel
def aI_298_2 : sx_IL := [(22, .getfield 46, 3), (25, .iload_n 1, 1), (26, .aaload, 1), (27, .iload_n 2, 1), (28, .invokevirtual 461, 3), (31, .goto 4, 3)]
theorem aJ_298_2 : sx_iB prog_1_method_72_code aI_298_2 = true := by decide +kernel
def aI_298_3 : sx_IL := [(34, .iconst (-1), 1), (35, .ireturn, 1)]
theorem aJ_298_3 : sx_iB prog_1_method_72_code aI_298_3 = true := by decide +kernel
def aS_298 (pc : Nat) : sx_IL := (if pc < 22 then (if pc < 12 then aI_298_0 else aI_298_1) else (if pc < 34 then aI_298_2 else aI_298_3))
theorem aT_298 (pc : Nat) : sx_iOk prog_1_method_72_code (aS_298 pc) := (sx_ite (p := fun l => sx_iOk prog_1_method_72_code l) (sx_ite (p := fun l => sx_iOk prog_1_method_72_code l) (sx_iB_s aJ_298_0) (sx_iB_s aJ_298_1)) (sx_ite (p := fun l => sx_iOk prog_1_method_72_code l) (sx_iB_s aJ_298_2) (sx_iB_s aJ_298_3)))
def aW_298 : Nat → Option (Instr × Nat) := fun pc => sx_iF (aS_298 pc) pc
theorem aX_298 : ∀ pc i len, aW_298 pc = some (i, len) → decode aM_298.1.2.1 pc = .ok (i, len) := fun pc i len h => sx_iF_s (aT_298 pc) h
def aI_299_0 : sx_IL := [(0, .iload_n 1, 1), (1, .iconst 1, 1), (2, .if_icmp .lt 15, 3), (5, .iload_n 1, 1), (6, .aload_n 0, 1), (7, .getfield 114, 3)]
theorem aJ_299_0 : sx_iB prog_7_method_10_code aI_299_0 = true := by decide +kernel
def aI_299_1 : sx_IL := [(10, .if_icmp .gt 7, 3), (13, .iconst 1, 1), (14, .goto 4, 3), (17, .iconst 0, 1), (18, .ireturn, 1)]
theorem aJ_299_1 : sx_iB prog_7_method_10_code aI_299_1 = true := by decide +kernel
def aS_299 (pc : Nat) : sx_IL := (if pc < 10 then aI_299_0 else aI_299_1)
theorem aT_299 (pc : Nat) : sx_iOk prog_7_method_10_code (aS_299 pc) := (sx_ite (p := fun l => sx_iOk prog_7_method_10_code l) (sx_iB_s aJ_299_0) (sx_iB_s aJ_299_1))
def aW_299 : Nat → Option (Instr × Nat) := fun pc => sx_iF (aS_299 pc) pc
theorem aX_299 : ∀ pc i len, aW_299 pc = some (i, len) → decode aM_299.1.2.1 pc = .ok (i, len) := fun pc i len h => sx_iF_s (aT_299 pc) h
def aI_300_0 : sx_IL := [(0, .aload_n 0, 1), (1, .iload_n 1, 1), (2, .invokevirtual 199, 3), (5, .ifCond .eq 6, 3), (8, .bipush (-2), 2), (10, .ireturn, 1)]
theorem aJ_300_0 : sx_iB prog_7_method_17_code aI_300_0 = true := by decide +kernel
def aI_300_1 : sx_IL := [(11, .aload_n 0, 1), (12, .getfield 196, 3), (15, .bipush 40, 2), (17, .if_icmp .lt 6, 3), (20, .bipush (-3), 2), (22, .ireturn, 1)]
theorem aJ_300_1 : sx_iB prog_7_method_17_code aI_300_1 = true := by decide +kernel
def aI_300_2 : sx_IL := [(23, .aload_n 0, 1), (24, .getfield 196, 3), (27, .istore_n 2, 1), (28, .iload_n 2, 1), (29, .ifCond .le 35, 3), (32, .aload_n 0, 1)]
theorem aJ_300_2 : sx_iB prog_7_method_17_code aI_300_2 = true := by decide +kernel
def aI_300_3 : sx_IL := [(33, .getfield 40, 3), (36, .iload_n 2, 1), (37, .iconst 1, 1), (38, .isub, 1), (39, .iaload, 1), (40, .iload_n 1, 1)]
theorem aJ_300_3 : sx_iB prog_7_method_17_code aI_300_3 = true := by decide +kernel
def aI_300_4 : sx_IL := [(41, .if_icmp .le 23, 3), (44, .aload_n 0, 1), (45, .getfield 40, 3), (48, .iload_n 2, 1), (49, .aload_n 0, 1), (50, .getfield 40, 3)]
theorem aJ_300_4 : sx_iB prog_7_method_17_code aI_300_4 = true := by decide +kernel
def aI_300_5 : sx_IL := [(53, .iload_n 2, 1), (54, .iconst 1, 1), (55, .isub, 1), (56, .iaload, 1), (57, .iastore, 1), (58, .iinc 2 (-1), 3)]
theorem aJ_300_5 : sx_iB prog_7_method_17_code aI_300_5 = true := by decide +kernel
def aI_300_6 : sx_IL := [(61, .goto (-33), 3), (64, .aload_n 0, 1), (65, .getfield 40, 3), (68, .iload_n 2, 1), (69, .iload_n 1, 1), (70, .iastore, 1)]
theorem aJ_300_6 : sx_iB prog_7_method_17_code aI_300_6 = true := by decide +kernel
def aI_300_7 : sx_IL := [(71, .aload_n 0, 1), (72, .dup, 1), (73, .getfield 196, 3), (76, .iconst 1, 1), (77, .iadd, 1), (78, .putfield 196, 3)]
theorem aJ_300_7 : sx_iB prog_7_method_17_code aI_300_7 = true := by decide +kernel
def aI_300_8 : sx_IL := [(81, .aload_n 0, 1), (82, .getfield 196, 3), (85, .ireturn, 1)]
theorem aJ_300_8 : sx_iB prog_7_method_17_code aI_300_8 = true := by decide +kernel
def aS_300 (pc : Nat) : sx_IL := (if pc < 41 then (if pc < 23 then (if pc < 11 then aI_300_0 else aI_300_1) else (if pc < 33 then aI_300_2 else aI_300_3)) else (if pc < 61 then (if pc < 53 then aI_300_4 else aI_300_5) else (if pc < 71 then aI_300_6 else (if pc < 81 then aI_300_7 else aI_300_8))))
theorem aT_300 (pc : Nat) : sx_iOk prog_7_method_17_code (aS_300 pc) := (sx_ite (p := fun l => sx_iOk prog_7_method_17_code l) (sx_ite (p := fun l => sx_iOk prog_7_method_17_code l) (sx_ite (p := fun l => sx_iOk prog_7_method_17_code l) (sx_iB_s aJ_300_0) (sx_iB_s aJ_300_1)) (sx_ite (p := fun l => sx_iOk prog_7_method_17_code l) (sx_iB_s aJ_300_2) (sx_iB_s aJ_300_3))) (sx_ite (p := fun l => sx_iOk prog_7_method_17_code l) (sx_ite (p := fun l => sx_iOk prog_7_method_17_code l) (sx_iB_s aJ_300_4) (sx_iB_s aJ_300_5)) (sx_ite (p := fun l => sx_iOk prog_7_method_17_code l) (sx_iB_s aJ_300_6) (sx_ite (p := fun l => sx_iOk prog_7_method_17_code l) (sx_iB_s aJ_300_7) (sx_iB_s aJ_300_8)))))
def aW_300 : Nat → Option (Instr × Nat) := fun pc => sx_iF (aS_300 pc) pc
theorem aX_300 : ∀ pc i len, aW_300 pc = some (i, len) → decode aM_300.1.2.1 pc = .ok (i, len) := fun pc i len h => sx_iF_s (aT_300 pc) h
def aI_301_0 : sx_IL := [(0, .iconst 0, 1), (1, .istore_n 2, 1), (2, .iload_n 2, 1), (3, .aload_n 0, 1), (4, .getfield 196, 3), (7, .if_icmp .ge 21, 3)]
theorem aJ_301_0 : sx_iB prog_7_method_16_code aI_301_0 = true := by decide +kernel
def aI_301_1 : sx_IL := [(10, .aload_n 0, 1), (11, .getfield 40, 3), (14, .iload_n 2, 1), (15, .iaload, 1), (16, .iload_n 1, 1), (17, .if_icmp .ne 5, 3)]
theorem aJ_301_1 : sx_iB prog_7_method_16_code aI_301_1 = true := by decide +kernel
def aI_301_2 : sx_IL := [(20, .iconst 1, 1), (21, .ireturn, 1), (22, .iinc 2 1, 3), (25, .goto (-23), 3), (28, .iconst 0, 1), (29, .ireturn, 1)]
theorem aJ_301_2 : sx_iB prog_7_method_16_code aI_301_2 = true := by decide +kernel
def aS_301 (pc : Nat) : sx_IL := (if pc < 10 then aI_301_0 else (if pc < 20 then aI_301_1 else aI_301_2))
theorem aT_301 (pc : Nat) : sx_iOk prog_7_method_16_code (aS_301 pc) := (sx_ite (p := fun l => sx_iOk prog_7_method_16_code l) (sx_iB_s aJ_301_0) (sx_ite (p := fun l => sx_iOk prog_7_method_16_code l) (sx_iB_s aJ_301_1) (sx_iB_s aJ_301_2)))
def aW_301 : Nat → Option (Instr × Nat) := fun pc => sx_iF (aS_301 pc) pc
theorem aX_301 : ∀ pc i len, aW_301 pc = some (i, len) → decode aM_301.1.2.1 pc = .ok (i, len) := fun pc i len h => sx_iF_s (aT_301 pc) h
def aI_302_0 : sx_IL := [(0, .aload_n 0, 1), (1, .iload_n 1, 1), (2, .invokevirtual 399, 3), (5, .ifCond .eq 23, 3), (8, .iload_n 2, 1), (9, .invokestatic 451, 3)]
theorem aJ_302_0 : sx_iB prog_1_method_73_code aI_302_0 = true := by decide +kernel
def aI_302_1 : sx_IL := [(12, .ifCond .eq 16, 3), (15, .aload_n 0, 1), (16, .getfield 46, 3), (19, .iload_n 1, 1), (20, .aaload, 1), (21, .iload_n 2, 1)]
theorem aJ_302_1 : sx_iB prog_1_method_73_code aI_302_1 = true := by decide +kernel
def aI_302_2 : sx_IL := [(22, .invokevirtual 464, 3), (25, .goto 4, 3), (28, .iconst (-1), 1), (29, .ireturn, 1)]
theorem aJ_302_2 : sx_iB prog_1_method_73_code aI_302_2 = true := by decide +kernel
def aS_302 (pc : Nat) : sx_IL := (if pc < 12 then aI_302_0 else (if pc < 22 then aI_302_1 else aI_302_2))
theorem aT_302 (pc : Nat) : sx_iOk prog_1_method_73_code (aS_302 pc) := (sx_ite (p := fun l => sx_iOk prog_1_method_73_code l) (sx_iB_s aJ_302_0) (sx_ite (p := fun l => sx_iOk prog_1_method_73_code l) (sx_iB_s aJ_302_1) (sx_iB_s aJ_302_2)))
def aW_302 : Nat → Option (Instr × Nat) := fun pc => sx_iF (aS_302 pc) pc
theorem aX_302 : ∀ pc i len, aW_302 pc = some (i, len) → decode aM_302.1.2.1 pc = .ok (i, len) := fun pc i len h => sx_iF_s (aT_302 pc) h
def aI_303_0 : sx_IL := [(0, .aload_n 0, 1), (1, .getfield 43, 3), (4, .getfield 132, 3), (7, .astore_n 2, 1), (8, .aload_n 2, 1), (9, .invokevirtual 136, 3)]
theorem aJ_303_0 : sx_iB prog_7_method_18_code aI_303_0 = true := by decide +kernel
def aI_303_1 : sx_IL := [(12, .aload_n 0, 1), (13, .aload_n 2, 1), (14, .invokevirtual 142, 3), (17, .aload_n 2, 1), (18, .aload_n 0, 1), (19, .getfield 203, 3)]
theorem aJ_303_1 : sx_iB prog_7_method_18_code aI_303_1 = true := by decide +kernel
def aI_303_2 : sx_IL := [(22, .iconst 1, 1), (23, .iadd, 1), (24, .invokevirtual 139, 3), (27, .aload_n 0, 1), (28, .aload_n 2, 1), (29, .iload_n 1, 1)]
theorem aJ_303_2 : sx_iB prog_7_method_18_code aI_303_2 = true := by decide +kernel
def aI_303_3 : sx_IL := [(30, .invokevirtual 154, 3), (33, .aload_n 2, 1), (34, .iconst 4, 1), (35, .iconst 4, 1), (36, .aload_n 0, 1), (37, .getfield 196, 3)]
theorem aJ_303_3 : sx_iB prog_7_method_18_code aI_303_3 = true := by decide +kernel
def aI_303_4 : sx_IL := [(40, .imul, 1), (41, .invokevirtual 158, 3), (44, .iconst 0, 1), (45, .istore_n 3, 1), (46, .iload_n 3, 1), (47, .aload_n 0, 1)]
theorem aJ_303_4 : sx_iB prog_7_method_18_code aI_303_4 = true := by decide +kernel
def aI_303_5 : sx_IL := [(48, .getfield 196, 3), (51, .if_icmp .ge 19, 3), (54, .aload_n 2, 1), (55, .aload_n 0, 1), (56, .getfield 40, 3), (59, .iload_n 3, 1)]
theorem aJ_303_5 : sx_iB prog_7_method_18_code aI_303_5 = true := by decide +kernel
def aI_303_6 : sx_IL := [(60, .iaload, 1), (61, .invokevirtual 162, 3), (64, .iinc 3 1, 3), (67, .goto (-21), 3), (70, .aload_n 0, 1), (71, .getfield 43, 3)]
theorem aJ_303_6 : sx_iB prog_7_method_18_code aI_303_6 = true := by decide +kernel
def aI_303_7 : sx_IL := [(74, .iconst 1, 1), (75, .aload_n 0, 1), (76, .aload_n 2, 1), (77, .invokevirtual 124, 3), (80, .invokevirtual 128, 3), (83, .istore_n 3, 1)]
theorem aJ_303_7 : sx_iB prog_7_method_18_code aI_303_7 = true := by decide +kernel
def aI_303_8 : sx_IL := [(84, .aload_n 0, 1), (85, .dup, 1), (86, .getfield 203, 3), (89, .iload_n 3, 1), (90, .ifCond .lt 7, 3), (93, .iconst 1, 1)]
theorem aJ_303_8 : sx_iB prog_7_method_18_code aI_303_8 = true := by decide +kernel
def aI_303_9 : sx_IL := [(94, .goto 4, 3), (97, .iconst 0, 1), (98, .iadd, 1), (99, .putfield 203, 3), (102, .iload_n 3, 1), (103, .ireturn, 1)]
theorem aJ_303_9 : sx_iB prog_7_method_18_code aI_303_9 = true := by decide +kernel
def aS_303 (pc : Nat) : sx_IL := (if pc < 48 then (if pc < 22 then (if pc < 12 then aI_303_0 else aI_303_1) else (if pc < 30 then aI_303_2 else (if pc < 40 then aI_303_3 else aI_303_4))) else (if pc < 74 then (if pc < 60 then aI_303_5 else aI_303_6) else (if pc < 84 then aI_303_7 else (if pc < 94 then aI_303_8 else aI_303_9))))
theorem aT_303 (pc : Nat) : sx_iOk prog_7_method_18_code (aS_303 pc) := (sx_ite (p := fun l => sx_iOk prog_7_method_18_code l) (sx_ite (p := fun l => sx_iOk prog_7_method_18_code l) (sx_ite (p := fun l => sx_iOk prog_7_method_18_code l) (sx_iB_s aJ_303_0) (sx_iB_s aJ_303_1)) (sx_ite (p := fun l => sx_iOk prog_7_method_18_code l) (sx_iB_s aJ_303_2) (sx_ite (p := fun l => sx_iOk prog_7_method_18_code l) (sx_iB_s aJ_303_3) (sx_iB_s aJ_303_4)))) (sx_ite (p := fun l => sx_iOk prog_7_method_18_code l) (sx_ite (p := fun l => sx_iOk prog_7_method_18_code l) (sx_iB_s aJ_303_5) (sx_iB_s aJ_303_6)) (sx_ite (p := fun l => sx_iOk prog_7_method_18_code l) (sx_iB_s aJ_303_7) (sx_ite (p := fun l => sx_iOk prog_7_method_18_code l) (sx_iB_s aJ_303_8) (sx_iB_s aJ_303_9)))))
def aW_303 : Nat → Option (Instr × Nat) := fun pc => sx_iF (aS_303 pc) pc
theorem aX_303 : ∀ pc i len, aW_303 pc = some (i, len) → decode aM_303.1.2.1 pc = .ok (i, len) := fun pc i len h => sx_iF_s (aT_303 pc) h
def aI_304_0 : sx_IL := [(0, .aload_n 0, 1), (1, .iload_n 1, 1), (2, .invokevirtual 399, 3), (5, .ifCond .eq 23, 3), (8, .aload_n 0, 1), (9, .getfield 46, 3)]
theorem aJ_304_0 : sx_iB prog_1_method_74_code aI_304_0 = true := by decide +kernel
def aI_304_1 : sx_IL := [(12, .iload_n 1, 1), (13, .aaload, 1), (14, .iload_n 2, 1), (15, .invokevirtual 458, 3), (18, .ifCond .eq 10, 3), (21, .iload_n 3, 1)]
theorem aJ_304_1 : sx_iB prog_1_method_74_code aI_304_1 = true := by decide +kernel
def aI_304_2 : sx_IL := [(22, .invokestatic 451, 3), (25, .ifCond .ne 5, 3), (28, .iconst (-1), 1), (29, .ireturn, 1), (30, .aload_n 0, 1), (31, .getfield 46, 3)]
theorem aJ_304_2 : sx_iB prog_1_method_74_code aI_304_2 = true := by decide +kernel
def aI_304_3 : sx_IL := [(34, .iload_n 1, 1), (35, .aaload, 1), (36, .iload_n 2, 1), (37, .iload_n 3, 1), (38, .invokevirtual 467, 3), (41, .ireturn, 1)]
theorem aJ_304_3 : sx_iB prog_1_method_74_code aI_304_3 = true := by decide +kernel
def aS_304 (pc : Nat) : sx_IL := (if pc < 22 then (if pc < 12 then aI_304_0 else aI_304_1) else (if pc < 34 then aI_304_2 else aI_304_3))
theorem aT_304 (pc : Nat) : sx_iOk prog_1_method_74_code (aS_304 pc) := (sx_ite (p := fun l => sx_iOk prog_1_method_74_code l) (sx_ite (p := fun l => sx_iOk prog_1_method_74_code l) (sx_iB_s aJ_304_0) (sx_iB_s aJ_304_1)) (sx_ite (p := fun l => sx_iOk prog_1_method_74_code l) (sx_iB_s aJ_304_2) (sx_iB_s aJ_304_3)))
def aW_304 : Nat → Option (Instr × Nat) := fun pc => sx_iF (aS_304 pc) pc
theorem aX_304 : ∀ pc i len, aW_304 pc = some (i, len) → decode aM_304.1.2.1 pc = .ok (i, len) := fun pc i len h => sx_iF_s (aT_304 pc) h
def aI_305_0 : sx_IL := [(0, .aload_n 0, 1), (1, .getfield 43, 3), (4, .getfield 132, 3), (7, .astore_n 3, 1), (8, .aload_n 3, 1), (9, .invokevirtual 136, 3)]
theorem aJ_305_0 : sx_iB prog_7_method_19_code aI_305_0 = true := by decide +kernel
def aI_305_1 : sx_IL := [(12, .aload_n 0, 1), (13, .aload_n 3, 1), (14, .invokevirtual 142, 3), (17, .aload_n 3, 1), (18, .iload_n 1, 1), (19, .invokevirtual 139, 3)]
theorem aJ_305_1 : sx_iB prog_7_method_19_code aI_305_1 = true := by decide +kernel
def aI_305_2 : sx_IL := [(22, .aload_n 3, 1), (23, .aload_n 0, 1), (24, .iload_n 1, 1), (25, .invokevirtual 199, 3), (28, .ifCond .eq 7, 3), (31, .iconst 1, 1)]
theorem aJ_305_2 : sx_iB prog_7_method_19_code aI_305_2 = true := by decide +kernel
def aI_305_3 : sx_IL := [(32, .goto 4, 3), (35, .iconst 0, 1), (36, .invokevirtual 139, 3), (39, .aload_n 0, 1), (40, .aload_n 3, 1), (41, .iload_n 2, 1)]
theorem aJ_305_3 : sx_iB prog_7_method_19_code aI_305_3 = true := by decide +kernel
def aI_305_4 : sx_IL := [(42, .invokevirtual 154, 3), (45, .aload_n 0, 1), (46, .getfield 43, 3), (49, .iconst 2, 1), (50, .aload_n 0, 1), (51, .aload_n 3, 1)]
theorem aJ_305_4 : sx_iB prog_7_method_19_code aI_305_4 = true := by decide +kernel
def aI_305_5 : sx_IL := [(52, .invokevirtual 124, 3), (55, .invokevirtual 128, 3), (58, .ireturn, 1)]
theorem aJ_305_5 : sx_iB prog_7_method_19_code aI_305_5 = true := by decide +kernel
def aS_305 (pc : Nat) : sx_IL := (if pc < 32 then (if pc < 12 then aI_305_0 else (if pc < 22 then aI_305_1 else aI_305_2)) else (if pc < 42 then aI_305_3 else (if pc < 52 then aI_305_4 else aI_305_5)))
theorem aT_305 (pc : Nat) : sx_iOk prog_7_method_19_code (aS_305 pc) := (sx_ite (p := fun l => sx_iOk prog_7_method_19_code l) (sx_ite (p := fun l => sx_iOk prog_7_method_19_code l) (sx_iB_s aJ_305_0) (sx_ite (p := fun l => sx_iOk prog_7_method_19_code l) (sx_iB_s aJ_305_1) (sx_iB_s aJ_305_2))) (sx_ite (p := fun l => sx_iOk prog_7_method_19_code l) (sx_iB_s aJ_305_3) (sx_ite (p := fun l => sx_iOk prog_7_method_19_code l) (sx_iB_s aJ_305_4) (sx_iB_s aJ_305_5))))
def aW_305 : Nat → Option (Instr × Nat) := fun pc => sx_iF (aS_305 pc) pc
theorem aX_305 : ∀ pc i len, aW_305 pc = some (i, len) → decode aM_305.1.2.1 pc = .ok (i, len) := fun pc i len h => sx_iF_s (aT_305 pc) h
def aI_306_0 : sx_IL := [(0, .aload_n 0, 1), (1, .getfield 470, 3), (4, .iconst 4, 1), (5, .if_icmp .lt 6, 3), (8, .bipush (-3), 2), (10, .ireturn, 1)]
theorem aJ_306_0 : sx_iB prog_1_method_75_code aI_306_0 = true := by decide +kernel
def aI_306_1 : sx_IL := [(11, .aload_n 0, 1), (12, .dup, 1), (13, .getfield 470, 3), (16, .iconst 1, 1), (17, .iadd, 1), (18, .putfield 470, 3)]
theorem aJ_306_1 : sx_iB prog_1_method_75_code aI_306_1 = true := by decide +kernel
def aI_306_2 : sx_IL := [(21, .aload_n 0, 1), (22, .getfield 470, 3), (25, .iconst 1, 1), (26, .isub, 1), (27, .ireturn, 1)]
theorem aJ_306_2 : sx_iB prog_1_method_75_code aI_306_2 = true := by decide +kernel
def aS_306 (pc : Nat) : sx_IL := (if pc < 11 then aI_306_0 else (if pc < 21 then aI_306_1 else aI_306_2))
theorem aT_306 (pc : Nat) : sx_iOk prog_1_method_75_code (aS_306 pc) := (sx_ite (p := fun l => sx_iOk prog_1_method_75_code l) (sx_iB_s aJ_306_0) (sx_ite (p := fun l => sx_iOk prog_1_method_75_code l) (sx_iB_s aJ_306_1) (sx_iB_s aJ_306_2)))
def aW_306 : Nat → Option (Instr × Nat) := fun pc => sx_iF (aS_306 pc) pc
theorem aX_306 : ∀ pc i len, aW_306 pc = some (i, len) → decode aM_306.1.2.1 pc = .ok (i, len) := fun pc i len h => sx_iF_s (aT_306 pc) h
def aI_307_0 : sx_IL := [(0, .aload_n 0, 1), (1, .iload_n 1, 1), (2, .invokevirtual 473, 3), (5, .ifCond .ne 5, 3), (8, .iconst (-1), 1), (9, .ireturn, 1)]
theorem aJ_307_0 : sx_iB prog_1_method_77_code aI_307_0 = true := by decide +kernel
def aI_307_1 : sx_IL := [(10, .aload_n 0, 1), (11, .getfield 63, 3), (14, .iload_n 1, 1), (15, .iaload, 1), (16, .bipush 64, 2), (18, .if_icmp .lt 6, 3)]
theorem aJ_307_1 : sx_iB prog_1_method_77_code aI_307_1 = true := by decide +kernel
def aI_307_2 : sx_IL := [(21, .bipush (-3), 2), (23, .ireturn, 1), (24, .aload_n 0, 1), (25, .getfield 60, 3), (28, .iload_n 1, 1), (29, .aaload, 1)]
theorem aJ_307_2 : sx_iB prog_1_method_77_code aI_307_2 = true := by decide +kernel
def aI_307_3 : sx_IL := [(30, .aload_n 0, 1), (31, .getfield 63, 3), (34, .iload_n 1, 1), (35, .iaload, 1), (36, .lload_n 2, 1), (37, .lastore, 1)]
theorem aJ_307_3 : sx_iB prog_1_method_77_code aI_307_3 = true := by decide +kernel
def aI_307_4 : sx_IL := [(38, .aload_n 0, 1), (39, .getfield 63, 3), (42, .iload_n 1, 1), (43, .dup2, 1), (44, .iaload, 1), (45, .iconst 1, 1)]
theorem aJ_307_4 : sx_iB prog_1_method_77_code aI_307_4 = true := by decide +kernel
def aI_307_5 : sx_IL := [(46, .iadd, 1), (47, .iastore, 1), (48, .aload_n 0, 1), (49, .getfield 63, 3), (52, .iload_n 1, 1), (53, .iaload, 1)]
theorem aJ_307_5 : sx_iB prog_1_method_77_code aI_307_5 = true := by decide +kernel
def aI_307_6 : sx_IL := [(54, .ireturn, 1)]
theorem aJ_307_6 : sx_iB prog_1_method_77_code aI_307_6 = true := by decide +kernel
def aS_307 (pc : Nat) : sx_IL := (if pc < 30 then (if pc < 10 then aI_307_0 else (if pc < 21 then aI_307_1 else aI_307_2)) else (if pc < 46 then (if pc < 38 then aI_307_3 else aI_307_4) else (if pc < 54 then aI_307_5 else aI_307_6)))
theorem aT_307 (pc : Nat) : sx_iOk prog_1_method_77_code (aS_307 pc) := (sx_ite (p := fun l => sx_iOk prog_1_method_77_code l) (sx_ite (p := fun l => sx_iOk prog_1_method_77_code l) (sx_iB_s aJ_307_0) (sx_ite (p := fun l => sx_iOk prog_1_method_77_code l) (sx_iB_s aJ_307_1) (sx_iB_s aJ_307_2))) (sx_ite (p := fun l => sx_iOk prog_1_method_77_code l) (sx_ite (p := fun l => sx_iOk prog_1_method_77_code l) (sx_iB_s aJ_307_3) (sx_iB_s aJ_307_4)) (sx_ite (p := fun l => sx_iOk prog_1_method_77_code l) (sx_iB_s aJ_307_5) (sx_iB_s aJ_307_6))))
def aW_307 : Nat → Option (Instr × Nat) := fun pc => sx_iF (aS_307 pc) pc
theorem aX_307 : ∀ pc i len, aW_307 pc = some (i, len) → decode aM_307.1.2.1 pc = .ok (i, len) := fun pc i len h => sx_iF_s (aT_307 pc) h
def aI_308_0 : sx_IL := [(0, .iload_n 1, 1), (1, .ifCond .lt 15, 3), (4, .iload_n 1, 1), (5, .aload_n 0, 1), (6, .getfield 470, 3), (9, .if_icmp .ge 7, 3)]
theorem aJ_308_0 : sx_iB prog_1_method_76_code aI_308_0 = true := by decide +kernel
def aI_308_1 : sx_IL := [(12, .iconst 1, 1), (13, .goto 4, 3), (16, .iconst 0, 1), (17, .ireturn, 1)]
theorem aJ_308_1 : sx_iB prog_1_method_76_code aI_308_1 = true := by decide +kernel
def aS_308 (pc : Nat) : sx_IL := (if pc < 12 then aI_308_0 else aI_308_1)
theorem aT_308 (pc : Nat) : sx_iOk prog_1_method_76_code (aS_308 pc) := (sx_ite (p := fun l => sx_iOk prog_1_method_76_code l) (sx_iB_s aJ_308_0) (sx_iB_s aJ_308_1))
def aW_308 : Nat → Option (Instr × Nat) := fun pc => sx_iF (aS_308 pc) pc
theorem aX_308 : ∀ pc i len, aW_308 pc = some (i, len) → decode aM_308.1.2.1 pc = .ok (i, len) := fun pc i len h => sx_iF_s (aT_308 pc) h
def aI_309_0 : sx_IL := [(0, .aload_n 0, 1), (1, .iload_n 1, 1), (2, .invokevirtual 473, 3), (5, .ifCond .eq 17, 3), (8, .iload_n 2, 1), (9, .ifCond .lt 13, 3)]
theorem aJ_309_0 : sx_iB prog_1_method_78_code aI_309_0 = true := by decide +kernel
def aI_309_1 : sx_IL := [(12, .iload_n 2, 1), (13, .aload_n 0, 1), (14, .getfield 63, 3), (17, .iload_n 1, 1), (18, .iaload, 1), (19, .if_icmp .le 7, 3)]
theorem aJ_309_1 : sx_iB prog_1_method_78_code aI_309_1 = true := by decide +kernel
def aI_309_2 : sx_IL := [(22, .ldc2_w 96, 3), (25, .lreturn, 1), (26, .aload_n 0, 1), (27, .aload_n 0, 1), (28, .getfield 60, 3), (31, .iload_n 1, 1)]
theorem aJ_309_2 : sx_iB prog_1_method_78_code aI_309_2 = true := by decide +kernel
def aI_309_3 : sx_IL := [(32, .aaload, 1), (33, .iconst 0, 1), (34, .iload_n 2, 1), (35, .invokevirtual 476, 3), (38, .lreturn, 1)]
theorem aJ_309_3 : sx_iB prog_1_method_78_code aI_309_3 = true := by decide +kernel
def aS_309 (pc : Nat) : sx_IL := (if pc < 22 then (if pc < 12 then aI_309_0 else aI_309_1) else (if pc < 32 then aI_309_2 else aI_309_3))
theorem aT_309 (pc : Nat) : sx_iOk prog_1_method_78_code (aS_309 pc) := (sx_ite (p := fun l => sx_iOk prog_1_method_78_code l) (sx_ite (p := fun l => sx_iOk prog_1_method_78_code l) (sx_iB_s aJ_309_0) (sx_iB_s aJ_309_1)) (sx_ite (p := fun l => sx_iOk prog_1_method_78_code l) (sx_iB_s aJ_309_2) (sx_iB_s aJ_309_3)))
def aW_309 : Nat → Option (Instr × Nat) := fun pc => sx_iF (aS_309 pc) pc
theorem aX_309 : ∀ pc i len, aW_309 pc = some (i, len) → decode aM_309.1.2.1 pc = .ok (i, len) := fun pc i len h => sx_iF_s (aT_309 pc) h
def aI_310_0 : sx_IL := [(0, .iload_n 3, 1), (1, .ifCond .gt 24, 3), (4, .aload_n 0, 1), (5, .getfield 10, 3), (8, .getfield 98, 3), (11, .iconst 0, 1)]
theorem aJ_310_0 : sx_iB prog_1_method_87_code aI_310_0 = true := by decide +kernel
def aI_310_1 : sx_IL := [(12, .aload_n 0, 1), (13, .getfield 21, 3), (16, .getfield 80, 3), (19, .iconst 0, 1), (20, .iconst 0, 1), (21, .invokevirtual 102, 3)]
theorem aJ_310_1 : sx_iB prog_1_method_87_code aI_310_1 = true := by decide +kernel
def aI_310_2 : sx_IL := [(24, .lreturn, 1), (25, .iconst 0, 1), (26, .istore 4, 2), (28, .iconst 0, 1), (29, .istore 5, 2), (31, .iload 5, 2)]
theorem aJ_310_2 : sx_iB prog_1_method_87_code aI_310_2 = true := by decide +kernel
def aI_310_3 : sx_IL := [(33, .iload_n 3, 1), (34, .if_icmp .ge 77, 3), (37, .aload_n 0, 1), (38, .aload_n 1, 1), (39, .iload_n 2, 1), (40, .iload 5, 2)]
theorem aJ_310_3 : sx_iB prog_1_method_87_code aI_310_3 = true := by decide +kernel
def aI_310_4 : sx_IL := [(42, .iadd, 1), (43, .laload, 1), (44, .invokevirtual 490, 3), (47, .lstore 6, 2), (49, .iload 5, 2), (51, .istore 8, 2)]
theorem aJ_310_4 : sx_iB prog_1_method_87_code aI_310_4 = true := by decide +kernel
def aI_310_5 : sx_IL := [(53, .iload 8, 2), (55, .iconst 1, 1), (56, .iand, 1), (57, .iconst 1, 1), (58, .if_icmp .ne 35, 3), (61, .iload 4, 2)]
theorem aJ_310_5 : sx_iB prog_1_method_87_code aI_310_5 = true := by decide +kernel
def aI_310_6 : sx_IL := [(63, .ifCond .le 30, 3), (66, .iinc 4 (-1), 3), (69, .aload_n 0, 1), (70, .aload_n 0, 1), (71, .getfield 66, 3), (74, .iload 4, 2)]
theorem aJ_310_6 : sx_iB prog_1_method_87_code aI_310_6 = true := by decide +kernel
def aI_310_7 : sx_IL := [(76, .laload, 1), (77, .lload 6, 2), (79, .invokevirtual 498, 3), (82, .lstore 6, 2), (84, .iload 8, 2), (86, .iconst 1, 1)]
theorem aJ_310_7 : sx_iB prog_1_method_87_code aI_310_7 = true := by decide +kernel
def aI_310_8 : sx_IL := [(87, .ishr, 1), (88, .istore 8, 2), (90, .goto (-37), 3), (93, .aload_n 0, 1), (94, .getfield 66, 3), (97, .iload 4, 2)]
theorem aJ_310_8 : sx_iB prog_1_method_87_code aI_310_8 = true := by decide +kernel
def aI_310_9 : sx_IL := [(99, .lload 6, 2), (101, .lastore, 1), (102, .iinc 4 1, 3), (105, .iinc 5 1, 3), (108, .goto (-77), 3), (111, .iload 4, 2)]
theorem aJ_310_9 : sx_iB prog_1_method_87_code aI_310_9 = true := by decide +kernel
def aI_310_10 : sx_IL := [(113, .iconst 1, 1), (114, .if_icmp .le 40, 3), (117, .aload_n 0, 1), (118, .getfield 66, 3), (121, .iload 4, 2), (123, .iconst 2, 1)]
theorem aJ_310_10 : sx_iB prog_1_method_87_code aI_310_10 = true := by decide +kernel
def aI_310_11 : sx_IL := [(124, .isub, 1), (125, .aload_n 0, 1), (126, .aload_n 0, 1), (127, .getfield 66, 3), (130, .iload 4, 2), (132, .iconst 2, 1)]
theorem aJ_310_11 : sx_iB prog_1_method_87_code aI_310_11 = true := by decide +kernel
def aI_310_12 : sx_IL := [(133, .isub, 1), (134, .laload, 1), (135, .aload_n 0, 1), (136, .getfield 66, 3), (139, .iload 4, 2), (141, .iconst 1, 1)]
theorem aJ_310_12 : sx_iB prog_1_method_87_code aI_310_12 = true := by decide +kernel
def aI_310_13 : sx_IL := [(142, .isub, 1), (143, .laload, 1), (144, .invokevirtual 498, 3), (147, .lastore, 1), (148, .iinc 4 (-1), 3), (151, .goto (-40), 3)]
theorem aJ_310_13 : sx_iB prog_1_method_87_code aI_310_13 = true := by decide +kernel
def aI_310_14 : sx_IL := [(154, .aload_n 0, 1), (155, .getfield 66, 3), (158, .iconst 0, 1), (159, .laload, 1), (160, .lreturn, 1)]
theorem aJ_310_14 : sx_iB prog_1_method_87_code aI_310_14 = true := by decide +kernel
def aS_310 (pc : Nat) : sx_IL := (if pc < 76 then (if pc < 33 then (if pc < 12 then aI_310_0 else (if pc < 24 then aI_310_1 else aI_310_2)) else (if pc < 53 then (if pc < 42 then aI_310_3 else aI_310_4) else (if pc < 63 then aI_310_5 else aI_310_6))) else (if pc < 124 then (if pc < 99 then (if pc < 87 then aI_310_7 else aI_310_8) else (if pc < 113 then aI_310_9 else aI_310_10)) else (if pc < 142 then (if pc < 133 then aI_310_11 else aI_310_12) else (if pc < 154 then aI_310_13 else aI_310_14))))
theorem aT_310 (pc : Nat) : sx_iOk prog_1_method_87_code (aS_310 pc) := (sx_ite (p := fun l => sx_iOk prog_1_method_87_code l) (sx_ite (p := fun l => sx_iOk prog_1_method_87_code l) (sx_ite (p := fun l => sx_iOk prog_1_method_87_code l) (sx_iB_s aJ_310_0) (sx_ite (p := fun l => sx_iOk prog_1_method_87_code l) (sx_iB_s aJ_310_1) (sx_iB_s aJ_310_2))) (sx_ite (p := fun l => sx_iOk prog_1_method_87_code l) (sx_ite (p := fun l => sx_iOk prog_1_method_87_code l) (sx_iB_s aJ_310_3) (sx_iB_s aJ_310_4)) (sx_ite (p := fun l => sx_iOk prog_1_method_87_code l) (sx_iB_s aJ_310_5) (sx_iB_s aJ_310_6)))) (sx_ite (p := fun l => sx_iOk prog_1_method_87_code l) (sx_ite (p := fun l => sx_iOk prog_1_method_87_code l) (sx_ite (p := fun l => sx_iOk prog_1_method_87_code l) (sx_iB_s aJ_310_7) (sx_iB_s aJ_310_8)) (sx_ite (p := fun l => sx_iOk prog_1_method_87_code l) (sx_iB_s aJ_310_9) (sx_iB_s aJ_310_10))) (sx_ite (p := fun l => sx_iOk prog_1_method_87_code l) (sx_ite (p := fun l => sx_iOk prog_1_method_87_code l) (sx_iB_s aJ_310_11) (sx_iB_s aJ_310_12)) (sx_ite (p := fun l => sx_iOk prog_1_method_87_code l) (sx_iB_s aJ_310_13) (sx_iB_s aJ_310_14)))))
def aW_310 : Nat → Option (Instr × Nat) := fun pc => sx_iF (aS_310 pc) pc
theorem aX_310 : ∀ pc i len, aW_310 pc = some (i, len) → decode aM_310.1.2.1 pc = .ok (i, len) := fun pc i len h => sx_iF_s (aT_310 pc) h
def aI_311_0 : sx_IL := [(0, .aload_n 0, 1), (1, .getfield 10, 3), (4, .getfield 98, 3), (7, .astore_n 3, 1), (8, .aload_n 3, 1), (9, .iconst 0, 1)]
theorem aJ_311_0 : sx_iB prog_1_method_85_code aI_311_0 = true := by decide +kernel
def aI_311_1 : sx_IL := [(10, .invokevirtual 502, 3), (13, .aload_n 3, 1), (14, .iconst 0, 1), (15, .invokevirtual 504, 3), (18, .aload_n 3, 1), (19, .lload_n 1, 1)]
theorem aJ_311_1 : sx_iB prog_1_method_85_code aI_311_1 = true := by decide +kernel
def aI_311_2 : sx_IL := [(20, .invokevirtual 505, 3), (23, .aload_n 3, 1), (24, .invokevirtual 506, 3), (27, .lreturn, 1)]
theorem aJ_311_2 : sx_iB prog_1_method_85_code aI_311_2 = true := by decide +kernel
def aS_311 (pc : Nat) : sx_IL := (if pc < 10 then aI_311_0 else (if pc < 20 then aI_311_1 else aI_311_2))
theorem aT_311 (pc : Nat) : sx_iOk prog_1_method_85_code (aS_311 pc) := (sx_ite (p := fun l => sx_iOk prog_1_method_85_code l) (sx_iB_s aJ_311_0) (sx_ite (p := fun l => sx_iOk prog_1_method_85_code l) (sx_iB_s aJ_311_1) (sx_iB_s aJ_311_2)))
def aW_311 : Nat → Option (Instr × Nat) := fun pc => sx_iF (aS_311 pc) pc
theorem aX_311 : ∀ pc i len, aW_311 pc = some (i, len) → decode aM_311.1.2.1 pc = .ok (i, len) := fun pc i len h => sx_iF_s (aT_311 pc) h
def aI_312_0 : sx_IL := [(0, .aload_n 0, 1), (1, .getfield 10, 3), (4, .getfield 98, 3), (7, .astore 5, 2), (9, .aload 5, 2), (11, .iconst 0, 1)]
theorem aJ_312_0 : sx_iB prog_1_method_86_code aI_312_0 = true := by decide +kernel
def aI_312_1 : sx_IL := [(12, .invokevirtual 502, 3), (15, .aload 5, 2), (17, .iconst 1, 1), (18, .invokevirtual 504, 3), (21, .aload 5, 2), (23, .lload_n 1, 1)]
theorem aJ_312_1 : sx_iB prog_1_method_86_code aI_312_1 = true := by decide +kernel
def aI_312_2 : sx_IL := [(24, .invokevirtual 505, 3), (27, .aload 5, 2), (29, .lload_n 3, 1), (30, .invokevirtual 505, 3), (33, .aload 5, 2), (35, .invokevirtual 506, 3)]
theorem aJ_312_2 : sx_iB prog_1_method_86_code aI_312_2 = true := by decide +kernel
def aI_312_3 : sx_IL := [(38, .lreturn, 1)]
theorem aJ_312_3 : sx_iB prog_1_method_86_code aI_312_3 = true := by decide +kernel
def aS_312 (pc : Nat) : sx_IL := (if pc < 24 then (if pc < 12 then aI_312_0 else aI_312_1) else (if pc < 38 then aI_312_2 else aI_312_3))
theorem aT_312 (pc : Nat) : sx_iOk prog_1_method_86_code (aS_312 pc) := (sx_ite (p := fun l => sx_iOk prog_1_method_86_code l) (sx_ite (p := fun l => sx_iOk prog_1_method_86_code l) (sx_iB_s aJ_312_0) (sx_iB_s aJ_312_1)) (sx_ite (p := fun l => sx_iOk prog_1_method_86_code l) (sx_iB_s aJ_312_2) (sx_iB_s aJ_312_3)))
def aW_312 : Nat → Option (Instr × Nat) := fun pc => sx_iF (aS_312 pc) pc
theorem aX_312 : ∀ pc i len, aW_312 pc = some (i, len) → decode aM_312.1.2.1 pc = .ok (i, len) := fun pc i len h => sx_iF_s (aT_312 pc) h
def aI_313_0 : sx_IL := [(0, .aload_n 0, 1), (1, .iload_n 1, 1), (2, .invokevirtual 473, 3), (5, .ifCond .eq 27, 3), (8, .iload_n 3, 1), (9, .iconst 1, 1)]
theorem aJ_313_0 : sx_iB prog_1_method_79_code aI_313_0 = true := by decide +kernel
def aI_313_1 : sx_IL := [(10, .if_icmp .lt 22, 3), (13, .iload_n 3, 1), (14, .aload_n 0, 1), (15, .getfield 63, 3), (18, .iload_n 1, 1), (19, .iaload, 1)]
theorem aJ_313_1 : sx_iB prog_1_method_79_code aI_313_1 = true := by decide +kernel
def aI_313_2 : sx_IL := [(20, .if_icmp .gt 12, 3), (23, .iload_n 2, 1), (24, .ifCond .lt 8, 3), (27, .iload_n 2, 1), (28, .iload_n 3, 1), (29, .if_icmp .lt 5, 3)]
theorem aJ_313_2 : sx_iB prog_1_method_79_code aI_313_2 = true := by decide +kernel
def aI_313_3 : sx_IL := [(32, .iconst (-1), 1), (33, .ireturn, 1), (34, .iconst 0, 1), (35, .istore 4, 2), (37, .iconst 0, 1), (38, .istore 5, 2)]
theorem aJ_313_3 : sx_iB prog_1_method_79_code aI_313_3 = true := by decide +kernel
def aI_313_4 : sx_IL := [(40, .iload_n 2, 1), (41, .istore 6, 2), (43, .iload_n 3, 1), (44, .istore 7, 2), (46, .iload 7, 2), (48, .iconst 1, 1)]
theorem aJ_313_4 : sx_iB prog_1_method_79_code aI_313_4 = true := by decide +kernel
def aI_313_5 : sx_IL := [(49, .if_icmp .le 138, 3), (52, .iload 4, 2), (54, .bipush 7, 2), (56, .if_icmp .ge 131, 3), (59, .iload 7, 2), (61, .invokestatic 480, 3)]
theorem aJ_313_5 : sx_iB prog_1_method_79_code aI_313_5 = true := by decide +kernel
def aI_313_6 : sx_IL := [(64, .istore 8, 2), (66, .iload 6, 2), (68, .iload 8, 2), (70, .if_icmp .ge 7, 3), (73, .iconst 1, 1), (74, .goto 4, 3)]
theorem aJ_313_6 : sx_iB prog_1_method_79_code aI_313_6 = true := by decide +kernel
def aI_313_7 : sx_IL := [(77, .iconst 0, 1), (78, .istore 9, 2), (80, .aload_n 0, 1), (81, .getfield 66, 3), (84, .bipush 8, 2), (86, .iload 4, 2)]
theorem aJ_313_7 : sx_iB prog_1_method_79_code aI_313_7 = true := by decide +kernel
def aI_313_8 : sx_IL := [(88, .iadd, 1), (89, .iload 9, 2), (91, .ifCond .eq 26, 3), (94, .aload_n 0, 1), (95, .aload_n 0, 1), (96, .getfield 60, 3)]
theorem aJ_313_8 : sx_iB prog_1_method_79_code aI_313_8 = true := by decide +kernel
def aI_313_9 : sx_IL := [(99, .iload_n 1, 1), (100, .aaload, 1), (101, .iload 5, 2), (103, .iload 8, 2), (105, .iadd, 1), (106, .iload 7, 2)]
theorem aJ_313_9 : sx_iB prog_1_method_79_code aI_313_9 = true := by decide +kernel
def aI_313_10 : sx_IL := [(108, .iload 8, 2), (110, .isub, 1), (111, .invokevirtual 476, 3), (114, .goto 17, 3), (117, .aload_n 0, 1), (118, .aload_n 0, 1)]
theorem aJ_313_10 : sx_iB prog_1_method_79_code aI_313_10 = true := by decide +kernel
def aI_313_11 : sx_IL := [(119, .getfield 60, 3), (122, .iload_n 1, 1), (123, .aaload, 1), (124, .iload 5, 2), (126, .iload 8, 2), (128, .invokevirtual 476, 3)]
theorem aJ_313_11 : sx_iB prog_1_method_79_code aI_313_11 = true := by decide +kernel
def aI_313_12 : sx_IL := [(131, .lastore, 1), (132, .iload 5, 2), (134, .iload 9, 2), (136, .ifCond .eq 7, 3), (139, .iconst 0, 1), (140, .goto 5, 3)]
theorem aJ_313_12 : sx_iB prog_1_method_79_code aI_313_12 = true := by decide +kernel
def aI_313_13 : sx_IL := [(143, .iload 8, 2), (145, .iadd, 1), (146, .istore 5, 2), (148, .iload 6, 2), (150, .iload 9, 2), (152, .ifCond .eq 7, 3)]
theorem aJ_313_13 : sx_iB prog_1_method_79_code aI_313_13 = true := by decide +kernel
def aI_313_14 : sx_IL := [(155, .iconst 0, 1), (156, .goto 5, 3), (159, .iload 8, 2), (161, .isub, 1), (162, .istore 6, 2), (164, .iload 9, 2)]
theorem aJ_313_14 : sx_iB prog_1_method_79_code aI_313_14 = true := by decide +kernel
def aI_313_15 : sx_IL := [(166, .ifCond .eq 8, 3), (169, .iload 8, 2), (171, .goto 8, 3), (174, .iload 7, 2), (176, .iload 8, 2), (178, .isub, 1)]
theorem aJ_313_15 : sx_iB prog_1_method_79_code aI_313_15 = true := by decide +kernel
def aI_313_16 : sx_IL := [(179, .istore 7, 2), (181, .iinc 4 1, 3), (184, .goto (-138), 3), (187, .aload_n 0, 1), (188, .iload 4, 2), (190, .invokevirtual 483, 3)]
theorem aJ_313_16 : sx_iB prog_1_method_79_code aI_313_16 = true := by decide +kernel
def aI_313_17 : sx_IL := [(193, .aload_n 0, 1), (194, .getfield 25, 3), (197, .getfield 69, 3), (200, .ireturn, 1)]
theorem aJ_313_17 : sx_iB prog_1_method_79_code aI_313_17 = true := by decide +kernel
def aS_313 (pc : Nat) : sx_IL := (if pc < 99 then (if pc < 40 then (if pc < 20 then (if pc < 10 then aI_313_0 else aI_313_1) else (if pc < 32 then aI_313_2 else aI_313_3)) else (if pc < 64 then (if pc < 49 then aI_313_4 else aI_313_5) else (if pc < 77 then aI_313_6 else (if pc < 88 then aI_313_7 else aI_313_8)))) else (if pc < 143 then (if pc < 119 then (if pc < 108 then aI_313_9 else aI_313_10) else (if pc < 131 then aI_313_11 else aI_313_12)) else (if pc < 166 then (if pc < 155 then aI_313_13 else aI_313_14) else (if pc < 179 then aI_313_15 else (if pc < 193 then aI_313_16 else aI_313_17)))))
theorem aT_313 (pc : Nat) : sx_iOk prog_1_method_79_code (aS_313 pc) := (sx_ite (p := fun l => sx_iOk prog_1_method_79_code l) (sx_ite (p := fun l => sx_iOk prog_1_method_79_code l) (sx_ite (p := fun l => sx_iOk prog_1_method_79_code l) (sx_ite (p := fun l => sx_iOk prog_1_method_79_code l) (sx_iB_s aJ_313_0) (sx_iB_s aJ_313_1)) (sx_ite (p := fun l => sx_iOk prog_1_method_79_code l) (sx_iB_s aJ_313_2) (sx_iB_s aJ_313_3))) (sx_ite (p := fun l => sx_iOk prog_1_method_79_code l) (sx_ite (p := fun l => sx_iOk prog_1_method_79_code l) (sx_iB_s aJ_313_4) (sx_iB_s aJ_313_5)) (sx_ite (p := fun l => sx_iOk prog_1_method_79_code l) (sx_iB_s aJ_313_6) (sx_ite (p := fun l => sx_iOk prog_1_method_79_code l) (sx_iB_s aJ_313_7) (sx_iB_s aJ_313_8))))) (sx_ite (p := fun l => sx_iOk prog_1_method_79_code l) (sx_ite (p := fun l => sx_iOk prog_1_method_79_code l) (sx_ite (p := fun l => sx_iOk prog_1_method_79_code l) (sx_iB_s aJ_313_9) (sx_iB_s aJ_313_10)) (sx_ite (p := fun l => sx_iOk prog_1_method_79_code l) (sx_iB_s aJ_313_11) (sx_iB_s aJ_313_12))) (sx_ite (p := fun l => sx_iOk prog_1_method_79_code l) (sx_ite (p := fun l => sx_iOk prog_1_method_79_code l) (sx_iB_s aJ_313_13) (sx_iB_s aJ_313_14)) (sx_ite (p := fun l => sx_iOk prog_1_method_79_code l) (sx_iB_s aJ_313_15) (sx_ite (p := fun l => sx_iOk prog_1_method_79_code l) (sx_iB_s aJ_313_16) (sx_iB_s aJ_313_17))))))
def aW_313 : Nat → Option (Instr × Nat) := fun pc => sx_iF (aS_313 pc) pc
theorem aX_313 : ∀ pc i len, aW_313 pc = some (i, len) → decode aM_313.1.2.1 pc = .ok (i, len) := fun pc i len h => sx_iF_s (aT_313 pc) h
def aI_314_0 : sx_IL := [(0, .iconst 1, 1), (1, .istore_n 1, 1), (2, .iconst 0, 1), (3, .istore_n 2, 1), (4, .iload_n 2, 1), (5, .bipush 8, 2)]
theorem aJ_314_0 : sx_iB prog_1_method_84_code aI_314_0 = true := by decide +kernel
def aI_314_1 : sx_IL := [(7, .if_icmp .ge 20, 3), (10, .iconst 2, 1), (11, .iload_n 1, 1), (12, .imul, 1), (13, .iload_n 0, 1), (14, .if_icmp .ge 13, 3)]
theorem aJ_314_1 : sx_iB prog_1_method_84_code aI_314_1 = true := by decide +kernel
def aI_314_2 : sx_IL := [(17, .iload_n 1, 1), (18, .iconst 2, 1), (19, .imul, 1), (20, .istore_n 1, 1), (21, .iinc 2 1, 3), (24, .goto (-20), 3)]
theorem aJ_314_2 : sx_iB prog_1_method_84_code aI_314_2 = true := by decide +kernel
def aI_314_3 : sx_IL := [(27, .iload_n 1, 1), (28, .ireturn, 1)]
theorem aJ_314_3 : sx_iB prog_1_method_84_code aI_314_3 = true := by decide +kernel
def aS_314 (pc : Nat) : sx_IL := (if pc < 17 then (if pc < 7 then aI_314_0 else aI_314_1) else (if pc < 27 then aI_314_2 else aI_314_3))
theorem aT_314 (pc : Nat) : sx_iOk prog_1_method_84_code (aS_314 pc) := (sx_ite (p := fun l => sx_iOk prog_1_method_84_code l) (sx_ite (p := fun l => sx_iOk prog_1_method_84_code l) (sx_iB_s aJ_314_0) (sx_iB_s aJ_314_1)) (sx_ite (p := fun l => sx_iOk prog_1_method_84_code l) (sx_iB_s aJ_314_2) (sx_iB_s aJ_314_3)))
def aW_314 : Nat → Option (Instr × Nat) := fun pc => sx_iF (aS_314 pc) pc
theorem aX_314 : ∀ pc i len, aW_314 pc = some (i, len) → decode aM_314.1.2.1 pc = .ok (i, len) := fun pc i len h => sx_iF_s (aT_314 pc) h
def aI_315_0 : sx_IL := [(0, .aload_n 0, 1), (1, .getfield 25, 3), (4, .invokevirtual 108, 3), (7, .iload_n 1, 1), (8, .iconst 1, 1), (9, .isub, 1)]
theorem aJ_315_0 : sx_iB prog_1_method_81_code aI_315_0 = true := by decide +kernel
def aI_315_1 : sx_IL := [(10, .istore_n 2, 1), (11, .iload_n 2, 1), (12, .ifCond .lt 25, 3), (15, .aload_n 0, 1), (16, .getfield 25, 3), (19, .aload_n 0, 1)]
theorem aJ_315_1 : sx_iB prog_1_method_81_code aI_315_1 = true := by decide +kernel
def aI_315_2 : sx_IL := [(20, .getfield 66, 3), (23, .bipush 8, 2), (25, .iload_n 2, 1), (26, .iadd, 1), (27, .laload, 1), (28, .invokevirtual 486, 3)]
theorem aJ_315_2 : sx_iB prog_1_method_81_code aI_315_2 = true := by decide +kernel
def aI_315_3 : sx_IL := [(31, .iinc 2 (-1), 3), (34, .goto (-23), 3), (37, .return_, 1)]
theorem aJ_315_3 : sx_iB prog_1_method_81_code aI_315_3 = true := by decide +kernel
def aS_315 (pc : Nat) : sx_IL := (if pc < 20 then (if pc < 10 then aI_315_0 else aI_315_1) else (if pc < 31 then aI_315_2 else aI_315_3))
theorem aT_315 (pc : Nat) : sx_iOk prog_1_method_81_code (aS_315 pc) := (sx_ite (p := fun l => sx_iOk prog_1_method_81_code l) (sx_ite (p := fun l => sx_iOk prog_1_method_81_code l) (sx_iB_s aJ_315_0) (sx_iB_s aJ_315_1)) (sx_ite (p := fun l => sx_iOk prog_1_method_81_code l) (sx_iB_s aJ_315_2) (sx_iB_s aJ_315_3)))
def aW_315 : Nat → Option (Instr × Nat) := fun pc => sx_iF (aS_315 pc) pc
theorem aX_315 : ∀ pc i len, aW_315 pc = some (i, len) → decode aM_315.1.2.1 pc = .ok (i, len) := fun pc i len h => sx_iF_s (aT_315 pc) h
def aI_316_0 : sx_IL := [(0, .aload_n 0, 1), (1, .iload_n 1, 1), (2, .invokevirtual 473, 3), (5, .ifCond .eq 28, 3), (8, .iload_n 3, 1), (9, .iconst 1, 1)]
theorem aJ_316_0 : sx_iB prog_1_method_80_code aI_316_0 = true := by decide +kernel
def aI_316_1 : sx_IL := [(10, .if_icmp .lt 23, 3), (13, .iload_n 3, 1), (14, .aload_n 0, 1), (15, .getfield 63, 3), (18, .iload_n 1, 1), (19, .iaload, 1)]
theorem aJ_316_1 : sx_iB prog_1_method_80_code aI_316_1 = true := by decide +kernel
def aI_316_2 : sx_IL := [(20, .if_icmp .gt 13, 3), (23, .iload_n 2, 1), (24, .iconst 1, 1), (25, .if_icmp .lt 8, 3), (28, .iload_n 2, 1), (29, .iload_n 3, 1)]
theorem aJ_316_2 : sx_iB prog_1_method_80_code aI_316_2 = true := by decide +kernel
def aI_316_3 : sx_IL := [(30, .if_icmp .le 5, 3), (33, .iconst (-1), 1), (34, .ireturn, 1), (35, .iconst 0, 1), (36, .istore 4, 2), (38, .iconst 0, 1)]
theorem aJ_316_3 : sx_iB prog_1_method_80_code aI_316_3 = true := by decide +kernel
def aI_316_4 : sx_IL := [(39, .istore 5, 2), (41, .iload_n 2, 1), (42, .istore 6, 2), (44, .iload_n 3, 1), (45, .istore 7, 2), (47, .iconst 1, 1)]
theorem aJ_316_4 : sx_iB prog_1_method_80_code aI_316_4 = true := by decide +kernel
def aI_316_5 : sx_IL := [(48, .istore 8, 2), (50, .iload 7, 2), (52, .iload 6, 2), (54, .if_icmp .le 155, 3), (57, .iload 4, 2), (59, .bipush 7, 2)]
theorem aJ_316_5 : sx_iB prog_1_method_80_code aI_316_5 = true := by decide +kernel
def aI_316_6 : sx_IL := [(61, .if_icmp .ge 148, 3), (64, .iload 7, 2), (66, .invokestatic 480, 3), (69, .istore 9, 2), (71, .iload 6, 2), (73, .iload 9, 2)]
theorem aJ_316_6 : sx_iB prog_1_method_80_code aI_316_6 = true := by decide +kernel
def aI_316_7 : sx_IL := [(75, .if_icmp .gt 7, 3), (78, .iconst 1, 1), (79, .goto 4, 3), (82, .iconst 0, 1), (83, .istore 10, 2), (85, .aload_n 0, 1)]
theorem aJ_316_7 : sx_iB prog_1_method_80_code aI_316_7 = true := by decide +kernel
def aI_316_8 : sx_IL := [(86, .getfield 66, 3), (89, .bipush 8, 2), (91, .iload 4, 2), (93, .iadd, 1), (94, .iload 10, 2), (96, .ifCond .eq 26, 3)]
theorem aJ_316_8 : sx_iB prog_1_method_80_code aI_316_8 = true := by decide +kernel
def aI_316_9 : sx_IL := [(99, .aload_n 0, 1), (100, .aload_n 0, 1), (101, .getfield 60, 3), (104, .iload_n 1, 1), (105, .aaload, 1), (106, .iload 5, 2)]
theorem aJ_316_9 : sx_iB prog_1_method_80_code aI_316_9 = true := by decide +kernel
def aI_316_10 : sx_IL := [(108, .iload 9, 2), (110, .iadd, 1), (111, .iload 7, 2), (113, .iload 9, 2), (115, .isub, 1), (116, .invokevirtual 476, 3)]
theorem aJ_316_10 : sx_iB prog_1_method_80_code aI_316_10 = true := by decide +kernel
def aI_316_11 : sx_IL := [(119, .goto 17, 3), (122, .aload_n 0, 1), (123, .aload_n 0, 1), (124, .getfield 60, 3), (127, .iload_n 1, 1), (128, .aaload, 1)]
theorem aJ_316_11 : sx_iB prog_1_method_80_code aI_316_11 = true := by decide +kernel
def aI_316_12 : sx_IL := [(129, .iload 5, 2), (131, .iload 9, 2), (133, .invokevirtual 476, 3), (136, .lastore, 1), (137, .iload 5, 2), (139, .iload 10, 2)]
theorem aJ_316_12 : sx_iB prog_1_method_80_code aI_316_12 = true := by decide +kernel
def aI_316_13 : sx_IL := [(141, .ifCond .eq 7, 3), (144, .iconst 0, 1), (145, .goto 5, 3), (148, .iload 9, 2), (150, .iadd, 1), (151, .istore 5, 2)]
theorem aJ_316_13 : sx_iB prog_1_method_80_code aI_316_13 = true := by decide +kernel
def aI_316_14 : sx_IL := [(153, .iload 6, 2), (155, .iload 10, 2), (157, .ifCond .eq 7, 3), (160, .iconst 0, 1), (161, .goto 5, 3), (164, .iload 9, 2)]
theorem aJ_316_14 : sx_iB prog_1_method_80_code aI_316_14 = true := by decide +kernel
def aI_316_15 : sx_IL := [(166, .isub, 1), (167, .istore 6, 2), (169, .iload 10, 2), (171, .ifCond .eq 8, 3), (174, .iload 9, 2), (176, .goto 8, 3)]
theorem aJ_316_15 : sx_iB prog_1_method_80_code aI_316_15 = true := by decide +kernel
def aI_316_16 : sx_IL := [(179, .iload 7, 2), (181, .iload 9, 2), (183, .isub, 1), (184, .istore 7, 2), (186, .iload 8, 2), (188, .ifCond .eq 12, 3)]
theorem aJ_316_16 : sx_iB prog_1_method_80_code aI_316_16 = true := by decide +kernel
def aI_316_17 : sx_IL := [(191, .iload 10, 2), (193, .ifCond .eq 7, 3), (196, .iconst 1, 1), (197, .goto 4, 3), (200, .iconst 0, 1), (201, .istore 8, 2)]
theorem aJ_316_17 : sx_iB prog_1_method_80_code aI_316_17 = true := by decide +kernel
def aI_316_18 : sx_IL := [(203, .iinc 4 1, 3), (206, .goto (-156), 3), (209, .iload 8, 2), (211, .ifCond .ne 30, 3), (214, .aload_n 0, 1), (215, .getfield 66, 3)]
theorem aJ_316_18 : sx_iB prog_1_method_80_code aI_316_18 = true := by decide +kernel
def aI_316_19 : sx_IL := [(218, .bipush 8, 2), (220, .iload 4, 2), (222, .iadd, 1), (223, .aload_n 0, 1), (224, .aload_n 0, 1), (225, .getfield 60, 3)]
theorem aJ_316_19 : sx_iB prog_1_method_80_code aI_316_19 = true := by decide +kernel
def aI_316_20 : sx_IL := [(228, .iload_n 1, 1), (229, .aaload, 1), (230, .iload 5, 2), (232, .iload 7, 2), (234, .invokevirtual 476, 3), (237, .lastore, 1)]
theorem aJ_316_20 : sx_iB prog_1_method_80_code aI_316_20 = true := by decide +kernel
def aI_316_21 : sx_IL := [(238, .iinc 4 1, 3), (241, .aload_n 0, 1), (242, .iload 4, 2), (244, .invokevirtual 483, 3), (247, .aload_n 0, 1), (248, .getfield 25, 3)]
theorem aJ_316_21 : sx_iB prog_1_method_80_code aI_316_21 = true := by decide +kernel
def aI_316_22 : sx_IL := [(251, .getfield 69, 3), (254, .ireturn, 1)]
theorem aJ_316_22 : sx_iB prog_1_method_80_code aI_316_22 = true := by decide +kernel
def aS_316 (pc : Nat) : sx_IL := (if pc < 119 then (if pc < 48 then (if pc < 20 then (if pc < 10 then aI_316_0 else aI_316_1) else (if pc < 30 then aI_316_2 else (if pc < 39 then aI_316_3 else aI_316_4))) else (if pc < 86 then (if pc < 61 then aI_316_5 else (if pc < 75 then aI_316_6 else aI_316_7)) else (if pc < 99 then aI_316_8 else (if pc < 108 then aI_316_9 else aI_316_10)))) else (if pc < 191 then (if pc < 153 then (if pc < 129 then aI_316_11 else (if pc < 141 then aI_316_12 else aI_316_13)) else (if pc < 166 then aI_316_14 else (if pc < 179 then aI_316_15 else aI_316_16))) else (if pc < 228 then (if pc < 203 then aI_316_17 else (if pc < 218 then aI_316_18 else aI_316_19)) else (if pc < 238 then aI_316_20 else (if pc < 251 then aI_316_21 else aI_316_22)))))
theorem aT_316 (pc : Nat) : sx_iOk prog_1_method_80_code (aS_316 pc) := (sx_ite (p := fun l => sx_iOk prog_1_method_80_code l) (sx_ite (p := fun l => sx_iOk prog_1_method_80_code l) (sx_ite (p := fun l => sx_iOk prog_1_method_80_code l) (sx_ite (p := fun l => sx_iOk prog_1_method_80_code l) (sx_iB_s aJ_316_0) (sx_iB_s aJ_316_1)) (sx_ite (p := fun l => sx_iOk prog_1_method_80_code l) (sx_iB_s aJ_316_2) (sx_ite (p := fun l => sx_iOk prog_1_method_80_code l) (sx_iB_s aJ_316_3) (sx_iB_s aJ_316_4)))) (sx_ite (p := fun l => sx_iOk prog_1_method_80_code l) (sx_ite (p := fun l => sx_iOk prog_1_method_80_code l) (sx_iB_s aJ_316_5) (sx_ite (p := fun l => sx_iOk prog_1_method_80_code l) (sx_iB_s aJ_316_6) (sx_iB_s aJ_316_7))) (sx_ite (p := fun l => sx_iOk prog_1_method_80_code l) (sx_iB_s aJ_316_8) (sx_ite (p := fun l => sx_iOk prog_1_method_80_code l) (sx_iB_s aJ_316_9) (sx_iB_s aJ_316_10))))) (sx_ite (p := fun l => sx_iOk prog_1_method_80_code l) (sx_ite (p := fun l => sx_iOk prog_1_method_80_code l) (sx_ite (p := fun l => sx_iOk prog_1_method_80_code l) (sx_iB_s aJ_316_11) (sx_ite (p := fun l => sx_iOk prog_1_method_80_code l) (sx_iB_s aJ_316_12) (sx_iB_s aJ_316_13))) (sx_ite (p := fun l => sx_iOk prog_1_method_80_code l) (sx_iB_s aJ_316_14) (sx_ite (p := fun l => sx_iOk prog_1_method_80_code l) (sx_iB_s aJ_316_15) (sx_iB_s aJ_316_16)))) (sx_ite (p := fun l => sx_iOk prog_1_method_80_code l) (sx_ite (p := fun l => sx_iOk prog_1_method_80_code l) (sx_iB_s aJ_316_17) (sx_ite (p := fun l => sx_iOk prog_1_method_80_code l) (sx_iB_s aJ_316_18) (sx_iB_s aJ_316_19))) (sx_ite (p := fun l => sx_iOk prog_1_method_80_code l) (sx_iB_s aJ_316_20) (sx_ite (p := fun l => sx_iOk prog_1_method_80_code l) (sx_iB_s aJ_316_21) (sx_iB_s aJ_316_22))))))
def aW_316 : Nat → Option (Instr × Nat) := fun pc => sx_iF (aS_316 pc) pc
theorem aX_316 : ∀ pc i len, aW_316 pc = some (i, len) → decode aM_316.1.2.1 pc = .ok (i, len) := fun pc i len h => sx_iF_s (aT_316 pc) h
def aI_317_0 : sx_IL := [(0, .iload 4, 2), (2, .iconst 1, 1), (3, .if_icmp .lt 20, 3), (6, .iload 4, 2), (8, .bipush 64, 2), (10, .if_icmp .gt 13, 3)]
theorem aJ_317_0 : sx_iB prog_1_method_82_code aI_317_0 = true := by decide +kernel
def aI_317_1 : sx_IL := [(13, .iload_n 3, 1), (14, .ifCond .lt 9, 3), (17, .iload_n 3, 1), (18, .iload 4, 2), (20, .if_icmp .lt 5, 3), (23, .iconst (-1), 1)]
theorem aJ_317_1 : sx_iB prog_1_method_82_code aI_317_1 = true := by decide +kernel
def aI_317_2 : sx_IL := [(24, .ireturn, 1), (25, .iconst 0, 1), (26, .istore 7, 2), (28, .iconst 0, 1), (29, .istore 8, 2), (31, .iload_n 3, 1)]
theorem aJ_317_2 : sx_iB prog_1_method_82_code aI_317_2 = true := by decide +kernel
def aI_317_3 : sx_IL := [(32, .istore 9, 2), (34, .iload 4, 2), (36, .istore 10, 2), (38, .iload 10, 2), (40, .iconst 1, 1), (41, .if_icmp .le 88, 3)]
theorem aJ_317_3 : sx_iB prog_1_method_82_code aI_317_3 = true := by decide +kernel
def aI_317_4 : sx_IL := [(44, .iload 8, 2), (46, .bipush 7, 2), (48, .if_icmp .ge 81, 3), (51, .iload 10, 2), (53, .invokestatic 480, 3), (56, .istore 11, 2)]
theorem aJ_317_4 : sx_iB prog_1_method_82_code aI_317_4 = true := by decide +kernel
def aI_317_5 : sx_IL := [(58, .iload 9, 2), (60, .iload 11, 2), (62, .if_icmp .ge 7, 3), (65, .iconst 1, 1), (66, .goto 4, 3), (69, .iconst 0, 1)]
theorem aJ_317_5 : sx_iB prog_1_method_82_code aI_317_5 = true := by decide +kernel
def aI_317_6 : sx_IL := [(70, .istore 12, 2), (72, .iload 7, 2), (74, .iload 12, 2), (76, .ifCond .eq 10, 3), (79, .iconst 1, 1), (80, .iload 8, 2)]
theorem aJ_317_6 : sx_iB prog_1_method_82_code aI_317_6 = true := by decide +kernel
def aI_317_7 : sx_IL := [(82, .ishl, 1), (83, .goto 4, 3), (86, .iconst 0, 1), (87, .ior, 1), (88, .istore 7, 2), (90, .iload 9, 2)]
theorem aJ_317_7 : sx_iB prog_1_method_82_code aI_317_7 = true := by decide +kernel
def aI_317_8 : sx_IL := [(92, .iload 12, 2), (94, .ifCond .eq 7, 3), (97, .iconst 0, 1), (98, .goto 5, 3), (101, .iload 11, 2), (103, .isub, 1)]
theorem aJ_317_8 : sx_iB prog_1_method_82_code aI_317_8 = true := by decide +kernel
def aI_317_9 : sx_IL := [(104, .istore 9, 2), (106, .iload 12, 2), (108, .ifCond .eq 8, 3), (111, .iload 11, 2), (113, .goto 8, 3), (116, .iload 10, 2)]
theorem aJ_317_9 : sx_iB prog_1_method_82_code aI_317_9 = true := by decide +kernel
def aI_317_10 : sx_IL := [(118, .iload 11, 2), (120, .isub, 1), (121, .istore 10, 2), (123, .iinc 8 1, 3), (126, .goto (-88), 3), (129, .aload_n 0, 1)]
theorem aJ_317_10 : sx_iB prog_1_method_82_code aI_317_10 = true := by decide +kernel
def aI_317_11 : sx_IL := [(130, .getfield 21, 3), (133, .getfield 69, 3), (136, .bipush 8, 2), (138, .iload 8, 2), (140, .imul, 1), (141, .if_icmp .ne 7, 3)]
theorem aJ_317_11 : sx_iB prog_1_method_82_code aI_317_11 = true := by decide +kernel
def aI_317_12 : sx_IL := [(144, .iconst 1, 1), (145, .goto 4, 3), (148, .iconst 0, 1), (149, .istore 10, 2), (151, .aload_n 0, 1), (152, .lload_n 1, 1)]
theorem aJ_317_12 : sx_iB prog_1_method_82_code aI_317_12 = true := by decide +kernel
def aI_317_13 : sx_IL := [(153, .invokevirtual 490, 3), (156, .lstore 11, 2), (158, .iconst 0, 1), (159, .istore 13, 2), (161, .iload 10, 2), (163, .ifCond .eq 79, 3)]
theorem aJ_317_13 : sx_iB prog_1_method_82_code aI_317_13 = true := by decide +kernel
def aI_317_14 : sx_IL := [(166, .iload 13, 2), (168, .iload 8, 2), (170, .if_icmp .ge 72, 3), (173, .aload_n 0, 1), (174, .getfield 21, 3), (177, .bipush 8, 2)]
theorem aJ_317_14 : sx_iB prog_1_method_82_code aI_317_14 = true := by decide +kernel
def aI_317_15 : sx_IL := [(179, .iload 13, 2), (181, .imul, 1), (182, .invokevirtual 494, 3), (185, .lstore 14, 2), (187, .iload 7, 2), (189, .iload 8, 2)]
theorem aJ_317_15 : sx_iB prog_1_method_82_code aI_317_15 = true := by decide +kernel
def aI_317_16 : sx_IL := [(191, .iconst 1, 1), (192, .isub, 1), (193, .iload 13, 2), (195, .isub, 1), (196, .iushr, 1), (197, .iconst 1, 1)]
theorem aJ_317_16 : sx_iB prog_1_method_82_code aI_317_16 = true := by decide +kernel
def aI_317_17 : sx_IL := [(198, .iand, 1), (199, .iconst 1, 1), (200, .if_icmp .ne 7, 3), (203, .iconst 1, 1), (204, .goto 4, 3), (207, .iconst 0, 1)]
theorem aJ_317_17 : sx_iB prog_1_method_82_code aI_317_17 = true := by decide +kernel
def aI_317_18 : sx_IL := [(208, .istore 16, 2), (210, .iload 16, 2), (212, .ifCond .eq 14, 3), (215, .aload_n 0, 1), (216, .lload 11, 2), (218, .lload 14, 2)]
theorem aJ_317_18 : sx_iB prog_1_method_82_code aI_317_18 = true := by decide +kernel
def aI_317_19 : sx_IL := [(220, .invokevirtual 498, 3), (223, .goto 11, 3), (226, .aload_n 0, 1), (227, .lload 14, 2), (229, .lload 11, 2), (231, .invokevirtual 498, 3)]
theorem aJ_317_19 : sx_iB prog_1_method_82_code aI_317_19 = true := by decide +kernel
def aI_317_20 : sx_IL := [(234, .lstore 11, 2), (236, .iinc 13 1, 3), (239, .goto (-78), 3), (242, .aload_n 0, 1), (243, .getfield 21, 3), (246, .invokevirtual 108, 3)]
theorem aJ_317_20 : sx_iB prog_1_method_82_code aI_317_20 = true := by decide +kernel
def aI_317_21 : sx_IL := [(249, .iload 10, 2), (251, .ifCond .eq 15, 3), (254, .lload 11, 2), (256, .lload 5, 2), (258, .lcmp, 1), (259, .ifCond .ne 7, 3)]
theorem aJ_317_21 : sx_iB prog_1_method_82_code aI_317_21 = true := by decide +kernel
def aI_317_22 : sx_IL := [(262, .iconst 1, 1), (263, .goto 4, 3), (266, .iconst 0, 1), (267, .ireturn, 1)]
theorem aJ_317_22 : sx_iB prog_1_method_82_code aI_317_22 = true := by decide +kernel
def aS_317 (pc : Nat) : sx_IL := (if pc < 130 then (if pc < 58 then (if pc < 24 then (if pc < 13 then aI_317_0 else aI_317_1) else (if pc < 32 then aI_317_2 else (if pc < 44 then aI_317_3 else aI_317_4))) else (if pc < 92 then (if pc < 70 then aI_317_5 else (if pc < 82 then aI_317_6 else aI_317_7)) else (if pc < 104 then aI_317_8 else (if pc < 118 then aI_317_9 else aI_317_10)))) else (if pc < 198 then (if pc < 166 then (if pc < 144 then aI_317_11 else (if pc < 153 then aI_317_12 else aI_317_13)) else (if pc < 179 then aI_317_14 else (if pc < 191 then aI_317_15 else aI_317_16))) else (if pc < 234 then (if pc < 208 then aI_317_17 else (if pc < 220 then aI_317_18 else aI_317_19)) else (if pc < 249 then aI_317_20 else (if pc < 262 then aI_317_21 else aI_317_22)))))
theorem aT_317 (pc : Nat) : sx_iOk prog_1_method_82_code (aS_317 pc) := (sx_ite (p := fun l => sx_iOk prog_1_method_82_code l) (sx_ite (p := fun l => sx_iOk prog_1_method_82_code l) (sx_ite (p := fun l => sx_iOk prog_1_method_82_code l) (sx_ite (p := fun l => sx_iOk prog_1_method_82_code l) (sx_iB_s aJ_317_0) (sx_iB_s aJ_317_1)) (sx_ite (p := fun l => sx_iOk prog_1_method_82_code l) (sx_iB_s aJ_317_2) (sx_ite (p := fun l => sx_iOk prog_1_method_82_code l) (sx_iB_s aJ_317_3) (sx_iB_s aJ_317_4)))) (sx_ite (p := fun l => sx_iOk prog_1_method_82_code l) (sx_ite (p := fun l => sx_iOk prog_1_method_82_code l) (sx_iB_s aJ_317_5) (sx_ite (p := fun l => sx_iOk prog_1_method_82_code l) (sx_iB_s aJ_317_6) (sx_iB_s aJ_317_7))) (sx_ite (p := fun l => sx_iOk prog_1_method_82_code l) (sx_iB_s aJ_317_8) (sx_ite (p := fun l => sx_iOk prog_1_method_82_code l) (sx_iB_s aJ_317_9) (sx_iB_s aJ_317_10))))) (sx_ite (p := fun l => sx_iOk prog_1_method_82_code l) (sx_ite (p := fun l => sx_iOk prog_1_method_82_code l) (sx_ite (p := fun l => sx_iOk prog_1_method_82_code l) (sx_iB_s aJ_317_11) (sx_ite (p := fun l => sx_iOk prog_1_method_82_code l) (sx_iB_s aJ_317_12) (sx_iB_s aJ_317_13))) (sx_ite (p := fun l => sx_iOk prog_1_method_82_code l) (sx_iB_s aJ_317_14) (sx_ite (p := fun l => sx_iOk prog_1_method_82_code l) (sx_iB_s aJ_317_15) (sx_iB_s aJ_317_16)))) (sx_ite (p := fun l => sx_iOk prog_1_method_82_code l) (sx_ite (p := fun l => sx_iOk prog_1_method_82_code l) (sx_iB_s aJ_317_17) (sx_ite (p := fun l => sx_iOk prog_1_method_82_code l) (sx_iB_s aJ_317_18) (sx_iB_s aJ_317_19))) (sx_ite (p := fun l => sx_iOk prog_1_method_82_code l) (sx_iB_s aJ_317_20) (sx_ite (p := fun l => sx_iOk prog_1_method_82_code l) (sx_iB_s aJ_317_21) (sx_iB_s aJ_317_22))))))
def aW_317 : Nat → Option (Instr × Nat) := fun pc => sx_iF (aS_317 pc) pc
theorem aX_317 : ∀ pc i len, aW_317 pc = some (i, len) → decode aM_317.1.2.1 pc = .ok (i, len) := fun pc i len h => sx_iF_s (aT_317 pc) h
def aI_318_0 : sx_IL := [(0, .iload_n 2, 1), (1, .iconst 1, 1), (2, .if_icmp .lt 19, 3), (5, .iload_n 2, 1), (6, .bipush 64, 2), (8, .if_icmp .gt 13, 3)]
theorem aJ_318_0 : sx_iB prog_1_method_83_code aI_318_0 = true := by decide +kernel
def aI_318_1 : sx_IL := [(11, .iload_n 1, 1), (12, .iconst 1, 1), (13, .if_icmp .lt 8, 3), (16, .iload_n 1, 1), (17, .iload_n 2, 1), (18, .if_icmp .le 5, 3)]
theorem aJ_318_1 : sx_iB prog_1_method_83_code aI_318_1 = true := by decide +kernel
def aI_318_2 : sx_IL := [(21, .iconst (-1), 1), (22, .ireturn, 1), (23, .iconst 0, 1), (24, .istore 7, 2), (26, .iconst 0, 1), (27, .istore 8, 2)]
theorem aJ_318_2 : sx_iB prog_1_method_83_code aI_318_2 = true := by decide +kernel
def aI_318_3 : sx_IL := [(29, .iload_n 1, 1), (30, .istore 9, 2), (32, .iload_n 2, 1), (33, .istore 10, 2), (35, .iload 10, 2), (37, .iload 9, 2)]
theorem aJ_318_3 : sx_iB prog_1_method_83_code aI_318_3 = true := by decide +kernel
def aI_318_4 : sx_IL := [(39, .if_icmp .le 88, 3), (42, .iload 8, 2), (44, .bipush 7, 2), (46, .if_icmp .ge 81, 3), (49, .iload 10, 2), (51, .invokestatic 480, 3)]
theorem aJ_318_4 : sx_iB prog_1_method_83_code aI_318_4 = true := by decide +kernel
def aI_318_5 : sx_IL := [(54, .istore 11, 2), (56, .iload 9, 2), (58, .iload 11, 2), (60, .if_icmp .gt 7, 3), (63, .iconst 1, 1), (64, .goto 4, 3)]
theorem aJ_318_5 : sx_iB prog_1_method_83_code aI_318_5 = true := by decide +kernel
def aI_318_6 : sx_IL := [(67, .iconst 0, 1), (68, .istore 12, 2), (70, .iload 7, 2), (72, .iload 12, 2), (74, .ifCond .eq 10, 3), (77, .iconst 1, 1)]
theorem aJ_318_6 : sx_iB prog_1_method_83_code aI_318_6 = true := by decide +kernel
def aI_318_7 : sx_IL := [(78, .iload 8, 2), (80, .ishl, 1), (81, .goto 4, 3), (84, .iconst 0, 1), (85, .ior, 1), (86, .istore 7, 2)]
theorem aJ_318_7 : sx_iB prog_1_method_83_code aI_318_7 = true := by decide +kernel
def aI_318_8 : sx_IL := [(88, .iload 9, 2), (90, .iload 12, 2), (92, .ifCond .eq 7, 3), (95, .iconst 0, 1), (96, .goto 5, 3), (99, .iload 11, 2)]
theorem aJ_318_8 : sx_iB prog_1_method_83_code aI_318_8 = true := by decide +kernel
def aI_318_9 : sx_IL := [(101, .isub, 1), (102, .istore 9, 2), (104, .iload 12, 2), (106, .ifCond .eq 8, 3), (109, .iload 11, 2), (111, .goto 8, 3)]
theorem aJ_318_9 : sx_iB prog_1_method_83_code aI_318_9 = true := by decide +kernel
def aI_318_10 : sx_IL := [(114, .iload 10, 2), (116, .iload 11, 2), (118, .isub, 1), (119, .istore 10, 2), (121, .iinc 8 1, 3), (124, .goto (-89), 3)]
theorem aJ_318_10 : sx_iB prog_1_method_83_code aI_318_10 = true := by decide +kernel
def aI_318_11 : sx_IL := [(127, .iload 7, 2), (129, .iconst 1, 1), (130, .iload 8, 2), (132, .ishl, 1), (133, .iconst 1, 1), (134, .isub, 1)]
theorem aJ_318_11 : sx_iB prog_1_method_83_code aI_318_11 = true := by decide +kernel
def aI_318_12 : sx_IL := [(135, .if_icmp .ne 7, 3), (138, .iconst 1, 1), (139, .goto 4, 3), (142, .iconst 0, 1), (143, .istore 10, 2), (145, .iload 10, 2)]
theorem aJ_318_12 : sx_iB prog_1_method_83_code aI_318_12 = true := by decide +kernel
def aI_318_13 : sx_IL := [(147, .ifCond .eq 7, 3), (150, .iconst 0, 1), (151, .goto 4, 3), (154, .iconst 1, 1), (155, .istore 11, 2), (157, .aload_n 0, 1)]
theorem aJ_318_13 : sx_iB prog_1_method_83_code aI_318_13 = true := by decide +kernel
def aI_318_14 : sx_IL := [(158, .getfield 21, 3), (161, .getfield 69, 3), (164, .bipush 8, 2), (166, .iload 8, 2), (168, .iload 11, 2), (170, .iadd, 1)]
theorem aJ_318_14 : sx_iB prog_1_method_83_code aI_318_14 = true := by decide +kernel
def aI_318_15 : sx_IL := [(171, .imul, 1), (172, .if_icmp .ne 7, 3), (175, .iconst 1, 1), (176, .goto 4, 3), (179, .iconst 0, 1), (180, .istore 12, 2)]
theorem aJ_318_15 : sx_iB prog_1_method_83_code aI_318_15 = true := by decide +kernel
def aI_318_16 : sx_IL := [(182, .iload 10, 2), (184, .ifCond .eq 7, 3), (187, .lload_n 3, 1), (188, .goto 11, 3), (191, .aload_n 0, 1), (192, .getfield 21, 3)]
theorem aJ_318_16 : sx_iB prog_1_method_83_code aI_318_16 = true := by decide +kernel
def aI_318_17 : sx_IL := [(195, .iconst 0, 1), (196, .invokevirtual 494, 3), (199, .lstore 13, 2), (201, .lload 13, 2), (203, .lstore 15, 2), (205, .iconst 0, 1)]
theorem aJ_318_17 : sx_iB prog_1_method_83_code aI_318_17 = true := by decide +kernel
def aI_318_18 : sx_IL := [(206, .istore 17, 2), (208, .iload 12, 2), (210, .ifCond .eq 102, 3), (213, .iload 17, 2), (215, .iload 8, 2), (217, .if_icmp .ge 95, 3)]
theorem aJ_318_18 : sx_iB prog_1_method_83_code aI_318_18 = true := by decide +kernel
def aI_318_19 : sx_IL := [(220, .aload_n 0, 1), (221, .getfield 21, 3), (224, .bipush 8, 2), (226, .iload 11, 2), (228, .iload 17, 2), (230, .iadd, 1)]
theorem aJ_318_19 : sx_iB prog_1_method_83_code aI_318_19 = true := by decide +kernel
def aI_318_20 : sx_IL := [(231, .imul, 1), (232, .invokevirtual 494, 3), (235, .lstore 18, 2), (237, .iload 7, 2), (239, .iload 8, 2), (241, .iconst 1, 1)]
theorem aJ_318_20 : sx_iB prog_1_method_83_code aI_318_20 = true := by decide +kernel
def aI_318_21 : sx_IL := [(242, .isub, 1), (243, .iload 17, 2), (245, .isub, 1), (246, .iushr, 1), (247, .iconst 1, 1), (248, .iand, 1)]
theorem aJ_318_21 : sx_iB prog_1_method_83_code aI_318_21 = true := by decide +kernel
def aI_318_22 : sx_IL := [(249, .iconst 1, 1), (250, .if_icmp .ne 7, 3), (253, .iconst 1, 1), (254, .goto 4, 3), (257, .iconst 0, 1), (258, .istore 20, 2)]
theorem aJ_318_22 : sx_iB prog_1_method_83_code aI_318_22 = true := by decide +kernel
def aI_318_23 : sx_IL := [(260, .iload 20, 2), (262, .ifCond .eq 8, 3), (265, .lload 13, 2), (267, .goto 11, 3), (270, .aload_n 0, 1), (271, .lload 18, 2)]
theorem aJ_318_23 : sx_iB prog_1_method_83_code aI_318_23 = true := by decide +kernel
def aI_318_24 : sx_IL := [(273, .lload 13, 2), (275, .invokevirtual 498, 3), (278, .lstore 13, 2), (280, .iload 20, 2), (282, .ifCond .eq 14, 3), (285, .aload_n 0, 1)]
theorem aJ_318_24 : sx_iB prog_1_method_83_code aI_318_24 = true := by decide +kernel
def aI_318_25 : sx_IL := [(286, .lload 15, 2), (288, .lload 18, 2), (290, .invokevirtual 498, 3), (293, .goto 11, 3), (296, .aload_n 0, 1), (297, .lload 18, 2)]
theorem aJ_318_25 : sx_iB prog_1_method_83_code aI_318_25 = true := by decide +kernel
def aI_318_26 : sx_IL := [(299, .lload 15, 2), (301, .invokevirtual 498, 3), (304, .lstore 15, 2), (306, .iinc 17 1, 3), (309, .goto (-101), 3), (312, .aload_n 0, 1)]
theorem aJ_318_26 : sx_iB prog_1_method_83_code aI_318_26 = true := by decide +kernel
def aI_318_27 : sx_IL := [(313, .getfield 21, 3), (316, .invokevirtual 108, 3), (319, .iload 12, 2), (321, .ifCond .eq 22, 3), (324, .lload 13, 2), (326, .lload_n 3, 1)]
theorem aJ_318_27 : sx_iB prog_1_method_83_code aI_318_27 = true := by decide +kernel
def aI_318_28 : sx_IL := [(327, .lcmp, 1), (328, .ifCond .ne 15, 3), (331, .lload 15, 2), (333, .lload 5, 2), (335, .lcmp, 1), (336, .ifCond .ne 7, 3)]
theorem aJ_318_28 : sx_iB prog_1_method_83_code aI_318_28 = true := by decide +kernel
def aI_318_29 : sx_IL := [(339, .iconst 1, 1), (340, .goto 4, 3), (343, .iconst 0, 1), (344, .ireturn, 1)]
theorem aJ_318_29 : sx_iB prog_1_method_83_code aI_318_29 = true := by decide +kernel
def aS_318 (pc : Nat) : sx_IL := (if pc < 171 then (if pc < 78 then (if pc < 29 then (if pc < 11 then aI_318_0 else (if pc < 21 then aI_318_1 else aI_318_2)) else (if pc < 54 then (if pc < 39 then aI_318_3 else aI_318_4) else (if pc < 67 then aI_318_5 else aI_318_6))) else (if pc < 127 then (if pc < 101 then (if pc < 88 then aI_318_7 else aI_318_8) else (if pc < 114 then aI_318_9 else aI_318_10)) else (if pc < 147 then (if pc < 135 then aI_318_11 else aI_318_12) else (if pc < 158 then aI_318_13 else aI_318_14)))) else (if pc < 249 then (if pc < 206 then (if pc < 182 then aI_318_15 else (if pc < 195 then aI_318_16 else aI_318_17)) else (if pc < 231 then (if pc < 220 then aI_318_18 else aI_318_19) else (if pc < 242 then aI_318_20 else aI_318_21))) else (if pc < 299 then (if pc < 273 then (if pc < 260 then aI_318_22 else aI_318_23) else (if pc < 286 then aI_318_24 else aI_318_25)) else (if pc < 327 then (if pc < 313 then aI_318_26 else aI_318_27) else (if pc < 339 then aI_318_28 else aI_318_29)))))
theorem aT_318 (pc : Nat) : sx_iOk prog_1_method_83_code (aS_318 pc) := (sx_ite (p := fun l => sx_iOk prog_1_method_83_code l) (sx_ite (p := fun l => sx_iOk prog_1_method_83_code l) (sx_ite (p := fun l => sx_iOk prog_1_method_83_code l) (sx_ite (p := fun l => sx_iOk prog_1_method_83_code l) (sx_iB_s aJ_318_0) (sx_ite (p := fun l => sx_iOk prog_1_method_83_code l) (sx_iB_s aJ_318_1) (sx_iB_s aJ_318_2))) (sx_ite (p := fun l => sx_iOk prog_1_method_83_code l) (sx_ite (p := fun l => sx_iOk prog_1_method_83_code l) (sx_iB_s aJ_318_3) (sx_iB_s aJ_318_4)) (sx_ite (p := fun l => sx_iOk prog_1_method_83_code l) (sx_iB_s aJ_318_5) (sx_iB_s aJ_318_6)))) (sx_ite (p := fun l => sx_iOk prog_1_method_83_code l) (sx_ite (p := fun l => sx_iOk prog_1_method_83_code l) (sx_ite (p := fun l => sx_iOk prog_1_method_83_code l) (sx_iB_s aJ_318_7) (sx_iB_s aJ_318_8)) (sx_ite (p := fun l => sx_iOk prog_1_method_83_code l) (sx_iB_s aJ_318_9) (sx_iB_s aJ_318_10))) (sx_ite (p := fun l => sx_iOk prog_1_method_83_code l) (sx_ite (p := fun l => sx_iOk prog_1_method_83_code l) (sx_iB_s aJ_318_11) (sx_iB_s aJ_318_12)) (sx_ite (p := fun l => sx_iOk prog_1_method_83_code l) (sx_iB_s aJ_318_13) (sx_iB_s aJ_318_14))))) (sx_ite (p := fun l => sx_iOk prog_1_method_83_code l) (sx_ite (p := fun l => sx_iOk prog_1_method_83_code l) (sx_ite (p := fun l => sx_iOk prog_1_method_83_code l) (sx_iB_s aJ_318_15) (sx_ite (p := fun l => sx_iOk prog_1_method_83_code l) (sx_iB_s aJ_318_16) (sx_iB_s aJ_318_17))) (sx_ite (p := fun l => sx_iOk prog_1_method_83_code l) (sx_ite (p := fun l => sx_iOk prog_1_method_83_code l) (sx_iB_s aJ_318_18) (sx_iB_s aJ_318_19)) (sx_ite (p := fun l => sx_iOk prog_1_method_83_code l) (sx_iB_s aJ_318_20) (sx_iB_s aJ_318_21)))) (sx_ite (p := fun l => sx_iOk prog_1_method_83_code l) (sx_ite (p := fun l => sx_iOk prog_1_method_83_code l) (sx_ite (p := fun l => sx_iOk prog_1_method_83_code l) (sx_iB_s aJ_318_22) (sx_iB_s aJ_318_23)) (sx_ite (p := fun l => sx_iOk prog_1_method_83_code l) (sx_iB_s aJ_318_24) (sx_iB_s aJ_318_25))) (sx_ite (p := fun l => sx_iOk prog_1_method_83_code l) (sx_ite (p := fun l => sx_iOk prog_1_method_83_code l) (sx_iB_s aJ_318_26) (sx_iB_s aJ_318_27)) (sx_ite (p := fun l => sx_iOk prog_1_method_83_code l) (sx_iB_s aJ_318_28) (sx_iB_s aJ_318_29))))))
def aW_318 : Nat → Option (Instr × Nat) := fun pc => sx_iF (aS_318 pc) pc
theorem aX_318 : ∀ pc i len, aW_318 pc = some (i, len) → decode aM_318.1.2.1 pc = .ok (i, len) := fun pc i len h => sx_iF_s (aT_318 pc) h
