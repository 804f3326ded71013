/-! instructions -/
def aI_321_0 : sx_IL := [(0, .lload_n 0, 1), (1, .lload_n 2, 1), (2, .lcmp, 1), (3, .ifCond .lt 14, 3), (6, .lload_n 0, 1), (7, .lload 4, 2)]
theorem aJ_321_0 : sx_iB prog_14_method_2_code aI_321_0 = true := by decide +kernel
def aI_321_1 : sx_IL := [(9, .lcmp, 1), (10, .ifCond .gt 7, 3), (13, .iconst 1, 1), (14, .goto 4, 3), (17, .iconst 0, 1), (18, .ireturn, 1)]
theorem aJ_321_1 : sx_iB prog_14_method_2_code aI_321_1 = true := by decide +kernel
def aS_321 (pc : Nat) : sx_IL := (if pc < 9 then aI_321_0 else aI_321_1)
theorem aT_321 (pc : Nat) : sx_iOk prog_14_method_2_code (aS_321 pc) := (sx_ite (p := fun l => sx_iOk prog_14_method_2_code l) (sx_iB_s aJ_321_0) (sx_iB_s aJ_321_1))
def aW_321 : Nat → Option (Instr × Nat) := fun pc => sx_iF (aS_321 pc) pc
theorem aX_321 : ∀ pc i len, aW_321 pc = some (i, len) → decode aM_321.1.2.1 pc = .ok (i, len) := fun pc i len h => sx_iF_s (aT_321 pc) h
def aI_408_0 : sx_IL := [(0, .aload_n 0, 1), (1, .iload_n 1, 1), (2, .invokevirtual 840, 3), (5, .ifCond .eq 15, 3), (8, .iload_n 2, 1), (9, .i2l, 1)]
theorem aJ_408_0 : sx_iB prog_14_method_93_code aI_408_0 = true := by decide +kernel
def aI_408_1 : sx_IL := [(10, .lconst 0, 1), (11, .ldc2_w 843, 3), (14, .invokestatic 513, 3), (17, .ifCond .ne 5, 3), (20, .iconst (-1), 1), (21, .ireturn, 1)]
theorem aJ_408_1 : sx_iB prog_14_method_93_code aI_408_1 = true := by decide +kernel
def aI_408_2 : sx_IL := [(22, .iload_n 2, 1), (23, .bipush 8, 2), (25, .if_icmp .ge 17, 3), (28, .aload_n 0, 1), (29, .getfield 45, 3), (32, .bipush 8, 2)]
theorem aJ_408_2 : sx_iB prog_14_method_93_code aI_408_2 = true := by decide +kernel
def aI_408_3 : sx_IL := [(34, .iload_n 1, 1), (35, .imul, 1), (36, .iload_n 2, 1), (37, .iadd, 1), (38, .iaload, 1), (39, .goto 31, 3)]
theorem aJ_408_3 : sx_iB prog_14_method_93_code aI_408_3 = true := by decide +kernel
def aI_408_4 : sx_IL := [(42, .iload_n 2, 1), (43, .bipush 11, 2), (45, .if_icmp .ne 12, 3), (48, .aload_n 0, 1), (49, .getfield 42, 3), (52, .iload_n 1, 1)]
theorem aJ_408_4 : sx_iB prog_14_method_93_code aI_408_4 = true := by decide +kernel
def aI_408_5 : sx_IL := [(53, .iaload, 1), (54, .goto 16, 3), (57, .aload_n 0, 1), (58, .getfield 60, 3), (61, .iconst 3, 1), (62, .iload_n 1, 1)]
theorem aJ_408_5 : sx_iB prog_14_method_93_code aI_408_5 = true := by decide +kernel
def aI_408_6 : sx_IL := [(63, .imul, 1), (64, .iload_n 2, 1), (65, .iadd, 1), (66, .bipush 8, 2), (68, .isub, 1), (69, .iaload, 1)]
theorem aJ_408_6 : sx_iB prog_14_method_93_code aI_408_6 = true := by decide +kernel
def aI_408_7 : sx_IL := [(70, .ireturn, 1)]
theorem aJ_408_7 : sx_iB prog_14_method_93_code aI_408_7 = true := by decide +kernel
def aS_408 (pc : Nat) : sx_IL := (if pc < 42 then (if pc < 22 then (if pc < 10 then aI_408_0 else aI_408_1) else (if pc < 34 then aI_408_2 else aI_408_3)) else (if pc < 63 then (if pc < 53 then aI_408_4 else aI_408_5) else (if pc < 70 then aI_408_6 else aI_408_7)))
theorem aT_408 (pc : Nat) : sx_iOk prog_14_method_93_code (aS_408 pc) := (sx_ite (p := fun l => sx_iOk prog_14_method_93_code l) (sx_ite (p := fun l => sx_iOk prog_14_method_93_code l) (sx_ite (p := fun l => sx_iOk prog_14_method_93_code l) (sx_iB_s aJ_408_0) (sx_iB_s aJ_408_1)) (sx_ite (p := fun l => sx_iOk prog_14_method_93_code l) (sx_iB_s aJ_408_2) (sx_iB_s aJ_408_3))) (sx_ite (p := fun l => sx_iOk prog_14_method_93_code l) (sx_ite (p := fun l => sx_iOk prog_14_method_93_code l) (sx_iB_s aJ_408_4) (sx_iB_s aJ_408_5)) (sx_ite (p := fun l => sx_iOk prog_14_method_93_code l) (sx_iB_s aJ_408_6) (sx_iB_s aJ_408_7))))
def aW_408 : Nat → Option (Instr × Nat) := fun pc => sx_iF (aS_408 pc) pc
theorem aX_408 : ∀ pc i len, aW_408 pc = some (i, len) → decode aM_408.1.2.1 pc = .ok (i, len) := fun pc i len h => sx_iF_s (aT_408 pc) h
def aI_409_0 : sx_IL := [(0, .iload_n 1, 1), (1, .i2l, 1), (2, .lconst 0, 1), (3, .aload_n 0, 1), (4, .getfield 782, 3), (7, .iconst 1, 1)]
theorem aJ_409_0 : sx_iB prog_14_method_92_code aI_409_0 = true := by decide +kernel
def aI_409_1 : sx_IL := [(8, .isub, 1), (9, .i2l, 1), (10, .invokestatic 513, 3), (13, .ireturn, 1)]
theorem aJ_409_1 : sx_iB prog_14_method_92_code aI_409_1 = true := by decide +kernel
def aS_409 (pc : Nat) : sx_IL := (if pc < 8 then aI_409_0 else aI_409_1)
theorem aT_409 (pc : Nat) : sx_iOk prog_14_method_92_code (aS_409 pc) := (sx_ite (p := fun l => sx_iOk prog_14_method_92_code l) (sx_iB_s aJ_409_0) (sx_iB_s aJ_409_1))
def aW_409 : Nat → Option (Instr × Nat) := fun pc => sx_iF (aS_409 pc) pc
theorem aX_409 : ∀ pc i len, aW_409 pc = some (i, len) → decode aM_409.1.2.1 pc = .ok (i, len) := fun pc i len h => sx_iF_s (aT_409 pc) h
def aI_414_0 : sx_IL := [(0, .iload_n 2, 1), (1, .iload 5, 2), (3, .if_icmp .ne 7, 3), (6, .iconst 1, 1), (7, .goto 4, 3), (10, .iconst 0, 1)]
theorem aJ_414_0 : sx_iB prog_14_method_95_code aI_414_0 = true := by decide +kernel
def aI_414_1 : sx_IL := [(11, .istore 6, 2), (13, .iconst 0, 1), (14, .istore 7, 2), (16, .iload 6, 2), (18, .ifCond .eq 38, 3), (21, .iload 7, 2)]
theorem aJ_414_1 : sx_iB prog_14_method_95_code aI_414_1 = true := by decide +kernel
def aI_414_2 : sx_IL := [(23, .iload_n 2, 1), (24, .if_icmp .ge 32, 3), (27, .aload_n 0, 1), (28, .iload_n 1, 1), (29, .iload 7, 2), (31, .iadd, 1)]
theorem aJ_414_2 : sx_iB prog_14_method_95_code aI_414_2 = true := by decide +kernel
def aI_414_3 : sx_IL := [(32, .iaload, 1), (33, .aload_n 3, 1), (34, .iload 4, 2), (36, .iload 7, 2), (38, .iadd, 1), (39, .iaload, 1)]
theorem aJ_414_3 : sx_iB prog_14_method_95_code aI_414_3 = true := by decide +kernel
def aI_414_4 : sx_IL := [(40, .if_icmp .ne 7, 3), (43, .iconst 1, 1), (44, .goto 4, 3), (47, .iconst 0, 1), (48, .istore 6, 2), (50, .iinc 7 1, 3)]
theorem aJ_414_4 : sx_iB prog_14_method_95_code aI_414_4 = true := by decide +kernel
def aI_414_5 : sx_IL := [(53, .goto (-37), 3), (56, .iload 6, 2), (58, .ireturn, 1)]
theorem aJ_414_5 : sx_iB prog_14_method_95_code aI_414_5 = true := by decide +kernel
def aS_414 (pc : Nat) : sx_IL := (if pc < 32 then (if pc < 11 then aI_414_0 else (if pc < 23 then aI_414_1 else aI_414_2)) else (if pc < 40 then aI_414_3 else (if pc < 53 then aI_414_4 else aI_414_5)))
theorem aT_414 (pc : Nat) : sx_iOk prog_14_method_95_code (aS_414 pc) := (sx_ite (p := fun l => sx_iOk prog_14_method_95_code l) (sx_ite (p := fun l => sx_iOk prog_14_method_95_code l) (sx_iB_s aJ_414_0) (sx_ite (p := fun l => sx_iOk prog_14_method_95_code l) (sx_iB_s aJ_414_1) (sx_iB_s aJ_414_2))) (sx_ite (p := fun l => sx_iOk prog_14_method_95_code l) (sx_iB_s aJ_414_3) (sx_ite (p := fun l => sx_iOk prog_14_method_95_code l) (sx_iB_s aJ_414_4) (sx_iB_s aJ_414_5))))
def aW_414 : Nat → Option (Instr × Nat) := fun pc => sx_iF (aS_414 pc) pc
theorem aX_414 : ∀ pc i len, aW_414 pc = some (i, len) → decode aM_414.1.2.1 pc = .ok (i, len) := fun pc i len h => sx_iF_s (aT_414 pc) h
def aI_416_0 : sx_IL := [(0, .aload_n 0, 1), (1, .iload_n 1, 1), (2, .invokevirtual 840, 3), (5, .ifCond .ne 5, 3), (8, .iconst (-1), 1), (9, .ireturn, 1)]
theorem aJ_416_0 : sx_iB prog_14_method_108_code aI_416_0 = true := by decide +kernel
def aI_416_1 : sx_IL := [(10, .aload_n 0, 1), (11, .getfield 891, 3), (14, .bipush 6, 2), (16, .if_icmp .ne 6, 3), (19, .bipush (-3), 2), (21, .ireturn, 1)]
theorem aJ_416_1 : sx_iB prog_14_method_108_code aI_416_1 = true := by decide +kernel
def aI_416_2 : sx_IL := [(22, .aload_n 0, 1), (23, .getfield 90, 3), (26, .aload_n 0, 1), (27, .getfield 891, 3), (30, .iload_n 1, 1), (31, .iastore, 1)]
theorem aJ_416_2 : sx_iB prog_14_method_108_code aI_416_2 = true := by decide +kernel
def aI_416_3 : sx_IL := [(32, .aload_n 0, 1), (33, .dup, 1), (34, .getfield 891, 3), (37, .iconst 1, 1), (38, .iadd, 1), (39, .putfield 891, 3)]
theorem aJ_416_3 : sx_iB prog_14_method_108_code aI_416_3 = true := by decide +kernel
def aI_416_4 : sx_IL := [(42, .aload_n 0, 1), (43, .getfield 891, 3), (46, .ireturn, 1)]
theorem aJ_416_4 : sx_iB prog_14_method_108_code aI_416_4 = true := by decide +kernel
def aS_416 (pc : Nat) : sx_IL := (if pc < 22 then (if pc < 10 then aI_416_0 else aI_416_1) else (if pc < 32 then aI_416_2 else (if pc < 42 then aI_416_3 else aI_416_4)))
theorem aT_416 (pc : Nat) : sx_iOk prog_14_method_108_code (aS_416 pc) := (sx_ite (p := fun l => sx_iOk prog_14_method_108_code l) (sx_ite (p := fun l => sx_iOk prog_14_method_108_code l) (sx_iB_s aJ_416_0) (sx_iB_s aJ_416_1)) (sx_ite (p := fun l => sx_iOk prog_14_method_108_code l) (sx_iB_s aJ_416_2) (sx_ite (p := fun l => sx_iOk prog_14_method_108_code l) (sx_iB_s aJ_416_3) (sx_iB_s aJ_416_4))))
def aW_416 : Nat → Option (Instr × Nat) := fun pc => sx_iF (aS_416 pc) pc
theorem aX_416 : ∀ pc i len, aW_416 pc = some (i, len) → decode aM_416.1.2.1 pc = .ok (i, len) := fun pc i len h => sx_iF_s (aT_416 pc) h
def aI_417_0 : sx_IL := [(0, .iload_n 1, 1), (1, .iconst (-1), 1), (2, .if_icmp .ne 10, 3), (5, .aload_n 0, 1), (6, .getfield 891, 3), (9, .goto 29, 3)]
theorem aJ_417_0 : sx_iB prog_14_method_109_code aI_417_0 = true := by decide +kernel
def aI_417_1 : sx_IL := [(12, .iload_n 1, 1), (13, .i2l, 1), (14, .lconst 0, 1), (15, .aload_n 0, 1), (16, .getfield 891, 3), (19, .iconst 1, 1)]
theorem aJ_417_1 : sx_iB prog_14_method_109_code aI_417_1 = true := by decide +kernel
def aI_417_2 : sx_IL := [(20, .isub, 1), (21, .i2l, 1), (22, .invokestatic 513, 3), (25, .ifCond .eq 12, 3), (28, .aload_n 0, 1), (29, .getfield 90, 3)]
theorem aJ_417_2 : sx_iB prog_14_method_109_code aI_417_2 = true := by decide +kernel
def aI_417_3 : sx_IL := [(32, .iload_n 1, 1), (33, .iaload, 1), (34, .goto 4, 3), (37, .iconst (-1), 1), (38, .ireturn, 1)]
theorem aJ_417_3 : sx_iB prog_14_method_109_code aI_417_3 = true := by decide +kernel
def aS_417 (pc : Nat) : sx_IL := (if pc < 20 then (if pc < 12 then aI_417_0 else aI_417_1) else (if pc < 32 then aI_417_2 else aI_417_3))
theorem aT_417 (pc : Nat) : sx_iOk prog_14_method_109_code (aS_417 pc) := (sx_ite (p := fun l => sx_iOk prog_14_method_109_code l) (sx_ite (p := fun l => sx_iOk prog_14_method_109_code l) (sx_iB_s aJ_417_0) (sx_iB_s aJ_417_1)) (sx_ite (p := fun l => sx_iOk prog_14_method_109_code l) (sx_iB_s aJ_417_2) (sx_iB_s aJ_417_3)))
def aW_417 : Nat → Option (Instr × Nat) := fun pc => sx_iF (aS_417 pc) pc
theorem aX_417 : ∀ pc i len, aW_417 pc = some (i, len) → decode aM_417.1.2.1 pc = .ok (i, len) := fun pc i len h => sx_iF_s (aT_417 pc) h
def aI_419_0 : sx_IL := [(0, .iload_n 1, 1), (1, .i2l, 1), (2, .lconst 0, 1), (3, .aload_n 0, 1), (4, .getfield 916, 3), (7, .iconst 1, 1)]
theorem aJ_419_0 : sx_iB prog_14_method_114_code aI_419_0 = true := by decide +kernel
def aI_419_1 : sx_IL := [(8, .isub, 1), (9, .i2l, 1), (10, .invokestatic 513, 3), (13, .ireturn, 1)]
theorem aJ_419_1 : sx_iB prog_14_method_114_code aI_419_1 = true := by decide +kernel
def aS_419 (pc : Nat) : sx_IL := (if pc < 8 then aI_419_0 else aI_419_1)
theorem aT_419 (pc : Nat) : sx_iOk prog_14_method_114_code (aS_419 pc) := (sx_ite (p := fun l => sx_iOk prog_14_method_114_code l) (sx_iB_s aJ_419_0) (sx_iB_s aJ_419_1))
def aW_419 : Nat → Option (Instr × Nat) := fun pc => sx_iF (aS_419 pc) pc
theorem aX_419 : ∀ pc i len, aW_419 pc = some (i, len) → decode aM_419.1.2.1 pc = .ok (i, len) := fun pc i len h => sx_iF_s (aT_419 pc) h
def aI_422_0 : sx_IL := [(0, .iconst 0, 1), (1, .istore_n 3, 1), (2, .iconst 0, 1), (3, .istore 4, 2), (5, .iload 4, 2), (7, .aload_n 0, 1)]
theorem aJ_422_0 : sx_iB prog_14_method_115_code aI_422_0 = true := by decide +kernel
def aI_422_1 : sx_IL := [(8, .getfield 114, 3), (11, .iload_n 1, 1), (12, .iaload, 1), (13, .if_icmp .ge 71, 3), (16, .aload_n 0, 1), (17, .getfield 111, 3)]
theorem aJ_422_1 : sx_iB prog_14_method_115_code aI_422_1 = true := by decide +kernel
def aI_422_2 : sx_IL := [(20, .bipush 30, 2), (22, .iload_n 1, 1), (23, .imul, 1), (24, .iload 4, 2), (26, .iadd, 1), (27, .iaload, 1)]
theorem aJ_422_2 : sx_iB prog_14_method_115_code aI_422_2 = true := by decide +kernel
def aI_422_3 : sx_IL := [(28, .istore 5, 2), (30, .iload_n 3, 1), (31, .ifCond .ne 41, 3), (34, .aload_n 0, 1), (35, .getfield 39, 3), (38, .sipush 400, 3)]
theorem aJ_422_3 : sx_iB prog_14_method_115_code aI_422_3 = true := by decide +kernel
def aI_422_4 : sx_IL := [(41, .iload 5, 2), (43, .imul, 1), (44, .aload_n 0, 1), (45, .getfield 42, 3), (48, .iload 5, 2), (50, .iaload, 1)]
theorem aJ_422_4 : sx_iB prog_14_method_115_code aI_422_4 = true := by decide +kernel
def aI_422_5 : sx_IL := [(51, .aload_n 0, 1), (52, .getfield 39, 3), (55, .sipush 400, 3), (58, .iload_n 2, 1), (59, .imul, 1), (60, .aload_n 0, 1)]
theorem aJ_422_5 : sx_iB prog_14_method_115_code aI_422_5 = true := by decide +kernel
def aI_422_6 : sx_IL := [(61, .getfield 42, 3), (64, .iload_n 2, 1), (65, .iaload, 1), (66, .invokestatic 847, 3), (69, .ifCond .eq 7, 3), (72, .iconst 1, 1)]
theorem aJ_422_6 : sx_iB prog_14_method_115_code aI_422_6 = true := by decide +kernel
def aI_422_7 : sx_IL := [(73, .goto 4, 3), (76, .iconst 0, 1), (77, .istore_n 3, 1), (78, .iinc 4 1, 3), (81, .goto (-76), 3), (84, .iload_n 3, 1)]
theorem aJ_422_7 : sx_iB prog_14_method_115_code aI_422_7 = true := by decide +kernel
def aI_422_8 : sx_IL := [(85, .ireturn, 1)]
theorem aJ_422_8 : sx_iB prog_14_method_115_code aI_422_8 = true := by decide +kernel
def aS_422 (pc : Nat) : sx_IL := (if pc < 41 then (if pc < 20 then (if pc < 8 then aI_422_0 else aI_422_1) else (if pc < 28 then aI_422_2 else aI_422_3)) else (if pc < 61 then (if pc < 51 then aI_422_4 else aI_422_5) else (if pc < 73 then aI_422_6 else (if pc < 85 then aI_422_7 else aI_422_8))))
theorem aT_422 (pc : Nat) : sx_iOk prog_14_method_115_code (aS_422 pc) := (sx_ite (p := fun l => sx_iOk prog_14_method_115_code l) (sx_ite (p := fun l => sx_iOk prog_14_method_115_code l) (sx_ite (p := fun l => sx_iOk prog_14_method_115_code l) (sx_iB_s aJ_422_0) (sx_iB_s aJ_422_1)) (sx_ite (p := fun l => sx_iOk prog_14_method_115_code l) (sx_iB_s aJ_422_2) (sx_iB_s aJ_422_3))) (sx_ite (p := fun l => sx_iOk prog_14_method_115_code l) (sx_ite (p := fun l => sx_iOk prog_14_method_115_code l) (sx_iB_s aJ_422_4) (sx_iB_s aJ_422_5)) (sx_ite (p := fun l => sx_iOk prog_14_method_115_code l) (sx_iB_s aJ_422_6) (sx_ite (p := fun l => sx_iOk prog_14_method_115_code l) (sx_iB_s aJ_422_7) (sx_iB_s aJ_422_8)))))
def aW_422 : Nat → Option (Instr × Nat) := fun pc => sx_iF (aS_422 pc) pc
theorem aX_422 : ∀ pc i len, aW_422 pc = some (i, len) → decode aM_422.1.2.1 pc = .ok (i, len) := fun pc i len h => sx_iF_s (aT_422 pc) h
def aI_436_0 : sx_IL := [(0, .aload_n 0, 1), (1, .iload_n 1, 1), (2, .invokevirtual 894, 3), (5, .ifCond .eq 11, 3), (8, .aload_n 0, 1), (9, .iload_n 2, 1)]
theorem aJ_436_0 : sx_iB prog_14_method_124_code aI_436_0 = true := by decide +kernel
def aI_436_1 : sx_IL := [(10, .invokevirtual 840, 3), (13, .ifCond .ne 5, 3), (16, .iconst (-1), 1), (17, .ireturn, 1), (18, .aload_n 0, 1), (19, .iload_n 1, 1)]
theorem aJ_436_1 : sx_iB prog_14_method_124_code aI_436_1 = true := by decide +kernel
def aI_436_2 : sx_IL := [(20, .iload_n 2, 1), (21, .invokevirtual 901, 3), (24, .ifCond .ne 30, 3), (27, .aload_n 0, 1), (28, .getfield 111, 3), (31, .bipush 30, 2)]
theorem aJ_436_2 : sx_iB prog_14_method_124_code aI_436_2 = true := by decide +kernel
def aI_436_3 : sx_IL := [(33, .iload_n 1, 1), (34, .imul, 1), (35, .aload_n 0, 1), (36, .getfield 114, 3), (39, .iload_n 1, 1), (40, .iaload, 1)]
theorem aJ_436_3 : sx_iB prog_14_method_124_code aI_436_3 = true := by decide +kernel
def aI_436_4 : sx_IL := [(41, .iadd, 1), (42, .iload_n 2, 1), (43, .iastore, 1), (44, .aload_n 0, 1), (45, .getfield 114, 3), (48, .iload_n 1, 1)]
theorem aJ_436_4 : sx_iB prog_14_method_124_code aI_436_4 = true := by decide +kernel
def aI_436_5 : sx_IL := [(49, .dup2, 1), (50, .iaload, 1), (51, .iconst 1, 1), (52, .iadd, 1), (53, .iastore, 1), (54, .aload_n 0, 1)]
theorem aJ_436_5 : sx_iB prog_14_method_124_code aI_436_5 = true := by decide +kernel
def aI_436_6 : sx_IL := [(55, .getfield 114, 3), (58, .iload_n 1, 1), (59, .iaload, 1), (60, .ireturn, 1)]
theorem aJ_436_6 : sx_iB prog_14_method_124_code aI_436_6 = true := by decide +kernel
def aS_436 (pc : Nat) : sx_IL := (if pc < 33 then (if pc < 10 then aI_436_0 else (if pc < 20 then aI_436_1 else aI_436_2)) else (if pc < 49 then (if pc < 41 then aI_436_3 else aI_436_4) else (if pc < 55 then aI_436_5 else aI_436_6)))
theorem aT_436 (pc : Nat) : sx_iOk prog_14_method_124_code (aS_436 pc) := (sx_ite (p := fun l => sx_iOk prog_14_method_124_code l) (sx_ite (p := fun l => sx_iOk prog_14_method_124_code l) (sx_iB_s aJ_436_0) (sx_ite (p := fun l => sx_iOk prog_14_method_124_code l) (sx_iB_s aJ_436_1) (sx_iB_s aJ_436_2))) (sx_ite (p := fun l => sx_iOk prog_14_method_124_code l) (sx_ite (p := fun l => sx_iOk prog_14_method_124_code l) (sx_iB_s aJ_436_3) (sx_iB_s aJ_436_4)) (sx_ite (p := fun l => sx_iOk prog_14_method_124_code l) (sx_iB_s aJ_436_5) (sx_iB_s aJ_436_6))))
def aW_436 : Nat → Option (Instr × Nat) := fun pc => sx_iF (aS_436 pc) pc
theorem aX_436 : ∀ pc i len, aW_436 pc = some (i, len) → decode aM_436.1.2.1 pc = .ok (i, len) := fun pc i len h => sx_iF_s (aT_436 pc) h
