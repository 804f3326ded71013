/-! instructions -/
def aI_321_0 : sx_IL := [(0, .lload_n 0, 1), (1, .lload_n 2, 1), (2, .lcmp, 1), (3, .ifCond .lt 14, 3), (6, .lload_n 0, 1), (7, .lload 4, 2)]
theorem aJ_321_0 : sx_iB prog_14_method_2_code aI_321_0 = true := by decide +kernel
def aI_321_1 : sx_IL := [(9, .lcmp, 1), (10, .ifCond .gt 7, 3), (13, .iconst 1, 1), (14, .goto 4, 3), (17, .iconst 0, 1), (18, .ireturn, 1)]
theorem aJ_321_1 : sx_iB prog_14_method_2_code aI_321_1 = true := by decide +kernel
def aS_321 (pc : Nat) : sx_IL := (if pc < 9 then aI_321_0 else aI_321_1)
theorem aT_321 (pc : Nat) : sx_iOk prog_14_method_2_code (aS_321 pc) := (sx_ite (p := fun l => sx_iOk prog_14_method_2_code l) (sx_iB_s aJ_321_0) (sx_iB_s aJ_321_1))
def aW_321 : Nat → Option (Instr × Nat) := fun pc => sx_iF (aS_321 pc) pc
theorem aX_321 : ∀ pc i len, aW_321 pc = some (i, len) → decode aM_321.1.2.1 pc = .ok (i, len) := fun pc i len h => sx_iF_s (aT_321 pc) h
def aI_379_0 : sx_IL := [(0, .iconst 0, 1), (1, .istore 4, 2), (3, .aload_n 0, 1), (4, .getfield 36, 3), (7, .iconst 0, 1), (8, .iload_n 2, 1)]
theorem aJ_379_0 : sx_iB prog_14_method_65_code aI_379_0 = true := by decide +kernel
def aI_379_1 : sx_IL := [(9, .iload_n 3, 1), (10, .iadd, 1), (11, .iastore, 1), (12, .iload_n 2, 1), (13, .istore 5, 2), (15, .iconst 0, 1)]
theorem aJ_379_1 : sx_iB prog_14_method_65_code aI_379_1 = true := by decide +kernel
def aI_379_2 : sx_IL := [(16, .istore 6, 2), (18, .iload 6, 2), (20, .ifCond .ne 261, 3), (23, .aload_n 0, 1), (24, .getfield 36, 3), (27, .iload 4, 2)]
theorem aJ_379_2 : sx_iB prog_14_method_65_code aI_379_2 = true := by decide +kernel
def aI_379_3 : sx_IL := [(29, .iaload, 1), (30, .istore 7, 2), (32, .iload 5, 2), (34, .iload 7, 2), (36, .if_icmp .ne 26, 3), (39, .iload 4, 2)]
theorem aJ_379_3 : sx_iB prog_14_method_65_code aI_379_3 = true := by decide +kernel
def aI_379_4 : sx_IL := [(41, .ifCond .le 21, 3), (44, .iinc 4 (-1), 3), (47, .iload 4, 2), (49, .ifCond .ne 7, 3), (52, .iconst 1, 1), (53, .goto 4, 3)]
theorem aJ_379_4 : sx_iB prog_14_method_65_code aI_379_4 = true := by decide +kernel
def aI_379_5 : sx_IL := [(56, .iconst 0, 1), (57, .istore 6, 2), (59, .goto (-41), 3), (62, .iload 5, 2), (64, .iload 7, 2), (66, .if_icmp .eq 20, 3)]
theorem aJ_379_5 : sx_iB prog_14_method_65_code aI_379_5 = true := by decide +kernel
def aI_379_6 : sx_IL := [(69, .aload_n 1, 1), (70, .iload 5, 2), (72, .iaload, 1), (73, .invokestatic 738, 3), (76, .ifCond .eq 10, 3), (79, .iload 4, 2)]
theorem aJ_379_6 : sx_iB prog_14_method_65_code aI_379_6 = true := by decide +kernel
def aI_379_7 : sx_IL := [(81, .bipush 10, 2), (83, .if_icmp .ne 8, 3), (86, .iload 5, 2), (88, .iload_n 2, 1), (89, .isub, 1), (90, .ireturn, 1)]
theorem aJ_379_7 : sx_iB prog_14_method_65_code aI_379_7 = true := by decide +kernel
def aI_379_8 : sx_IL := [(91, .aload_n 1, 1), (92, .iload 5, 2), (94, .iaload, 1), (95, .istore 8, 2), (97, .aload_n 0, 1), (98, .aload_n 1, 1)]
theorem aJ_379_8 : sx_iB prog_14_method_65_code aI_379_8 = true := by decide +kernel
def aI_379_9 : sx_IL := [(99, .iload 5, 2), (101, .iconst 1, 1), (102, .iadd, 1), (103, .iload 7, 2), (105, .invokevirtual 741, 3), (108, .istore 9, 2)]
theorem aJ_379_9 : sx_iB prog_14_method_65_code aI_379_9 = true := by decide +kernel
def aI_379_10 : sx_IL := [(110, .iload 9, 2), (112, .bipush (-4), 2), (114, .if_icmp .eq 8, 3), (117, .iload 9, 2), (119, .iload_n 2, 1), (120, .isub, 1)]
theorem aJ_379_10 : sx_iB prog_14_method_65_code aI_379_10 = true := by decide +kernel
def aI_379_11 : sx_IL := [(121, .ireturn, 1), (122, .iload 5, 2), (124, .iconst 1, 1), (125, .aload_n 0, 1), (126, .getfield 732, 3), (129, .iadd, 1)]
theorem aJ_379_11 : sx_iB prog_14_method_65_code aI_379_11 = true := by decide +kernel
def aI_379_12 : sx_IL := [(130, .iadd, 1), (131, .istore 5, 2), (133, .aload_n 0, 1), (134, .getfield 735, 3), (137, .istore 10, 2), (139, .iload 8, 2)]
theorem aJ_379_12 : sx_iB prog_14_method_65_code aI_379_12 = true := by decide +kernel
def aI_379_13 : sx_IL := [(141, .bipush 48, 2), (143, .if_icmp .ne 21, 3), (146, .iinc 4 1, 3), (149, .aload_n 0, 1), (150, .getfield 36, 3), (153, .iload 4, 2)]
theorem aJ_379_13 : sx_iB prog_14_method_65_code aI_379_13 = true := by decide +kernel
def aI_379_14 : sx_IL := [(155, .iload 5, 2), (157, .iload 10, 2), (159, .iadd, 1), (160, .iastore, 1), (161, .goto (-143), 3), (164, .iload 8, 2)]
theorem aJ_379_14 : sx_iB prog_14_method_65_code aI_379_14 = true := by decide +kernel
def aI_379_15 : sx_IL := [(166, .iconst 2, 1), (167, .if_icmp .ne 55, 3), (170, .iload 10, 2), (172, .i2l, 1), (173, .lconst 1, 1), (174, .ldc2_w 649, 3)]
theorem aJ_379_15 : sx_iB prog_14_method_65_code aI_379_15 = true := by decide +kernel
def aI_379_16 : sx_IL := [(177, .invokestatic 513, 3), (180, .ifCond .eq 37, 3), (183, .aload_n 1, 1), (184, .iload 5, 2), (186, .iaload, 1), (187, .bipush 127, 2)]
theorem aJ_379_16 : sx_iB prog_14_method_65_code aI_379_16 = true := by decide +kernel
def aI_379_17 : sx_IL := [(189, .if_icmp .gt 28, 3), (192, .iload 10, 2), (194, .iconst 1, 1), (195, .if_icmp .le 27, 3), (198, .aload_n 1, 1), (199, .iload 5, 2)]
theorem aJ_379_17 : sx_iB prog_14_method_65_code aI_379_17 = true := by decide +kernel
def aI_379_18 : sx_IL := [(201, .iaload, 1), (202, .ifCond .ne 20, 3), (205, .aload_n 1, 1), (206, .iload 5, 2), (208, .iconst 1, 1), (209, .iadd, 1)]
theorem aJ_379_18 : sx_iB prog_14_method_65_code aI_379_18 = true := by decide +kernel
def aI_379_19 : sx_IL := [(210, .iaload, 1), (211, .sipush 128, 3), (214, .if_icmp .ge 8, 3), (217, .iload 5, 2), (219, .iload_n 2, 1), (220, .isub, 1)]
theorem aJ_379_19 : sx_iB prog_14_method_65_code aI_379_19 = true := by decide +kernel
def aI_379_20 : sx_IL := [(221, .ireturn, 1), (222, .iload 8, 2), (224, .bipush 12, 2), (226, .if_icmp .ne 14, 3), (229, .aload_n 1, 1), (230, .iload 5, 2)]
theorem aJ_379_20 : sx_iB prog_14_method_65_code aI_379_20 = true := by decide +kernel
def aI_379_21 : sx_IL := [(232, .iload 10, 2), (234, .invokestatic 724, 3), (237, .goto 5, 3), (240, .bipush (-4), 2), (242, .istore 11, 2), (244, .iload 11, 2)]
theorem aJ_379_21 : sx_iB prog_14_method_65_code aI_379_21 = true := by decide +kernel
def aI_379_22 : sx_IL := [(246, .bipush (-4), 2), (248, .if_icmp .eq 11, 3), (251, .iload 5, 2), (253, .iload 11, 2), (255, .iadd, 1), (256, .iload_n 2, 1)]
theorem aJ_379_22 : sx_iB prog_14_method_65_code aI_379_22 = true := by decide +kernel
def aI_379_23 : sx_IL := [(257, .isub, 1), (258, .ireturn, 1), (259, .iload 5, 2), (261, .iload 10, 2), (263, .iadd, 1), (264, .istore 5, 2)]
theorem aJ_379_23 : sx_iB prog_14_method_65_code aI_379_23 = true := by decide +kernel
def aI_379_24 : sx_IL := [(266, .iload 4, 2), (268, .ifCond .ne 7, 3), (271, .iconst 1, 1), (272, .goto 4, 3), (275, .iconst 0, 1), (276, .istore 6, 2)]
theorem aJ_379_24 : sx_iB prog_14_method_65_code aI_379_24 = true := by decide +kernel
def aI_379_25 : sx_IL := [(278, .goto (-260), 3), (281, .iload 5, 2), (283, .iload_n 2, 1), (284, .iload_n 3, 1), (285, .iadd, 1), (286, .if_icmp .ne 8, 3)]
theorem aJ_379_25 : sx_iB prog_14_method_65_code aI_379_25 = true := by decide +kernel
def aI_379_26 : sx_IL := [(289, .bipush (-4), 2), (291, .goto 7, 3), (294, .iload 5, 2), (296, .iload_n 2, 1), (297, .isub, 1), (298, .ireturn, 1)]
theorem aJ_379_26 : sx_iB prog_14_method_65_code aI_379_26 = true := by decide +kernel
def aS_379 (pc : Nat) : sx_IL := (if pc < 141 then (if pc < 69 then (if pc < 29 then (if pc < 9 then aI_379_0 else (if pc < 16 then aI_379_1 else aI_379_2)) else (if pc < 41 then aI_379_3 else (if pc < 56 then aI_379_4 else aI_379_5))) else (if pc < 99 then (if pc < 81 then aI_379_6 else (if pc < 91 then aI_379_7 else aI_379_8)) else (if pc < 121 then (if pc < 110 then aI_379_9 else aI_379_10) else (if pc < 130 then aI_379_11 else aI_379_12)))) else (if pc < 221 then (if pc < 177 then (if pc < 155 then aI_379_13 else (if pc < 166 then aI_379_14 else aI_379_15)) else (if pc < 201 then (if pc < 189 then aI_379_16 else aI_379_17) else (if pc < 210 then aI_379_18 else aI_379_19))) else (if pc < 257 then (if pc < 232 then aI_379_20 else (if pc < 246 then aI_379_21 else aI_379_22)) else (if pc < 278 then (if pc < 266 then aI_379_23 else aI_379_24) else (if pc < 289 then aI_379_25 else aI_379_26)))))
theorem aT_379 (pc : Nat) : sx_iOk prog_14_method_65_code (aS_379 pc) := (sx_ite (p := fun l => sx_iOk prog_14_method_65_code l) (sx_ite (p := fun l => sx_iOk prog_14_method_65_code l) (sx_ite (p := fun l => sx_iOk prog_14_method_65_code l) (sx_ite (p := fun l => sx_iOk prog_14_method_65_code l) (sx_iB_s aJ_379_0) (sx_ite (p := fun l => sx_iOk prog_14_method_65_code l) (sx_iB_s aJ_379_1) (sx_iB_s aJ_379_2))) (sx_ite (p := fun l => sx_iOk prog_14_method_65_code l) (sx_iB_s aJ_379_3) (sx_ite (p := fun l => sx_iOk prog_14_method_65_code l) (sx_iB_s aJ_379_4) (sx_iB_s aJ_379_5)))) (sx_ite (p := fun l => sx_iOk prog_14_method_65_code l) (sx_ite (p := fun l => sx_iOk prog_14_method_65_code l) (sx_iB_s aJ_379_6) (sx_ite (p := fun l => sx_iOk prog_14_method_65_code l) (sx_iB_s aJ_379_7) (sx_iB_s aJ_379_8))) (sx_ite (p := fun l => sx_iOk prog_14_method_65_code l) (sx_ite (p := fun l => sx_iOk prog_14_method_65_code l) (sx_iB_s aJ_379_9) (sx_iB_s aJ_379_10)) (sx_ite (p := fun l => sx_iOk prog_14_method_65_code l) (sx_iB_s aJ_379_11) (sx_iB_s aJ_379_12))))) (sx_ite (p := fun l => sx_iOk prog_14_method_65_code l) (sx_ite (p := fun l => sx_iOk prog_14_method_65_code l) (sx_ite (p := fun l => sx_iOk prog_14_method_65_code l) (sx_iB_s aJ_379_13) (sx_ite (p := fun l => sx_iOk prog_14_method_65_code l) (sx_iB_s aJ_379_14) (sx_iB_s aJ_379_15))) (sx_ite (p := fun l => sx_iOk prog_14_method_65_code l) (sx_ite (p := fun l => sx_iOk prog_14_method_65_code l) (sx_iB_s aJ_379_16) (sx_iB_s aJ_379_17)) (sx_ite (p := fun l => sx_iOk prog_14_method_65_code l) (sx_iB_s aJ_379_18) (sx_iB_s aJ_379_19)))) (sx_ite (p := fun l => sx_iOk prog_14_method_65_code l) (sx_ite (p := fun l => sx_iOk prog_14_method_65_code l) (sx_iB_s aJ_379_20) (sx_ite (p := fun l => sx_iOk prog_14_method_65_code l) (sx_iB_s aJ_379_21) (sx_iB_s aJ_379_22))) (sx_ite (p := fun l => sx_iOk prog_14_method_65_code l) (sx_ite (p := fun l => sx_iOk prog_14_method_65_code l) (sx_iB_s aJ_379_23) (sx_iB_s aJ_379_24)) (sx_ite (p := fun l => sx_iOk prog_14_method_65_code l) (sx_iB_s aJ_379_25) (sx_iB_s aJ_379_26))))))
def aW_379 : Nat → Option (Instr × Nat) := fun pc => sx_iF (aS_379 pc) pc
theorem aX_379 : ∀ pc i len, aW_379 pc = some (i, len) → decode aM_379.1.2.1 pc = .ok (i, len) := fun pc i len h => sx_iF_s (aT_379 pc) h
def aI_380_0 : sx_IL := [(0, .iload_n 0, 1), (1, .bipush 48, 2), (3, .if_icmp .eq 33, 3), (6, .iload_n 0, 1), (7, .iconst 2, 1), (8, .if_icmp .eq 28, 3)]
theorem aJ_380_0 : sx_iB prog_14_method_63_code aI_380_0 = true := by decide +kernel
def aI_380_1 : sx_IL := [(11, .iload_n 0, 1), (12, .iconst 4, 1), (13, .if_icmp .eq 23, 3), (16, .iload_n 0, 1), (17, .bipush 12, 2), (19, .if_icmp .eq 17, 3)]
theorem aJ_380_1 : sx_iB prog_14_method_63_code aI_380_1 = true := by decide +kernel
def aI_380_2 : sx_IL := [(22, .iload_n 0, 1), (23, .i2l, 1), (24, .ldc2_w 728, 3), (27, .ldc2_w 730, 3), (30, .invokestatic 513, 3), (33, .ifCond .eq 7, 3)]
theorem aJ_380_2 : sx_iB prog_14_method_63_code aI_380_2 = true := by decide +kernel
def aI_380_3 : sx_IL := [(36, .iconst 1, 1), (37, .goto 4, 3), (40, .iconst 0, 1), (41, .ireturn, 1)]
theorem aJ_380_3 : sx_iB prog_14_method_63_code aI_380_3 = true := by decide +kernel
def aS_380 (pc : Nat) : sx_IL := (if pc < 22 then (if pc < 11 then aI_380_0 else aI_380_1) else (if pc < 36 then aI_380_2 else aI_380_3))
theorem aT_380 (pc : Nat) : sx_iOk prog_14_method_63_code (aS_380 pc) := (sx_ite (p := fun l => sx_iOk prog_14_method_63_code l) (sx_ite (p := fun l => sx_iOk prog_14_method_63_code l) (sx_iB_s aJ_380_0) (sx_iB_s aJ_380_1)) (sx_ite (p := fun l => sx_iOk prog_14_method_63_code l) (sx_iB_s aJ_380_2) (sx_iB_s aJ_380_3)))
def aW_380 : Nat → Option (Instr × Nat) := fun pc => sx_iF (aS_380 pc) pc
theorem aX_380 : ∀ pc i len, aW_380 pc = some (i, len) → decode aM_380.1.2.1 pc = .ok (i, len) := fun pc i len h => sx_iF_s (aT_380 pc) h
def aI_381_0 : sx_IL := [(0, .iload_n 2, 1), (1, .iload_n 3, 1), (2, .if_icmp .lt 5, 3), (5, .iload_n 3, 1), (6, .ireturn, 1), (7, .aload_n 1, 1)]
theorem aJ_381_0 : sx_iB prog_14_method_64_code aI_381_0 = true := by decide +kernel
def aI_381_1 : sx_IL := [(8, .iload_n 2, 1), (9, .iaload, 1), (10, .istore 4, 2), (12, .aload_n 0, 1), (13, .iload 4, 2), (15, .sipush 128, 3)]
theorem aJ_381_1 : sx_iB prog_14_method_64_code aI_381_1 = true := by decide +kernel
def aI_381_2 : sx_IL := [(18, .if_icmp .ge 7, 3), (21, .iconst 1, 1), (22, .goto 16, 3), (25, .iload 4, 2), (27, .sipush 129, 3), (30, .if_icmp .ne 7, 3)]
theorem aJ_381_2 : sx_iB prog_14_method_64_code aI_381_2 = true := by decide +kernel
def aI_381_3 : sx_IL := [(33, .iconst 2, 1), (34, .goto 4, 3), (37, .iconst 3, 1), (38, .putfield 732, 3), (41, .iload 4, 2), (43, .sipush 128, 3)]
theorem aJ_381_3 : sx_iB prog_14_method_64_code aI_381_3 = true := by decide +kernel
def aI_381_4 : sx_IL := [(46, .if_icmp .eq 11, 3), (49, .iload 4, 2), (51, .sipush 130, 3), (54, .if_icmp .le 5, 3), (57, .iload_n 2, 1), (58, .ireturn, 1)]
theorem aJ_381_4 : sx_iB prog_14_method_64_code aI_381_4 = true := by decide +kernel
def aI_381_5 : sx_IL := [(59, .iload_n 2, 1), (60, .aload_n 0, 1), (61, .getfield 732, 3), (64, .iadd, 1), (65, .iload_n 3, 1), (66, .if_icmp .le 5, 3)]
theorem aJ_381_5 : sx_iB prog_14_method_64_code aI_381_5 = true := by decide +kernel
def aI_381_6 : sx_IL := [(69, .iload_n 3, 1), (70, .ireturn, 1), (71, .aload_n 0, 1), (72, .iload 4, 2), (74, .sipush 128, 3), (77, .if_icmp .ge 8, 3)]
theorem aJ_381_6 : sx_iB prog_14_method_64_code aI_381_6 = true := by decide +kernel
def aI_381_7 : sx_IL := [(80, .iload 4, 2), (82, .goto 33, 3), (85, .iload 4, 2), (87, .sipush 129, 3), (90, .if_icmp .ne 11, 3), (93, .aload_n 1, 1)]
theorem aJ_381_7 : sx_iB prog_14_method_64_code aI_381_7 = true := by decide +kernel
def aI_381_8 : sx_IL := [(94, .iload_n 2, 1), (95, .iconst 1, 1), (96, .iadd, 1), (97, .iaload, 1), (98, .goto 17, 3), (101, .aload_n 1, 1)]
theorem aJ_381_8 : sx_iB prog_14_method_64_code aI_381_8 = true := by decide +kernel
def aI_381_9 : sx_IL := [(102, .iload_n 2, 1), (103, .iconst 1, 1), (104, .iadd, 1), (105, .iaload, 1), (106, .bipush 8, 2), (108, .ishl, 1)]
theorem aJ_381_9 : sx_iB prog_14_method_64_code aI_381_9 = true := by decide +kernel
def aI_381_10 : sx_IL := [(109, .aload_n 1, 1), (110, .iload_n 2, 1), (111, .iconst 2, 1), (112, .iadd, 1), (113, .iaload, 1), (114, .ior, 1)]
theorem aJ_381_10 : sx_iB prog_14_method_64_code aI_381_10 = true := by decide +kernel
def aI_381_11 : sx_IL := [(115, .putfield 735, 3), (118, .iload 4, 2), (120, .sipush 128, 3), (123, .if_icmp .lt 33, 3), (126, .iload 4, 2), (128, .sipush 129, 3)]
theorem aJ_381_11 : sx_iB prog_14_method_64_code aI_381_11 = true := by decide +kernel
def aI_381_12 : sx_IL := [(131, .if_icmp .ne 15, 3), (134, .aload_n 0, 1), (135, .getfield 735, 3), (138, .bipush 127, 2), (140, .if_icmp .le 20, 3), (143, .goto 13, 3)]
theorem aJ_381_12 : sx_iB prog_14_method_64_code aI_381_12 = true := by decide +kernel
def aI_381_13 : sx_IL := [(146, .aload_n 0, 1), (147, .getfield 735, 3), (150, .sipush 255, 3), (153, .if_icmp .le 7, 3), (156, .iconst 1, 1), (157, .goto 4, 3)]
theorem aJ_381_13 : sx_iB prog_14_method_64_code aI_381_13 = true := by decide +kernel
def aI_381_14 : sx_IL := [(160, .iconst 0, 1), (161, .istore 5, 2), (163, .iload 5, 2), (165, .ifCond .eq 23, 3), (168, .iload_n 2, 1), (169, .aload_n 0, 1)]
theorem aJ_381_14 : sx_iB prog_14_method_64_code aI_381_14 = true := by decide +kernel
def aI_381_15 : sx_IL := [(170, .getfield 732, 3), (173, .iadd, 1), (174, .aload_n 0, 1), (175, .getfield 735, 3), (178, .iadd, 1), (179, .iload_n 3, 1)]
theorem aJ_381_15 : sx_iB prog_14_method_64_code aI_381_15 = true := by decide +kernel
def aI_381_16 : sx_IL := [(180, .if_icmp .gt 8, 3), (183, .bipush (-4), 2), (185, .goto 4, 3), (188, .iload_n 2, 1), (189, .ireturn, 1)]
theorem aJ_381_16 : sx_iB prog_14_method_64_code aI_381_16 = true := by decide +kernel
def aS_381 (pc : Nat) : sx_IL := (if pc < 94 then (if pc < 46 then (if pc < 18 then (if pc < 8 then aI_381_0 else aI_381_1) else (if pc < 33 then aI_381_2 else aI_381_3)) else (if pc < 69 then (if pc < 59 then aI_381_4 else aI_381_5) else (if pc < 80 then aI_381_6 else aI_381_7))) else (if pc < 131 then (if pc < 109 then (if pc < 102 then aI_381_8 else aI_381_9) else (if pc < 115 then aI_381_10 else aI_381_11)) else (if pc < 160 then (if pc < 146 then aI_381_12 else aI_381_13) else (if pc < 170 then aI_381_14 else (if pc < 180 then aI_381_15 else aI_381_16)))))
theorem aT_381 (pc : Nat) : sx_iOk prog_14_method_64_code (aS_381 pc) := (sx_ite (p := fun l => sx_iOk prog_14_method_64_code l) (sx_ite (p := fun l => sx_iOk prog_14_method_64_code l) (sx_ite (p := fun l => sx_iOk prog_14_method_64_code l) (sx_ite (p := fun l => sx_iOk prog_14_method_64_code l) (sx_iB_s aJ_381_0) (sx_iB_s aJ_381_1)) (sx_ite (p := fun l => sx_iOk prog_14_method_64_code l) (sx_iB_s aJ_381_2) (sx_iB_s aJ_381_3))) (sx_ite (p := fun l => sx_iOk prog_14_method_64_code l) (sx_ite (p := fun l => sx_iOk prog_14_method_64_code l) (sx_iB_s aJ_381_4) (sx_iB_s aJ_381_5)) (sx_ite (p := fun l => sx_iOk prog_14_method_64_code l) (sx_iB_s aJ_381_6) (sx_iB_s aJ_381_7)))) (sx_ite (p := fun l => sx_iOk prog_14_method_64_code l) (sx_ite (p := fun l => sx_iOk prog_14_method_64_code l) (sx_ite (p := fun l => sx_iOk prog_14_method_64_code l) (sx_iB_s aJ_381_8) (sx_iB_s aJ_381_9)) (sx_ite (p := fun l => sx_iOk prog_14_method_64_code l) (sx_iB_s aJ_381_10) (sx_iB_s aJ_381_11))) (sx_ite (p := fun l => sx_iOk prog_14_method_64_code l) (sx_ite (p := fun l => sx_iOk prog_14_method_64_code l) (sx_iB_s aJ_381_12) (sx_iB_s aJ_381_13)) (sx_ite (p := fun l => sx_iOk prog_14_method_64_code l) (sx_iB_s aJ_381_14) (sx_ite (p := fun l => sx_iOk prog_14_method_64_code l) (sx_iB_s aJ_381_15) (sx_iB_s aJ_381_16))))))
def aW_381 : Nat → Option (Instr × Nat) := fun pc => sx_iF (aS_381 pc) pc
theorem aX_381 : ∀ pc i len, aW_381 pc = some (i, len) → decode aM_381.1.2.1 pc = .ok (i, len) := fun pc i len h => sx_iF_s (aT_381 pc) h
def aI_382_0 : sx_IL := [(0, .iconst 0, 1), (1, .istore_n 3, 1), (2, .iconst 0, 1), (3, .istore 4, 2), (5, .iload 4, 2), (7, .iload_n 2, 1)]
theorem aJ_382_0 : sx_iB prog_14_method_61_code aI_382_0 = true := by decide +kernel
def aI_382_1 : sx_IL := [(8, .if_icmp .ge 61, 3), (11, .aload_n 0, 1), (12, .iload_n 1, 1), (13, .iload 4, 2), (15, .iadd, 1), (16, .iaload, 1)]
theorem aJ_382_1 : sx_iB prog_14_method_61_code aI_382_1 = true := by decide +kernel
def aI_382_2 : sx_IL := [(17, .istore 5, 2), (19, .iload 4, 2), (21, .bipush 40, 2), (23, .if_icmp .eq 22, 3), (26, .iload 5, 2), (28, .invokestatic 721, 3)]
theorem aJ_382_2 : sx_iB prog_14_method_61_code aI_382_2 = true := by decide +kernel
def aI_382_3 : sx_IL := [(31, .ifCond .ne 17, 3), (34, .iload 5, 2), (36, .bipush 46, 2), (38, .if_icmp .ne 7, 3), (41, .iload_n 3, 1), (42, .ifCond .ne 6, 3)]
theorem aJ_382_3 : sx_iB prog_14_method_61_code aI_382_3 = true := by decide +kernel
def aI_382_4 : sx_IL := [(45, .iload 4, 2), (47, .ireturn, 1), (48, .iload 5, 2), (50, .bipush 46, 2), (52, .if_icmp .ne 7, 3), (55, .iconst 0, 1)]
theorem aJ_382_4 : sx_iB prog_14_method_61_code aI_382_4 = true := by decide +kernel
def aI_382_5 : sx_IL := [(56, .goto 6, 3), (59, .iload_n 3, 1), (60, .iconst 1, 1), (61, .iadd, 1), (62, .istore_n 3, 1), (63, .iinc 4 1, 3)]
theorem aJ_382_5 : sx_iB prog_14_method_61_code aI_382_5 = true := by decide +kernel
def aI_382_6 : sx_IL := [(66, .goto (-61), 3), (69, .iload_n 3, 1), (70, .ifCond .ne 7, 3), (73, .iload_n 2, 1), (74, .goto 5, 3), (77, .bipush (-4), 2)]
theorem aJ_382_6 : sx_iB prog_14_method_61_code aI_382_6 = true := by decide +kernel
def aI_382_7 : sx_IL := [(79, .ireturn, 1)]
theorem aJ_382_7 : sx_iB prog_14_method_61_code aI_382_7 = true := by decide +kernel
def aS_382 (pc : Nat) : sx_IL := (if pc < 45 then (if pc < 17 then (if pc < 8 then aI_382_0 else aI_382_1) else (if pc < 31 then aI_382_2 else aI_382_3)) else (if pc < 66 then (if pc < 56 then aI_382_4 else aI_382_5) else (if pc < 79 then aI_382_6 else aI_382_7)))
theorem aT_382 (pc : Nat) : sx_iOk prog_14_method_61_code (aS_382 pc) := (sx_ite (p := fun l => sx_iOk prog_14_method_61_code l) (sx_ite (p := fun l => sx_iOk prog_14_method_61_code l) (sx_ite (p := fun l => sx_iOk prog_14_method_61_code l) (sx_iB_s aJ_382_0) (sx_iB_s aJ_382_1)) (sx_ite (p := fun l => sx_iOk prog_14_method_61_code l) (sx_iB_s aJ_382_2) (sx_iB_s aJ_382_3))) (sx_ite (p := fun l => sx_iOk prog_14_method_61_code l) (sx_ite (p := fun l => sx_iOk prog_14_method_61_code l) (sx_iB_s aJ_382_4) (sx_iB_s aJ_382_5)) (sx_ite (p := fun l => sx_iOk prog_14_method_61_code l) (sx_iB_s aJ_382_6) (sx_iB_s aJ_382_7))))
def aW_382 : Nat → Option (Instr × Nat) := fun pc => sx_iF (aS_382 pc) pc
theorem aX_382 : ∀ pc i len, aW_382 pc = some (i, len) → decode aM_382.1.2.1 pc = .ok (i, len) := fun pc i len h => sx_iF_s (aT_382 pc) h
def aI_383_0 : sx_IL := [(0, .iload_n 0, 1), (1, .i2l, 1), (2, .ldc2_w 713, 3), (5, .ldc2_w 715, 3), (8, .invokestatic 513, 3), (11, .ifCond .ne 23, 3)]
theorem aJ_383_0 : sx_iB prog_14_method_60_code aI_383_0 = true := by decide +kernel
def aI_383_1 : sx_IL := [(14, .iload_n 0, 1), (15, .i2l, 1), (16, .ldc2_w 717, 3), (19, .ldc2_w 719, 3), (22, .invokestatic 513, 3), (25, .ifCond .ne 9, 3)]
theorem aJ_383_1 : sx_iB prog_14_method_60_code aI_383_1 = true := by decide +kernel
def aI_383_2 : sx_IL := [(28, .iload_n 0, 1), (29, .bipush 45, 2), (31, .if_icmp .ne 7, 3), (34, .iconst 1, 1), (35, .goto 4, 3), (38, .iconst 0, 1)]
theorem aJ_383_2 : sx_iB prog_14_method_60_code aI_383_2 = true := by decide +kernel
def aI_383_3 : sx_IL := [(39, .ireturn, 1)]
theorem aJ_383_3 : sx_iB prog_14_method_60_code aI_383_3 = true := by decide +kernel
def aS_383 (pc : Nat) : sx_IL := (if pc < 28 then (if pc < 14 then aI_383_0 else aI_383_1) else (if pc < 39 then aI_383_2 else aI_383_3))
theorem aT_383 (pc : Nat) : sx_iOk prog_14_method_60_code (aS_383 pc) := (sx_ite (p := fun l => sx_iOk prog_14_method_60_code l) (sx_ite (p := fun l => sx_iOk prog_14_method_60_code l) (sx_iB_s aJ_383_0) (sx_iB_s aJ_383_1)) (sx_ite (p := fun l => sx_iOk prog_14_method_60_code l) (sx_iB_s aJ_383_2) (sx_iB_s aJ_383_3)))
def aW_383 : Nat → Option (Instr × Nat) := fun pc => sx_iF (aS_383 pc) pc
theorem aX_383 : ∀ pc i len, aW_383 pc = some (i, len) → decode aM_383.1.2.1 pc = .ok (i, len) := fun pc i len h => sx_iF_s (aT_383 pc) h
def aI_386_0 : sx_IL := [(0, .aload_n 0, 1), (1, .getfield 747, 3), (4, .iload_n 2, 1), (5, .if_icmp .ge 36, 3), (8, .aload_n 0, 1), (9, .getfield 750, 3)]
theorem aJ_386_0 : sx_iB prog_14_method_67_code aI_386_0 = true := by decide +kernel
def aI_386_1 : sx_IL := [(12, .aload_n 0, 1), (13, .getfield 747, 3), (16, .iaload, 1), (17, .iload_n 1, 1), (18, .if_icmp .ne 23, 3), (21, .aload_n 0, 1)]
theorem aJ_386_1 : sx_iB prog_14_method_67_code aI_386_1 = true := by decide +kernel
def aI_386_2 : sx_IL := [(22, .aload_n 0, 1), (23, .getfield 750, 3), (26, .aload_n 0, 1), (27, .getfield 747, 3), (30, .iconst 1, 1), (31, .iadd, 1)]
theorem aJ_386_2 : sx_iB prog_14_method_67_code aI_386_2 = true := by decide +kernel
def aI_386_3 : sx_IL := [(32, .iload_n 2, 1), (33, .invokevirtual 741, 3), (36, .bipush (-4), 2), (38, .if_icmp .eq 5, 3), (41, .iconst 0, 1), (42, .ireturn, 1)]
theorem aJ_386_3 : sx_iB prog_14_method_67_code aI_386_3 = true := by decide +kernel
def aI_386_4 : sx_IL := [(43, .aload_n 0, 1), (44, .aload_n 0, 1), (45, .getfield 747, 3), (48, .iconst 1, 1), (49, .iadd, 1), (50, .aload_n 0, 1)]
theorem aJ_386_4 : sx_iB prog_14_method_67_code aI_386_4 = true := by decide +kernel
def aI_386_5 : sx_IL := [(51, .getfield 732, 3), (54, .iadd, 1), (55, .putfield 753, 3), (58, .aload_n 0, 1), (59, .aload_n 0, 1), (60, .getfield 735, 3)]
theorem aJ_386_5 : sx_iB prog_14_method_67_code aI_386_5 = true := by decide +kernel
def aI_386_6 : sx_IL := [(63, .putfield 756, 3), (66, .aload_n 0, 1), (67, .aload_n 0, 1), (68, .getfield 753, 3), (71, .aload_n 0, 1), (72, .getfield 756, 3)]
theorem aJ_386_6 : sx_iB prog_14_method_67_code aI_386_6 = true := by decide +kernel
def aI_386_7 : sx_IL := [(75, .iadd, 1), (76, .putfield 747, 3), (79, .iconst 1, 1), (80, .ireturn, 1)]
theorem aJ_386_7 : sx_iB prog_14_method_67_code aI_386_7 = true := by decide +kernel
def aS_386 (pc : Nat) : sx_IL := (if pc < 43 then (if pc < 22 then (if pc < 12 then aI_386_0 else aI_386_1) else (if pc < 32 then aI_386_2 else aI_386_3)) else (if pc < 63 then (if pc < 51 then aI_386_4 else aI_386_5) else (if pc < 75 then aI_386_6 else aI_386_7)))
theorem aT_386 (pc : Nat) : sx_iOk prog_14_method_67_code (aS_386 pc) := (sx_ite (p := fun l => sx_iOk prog_14_method_67_code l) (sx_ite (p := fun l => sx_iOk prog_14_method_67_code l) (sx_ite (p := fun l => sx_iOk prog_14_method_67_code l) (sx_iB_s aJ_386_0) (sx_iB_s aJ_386_1)) (sx_ite (p := fun l => sx_iOk prog_14_method_67_code l) (sx_iB_s aJ_386_2) (sx_iB_s aJ_386_3))) (sx_ite (p := fun l => sx_iOk prog_14_method_67_code l) (sx_ite (p := fun l => sx_iOk prog_14_method_67_code l) (sx_iB_s aJ_386_4) (sx_iB_s aJ_386_5)) (sx_ite (p := fun l => sx_iOk prog_14_method_67_code l) (sx_iB_s aJ_386_6) (sx_iB_s aJ_386_7))))
def aW_386 : Nat → Option (Instr × Nat) := fun pc => sx_iF (aS_386 pc) pc
theorem aX_386 : ∀ pc i len, aW_386 pc = some (i, len) → decode aM_386.1.2.1 pc = .ok (i, len) := fun pc i len h => sx_iF_s (aT_386 pc) h
def aI_388_0 : sx_IL := [(0, .iconst 0, 1), (1, .istore_n 1, 1), (2, .iconst 0, 1), (3, .istore_n 2, 1), (4, .iload_n 2, 1), (5, .aload_n 0, 1)]
theorem aJ_388_0 : sx_iB prog_14_method_68_code aI_388_0 = true := by decide +kernel
def aI_388_1 : sx_IL := [(6, .getfield 756, 3), (9, .if_icmp .ge 26, 3), (12, .iload_n 1, 1), (13, .bipush 8, 2), (15, .ishl, 1), (16, .aload_n 0, 1)]
theorem aJ_388_1 : sx_iB prog_14_method_68_code aI_388_1 = true := by decide +kernel
def aI_388_2 : sx_IL := [(17, .getfield 750, 3), (20, .aload_n 0, 1), (21, .getfield 753, 3), (24, .iload_n 2, 1), (25, .iadd, 1), (26, .iaload, 1)]
theorem aJ_388_2 : sx_iB prog_14_method_68_code aI_388_2 = true := by decide +kernel
def aI_388_3 : sx_IL := [(27, .ior, 1), (28, .istore_n 1, 1), (29, .iinc 2 1, 3), (32, .goto (-28), 3), (35, .iload_n 1, 1), (36, .ireturn, 1)]
theorem aJ_388_3 : sx_iB prog_14_method_68_code aI_388_3 = true := by decide +kernel
def aS_388 (pc : Nat) : sx_IL := (if pc < 17 then (if pc < 6 then aI_388_0 else aI_388_1) else (if pc < 27 then aI_388_2 else aI_388_3))
theorem aT_388 (pc : Nat) : sx_iOk prog_14_method_68_code (aS_388 pc) := (sx_ite (p := fun l => sx_iOk prog_14_method_68_code l) (sx_ite (p := fun l => sx_iOk prog_14_method_68_code l) (sx_iB_s aJ_388_0) (sx_iB_s aJ_388_1)) (sx_ite (p := fun l => sx_iOk prog_14_method_68_code l) (sx_iB_s aJ_388_2) (sx_iB_s aJ_388_3)))
def aW_388 : Nat → Option (Instr × Nat) := fun pc => sx_iF (aS_388 pc) pc
theorem aX_388 : ∀ pc i len, aW_388 pc = some (i, len) → decode aM_388.1.2.1 pc = .ok (i, len) := fun pc i len h => sx_iF_s (aT_388 pc) h
def aI_397_0 : sx_IL := [(0, .aload_n 0, 1), (1, .aload_n 0, 1), (2, .getfield 7, 3), (5, .iconst 0, 1), (6, .aload_n 0, 1), (7, .getfield 517, 3)]
theorem aJ_397_0 : sx_iB prog_14_method_80_code aI_397_0 = true := by decide +kernel
def aI_397_1 : sx_IL := [(10, .invokevirtual 744, 3), (13, .istore_n 1, 1), (14, .iload_n 1, 1), (15, .bipush (-4), 2), (17, .if_icmp .ne 25, 3), (20, .aload_n 0, 1)]
theorem aJ_397_1 : sx_iB prog_14_method_80_code aI_397_1 = true := by decide +kernel
def aI_397_2 : sx_IL := [(21, .bipush 13, 2), (23, .aload_n 0, 1), (24, .getfield 7, 3), (27, .iconst 0, 1), (28, .aload_n 0, 1), (29, .getfield 517, 3)]
theorem aJ_397_2 : sx_iB prog_14_method_80_code aI_397_2 = true := by decide +kernel
def aI_397_3 : sx_IL := [(32, .invokevirtual 805, 3), (35, .ifCond .eq 7, 3), (38, .iconst 1, 1), (39, .goto 4, 3), (42, .iconst 0, 1), (43, .istore_n 2, 1)]
theorem aJ_397_3 : sx_iB prog_14_method_80_code aI_397_3 = true := by decide +kernel
def aI_397_4 : sx_IL := [(44, .iload_n 1, 1), (45, .bipush (-4), 2), (47, .if_icmp .eq 10, 3), (50, .bipush (-10), 2), (52, .iload_n 1, 1), (53, .isub, 1)]
theorem aJ_397_4 : sx_iB prog_14_method_80_code aI_397_4 = true := by decide +kernel
def aI_397_5 : sx_IL := [(54, .goto 16, 3), (57, .iload_n 2, 1), (58, .ifCond .ne 8, 3), (61, .bipush (-9), 2), (63, .goto 7, 3), (66, .aload_n 0, 1)]
theorem aJ_397_5 : sx_iB prog_14_method_80_code aI_397_5 = true := by decide +kernel
def aI_397_6 : sx_IL := [(67, .invokevirtual 808, 3), (70, .istore_n 3, 1), (71, .aload_n 0, 1), (72, .iload_n 3, 1), (73, .bipush (-3), 2), (75, .if_icmp .ne 10, 3)]
theorem aJ_397_6 : sx_iB prog_14_method_80_code aI_397_6 = true := by decide +kernel
def aI_397_7 : sx_IL := [(78, .aload_n 0, 1), (79, .getfield 517, 3), (82, .goto 4, 3), (85, .iconst 0, 1), (86, .putfield 517, 3), (89, .iload_n 3, 1)]
theorem aJ_397_7 : sx_iB prog_14_method_80_code aI_397_7 = true := by decide +kernel
def aI_397_8 : sx_IL := [(90, .ireturn, 1)]
theorem aJ_397_8 : sx_iB prog_14_method_80_code aI_397_8 = true := by decide +kernel
def aS_397 (pc : Nat) : sx_IL := (if pc < 44 then (if pc < 21 then (if pc < 10 then aI_397_0 else aI_397_1) else (if pc < 32 then aI_397_2 else aI_397_3)) else (if pc < 67 then (if pc < 54 then aI_397_4 else aI_397_5) else (if pc < 78 then aI_397_6 else (if pc < 90 then aI_397_7 else aI_397_8))))
theorem aT_397 (pc : Nat) : sx_iOk prog_14_method_80_code (aS_397 pc) := (sx_ite (p := fun l => sx_iOk prog_14_method_80_code l) (sx_ite (p := fun l => sx_iOk prog_14_method_80_code l) (sx_ite (p := fun l => sx_iOk prog_14_method_80_code l) (sx_iB_s aJ_397_0) (sx_iB_s aJ_397_1)) (sx_ite (p := fun l => sx_iOk prog_14_method_80_code l) (sx_iB_s aJ_397_2) (sx_iB_s aJ_397_3))) (sx_ite (p := fun l => sx_iOk prog_14_method_80_code l) (sx_ite (p := fun l => sx_iOk prog_14_method_80_code l) (sx_iB_s aJ_397_4) (sx_iB_s aJ_397_5)) (sx_ite (p := fun l => sx_iOk prog_14_method_80_code l) (sx_iB_s aJ_397_6) (sx_ite (p := fun l => sx_iOk prog_14_method_80_code l) (sx_iB_s aJ_397_7) (sx_iB_s aJ_397_8)))))
def aW_397 : Nat → Option (Instr × Nat) := fun pc => sx_iF (aS_397 pc) pc
theorem aX_397 : ∀ pc i len, aW_397 pc = some (i, len) → decode aM_397.1.2.1 pc = .ok (i, len) := fun pc i len h => sx_iF_s (aT_397 pc) h
def aI_398_0 : sx_IL := [(0, .bipush 8, 2), (2, .iload_n 1, 1), (3, .imul, 1), (4, .istore 5, 2), (6, .iload 4, 2), (8, .sipush 400, 3)]
theorem aJ_398_0 : sx_iB prog_14_method_77_code aI_398_0 = true := by decide +kernel
def aI_398_1 : sx_IL := [(11, .if_icmp .le 5, 3), (14, .iconst 0, 1), (15, .ireturn, 1), (16, .aload_n 0, 1), (17, .getfield 78, 3), (20, .iload_n 1, 1)]
theorem aJ_398_1 : sx_iB prog_14_method_77_code aI_398_1 = true := by decide +kernel
def aI_398_2 : sx_IL := [(21, .iload 4, 2), (23, .iastore, 1), (24, .iconst 0, 1), (25, .istore 6, 2), (27, .iload 6, 2), (29, .iload 4, 2)]
theorem aJ_398_2 : sx_iB prog_14_method_77_code aI_398_2 = true := by decide +kernel
def aI_398_3 : sx_IL := [(31, .if_icmp .ge 28, 3), (34, .aload_n 0, 1), (35, .getfield 75, 3), (38, .sipush 400, 3), (41, .iload_n 1, 1), (42, .imul, 1)]
theorem aJ_398_3 : sx_iB prog_14_method_77_code aI_398_3 = true := by decide +kernel
def aI_398_4 : sx_IL := [(43, .iload 6, 2), (45, .iadd, 1), (46, .aload_n 2, 1), (47, .iload_n 3, 1), (48, .iload 6, 2), (50, .iadd, 1)]
theorem aJ_398_4 : sx_iB prog_14_method_77_code aI_398_4 = true := by decide +kernel
def aI_398_5 : sx_IL := [(51, .iaload, 1), (52, .iastore, 1), (53, .iinc 6 1, 3), (56, .goto (-29), 3), (59, .aload_n 0, 1), (60, .aload_n 0, 1)]
theorem aJ_398_5 : sx_iB prog_14_method_77_code aI_398_5 = true := by decide +kernel
def aI_398_6 : sx_IL := [(61, .getfield 75, 3), (64, .putfield 750, 3), (67, .aload_n 0, 1), (68, .sipush 400, 3), (71, .iload_n 1, 1), (72, .imul, 1)]
theorem aJ_398_6 : sx_iB prog_14_method_77_code aI_398_6 = true := by decide +kernel
def aI_398_7 : sx_IL := [(73, .putfield 747, 3), (76, .aload_n 0, 1), (77, .getfield 747, 3), (80, .iload 4, 2), (82, .iadd, 1), (83, .istore 6, 2)]
theorem aJ_398_7 : sx_iB prog_14_method_77_code aI_398_7 = true := by decide +kernel
def aI_398_8 : sx_IL := [(85, .aload_n 0, 1), (86, .bipush 48, 2), (88, .iload 6, 2), (90, .invokevirtual 759, 3), (93, .ifCond .ne 5, 3), (96, .iconst 0, 1)]
theorem aJ_398_8 : sx_iB prog_14_method_77_code aI_398_8 = true := by decide +kernel
def aI_398_9 : sx_IL := [(97, .ireturn, 1), (98, .aload_n 0, 1), (99, .getfield 747, 3), (102, .istore 6, 2), (104, .aload_n 0, 1), (105, .aload_n 0, 1)]
theorem aJ_398_9 : sx_iB prog_14_method_77_code aI_398_9 = true := by decide +kernel
def aI_398_10 : sx_IL := [(106, .getfield 753, 3), (109, .putfield 747, 3), (112, .aload_n 0, 1), (113, .bipush 48, 2), (115, .iload 6, 2), (117, .invokevirtual 759, 3)]
theorem aJ_398_10 : sx_iB prog_14_method_77_code aI_398_10 = true := by decide +kernel
def aI_398_11 : sx_IL := [(120, .ifCond .ne 5, 3), (123, .iconst 0, 1), (124, .ireturn, 1), (125, .aload_n 0, 1), (126, .getfield 753, 3), (129, .istore 7, 2)]
theorem aJ_398_11 : sx_iB prog_14_method_77_code aI_398_11 = true := by decide +kernel
def aI_398_12 : sx_IL := [(131, .aload_n 0, 1), (132, .getfield 747, 3), (135, .istore 8, 2), (137, .aload_n 0, 1), (138, .iconst 4, 1), (139, .iload 6, 2)]
theorem aJ_398_12 : sx_iB prog_14_method_77_code aI_398_12 = true := by decide +kernel
def aI_398_13 : sx_IL := [(141, .invokevirtual 759, 3), (144, .ifCond .eq 21, 3), (147, .aload_n 0, 1), (148, .getfield 756, 3), (151, .bipush 8, 2), (153, .if_icmp .ne 12, 3)]
theorem aJ_398_13 : sx_iB prog_14_method_77_code aI_398_13 = true := by decide +kernel
def aI_398_14 : sx_IL := [(156, .aload_n 0, 1), (157, .getfield 747, 3), (160, .iload 6, 2), (162, .if_icmp .eq 5, 3), (165, .iconst 0, 1), (166, .ireturn, 1)]
theorem aJ_398_14 : sx_iB prog_14_method_77_code aI_398_14 = true := by decide +kernel
def aI_398_15 : sx_IL := [(167, .aload_n 0, 1), (168, .getfield 81, 3), (171, .iload 5, 2), (173, .bipush 6, 2), (175, .iadd, 1), (176, .aload_n 0, 1)]
theorem aJ_398_15 : sx_iB prog_14_method_77_code aI_398_15 = true := by decide +kernel
def aI_398_16 : sx_IL := [(177, .getfield 753, 3), (180, .iastore, 1), (181, .aload_n 0, 1), (182, .iload 7, 2), (184, .putfield 747, 3), (187, .aload_n 0, 1)]
theorem aJ_398_16 : sx_iB prog_14_method_77_code aI_398_16 = true := by decide +kernel
def aI_398_17 : sx_IL := [(188, .bipush 12, 2), (190, .iload 8, 2), (192, .invokevirtual 759, 3), (195, .ifCond .ne 5, 3), (198, .iconst 0, 1), (199, .ireturn, 1)]
theorem aJ_398_17 : sx_iB prog_14_method_77_code aI_398_17 = true := by decide +kernel
def aI_398_18 : sx_IL := [(200, .aload_n 0, 1), (201, .getfield 81, 3), (204, .iload 5, 2), (206, .aload_n 0, 1), (207, .getfield 753, 3), (210, .iastore, 1)]
theorem aJ_398_18 : sx_iB prog_14_method_77_code aI_398_18 = true := by decide +kernel
def aI_398_19 : sx_IL := [(211, .aload_n 0, 1), (212, .getfield 81, 3), (215, .iload 5, 2), (217, .iconst 1, 1), (218, .iadd, 1), (219, .aload_n 0, 1)]
theorem aJ_398_19 : sx_iB prog_14_method_77_code aI_398_19 = true := by decide +kernel
def aI_398_20 : sx_IL := [(220, .getfield 756, 3), (223, .iastore, 1), (224, .aload_n 0, 1), (225, .iconst 2, 1), (226, .iload 8, 2), (228, .invokevirtual 759, 3)]
theorem aJ_398_20 : sx_iB prog_14_method_77_code aI_398_20 = true := by decide +kernel
def aI_398_21 : sx_IL := [(231, .ifCond .ne 5, 3), (234, .iconst 0, 1), (235, .ireturn, 1), (236, .aload_n 0, 1), (237, .getfield 81, 3), (240, .iload 5, 2)]
theorem aJ_398_21 : sx_iB prog_14_method_77_code aI_398_21 = true := by decide +kernel
def aI_398_22 : sx_IL := [(242, .iconst 2, 1), (243, .iadd, 1), (244, .aload_n 0, 1), (245, .invokevirtual 766, 3), (248, .iastore, 1), (249, .aload_n 0, 1)]
theorem aJ_398_22 : sx_iB prog_14_method_77_code aI_398_22 = true := by decide +kernel
def aI_398_23 : sx_IL := [(250, .iconst 2, 1), (251, .iload 8, 2), (253, .invokevirtual 759, 3), (256, .ifCond .eq 11, 3), (259, .aload_n 0, 1), (260, .invokevirtual 766, 3)]
theorem aJ_398_23 : sx_iB prog_14_method_77_code aI_398_23 = true := by decide +kernel
def aI_398_24 : sx_IL := [(263, .iconst 1, 1), (264, .if_icmp .le 5, 3), (267, .iconst 0, 1), (268, .ireturn, 1), (269, .aload_n 0, 1), (270, .getfield 81, 3)]
theorem aJ_398_24 : sx_iB prog_14_method_77_code aI_398_24 = true := by decide +kernel
def aI_398_25 : sx_IL := [(273, .iload 5, 2), (275, .bipush 7, 2), (277, .iadd, 1), (278, .aload_n 0, 1), (279, .invokevirtual 766, 3), (282, .iastore, 1)]
theorem aJ_398_25 : sx_iB prog_14_method_77_code aI_398_25 = true := by decide +kernel
def aI_398_26 : sx_IL := [(283, .iconst 3, 1), (284, .istore 9, 2), (286, .iload 9, 2), (288, .iconst 5, 1), (289, .if_icmp .gt 35, 3), (292, .aload_n 0, 1)]
theorem aJ_398_26 : sx_iB prog_14_method_77_code aI_398_26 = true := by decide +kernel
def aI_398_27 : sx_IL := [(293, .iconst 2, 1), (294, .iload 8, 2), (296, .invokevirtual 759, 3), (299, .ifCond .ne 5, 3), (302, .iconst 0, 1), (303, .ireturn, 1)]
theorem aJ_398_27 : sx_iB prog_14_method_77_code aI_398_27 = true := by decide +kernel
def aI_398_28 : sx_IL := [(304, .aload_n 0, 1), (305, .getfield 81, 3), (308, .iload 5, 2), (310, .iload 9, 2), (312, .iadd, 1), (313, .aload_n 0, 1)]
theorem aJ_398_28 : sx_iB prog_14_method_77_code aI_398_28 = true := by decide +kernel
def aI_398_29 : sx_IL := [(314, .invokevirtual 766, 3), (317, .iastore, 1), (318, .iinc 9 1, 3), (321, .goto (-35), 3), (324, .aload_n 0, 1), (325, .getfield 81, 3)]
theorem aJ_398_29 : sx_iB prog_14_method_77_code aI_398_29 = true := by decide +kernel
def aI_398_30 : sx_IL := [(328, .iload 5, 2), (330, .iconst 4, 1), (331, .iadd, 1), (332, .iaload, 1), (333, .aload_n 0, 1), (334, .getfield 81, 3)]
theorem aJ_398_30 : sx_iB prog_14_method_77_code aI_398_30 = true := by decide +kernel
def aI_398_31 : sx_IL := [(337, .iload 5, 2), (339, .iconst 3, 1), (340, .iadd, 1), (341, .iaload, 1), (342, .if_icmp .lt 36, 3), (345, .aload_n 0, 1)]
theorem aJ_398_31 : sx_iB prog_14_method_77_code aI_398_31 = true := by decide +kernel
def aI_398_32 : sx_IL := [(346, .getfield 81, 3), (349, .iload 5, 2), (351, .iconst 5, 1), (352, .iadd, 1), (353, .iaload, 1), (354, .i2l, 1)]
theorem aJ_398_32 : sx_iB prog_14_method_77_code aI_398_32 = true := by decide +kernel
def aI_398_33 : sx_IL := [(355, .lconst 1, 1), (356, .ldc2_w 631, 3), (359, .invokestatic 513, 3), (362, .ifCond .eq 16, 3), (365, .aload_n 0, 1), (366, .getfield 747, 3)]
theorem aJ_398_33 : sx_iB prog_14_method_77_code aI_398_33 = true := by decide +kernel
def aI_398_34 : sx_IL := [(369, .iload 8, 2), (371, .if_icmp .ne 7, 3), (374, .iconst 1, 1), (375, .goto 4, 3), (378, .iconst 0, 1), (379, .ireturn, 1)]
theorem aJ_398_34 : sx_iB prog_14_method_77_code aI_398_34 = true := by decide +kernel
def aS_398 (pc : Nat) : sx_IL := (if pc < 188 then (if pc < 85 then (if pc < 43 then (if pc < 21 then (if pc < 11 then aI_398_0 else aI_398_1) else (if pc < 31 then aI_398_2 else aI_398_3)) else (if pc < 61 then (if pc < 51 then aI_398_4 else aI_398_5) else (if pc < 73 then aI_398_6 else aI_398_7))) else (if pc < 131 then (if pc < 106 then (if pc < 97 then aI_398_8 else aI_398_9) else (if pc < 120 then aI_398_10 else aI_398_11)) else (if pc < 156 then (if pc < 141 then aI_398_12 else aI_398_13) else (if pc < 167 then aI_398_14 else (if pc < 177 then aI_398_15 else aI_398_16))))) else (if pc < 283 then (if pc < 231 then (if pc < 211 then (if pc < 200 then aI_398_17 else aI_398_18) else (if pc < 220 then aI_398_19 else aI_398_20)) else (if pc < 250 then (if pc < 242 then aI_398_21 else aI_398_22) else (if pc < 263 then aI_398_23 else (if pc < 273 then aI_398_24 else aI_398_25)))) else (if pc < 328 then (if pc < 304 then (if pc < 293 then aI_398_26 else aI_398_27) else (if pc < 314 then aI_398_28 else aI_398_29)) else (if pc < 346 then (if pc < 337 then aI_398_30 else aI_398_31) else (if pc < 355 then aI_398_32 else (if pc < 369 then aI_398_33 else aI_398_34))))))
theorem aT_398 (pc : Nat) : sx_iOk prog_14_method_77_code (aS_398 pc) := (sx_ite (p := fun l => sx_iOk prog_14_method_77_code l) (sx_ite (p := fun l => sx_iOk prog_14_method_77_code l) (sx_ite (p := fun l => sx_iOk prog_14_method_77_code l) (sx_ite (p := fun l => sx_iOk prog_14_method_77_code l) (sx_ite (p := fun l => sx_iOk prog_14_method_77_code l) (sx_iB_s aJ_398_0) (sx_iB_s aJ_398_1)) (sx_ite (p := fun l => sx_iOk prog_14_method_77_code l) (sx_iB_s aJ_398_2) (sx_iB_s aJ_398_3))) (sx_ite (p := fun l => sx_iOk prog_14_method_77_code l) (sx_ite (p := fun l => sx_iOk prog_14_method_77_code l) (sx_iB_s aJ_398_4) (sx_iB_s aJ_398_5)) (sx_ite (p := fun l => sx_iOk prog_14_method_77_code l) (sx_iB_s aJ_398_6) (sx_iB_s aJ_398_7)))) (sx_ite (p := fun l => sx_iOk prog_14_method_77_code l) (sx_ite (p := fun l => sx_iOk prog_14_method_77_code l) (sx_ite (p := fun l => sx_iOk prog_14_method_77_code l) (sx_iB_s aJ_398_8) (sx_iB_s aJ_398_9)) (sx_ite (p := fun l => sx_iOk prog_14_method_77_code l) (sx_iB_s aJ_398_10) (sx_iB_s aJ_398_11))) (sx_ite (p := fun l => sx_iOk prog_14_method_77_code l) (sx_ite (p := fun l => sx_iOk prog_14_method_77_code l) (sx_iB_s aJ_398_12) (sx_iB_s aJ_398_13)) (sx_ite (p := fun l => sx_iOk prog_14_method_77_code l) (sx_iB_s aJ_398_14) (sx_ite (p := fun l => sx_iOk prog_14_method_77_code l) (sx_iB_s aJ_398_15) (sx_iB_s aJ_398_16)))))) (sx_ite (p := fun l => sx_iOk prog_14_method_77_code l) (sx_ite (p := fun l => sx_iOk prog_14_method_77_code l) (sx_ite (p := fun l => sx_iOk prog_14_method_77_code l) (sx_ite (p := fun l => sx_iOk prog_14_method_77_code l) (sx_iB_s aJ_398_17) (sx_iB_s aJ_398_18)) (sx_ite (p := fun l => sx_iOk prog_14_method_77_code l) (sx_iB_s aJ_398_19) (sx_iB_s aJ_398_20))) (sx_ite (p := fun l => sx_iOk prog_14_method_77_code l) (sx_ite (p := fun l => sx_iOk prog_14_method_77_code l) (sx_iB_s aJ_398_21) (sx_iB_s aJ_398_22)) (sx_ite (p := fun l => sx_iOk prog_14_method_77_code l) (sx_iB_s aJ_398_23) (sx_ite (p := fun l => sx_iOk prog_14_method_77_code l) (sx_iB_s aJ_398_24) (sx_iB_s aJ_398_25))))) (sx_ite (p := fun l => sx_iOk prog_14_method_77_code l) (sx_ite (p := fun l => sx_iOk prog_14_method_77_code l) (sx_ite (p := fun l => sx_iOk prog_14_method_77_code l) (sx_iB_s aJ_398_26) (sx_iB_s aJ_398_27)) (sx_ite (p := fun l => sx_iOk prog_14_method_77_code l) (sx_iB_s aJ_398_28) (sx_iB_s aJ_398_29))) (sx_ite (p := fun l => sx_iOk prog_14_method_77_code l) (sx_ite (p := fun l => sx_iOk prog_14_method_77_code l) (sx_iB_s aJ_398_30) (sx_iB_s aJ_398_31)) (sx_ite (p := fun l => sx_iOk prog_14_method_77_code l) (sx_iB_s aJ_398_32) (sx_ite (p := fun l => sx_iOk prog_14_method_77_code l) (sx_iB_s aJ_398_33) (sx_iB_s aJ_398_34)))))))
def aW_398 : Nat → Option (Instr × Nat) := fun pc => sx_iF (aS_398 pc) pc
theorem aX_398 : ∀ pc i len, aW_398 pc = some (i, len) → decode aM_398.1.2.1 pc = .ok (i, len) := fun pc i len h => sx_iF_s (aT_398 pc) h
def aI_399_0 : sx_IL := [(0, .aload_n 0, 1), (1, .getfield 811, 3), (4, .bipush 12, 2), (6, .if_icmp .ne 6, 3), (9, .bipush (-3), 2), (11, .ireturn, 1)]
theorem aJ_399_0 : sx_iB prog_14_method_81_code aI_399_0 = true := by decide +kernel
def aI_399_1 : sx_IL := [(12, .aload_n 0, 1), (13, .aload_n 0, 1), (14, .getfield 811, 3), (17, .aload_n 0, 1), (18, .getfield 75, 3), (21, .sipush 5200, 3)]
theorem aJ_399_1 : sx_iB prog_14_method_81_code aI_399_1 = true := by decide +kernel
def aI_399_2 : sx_IL := [(24, .aload_n 0, 1), (25, .getfield 78, 3), (28, .bipush 13, 2), (30, .iaload, 1), (31, .invokevirtual 805, 3), (34, .istore_n 1, 1)]
theorem aJ_399_2 : sx_iB prog_14_method_81_code aI_399_2 = true := by decide +kernel
def aI_399_3 : sx_IL := [(35, .aload_n 0, 1), (36, .dup, 1), (37, .getfield 811, 3), (40, .iload_n 1, 1), (41, .ifCond .eq 7, 3), (44, .iconst 1, 1)]
theorem aJ_399_3 : sx_iB prog_14_method_81_code aI_399_3 = true := by decide +kernel
def aI_399_4 : sx_IL := [(45, .goto 4, 3), (48, .iconst 0, 1), (49, .iadd, 1), (50, .putfield 811, 3), (53, .aload_n 0, 1), (54, .getfield 811, 3)]
theorem aJ_399_4 : sx_iB prog_14_method_81_code aI_399_4 = true := by decide +kernel
def aI_399_5 : sx_IL := [(57, .iconst 1, 1), (58, .isub, 1), (59, .ireturn, 1)]
theorem aJ_399_5 : sx_iB prog_14_method_81_code aI_399_5 = true := by decide +kernel
def aS_399 (pc : Nat) : sx_IL := (if pc < 35 then (if pc < 12 then aI_399_0 else (if pc < 24 then aI_399_1 else aI_399_2)) else (if pc < 45 then aI_399_3 else (if pc < 57 then aI_399_4 else aI_399_5)))
theorem aT_399 (pc : Nat) : sx_iOk prog_14_method_81_code (aS_399 pc) := (sx_ite (p := fun l => sx_iOk prog_14_method_81_code l) (sx_ite (p := fun l => sx_iOk prog_14_method_81_code l) (sx_iB_s aJ_399_0) (sx_ite (p := fun l => sx_iOk prog_14_method_81_code l) (sx_iB_s aJ_399_1) (sx_iB_s aJ_399_2))) (sx_ite (p := fun l => sx_iOk prog_14_method_81_code l) (sx_iB_s aJ_399_3) (sx_ite (p := fun l => sx_iOk prog_14_method_81_code l) (sx_iB_s aJ_399_4) (sx_iB_s aJ_399_5))))
def aW_399 : Nat → Option (Instr × Nat) := fun pc => sx_iF (aS_399 pc) pc
theorem aX_399 : ∀ pc i len, aW_399 pc = some (i, len) → decode aM_399.1.2.1 pc = .ok (i, len) := fun pc i len h => sx_iF_s (aT_399 pc) h
