/-! SX: instructions, rows of the class and the reference -/
def aI_0_0 : sx_IL := [(0, .aload_n 0, 1), (1, .invokespecial 1, 3), (4, .aload_n 0, 1), (5, .new 7, 3), (8, .dup, 1), (9, .invokespecial 9, 3)]
theorem aJ_0_0 : sx_iB prog_1_method_1_code aI_0_0 = true := by decide +kernel
def aI_0_1 : sx_IL := [(12, .putfield 10, 3), (15, .aload_n 0, 1), (16, .new 16, 3), (19, .dup, 1), (20, .bipush 64, 2), (22, .invokespecial 18, 3)]
theorem aJ_0_1 : sx_iB prog_1_method_1_code aI_0_1 = true := by decide +kernel
def aI_0_2 : sx_IL := [(25, .putfield 21, 3), (28, .aload_n 0, 1), (29, .new 16, 3), (32, .dup, 1), (33, .bipush 64, 2), (35, .invokespecial 18, 3)]
theorem aJ_0_2 : sx_iB prog_1_method_1_code aI_0_2 = true := by decide +kernel
def aI_0_3 : sx_IL := [(38, .putfield 25, 3), (41, .aload_n 0, 1), (42, .bipush 6, 2), (44, .newarray .int, 2), (46, .putfield 28, 3), (49, .aload_n 0, 1)]
theorem aJ_0_3 : sx_iB prog_1_method_1_code aI_0_3 = true := by decide +kernel
def aI_0_4 : sx_IL := [(50, .bipush 8, 2), (52, .anewarray 32, 3), (55, .putfield 34, 3), (58, .aload_n 0, 1), (59, .bipush 24, 2), (61, .anewarray 38, 3)]
theorem aJ_0_4 : sx_iB prog_1_method_1_code aI_0_4 = true := by decide +kernel
def aI_0_5 : sx_IL := [(64, .putfield 40, 3), (67, .aload_n 0, 1), (68, .iconst 4, 1), (69, .anewarray 44, 3), (72, .putfield 46, 3), (75, .aload_n 0, 1)]
theorem aJ_0_5 : sx_iB prog_1_method_1_code aI_0_5 = true := by decide +kernel
def aI_0_6 : sx_IL := [(76, .bipush 16, 2), (78, .anewarray 16, 3), (81, .putfield 50, 3), (84, .aload_n 0, 1), (85, .bipush 16, 2), (87, .newarray .long, 2)]
theorem aJ_0_6 : sx_iB prog_1_method_1_code aI_0_6 = true := by decide +kernel
def aI_0_7 : sx_IL := [(89, .putfield 54, 3), (92, .aload_n 0, 1), (93, .iconst 4, 1), (94, .bipush 64, 2), (96, .multianewarray 58 2, 4), (100, .putfield 60, 3)]
theorem aJ_0_7 : sx_iB prog_1_method_1_code aI_0_7 = true := by decide +kernel
def aI_0_8 : sx_IL := [(103, .aload_n 0, 1), (104, .iconst 4, 1), (105, .newarray .int, 2), (107, .putfield 63, 3), (110, .aload_n 0, 1), (111, .bipush 16, 2)]
theorem aJ_0_8 : sx_iB prog_1_method_1_code aI_0_8 = true := by decide +kernel
def aI_0_9 : sx_IL := [(113, .newarray .long, 2), (115, .putfield 66, 3), (118, .return_, 1)]
theorem aJ_0_9 : sx_iB prog_1_method_1_code aI_0_9 = true := by decide +kernel
def aI_1_0 : sx_IL := [(0, .aload_n 0, 1), (1, .invokespecial 3, 3), (4, .aload_n 0, 1), (5, .new 9, 3), (8, .dup, 1), (9, .invokespecial 11, 3)]
theorem aJ_1_0 : sx_iB prog_5_method_1_code aI_1_0 = true := by decide +kernel
def aI_1_1 : sx_IL := [(12, .putfield 12, 3), (15, .aload_n 0, 1), (16, .new 18, 3), (19, .dup, 1), (20, .sipush 512, 3), (23, .invokespecial 20, 3)]
theorem aJ_1_1 : sx_iB prog_5_method_1_code aI_1_1 = true := by decide +kernel
def aI_1_2 : sx_IL := [(26, .putfield 23, 3), (29, .aload_n 0, 1), (30, .new 18, 3), (33, .dup, 1), (34, .sipush 256, 3), (37, .invokespecial 20, 3)]
theorem aJ_1_2 : sx_iB prog_5_method_1_code aI_1_2 = true := by decide +kernel
def aI_1_3 : sx_IL := [(40, .putfield 27, 3), (43, .aload_n 0, 1), (44, .new 18, 3), (47, .dup, 1), (48, .bipush 8, 2), (50, .invokespecial 20, 3)]
theorem aJ_1_3 : sx_iB prog_5_method_1_code aI_1_3 = true := by decide +kernel
def aI_1_4 : sx_IL := [(53, .putfield 30, 3), (56, .aload_n 0, 1), (57, .bipush 10, 2), (59, .newarray .int, 2), (61, .putfield 33, 3), (64, .aload_n 0, 1)]
theorem aJ_1_4 : sx_iB prog_5_method_1_code aI_1_4 = true := by decide +kernel
def aI_1_5 : sx_IL := [(65, .new 37, 3), (68, .dup, 1), (69, .invokespecial 39, 3), (72, .putfield 40, 3), (75, .aload_n 0, 1), (76, .new 37, 3)]
theorem aJ_1_5 : sx_iB prog_5_method_1_code aI_1_5 = true := by decide +kernel
def aI_1_6 : sx_IL := [(79, .dup, 1), (80, .invokespecial 39, 3), (83, .putfield 44, 3), (86, .aload_n 0, 1), (87, .bipush 30, 2), (89, .anewarray 47, 3)]
theorem aJ_1_6 : sx_iB prog_5_method_1_code aI_1_6 = true := by decide +kernel
def aI_1_7 : sx_IL := [(92, .putfield 49, 3), (95, .aload_n 0, 1), (96, .bipush 12, 2), (98, .anewarray 47, 3), (101, .putfield 53, 3), (104, .aload_n 0, 1)]
theorem aJ_1_7 : sx_iB prog_5_method_1_code aI_1_7 = true := by decide +kernel
def aI_1_8 : sx_IL := [(105, .bipush 12, 2), (107, .anewarray 47, 3), (110, .putfield 56, 3), (113, .aload_n 0, 1), (114, .new 47, 3), (117, .dup, 1)]
theorem aJ_1_8 : sx_iB prog_5_method_1_code aI_1_8 = true := by decide +kernel
def aI_1_9 : sx_IL := [(118, .sipush 400, 3), (121, .invokespecial 59, 3), (124, .putfield 60, 3), (127, .aload_n 0, 1), (128, .iconst 4, 1), (129, .anewarray 47, 3)]
theorem aJ_1_9 : sx_iB prog_5_method_1_code aI_1_9 = true := by decide +kernel
def aI_1_10 : sx_IL := [(132, .putfield 64, 3), (135, .aload_n 0, 1), (136, .new 47, 3), (139, .dup, 1), (140, .sipush 400, 3), (143, .invokespecial 59, 3)]
theorem aJ_1_10 : sx_iB prog_5_method_1_code aI_1_10 = true := by decide +kernel
def aI_1_11 : sx_IL := [(146, .putfield 67, 3), (149, .aload_n 0, 1), (150, .bipush 6, 2), (152, .anewarray 47, 3), (155, .putfield 70, 3), (158, .iconst 0, 1)]
theorem aJ_1_11 : sx_iB prog_5_method_1_code aI_1_11 = true := by decide +kernel
def aI_1_12 : sx_IL := [(159, .istore_n 1, 1), (160, .iload_n 1, 1), (161, .aload_n 0, 1), (162, .getfield 64, 3), (165, .arraylength, 1), (166, .if_icmp .ge 25, 3)]
theorem aJ_1_12 : sx_iB prog_5_method_1_code aI_1_12 = true := by decide +kernel
def aI_1_13 : sx_IL := [(169, .aload_n 0, 1), (170, .getfield 64, 3), (173, .iload_n 1, 1), (174, .new 47, 3), (177, .dup, 1), (178, .sipush 400, 3)]
theorem aJ_1_13 : sx_iB prog_5_method_1_code aI_1_13 = true := by decide +kernel
def aI_1_14 : sx_IL := [(181, .invokespecial 59, 3), (184, .aastore, 1), (185, .iinc 1 1, 3), (188, .goto (-28), 3), (191, .return_, 1)]
theorem aJ_1_14 : sx_iB prog_5_method_1_code aI_1_14 = true := by decide +kernel
def aI_2_0 : sx_IL := [(0, .aload_n 0, 1), (1, .invokespecial 1, 3), (4, .return_, 1)]
theorem aJ_2_0 : sx_iB prog_6_method_1_code aI_2_0 = true := by decide +kernel
def aI_3_0 : sx_IL := [(0, .aload_n 0, 1), (1, .invokespecial 1, 3), (4, .aload_n 0, 1), (5, .iload_n 1, 1), (6, .bipush 8, 2), (8, .invokestatic 7, 3)]
theorem aJ_3_0 : sx_iB prog_9_method_1_code aI_3_0 = true := by decide +kernel
def aI_3_1 : sx_IL := [(11, .newarray .int, 2), (13, .putfield 13, 3), (16, .return_, 1)]
theorem aJ_3_1 : sx_iB prog_9_method_1_code aI_3_1 = true := by decide +kernel
def aI_4_0 : sx_IL := [(0, .aload_n 0, 1), (1, .invokespecial 1, 3), (4, .aload_n 0, 1), (5, .iconst 0, 1), (6, .newarray .int, 2), (8, .putfield 7, 3)]
theorem aJ_4_0 : sx_iB prog_4_method_1_code aI_4_0 = true := by decide +kernel
def aI_4_1 : sx_IL := [(11, .aload_n 0, 1), (12, .bipush 11, 2), (14, .newarray .int, 2), (16, .putfield 13, 3), (19, .aload_n 0, 1), (20, .bipush 11, 2)]
theorem aJ_4_1 : sx_iB prog_4_method_1_code aI_4_1 = true := by decide +kernel
def aI_4_2 : sx_IL := [(22, .newarray .int, 2), (24, .putfield 16, 3), (27, .return_, 1)]
theorem aJ_4_2 : sx_iB prog_4_method_1_code aI_4_2 = true := by decide +kernel
def aI_5_0 : sx_IL := [(0, .aload_n 0, 1), (1, .invokespecial 3, 3), (4, .aload_n 0, 1), (5, .bipush 12, 2), (7, .newarray .int, 2), (9, .putfield 9, 3)]
theorem aJ_5_0 : sx_iB prog_8_method_1_code aI_5_0 = true := by decide +kernel
def aI_5_1 : sx_IL := [(12, .aload_n 0, 1), (13, .bipush 32, 2), (15, .newarray .int, 2), (17, .putfield 15, 3), (20, .aload_n 0, 1), (21, .iconst (-1), 1)]
theorem aJ_5_1 : sx_iB prog_8_method_1_code aI_5_1 = true := by decide +kernel
def aI_5_2 : sx_IL := [(22, .putfield 18, 3), (25, .aload_n 0, 1), (26, .iload_n 1, 1), (27, .iconst 1, 1), (28, .invokestatic 22, 3), (31, .newarray .int, 2)]
theorem aJ_5_2 : sx_iB prog_8_method_1_code aI_5_2 = true := by decide +kernel
def aI_5_3 : sx_IL := [(33, .putfield 28, 3), (36, .return_, 1)]
theorem aJ_5_3 : sx_iB prog_8_method_1_code aI_5_3 = true := by decide +kernel
def aI_6_0 : sx_IL := [(0, .iload_n 1, 1), (1, .iconst 1, 1), (2, .if_icmp .lt 9, 3), (5, .iload_n 1, 1), (6, .bipush 8, 2), (8, .if_icmp .le 5, 3)]
theorem aJ_6_0 : sx_iB prog_1_method_2_code aI_6_0 = true := by decide +kernel
def aI_6_1 : sx_IL := [(11, .iconst (-1), 1), (12, .ireturn, 1), (13, .aload_n 0, 1), (14, .getfield 21, 3), (17, .getfield 69, 3), (20, .iload_n 1, 1)]
theorem aJ_6_1 : sx_iB prog_1_method_2_code aI_6_1 = true := by decide +kernel
def aI_6_2 : sx_IL := [(21, .iadd, 1), (22, .sipush 800, 3), (25, .if_icmp .le 6, 3), (28, .bipush (-3), 2), (30, .ireturn, 1), (31, .iload_n 1, 1)]
theorem aJ_6_2 : sx_iB prog_1_method_2_code aI_6_2 = true := by decide +kernel
def aI_6_3 : sx_IL := [(32, .iconst 1, 1), (33, .isub, 1), (34, .istore 4, 2), (36, .iload 4, 2), (38, .ifCond .lt 24, 3), (41, .aload_n 0, 1)]
theorem aJ_6_3 : sx_iB prog_1_method_2_code aI_6_3 = true := by decide +kernel
def aI_6_4 : sx_IL := [(42, .getfield 21, 3), (45, .lload_n 2, 1), (46, .bipush 8, 2), (48, .iload 4, 2), (50, .imul, 1), (51, .lushr, 1)]
theorem aJ_6_4 : sx_iB prog_1_method_2_code aI_6_4 = true := by decide +kernel
def aI_6_5 : sx_IL := [(52, .l2i, 1), (53, .invokevirtual 73, 3), (56, .iinc 4 (-1), 3), (59, .goto (-23), 3), (62, .aload_n 0, 1), (63, .getfield 21, 3)]
theorem aJ_6_5 : sx_iB prog_1_method_2_code aI_6_5 = true := by decide +kernel
def aI_6_6 : sx_IL := [(66, .getfield 69, 3), (69, .ireturn, 1)]
theorem aJ_6_6 : sx_iB prog_1_method_2_code aI_6_6 = true := by decide +kernel
def aI_7_0 : sx_IL := [(0, .aload_n 0, 1), (1, .getfield 19, 3), (4, .ldc 32, 2), (6, .if_icmp .lt 4, 3), (9, .return_, 1), (10, .aload_n 0, 1)]
theorem aJ_7_0 : sx_iB prog_9_method_7_code aI_7_0 = true := by decide +kernel
def aI_7_1 : sx_IL := [(11, .getfield 19, 3), (14, .aload_n 0, 1), (15, .getfield 13, 3), (18, .arraylength, 1), (19, .if_icmp .lt 21, 3), (22, .aload_n 0, 1)]
theorem aJ_7_1 : sx_iB prog_9_method_7_code aI_7_1 = true := by decide +kernel
def aI_7_2 : sx_IL := [(23, .aload_n 0, 1), (24, .getfield 13, 3), (27, .iconst 2, 1), (28, .aload_n 0, 1), (29, .getfield 13, 3), (32, .arraylength, 1)]
theorem aJ_7_2 : sx_iB prog_9_method_7_code aI_7_2 = true := by decide +kernel
def aI_7_3 : sx_IL := [(33, .imul, 1), (34, .invokestatic 33, 3), (37, .putfield 13, 3), (40, .aload_n 0, 1), (41, .getfield 13, 3), (44, .aload_n 0, 1)]
theorem aJ_7_3 : sx_iB prog_9_method_7_code aI_7_3 = true := by decide +kernel
def aI_7_4 : sx_IL := [(45, .getfield 19, 3), (48, .iload_n 1, 1), (49, .sipush 255, 3), (52, .iand, 1), (53, .iastore, 1), (54, .aload_n 0, 1)]
theorem aJ_7_4 : sx_iB prog_9_method_7_code aI_7_4 = true := by decide +kernel
def aI_7_5 : sx_IL := [(55, .dup, 1), (56, .getfield 19, 3), (59, .iconst 1, 1), (60, .iadd, 1), (61, .putfield 19, 3), (64, .return_, 1)]
theorem aJ_7_5 : sx_iB prog_9_method_7_code aI_7_5 = true := by decide +kernel
def aI_8_0 : sx_IL := [(0, .iload_n 1, 1), (1, .aload_n 0, 1), (2, .arraylength, 1), (3, .if_icmp .ne 11, 3), (6, .aload_n 0, 1), (7, .invokevirtual 316, 3)]
theorem aJ_8_0 : sx_iB prog_18_method_123_code aI_8_0 = true := by decide +kernel
def aI_8_1 : sx_IL := [(10, .checkcast 317, 3), (13, .areturn, 1), (14, .iload_n 1, 1), (15, .newarray .int, 2), (17, .astore_n 2, 1), (18, .aload_n 0, 1)]
theorem aJ_8_1 : sx_iB prog_18_method_123_code aI_8_1 = true := by decide +kernel
def aI_8_2 : sx_IL := [(19, .iconst 0, 1), (20, .aload_n 2, 1), (21, .iconst 0, 1), (22, .aload_n 0, 1), (23, .arraylength, 1), (24, .iload_n 1, 1)]
theorem aJ_8_2 : sx_iB prog_18_method_123_code aI_8_2 = true := by decide +kernel
def aI_8_3 : sx_IL := [(25, .invokestatic 304, 3), (28, .invokestatic 150, 3), (31, .aload_n 2, 1), (32, .areturn, 1)]
theorem aJ_8_3 : sx_iB prog_18_method_123_code aI_8_3 = true := by decide +kernel
def aI_9_0 : sx_IL := [(0, .iload_n 1, 1), (1, .ifCond .lt 14, 3), (4, .iload_n 1, 1), (5, .aload_n 0, 1), (6, .getfield 21, 3), (9, .getfield 69, 3)]
theorem aJ_9_0 : sx_iB prog_1_method_3_code aI_9_0 = true := by decide +kernel
def aI_9_1 : sx_IL := [(12, .if_icmp .le 5, 3), (15, .iconst (-1), 1), (16, .ireturn, 1), (17, .aload_n 0, 1), (18, .getfield 21, 3), (21, .getfield 69, 3)]
theorem aJ_9_1 : sx_iB prog_1_method_3_code aI_9_1 = true := by decide +kernel
def aI_9_2 : sx_IL := [(24, .iload_n 1, 1), (25, .isub, 1), (26, .istore_n 2, 1), (27, .aload_n 0, 1), (28, .getfield 21, 3), (31, .iload_n 1, 1)]
theorem aJ_9_2 : sx_iB prog_1_method_3_code aI_9_2 = true := by decide +kernel
def aI_9_3 : sx_IL := [(32, .putfield 69, 3), (35, .iload_n 2, 1), (36, .ireturn, 1)]
theorem aJ_9_3 : sx_iB prog_1_method_3_code aI_9_3 = true := by decide +kernel
def aI_10_0 : sx_IL := [(0, .iload_n 1, 1), (1, .iconst (-1), 1), (2, .if_icmp .lt 14, 3), (5, .iload_n 1, 1), (6, .aload_n 0, 1), (7, .getfield 25, 3)]
theorem aJ_10_0 : sx_iB prog_1_method_4_code aI_10_0 = true := by decide +kernel
def aI_10_1 : sx_IL := [(10, .getfield 69, 3), (13, .if_icmp .lt 5, 3), (16, .iconst (-1), 1), (17, .ireturn, 1), (18, .iload_n 1, 1), (19, .iconst (-1), 1)]
theorem aJ_10_1 : sx_iB prog_1_method_4_code aI_10_1 = true := by decide +kernel
def aI_10_2 : sx_IL := [(20, .if_icmp .ne 13, 3), (23, .aload_n 0, 1), (24, .getfield 25, 3), (27, .getfield 69, 3), (30, .goto 11, 3), (33, .aload_n 0, 1)]
theorem aJ_10_2 : sx_iB prog_1_method_4_code aI_10_2 = true := by decide +kernel
def aI_10_3 : sx_IL := [(34, .getfield 25, 3), (37, .iload_n 1, 1), (38, .invokevirtual 76, 3), (41, .ireturn, 1)]
theorem aJ_10_3 : sx_iB prog_1_method_4_code aI_10_3 = true := by decide +kernel
def aI_11_0 : sx_IL := [(0, .iload_n 1, 1), (1, .ifCond .lt 20, 3), (4, .iload_n 1, 1), (5, .aload_n 0, 1), (6, .getfield 19, 3), (9, .if_icmp .ge 12, 3)]
theorem aJ_11_0 : sx_iB prog_9_method_3_code aI_11_0 = true := by decide +kernel
def aI_11_1 : sx_IL := [(12, .aload_n 0, 1), (13, .getfield 13, 3), (16, .iload_n 1, 1), (17, .iaload, 1), (18, .goto 4, 3), (21, .iconst 0, 1)]
theorem aJ_11_1 : sx_iB prog_9_method_3_code aI_11_1 = true := by decide +kernel
def aI_11_2 : sx_IL := [(22, .ireturn, 1)]
theorem aJ_11_2 : sx_iB prog_9_method_3_code aI_11_2 = true := by decide +kernel
def aI_12_0 : sx_IL := [(0, .aload_n 0, 1), (1, .getfield 21, 3), (4, .getfield 69, 3), (7, .aload_n 0, 1), (8, .getfield 25, 3), (11, .getfield 69, 3)]
theorem aJ_12_0 : sx_iB prog_1_method_5_code aI_12_0 = true := by decide +kernel
def aI_12_1 : sx_IL := [(14, .iadd, 1), (15, .sipush 800, 3), (18, .if_icmp .le 6, 3), (21, .bipush (-3), 2), (23, .ireturn, 1), (24, .aload_n 0, 1)]
theorem aJ_12_1 : sx_iB prog_1_method_5_code aI_12_1 = true := by decide +kernel
def aI_12_2 : sx_IL := [(25, .getfield 21, 3), (28, .aload_n 0, 1), (29, .getfield 25, 3), (32, .getfield 80, 3), (35, .iconst 0, 1), (36, .aload_n 0, 1)]
theorem aJ_12_2 : sx_iB prog_1_method_5_code aI_12_2 = true := by decide +kernel
def aI_12_3 : sx_IL := [(37, .getfield 25, 3), (40, .getfield 69, 3), (43, .invokevirtual 83, 3), (46, .aload_n 0, 1), (47, .getfield 21, 3), (50, .getfield 69, 3)]
theorem aJ_12_3 : sx_iB prog_1_method_5_code aI_12_3 = true := by decide +kernel
def aI_12_4 : sx_IL := [(53, .ireturn, 1)]
theorem aJ_12_4 : sx_iB prog_1_method_5_code aI_12_4 = true := by decide +kernel
def aI_13_0 : sx_IL := [(0, .iload_n 2, 1), (1, .ifCond .lt 27, 3), (4, .iload_n 3, 1), (5, .aload_n 1, 1), (6, .arraylength, 1), (7, .if_icmp .gt 21, 3)]
theorem aJ_13_0 : sx_iB prog_9_method_12_code aI_13_0 = true := by decide +kernel
def aI_13_1 : sx_IL := [(10, .iload_n 2, 1), (11, .iload_n 3, 1), (12, .if_icmp .ge 16, 3), (15, .aload_n 0, 1), (16, .getfield 19, 3), (19, .iload_n 3, 1)]
theorem aJ_13_1 : sx_iB prog_9_method_12_code aI_13_1 = true := by decide +kernel
def aI_13_2 : sx_IL := [(20, .iload_n 2, 1), (21, .isub, 1), (22, .iadd, 1), (23, .ldc 32, 2), (25, .if_icmp .le 4, 3), (28, .return_, 1)]
theorem aJ_13_2 : sx_iB prog_9_method_12_code aI_13_2 = true := by decide +kernel
def aI_13_3 : sx_IL := [(29, .aload_n 0, 1), (30, .getfield 19, 3), (33, .iload_n 3, 1), (34, .iadd, 1), (35, .iload_n 2, 1), (36, .isub, 1)]
theorem aJ_13_3 : sx_iB prog_9_method_12_code aI_13_3 = true := by decide +kernel
def aI_13_4 : sx_IL := [(37, .aload_n 0, 1), (38, .getfield 13, 3), (41, .arraylength, 1), (42, .if_icmp .le 32, 3), (45, .aload_n 0, 1), (46, .aload_n 0, 1)]
theorem aJ_13_4 : sx_iB prog_9_method_12_code aI_13_4 = true := by decide +kernel
def aI_13_5 : sx_IL := [(47, .getfield 13, 3), (50, .iconst 2, 1), (51, .aload_n 0, 1), (52, .getfield 13, 3), (55, .arraylength, 1), (56, .imul, 1)]
theorem aJ_13_5 : sx_iB prog_9_method_12_code aI_13_5 = true := by decide +kernel
def aI_13_6 : sx_IL := [(57, .aload_n 0, 1), (58, .getfield 19, 3), (61, .iload_n 3, 1), (62, .iadd, 1), (63, .iload_n 2, 1), (64, .isub, 1)]
theorem aJ_13_6 : sx_iB prog_9_method_12_code aI_13_6 = true := by decide +kernel
def aI_13_7 : sx_IL := [(65, .invokestatic 7, 3), (68, .invokestatic 33, 3), (71, .putfield 13, 3), (74, .aload_n 1, 1), (75, .iload_n 2, 1), (76, .aload_n 0, 1)]
theorem aJ_13_7 : sx_iB prog_9_method_12_code aI_13_7 = true := by decide +kernel
def aI_13_8 : sx_IL := [(77, .getfield 13, 3), (80, .aload_n 0, 1), (81, .getfield 19, 3), (84, .iload_n 3, 1), (85, .iload_n 2, 1), (86, .isub, 1)]
theorem aJ_13_8 : sx_iB prog_9_method_12_code aI_13_8 = true := by decide +kernel
def aI_13_9 : sx_IL := [(87, .invokestatic 43, 3), (90, .aload_n 0, 1), (91, .dup, 1), (92, .getfield 19, 3), (95, .iload_n 3, 1), (96, .iload_n 2, 1)]
theorem aJ_13_9 : sx_iB prog_9_method_12_code aI_13_9 = true := by decide +kernel
def aI_13_10 : sx_IL := [(97, .isub, 1), (98, .iadd, 1), (99, .putfield 19, 3), (102, .return_, 1)]
theorem aJ_13_10 : sx_iB prog_9_method_12_code aI_13_10 = true := by decide +kernel
def aI_14_0 : sx_IL := [(0, .iload_n 1, 1), (1, .ifCond .lt 9, 3), (4, .iload_n 1, 1), (5, .ldc 87, 2), (7, .if_icmp .le 5, 3), (10, .iconst (-1), 1)]
theorem aJ_14_0 : sx_iB prog_1_method_6_code aI_14_0 = true := by decide +kernel
def aI_14_1 : sx_IL := [(11, .ireturn, 1), (12, .aload_n 0, 1), (13, .getfield 10, 3), (16, .getfield 88, 3), (19, .ldc 91, 2), (21, .iload_n 1, 1)]
theorem aJ_14_1 : sx_iB prog_1_method_6_code aI_14_1 = true := by decide +kernel
def aI_14_2 : sx_IL := [(22, .isub, 1), (23, .if_icmp .le 6, 3), (26, .bipush (-2), 2), (28, .ireturn, 1), (29, .aload_n 0, 1), (30, .getfield 10, 3)]
theorem aJ_14_2 : sx_iB prog_1_method_6_code aI_14_2 = true := by decide +kernel
def aI_14_3 : sx_IL := [(33, .dup, 1), (34, .getfield 88, 3), (37, .iload_n 1, 1), (38, .iadd, 1), (39, .putfield 88, 3), (42, .aload_n 0, 1)]
theorem aJ_14_3 : sx_iB prog_1_method_6_code aI_14_3 = true := by decide +kernel
def aI_14_4 : sx_IL := [(43, .getfield 10, 3), (46, .getfield 88, 3), (49, .ireturn, 1)]
theorem aJ_14_4 : sx_iB prog_1_method_6_code aI_14_4 = true := by decide +kernel
def aI_15_0 : sx_IL := [(0, .iload_n 1, 1), (1, .invokestatic 92, 3), (4, .ifCond .ne 7, 3), (7, .ldc2_w 96, 3), (10, .lreturn, 1), (11, .aload_n 0, 1)]
theorem aJ_15_0 : sx_iB prog_1_method_7_code aI_15_0 = true := by decide +kernel
def aI_15_1 : sx_IL := [(12, .getfield 10, 3), (15, .getfield 98, 3), (18, .iload_n 1, 1), (19, .aload_n 0, 1), (20, .getfield 21, 3), (23, .getfield 80, 3)]
theorem aJ_15_1 : sx_iB prog_1_method_7_code aI_15_1 = true := by decide +kernel
def aI_15_2 : sx_IL := [(26, .iconst 0, 1), (27, .aload_n 0, 1), (28, .getfield 21, 3), (31, .getfield 69, 3), (34, .invokevirtual 102, 3), (37, .lstore_n 2, 1)]
theorem aJ_15_2 : sx_iB prog_1_method_7_code aI_15_2 = true := by decide +kernel
def aI_15_3 : sx_IL := [(38, .aload_n 0, 1), (39, .getfield 21, 3), (42, .invokevirtual 108, 3), (45, .lload_n 2, 1), (46, .lreturn, 1)]
theorem aJ_15_3 : sx_iB prog_1_method_7_code aI_15_3 = true := by decide +kernel
def aI_16_0 : sx_IL := [(0, .iload_n 0, 1), (1, .ifCond .eq 8, 3), (4, .iload_n 0, 1), (5, .iconst 1, 1), (6, .if_icmp .ne 7, 3), (9, .iconst 1, 1)]
theorem aJ_16_0 : sx_iB prog_1_method_17_code aI_16_0 = true := by decide +kernel
def aI_16_1 : sx_IL := [(10, .goto 4, 3), (13, .iconst 0, 1), (14, .ireturn, 1)]
theorem aJ_16_1 : sx_iB prog_1_method_17_code aI_16_1 = true := by decide +kernel
def aI_17_0 : sx_IL := [(0, .aload_n 0, 1), (1, .iload_n 1, 1), (2, .invokevirtual 41, 3), (5, .aload_n 0, 1), (6, .aload_n 2, 1), (7, .iload_n 3, 1)]
theorem aJ_17_0 : sx_iB prog_6_method_12_code aI_17_0 = true := by decide +kernel
def aI_17_1 : sx_IL := [(8, .iload 4, 2), (10, .invokevirtual 45, 3), (13, .aload_n 0, 1), (14, .invokevirtual 49, 3), (17, .lreturn, 1)]
theorem aJ_17_1 : sx_iB prog_6_method_12_code aI_17_1 = true := by decide +kernel
def aI_18_0 : sx_IL := [(0, .aload_n 0, 1), (1, .iconst 1, 1), (2, .iload_n 1, 1), (3, .iadd, 1), (4, .putfield 7, 3), (7, .aload_n 0, 1)]
theorem aJ_18_0 : sx_iB prog_6_method_4_code aI_18_0 = true := by decide +kernel
def aI_18_1 : sx_IL := [(8, .iconst 2, 1), (9, .iload_n 1, 1), (10, .iadd, 1), (11, .putfield 13, 3), (14, .aload_n 0, 1), (15, .iconst 3, 1)]
theorem aJ_18_1 : sx_iB prog_6_method_4_code aI_18_1 = true := by decide +kernel
def aI_18_2 : sx_IL := [(16, .iload_n 1, 1), (17, .iadd, 1), (18, .putfield 16, 3), (21, .aload_n 0, 1), (22, .iconst 4, 1), (23, .iload_n 1, 1)]
theorem aJ_18_2 : sx_iB prog_6_method_4_code aI_18_2 = true := by decide +kernel
def aI_18_3 : sx_IL := [(24, .iadd, 1), (25, .putfield 19, 3), (28, .aload_n 0, 1), (29, .iconst 0, 1), (30, .putfield 22, 3), (33, .return_, 1)]
theorem aJ_18_3 : sx_iB prog_6_method_4_code aI_18_3 = true := by decide +kernel
def aI_19_0 : sx_IL := [(0, .iload_n 2, 1), (1, .ifCond .lt 9, 3), (4, .iload_n 3, 1), (5, .aload_n 1, 1), (6, .arraylength, 1), (7, .if_icmp .le 4, 3)]
theorem aJ_19_0 : sx_iB prog_6_method_10_code aI_19_0 = true := by decide +kernel
def aI_19_1 : sx_IL := [(10, .return_, 1), (11, .iload_n 2, 1), (12, .istore 4, 2), (14, .iload 4, 2), (16, .iload_n 3, 1), (17, .if_icmp .ge 54, 3)]
theorem aJ_19_1 : sx_iB prog_6_method_10_code aI_19_1 = true := by decide +kernel
def aI_19_2 : sx_IL := [(20, .aload_n 0, 1), (21, .aload_n 0, 1), (22, .getfield 25, 3), (25, .bipush 8, 2), (27, .lshl, 1), (28, .aload_n 1, 1)]
theorem aJ_19_2 : sx_iB prog_6_method_10_code aI_19_2 = true := by decide +kernel
def aI_19_3 : sx_IL := [(29, .iload 4, 2), (31, .iaload, 1), (32, .i2l, 1), (33, .lor, 1), (34, .putfield 25, 3), (37, .aload_n 0, 1)]
theorem aJ_19_3 : sx_iB prog_6_method_10_code aI_19_3 = true := by decide +kernel
def aI_19_4 : sx_IL := [(38, .dup, 1), (39, .getfield 22, 3), (42, .iconst 1, 1), (43, .iadd, 1), (44, .putfield 22, 3), (47, .aload_n 0, 1)]
theorem aJ_19_4 : sx_iB prog_6_method_10_code aI_19_4 = true := by decide +kernel
def aI_19_5 : sx_IL := [(48, .getfield 22, 3), (51, .bipush 7, 2), (53, .iand, 1), (54, .ifCond .ne 11, 3), (57, .aload_n 0, 1), (58, .aload_n 0, 1)]
theorem aJ_19_5 : sx_iB prog_6_method_10_code aI_19_5 = true := by decide +kernel
def aI_19_6 : sx_IL := [(59, .getfield 25, 3), (62, .invokevirtual 31, 3), (65, .iinc 4 1, 3), (68, .goto (-54), 3), (71, .return_, 1)]
theorem aJ_19_6 : sx_iB prog_6_method_10_code aI_19_6 = true := by decide +kernel
def aI_20_0 : sx_IL := [(0, .aload_n 0, 1), (1, .getfield 7, 3), (4, .lload_n 1, 1), (5, .bipush 32, 2), (7, .lushr, 1), (8, .l2i, 1)]
theorem aJ_20_0 : sx_iB prog_6_method_6_code aI_20_0 = true := by decide +kernel
def aI_20_1 : sx_IL := [(9, .ixor, 1), (10, .istore_n 3, 1), (11, .aload_n 0, 1), (12, .getfield 13, 3), (15, .lload_n 1, 1), (16, .l2i, 1)]
theorem aJ_20_1 : sx_iB prog_6_method_6_code aI_20_1 = true := by decide +kernel
def aI_20_2 : sx_IL := [(17, .ixor, 1), (18, .istore 4, 2), (20, .aload_n 0, 1), (21, .getfield 16, 3), (24, .istore 5, 2), (26, .aload_n 0, 1)]
theorem aJ_20_2 : sx_iB prog_6_method_6_code aI_20_2 = true := by decide +kernel
def aI_20_3 : sx_IL := [(27, .getfield 19, 3), (30, .istore 6, 2), (32, .iconst 1, 1), (33, .istore 7, 2), (35, .iload 7, 2), (37, .bipush 8, 2)]
theorem aJ_20_3 : sx_iB prog_6_method_6_code aI_20_3 = true := by decide +kernel
def aI_20_4 : sx_IL := [(39, .if_icmp .gt 116, 3), (42, .iload_n 3, 1), (43, .iload 4, 2), (45, .iadd, 1), (46, .istore_n 3, 1), (47, .iload 6, 2)]
theorem aJ_20_4 : sx_iB prog_6_method_6_code aI_20_4 = true := by decide +kernel
def aI_20_5 : sx_IL := [(49, .iload_n 3, 1), (50, .ixor, 1), (51, .istore 6, 2), (53, .iload 6, 2), (55, .bipush 16, 2), (57, .ishl, 1)]
theorem aJ_20_5 : sx_iB prog_6_method_6_code aI_20_5 = true := by decide +kernel
def aI_20_6 : sx_IL := [(58, .iload 6, 2), (60, .bipush 16, 2), (62, .iushr, 1), (63, .ior, 1), (64, .istore 6, 2), (66, .iload 5, 2)]
theorem aJ_20_6 : sx_iB prog_6_method_6_code aI_20_6 = true := by decide +kernel
def aI_20_7 : sx_IL := [(68, .iload 6, 2), (70, .iadd, 1), (71, .istore 5, 2), (73, .iload 4, 2), (75, .iload 5, 2), (77, .ixor, 1)]
theorem aJ_20_7 : sx_iB prog_6_method_6_code aI_20_7 = true := by decide +kernel
def aI_20_8 : sx_IL := [(78, .istore 4, 2), (80, .iload 4, 2), (82, .bipush 12, 2), (84, .ishl, 1), (85, .iload 4, 2), (87, .bipush 20, 2)]
theorem aJ_20_8 : sx_iB prog_6_method_6_code aI_20_8 = true := by decide +kernel
def aI_20_9 : sx_IL := [(89, .iushr, 1), (90, .ior, 1), (91, .istore 4, 2), (93, .iload_n 3, 1), (94, .iload 4, 2), (96, .iadd, 1)]
theorem aJ_20_9 : sx_iB prog_6_method_6_code aI_20_9 = true := by decide +kernel
def aI_20_10 : sx_IL := [(97, .istore_n 3, 1), (98, .iload 6, 2), (100, .iload_n 3, 1), (101, .ixor, 1), (102, .istore 6, 2), (104, .iload 6, 2)]
theorem aJ_20_10 : sx_iB prog_6_method_6_code aI_20_10 = true := by decide +kernel
def aI_20_11 : sx_IL := [(106, .bipush 8, 2), (108, .ishl, 1), (109, .iload 6, 2), (111, .bipush 24, 2), (113, .iushr, 1), (114, .ior, 1)]
theorem aJ_20_11 : sx_iB prog_6_method_6_code aI_20_11 = true := by decide +kernel
def aI_20_12 : sx_IL := [(115, .istore 6, 2), (117, .iload 5, 2), (119, .iload 6, 2), (121, .iadd, 1), (122, .istore 5, 2), (124, .iload 4, 2)]
theorem aJ_20_12 : sx_iB prog_6_method_6_code aI_20_12 = true := by decide +kernel
def aI_20_13 : sx_IL := [(126, .iload 5, 2), (128, .ixor, 1), (129, .istore 4, 2), (131, .iload 4, 2), (133, .bipush 7, 2), (135, .ishl, 1)]
theorem aJ_20_13 : sx_iB prog_6_method_6_code aI_20_13 = true := by decide +kernel
def aI_20_14 : sx_IL := [(136, .iload 4, 2), (138, .bipush 25, 2), (140, .iushr, 1), (141, .ior, 1), (142, .istore 4, 2), (144, .iload_n 3, 1)]
theorem aJ_20_14 : sx_iB prog_6_method_6_code aI_20_14 = true := by decide +kernel
def aI_20_15 : sx_IL := [(145, .iload 7, 2), (147, .ixor, 1), (148, .istore_n 3, 1), (149, .iinc 7 1, 3), (152, .goto (-117), 3), (155, .aload_n 0, 1)]
theorem aJ_20_15 : sx_iB prog_6_method_6_code aI_20_15 = true := by decide +kernel
def aI_20_16 : sx_IL := [(156, .iload_n 3, 1), (157, .putfield 7, 3), (160, .aload_n 0, 1), (161, .iload 4, 2), (163, .putfield 13, 3), (166, .aload_n 0, 1)]
theorem aJ_20_16 : sx_iB prog_6_method_6_code aI_20_16 = true := by decide +kernel
def aI_20_17 : sx_IL := [(167, .iload 5, 2), (169, .putfield 16, 3), (172, .aload_n 0, 1), (173, .iload 6, 2), (175, .putfield 19, 3), (178, .return_, 1)]
theorem aJ_20_17 : sx_iB prog_6_method_6_code aI_20_17 = true := by decide +kernel
def aI_21_0 : sx_IL := [(0, .aload_n 0, 1), (1, .aload_n 0, 1), (2, .getfield 25, 3), (5, .bipush 8, 2), (7, .lshl, 1), (8, .ldc2_w 35, 3)]
theorem aJ_21_0 : sx_iB prog_6_method_11_code aI_21_0 = true := by decide +kernel
def aI_21_1 : sx_IL := [(11, .lor, 1), (12, .bipush 8, 2), (14, .bipush 7, 2), (16, .aload_n 0, 1), (17, .getfield 22, 3), (20, .bipush 7, 2)]
theorem aJ_21_1 : sx_iB prog_6_method_11_code aI_21_1 = true := by decide +kernel
def aI_21_2 : sx_IL := [(22, .iand, 1), (23, .isub, 1), (24, .imul, 1), (25, .lshl, 1), (26, .invokevirtual 31, 3), (29, .aload_n 0, 1)]
theorem aJ_21_2 : sx_iB prog_6_method_11_code aI_21_2 = true := by decide +kernel
def aI_21_3 : sx_IL := [(30, .dup, 1), (31, .getfield 16, 3), (34, .aload_n 0, 1), (35, .getfield 22, 3), (38, .ixor, 1), (39, .putfield 16, 3)]
theorem aJ_21_3 : sx_iB prog_6_method_11_code aI_21_3 = true := by decide +kernel
def aI_21_4 : sx_IL := [(42, .aload_n 0, 1), (43, .lconst 0, 1), (44, .invokevirtual 31, 3), (47, .aload_n 0, 1), (48, .invokevirtual 37, 3), (51, .lreturn, 1)]
theorem aJ_21_4 : sx_iB prog_6_method_11_code aI_21_4 = true := by decide +kernel
def aI_22_0 : sx_IL := [(0, .aload_n 0, 1), (1, .getfield 7, 3), (4, .aload_n 0, 1), (5, .getfield 16, 3), (8, .ixor, 1), (9, .i2l, 1)]
theorem aJ_22_0 : sx_iB prog_6_method_7_code aI_22_0 = true := by decide +kernel
def aI_22_1 : sx_IL := [(10, .bipush 32, 2), (12, .lshl, 1), (13, .aload_n 0, 1), (14, .getfield 13, 3), (17, .aload_n 0, 1), (18, .getfield 19, 3)]
theorem aJ_22_1 : sx_iB prog_6_method_7_code aI_22_1 = true := by decide +kernel
def aI_22_2 : sx_IL := [(21, .ixor, 1), (22, .i2l, 1), (23, .ldc2_w 29, 3), (26, .land, 1), (27, .lor, 1), (28, .lreturn, 1)]
theorem aJ_22_2 : sx_iB prog_6_method_7_code aI_22_2 = true := by decide +kernel
def aI_23_0 : sx_IL := [(0, .aload_n 0, 1), (1, .iconst 0, 1), (2, .putfield 19, 3), (5, .return_, 1)]
theorem aJ_23_0 : sx_iB prog_9_method_2_code aI_23_0 = true := by decide +kernel
def aI_24_0 : sx_IL := [(0, .iload_n 1, 1), (1, .invokestatic 92, 3), (4, .ifCond .ne 7, 3), (7, .ldc2_w 96, 3), (10, .lreturn, 1), (11, .aload_n 0, 1)]
theorem aJ_24_0 : sx_iB prog_1_method_8_code aI_24_0 = true := by decide +kernel
def aI_24_1 : sx_IL := [(12, .getfield 10, 3), (15, .getfield 98, 3), (18, .iload_n 1, 1), (19, .lload_n 2, 1), (20, .aload_n 0, 1), (21, .getfield 21, 3)]
theorem aJ_24_1 : sx_iB prog_1_method_8_code aI_24_1 = true := by decide +kernel
def aI_24_2 : sx_IL := [(24, .getfield 80, 3), (27, .iconst 0, 1), (28, .aload_n 0, 1), (29, .getfield 21, 3), (32, .getfield 69, 3), (35, .invokevirtual 111, 3)]
theorem aJ_24_2 : sx_iB prog_1_method_8_code aI_24_2 = true := by decide +kernel
def aI_24_3 : sx_IL := [(38, .lstore 4, 2), (40, .aload_n 0, 1), (41, .getfield 21, 3), (44, .invokevirtual 108, 3), (47, .lload 4, 2), (49, .lreturn, 1)]
theorem aJ_24_3 : sx_iB prog_1_method_8_code aI_24_3 = true := by decide +kernel
def aI_25_0 : sx_IL := [(0, .aload_n 0, 1), (1, .iload_n 1, 1), (2, .lload_n 2, 1), (3, .invokevirtual 58, 3), (6, .aload_n 0, 1), (7, .aload 4, 2)]
theorem aJ_25_0 : sx_iB prog_6_method_15_code aI_25_0 = true := by decide +kernel
def aI_25_1 : sx_IL := [(9, .iload 5, 2), (11, .iload 6, 2), (13, .invokevirtual 45, 3), (16, .aload_n 0, 1), (17, .iload_n 1, 1), (18, .lload_n 2, 1)]
theorem aJ_25_1 : sx_iB prog_6_method_15_code aI_25_1 = true := by decide +kernel
def aI_25_2 : sx_IL := [(19, .aload_n 0, 1), (20, .invokevirtual 49, 3), (23, .invokevirtual 62, 3), (26, .lreturn, 1)]
theorem aJ_25_2 : sx_iB prog_6_method_15_code aI_25_2 = true := by decide +kernel
def aI_26_0 : sx_IL := [(0, .aload_n 0, 1), (1, .iload_n 1, 1), (2, .invokevirtual 41, 3), (5, .aload_n 0, 1), (6, .lload_n 2, 1), (7, .ldc2_w 56, 3)]
theorem aJ_26_0 : sx_iB prog_6_method_14_code aI_26_0 = true := by decide +kernel
def aI_26_1 : sx_IL := [(10, .lxor, 1), (11, .invokevirtual 31, 3), (14, .aload_n 0, 1), (15, .bipush 8, 2), (17, .putfield 22, 3), (20, .return_, 1)]
theorem aJ_26_1 : sx_iB prog_6_method_14_code aI_26_1 = true := by decide +kernel
def aI_27_0 : sx_IL := [(0, .aload_n 0, 1), (1, .iload_n 1, 1), (2, .invokevirtual 41, 3), (5, .aload_n 0, 1), (6, .lload_n 2, 1), (7, .ldc2_w 52, 3)]
theorem aJ_27_0 : sx_iB prog_6_method_13_code aI_27_0 = true := by decide +kernel
def aI_27_1 : sx_IL := [(10, .lxor, 1), (11, .invokevirtual 31, 3), (14, .aload_n 0, 1), (15, .lload 4, 2), (17, .invokevirtual 31, 3), (20, .aload_n 0, 1)]
theorem aJ_27_1 : sx_iB prog_6_method_13_code aI_27_1 = true := by decide +kernel
def aI_27_2 : sx_IL := [(21, .ldc2_w 54, 3), (24, .invokevirtual 31, 3), (27, .aload_n 0, 1), (28, .dup, 1), (29, .getfield 16, 3), (32, .bipush 16, 2)]
theorem aJ_27_2 : sx_iB prog_6_method_13_code aI_27_2 = true := by decide +kernel
def aI_27_3 : sx_IL := [(34, .ixor, 1), (35, .putfield 16, 3), (38, .aload_n 0, 1), (39, .lconst 0, 1), (40, .invokevirtual 31, 3), (43, .aload_n 0, 1)]
theorem aJ_27_3 : sx_iB prog_6_method_13_code aI_27_3 = true := by decide +kernel
def aI_27_4 : sx_IL := [(44, .invokevirtual 37, 3), (47, .lreturn, 1)]
theorem aJ_27_4 : sx_iB prog_6_method_13_code aI_27_4 = true := by decide +kernel
def aI_28_0 : sx_IL := [(0, .iload_n 1, 1), (1, .invokestatic 92, 3), (4, .ifCond .eq 16, 3), (7, .iload 4, 2), (9, .ifCond .lt 11, 3), (12, .iload 4, 2)]
theorem aJ_28_0 : sx_iB prog_1_method_9_code aI_28_0 = true := by decide +kernel
def aI_28_1 : sx_IL := [(14, .sipush 255, 3), (17, .if_icmp .le 7, 3), (20, .ldc2_w 96, 3), (23, .lreturn, 1), (24, .aload_n 0, 1), (25, .getfield 10, 3)]
theorem aJ_28_1 : sx_iB prog_1_method_9_code aI_28_1 = true := by decide +kernel
def aI_28_2 : sx_IL := [(28, .getfield 98, 3), (31, .iload_n 1, 1), (32, .lload_n 2, 1), (33, .iload 4, 2), (35, .lload 5, 2), (37, .invokevirtual 115, 3)]
theorem aJ_28_2 : sx_iB prog_1_method_9_code aI_28_2 = true := by decide +kernel
def aI_28_3 : sx_IL := [(40, .lreturn, 1)]
theorem aJ_28_3 : sx_iB prog_1_method_9_code aI_28_3 = true := by decide +kernel
def aI_29_0 : sx_IL := [(0, .aload_n 0, 1), (1, .iload_n 1, 1), (2, .lload_n 2, 1), (3, .invokevirtual 58, 3), (6, .aload_n 0, 1), (7, .iload 4, 2)]
theorem aJ_29_0 : sx_iB prog_6_method_17_code aI_29_0 = true := by decide +kernel
def aI_29_1 : sx_IL := [(9, .invokevirtual 69, 3), (12, .aload_n 0, 1), (13, .lload 5, 2), (15, .invokevirtual 66, 3), (18, .aload_n 0, 1), (19, .iload_n 1, 1)]
theorem aJ_29_1 : sx_iB prog_6_method_17_code aI_29_1 = true := by decide +kernel
def aI_29_2 : sx_IL := [(20, .lload_n 2, 1), (21, .aload_n 0, 1), (22, .invokevirtual 49, 3), (25, .invokevirtual 62, 3), (28, .lreturn, 1)]
theorem aJ_29_2 : sx_iB prog_6_method_17_code aI_29_2 = true := by decide +kernel
def aI_30_0 : sx_IL := [(0, .aload_n 0, 1), (1, .aload_n 0, 1), (2, .getfield 25, 3), (5, .bipush 8, 2), (7, .lshl, 1), (8, .iload_n 1, 1)]
theorem aJ_30_0 : sx_iB prog_6_method_8_code aI_30_0 = true := by decide +kernel
def aI_30_1 : sx_IL := [(9, .sipush 255, 3), (12, .iand, 1), (13, .i2l, 1), (14, .lor, 1), (15, .putfield 25, 3), (18, .aload_n 0, 1)]
theorem aJ_30_1 : sx_iB prog_6_method_8_code aI_30_1 = true := by decide +kernel
def aI_30_2 : sx_IL := [(19, .dup, 1), (20, .getfield 22, 3), (23, .iconst 1, 1), (24, .iadd, 1), (25, .putfield 22, 3), (28, .aload_n 0, 1)]
theorem aJ_30_2 : sx_iB prog_6_method_8_code aI_30_2 = true := by decide +kernel
def aI_30_3 : sx_IL := [(29, .getfield 22, 3), (32, .bipush 7, 2), (34, .iand, 1), (35, .ifCond .ne 11, 3), (38, .aload_n 0, 1), (39, .aload_n 0, 1)]
theorem aJ_30_3 : sx_iB prog_6_method_8_code aI_30_3 = true := by decide +kernel
def aI_30_4 : sx_IL := [(40, .getfield 25, 3), (43, .invokevirtual 31, 3), (46, .return_, 1)]
theorem aJ_30_4 : sx_iB prog_6_method_8_code aI_30_4 = true := by decide +kernel
def aI_31_0 : sx_IL := [(0, .bipush 8, 2), (2, .aload_n 0, 1), (3, .getfield 22, 3), (6, .bipush 7, 2), (8, .iand, 1), (9, .imul, 1)]
theorem aJ_31_0 : sx_iB prog_6_method_9_code aI_31_0 = true := by decide +kernel
def aI_31_1 : sx_IL := [(10, .istore_n 3, 1), (11, .aload_n 0, 1), (12, .iload_n 3, 1), (13, .ifCond .ne 7, 3), (16, .lload_n 1, 1), (17, .goto 16, 3)]
theorem aJ_31_1 : sx_iB prog_6_method_9_code aI_31_1 = true := by decide +kernel
def aI_31_2 : sx_IL := [(20, .aload_n 0, 1), (21, .getfield 25, 3), (24, .bipush 64, 2), (26, .iload_n 3, 1), (27, .isub, 1), (28, .lshl, 1)]
theorem aJ_31_2 : sx_iB prog_6_method_9_code aI_31_2 = true := by decide +kernel
def aI_31_3 : sx_IL := [(29, .lload_n 1, 1), (30, .iload_n 3, 1), (31, .lushr, 1), (32, .lor, 1), (33, .invokevirtual 31, 3), (36, .aload_n 0, 1)]
theorem aJ_31_3 : sx_iB prog_6_method_9_code aI_31_3 = true := by decide +kernel
def aI_31_4 : sx_IL := [(37, .lload_n 1, 1), (38, .putfield 25, 3), (41, .aload_n 0, 1), (42, .dup, 1), (43, .getfield 22, 3), (46, .bipush 8, 2)]
theorem aJ_31_4 : sx_iB prog_6_method_9_code aI_31_4 = true := by decide +kernel
def aI_31_5 : sx_IL := [(48, .iadd, 1), (49, .putfield 22, 3), (52, .return_, 1)]
theorem aJ_31_5 : sx_iB prog_6_method_9_code aI_31_5 = true := by decide +kernel
def aI_32_0 : sx_IL := [(0, .iload_n 1, 1), (1, .iconst 1, 1), (2, .if_icmp .lt 25, 3), (5, .iload_n 1, 1), (6, .iconst 3, 1), (7, .if_icmp .gt 20, 3)]
theorem aJ_32_0 : sx_iB prog_1_method_10_code aI_32_0 = true := by decide +kernel
def aI_32_1 : sx_IL := [(10, .iload 6, 2), (12, .ifCond .lt 15, 3), (15, .iload 6, 2), (17, .aload_n 0, 1), (18, .getfield 21, 3), (21, .getfield 69, 3)]
theorem aJ_32_1 : sx_iB prog_1_method_10_code aI_32_1 = true := by decide +kernel
def aI_32_2 : sx_IL := [(24, .if_icmp .le 5, 3), (27, .iconst (-1), 1), (28, .ireturn, 1), (29, .iload_n 1, 1), (30, .invokestatic 119, 3), (33, .istore 7, 2)]
theorem aJ_32_2 : sx_iB prog_1_method_10_code aI_32_2 = true := by decide +kernel
def aI_32_3 : sx_IL := [(35, .aload_n 0, 1), (36, .getfield 10, 3), (39, .getfield 98, 3), (42, .lload_n 2, 1), (43, .lload 4, 2), (45, .aload_n 0, 1)]
theorem aJ_32_3 : sx_iB prog_1_method_10_code aI_32_3 = true := by decide +kernel
def aI_32_4 : sx_IL := [(46, .getfield 21, 3), (49, .getfield 80, 3), (52, .iload 6, 2), (54, .aload_n 0, 1), (55, .getfield 21, 3), (58, .getfield 69, 3)]
theorem aJ_32_4 : sx_iB prog_1_method_10_code aI_32_4 = true := by decide +kernel
def aI_32_5 : sx_IL := [(61, .invokevirtual 122, 3), (64, .aload_n 0, 1), (65, .getfield 10, 3), (68, .getfield 98, 3), (71, .iload 7, 2), (73, .aload_n 0, 1)]
theorem aJ_32_5 : sx_iB prog_1_method_10_code aI_32_5 = true := by decide +kernel
def aI_32_6 : sx_IL := [(74, .getfield 10, 3), (77, .getfield 98, 3), (80, .iload 7, 2), (82, .lload_n 2, 1), (83, .bipush 116, 2), (85, .lload 4, 2)]
theorem aJ_32_6 : sx_iB prog_1_method_10_code aI_32_6 = true := by decide +kernel
def aI_32_7 : sx_IL := [(87, .invokevirtual 115, 3), (90, .aload_n 0, 1), (91, .getfield 21, 3), (94, .iload 6, 2), (96, .aload_n 0, 1), (97, .getfield 21, 3)]
theorem aJ_32_7 : sx_iB prog_1_method_10_code aI_32_7 = true := by decide +kernel
def aI_32_8 : sx_IL := [(100, .getfield 69, 3), (103, .invokevirtual 126, 3), (106, .lstore 8, 2), (108, .aload_n 0, 1), (109, .getfield 25, 3), (112, .invokevirtual 108, 3)]
theorem aJ_32_8 : sx_iB prog_1_method_10_code aI_32_8 = true := by decide +kernel
def aI_32_9 : sx_IL := [(115, .aload_n 0, 1), (116, .getfield 25, 3), (119, .aload_n 0, 1), (120, .getfield 21, 3), (123, .getfield 80, 3), (126, .iload 6, 2)]
theorem aJ_32_9 : sx_iB prog_1_method_10_code aI_32_9 = true := by decide +kernel
def aI_32_10 : sx_IL := [(128, .aload_n 0, 1), (129, .getfield 21, 3), (132, .getfield 69, 3), (135, .invokevirtual 83, 3), (138, .aload_n 0, 1), (139, .getfield 25, 3)]
theorem aJ_32_10 : sx_iB prog_1_method_10_code aI_32_10 = true := by decide +kernel
def aI_32_11 : sx_IL := [(142, .lload 8, 2), (144, .iload_n 1, 1), (145, .invokestatic 130, 3), (148, .invokevirtual 133, 3), (151, .aload_n 0, 1), (152, .getfield 21, 3)]
theorem aJ_32_11 : sx_iB prog_1_method_10_code aI_32_11 = true := by decide +kernel
def aI_32_12 : sx_IL := [(155, .invokevirtual 108, 3), (158, .aload_n 0, 1), (159, .getfield 25, 3), (162, .getfield 69, 3), (165, .ireturn, 1)]
theorem aJ_32_12 : sx_iB prog_1_method_10_code aI_32_12 = true := by decide +kernel
def aI_33_0 : sx_IL := [(0, .iload_n 0, 1), (1, .iconst 3, 1), (2, .if_icmp .ne 7, 3), (5, .iconst 1, 1), (6, .goto 4, 3), (9, .iconst 0, 1)]
theorem aJ_33_0 : sx_iB prog_6_method_2_code aI_33_0 = true := by decide +kernel
def aI_33_1 : sx_IL := [(10, .ireturn, 1)]
theorem aJ_33_1 : sx_iB prog_6_method_2_code aI_33_1 = true := by decide +kernel
def aI_34_0 : sx_IL := [(0, .iload 6, 2), (2, .ifCond .lt 11, 3), (5, .iload 7, 2), (7, .aload 5, 2), (9, .arraylength, 1), (10, .if_icmp .le 4, 3)]
theorem aJ_34_0 : sx_iB prog_6_method_18_code aI_34_0 = true := by decide +kernel
def aI_34_1 : sx_IL := [(13, .return_, 1), (14, .iload 6, 2), (16, .istore 8, 2), (18, .iload 8, 2), (20, .iload 7, 2), (22, .if_icmp .ge 95, 3)]
theorem aJ_34_1 : sx_iB prog_6_method_18_code aI_34_1 = true := by decide +kernel
def aI_34_2 : sx_IL := [(25, .iload 8, 2), (27, .iload 6, 2), (29, .isub, 1), (30, .bipush 7, 2), (32, .iand, 1), (33, .istore 9, 2)]
theorem aJ_34_2 : sx_iB prog_6_method_18_code aI_34_2 = true := by decide +kernel
def aI_34_3 : sx_IL := [(35, .iload 9, 2), (37, .ifCond .ne 48, 3), (40, .aload_n 0, 1), (41, .lload_n 1, 1), (42, .bipush 32, 2), (44, .lushr, 1)]
theorem aJ_34_3 : sx_iB prog_6_method_18_code aI_34_3 = true := by decide +kernel
def aI_34_4 : sx_IL := [(45, .l2i, 1), (46, .putfield 7, 3), (49, .aload_n 0, 1), (50, .lload_n 1, 1), (51, .l2i, 1), (52, .putfield 13, 3)]
theorem aJ_34_4 : sx_iB prog_6_method_18_code aI_34_4 = true := by decide +kernel
def aI_34_5 : sx_IL := [(55, .aload_n 0, 1), (56, .lload_n 3, 1), (57, .l2i, 1), (58, .putfield 16, 3), (61, .aload_n 0, 1), (62, .iload 8, 2)]
theorem aJ_34_5 : sx_iB prog_6_method_18_code aI_34_5 = true := by decide +kernel
def aI_34_6 : sx_IL := [(64, .iload 6, 2), (66, .isub, 1), (67, .iconst 3, 1), (68, .iushr, 1), (69, .putfield 19, 3), (72, .aload_n 0, 1)]
theorem aJ_34_6 : sx_iB prog_6_method_18_code aI_34_6 = true := by decide +kernel
def aI_34_7 : sx_IL := [(73, .lconst 0, 1), (74, .invokevirtual 31, 3), (77, .aload_n 0, 1), (78, .aload_n 0, 1), (79, .invokevirtual 37, 3), (82, .putfield 25, 3)]
theorem aJ_34_7 : sx_iB prog_6_method_18_code aI_34_7 = true := by decide +kernel
def aI_34_8 : sx_IL := [(85, .aload 5, 2), (87, .iload 8, 2), (89, .dup2, 1), (90, .iaload, 1), (91, .aload_n 0, 1), (92, .getfield 25, 3)]
theorem aJ_34_8 : sx_iB prog_6_method_18_code aI_34_8 = true := by decide +kernel
def aI_34_9 : sx_IL := [(95, .bipush 56, 2), (97, .bipush 8, 2), (99, .iload 9, 2), (101, .imul, 1), (102, .isub, 1), (103, .lushr, 1)]
theorem aJ_34_9 : sx_iB prog_6_method_18_code aI_34_9 = true := by decide +kernel
def aI_34_10 : sx_IL := [(104, .l2i, 1), (105, .sipush 255, 3), (108, .iand, 1), (109, .ixor, 1), (110, .iastore, 1), (111, .iinc 8 1, 3)]
theorem aJ_34_10 : sx_iB prog_6_method_18_code aI_34_10 = true := by decide +kernel
def aI_34_11 : sx_IL := [(114, .goto (-96), 3), (117, .return_, 1)]
theorem aJ_34_11 : sx_iB prog_6_method_18_code aI_34_11 = true := by decide +kernel
def aI_35_0 : sx_IL := [(0, .aload_n 0, 1), (1, .iload_n 1, 1), (2, .lload_n 2, 1), (3, .invokevirtual 58, 3), (6, .aload_n 0, 1), (7, .aload 4, 2)]
theorem aJ_35_0 : sx_iB prog_6_method_19_code aI_35_0 = true := by decide +kernel
def aI_35_1 : sx_IL := [(9, .getfield 72, 3), (12, .iconst 0, 1), (13, .iload 6, 2), (15, .invokevirtual 45, 3), (18, .bipush 24, 2), (20, .istore 7, 2)]
theorem aJ_35_1 : sx_iB prog_6_method_19_code aI_35_1 = true := by decide +kernel
def aI_35_2 : sx_IL := [(22, .iload 7, 2), (24, .ifCond .lt 18, 3), (27, .aload_n 0, 1), (28, .iload 5, 2), (30, .iload 7, 2), (32, .iushr, 1)]
theorem aJ_35_2 : sx_iB prog_6_method_19_code aI_35_2 = true := by decide +kernel
def aI_35_3 : sx_IL := [(33, .invokevirtual 69, 3), (36, .iinc 7 (-8), 3), (39, .goto (-17), 3), (42, .aload_n 0, 1), (43, .iload_n 1, 1), (44, .lload_n 2, 1)]
theorem aJ_35_3 : sx_iB prog_6_method_19_code aI_35_3 = true := by decide +kernel
def aI_35_4 : sx_IL := [(45, .aload_n 0, 1), (46, .invokevirtual 49, 3), (49, .invokevirtual 62, 3), (52, .lreturn, 1)]
theorem aJ_35_4 : sx_iB prog_6_method_19_code aI_35_4 = true := by decide +kernel
def aI_36_0 : sx_IL := [(0, .iload_n 0, 1), (1, .iconst 2, 1), (2, .if_icmp .ne 7, 3), (5, .iconst 4, 1), (6, .goto 5, 3), (9, .bipush 8, 2)]
theorem aJ_36_0 : sx_iB prog_6_method_3_code aI_36_0 = true := by decide +kernel
def aI_36_1 : sx_IL := [(11, .ireturn, 1)]
theorem aJ_36_1 : sx_iB prog_6_method_3_code aI_36_1 = true := by decide +kernel
def aI_37_0 : sx_IL := [(0, .iconst 0, 1), (1, .istore 4, 2), (3, .iload 4, 2), (5, .iload_n 3, 1), (6, .if_icmp .ge 31, 3), (9, .iload 4, 2)]
theorem aJ_37_0 : sx_iB prog_9_method_11_code aI_37_0 = true := by decide +kernel
def aI_37_1 : sx_IL := [(11, .bipush 8, 2), (13, .if_icmp .ge 24, 3), (16, .aload_n 0, 1), (17, .lload_n 1, 1), (18, .bipush 56, 2), (20, .bipush 8, 2)]
theorem aJ_37_1 : sx_iB prog_9_method_11_code aI_37_1 = true := by decide +kernel
def aI_37_2 : sx_IL := [(22, .iload 4, 2), (24, .imul, 1), (25, .isub, 1), (26, .lushr, 1), (27, .l2i, 1), (28, .invokevirtual 39, 3)]
theorem aJ_37_2 : sx_iB prog_9_method_11_code aI_37_2 = true := by decide +kernel
def aI_37_3 : sx_IL := [(31, .iinc 4 1, 3), (34, .goto (-31), 3), (37, .return_, 1)]
theorem aJ_37_3 : sx_iB prog_9_method_11_code aI_37_3 = true := by decide +kernel
def aI_38_0 : sx_IL := [(0, .iload_n 1, 1), (1, .iconst 1, 1), (2, .if_icmp .lt 25, 3), (5, .iload_n 1, 1), (6, .iconst 3, 1), (7, .if_icmp .gt 20, 3)]
theorem aJ_38_0 : sx_iB prog_1_method_11_code aI_38_0 = true := by decide +kernel
def aI_38_1 : sx_IL := [(10, .iload 6, 2), (12, .ifCond .lt 15, 3), (15, .iload 6, 2), (17, .aload_n 0, 1), (18, .getfield 21, 3), (21, .getfield 69, 3)]
theorem aJ_38_1 : sx_iB prog_1_method_11_code aI_38_1 = true := by decide +kernel
def aI_38_2 : sx_IL := [(24, .if_icmp .le 5, 3), (27, .iconst (-1), 1), (28, .ireturn, 1), (29, .aload_n 0, 1), (30, .getfield 10, 3), (33, .getfield 98, 3)]
theorem aJ_38_2 : sx_iB prog_1_method_11_code aI_38_2 = true := by decide +kernel
def aI_38_3 : sx_IL := [(36, .iload_n 1, 1), (37, .lload_n 2, 1), (38, .lload 4, 2), (40, .aload_n 0, 1), (41, .getfield 21, 3), (44, .iload 6, 2)]
theorem aJ_38_3 : sx_iB prog_1_method_11_code aI_38_3 = true := by decide +kernel
def aI_38_4 : sx_IL := [(46, .invokevirtual 137, 3), (49, .istore 7, 2), (51, .iload 7, 2), (53, .ifCond .eq 33, 3), (56, .aload_n 0, 1), (57, .getfield 25, 3)]
theorem aJ_38_4 : sx_iB prog_1_method_11_code aI_38_4 = true := by decide +kernel
def aI_38_5 : sx_IL := [(60, .invokevirtual 108, 3), (63, .aload_n 0, 1), (64, .getfield 25, 3), (67, .aload_n 0, 1), (68, .getfield 21, 3), (71, .getfield 80, 3)]
theorem aJ_38_5 : sx_iB prog_1_method_11_code aI_38_5 = true := by decide +kernel
def aI_38_6 : sx_IL := [(74, .iload 6, 2), (76, .aload_n 0, 1), (77, .getfield 21, 3), (80, .getfield 69, 3), (83, .invokevirtual 83, 3), (86, .aload_n 0, 1)]
theorem aJ_38_6 : sx_iB prog_1_method_11_code aI_38_6 = true := by decide +kernel
def aI_38_7 : sx_IL := [(87, .getfield 21, 3), (90, .invokevirtual 108, 3), (93, .iload 7, 2), (95, .ifCond .eq 7, 3), (98, .iconst 1, 1), (99, .goto 4, 3)]
theorem aJ_38_7 : sx_iB prog_1_method_11_code aI_38_7 = true := by decide +kernel
def aI_38_8 : sx_IL := [(102, .iconst 0, 1), (103, .ireturn, 1)]
theorem aJ_38_8 : sx_iB prog_1_method_11_code aI_38_8 = true := by decide +kernel
def aI_39_0 : sx_IL := [(0, .iload_n 1, 1), (1, .invokestatic 78, 3), (4, .istore 8, 2), (6, .aload 6, 2), (8, .getfield 82, 3), (11, .iload 8, 2)]
theorem aJ_39_0 : sx_iB prog_6_method_20_code aI_39_0 = true := by decide +kernel
def aI_39_1 : sx_IL := [(13, .isub, 1), (14, .istore 9, 2), (16, .iload 7, 2), (18, .ifCond .lt 10, 3), (21, .iload 9, 2), (23, .iload 7, 2)]
theorem aJ_39_1 : sx_iB prog_6_method_20_code aI_39_1 = true := by decide +kernel
def aI_39_2 : sx_IL := [(25, .if_icmp .ge 5, 3), (28, .iconst 0, 1), (29, .ireturn, 1), (30, .iload_n 1, 1), (31, .invokestatic 85, 3), (34, .istore 10, 2)]
theorem aJ_39_2 : sx_iB prog_6_method_20_code aI_39_2 = true := by decide +kernel
def aI_39_3 : sx_IL := [(36, .aload_n 0, 1), (37, .iload 10, 2), (39, .aload_n 0, 1), (40, .iload 10, 2), (42, .lload_n 2, 1), (43, .bipush 116, 2)]
theorem aJ_39_3 : sx_iB prog_6_method_20_code aI_39_3 = true := by decide +kernel
def aI_39_4 : sx_IL := [(45, .lload 4, 2), (47, .invokevirtual 88, 3), (50, .aload 6, 2), (52, .iload 7, 2), (54, .iload 9, 2), (56, .invokevirtual 92, 3)]
theorem aJ_39_4 : sx_iB prog_6_method_20_code aI_39_4 = true := by decide +kernel
def aI_39_5 : sx_IL := [(59, .lstore 11, 2), (61, .iconst 0, 1), (62, .istore 13, 2), (64, .iload 13, 2), (66, .iload 8, 2), (68, .if_icmp .ge 40, 3)]
theorem aJ_39_5 : sx_iB prog_6_method_20_code aI_39_5 = true := by decide +kernel
def aI_39_6 : sx_IL := [(71, .aload 6, 2), (73, .iload 9, 2), (75, .iload 13, 2), (77, .iadd, 1), (78, .invokevirtual 96, 3), (81, .lload 11, 2)]
theorem aJ_39_6 : sx_iB prog_6_method_20_code aI_39_6 = true := by decide +kernel
def aI_39_7 : sx_IL := [(83, .bipush 56, 2), (85, .bipush 8, 2), (87, .iload 13, 2), (89, .imul, 1), (90, .isub, 1), (91, .lushr, 1)]
theorem aJ_39_7 : sx_iB prog_6_method_20_code aI_39_7 = true := by decide +kernel
def aI_39_8 : sx_IL := [(92, .l2i, 1), (93, .sipush 255, 3), (96, .iand, 1), (97, .if_icmp .eq 5, 3), (100, .iconst 0, 1), (101, .ireturn, 1)]
theorem aJ_39_8 : sx_iB prog_6_method_20_code aI_39_8 = true := by decide +kernel
def aI_39_9 : sx_IL := [(102, .iinc 13 1, 3), (105, .goto (-41), 3), (108, .aload 6, 2), (110, .iload 9, 2), (112, .putfield 82, 3), (115, .aload_n 0, 1)]
theorem aJ_39_9 : sx_iB prog_6_method_20_code aI_39_9 = true := by decide +kernel
def aI_39_10 : sx_IL := [(116, .lload_n 2, 1), (117, .lload 4, 2), (119, .aload 6, 2), (121, .getfield 72, 3), (124, .iload 7, 2), (126, .iload 9, 2)]
theorem aJ_39_10 : sx_iB prog_6_method_20_code aI_39_10 = true := by decide +kernel
def aI_39_11 : sx_IL := [(128, .invokevirtual 99, 3), (131, .iconst 1, 1), (132, .ireturn, 1)]
theorem aJ_39_11 : sx_iB prog_6_method_20_code aI_39_11 = true := by decide +kernel
def aI_40_0 : sx_IL := [(0, .iload_n 1, 1), (1, .iconst 1, 1), (2, .if_icmp .lt 12, 3), (5, .iload_n 1, 1), (6, .iconst 3, 1), (7, .if_icmp .gt 7, 3)]
theorem aJ_40_0 : sx_iB prog_1_method_12_code aI_40_0 = true := by decide +kernel
def aI_40_1 : sx_IL := [(10, .iload_n 2, 1), (11, .ifCond .ge 5, 3), (14, .iconst (-1), 1), (15, .ireturn, 1), (16, .aload_n 0, 1), (17, .getfield 10, 3)]
theorem aJ_40_1 : sx_iB prog_1_method_12_code aI_40_1 = true := by decide +kernel
def aI_40_2 : sx_IL := [(20, .getfield 98, 3), (23, .iload_n 1, 1), (24, .iload_n 2, 1), (25, .invokevirtual 141, 3), (28, .ireturn, 1)]
theorem aJ_40_2 : sx_iB prog_1_method_12_code aI_40_2 = true := by decide +kernel
def aI_41_0 : sx_IL := [(0, .iload_n 1, 1), (1, .invokestatic 109, 3), (4, .ifCond .eq 25, 3), (7, .getstatic 113, 3), (10, .iload_n 1, 1), (11, .iconst 1, 1)]
theorem aJ_41_0 : sx_iB prog_6_method_22_code aI_41_0 = true := by decide +kernel
def aI_41_1 : sx_IL := [(12, .isub, 1), (13, .iaload, 1), (14, .i2l, 1), (15, .iload_n 2, 1), (16, .getstatic 116, 3), (19, .iload_n 1, 1)]
theorem aJ_41_1 : sx_iB prog_6_method_22_code aI_41_1 = true := by decide +kernel
def aI_41_2 : sx_IL := [(20, .iconst 1, 1), (21, .isub, 1), (22, .iaload, 1), (23, .invokestatic 119, 3), (26, .goto 4, 3), (29, .iconst 0, 1)]
theorem aJ_41_2 : sx_iB prog_6_method_22_code aI_41_2 = true := by decide +kernel
def aI_41_3 : sx_IL := [(30, .ireturn, 1)]
theorem aJ_41_3 : sx_iB prog_6_method_22_code aI_41_3 = true := by decide +kernel
def aI_42_0 : sx_IL := [(0, .iload_n 0, 1), (1, .iconst 1, 1), (2, .if_icmp .lt 12, 3), (5, .iload_n 0, 1), (6, .iconst 3, 1), (7, .if_icmp .gt 7, 3)]
theorem aJ_42_0 : sx_iB prog_6_method_23_code aI_42_0 = true := by decide +kernel
def aI_42_1 : sx_IL := [(10, .iconst 1, 1), (11, .goto 4, 3), (14, .iconst 0, 1), (15, .ireturn, 1)]
theorem aJ_42_1 : sx_iB prog_6_method_23_code aI_42_1 = true := by decide +kernel
def aI_43_0 : sx_IL := [(0, .iload_n 3, 1), (1, .iconst 2, 1), (2, .invokestatic 103, 3), (5, .istore 4, 2), (7, .lconst 1, 1), (8, .lstore 5, 2)]
theorem aJ_43_0 : sx_iB prog_6_method_21_code aI_43_0 = true := by decide +kernel
def aI_43_1 : sx_IL := [(10, .lload_n 0, 1), (11, .lstore 7, 2), (13, .iconst 0, 1), (14, .istore 9, 2), (16, .iload 9, 2), (18, .bipush 31, 2)]
theorem aJ_43_1 : sx_iB prog_6_method_21_code aI_43_1 = true := by decide +kernel
def aI_43_2 : sx_IL := [(20, .if_icmp .ge 48, 3), (23, .iload_n 2, 1), (24, .iload 9, 2), (26, .iushr, 1), (27, .ifCond .eq 41, 3), (30, .iload_n 2, 1)]
theorem aJ_43_2 : sx_iB prog_6_method_21_code aI_43_2 = true := by decide +kernel
def aI_43_3 : sx_IL := [(31, .iload 9, 2), (33, .iushr, 1), (34, .iconst 1, 1), (35, .iand, 1), (36, .iconst 1, 1), (37, .if_icmp .ne 14, 3)]
theorem aJ_43_3 : sx_iB prog_6_method_21_code aI_43_3 = true := by decide +kernel
def aI_43_4 : sx_IL := [(40, .lload 5, 2), (42, .lload 7, 2), (44, .lmul, 1), (45, .iload 4, 2), (47, .i2l, 1), (48, .lrem, 1)]
theorem aJ_43_4 : sx_iB prog_6_method_21_code aI_43_4 = true := by decide +kernel
def aI_43_5 : sx_IL := [(49, .lstore 5, 2), (51, .lload 7, 2), (53, .lload 7, 2), (55, .lmul, 1), (56, .iload 4, 2), (58, .i2l, 1)]
theorem aJ_43_5 : sx_iB prog_6_method_21_code aI_43_5 = true := by decide +kernel
def aI_43_6 : sx_IL := [(59, .lrem, 1), (60, .lstore 7, 2), (62, .iinc 9 1, 3), (65, .goto (-49), 3), (68, .lload 5, 2), (70, .l2i, 1)]
theorem aJ_43_6 : sx_iB prog_6_method_21_code aI_43_6 = true := by decide +kernel
def aI_43_7 : sx_IL := [(71, .ireturn, 1)]
theorem aJ_43_7 : sx_iB prog_6_method_21_code aI_43_7 = true := by decide +kernel
def aI_44_0 : sx_IL := [(0, .iload_n 1, 1), (1, .iconst 1, 1), (2, .if_icmp .lt 12, 3), (5, .iload_n 1, 1), (6, .iconst 3, 1), (7, .if_icmp .gt 7, 3)]
theorem aJ_44_0 : sx_iB prog_1_method_13_code aI_44_0 = true := by decide +kernel
def aI_44_1 : sx_IL := [(10, .iload_n 2, 1), (11, .ifCond .ge 7, 3), (14, .ldc2_w 96, 3), (17, .lreturn, 1), (18, .aload_n 0, 1), (19, .getfield 10, 3)]
theorem aJ_44_1 : sx_iB prog_1_method_13_code aI_44_1 = true := by decide +kernel
def aI_44_2 : sx_IL := [(22, .getfield 98, 3), (25, .iload_n 1, 1), (26, .iload_n 2, 1), (27, .iload_n 3, 1), (28, .invokevirtual 145, 3), (31, .lreturn, 1)]
theorem aJ_44_2 : sx_iB prog_1_method_13_code aI_44_2 = true := by decide +kernel
def aI_45_0 : sx_IL := [(0, .iload_n 1, 1), (1, .invokestatic 109, 3), (4, .ifCond .ne 5, 3), (7, .lconst 0, 1), (8, .lreturn, 1), (9, .getstatic 116, 3)]
theorem aJ_45_0 : sx_iB prog_6_method_24_code aI_45_0 = true := by decide +kernel
def aI_45_1 : sx_IL := [(12, .iload_n 1, 1), (13, .iconst 1, 1), (14, .isub, 1), (15, .iaload, 1), (16, .istore 4, 2), (18, .iload_n 3, 1)]
theorem aJ_45_1 : sx_iB prog_6_method_24_code aI_45_1 = true := by decide +kernel
def aI_45_2 : sx_IL := [(19, .iconst 2, 1), (20, .if_icmp .lt 11, 3), (23, .iload_n 3, 1), (24, .iload 4, 2), (26, .iconst 2, 1), (27, .isub, 1)]
theorem aJ_45_2 : sx_iB prog_6_method_24_code aI_45_2 = true := by decide +kernel
def aI_45_3 : sx_IL := [(28, .if_icmp .le 5, 3), (31, .lconst 0, 1), (32, .lreturn, 1), (33, .iload_n 3, 1), (34, .i2l, 1), (35, .iload_n 2, 1)]
theorem aJ_45_3 : sx_iB prog_6_method_24_code aI_45_3 = true := by decide +kernel
def aI_45_4 : sx_IL := [(36, .iload 4, 2), (38, .invokestatic 119, 3), (41, .istore 5, 2), (43, .iload 5, 2), (45, .iconst 2, 1), (46, .if_icmp .lt 12, 3)]
theorem aJ_45_4 : sx_iB prog_6_method_24_code aI_45_4 = true := by decide +kernel
def aI_45_5 : sx_IL := [(49, .iload 5, 2), (51, .iload 4, 2), (53, .iconst 2, 1), (54, .isub, 1), (55, .if_icmp .le 7, 3), (58, .lconst 0, 1)]
theorem aJ_45_5 : sx_iB prog_6_method_24_code aI_45_5 = true := by decide +kernel
def aI_45_6 : sx_IL := [(59, .goto 6, 3), (62, .iload 5, 2), (64, .i2l, 1), (65, .lreturn, 1)]
theorem aJ_45_6 : sx_iB prog_6_method_24_code aI_45_6 = true := by decide +kernel
def aI_46_0 : sx_IL := [(0, .iload_n 1, 1), (1, .invokestatic 149, 3), (4, .ifCond .eq 17, 3), (7, .aload_n 0, 1), (8, .getfield 10, 3), (11, .getfield 98, 3)]
theorem aJ_46_0 : sx_iB prog_1_method_14_code aI_46_0 = true := by decide +kernel
def aI_46_1 : sx_IL := [(14, .iload_n 1, 1), (15, .invokevirtual 152, 3), (18, .goto 4, 3), (21, .iconst (-1), 1), (22, .ireturn, 1)]
theorem aJ_46_1 : sx_iB prog_1_method_14_code aI_46_1 = true := by decide +kernel
def aI_47_0 : sx_IL := [(0, .iload_n 0, 1), (1, .iconst 1, 1), (2, .if_icmp .lt 13, 3), (5, .iload_n 0, 1), (6, .ldc 166, 2), (8, .if_icmp .ge 7, 3)]
theorem aJ_47_0 : sx_iB prog_1_method_19_code aI_47_0 = true := by decide +kernel
def aI_47_1 : sx_IL := [(11, .iconst 1, 1), (12, .goto 4, 3), (15, .iconst 0, 1), (16, .ireturn, 1)]
theorem aJ_47_1 : sx_iB prog_1_method_19_code aI_47_1 = true := by decide +kernel
def aI_48_0 : sx_IL := [(0, .ldc2_w 123, 3), (3, .iload_n 1, 1), (4, .ldc 125, 2), (6, .invokestatic 119, 3), (9, .ireturn, 1)]
theorem aJ_48_0 : sx_iB prog_6_method_25_code aI_48_0 = true := by decide +kernel
def aI_49_0 : sx_IL := [(0, .iload_n 1, 1), (1, .invokestatic 155, 3), (4, .ifCond .eq 10, 3), (7, .iload_n 2, 1), (8, .invokestatic 149, 3), (11, .ifCond .ne 7, 3)]
theorem aJ_49_0 : sx_iB prog_1_method_15_code aI_49_0 = true := by decide +kernel
def aI_49_1 : sx_IL := [(14, .ldc2_w 96, 3), (17, .lreturn, 1), (18, .aload_n 0, 1), (19, .getfield 10, 3), (22, .getfield 98, 3), (25, .iload_n 1, 1)]
theorem aJ_49_1 : sx_iB prog_1_method_15_code aI_49_1 = true := by decide +kernel
def aI_49_2 : sx_IL := [(26, .iload_n 2, 1), (27, .aload_n 0, 1), (28, .getfield 21, 3), (31, .getfield 80, 3), (34, .iconst 0, 1), (35, .aload_n 0, 1)]
theorem aJ_49_2 : sx_iB prog_1_method_15_code aI_49_2 = true := by decide +kernel
def aI_49_3 : sx_IL := [(36, .getfield 21, 3), (39, .getfield 69, 3), (42, .invokevirtual 158, 3), (45, .lstore_n 3, 1), (46, .aload_n 0, 1), (47, .getfield 21, 3)]
theorem aJ_49_3 : sx_iB prog_1_method_15_code aI_49_3 = true := by decide +kernel
def aI_49_4 : sx_IL := [(50, .invokevirtual 108, 3), (53, .lload_n 3, 1), (54, .lreturn, 1)]
theorem aJ_49_4 : sx_iB prog_1_method_15_code aI_49_4 = true := by decide +kernel
def aI_50_0 : sx_IL := [(0, .iload_n 0, 1), (1, .iconst 1, 1), (2, .if_icmp .eq 8, 3), (5, .iload_n 0, 1), (6, .iconst 2, 1), (7, .if_icmp .ne 7, 3)]
theorem aJ_50_0 : sx_iB prog_1_method_18_code aI_50_0 = true := by decide +kernel
def aI_50_1 : sx_IL := [(10, .iconst 1, 1), (11, .goto 4, 3), (14, .iconst 0, 1), (15, .ireturn, 1)]
theorem aJ_50_1 : sx_iB prog_1_method_18_code aI_50_1 = true := by decide +kernel
def aI_51_0 : sx_IL := [(0, .aload_n 0, 1), (1, .iload_n 1, 1), (2, .iconst 1, 1), (3, .isub, 1), (4, .iload_n 2, 1), (5, .i2l, 1)]
theorem aJ_51_0 : sx_iB prog_6_method_27_code aI_51_0 = true := by decide +kernel
def aI_51_1 : sx_IL := [(6, .aload_n 3, 1), (7, .iload 4, 2), (9, .iload 5, 2), (11, .invokevirtual 127, 3), (14, .invokestatic 131, 3), (17, .istore 6, 2)]
theorem aJ_51_1 : sx_iB prog_6_method_27_code aI_51_1 = true := by decide +kernel
def aI_51_2 : sx_IL := [(19, .iconst 1, 1), (20, .iload 6, 2), (22, .ldc 135, 2), (24, .irem, 1), (25, .iadd, 1), (26, .istore 7, 2)]
theorem aJ_51_2 : sx_iB prog_6_method_27_code aI_51_2 = true := by decide +kernel
def aI_51_3 : sx_IL := [(28, .aload_n 0, 1), (29, .iload_n 1, 1), (30, .iconst 1, 1), (31, .isub, 1), (32, .invokevirtual 41, 3), (35, .aload_n 0, 1)]
theorem aJ_51_3 : sx_iB prog_6_method_27_code aI_51_3 = true := by decide +kernel
def aI_51_4 : sx_IL := [(36, .ldc2_w 123, 3), (39, .iload 7, 2), (41, .ldc 125, 2), (43, .invokestatic 119, 3), (46, .i2l, 1), (47, .bipush 32, 2)]
theorem aJ_51_4 : sx_iB prog_6_method_27_code aI_51_4 = true := by decide +kernel
def aI_51_5 : sx_IL := [(49, .lshl, 1), (50, .aload_n 0, 1), (51, .iload_n 2, 1), (52, .invokevirtual 136, 3), (55, .i2l, 1), (56, .lor, 1)]
theorem aJ_51_5 : sx_iB prog_6_method_27_code aI_51_5 = true := by decide +kernel
def aI_51_6 : sx_IL := [(57, .invokevirtual 66, 3), (60, .aload_n 0, 1), (61, .aload_n 3, 1), (62, .iload 4, 2), (64, .iload 5, 2), (66, .invokevirtual 45, 3)]
theorem aJ_51_6 : sx_iB prog_6_method_27_code aI_51_6 = true := by decide +kernel
def aI_51_7 : sx_IL := [(69, .aload_n 0, 1), (70, .invokevirtual 49, 3), (73, .invokestatic 131, 3), (76, .ldc 139, 2), (78, .irem, 1), (79, .istore 8, 2)]
theorem aJ_51_7 : sx_iB prog_6_method_27_code aI_51_7 = true := by decide +kernel
def aI_51_8 : sx_IL := [(81, .iload 7, 2), (83, .i2l, 1), (84, .iload 8, 2), (86, .i2l, 1), (87, .iload_n 2, 1), (88, .i2l, 1)]
theorem aJ_51_8 : sx_iB prog_6_method_27_code aI_51_8 = true := by decide +kernel
def aI_51_9 : sx_IL := [(89, .lmul, 1), (90, .ladd, 1), (91, .ldc2_w 140, 3), (94, .lrem, 1), (95, .lstore 9, 2), (97, .iload 8, 2)]
theorem aJ_51_9 : sx_iB prog_6_method_27_code aI_51_9 = true := by decide +kernel
def aI_51_10 : sx_IL := [(99, .i2l, 1), (100, .bipush 32, 2), (102, .lshl, 1), (103, .lload 9, 2), (105, .lor, 1), (106, .lreturn, 1)]
theorem aJ_51_10 : sx_iB prog_6_method_27_code aI_51_10 = true := by decide +kernel
def aI_52_0 : sx_IL := [(0, .lload_n 0, 1), (1, .bipush 32, 2), (3, .lushr, 1), (4, .l2i, 1), (5, .ldc 126, 2), (7, .iand, 1)]
theorem aJ_52_0 : sx_iB prog_6_method_26_code aI_52_0 = true := by decide +kernel
def aI_52_1 : sx_IL := [(8, .ireturn, 1)]
theorem aJ_52_1 : sx_iB prog_6_method_26_code aI_52_1 = true := by decide +kernel
def aI_53_0 : sx_IL := [(0, .iload_n 1, 1), (1, .invokestatic 155, 3), (4, .ifCond .ne 5, 3), (7, .iconst (-1), 1), (8, .ireturn, 1), (9, .aload_n 0, 1)]
theorem aJ_53_0 : sx_iB prog_1_method_16_code aI_53_0 = true := by decide +kernel
def aI_53_1 : sx_IL := [(10, .getfield 10, 3), (13, .getfield 98, 3), (16, .iload_n 1, 1), (17, .iload_n 2, 1), (18, .lload_n 3, 1), (19, .aload_n 0, 1)]
theorem aJ_53_1 : sx_iB prog_1_method_16_code aI_53_1 = true := by decide +kernel
def aI_53_2 : sx_IL := [(20, .getfield 21, 3), (23, .getfield 80, 3), (26, .iconst 0, 1), (27, .aload_n 0, 1), (28, .getfield 21, 3), (31, .getfield 69, 3)]
theorem aJ_53_2 : sx_iB prog_1_method_16_code aI_53_2 = true := by decide +kernel
def aI_53_3 : sx_IL := [(34, .invokevirtual 162, 3), (37, .istore 5, 2), (39, .aload_n 0, 1), (40, .getfield 21, 3), (43, .invokevirtual 108, 3), (46, .iload 5, 2)]
theorem aJ_53_3 : sx_iB prog_1_method_16_code aI_53_3 = true := by decide +kernel
def aI_53_4 : sx_IL := [(48, .ifCond .eq 7, 3), (51, .iconst 1, 1), (52, .goto 4, 3), (55, .iconst 0, 1), (56, .ireturn, 1)]
theorem aJ_53_4 : sx_iB prog_1_method_16_code aI_53_4 = true := by decide +kernel
def aI_54_0 : sx_IL := [(0, .lload_n 3, 1), (1, .bipush 32, 2), (3, .lushr, 1), (4, .l2i, 1), (5, .istore 8, 2), (7, .lload_n 3, 1)]
theorem aJ_54_0 : sx_iB prog_6_method_28_code aI_54_0 = true := by decide +kernel
def aI_54_1 : sx_IL := [(8, .l2i, 1), (9, .istore 9, 2), (11, .iload_n 2, 1), (12, .iconst 2, 1), (13, .if_icmp .lt 46, 3), (16, .iload_n 2, 1)]
theorem aJ_54_1 : sx_iB prog_6_method_28_code aI_54_1 = true := by decide +kernel
def aI_54_2 : sx_IL := [(17, .ldc 142, 2), (19, .if_icmp .gt 40, 3), (22, .iload 8, 2), (24, .ifCond .lt 35, 3), (27, .iload 8, 2), (29, .ldc 139, 2)]
theorem aJ_54_2 : sx_iB prog_6_method_28_code aI_54_2 = true := by decide +kernel
def aI_54_3 : sx_IL := [(31, .if_icmp .ge 28, 3), (34, .iload 9, 2), (36, .ifCond .lt 23, 3), (39, .iload 9, 2), (41, .ldc 139, 2), (43, .if_icmp .ge 16, 3)]
theorem aJ_54_3 : sx_iB prog_6_method_28_code aI_54_3 = true := by decide +kernel
def aI_54_4 : sx_IL := [(46, .iload_n 2, 1), (47, .i2l, 1), (48, .ldc 139, 2), (50, .ldc 125, 2), (52, .invokestatic 119, 3), (55, .iconst 1, 1)]
theorem aJ_54_4 : sx_iB prog_6_method_28_code aI_54_4 = true := by decide +kernel
def aI_54_5 : sx_IL := [(56, .if_icmp .eq 5, 3), (59, .iconst 0, 1), (60, .ireturn, 1), (61, .ldc2_w 123, 3), (64, .iload 9, 2), (66, .ldc 125, 2)]
theorem aJ_54_5 : sx_iB prog_6_method_28_code aI_54_5 = true := by decide +kernel
def aI_54_6 : sx_IL := [(68, .invokestatic 119, 3), (71, .i2l, 1), (72, .iload_n 2, 1), (73, .i2l, 1), (74, .ldc 139, 2), (76, .iload 8, 2)]
theorem aJ_54_6 : sx_iB prog_6_method_28_code aI_54_6 = true := by decide +kernel
def aI_54_7 : sx_IL := [(78, .isub, 1), (79, .ldc 125, 2), (81, .invokestatic 119, 3), (84, .i2l, 1), (85, .lmul, 1), (86, .ldc2_w 143, 3)]
theorem aJ_54_7 : sx_iB prog_6_method_28_code aI_54_7 = true := by decide +kernel
def aI_54_8 : sx_IL := [(89, .lrem, 1), (90, .l2i, 1), (91, .istore 10, 2), (93, .aload_n 0, 1), (94, .iload_n 1, 1), (95, .iconst 1, 1)]
theorem aJ_54_8 : sx_iB prog_6_method_28_code aI_54_8 = true := by decide +kernel
def aI_54_9 : sx_IL := [(96, .isub, 1), (97, .invokevirtual 41, 3), (100, .aload_n 0, 1), (101, .iload 10, 2), (103, .i2l, 1), (104, .bipush 32, 2)]
theorem aJ_54_9 : sx_iB prog_6_method_28_code aI_54_9 = true := by decide +kernel
def aI_54_10 : sx_IL := [(106, .lshl, 1), (107, .iload_n 2, 1), (108, .i2l, 1), (109, .lor, 1), (110, .invokevirtual 66, 3), (113, .aload_n 0, 1)]
theorem aJ_54_10 : sx_iB prog_6_method_28_code aI_54_10 = true := by decide +kernel
def aI_54_11 : sx_IL := [(114, .aload 5, 2), (116, .iload 6, 2), (118, .iload 7, 2), (120, .invokevirtual 45, 3), (123, .aload_n 0, 1), (124, .invokevirtual 49, 3)]
theorem aJ_54_11 : sx_iB prog_6_method_28_code aI_54_11 = true := by decide +kernel
def aI_54_12 : sx_IL := [(127, .invokestatic 131, 3), (130, .ldc 139, 2), (132, .irem, 1), (133, .iload 8, 2), (135, .if_icmp .ne 7, 3), (138, .iconst 1, 1)]
theorem aJ_54_12 : sx_iB prog_6_method_28_code aI_54_12 = true := by decide +kernel
def aI_54_13 : sx_IL := [(139, .goto 4, 3), (142, .iconst 0, 1), (143, .ireturn, 1)]
theorem aJ_54_13 : sx_iB prog_6_method_28_code aI_54_13 = true := by decide +kernel
def aI_55_0 : sx_IL := [(0, .aload_n 0, 1), (1, .getfield 21, 3), (4, .getfield 80, 3), (7, .iconst 0, 1), (8, .aload_n 0, 1), (9, .getfield 21, 3)]
theorem aJ_55_0 : sx_iB prog_1_method_20_code aI_55_0 = true := by decide +kernel
def aI_55_1 : sx_IL := [(12, .getfield 69, 3), (15, .aload_n 0, 1), (16, .getfield 10, 3), (19, .getfield 167, 3), (22, .invokestatic 170, 3), (25, .istore_n 1, 1)]
theorem aJ_55_1 : sx_iB prog_1_method_20_code aI_55_1 = true := by decide +kernel
def aI_55_2 : sx_IL := [(26, .aload_n 0, 1), (27, .getfield 21, 3), (30, .invokevirtual 108, 3), (33, .iload_n 1, 1), (34, .ifCond .ge 7, 3), (37, .iconst 0, 1)]
theorem aJ_55_2 : sx_iB prog_1_method_20_code aI_55_2 = true := by decide +kernel
def aI_55_3 : sx_IL := [(38, .goto 7, 3), (41, .bipush (-10), 2), (43, .iload_n 1, 1), (44, .isub, 1), (45, .ireturn, 1)]
theorem aJ_55_3 : sx_iB prog_1_method_20_code aI_55_3 = true := by decide +kernel
def aI_56_0 : sx_IL := [(0, .iconst 0, 1), (1, .istore 4, 2), (3, .iload_n 1, 1), (4, .istore 5, 2), (6, .iload_n 2, 1), (7, .istore 6, 2)]
theorem aJ_56_0 : sx_iB prog_8_method_7_code aI_56_0 = true := by decide +kernel
def aI_56_1 : sx_IL := [(9, .iconst 1, 1), (10, .istore 7, 2), (12, .iconst 0, 1), (13, .istore 8, 2), (15, .iload 7, 2), (17, .ifCond .eq 272, 3)]
theorem aJ_56_1 : sx_iB prog_8_method_7_code aI_56_1 = true := by decide +kernel
def aI_56_2 : sx_IL := [(20, .iload 8, 2), (22, .iconst 2, 1), (23, .iload_n 2, 1), (24, .iload_n 1, 1), (25, .isub, 1), (26, .imul, 1)]
theorem aJ_56_2 : sx_iB prog_8_method_7_code aI_56_2 = true := by decide +kernel
def aI_56_3 : sx_IL := [(27, .iconst 2, 1), (28, .iadd, 1), (29, .if_icmp .gt 260, 3), (32, .iload 4, 2), (34, .ifCond .le 45, 3), (37, .iload 5, 2)]
theorem aJ_56_3 : sx_iB prog_8_method_7_code aI_56_3 = true := by decide +kernel
def aI_56_4 : sx_IL := [(39, .iload 6, 2), (41, .if_icmp .ne 38, 3), (44, .iinc 4 (-1), 3), (47, .iload 4, 2), (49, .ifCond .ne 7, 3), (52, .iload_n 2, 1)]
theorem aJ_56_4 : sx_iB prog_8_method_7_code aI_56_4 = true := by decide +kernel
def aI_56_5 : sx_IL := [(53, .goto 9, 3), (56, .aload_n 3, 1), (57, .iload 4, 2), (59, .iconst 1, 1), (60, .isub, 1), (61, .iaload, 1)]
theorem aJ_56_5 : sx_iB prog_8_method_7_code aI_56_5 = true := by decide +kernel
def aI_56_6 : sx_IL := [(62, .istore 6, 2), (64, .iload 4, 2), (66, .ifCond .le 7, 3), (69, .iconst 1, 1), (70, .goto 4, 3), (73, .iconst 0, 1)]
theorem aJ_56_6 : sx_iB prog_8_method_7_code aI_56_6 = true := by decide +kernel
def aI_56_7 : sx_IL := [(74, .istore 7, 2), (76, .goto 207, 3), (79, .iload 5, 2), (81, .iload 6, 2), (83, .if_icmp .lt 8, 3), (86, .iload 6, 2)]
theorem aJ_56_7 : sx_iB prog_8_method_7_code aI_56_7 = true := by decide +kernel
def aI_56_8 : sx_IL := [(88, .iload_n 1, 1), (89, .isub, 1), (90, .ireturn, 1), (91, .aload_n 0, 1), (92, .iload 5, 2), (94, .iaload, 1)]
theorem aJ_56_8 : sx_iB prog_8_method_7_code aI_56_8 = true := by decide +kernel
def aI_56_9 : sx_IL := [(95, .istore 9, 2), (97, .iload 9, 2), (99, .invokestatic 44, 3), (102, .ifCond .eq 10, 3), (105, .iload 4, 2), (107, .aload_n 3, 1)]
theorem aJ_56_9 : sx_iB prog_8_method_7_code aI_56_9 = true := by decide +kernel
def aI_56_10 : sx_IL := [(108, .arraylength, 1), (109, .if_icmp .lt 8, 3), (112, .iload 5, 2), (114, .iload_n 1, 1), (115, .isub, 1), (116, .ireturn, 1)]
theorem aJ_56_10 : sx_iB prog_8_method_7_code aI_56_10 = true := by decide +kernel
def aI_56_11 : sx_IL := [(117, .iload 5, 2), (119, .iconst 1, 1), (120, .iadd, 1), (121, .iload 6, 2), (123, .if_icmp .ge 15, 3), (126, .aload_n 0, 1)]
theorem aJ_56_11 : sx_iB prog_8_method_7_code aI_56_11 = true := by decide +kernel
def aI_56_12 : sx_IL := [(127, .iload 5, 2), (129, .iconst 1, 1), (130, .iadd, 1), (131, .iaload, 1), (132, .invokestatic 48, 3), (135, .goto 4, 3)]
theorem aJ_56_12 : sx_iB prog_8_method_7_code aI_56_12 = true := by decide +kernel
def aI_56_13 : sx_IL := [(138, .iconst 1, 1), (139, .istore 10, 2), (141, .iload 5, 2), (143, .iconst 1, 1), (144, .iadd, 1), (145, .iload 10, 2)]
theorem aJ_56_13 : sx_iB prog_8_method_7_code aI_56_13 = true := by decide +kernel
def aI_56_14 : sx_IL := [(147, .iadd, 1), (148, .istore 11, 2), (150, .iload 10, 2), (152, .ifCond .le 15, 3), (155, .iload 11, 2), (157, .iload 6, 2)]
theorem aJ_56_14 : sx_iB prog_8_method_7_code aI_56_14 = true := by decide +kernel
def aI_56_15 : sx_IL := [(159, .if_icmp .le 8, 3), (162, .iload 6, 2), (164, .iload_n 1, 1), (165, .isub, 1), (166, .ireturn, 1), (167, .aload_n 0, 1)]
theorem aJ_56_15 : sx_iB prog_8_method_7_code aI_56_15 = true := by decide +kernel
def aI_56_16 : sx_IL := [(168, .iload 5, 2), (170, .iconst 1, 1), (171, .iadd, 1), (172, .iload 10, 2), (174, .invokestatic 51, 3), (177, .istore 12, 2)]
theorem aJ_56_16 : sx_iB prog_8_method_7_code aI_56_16 = true := by decide +kernel
def aI_56_17 : sx_IL := [(179, .iload 12, 2), (181, .ifCond .lt 13, 3), (184, .iload 11, 2), (186, .iload 12, 2), (188, .iadd, 1), (189, .iload 6, 2)]
theorem aJ_56_17 : sx_iB prog_8_method_7_code aI_56_17 = true := by decide +kernel
def aI_56_18 : sx_IL := [(191, .if_icmp .le 10, 3), (194, .iload 5, 2), (196, .iconst 1, 1), (197, .iadd, 1), (198, .iload_n 1, 1), (199, .isub, 1)]
theorem aJ_56_18 : sx_iB prog_8_method_7_code aI_56_18 = true := by decide +kernel
def aI_56_19 : sx_IL := [(200, .ireturn, 1), (201, .iload 9, 2), (203, .aload_n 0, 1), (204, .iload 11, 2), (206, .iload 11, 2), (208, .iload 12, 2)]
theorem aJ_56_19 : sx_iB prog_8_method_7_code aI_56_19 = true := by decide +kernel
def aI_56_20 : sx_IL := [(210, .iadd, 1), (211, .invokestatic 55, 3), (214, .istore 13, 2), (216, .iload 13, 2), (218, .ifCond .lt 8, 3), (221, .iload 13, 2)]
theorem aJ_56_20 : sx_iB prog_8_method_7_code aI_56_20 = true := by decide +kernel
def aI_56_21 : sx_IL := [(223, .iload_n 1, 1), (224, .isub, 1), (225, .ireturn, 1), (226, .iload 9, 2), (228, .bipush 48, 2), (230, .if_icmp .ne 8, 3)]
theorem aJ_56_21 : sx_iB prog_8_method_7_code aI_56_21 = true := by decide +kernel
def aI_56_22 : sx_IL := [(233, .iload 11, 2), (235, .goto 8, 3), (238, .iload 11, 2), (240, .iload 12, 2), (242, .iadd, 1), (243, .istore 5, 2)]
theorem aJ_56_22 : sx_iB prog_8_method_7_code aI_56_22 = true := by decide +kernel
def aI_56_23 : sx_IL := [(245, .iload 9, 2), (247, .bipush 48, 2), (249, .if_icmp .ne 22, 3), (252, .aload_n 3, 1), (253, .iload 4, 2), (255, .iload 11, 2)]
theorem aJ_56_23 : sx_iB prog_8_method_7_code aI_56_23 = true := by decide +kernel
def aI_56_24 : sx_IL := [(257, .iload 12, 2), (259, .iadd, 1), (260, .iastore, 1), (261, .iload 11, 2), (263, .iload 12, 2), (265, .iadd, 1)]
theorem aJ_56_24 : sx_iB prog_8_method_7_code aI_56_24 = true := by decide +kernel
def aI_56_25 : sx_IL := [(266, .istore 6, 2), (268, .iinc 4 1, 3), (271, .iload 4, 2), (273, .ifCond .le 7, 3), (276, .iconst 1, 1), (277, .goto 4, 3)]
theorem aJ_56_25 : sx_iB prog_8_method_7_code aI_56_25 = true := by decide +kernel
def aI_56_26 : sx_IL := [(280, .iconst 0, 1), (281, .istore 7, 2), (283, .iinc 8 1, 3), (286, .goto (-271), 3), (289, .iload 5, 2), (291, .iload_n 2, 1)]
theorem aJ_56_26 : sx_iB prog_8_method_7_code aI_56_26 = true := by decide +kernel
def aI_56_27 : sx_IL := [(292, .if_icmp .ge 10, 3), (295, .iload 5, 2), (297, .iload_n 1, 1), (298, .isub, 1), (299, .goto 4, 3), (302, .iconst (-1), 1)]
theorem aJ_56_27 : sx_iB prog_8_method_7_code aI_56_27 = true := by decide +kernel
def aI_56_28 : sx_IL := [(303, .ireturn, 1)]
theorem aJ_56_28 : sx_iB prog_8_method_7_code aI_56_28 = true := by decide +kernel
def aI_61_0 : sx_IL := [(0, .iload_n 1, 1), (1, .istore_n 3, 1), (2, .iload_n 3, 1), (3, .iload_n 2, 1), (4, .if_icmp .ge 105, 3), (7, .aload_n 0, 1)]
theorem aJ_61_0 : sx_iB prog_8_method_12_code aI_61_0 = true := by decide +kernel
def aI_61_1 : sx_IL := [(8, .iload_n 3, 1), (9, .iaload, 1), (10, .istore 4, 2), (12, .iload 4, 2), (14, .bipush 97, 2), (16, .if_icmp .lt 10, 3)]
theorem aJ_61_1 : sx_iB prog_8_method_12_code aI_61_1 = true := by decide +kernel
def aI_61_2 : sx_IL := [(19, .iload 4, 2), (21, .bipush 122, 2), (23, .if_icmp .le 24, 3), (26, .iload 4, 2), (28, .bipush 48, 2), (30, .if_icmp .lt 10, 3)]
theorem aJ_61_2 : sx_iB prog_8_method_12_code aI_61_2 = true := by decide +kernel
def aI_61_3 : sx_IL := [(33, .iload 4, 2), (35, .bipush 57, 2), (37, .if_icmp .le 10, 3), (40, .iload 4, 2), (42, .bipush 45, 2), (44, .if_icmp .ne 7, 3)]
theorem aJ_61_3 : sx_iB prog_8_method_12_code aI_61_3 = true := by decide +kernel
def aI_61_4 : sx_IL := [(47, .iconst 1, 1), (48, .goto 4, 3), (51, .iconst 0, 1), (52, .istore 5, 2), (54, .iload 4, 2), (56, .bipush 46, 2)]
theorem aJ_61_4 : sx_iB prog_8_method_12_code aI_61_4 = true := by decide +kernel
def aI_61_5 : sx_IL := [(58, .if_icmp .ne 22, 3), (61, .iload_n 3, 1), (62, .iload_n 1, 1), (63, .if_icmp .le 17, 3), (66, .aload_n 0, 1), (67, .iload_n 3, 1)]
theorem aJ_61_5 : sx_iB prog_8_method_12_code aI_61_5 = true := by decide +kernel
def aI_61_6 : sx_IL := [(68, .iconst 1, 1), (69, .isub, 1), (70, .iaload, 1), (71, .bipush 46, 2), (73, .if_icmp .eq 7, 3), (76, .iconst 1, 1)]
theorem aJ_61_6 : sx_iB prog_8_method_12_code aI_61_6 = true := by decide +kernel
def aI_61_7 : sx_IL := [(77, .goto 4, 3), (80, .iconst 0, 1), (81, .istore 6, 2), (83, .iload_n 3, 1), (84, .iload_n 1, 1), (85, .isub, 1)]
theorem aJ_61_7 : sx_iB prog_8_method_12_code aI_61_7 = true := by decide +kernel
def aI_61_8 : sx_IL := [(86, .bipush 40, 2), (88, .if_icmp .eq 13, 3), (91, .iload 5, 2), (93, .ifCond .ne 10, 3), (96, .iload 6, 2), (98, .ifCond .ne 5, 3)]
theorem aJ_61_8 : sx_iB prog_8_method_12_code aI_61_8 = true := by decide +kernel
def aI_61_9 : sx_IL := [(101, .iload_n 3, 1), (102, .ireturn, 1), (103, .iinc 3 1, 3), (106, .goto (-104), 3), (109, .iload_n 2, 1), (110, .iload_n 1, 1)]
theorem aJ_61_9 : sx_iB prog_8_method_12_code aI_61_9 = true := by decide +kernel
def aI_61_10 : sx_IL := [(111, .if_icmp .le 13, 3), (114, .aload_n 0, 1), (115, .iload_n 2, 1), (116, .iconst 1, 1), (117, .isub, 1), (118, .iaload, 1)]
theorem aJ_61_10 : sx_iB prog_8_method_12_code aI_61_10 = true := by decide +kernel
def aI_61_11 : sx_IL := [(119, .bipush 46, 2), (121, .if_icmp .ne 7, 3), (124, .iload_n 2, 1), (125, .goto 4, 3), (128, .iconst (-1), 1), (129, .ireturn, 1)]
theorem aJ_61_11 : sx_iB prog_8_method_12_code aI_61_11 = true := by decide +kernel
def aI_62_0 : sx_IL := [(0, .iload_n 1, 1), (1, .invokestatic 155, 3), (4, .ifCond .eq 10, 3), (7, .iload_n 2, 1), (8, .invokestatic 149, 3), (11, .ifCond .ne 5, 3)]
theorem aJ_62_0 : sx_iB prog_1_method_21_code aI_62_0 = true := by decide +kernel
def aI_62_1 : sx_IL := [(14, .iconst (-1), 1), (15, .ireturn, 1), (16, .aload_n 0, 1), (17, .getfield 21, 3), (20, .getfield 69, 3), (23, .bipush 10, 2)]
theorem aJ_62_1 : sx_iB prog_1_method_21_code aI_62_1 = true := by decide +kernel
def aI_62_2 : sx_IL := [(25, .iadd, 1), (26, .istore_n 3, 1), (27, .iload_n 3, 1), (28, .iload_n 3, 1), (29, .invokestatic 176, 3), (32, .iadd, 1)]
theorem aJ_62_2 : sx_iB prog_1_method_21_code aI_62_2 = true := by decide +kernel
def aI_62_3 : sx_IL := [(33, .sipush 800, 3), (36, .if_icmp .le 6, 3), (39, .bipush (-3), 2), (41, .ireturn, 1), (42, .aload_n 0, 1), (43, .getfield 10, 3)]
theorem aJ_62_3 : sx_iB prog_1_method_21_code aI_62_3 = true := by decide +kernel
def aI_62_4 : sx_IL := [(46, .getfield 179, 3), (49, .astore 4, 2), (51, .aload_n 0, 1), (52, .getfield 10, 3), (55, .aload_n 0, 1), (56, .getfield 21, 3)]
theorem aJ_62_4 : sx_iB prog_1_method_21_code aI_62_4 = true := by decide +kernel
def aI_62_5 : sx_IL := [(59, .iload_n 1, 1), (60, .iload_n 2, 1), (61, .aload 4, 2), (63, .invokevirtual 182, 3), (66, .aload_n 0, 1), (67, .getfield 21, 3)]
theorem aJ_62_5 : sx_iB prog_1_method_21_code aI_62_5 = true := by decide +kernel
def aI_62_6 : sx_IL := [(70, .invokevirtual 108, 3), (73, .aload_n 0, 1), (74, .getfield 21, 3), (77, .aload 4, 2), (79, .getfield 80, 3), (82, .iconst 0, 1)]
theorem aJ_62_6 : sx_iB prog_1_method_21_code aI_62_6 = true := by decide +kernel
def aI_62_7 : sx_IL := [(83, .aload 4, 2), (85, .getfield 69, 3), (88, .invokevirtual 83, 3), (91, .aload_n 0, 1), (92, .getfield 21, 3), (95, .getfield 69, 3)]
theorem aJ_62_7 : sx_iB prog_1_method_21_code aI_62_7 = true := by decide +kernel
def aI_62_8 : sx_IL := [(98, .ireturn, 1)]
theorem aJ_62_8 : sx_iB prog_1_method_21_code aI_62_8 = true := by decide +kernel
def aI_63_0 : sx_IL := [(0, .iload_n 0, 1), (1, .sipush 128, 3), (4, .if_icmp .ge 7, 3), (7, .iconst 2, 1), (8, .goto 15, 3), (11, .iload_n 0, 1)]
theorem aJ_63_0 : sx_iB prog_9_method_14_code aI_63_0 = true := by decide +kernel
def aI_63_1 : sx_IL := [(12, .sipush 256, 3), (15, .if_icmp .ge 7, 3), (18, .iconst 3, 1), (19, .goto 4, 3), (22, .iconst 4, 1), (23, .ireturn, 1)]
theorem aJ_63_1 : sx_iB prog_9_method_14_code aI_63_1 = true := by decide +kernel
def aI_64_0 : sx_IL := [(0, .aload_n 0, 1), (1, .getfield 12, 3), (4, .iload_n 2, 1), (5, .iload_n 3, 1), (6, .aload_n 1, 1), (7, .getfield 73, 3)]
theorem aJ_64_0 : sx_iB prog_5_method_2_code aI_64_0 = true := by decide +kernel
def aI_64_1 : sx_IL := [(10, .iconst 0, 1), (11, .aload_n 1, 1), (12, .getfield 76, 3), (15, .invokevirtual 80, 3), (18, .lstore 5, 2), (20, .aload 4, 2)]
theorem aJ_64_1 : sx_iB prog_5_method_2_code aI_64_1 = true := by decide +kernel
def aI_64_2 : sx_IL := [(22, .invokevirtual 84, 3), (25, .aload 4, 2), (27, .bipush 48, 2), (29, .aload_n 1, 1), (30, .getfield 76, 3), (33, .bipush 10, 2)]
theorem aJ_64_2 : sx_iB prog_5_method_2_code aI_64_2 = true := by decide +kernel
def aI_64_3 : sx_IL := [(35, .iadd, 1), (36, .invokevirtual 87, 3), (39, .aload 4, 2), (41, .aload_n 1, 1), (42, .getfield 73, 3), (45, .iconst 0, 1)]
theorem aJ_64_3 : sx_iB prog_5_method_2_code aI_64_3 = true := by decide +kernel
def aI_64_4 : sx_IL := [(46, .aload_n 1, 1), (47, .getfield 76, 3), (50, .invokevirtual 91, 3), (53, .aload 4, 2), (55, .iconst 4, 1), (56, .bipush 8, 2)]
theorem aJ_64_4 : sx_iB prog_5_method_2_code aI_64_4 = true := by decide +kernel
def aI_64_5 : sx_IL := [(58, .invokevirtual 87, 3), (61, .aload 4, 2), (63, .lload 5, 2), (65, .invokevirtual 95, 3), (68, .return_, 1)]
theorem aJ_64_5 : sx_iB prog_5_method_2_code aI_64_5 = true := by decide +kernel
def aI_65_0 : sx_IL := [(0, .aload_n 0, 1), (1, .iload_n 1, 1), (2, .invokevirtual 39, 3), (5, .iload_n 2, 1), (6, .sipush 128, 3), (9, .if_icmp .ge 11, 3)]
theorem aJ_65_0 : sx_iB prog_9_method_15_code aI_65_0 = true := by decide +kernel
def aI_65_1 : sx_IL := [(12, .aload_n 0, 1), (13, .iload_n 2, 1), (14, .invokevirtual 39, 3), (17, .goto 45, 3), (20, .iload_n 2, 1), (21, .sipush 256, 3)]
theorem aJ_65_1 : sx_iB prog_9_method_15_code aI_65_1 = true := by decide +kernel
def aI_65_2 : sx_IL := [(24, .if_icmp .ge 18, 3), (27, .aload_n 0, 1), (28, .sipush 129, 3), (31, .invokevirtual 39, 3), (34, .aload_n 0, 1), (35, .iload_n 2, 1)]
theorem aJ_65_2 : sx_iB prog_9_method_15_code aI_65_2 = true := by decide +kernel
def aI_65_3 : sx_IL := [(36, .invokevirtual 39, 3), (39, .goto 23, 3), (42, .aload_n 0, 1), (43, .sipush 130, 3), (46, .invokevirtual 39, 3), (49, .aload_n 0, 1)]
theorem aJ_65_3 : sx_iB prog_9_method_15_code aI_65_3 = true := by decide +kernel
def aI_65_4 : sx_IL := [(50, .iload_n 2, 1), (51, .bipush 8, 2), (53, .iushr, 1), (54, .invokevirtual 39, 3), (57, .aload_n 0, 1), (58, .iload_n 2, 1)]
theorem aJ_65_4 : sx_iB prog_9_method_15_code aI_65_4 = true := by decide +kernel
def aI_65_5 : sx_IL := [(59, .invokevirtual 39, 3), (62, .return_, 1)]
theorem aJ_65_5 : sx_iB prog_9_method_15_code aI_65_5 = true := by decide +kernel
def aI_66_0 : sx_IL := [(0, .bipush 56, 2), (2, .istore_n 3, 1), (3, .iload_n 3, 1), (4, .ifCond .lt 17, 3), (7, .aload_n 0, 1), (8, .lload_n 1, 1)]
theorem aJ_66_0 : sx_iB prog_9_method_10_code aI_66_0 = true := by decide +kernel
def aI_66_1 : sx_IL := [(9, .iload_n 3, 1), (10, .lushr, 1), (11, .l2i, 1), (12, .invokevirtual 39, 3), (15, .iinc 3 (-8), 3), (18, .goto (-15), 3)]
theorem aJ_66_1 : sx_iB prog_9_method_10_code aI_66_1 = true := by decide +kernel
def aI_66_2 : sx_IL := [(21, .return_, 1)]
theorem aJ_66_2 : sx_iB prog_9_method_10_code aI_66_2 = true := by decide +kernel
def aI_67_0 : sx_IL := [(0, .aload_n 0, 1), (1, .iconst 0, 1), (2, .invokevirtual 186, 3), (5, .ireturn, 1)]
theorem aJ_67_0 : sx_iB prog_1_method_22_code aI_67_0 = true := by decide +kernel
def aI_68_0 : sx_IL := [(0, .aload_n 0, 1), (1, .getfield 21, 3), (4, .getfield 80, 3), (7, .iconst 0, 1), (8, .aload_n 0, 1), (9, .getfield 21, 3)]
theorem aJ_68_0 : sx_iB prog_1_method_25_code aI_68_0 = true := by decide +kernel
def aI_68_1 : sx_IL := [(12, .getfield 69, 3), (15, .aload_n 0, 1), (16, .getfield 10, 3), (19, .getfield 167, 3), (22, .invokestatic 170, 3), (25, .istore_n 2, 1)]
theorem aJ_68_1 : sx_iB prog_1_method_25_code aI_68_1 = true := by decide +kernel
def aI_68_2 : sx_IL := [(26, .iload_n 2, 1), (27, .ifCond .lt 10, 3), (30, .bipush (-10), 2), (32, .iload_n 2, 1), (33, .isub, 1), (34, .goto 15, 3)]
theorem aJ_68_2 : sx_iB prog_1_method_25_code aI_68_2 = true := by decide +kernel
def aI_68_3 : sx_IL := [(37, .aload_n 0, 1), (38, .getfield 10, 3), (41, .iload_n 1, 1), (42, .aload_n 0, 1), (43, .getfield 21, 3), (46, .invokevirtual 189, 3)]
theorem aJ_68_3 : sx_iB prog_1_method_25_code aI_68_3 = true := by decide +kernel
def aI_68_4 : sx_IL := [(49, .istore_n 3, 1), (50, .iload_n 3, 1), (51, .bipush (-3), 2), (53, .if_icmp .eq 10, 3), (56, .aload_n 0, 1), (57, .getfield 21, 3)]
theorem aJ_68_4 : sx_iB prog_1_method_25_code aI_68_4 = true := by decide +kernel
def aI_68_5 : sx_IL := [(60, .invokevirtual 108, 3), (63, .iload_n 3, 1), (64, .ireturn, 1)]
theorem aJ_68_5 : sx_iB prog_1_method_25_code aI_68_5 = true := by decide +kernel
def aI_86_0 : sx_IL := [(0, .iload_n 2, 1), (1, .iload_n 1, 1), (2, .isub, 1), (3, .iload 5, 2), (5, .iload 4, 2), (7, .isub, 1)]
theorem aJ_86_0 : sx_iB prog_9_method_18_code aI_86_0 = true := by decide +kernel
def aI_86_1 : sx_IL := [(8, .if_icmp .ne 25, 3), (11, .iload_n 1, 1), (12, .ifCond .lt 21, 3), (15, .iload 4, 2), (17, .ifCond .lt 16, 3), (20, .iload_n 2, 1)]
theorem aJ_86_1 : sx_iB prog_9_method_18_code aI_86_1 = true := by decide +kernel
def aI_86_2 : sx_IL := [(21, .aload_n 0, 1), (22, .arraylength, 1), (23, .if_icmp .gt 10, 3), (26, .iload 5, 2), (28, .aload_n 3, 1), (29, .arraylength, 1)]
theorem aJ_86_2 : sx_iB prog_9_method_18_code aI_86_2 = true := by decide +kernel
def aI_86_3 : sx_IL := [(30, .if_icmp .le 5, 3), (33, .iconst 0, 1), (34, .ireturn, 1), (35, .iconst 0, 1), (36, .istore 6, 2), (38, .iload 6, 2)]
theorem aJ_86_3 : sx_iB prog_9_method_18_code aI_86_3 = true := by decide +kernel
def aI_86_4 : sx_IL := [(40, .iload_n 2, 1), (41, .iload_n 1, 1), (42, .isub, 1), (43, .if_icmp .ge 27, 3), (46, .aload_n 0, 1), (47, .iload_n 1, 1)]
theorem aJ_86_4 : sx_iB prog_9_method_18_code aI_86_4 = true := by decide +kernel
def aI_86_5 : sx_IL := [(48, .iload 6, 2), (50, .iadd, 1), (51, .iaload, 1), (52, .aload_n 3, 1), (53, .iload 4, 2), (55, .iload 6, 2)]
theorem aJ_86_5 : sx_iB prog_9_method_18_code aI_86_5 = true := by decide +kernel
def aI_86_6 : sx_IL := [(57, .iadd, 1), (58, .iaload, 1), (59, .if_icmp .eq 5, 3), (62, .iconst 0, 1), (63, .ireturn, 1), (64, .iinc 6 1, 3)]
theorem aJ_86_6 : sx_iB prog_9_method_18_code aI_86_6 = true := by decide +kernel
def aI_86_7 : sx_IL := [(67, .goto (-29), 3), (70, .iconst 1, 1), (71, .ireturn, 1)]
theorem aJ_86_7 : sx_iB prog_9_method_18_code aI_86_7 = true := by decide +kernel
def aI_87_0 : sx_IL := [(0, .aload_n 0, 1), (1, .iconst 1, 1), (2, .invokevirtual 186, 3), (5, .ireturn, 1)]
theorem aJ_87_0 : sx_iB prog_1_method_23_code aI_87_0 = true := by decide +kernel
def aI_88_0 : sx_IL := [(0, .aload_n 0, 1), (1, .iconst 2, 1), (2, .invokevirtual 186, 3), (5, .ireturn, 1)]
theorem aJ_88_0 : sx_iB prog_1_method_24_code aI_88_0 = true := by decide +kernel
def aI_89_0 : sx_IL := [(0, .aload_n 0, 1), (1, .iload_n 1, 1), (2, .invokevirtual 193, 3), (5, .ifCond .eq 13, 3), (8, .iload_n 2, 1), (9, .ifCond .lt 9, 3)]
theorem aJ_89_0 : sx_iB prog_1_method_26_code aI_89_0 = true := by decide +kernel
def aI_89_1 : sx_IL := [(12, .iload_n 2, 1), (13, .bipush 11, 2), (15, .if_icmp .le 5, 3), (18, .iconst (-1), 1), (19, .ireturn, 1), (20, .aload_n 0, 1)]
theorem aJ_89_1 : sx_iB prog_1_method_26_code aI_89_1 = true := by decide +kernel
def aI_89_2 : sx_IL := [(21, .getfield 10, 3), (24, .getfield 196, 3), (27, .iload_n 1, 1), (28, .aaload, 1), (29, .getfield 200, 3), (32, .iload_n 2, 1)]
theorem aJ_89_2 : sx_iB prog_1_method_26_code aI_89_2 = true := by decide +kernel
def aI_89_3 : sx_IL := [(33, .iaload, 1), (34, .ireturn, 1)]
theorem aJ_89_3 : sx_iB prog_1_method_26_code aI_89_3 = true := by decide +kernel
def aI_90_0 : sx_IL := [(0, .iload_n 1, 1), (1, .ifCond .lt 18, 3), (4, .iload_n 1, 1), (5, .aload_n 0, 1), (6, .getfield 10, 3), (9, .getfield 210, 3)]
theorem aJ_90_0 : sx_iB prog_1_method_28_code aI_90_0 = true := by decide +kernel
def aI_90_1 : sx_IL := [(12, .if_icmp .ge 7, 3), (15, .iconst 1, 1), (16, .goto 4, 3), (19, .iconst 0, 1), (20, .ireturn, 1)]
theorem aJ_90_1 : sx_iB prog_1_method_28_code aI_90_1 = true := by decide +kernel
def aI_91_0 : sx_IL := [(0, .aload_n 0, 1), (1, .iload_n 1, 1), (2, .invokevirtual 193, 3), (5, .ifCond .ne 5, 3), (8, .iconst (-1), 1), (9, .ireturn, 1)]
theorem aJ_91_0 : sx_iB prog_1_method_27_code aI_91_0 = true := by decide +kernel
def aI_91_1 : sx_IL := [(10, .aload_n 0, 1), (11, .getfield 10, 3), (14, .getfield 196, 3), (17, .iload_n 1, 1), (18, .aaload, 1), (19, .astore 4, 2)]
theorem aJ_91_1 : sx_iB prog_1_method_27_code aI_91_1 = true := by decide +kernel
def aI_91_2 : sx_IL := [(21, .iconst 0, 1), (22, .istore 5, 2), (24, .aload 4, 2), (26, .getfield 200, 3), (29, .bipush 11, 2), (31, .iaload, 1)]
theorem aJ_91_2 : sx_iB prog_1_method_27_code aI_91_2 = true := by decide +kernel
def aI_91_3 : sx_IL := [(32, .istore 6, 2), (34, .iload_n 2, 1), (35, .bipush 8, 2), (37, .if_icmp .lt 57, 3), (40, .iload_n 2, 1), (41, .bipush 10, 2)]
theorem aJ_91_3 : sx_iB prog_1_method_27_code aI_91_3 = true := by decide +kernel
def aI_91_4 : sx_IL := [(43, .if_icmp .gt 51, 3), (46, .iload_n 3, 1), (47, .ifCond .lt 47, 3), (50, .iload_n 3, 1), (51, .aload 4, 2), (53, .getfield 200, 3)]
theorem aJ_91_4 : sx_iB prog_1_method_27_code aI_91_4 = true := by decide +kernel
def aI_91_5 : sx_IL := [(56, .iload_n 2, 1), (57, .iaload, 1), (58, .if_icmp .ge 36, 3), (61, .iconst 4, 1), (62, .iconst 4, 1), (63, .iload_n 2, 1)]
theorem aJ_91_5 : sx_iB prog_1_method_27_code aI_91_5 = true := by decide +kernel
def aI_91_6 : sx_IL := [(64, .bipush 8, 2), (66, .isub, 1), (67, .imul, 1), (68, .iadd, 1), (69, .iload_n 3, 1), (70, .iadd, 1)]
theorem aJ_91_6 : sx_iB prog_1_method_27_code aI_91_6 = true := by decide +kernel
def aI_91_7 : sx_IL := [(71, .istore 7, 2), (73, .aload 4, 2), (75, .iload 7, 2), (77, .invokevirtual 203, 3), (80, .istore 5, 2), (82, .aload 4, 2)]
theorem aJ_91_7 : sx_iB prog_1_method_27_code aI_91_7 = true := by decide +kernel
def aI_91_8 : sx_IL := [(84, .iload 7, 2), (86, .invokevirtual 206, 3), (89, .istore 6, 2), (91, .goto 39, 3), (94, .iload_n 2, 1), (95, .ifCond .eq 8, 3)]
theorem aJ_91_8 : sx_iB prog_1_method_27_code aI_91_8 = true := by decide +kernel
def aI_91_9 : sx_IL := [(98, .iload_n 2, 1), (99, .iconst 1, 1), (100, .if_icmp .ne 22, 3), (103, .aload 4, 2), (105, .iload_n 2, 1), (106, .invokevirtual 203, 3)]
theorem aJ_91_9 : sx_iB prog_1_method_27_code aI_91_9 = true := by decide +kernel
def aI_91_10 : sx_IL := [(109, .istore 5, 2), (111, .aload 4, 2), (113, .iload_n 2, 1), (114, .invokevirtual 206, 3), (117, .istore 6, 2), (119, .goto 11, 3)]
theorem aJ_91_10 : sx_iB prog_1_method_27_code aI_91_10 = true := by decide +kernel
def aI_91_11 : sx_IL := [(122, .iload_n 2, 1), (123, .bipush 11, 2), (125, .if_icmp .eq 5, 3), (128, .iconst (-1), 1), (129, .ireturn, 1), (130, .aload_n 0, 1)]
theorem aJ_91_11 : sx_iB prog_1_method_27_code aI_91_11 = true := by decide +kernel
def aI_91_12 : sx_IL := [(131, .getfield 25, 3), (134, .invokevirtual 108, 3), (137, .aload_n 0, 1), (138, .getfield 25, 3), (141, .aload 4, 2), (143, .getfield 209, 3)]
theorem aJ_91_12 : sx_iB prog_1_method_27_code aI_91_12 = true := by decide +kernel
def aI_91_13 : sx_IL := [(146, .iload 5, 2), (148, .iload 6, 2), (150, .invokevirtual 83, 3), (153, .aload_n 0, 1), (154, .getfield 25, 3), (157, .getfield 69, 3)]
theorem aJ_91_13 : sx_iB prog_1_method_27_code aI_91_13 = true := by decide +kernel
def aI_91_14 : sx_IL := [(160, .ireturn, 1)]
theorem aJ_91_14 : sx_iB prog_1_method_27_code aI_91_14 = true := by decide +kernel
def aI_94_0 : sx_IL := [(0, .aload_n 0, 1), (1, .iload_n 1, 1), (2, .invokevirtual 193, 3), (5, .ifCond .ne 5, 3), (8, .iconst (-1), 1), (9, .ireturn, 1)]
theorem aJ_94_0 : sx_iB prog_1_method_29_code aI_94_0 = true := by decide +kernel
def aI_94_1 : sx_IL := [(10, .aload_n 0, 1), (11, .getfield 213, 3), (14, .bipush 6, 2), (16, .if_icmp .lt 6, 3), (19, .bipush (-3), 2), (21, .ireturn, 1)]
theorem aJ_94_1 : sx_iB prog_1_method_29_code aI_94_1 = true := by decide +kernel
def aI_94_2 : sx_IL := [(22, .aload_n 0, 1), (23, .getfield 28, 3), (26, .aload_n 0, 1), (27, .getfield 213, 3), (30, .iload_n 1, 1), (31, .iastore, 1)]
theorem aJ_94_2 : sx_iB prog_1_method_29_code aI_94_2 = true := by decide +kernel
def aI_94_3 : sx_IL := [(32, .aload_n 0, 1), (33, .dup, 1), (34, .getfield 213, 3), (37, .iconst 1, 1), (38, .iadd, 1), (39, .putfield 213, 3)]
theorem aJ_94_3 : sx_iB prog_1_method_29_code aI_94_3 = true := by decide +kernel
def aI_94_4 : sx_IL := [(42, .aload_n 0, 1), (43, .getfield 213, 3), (46, .ireturn, 1)]
theorem aJ_94_4 : sx_iB prog_1_method_29_code aI_94_4 = true := by decide +kernel
def aI_95_0 : sx_IL := [(0, .aload_n 0, 1), (1, .iload_n 1, 1), (2, .invokevirtual 216, 3), (5, .ifCond .eq 19, 3), (8, .iload_n 3, 1), (9, .ifCond .lt 15, 3)]
theorem aJ_95_0 : sx_iB prog_1_method_30_code aI_95_0 = true := by decide +kernel
def aI_95_1 : sx_IL := [(12, .iload_n 3, 1), (13, .iconst 2, 1), (14, .if_icmp .gt 10, 3), (17, .aload_n 0, 1), (18, .getfield 213, 3), (21, .ifCond .ne 5, 3)]
theorem aJ_95_1 : sx_iB prog_1_method_30_code aI_95_1 = true := by decide +kernel
def aI_95_2 : sx_IL := [(24, .iconst (-1), 1), (25, .ireturn, 1), (26, .aload_n 0, 1), (27, .getfield 10, 3), (30, .aload_n 0, 1), (31, .getfield 213, 3)]
theorem aJ_95_2 : sx_iB prog_1_method_30_code aI_95_2 = true := by decide +kernel
def aI_95_3 : sx_IL := [(34, .putfield 219, 3), (37, .iconst 0, 1), (38, .istore 4, 2), (40, .iload 4, 2), (42, .aload_n 0, 1), (43, .getfield 213, 3)]
theorem aJ_95_3 : sx_iB prog_1_method_30_code aI_95_3 = true := by decide +kernel
def aI_95_4 : sx_IL := [(46, .if_icmp .ge 34, 3), (49, .aload_n 0, 1), (50, .getfield 10, 3), (53, .getfield 222, 3), (56, .iload 4, 2), (58, .aload_n 0, 1)]
theorem aJ_95_4 : sx_iB prog_1_method_30_code aI_95_4 = true := by decide +kernel
def aI_95_5 : sx_IL := [(59, .getfield 10, 3), (62, .getfield 196, 3), (65, .aload_n 0, 1), (66, .getfield 28, 3), (69, .iload 4, 2), (71, .iaload, 1)]
theorem aJ_95_5 : sx_iB prog_1_method_30_code aI_95_5 = true := by decide +kernel
def aI_95_6 : sx_IL := [(72, .aaload, 1), (73, .aastore, 1), (74, .iinc 4 1, 3), (77, .goto (-37), 3), (80, .aload_n 0, 1), (81, .iconst 0, 1)]
theorem aJ_95_6 : sx_iB prog_1_method_30_code aI_95_6 = true := by decide +kernel
def aI_95_7 : sx_IL := [(82, .putfield 213, 3), (85, .aload_n 0, 1), (86, .getfield 10, 3), (89, .iconst 0, 1), (90, .putfield 225, 3), (93, .aload_n 0, 1)]
theorem aJ_95_7 : sx_iB prog_1_method_30_code aI_95_7 = true := by decide +kernel
def aI_95_8 : sx_IL := [(94, .getfield 10, 3), (97, .aload_n 0, 1), (98, .getfield 34, 3), (101, .iload_n 1, 1), (102, .aaload, 1), (103, .invokevirtual 229, 3)]
theorem aJ_95_8 : sx_iB prog_1_method_30_code aI_95_8 = true := by decide +kernel
def aI_95_9 : sx_IL := [(106, .ifCond .eq 21, 3), (109, .aload_n 0, 1), (110, .getfield 10, 3), (113, .aload_n 0, 1), (114, .getfield 34, 3), (117, .iload_n 1, 1)]
theorem aJ_95_9 : sx_iB prog_1_method_30_code aI_95_9 = true := by decide +kernel
def aI_95_10 : sx_IL := [(118, .aaload, 1), (119, .iload_n 2, 1), (120, .iload_n 3, 1), (121, .invokevirtual 233, 3), (124, .goto 5, 3), (127, .bipush (-5), 2)]
theorem aJ_95_10 : sx_iB prog_1_method_30_code aI_95_10 = true := by decide +kernel
def aI_95_11 : sx_IL := [(129, .ireturn, 1)]
theorem aJ_95_11 : sx_iB prog_1_method_30_code aI_95_11 = true := by decide +kernel
def aI_96_0 : sx_IL := [(0, .iload_n 1, 1), (1, .ifCond .lt 15, 3), (4, .iload_n 1, 1), (5, .aload_n 0, 1), (6, .getfield 248, 3), (9, .if_icmp .ge 7, 3)]
theorem aJ_96_0 : sx_iB prog_1_method_35_code aI_96_0 = true := by decide +kernel
def aI_96_1 : sx_IL := [(12, .iconst 1, 1), (13, .goto 4, 3), (16, .iconst 0, 1), (17, .ireturn, 1)]
theorem aJ_96_1 : sx_iB prog_1_method_35_code aI_96_1 = true := by decide +kernel
def aI_111_0 : sx_IL := [(0, .aload_n 0, 1), (1, .iload_n 1, 1), (2, .invokevirtual 216, 3), (5, .ifCond .eq 22, 3), (8, .aload_n 0, 1), (9, .iload_n 2, 1)]
theorem aJ_111_0 : sx_iB prog_1_method_31_code aI_111_0 = true := by decide +kernel
def aI_111_1 : sx_IL := [(10, .invokevirtual 193, 3), (13, .ifCond .eq 14, 3), (16, .iload 4, 2), (18, .ifCond .lt 9, 3), (21, .iload 4, 2), (23, .iconst 2, 1)]
theorem aJ_111_1 : sx_iB prog_1_method_31_code aI_111_1 = true := by decide +kernel
def aI_111_2 : sx_IL := [(24, .if_icmp .le 5, 3), (27, .iconst (-1), 1), (28, .ireturn, 1), (29, .aload_n 0, 1), (30, .aload_n 0, 1), (31, .getfield 10, 3)]
theorem aJ_111_2 : sx_iB prog_1_method_31_code aI_111_2 = true := by decide +kernel
def aI_111_3 : sx_IL := [(34, .aload_n 0, 1), (35, .getfield 34, 3), (38, .iload_n 1, 1), (39, .aaload, 1), (40, .iload_n 2, 1), (41, .iload_n 3, 1)]
theorem aJ_111_3 : sx_iB prog_1_method_31_code aI_111_3 = true := by decide +kernel
def aI_111_4 : sx_IL := [(42, .iload 4, 2), (44, .invokevirtual 237, 3), (47, .putfield 213, 3), (50, .iconst 0, 1), (51, .istore 5, 2), (53, .iload 5, 2)]
theorem aJ_111_4 : sx_iB prog_1_method_31_code aI_111_4 = true := by decide +kernel
def aI_111_5 : sx_IL := [(55, .aload_n 0, 1), (56, .getfield 213, 3), (59, .if_icmp .ge 29, 3), (62, .aload_n 0, 1), (63, .getfield 28, 3), (66, .iload 5, 2)]
theorem aJ_111_5 : sx_iB prog_1_method_31_code aI_111_5 = true := by decide +kernel
def aI_111_6 : sx_IL := [(68, .aload_n 0, 1), (69, .getfield 10, 3), (72, .getfield 222, 3), (75, .iload 5, 2), (77, .aaload, 1), (78, .getfield 241, 3)]
theorem aJ_111_6 : sx_iB prog_1_method_31_code aI_111_6 = true := by decide +kernel
def aI_111_7 : sx_IL := [(81, .iastore, 1), (82, .iinc 5 1, 3), (85, .goto (-32), 3), (88, .aload_n 0, 1), (89, .getfield 213, 3), (92, .ireturn, 1)]
theorem aJ_111_7 : sx_iB prog_1_method_31_code aI_111_7 = true := by decide +kernel
def aI_113_0 : sx_IL := [(0, .iload_n 1, 1), (1, .iconst (-1), 1), (2, .if_icmp .lt 11, 3), (5, .iload_n 1, 1), (6, .aload_n 0, 1), (7, .getfield 213, 3)]
theorem aJ_113_0 : sx_iB prog_1_method_32_code aI_113_0 = true := by decide +kernel
def aI_113_1 : sx_IL := [(10, .if_icmp .lt 5, 3), (13, .iconst (-1), 1), (14, .ireturn, 1), (15, .iload_n 1, 1), (16, .iconst (-1), 1), (17, .if_icmp .ne 10, 3)]
theorem aJ_113_1 : sx_iB prog_1_method_32_code aI_113_1 = true := by decide +kernel
def aI_113_2 : sx_IL := [(20, .aload_n 0, 1), (21, .getfield 213, 3), (24, .goto 9, 3), (27, .aload_n 0, 1), (28, .getfield 28, 3), (31, .iload_n 1, 1)]
theorem aJ_113_2 : sx_iB prog_1_method_32_code aI_113_2 = true := by decide +kernel
def aI_113_3 : sx_IL := [(32, .iaload, 1), (33, .ireturn, 1)]
theorem aJ_113_3 : sx_iB prog_1_method_32_code aI_113_3 = true := by decide +kernel
def aI_114_0 : sx_IL := [(0, .aload_n 0, 1), (1, .iload_n 1, 1), (2, .invokevirtual 193, 3), (5, .ifCond .eq 11, 3), (8, .aload_n 0, 1), (9, .iload_n 2, 1)]
theorem aJ_114_0 : sx_iB prog_1_method_33_code aI_114_0 = true := by decide +kernel
def aI_114_1 : sx_IL := [(10, .invokevirtual 193, 3), (13, .ifCond .ne 5, 3), (16, .iconst (-1), 1), (17, .ireturn, 1), (18, .aload_n 0, 1), (19, .getfield 10, 3)]
theorem aJ_114_1 : sx_iB prog_1_method_33_code aI_114_1 = true := by decide +kernel
def aI_114_2 : sx_IL := [(22, .iconst 0, 1), (23, .putfield 225, 3), (26, .aload_n 0, 1), (27, .getfield 10, 3), (30, .aload_n 0, 1), (31, .getfield 10, 3)]
theorem aJ_114_2 : sx_iB prog_1_method_33_code aI_114_2 = true := by decide +kernel
def aI_114_3 : sx_IL := [(34, .getfield 196, 3), (37, .iload_n 1, 1), (38, .aaload, 1), (39, .aload_n 0, 1), (40, .getfield 10, 3), (43, .getfield 196, 3)]
theorem aJ_114_3 : sx_iB prog_1_method_33_code aI_114_3 = true := by decide +kernel
def aI_114_4 : sx_IL := [(46, .iload_n 2, 1), (47, .aaload, 1), (48, .iload_n 3, 1), (49, .invokevirtual 244, 3), (52, .ireturn, 1)]
theorem aJ_114_4 : sx_iB prog_1_method_33_code aI_114_4 = true := by decide +kernel
def aI_115_0 : sx_IL := [(0, .iload_n 1, 1), (1, .ifCond .eq 10, 3), (4, .iload_n 1, 1), (5, .iconst 1, 1), (6, .if_icmp .eq 5, 3), (9, .iconst (-1), 1)]
theorem aJ_115_0 : sx_iB prog_1_method_34_code aI_115_0 = true := by decide +kernel
def aI_115_1 : sx_IL := [(10, .ireturn, 1), (11, .aload_n 0, 1), (12, .getfield 248, 3), (15, .bipush 8, 2), (17, .if_icmp .lt 6, 3), (20, .bipush (-3), 2)]
theorem aJ_115_1 : sx_iB prog_1_method_34_code aI_115_1 = true := by decide +kernel
def aI_115_2 : sx_IL := [(22, .ireturn, 1), (23, .aload_n 0, 1), (24, .getfield 34, 3), (27, .aload_n 0, 1), (28, .getfield 248, 3), (31, .new 32, 3)]
theorem aJ_115_2 : sx_iB prog_1_method_34_code aI_115_2 = true := by decide +kernel
def aI_115_3 : sx_IL := [(34, .dup, 1), (35, .iload_n 1, 1), (36, .iconst 1, 1), (37, .if_icmp .ne 7, 3), (40, .iconst 1, 1), (41, .goto 4, 3)]
theorem aJ_115_3 : sx_iB prog_1_method_34_code aI_115_3 = true := by decide +kernel
def aI_115_4 : sx_IL := [(44, .iconst 0, 1), (45, .invokespecial 251, 3), (48, .aastore, 1), (49, .aload_n 0, 1), (50, .dup, 1), (51, .getfield 248, 3)]
theorem aJ_115_4 : sx_iB prog_1_method_34_code aI_115_4 = true := by decide +kernel
def aI_115_5 : sx_IL := [(54, .iconst 1, 1), (55, .iadd, 1), (56, .putfield 248, 3), (59, .aload_n 0, 1), (60, .getfield 248, 3), (63, .iconst 1, 1)]
theorem aJ_115_5 : sx_iB prog_1_method_34_code aI_115_5 = true := by decide +kernel
def aI_115_6 : sx_IL := [(64, .isub, 1), (65, .ireturn, 1)]
theorem aJ_115_6 : sx_iB prog_1_method_34_code aI_115_6 = true := by decide +kernel
def aI_116_0 : sx_IL := [(0, .aload_n 0, 1), (1, .invokespecial 1, 3), (4, .aload_n 0, 1), (5, .iconst 3, 1), (6, .anewarray 7, 3), (9, .dup, 1)]
theorem aJ_116_0 : sx_iB prog_3_method_1_code aI_116_0 = true := by decide +kernel
def aI_116_1 : sx_IL := [(10, .iconst 0, 1), (11, .iconst 4, 1), (12, .newarray .int, 2), (14, .dup, 1), (15, .iconst 0, 1), (16, .iconst 1, 1)]
theorem aJ_116_1 : sx_iB prog_3_method_1_code aI_116_1 = true := by decide +kernel
def aI_116_2 : sx_IL := [(17, .iastore, 1), (18, .dup, 1), (19, .iconst 1, 1), (20, .iconst 2, 1), (21, .iastore, 1), (22, .dup, 1)]
theorem aJ_116_2 : sx_iB prog_3_method_1_code aI_116_2 = true := by decide +kernel
def aI_116_3 : sx_IL := [(23, .iconst 2, 1), (24, .iconst 3, 1), (25, .iastore, 1), (26, .dup, 1), (27, .iconst 3, 1), (28, .iconst 0, 1)]
theorem aJ_116_3 : sx_iB prog_3_method_1_code aI_116_3 = true := by decide +kernel
def aI_116_4 : sx_IL := [(29, .iastore, 1), (30, .aastore, 1), (31, .dup, 1), (32, .iconst 1, 1), (33, .iconst 4, 1), (34, .newarray .int, 2)]
theorem aJ_116_4 : sx_iB prog_3_method_1_code aI_116_4 = true := by decide +kernel
def aI_116_5 : sx_IL := [(36, .dup, 1), (37, .iconst 0, 1), (38, .iconst 1, 1), (39, .iastore, 1), (40, .dup, 1), (41, .iconst 1, 1)]
theorem aJ_116_5 : sx_iB prog_3_method_1_code aI_116_5 = true := by decide +kernel
def aI_116_6 : sx_IL := [(42, .iconst 2, 1), (43, .iastore, 1), (44, .dup, 1), (45, .iconst 2, 1), (46, .iconst 3, 1), (47, .iastore, 1)]
theorem aJ_116_6 : sx_iB prog_3_method_1_code aI_116_6 = true := by decide +kernel
def aI_116_7 : sx_IL := [(48, .dup, 1), (49, .iconst 3, 1), (50, .iconst 0, 1), (51, .iastore, 1), (52, .aastore, 1), (53, .dup, 1)]
theorem aJ_116_7 : sx_iB prog_3_method_1_code aI_116_7 = true := by decide +kernel
def aI_116_8 : sx_IL := [(54, .iconst 2, 1), (55, .iconst 4, 1), (56, .newarray .int, 2), (58, .dup, 1), (59, .iconst 0, 1), (60, .iconst 1, 1)]
theorem aJ_116_8 : sx_iB prog_3_method_1_code aI_116_8 = true := by decide +kernel
def aI_116_9 : sx_IL := [(61, .iastore, 1), (62, .dup, 1), (63, .iconst 1, 1), (64, .iconst 2, 1), (65, .iastore, 1), (66, .dup, 1)]
theorem aJ_116_9 : sx_iB prog_3_method_1_code aI_116_9 = true := by decide +kernel
def aI_116_10 : sx_IL := [(67, .iconst 2, 1), (68, .iconst 0, 1), (69, .iastore, 1), (70, .dup, 1), (71, .iconst 3, 1), (72, .iconst 0, 1)]
theorem aJ_116_10 : sx_iB prog_3_method_1_code aI_116_10 = true := by decide +kernel
def aI_116_11 : sx_IL := [(73, .iastore, 1), (74, .aastore, 1), (75, .putfield 9, 3), (78, .aload_n 0, 1), (79, .bipush 8, 2), (81, .newarray .int, 2)]
theorem aJ_116_11 : sx_iB prog_3_method_1_code aI_116_11 = true := by decide +kernel
def aI_116_12 : sx_IL := [(83, .dup, 1), (84, .iconst 0, 1), (85, .iconst 0, 1), (86, .iastore, 1), (87, .dup, 1), (88, .iconst 1, 1)]
theorem aJ_116_12 : sx_iB prog_3_method_1_code aI_116_12 = true := by decide +kernel
def aI_116_13 : sx_IL := [(89, .iconst 0, 1), (90, .iastore, 1), (91, .dup, 1), (92, .iconst 2, 1), (93, .iconst 1, 1), (94, .iastore, 1)]
theorem aJ_116_13 : sx_iB prog_3_method_1_code aI_116_13 = true := by decide +kernel
def aI_116_14 : sx_IL := [(95, .dup, 1), (96, .iconst 3, 1), (97, .bipush 60, 2), (99, .iastore, 1), (100, .dup, 1), (101, .iconst 4, 1)]
theorem aJ_116_14 : sx_iB prog_3_method_1_code aI_116_14 = true := by decide +kernel
def aI_116_15 : sx_IL := [(102, .iconst 0, 1), (103, .iastore, 1), (104, .dup, 1), (105, .iconst 5, 1), (106, .iconst 1, 1), (107, .iastore, 1)]
theorem aJ_116_15 : sx_iB prog_3_method_1_code aI_116_15 = true := by decide +kernel
def aI_116_16 : sx_IL := [(108, .dup, 1), (109, .bipush 6, 2), (111, .iconst 0, 1), (112, .iastore, 1), (113, .dup, 1), (114, .bipush 7, 2)]
theorem aJ_116_16 : sx_iB prog_3_method_1_code aI_116_16 = true := by decide +kernel
def aI_116_17 : sx_IL := [(116, .iconst 2, 1), (117, .iastore, 1), (118, .putfield 15, 3), (121, .aload_n 0, 1), (122, .new 18, 3), (125, .dup, 1)]
theorem aJ_116_17 : sx_iB prog_3_method_1_code aI_116_17 = true := by decide +kernel
def aI_116_18 : sx_IL := [(126, .bipush 32, 2), (128, .invokespecial 20, 3), (131, .putfield 23, 3), (134, .aload_n 0, 1), (135, .bipush 30, 2), (137, .newarray .int, 2)]
theorem aJ_116_18 : sx_iB prog_3_method_1_code aI_116_18 = true := by decide +kernel
def aI_116_19 : sx_IL := [(139, .putfield 29, 3), (142, .aload_n 0, 1), (143, .iconst 4, 1), (144, .newarray .int, 2), (146, .putfield 32, 3), (149, .aload_n 0, 1)]
theorem aJ_116_19 : sx_iB prog_3_method_1_code aI_116_19 = true := by decide +kernel
def aI_116_20 : sx_IL := [(150, .new 18, 3), (153, .dup, 1), (154, .bipush 8, 2), (156, .invokespecial 20, 3), (159, .putfield 35, 3), (162, .aload_n 0, 1)]
theorem aJ_116_20 : sx_iB prog_3_method_1_code aI_116_20 = true := by decide +kernel
def aI_116_21 : sx_IL := [(163, .bipush 6, 2), (165, .anewarray 38, 3), (168, .putfield 40, 3), (171, .aload_n 0, 1), (172, .new 18, 3), (175, .dup, 1)]
theorem aJ_116_21 : sx_iB prog_3_method_1_code aI_116_21 = true := by decide +kernel
def aI_116_22 : sx_IL := [(176, .bipush 8, 2), (178, .invokespecial 20, 3), (181, .putfield 44, 3), (184, .aload_n 0, 1), (185, .bipush 20, 2), (187, .anewarray 38, 3)]
theorem aJ_116_22 : sx_iB prog_3_method_1_code aI_116_22 = true := by decide +kernel
def aI_116_23 : sx_IL := [(190, .putfield 47, 3), (193, .aload_n 0, 1), (194, .iload_n 1, 1), (195, .putfield 50, 3), (198, .return_, 1)]
theorem aJ_116_23 : sx_iB prog_3_method_1_code aI_116_23 = true := by decide +kernel
def aI_117_0 : sx_IL := [(0, .aload_n 0, 1), (1, .iload_n 1, 1), (2, .invokevirtual 216, 3), (5, .ifCond .eq 12, 3), (8, .iload_n 2, 1), (9, .ifCond .lt 8, 3)]
theorem aJ_117_0 : sx_iB prog_1_method_37_code aI_117_0 = true := by decide +kernel
def aI_117_1 : sx_IL := [(12, .iload_n 2, 1), (13, .iconst 2, 1), (14, .if_icmp .le 5, 3), (17, .iconst (-1), 1), (18, .ireturn, 1), (19, .iload_n 3, 1)]
theorem aJ_117_1 : sx_iB prog_1_method_37_code aI_117_1 = true := by decide +kernel
def aI_117_2 : sx_IL := [(20, .iload_n 2, 1), (21, .iconst 2, 1), (22, .if_icmp .ne 7, 3), (25, .iconst 2, 1), (26, .goto 4, 3), (29, .iconst 3, 1)]
theorem aJ_117_2 : sx_iB prog_1_method_37_code aI_117_2 = true := by decide +kernel
def aI_117_3 : sx_IL := [(30, .invokestatic 257, 3), (33, .istore 4, 2), (35, .iload 4, 2), (37, .ifCond .ne 5, 3), (40, .iconst (-1), 1), (41, .ireturn, 1)]
theorem aJ_117_3 : sx_iB prog_1_method_37_code aI_117_3 = true := by decide +kernel
def aI_117_4 : sx_IL := [(42, .aload_n 0, 1), (43, .getfield 34, 3), (46, .iload_n 1, 1), (47, .aaload, 1), (48, .iload_n 2, 1), (49, .iload_n 3, 1)]
theorem aJ_117_4 : sx_iB prog_1_method_37_code aI_117_4 = true := by decide +kernel
def aI_117_5 : sx_IL := [(50, .invokevirtual 260, 3), (53, .iload 4, 2), (55, .ireturn, 1)]
theorem aJ_117_5 : sx_iB prog_1_method_37_code aI_117_5 = true := by decide +kernel
def aI_120_0 : sx_IL := [(0, .aload_n 0, 1), (1, .iload_n 1, 1), (2, .invokevirtual 216, 3), (5, .ifCond .eq 17, 3), (8, .aload_n 0, 1), (9, .getfield 34, 3)]
theorem aJ_120_0 : sx_iB prog_1_method_38_code aI_120_0 = true := by decide +kernel
def aI_120_1 : sx_IL := [(12, .iload_n 1, 1), (13, .aaload, 1), (14, .iload_n 2, 1), (15, .iload_n 3, 1), (16, .invokevirtual 264, 3), (19, .ifCond .ne 5, 3)]
theorem aJ_120_1 : sx_iB prog_1_method_38_code aI_120_1 = true := by decide +kernel
def aI_120_2 : sx_IL := [(22, .iconst (-1), 1), (23, .ireturn, 1), (24, .aload_n 0, 1), (25, .getfield 34, 3), (28, .iload_n 1, 1), (29, .aaload, 1)]
theorem aJ_120_2 : sx_iB prog_1_method_38_code aI_120_2 = true := by decide +kernel
def aI_120_3 : sx_IL := [(30, .getfield 268, 3), (33, .iload_n 2, 1), (34, .iaload, 1), (35, .istore 4, 2), (37, .aload_n 0, 1), (38, .getfield 34, 3)]
theorem aJ_120_3 : sx_iB prog_1_method_38_code aI_120_3 = true := by decide +kernel
def aI_120_4 : sx_IL := [(41, .iload_n 1, 1), (42, .aaload, 1), (43, .getfield 268, 3), (46, .iload_n 2, 1), (47, .iload_n 3, 1), (48, .iastore, 1)]
theorem aJ_120_4 : sx_iB prog_1_method_38_code aI_120_4 = true := by decide +kernel
def aI_120_5 : sx_IL := [(49, .iload 4, 2), (51, .ireturn, 1)]
theorem aJ_120_5 : sx_iB prog_1_method_38_code aI_120_5 = true := by decide +kernel
def aI_122_0 : sx_IL := [(0, .aload_n 0, 1), (1, .iload_n 1, 1), (2, .invokevirtual 216, 3), (5, .ifCond .ne 5, 3), (8, .iconst (-1), 1), (9, .ireturn, 1)]
theorem aJ_122_0 : sx_iB prog_1_method_39_code aI_122_0 = true := by decide +kernel
def aI_122_1 : sx_IL := [(10, .aload_n 0, 1), (11, .getfield 34, 3), (14, .iload_n 1, 1), (15, .aaload, 1), (16, .getfield 271, 3), (19, .astore_n 2, 1)]
theorem aJ_122_1 : sx_iB prog_1_method_39_code aI_122_1 = true := by decide +kernel
def aI_122_2 : sx_IL := [(20, .aload_n 2, 1), (21, .getfield 69, 3), (24, .aload_n 0, 1), (25, .getfield 21, 3), (28, .getfield 69, 3), (31, .iadd, 1)]
theorem aJ_122_2 : sx_iB prog_1_method_39_code aI_122_2 = true := by decide +kernel
def aI_122_3 : sx_IL := [(32, .sipush 200, 3), (35, .if_icmp .le 6, 3), (38, .bipush (-3), 2), (40, .ireturn, 1), (41, .aload_n 2, 1), (42, .aload_n 0, 1)]
theorem aJ_122_3 : sx_iB prog_1_method_39_code aI_122_3 = true := by decide +kernel
def aI_122_4 : sx_IL := [(43, .getfield 21, 3), (46, .getfield 80, 3), (49, .iconst 0, 1), (50, .aload_n 0, 1), (51, .getfield 21, 3), (54, .getfield 69, 3)]
theorem aJ_122_4 : sx_iB prog_1_method_39_code aI_122_4 = true := by decide +kernel
def aI_122_5 : sx_IL := [(57, .invokevirtual 83, 3), (60, .aload_n 0, 1), (61, .getfield 21, 3), (64, .invokevirtual 108, 3), (67, .aload_n 2, 1), (68, .getfield 69, 3)]
theorem aJ_122_5 : sx_iB prog_1_method_39_code aI_122_5 = true := by decide +kernel
def aI_122_6 : sx_IL := [(71, .ireturn, 1)]
theorem aJ_122_6 : sx_iB prog_1_method_39_code aI_122_6 = true := by decide +kernel
def aI_123_0 : sx_IL := [(0, .aload_n 0, 1), (1, .iload_n 1, 1), (2, .invokevirtual 216, 3), (5, .ifCond .eq 11, 3), (8, .aload_n 0, 1), (9, .iload_n 2, 1)]
theorem aJ_123_0 : sx_iB prog_1_method_40_code aI_123_0 = true := by decide +kernel
def aI_123_1 : sx_IL := [(10, .invokevirtual 193, 3), (13, .ifCond .ne 5, 3), (16, .iconst (-1), 1), (17, .ireturn, 1), (18, .aload_n 0, 1), (19, .getfield 34, 3)]
theorem aJ_123_1 : sx_iB prog_1_method_40_code aI_123_1 = true := by decide +kernel
def aI_123_2 : sx_IL := [(22, .iload_n 1, 1), (23, .aaload, 1), (24, .iload_n 2, 1), (25, .invokevirtual 272, 3), (28, .ireturn, 1)]
theorem aJ_123_2 : sx_iB prog_1_method_40_code aI_123_2 = true := by decide +kernel
def aI_125_0 : sx_IL := [(0, .aload_n 0, 1), (1, .iload_n 1, 1), (2, .invokevirtual 216, 3), (5, .ifCond .eq 10, 3), (8, .iload_n 2, 1), (9, .invokestatic 149, 3)]
theorem aJ_125_0 : sx_iB prog_1_method_41_code aI_125_0 = true := by decide +kernel
def aI_125_1 : sx_IL := [(12, .ifCond .ne 5, 3), (15, .iconst (-1), 1), (16, .ireturn, 1), (17, .aload_n 0, 1), (18, .getfield 213, 3), (21, .iconst 1, 1)]
theorem aJ_125_1 : sx_iB prog_1_method_41_code aI_125_1 = true := by decide +kernel
def aI_125_2 : sx_IL := [(22, .if_icmp .lt 11, 3), (25, .aload_n 0, 1), (26, .getfield 213, 3), (29, .iconst 4, 1), (30, .if_icmp .le 6, 3), (33, .bipush (-2), 2)]
theorem aJ_125_2 : sx_iB prog_1_method_41_code aI_125_2 = true := by decide +kernel
def aI_125_3 : sx_IL := [(35, .ireturn, 1), (36, .aload_n 0, 1), (37, .getfield 10, 3), (40, .getfield 196, 3), (43, .aload_n 0, 1), (44, .getfield 28, 3)]
theorem aJ_125_3 : sx_iB prog_1_method_41_code aI_125_3 = true := by decide +kernel
def aI_125_4 : sx_IL := [(47, .iconst 0, 1), (48, .iaload, 1), (49, .aaload, 1), (50, .getfield 200, 3), (53, .iconst 4, 1), (54, .iaload, 1)]
theorem aJ_125_4 : sx_iB prog_1_method_41_code aI_125_4 = true := by decide +kernel
def aI_125_5 : sx_IL := [(55, .aload_n 0, 1), (56, .getfield 10, 3), (59, .getfield 98, 3), (62, .iload_n 2, 1), (63, .invokevirtual 152, 3), (66, .if_icmp .eq 6, 3)]
theorem aJ_125_5 : sx_iB prog_1_method_41_code aI_125_5 = true := by decide +kernel
def aI_125_6 : sx_IL := [(69, .bipush (-2), 2), (71, .ireturn, 1), (72, .aload_n 0, 1), (73, .getfield 34, 3), (76, .iload_n 1, 1), (77, .aaload, 1)]
theorem aJ_125_6 : sx_iB prog_1_method_41_code aI_125_6 = true := by decide +kernel
def aI_125_7 : sx_IL := [(78, .astore_n 3, 1), (79, .iconst 0, 1), (80, .istore 4, 2), (82, .iload 4, 2), (84, .aload_n 0, 1), (85, .getfield 213, 3)]
theorem aJ_125_7 : sx_iB prog_1_method_41_code aI_125_7 = true := by decide +kernel
def aI_125_8 : sx_IL := [(88, .if_icmp .ge 23, 3), (91, .aload_n 3, 1), (92, .getfield 275, 3), (95, .iload 4, 2), (97, .aload_n 0, 1), (98, .getfield 28, 3)]
theorem aJ_125_8 : sx_iB prog_1_method_41_code aI_125_8 = true := by decide +kernel
def aI_125_9 : sx_IL := [(101, .iload 4, 2), (103, .iaload, 1), (104, .iastore, 1), (105, .iinc 4 1, 3), (108, .goto (-26), 3), (111, .aload_n 3, 1)]
theorem aJ_125_9 : sx_iB prog_1_method_41_code aI_125_9 = true := by decide +kernel
def aI_125_10 : sx_IL := [(112, .aload_n 0, 1), (113, .getfield 213, 3), (116, .putfield 278, 3), (119, .aload_n 3, 1), (120, .iload_n 2, 1), (121, .putfield 281, 3)]
theorem aJ_125_10 : sx_iB prog_1_method_41_code aI_125_10 = true := by decide +kernel
def aI_125_11 : sx_IL := [(124, .aload_n 0, 1), (125, .iconst 0, 1), (126, .putfield 213, 3), (129, .aload_n 3, 1), (130, .getfield 278, 3), (133, .ireturn, 1)]
theorem aJ_125_11 : sx_iB prog_1_method_41_code aI_125_11 = true := by decide +kernel
def aI_126_0 : sx_IL := [(0, .aload_n 0, 1), (1, .iload_n 1, 1), (2, .invokevirtual 284, 3), (5, .ifCond .ne 5, 3), (8, .iconst (-1), 1), (9, .ireturn, 1)]
theorem aJ_126_0 : sx_iB prog_1_method_42_code aI_126_0 = true := by decide +kernel
def aI_126_1 : sx_IL := [(10, .aload_n 0, 1), (11, .getfield 21, 3), (14, .getfield 80, 3), (17, .iconst 0, 1), (18, .aload_n 0, 1), (19, .getfield 21, 3)]
theorem aJ_126_1 : sx_iB prog_1_method_42_code aI_126_1 = true := by decide +kernel
def aI_126_2 : sx_IL := [(22, .getfield 69, 3), (25, .invokestatic 287, 3), (28, .ifCond .lt 6, 3), (31, .bipush (-2), 2), (33, .ireturn, 1), (34, .aload_n 0, 1)]
theorem aJ_126_2 : sx_iB prog_1_method_42_code aI_126_2 = true := by decide +kernel
def aI_126_3 : sx_IL := [(35, .getfield 34, 3), (38, .iload_n 1, 1), (39, .aaload, 1), (40, .getfield 291, 3), (43, .invokevirtual 108, 3), (46, .aload_n 0, 1)]
theorem aJ_126_3 : sx_iB prog_1_method_42_code aI_126_3 = true := by decide +kernel
def aI_126_4 : sx_IL := [(47, .getfield 34, 3), (50, .iload_n 1, 1), (51, .aaload, 1), (52, .getfield 291, 3), (55, .aload_n 0, 1), (56, .getfield 21, 3)]
theorem aJ_126_4 : sx_iB prog_1_method_42_code aI_126_4 = true := by decide +kernel
def aI_126_5 : sx_IL := [(59, .getfield 80, 3), (62, .iconst 0, 1), (63, .aload_n 0, 1), (64, .getfield 21, 3), (67, .getfield 69, 3), (70, .invokevirtual 83, 3)]
theorem aJ_126_5 : sx_iB prog_1_method_42_code aI_126_5 = true := by decide +kernel
def aI_126_6 : sx_IL := [(73, .aload_n 0, 1), (74, .getfield 21, 3), (77, .invokevirtual 108, 3), (80, .iconst 1, 1), (81, .ireturn, 1)]
theorem aJ_126_6 : sx_iB prog_1_method_42_code aI_126_6 = true := by decide +kernel
def aI_127_0 : sx_IL := [(0, .aload_n 0, 1), (1, .iload_n 1, 1), (2, .invokevirtual 216, 3), (5, .ifCond .eq 19, 3), (8, .aload_n 0, 1), (9, .getfield 34, 3)]
theorem aJ_127_0 : sx_iB prog_1_method_36_code aI_127_0 = true := by decide +kernel
def aI_127_1 : sx_IL := [(12, .iload_n 1, 1), (13, .aaload, 1), (14, .getfield 254, 3), (17, .ifCond .ne 7, 3), (20, .iconst 1, 1), (21, .goto 4, 3)]
theorem aJ_127_1 : sx_iB prog_1_method_36_code aI_127_1 = true := by decide +kernel
def aI_127_2 : sx_IL := [(24, .iconst 0, 1), (25, .ireturn, 1)]
theorem aJ_127_2 : sx_iB prog_1_method_36_code aI_127_2 = true := by decide +kernel
def aI_128_0 : sx_IL := [(0, .aload_n 0, 1), (1, .iload_n 1, 1), (2, .invokevirtual 216, 3), (5, .ifCond .eq 10, 3), (8, .iload_n 2, 1), (9, .invokestatic 92, 3)]
theorem aJ_128_0 : sx_iB prog_1_method_43_code aI_128_0 = true := by decide +kernel
def aI_128_1 : sx_IL := [(12, .ifCond .ne 5, 3), (15, .iconst (-1), 1), (16, .ireturn, 1), (17, .aload_n 0, 1), (18, .getfield 21, 3), (21, .getfield 69, 3)]
theorem aJ_128_1 : sx_iB prog_1_method_43_code aI_128_1 = true := by decide +kernel
def aI_128_2 : sx_IL := [(24, .iconst 1, 1), (25, .if_icmp .lt 15, 3), (28, .aload_n 0, 1), (29, .getfield 21, 3), (32, .getfield 69, 3), (35, .bipush 16, 2)]
theorem aJ_128_2 : sx_iB prog_1_method_43_code aI_128_2 = true := by decide +kernel
def aI_128_3 : sx_IL := [(37, .if_icmp .le 6, 3), (40, .bipush (-2), 2), (42, .ireturn, 1), (43, .aload_n 0, 1), (44, .getfield 34, 3), (47, .iload_n 1, 1)]
theorem aJ_128_3 : sx_iB prog_1_method_43_code aI_128_3 = true := by decide +kernel
def aI_128_4 : sx_IL := [(48, .aaload, 1), (49, .getfield 294, 3), (52, .bipush 6, 2), (54, .if_icmp .lt 6, 3), (57, .bipush (-3), 2), (59, .ireturn, 1)]
theorem aJ_128_4 : sx_iB prog_1_method_43_code aI_128_4 = true := by decide +kernel
def aI_128_5 : sx_IL := [(60, .aload_n 0, 1), (61, .getfield 34, 3), (64, .iload_n 1, 1), (65, .aaload, 1), (66, .new 297, 3), (69, .dup, 1)]
theorem aJ_128_5 : sx_iB prog_1_method_43_code aI_128_5 = true := by decide +kernel
def aI_128_6 : sx_IL := [(70, .aload_n 0, 1), (71, .getfield 21, 3), (74, .iload_n 2, 1), (75, .lload_n 3, 1), (76, .invokespecial 299, 3), (79, .invokevirtual 302, 3)]
theorem aJ_128_6 : sx_iB prog_1_method_43_code aI_128_6 = true := by decide +kernel
def aI_128_7 : sx_IL := [(82, .aload_n 0, 1), (83, .getfield 21, 3), (86, .invokevirtual 108, 3), (89, .aload_n 0, 1), (90, .getfield 34, 3), (93, .iload_n 1, 1)]
theorem aJ_128_7 : sx_iB prog_1_method_43_code aI_128_7 = true := by decide +kernel
def aI_128_8 : sx_IL := [(94, .aaload, 1), (95, .getfield 294, 3), (98, .ireturn, 1)]
theorem aJ_128_8 : sx_iB prog_1_method_43_code aI_128_8 = true := by decide +kernel
def aI_131_0 : sx_IL := [(0, .aload_n 0, 1), (1, .iload_n 1, 1), (2, .invokevirtual 216, 3), (5, .ifCond .eq 20, 3), (8, .iload_n 2, 1), (9, .ifCond .lt 16, 3)]
theorem aJ_131_0 : sx_iB prog_1_method_44_code aI_131_0 = true := by decide +kernel
def aI_131_1 : sx_IL := [(12, .iload_n 2, 1), (13, .aload_n 0, 1), (14, .getfield 34, 3), (17, .iload_n 1, 1), (18, .aaload, 1), (19, .getfield 294, 3)]
theorem aJ_131_1 : sx_iB prog_1_method_44_code aI_131_1 = true := by decide +kernel
def aI_131_2 : sx_IL := [(22, .if_icmp .lt 5, 3), (25, .iconst (-1), 1), (26, .ireturn, 1), (27, .aload_n 0, 1), (28, .getfield 34, 3), (31, .iload_n 1, 1)]
theorem aJ_131_2 : sx_iB prog_1_method_44_code aI_131_2 = true := by decide +kernel
def aI_131_3 : sx_IL := [(32, .aaload, 1), (33, .iload_n 2, 1), (34, .invokevirtual 306, 3), (37, .ireturn, 1)]
theorem aJ_131_3 : sx_iB prog_1_method_44_code aI_131_3 = true := by decide +kernel
def aI_133_0 : sx_IL := [(0, .aload_n 0, 1), (1, .iload_n 1, 1), (2, .invokevirtual 216, 3), (5, .ifCond .eq 29, 3), (8, .iload_n 2, 1), (9, .ifCond .lt 25, 3)]
theorem aJ_133_0 : sx_iB prog_1_method_45_code aI_133_0 = true := by decide +kernel
def aI_133_1 : sx_IL := [(12, .iload_n 2, 1), (13, .aload_n 0, 1), (14, .getfield 34, 3), (17, .iload_n 1, 1), (18, .aaload, 1), (19, .getfield 294, 3)]
theorem aJ_133_1 : sx_iB prog_1_method_45_code aI_133_1 = true := by decide +kernel
def aI_133_2 : sx_IL := [(22, .if_icmp .ge 12, 3), (25, .iload_n 3, 1), (26, .ifCond .lt 8, 3), (29, .iload_n 3, 1), (30, .iconst 5, 1), (31, .if_icmp .le 5, 3)]
theorem aJ_133_2 : sx_iB prog_1_method_45_code aI_133_2 = true := by decide +kernel
def aI_133_3 : sx_IL := [(34, .iconst (-1), 1), (35, .ireturn, 1), (36, .aload_n 0, 1), (37, .getfield 34, 3), (40, .iload_n 1, 1), (41, .aaload, 1)]
theorem aJ_133_3 : sx_iB prog_1_method_45_code aI_133_3 = true := by decide +kernel
def aI_133_4 : sx_IL := [(42, .getfield 309, 3), (45, .iload_n 2, 1), (46, .aaload, 1), (47, .astore 4, 2), (49, .aload_n 0, 1), (50, .getfield 25, 3)]
theorem aJ_133_4 : sx_iB prog_1_method_45_code aI_133_4 = true := by decide +kernel
def aI_133_5 : sx_IL := [(53, .invokevirtual 108, 3), (56, .aload_n 0, 1), (57, .getfield 25, 3), (60, .aload 4, 2), (62, .getfield 313, 3), (65, .iconst 0, 1)]
theorem aJ_133_5 : sx_iB prog_1_method_45_code aI_133_5 = true := by decide +kernel
def aI_133_6 : sx_IL := [(66, .aload 4, 2), (68, .getfield 313, 3), (71, .arraylength, 1), (72, .invokevirtual 83, 3), (75, .aload 4, 2), (77, .iload_n 3, 1)]
theorem aJ_133_6 : sx_iB prog_1_method_45_code aI_133_6 = true := by decide +kernel
def aI_133_7 : sx_IL := [(78, .invokevirtual 316, 3), (81, .ireturn, 1)]
theorem aJ_133_7 : sx_iB prog_1_method_45_code aI_133_7 = true := by decide +kernel
def aI_135_0 : sx_IL := [(0, .aload_n 0, 1), (1, .iload_n 1, 1), (2, .invokevirtual 284, 3), (5, .ifCond .ne 5, 3), (8, .iconst (-1), 1), (9, .ireturn, 1)]
theorem aJ_135_0 : sx_iB prog_1_method_46_code aI_135_0 = true := by decide +kernel
def aI_135_1 : sx_IL := [(10, .aload_n 0, 1), (11, .getfield 21, 3), (14, .getfield 69, 3), (17, .sipush 400, 3), (20, .if_icmp .le 6, 3), (23, .bipush (-2), 2)]
theorem aJ_135_1 : sx_iB prog_1_method_46_code aI_135_1 = true := by decide +kernel
def aI_135_2 : sx_IL := [(25, .ireturn, 1), (26, .aload_n 0, 1), (27, .getfield 34, 3), (30, .iload_n 1, 1), (31, .aaload, 1), (32, .getfield 319, 3)]
theorem aJ_135_2 : sx_iB prog_1_method_46_code aI_135_2 = true := by decide +kernel
def aI_135_3 : sx_IL := [(35, .invokevirtual 108, 3), (38, .aload_n 0, 1), (39, .getfield 34, 3), (42, .iload_n 1, 1), (43, .aaload, 1), (44, .getfield 319, 3)]
theorem aJ_135_3 : sx_iB prog_1_method_46_code aI_135_3 = true := by decide +kernel
def aI_135_4 : sx_IL := [(47, .aload_n 0, 1), (48, .getfield 21, 3), (51, .getfield 80, 3), (54, .iconst 0, 1), (55, .aload_n 0, 1), (56, .getfield 21, 3)]
theorem aJ_135_4 : sx_iB prog_1_method_46_code aI_135_4 = true := by decide +kernel
def aI_135_5 : sx_IL := [(59, .getfield 69, 3), (62, .invokevirtual 83, 3), (65, .aload_n 0, 1), (66, .getfield 21, 3), (69, .invokevirtual 108, 3), (72, .aload_n 0, 1)]
theorem aJ_135_5 : sx_iB prog_1_method_46_code aI_135_5 = true := by decide +kernel
def aI_135_6 : sx_IL := [(73, .getfield 34, 3), (76, .iload_n 1, 1), (77, .aaload, 1), (78, .getfield 319, 3), (81, .getfield 69, 3), (84, .ireturn, 1)]
theorem aJ_135_6 : sx_iB prog_1_method_46_code aI_135_6 = true := by decide +kernel
def aI_136_0 : sx_IL := [(0, .iload_n 1, 1), (1, .iconst (-1), 1), (2, .if_icmp .eq 11, 3), (5, .aload_n 0, 1), (6, .iload_n 1, 1), (7, .invokevirtual 284, 3)]
theorem aJ_136_0 : sx_iB prog_1_method_47_code aI_136_0 = true := by decide +kernel
def aI_136_1 : sx_IL := [(10, .ifCond .eq 7, 3), (13, .iconst 1, 1), (14, .goto 4, 3), (17, .iconst 0, 1), (18, .istore_n 3, 1), (19, .iload_n 2, 1)]
theorem aJ_136_1 : sx_iB prog_1_method_47_code aI_136_1 = true := by decide +kernel
def aI_136_2 : sx_IL := [(20, .iconst (-1), 1), (21, .if_icmp .eq 23, 3), (24, .aload_n 0, 1), (25, .iload_n 2, 1), (26, .invokevirtual 216, 3), (29, .ifCond .eq 19, 3)]
theorem aJ_136_2 : sx_iB prog_1_method_47_code aI_136_2 = true := by decide +kernel
def aI_136_3 : sx_IL := [(32, .aload_n 0, 1), (33, .getfield 34, 3), (36, .iload_n 2, 1), (37, .aaload, 1), (38, .getfield 254, 3), (41, .ifCond .eq 7, 3)]
theorem aJ_136_3 : sx_iB prog_1_method_47_code aI_136_3 = true := by decide +kernel
def aI_136_4 : sx_IL := [(44, .iconst 1, 1), (45, .goto 4, 3), (48, .iconst 0, 1), (49, .istore 4, 2), (51, .iload_n 3, 1), (52, .ifCond .eq 18, 3)]
theorem aJ_136_4 : sx_iB prog_1_method_47_code aI_136_4 = true := by decide +kernel
def aI_136_5 : sx_IL := [(55, .iload 4, 2), (57, .ifCond .eq 13, 3), (60, .iload_n 1, 1), (61, .iconst (-1), 1), (62, .if_icmp .ne 10, 3), (65, .iload_n 2, 1)]
theorem aJ_136_5 : sx_iB prog_1_method_47_code aI_136_5 = true := by decide +kernel
def aI_136_6 : sx_IL := [(66, .iconst (-1), 1), (67, .if_icmp .ne 5, 3), (70, .iconst (-1), 1), (71, .ireturn, 1), (72, .aload_n 0, 1), (73, .getfield 322, 3)]
theorem aJ_136_6 : sx_iB prog_1_method_47_code aI_136_6 = true := by decide +kernel
def aI_136_7 : sx_IL := [(76, .bipush 12, 2), (78, .if_icmp .lt 6, 3), (81, .bipush (-3), 2), (83, .ireturn, 1), (84, .aload_n 0, 1), (85, .getfield 322, 3)]
theorem aJ_136_7 : sx_iB prog_1_method_47_code aI_136_7 = true := by decide +kernel
def aI_136_8 : sx_IL := [(88, .istore 5, 2), (90, .aload_n 0, 1), (91, .dup, 1), (92, .getfield 322, 3), (95, .iconst 1, 1), (96, .iadd, 1)]
theorem aJ_136_8 : sx_iB prog_1_method_47_code aI_136_8 = true := by decide +kernel
def aI_136_9 : sx_IL := [(97, .putfield 322, 3), (100, .iload_n 2, 1), (101, .iconst (-1), 1), (102, .if_icmp .eq 31, 3), (105, .aload_n 0, 1), (106, .getfield 40, 3)]
theorem aJ_136_9 : sx_iB prog_1_method_47_code aI_136_9 = true := by decide +kernel
def aI_136_10 : sx_IL := [(109, .iconst 2, 1), (110, .iload 5, 2), (112, .imul, 1), (113, .iconst 1, 1), (114, .iadd, 1), (115, .new 325, 3)]
theorem aJ_136_10 : sx_iB prog_1_method_47_code aI_136_10 = true := by decide +kernel
def aI_136_11 : sx_IL := [(118, .dup, 1), (119, .aload_n 0, 1), (120, .getfield 10, 3), (123, .aload_n 0, 1), (124, .getfield 34, 3), (127, .iload_n 2, 1)]
theorem aJ_136_11 : sx_iB prog_1_method_47_code aI_136_11 = true := by decide +kernel
def aI_136_12 : sx_IL := [(128, .aaload, 1), (129, .invokespecial 327, 3), (132, .aastore, 1), (133, .iload_n 1, 1), (134, .iconst (-1), 1), (135, .if_icmp .eq 38, 3)]
theorem aJ_136_12 : sx_iB prog_1_method_47_code aI_136_12 = true := by decide +kernel
def aI_136_13 : sx_IL := [(138, .new 330, 3), (141, .dup, 1), (142, .aload_n 0, 1), (143, .getfield 10, 3), (146, .aload_n 0, 1), (147, .getfield 34, 3)]
theorem aJ_136_13 : sx_iB prog_1_method_47_code aI_136_13 = true := by decide +kernel
def aI_136_14 : sx_IL := [(150, .iload_n 1, 1), (151, .aaload, 1), (152, .invokespecial 332, 3), (155, .astore 6, 2), (157, .aload_n 0, 1), (158, .getfield 40, 3)]
theorem aJ_136_14 : sx_iB prog_1_method_47_code aI_136_14 = true := by decide +kernel
def aI_136_15 : sx_IL := [(161, .iconst 2, 1), (162, .iload 5, 2), (164, .imul, 1), (165, .aload 6, 2), (167, .aastore, 1), (168, .aload 6, 2)]
theorem aJ_136_15 : sx_iB prog_1_method_47_code aI_136_15 = true := by decide +kernel
def aI_136_16 : sx_IL := [(170, .invokevirtual 333, 3), (173, .iload 5, 2), (175, .ireturn, 1)]
theorem aJ_136_16 : sx_iB prog_1_method_47_code aI_136_16 = true := by decide +kernel
def aI_143_0 : sx_IL := [(0, .aload_n 0, 1), (1, .iload_n 1, 1), (2, .invokevirtual 23, 3), (5, .bipush 24, 2), (7, .ishl, 1), (8, .aload_n 0, 1)]
theorem aJ_143_0 : sx_iB prog_9_method_5_code aI_143_0 = true := by decide +kernel
def aI_143_1 : sx_IL := [(9, .iload_n 1, 1), (10, .iconst 1, 1), (11, .iadd, 1), (12, .invokevirtual 23, 3), (15, .bipush 16, 2), (17, .ishl, 1)]
theorem aJ_143_1 : sx_iB prog_9_method_5_code aI_143_1 = true := by decide +kernel
def aI_143_2 : sx_IL := [(18, .ior, 1), (19, .aload_n 0, 1), (20, .iload_n 1, 1), (21, .iconst 2, 1), (22, .iadd, 1), (23, .invokevirtual 23, 3)]
theorem aJ_143_2 : sx_iB prog_9_method_5_code aI_143_2 = true := by decide +kernel
def aI_143_3 : sx_IL := [(26, .bipush 8, 2), (28, .ishl, 1), (29, .ior, 1), (30, .aload_n 0, 1), (31, .iload_n 1, 1), (32, .iconst 3, 1)]
theorem aJ_143_3 : sx_iB prog_9_method_5_code aI_143_3 = true := by decide +kernel
def aI_143_4 : sx_IL := [(33, .iadd, 1), (34, .invokevirtual 23, 3), (37, .ior, 1), (38, .ireturn, 1)]
theorem aJ_143_4 : sx_iB prog_9_method_5_code aI_143_4 = true := by decide +kernel
def aI_144_0 : sx_IL := [(0, .iconst 0, 1), (1, .iload_n 1, 1), (2, .aload_n 0, 1), (3, .getfield 19, 3), (6, .invokestatic 49, 3), (9, .invokestatic 7, 3)]
theorem aJ_144_0 : sx_iB prog_9_method_13_code aI_144_0 = true := by decide +kernel
def aI_144_1 : sx_IL := [(12, .istore_n 2, 1), (13, .aload_n 0, 1), (14, .getfield 13, 3), (17, .iload_n 2, 1), (18, .aload_n 0, 1), (19, .getfield 13, 3)]
theorem aJ_144_1 : sx_iB prog_9_method_13_code aI_144_1 = true := by decide +kernel
def aI_144_2 : sx_IL := [(22, .iconst 0, 1), (23, .aload_n 0, 1), (24, .getfield 19, 3), (27, .iload_n 2, 1), (28, .isub, 1), (29, .invokestatic 43, 3)]
theorem aJ_144_2 : sx_iB prog_9_method_13_code aI_144_2 = true := by decide +kernel
def aI_144_3 : sx_IL := [(32, .aload_n 0, 1), (33, .dup, 1), (34, .getfield 19, 3), (37, .iload_n 2, 1), (38, .isub, 1), (39, .putfield 19, 3)]
theorem aJ_144_3 : sx_iB prog_9_method_13_code aI_144_3 = true := by decide +kernel
def aI_144_4 : sx_IL := [(42, .return_, 1)]
theorem aJ_144_4 : sx_iB prog_9_method_13_code aI_144_4 = true := by decide +kernel
def aI_149_0 : sx_IL := [(0, .aload_n 0, 1), (1, .iload_n 1, 1), (2, .bipush 8, 2), (4, .iushr, 1), (5, .invokevirtual 39, 3), (8, .aload_n 0, 1)]
theorem aJ_149_0 : sx_iB prog_9_method_8_code aI_149_0 = true := by decide +kernel
def aI_149_1 : sx_IL := [(9, .iload_n 1, 1), (10, .invokevirtual 39, 3), (13, .return_, 1)]
theorem aJ_149_1 : sx_iB prog_9_method_8_code aI_149_1 = true := by decide +kernel
def aI_152_0 : sx_IL := [(0, .bipush 24, 2), (2, .istore_n 2, 1), (3, .iload_n 2, 1), (4, .ifCond .lt 16, 3), (7, .aload_n 0, 1), (8, .iload_n 1, 1)]
theorem aJ_152_0 : sx_iB prog_9_method_9_code aI_152_0 = true := by decide +kernel
def aI_152_1 : sx_IL := [(9, .iload_n 2, 1), (10, .iushr, 1), (11, .invokevirtual 39, 3), (14, .iinc 2 (-8), 3), (17, .goto (-14), 3), (20, .return_, 1)]
theorem aJ_152_1 : sx_iB prog_9_method_9_code aI_152_1 = true := by decide +kernel
def aI_160_0 : sx_IL := [(0, .aload_n 0, 1), (1, .iload_n 1, 1), (2, .lload_n 2, 1), (3, .invokevirtual 58, 3), (6, .aload_n 0, 1), (7, .lload 4, 2)]
theorem aJ_160_0 : sx_iB prog_6_method_16_code aI_160_0 = true := by decide +kernel
def aI_160_1 : sx_IL := [(9, .invokevirtual 66, 3), (12, .aload_n 0, 1), (13, .iload_n 1, 1), (14, .lload_n 2, 1), (15, .aload_n 0, 1), (16, .invokevirtual 49, 3)]
theorem aJ_160_1 : sx_iB prog_6_method_16_code aI_160_1 = true := by decide +kernel
def aI_160_2 : sx_IL := [(19, .invokevirtual 62, 3), (22, .lreturn, 1)]
theorem aJ_160_2 : sx_iB prog_6_method_16_code aI_160_2 = true := by decide +kernel
def aI_161_0 : sx_IL := [(0, .aload_n 0, 1), (1, .aload_n 1, 1), (2, .getfield 7, 3), (5, .putfield 7, 3), (8, .aload_n 0, 1), (9, .aload_n 1, 1)]
theorem aJ_161_0 : sx_iB prog_6_method_5_code aI_161_0 = true := by decide +kernel
def aI_161_1 : sx_IL := [(10, .getfield 13, 3), (13, .putfield 13, 3), (16, .aload_n 0, 1), (17, .aload_n 1, 1), (18, .getfield 16, 3), (21, .putfield 16, 3)]
theorem aJ_161_1 : sx_iB prog_6_method_5_code aI_161_1 = true := by decide +kernel
def aI_161_2 : sx_IL := [(24, .aload_n 0, 1), (25, .aload_n 1, 1), (26, .getfield 19, 3), (29, .putfield 19, 3), (32, .aload_n 0, 1), (33, .aload_n 1, 1)]
theorem aJ_161_2 : sx_iB prog_6_method_5_code aI_161_2 = true := by decide +kernel
def aI_161_3 : sx_IL := [(34, .getfield 25, 3), (37, .putfield 25, 3), (40, .aload_n 0, 1), (41, .aload_n 1, 1), (42, .getfield 22, 3), (45, .putfield 22, 3)]
theorem aJ_161_3 : sx_iB prog_6_method_5_code aI_161_3 = true := by decide +kernel
def aI_161_4 : sx_IL := [(48, .return_, 1)]
theorem aJ_161_4 : sx_iB prog_6_method_5_code aI_161_4 = true := by decide +kernel
def aI_167_0 : sx_IL := [(0, .aload_n 0, 1), (1, .iload_n 1, 1), (2, .iload_n 2, 1), (3, .invokevirtual 336, 3), (6, .ifCond .ne 5, 3), (9, .iconst (-1), 1)]
theorem aJ_167_0 : sx_iB prog_1_method_50_code aI_167_0 = true := by decide +kernel
def aI_167_1 : sx_IL := [(10, .ireturn, 1), (11, .aload_n 0, 1), (12, .iload_n 1, 1), (13, .iload_n 2, 1), (14, .invokevirtual 339, 3), (17, .astore_n 3, 1)]
theorem aJ_167_1 : sx_iB prog_1_method_50_code aI_167_1 = true := by decide +kernel
def aI_167_2 : sx_IL := [(18, .aload_n 3, 1), (19, .ifnonnull 6, 3), (22, .bipush (-2), 2), (24, .ireturn, 1), (25, .aload_n 3, 1), (26, .getfield 343, 3)]
theorem aJ_167_2 : sx_iB prog_1_method_50_code aI_167_2 = true := by decide +kernel
def aI_167_3 : sx_IL := [(29, .getfield 69, 3), (32, .sipush 2000, 3), (35, .if_icmp .le 6, 3), (38, .bipush (-3), 2), (40, .ireturn, 1), (41, .aload_n 3, 1)]
theorem aJ_167_3 : sx_iB prog_1_method_50_code aI_167_3 = true := by decide +kernel
def aI_167_4 : sx_IL := [(42, .aload_n 0, 1), (43, .getfield 21, 3), (46, .getfield 80, 3), (49, .iconst 0, 1), (50, .aload_n 0, 1), (51, .getfield 21, 3)]
theorem aJ_167_4 : sx_iB prog_1_method_50_code aI_167_4 = true := by decide +kernel
def aI_167_5 : sx_IL := [(54, .getfield 69, 3), (57, .invokevirtual 346, 3), (60, .aload_n 0, 1), (61, .getfield 21, 3), (64, .invokevirtual 108, 3), (67, .aload_n 3, 1)]
theorem aJ_167_5 : sx_iB prog_1_method_50_code aI_167_5 = true := by decide +kernel
def aI_167_6 : sx_IL := [(68, .getfield 343, 3), (71, .getfield 69, 3), (74, .ireturn, 1)]
theorem aJ_167_6 : sx_iB prog_1_method_50_code aI_167_6 = true := by decide +kernel
def aI_168_0 : sx_IL := [(0, .iload_n 1, 1), (1, .ifCond .lt 24, 3), (4, .iload_n 1, 1), (5, .aload_n 0, 1), (6, .getfield 322, 3), (9, .if_icmp .ge 16, 3)]
theorem aJ_168_0 : sx_iB prog_1_method_48_code aI_168_0 = true := by decide +kernel
def aI_168_1 : sx_IL := [(12, .iload_n 2, 1), (13, .ifCond .eq 8, 3), (16, .iload_n 2, 1), (17, .iconst 1, 1), (18, .if_icmp .ne 7, 3), (21, .iconst 1, 1)]
theorem aJ_168_1 : sx_iB prog_1_method_48_code aI_168_1 = true := by decide +kernel
def aI_168_2 : sx_IL := [(22, .goto 4, 3), (25, .iconst 0, 1), (26, .ireturn, 1)]
theorem aJ_168_2 : sx_iB prog_1_method_48_code aI_168_2 = true := by decide +kernel
def aI_169_0 : sx_IL := [(0, .aload_n 0, 1), (1, .iload_n 1, 1), (2, .iload_n 2, 1), (3, .invokevirtual 336, 3), (6, .ifCond .eq 16, 3), (9, .aload_n 0, 1)]
theorem aJ_169_0 : sx_iB prog_1_method_49_code aI_169_0 = true := by decide +kernel
def aI_169_1 : sx_IL := [(10, .getfield 40, 3), (13, .iconst 2, 1), (14, .iload_n 1, 1), (15, .imul, 1), (16, .iload_n 2, 1), (17, .iadd, 1)]
theorem aJ_169_1 : sx_iB prog_1_method_49_code aI_169_1 = true := by decide +kernel
def aI_169_2 : sx_IL := [(18, .aaload, 1), (19, .goto 4, 3), (22, .aconst_null, 1), (23, .areturn, 1)]
theorem aJ_169_2 : sx_iB prog_1_method_49_code aI_169_2 = true := by decide +kernel
