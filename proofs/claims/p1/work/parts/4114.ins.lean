/-! SX: instructions, rows of the class and the reference -/
def aI_419_0 : sx_IL := [(0, .iload_n 1, 1), (1, .i2l, 1), (2, .lconst 0, 1), (3, .aload_n 0, 1), (4, .getfield 916, 3), (7, .iconst 1, 1)]
theorem aJ_419_0 : sx_iB prog_14_method_114_code aI_419_0 = true := by decide +kernel
def aI_419_1 : sx_IL := [(8, .isub, 1), (9, .i2l, 1), (10, .invokestatic 513, 3), (13, .ireturn, 1)]
theorem aJ_419_1 : sx_iB prog_14_method_114_code aI_419_1 = true := by decide +kernel
def aI_429_0 : sx_IL := [(0, .aload_n 0, 1), (1, .iload_n 1, 1), (2, .invokevirtual 894, 3), (5, .ifCond .eq 24, 3), (8, .aload_n 0, 1), (9, .iload_n 2, 1)]
theorem aJ_429_0 : sx_iB prog_14_method_111_code aI_429_0 = true := by decide +kernel
def aI_429_1 : sx_IL := [(10, .invokevirtual 840, 3), (13, .ifCond .eq 16, 3), (16, .iload 4, 2), (18, .i2l, 1), (19, .lconst 0, 1), (20, .ldc2_w 631, 3)]
theorem aJ_429_1 : sx_iB prog_14_method_111_code aI_429_1 = true := by decide +kernel
def aI_429_2 : sx_IL := [(23, .invokestatic 513, 3), (26, .ifCond .ne 5, 3), (29, .iconst (-1), 1), (30, .ireturn, 1), (31, .aload_n 0, 1), (32, .iconst 0, 1)]
theorem aJ_429_2 : sx_iB prog_14_method_111_code aI_429_2 = true := by decide +kernel
def aI_429_3 : sx_IL := [(33, .putfield 855, 3), (36, .aload_n 0, 1), (37, .iconst 0, 1), (38, .putfield 891, 3), (41, .iconst 0, 1), (42, .istore 5, 2)]
theorem aJ_429_3 : sx_iB prog_14_method_111_code aI_429_3 = true := by decide +kernel
def aI_429_4 : sx_IL := [(44, .iload 5, 2), (46, .iconst 4, 1), (47, .if_icmp .ge 68, 3), (50, .aload_n 0, 1), (51, .getfield 891, 3), (54, .ifCond .ne 61, 3)]
theorem aJ_429_4 : sx_iB prog_14_method_111_code aI_429_4 = true := by decide +kernel
def aI_429_5 : sx_IL := [(57, .aload_n 0, 1), (58, .iload_n 1, 1), (59, .iload_n 2, 1), (60, .iload_n 3, 1), (61, .iload 4, 2), (63, .iload 5, 2)]
theorem aJ_429_5 : sx_iB prog_14_method_111_code aI_429_5 = true := by decide +kernel
def aI_429_6 : sx_IL := [(65, .invokevirtual 908, 3), (68, .ifCond .eq 41, 3), (71, .aload_n 0, 1), (72, .iload 5, 2), (74, .iconst 1, 1), (75, .iadd, 1)]
theorem aJ_429_6 : sx_iB prog_14_method_111_code aI_429_6 = true := by decide +kernel
def aI_429_7 : sx_IL := [(76, .putfield 891, 3), (79, .iconst 0, 1), (80, .istore 6, 2), (82, .iload 6, 2), (84, .iload 5, 2), (86, .if_icmp .gt 23, 3)]
theorem aJ_429_7 : sx_iB prog_14_method_111_code aI_429_7 = true := by decide +kernel
def aI_429_8 : sx_IL := [(89, .aload_n 0, 1), (90, .getfield 90, 3), (93, .iload 6, 2), (95, .aload_n 0, 1), (96, .getfield 87, 3), (99, .iload 6, 2)]
theorem aJ_429_8 : sx_iB prog_14_method_111_code aI_429_8 = true := by decide +kernel
def aI_429_9 : sx_IL := [(101, .iaload, 1), (102, .iastore, 1), (103, .iinc 6 1, 3), (106, .goto (-24), 3), (109, .iinc 5 1, 3), (112, .goto (-68), 3)]
theorem aJ_429_9 : sx_iB prog_14_method_111_code aI_429_9 = true := by decide +kernel
def aI_429_10 : sx_IL := [(115, .aload_n 0, 1), (116, .getfield 891, 3), (119, .ireturn, 1)]
theorem aJ_429_10 : sx_iB prog_14_method_111_code aI_429_10 = true := by decide +kernel
def aI_432_0 : sx_IL := [(0, .iload_n 1, 1), (1, .i2l, 1), (2, .lconst 0, 1), (3, .lconst 1, 1), (4, .invokestatic 513, 3), (7, .ifCond .ne 5, 3)]
theorem aJ_432_0 : sx_iB prog_14_method_116_code aI_432_0 = true := by decide +kernel
def aI_432_1 : sx_IL := [(10, .iconst (-1), 1), (11, .ireturn, 1), (12, .aload_n 0, 1), (13, .getfield 916, 3), (16, .bipush 8, 2), (18, .if_icmp .ne 6, 3)]
theorem aJ_432_1 : sx_iB prog_14_method_116_code aI_432_1 = true := by decide +kernel
def aI_432_2 : sx_IL := [(21, .bipush (-3), 2), (23, .ireturn, 1), (24, .aload_n 0, 1), (25, .getfield 916, 3), (28, .istore_n 2, 1), (29, .aload_n 0, 1)]
theorem aJ_432_2 : sx_iB prog_14_method_116_code aI_432_2 = true := by decide +kernel
def aI_432_3 : sx_IL := [(30, .getfield 93, 3), (33, .iload_n 2, 1), (34, .iload_n 1, 1), (35, .iastore, 1), (36, .iconst 0, 1), (37, .istore_n 3, 1)]
theorem aJ_432_3 : sx_iB prog_14_method_116_code aI_432_3 = true := by decide +kernel
def aI_432_4 : sx_IL := [(38, .iload_n 3, 1), (39, .iconst 3, 1), (40, .if_icmp .ge 64, 3), (43, .aload_n 0, 1), (44, .getfield 99, 3), (47, .iconst 3, 1)]
theorem aJ_432_4 : sx_iB prog_14_method_116_code aI_432_4 = true := by decide +kernel
def aI_432_5 : sx_IL := [(48, .iload_n 2, 1), (49, .imul, 1), (50, .iload_n 3, 1), (51, .iadd, 1), (52, .iload_n 3, 1), (53, .iconst 2, 1)]
theorem aJ_432_5 : sx_iB prog_14_method_116_code aI_432_5 = true := by decide +kernel
def aI_432_6 : sx_IL := [(54, .if_icmp .ne 7, 3), (57, .iconst 2, 1), (58, .goto 4, 3), (61, .iconst 3, 1), (62, .iastore, 1), (63, .iconst 0, 1)]
theorem aJ_432_6 : sx_iB prog_14_method_116_code aI_432_6 = true := by decide +kernel
def aI_432_7 : sx_IL := [(64, .istore 4, 2), (66, .iload 4, 2), (68, .iconst 3, 1), (69, .if_icmp .ge 29, 3), (72, .aload_n 0, 1), (73, .getfield 96, 3)]
theorem aJ_432_7 : sx_iB prog_14_method_116_code aI_432_7 = true := by decide +kernel
def aI_432_8 : sx_IL := [(76, .bipush 12, 2), (78, .iload_n 2, 1), (79, .imul, 1), (80, .iconst 4, 1), (81, .iload_n 3, 1), (82, .imul, 1)]
theorem aJ_432_8 : sx_iB prog_14_method_116_code aI_432_8 = true := by decide +kernel
def aI_432_9 : sx_IL := [(83, .iadd, 1), (84, .iload 4, 2), (86, .iadd, 1), (87, .iload 4, 2), (89, .iconst 1, 1), (90, .iadd, 1)]
theorem aJ_432_9 : sx_iB prog_14_method_116_code aI_432_9 = true := by decide +kernel
def aI_432_10 : sx_IL := [(91, .iastore, 1), (92, .iinc 4 1, 3), (95, .goto (-29), 3), (98, .iinc 3 1, 3), (101, .goto (-63), 3), (104, .aload_n 0, 1)]
theorem aJ_432_10 : sx_iB prog_14_method_116_code aI_432_10 = true := by decide +kernel
def aI_432_11 : sx_IL := [(105, .getfield 102, 3), (108, .bipush 8, 2), (110, .iload_n 2, 1), (111, .imul, 1), (112, .iconst 2, 1), (113, .iadd, 1)]
theorem aJ_432_11 : sx_iB prog_14_method_116_code aI_432_11 = true := by decide +kernel
def aI_432_12 : sx_IL := [(114, .iconst 1, 1), (115, .iastore, 1), (116, .aload_n 0, 1), (117, .getfield 102, 3), (120, .bipush 8, 2), (122, .iload_n 2, 1)]
theorem aJ_432_12 : sx_iB prog_14_method_116_code aI_432_12 = true := by decide +kernel
def aI_432_13 : sx_IL := [(123, .imul, 1), (124, .iconst 3, 1), (125, .iadd, 1), (126, .bipush 60, 2), (128, .iastore, 1), (129, .aload_n 0, 1)]
theorem aJ_432_13 : sx_iB prog_14_method_116_code aI_432_13 = true := by decide +kernel
def aI_432_14 : sx_IL := [(130, .getfield 102, 3), (133, .bipush 8, 2), (135, .iload_n 2, 1), (136, .imul, 1), (137, .iconst 5, 1), (138, .iadd, 1)]
theorem aJ_432_14 : sx_iB prog_14_method_116_code aI_432_14 = true := by decide +kernel
def aI_432_15 : sx_IL := [(139, .iconst 1, 1), (140, .iastore, 1), (141, .aload_n 0, 1), (142, .getfield 102, 3), (145, .bipush 8, 2), (147, .iload_n 2, 1)]
theorem aJ_432_15 : sx_iB prog_14_method_116_code aI_432_15 = true := by decide +kernel
def aI_432_16 : sx_IL := [(148, .imul, 1), (149, .bipush 7, 2), (151, .iadd, 1), (152, .iconst 2, 1), (153, .iastore, 1), (154, .aload_n 0, 1)]
theorem aJ_432_16 : sx_iB prog_14_method_116_code aI_432_16 = true := by decide +kernel
def aI_432_17 : sx_IL := [(155, .dup, 1), (156, .getfield 916, 3), (159, .iconst 1, 1), (160, .iadd, 1), (161, .putfield 916, 3), (164, .iload_n 2, 1)]
theorem aJ_432_17 : sx_iB prog_14_method_116_code aI_432_17 = true := by decide +kernel
def aI_432_18 : sx_IL := [(165, .ireturn, 1)]
theorem aJ_432_18 : sx_iB prog_14_method_116_code aI_432_18 = true := by decide +kernel
def aI_433_0 : sx_IL := [(0, .aload_n 0, 1), (1, .iload_n 1, 1), (2, .invokevirtual 894, 3), (5, .ifCond .eq 15, 3), (8, .iload_n 2, 1), (9, .i2l, 1)]
theorem aJ_433_0 : sx_iB prog_14_method_117_code aI_433_0 = true := by decide +kernel
def aI_433_1 : sx_IL := [(10, .lconst 0, 1), (11, .ldc2_w 631, 3), (14, .invokestatic 513, 3), (17, .ifCond .ne 5, 3), (20, .iconst (-1), 1), (21, .ireturn, 1)]
theorem aJ_433_1 : sx_iB prog_14_method_117_code aI_433_1 = true := by decide +kernel
def aI_433_2 : sx_IL := [(22, .iconst 0, 1), (23, .istore 4, 2), (25, .iconst 0, 1), (26, .istore 5, 2), (28, .iconst 1, 1), (29, .istore 6, 2)]
theorem aJ_433_2 : sx_iB prog_14_method_117_code aI_433_2 = true := by decide +kernel
def aI_433_3 : sx_IL := [(31, .iconst 3, 1), (32, .istore 7, 2), (34, .iload 7, 2), (36, .ifCond .lt 82, 3), (39, .iload_n 3, 1), (40, .bipush 8, 2)]
theorem aJ_433_3 : sx_iB prog_14_method_117_code aI_433_3 = true := by decide +kernel
def aI_433_4 : sx_IL := [(42, .iload 7, 2), (44, .imul, 1), (45, .iushr, 1), (46, .sipush 255, 3), (49, .iand, 1), (50, .istore 8, 2)]
theorem aJ_433_4 : sx_iB prog_14_method_117_code aI_433_4 = true := by decide +kernel
def aI_433_5 : sx_IL := [(52, .iload 8, 2), (54, .ifCond .eq 58, 3), (57, .iload 6, 2), (59, .ifCond .eq 35, 3), (62, .iload 8, 2), (64, .iload_n 2, 1)]
theorem aJ_433_5 : sx_iB prog_14_method_117_code aI_433_5 = true := by decide +kernel
def aI_433_6 : sx_IL := [(65, .iconst 2, 1), (66, .if_icmp .ne 7, 3), (69, .iconst 2, 1), (70, .goto 4, 3), (73, .iconst 3, 1), (74, .if_icmp .gt 20, 3)]
theorem aJ_433_6 : sx_iB prog_14_method_117_code aI_433_6 = true := by decide +kernel
def aI_433_7 : sx_IL := [(77, .iload 5, 2), (79, .iload 8, 2), (81, .bipush 7, 2), (83, .iand, 1), (84, .ishr, 1), (85, .iconst 1, 1)]
theorem aJ_433_7 : sx_iB prog_14_method_117_code aI_433_7 = true := by decide +kernel
def aI_433_8 : sx_IL := [(86, .iand, 1), (87, .ifCond .ne 7, 3), (90, .iconst 1, 1), (91, .goto 4, 3), (94, .iconst 0, 1), (95, .istore 6, 2)]
theorem aJ_433_8 : sx_iB prog_14_method_117_code aI_433_8 = true := by decide +kernel
def aI_433_9 : sx_IL := [(97, .iload 5, 2), (99, .iconst 1, 1), (100, .iload 8, 2), (102, .bipush 7, 2), (104, .iand, 1), (105, .ishl, 1)]
theorem aJ_433_9 : sx_iB prog_14_method_117_code aI_433_9 = true := by decide +kernel
def aI_433_10 : sx_IL := [(106, .ior, 1), (107, .istore 5, 2), (109, .iinc 4 1, 3), (112, .iinc 7 (-1), 3), (115, .goto (-81), 3), (118, .iload 6, 2)]
theorem aJ_433_10 : sx_iB prog_14_method_117_code aI_433_10 = true := by decide +kernel
def aI_433_11 : sx_IL := [(120, .ifCond .eq 8, 3), (123, .iload 4, 2), (125, .ifCond .ne 5, 3), (128, .iconst (-1), 1), (129, .ireturn, 1), (130, .iconst 0, 1)]
theorem aJ_433_11 : sx_iB prog_14_method_117_code aI_433_11 = true := by decide +kernel
def aI_433_12 : sx_IL := [(131, .istore 4, 2), (133, .iconst 3, 1), (134, .istore 7, 2), (136, .iload 7, 2), (138, .ifCond .lt 48, 3), (141, .iload_n 3, 1)]
theorem aJ_433_12 : sx_iB prog_14_method_117_code aI_433_12 = true := by decide +kernel
def aI_433_13 : sx_IL := [(142, .bipush 8, 2), (144, .iload 7, 2), (146, .imul, 1), (147, .iushr, 1), (148, .sipush 255, 3), (151, .iand, 1)]
theorem aJ_433_13 : sx_iB prog_14_method_117_code aI_433_13 = true := by decide +kernel
def aI_433_14 : sx_IL := [(152, .istore 8, 2), (154, .iload 8, 2), (156, .ifCond .eq 24, 3), (159, .aload_n 0, 1), (160, .getfield 96, 3), (163, .bipush 12, 2)]
theorem aJ_433_14 : sx_iB prog_14_method_117_code aI_433_14 = true := by decide +kernel
def aI_433_15 : sx_IL := [(165, .iload_n 1, 1), (166, .imul, 1), (167, .iconst 4, 1), (168, .iload_n 2, 1), (169, .imul, 1), (170, .iadd, 1)]
theorem aJ_433_15 : sx_iB prog_14_method_117_code aI_433_15 = true := by decide +kernel
def aI_433_16 : sx_IL := [(171, .iload 4, 2), (173, .iadd, 1), (174, .iload 8, 2), (176, .iastore, 1), (177, .iinc 4 1, 3), (180, .iinc 7 (-1), 3)]
theorem aJ_433_16 : sx_iB prog_14_method_117_code aI_433_16 = true := by decide +kernel
def aI_433_17 : sx_IL := [(183, .goto (-47), 3), (186, .aload_n 0, 1), (187, .getfield 99, 3), (190, .iconst 3, 1), (191, .iload_n 1, 1), (192, .imul, 1)]
theorem aJ_433_17 : sx_iB prog_14_method_117_code aI_433_17 = true := by decide +kernel
def aI_433_18 : sx_IL := [(193, .iload_n 2, 1), (194, .iadd, 1), (195, .iload 4, 2), (197, .iastore, 1), (198, .iload 4, 2), (200, .ireturn, 1)]
theorem aJ_433_18 : sx_iB prog_14_method_117_code aI_433_18 = true := by decide +kernel
def aI_434_0 : sx_IL := [(0, .aload_n 0, 1), (1, .iload_n 1, 1), (2, .invokevirtual 894, 3), (5, .ifCond .eq 15, 3), (8, .iload_n 2, 1), (9, .i2l, 1)]
theorem aJ_434_0 : sx_iB prog_14_method_119_code aI_434_0 = true := by decide +kernel
def aI_434_1 : sx_IL := [(10, .lconst 0, 1), (11, .ldc2_w 629, 3), (14, .invokestatic 513, 3), (17, .ifCond .ne 5, 3), (20, .iconst (-1), 1), (21, .ireturn, 1)]
theorem aJ_434_1 : sx_iB prog_14_method_119_code aI_434_1 = true := by decide +kernel
def aI_434_2 : sx_IL := [(22, .iload_n 2, 1), (23, .ifCond .eq 36, 3), (26, .iload_n 2, 1), (27, .bipush 6, 2), (29, .if_icmp .eq 30, 3), (32, .iload_n 2, 1)]
theorem aJ_434_2 : sx_iB prog_14_method_119_code aI_434_2 = true := by decide +kernel
def aI_434_3 : sx_IL := [(33, .iconst 5, 1), (34, .if_icmp .ne 15, 3), (37, .aload_n 0, 1), (38, .getfield 93, 3), (41, .iload_n 1, 1), (42, .iaload, 1)]
theorem aJ_434_3 : sx_iB prog_14_method_119_code aI_434_3 = true := by decide +kernel
def aI_434_4 : sx_IL := [(43, .ifCond .ne 20, 3), (46, .goto 13, 3), (49, .aload_n 0, 1), (50, .getfield 93, 3), (53, .iload_n 1, 1), (54, .iaload, 1)]
theorem aJ_434_4 : sx_iB prog_14_method_119_code aI_434_4 = true := by decide +kernel
def aI_434_5 : sx_IL := [(55, .iconst 1, 1), (56, .if_icmp .ne 7, 3), (59, .iconst 1, 1), (60, .goto 4, 3), (63, .iconst 0, 1), (64, .istore 4, 2)]
theorem aJ_434_5 : sx_iB prog_14_method_119_code aI_434_5 = true := by decide +kernel
def aI_434_6 : sx_IL := [(66, .iload_n 2, 1), (67, .iconst 1, 1), (68, .if_icmp .ne 7, 3), (71, .iconst 2, 1), (72, .goto 46, 3), (75, .iload_n 2, 1)]
theorem aJ_434_6 : sx_iB prog_14_method_119_code aI_434_6 = true := by decide +kernel
def aI_434_7 : sx_IL := [(76, .iconst 2, 1), (77, .if_icmp .ne 7, 3), (80, .iconst 3, 1), (81, .goto 37, 3), (84, .iload_n 2, 1), (85, .iconst 3, 1)]
theorem aJ_434_7 : sx_iB prog_14_method_119_code aI_434_7 = true := by decide +kernel
def aI_434_8 : sx_IL := [(86, .if_icmp .ne 9, 3), (89, .sipush 10000, 3), (92, .goto 26, 3), (95, .iload_n 2, 1), (96, .iconst 4, 1), (97, .if_icmp .ne 9, 3)]
theorem aJ_434_8 : sx_iB prog_14_method_119_code aI_434_8 = true := by decide +kernel
def aI_434_9 : sx_IL := [(100, .sipush 400, 3), (103, .goto 15, 3), (106, .iload_n 2, 1), (107, .bipush 7, 2), (109, .if_icmp .ne 8, 3), (112, .bipush 100, 2)]
theorem aJ_434_9 : sx_iB prog_14_method_119_code aI_434_9 = true := by decide +kernel
def aI_434_10 : sx_IL := [(114, .goto 4, 3), (117, .iconst 1, 1), (118, .istore 5, 2), (120, .iload 4, 2), (122, .ifCond .eq 15, 3), (125, .iload_n 3, 1)]
theorem aJ_434_10 : sx_iB prog_14_method_119_code aI_434_10 = true := by decide +kernel
def aI_434_11 : sx_IL := [(126, .i2l, 1), (127, .lconst 0, 1), (128, .iload 5, 2), (130, .i2l, 1), (131, .invokestatic 513, 3), (134, .ifCond .ne 5, 3)]
theorem aJ_434_11 : sx_iB prog_14_method_119_code aI_434_11 = true := by decide +kernel
def aI_434_12 : sx_IL := [(137, .iconst (-1), 1), (138, .ireturn, 1), (139, .aload_n 0, 1), (140, .getfield 102, 3), (143, .bipush 8, 2), (145, .iload_n 1, 1)]
theorem aJ_434_12 : sx_iB prog_14_method_119_code aI_434_12 = true := by decide +kernel
def aI_434_13 : sx_IL := [(146, .imul, 1), (147, .iload_n 2, 1), (148, .iadd, 1), (149, .iaload, 1), (150, .istore 6, 2), (152, .aload_n 0, 1)]
theorem aJ_434_13 : sx_iB prog_14_method_119_code aI_434_13 = true := by decide +kernel
def aI_434_14 : sx_IL := [(153, .getfield 102, 3), (156, .bipush 8, 2), (158, .iload_n 1, 1), (159, .imul, 1), (160, .iload_n 2, 1), (161, .iadd, 1)]
theorem aJ_434_14 : sx_iB prog_14_method_119_code aI_434_14 = true := by decide +kernel
def aI_434_15 : sx_IL := [(162, .iload_n 3, 1), (163, .iastore, 1), (164, .iload 6, 2), (166, .ireturn, 1)]
theorem aJ_434_15 : sx_iB prog_14_method_119_code aI_434_15 = true := by decide +kernel
def aI_435_0 : sx_IL := [(0, .aload_n 0, 1), (1, .iload_n 1, 1), (2, .invokevirtual 894, 3), (5, .ifCond .ne 5, 3), (8, .iconst (-1), 1), (9, .ireturn, 1)]
theorem aJ_435_0 : sx_iB prog_14_method_120_code aI_435_0 = true := by decide +kernel
def aI_435_1 : sx_IL := [(10, .aload_n 0, 1), (11, .getfield 108, 3), (14, .iload_n 1, 1), (15, .iaload, 1), (16, .aload_n 0, 1), (17, .getfield 517, 3)]
theorem aJ_435_1 : sx_iB prog_14_method_120_code aI_435_1 = true := by decide +kernel
def aI_435_2 : sx_IL := [(20, .iadd, 1), (21, .sipush 200, 3), (24, .if_icmp .le 6, 3), (27, .bipush (-3), 2), (29, .ireturn, 1), (30, .iconst 0, 1)]
theorem aJ_435_2 : sx_iB prog_14_method_120_code aI_435_2 = true := by decide +kernel
def aI_435_3 : sx_IL := [(31, .istore_n 2, 1), (32, .iload_n 2, 1), (33, .aload_n 0, 1), (34, .getfield 517, 3), (37, .if_icmp .ge 34, 3), (40, .aload_n 0, 1)]
theorem aJ_435_3 : sx_iB prog_14_method_120_code aI_435_3 = true := by decide +kernel
def aI_435_4 : sx_IL := [(41, .getfield 105, 3), (44, .sipush 200, 3), (47, .iload_n 1, 1), (48, .imul, 1), (49, .aload_n 0, 1), (50, .getfield 108, 3)]
theorem aJ_435_4 : sx_iB prog_14_method_120_code aI_435_4 = true := by decide +kernel
def aI_435_5 : sx_IL := [(53, .iload_n 1, 1), (54, .iaload, 1), (55, .iadd, 1), (56, .iload_n 2, 1), (57, .iadd, 1), (58, .aload_n 0, 1)]
theorem aJ_435_5 : sx_iB prog_14_method_120_code aI_435_5 = true := by decide +kernel
def aI_435_6 : sx_IL := [(59, .getfield 7, 3), (62, .iload_n 2, 1), (63, .iaload, 1), (64, .iastore, 1), (65, .iinc 2 1, 3), (68, .goto (-36), 3)]
theorem aJ_435_6 : sx_iB prog_14_method_120_code aI_435_6 = true := by decide +kernel
def aI_435_7 : sx_IL := [(71, .aload_n 0, 1), (72, .getfield 108, 3), (75, .iload_n 1, 1), (76, .dup2, 1), (77, .iaload, 1), (78, .aload_n 0, 1)]
theorem aJ_435_7 : sx_iB prog_14_method_120_code aI_435_7 = true := by decide +kernel
def aI_435_8 : sx_IL := [(79, .getfield 517, 3), (82, .iadd, 1), (83, .iastore, 1), (84, .aload_n 0, 1), (85, .iconst 0, 1), (86, .putfield 517, 3)]
theorem aJ_435_8 : sx_iB prog_14_method_120_code aI_435_8 = true := by decide +kernel
def aI_435_9 : sx_IL := [(89, .aload_n 0, 1), (90, .getfield 108, 3), (93, .iload_n 1, 1), (94, .iaload, 1), (95, .ireturn, 1)]
theorem aJ_435_9 : sx_iB prog_14_method_120_code aI_435_9 = true := by decide +kernel
def aI_436_0 : sx_IL := [(0, .aload_n 0, 1), (1, .iload_n 1, 1), (2, .invokevirtual 894, 3), (5, .ifCond .eq 11, 3), (8, .aload_n 0, 1), (9, .iload_n 2, 1)]
theorem aJ_436_0 : sx_iB prog_14_method_124_code aI_436_0 = true := by decide +kernel
def aI_436_1 : sx_IL := [(10, .invokevirtual 840, 3), (13, .ifCond .ne 5, 3), (16, .iconst (-1), 1), (17, .ireturn, 1), (18, .aload_n 0, 1), (19, .iload_n 1, 1)]
theorem aJ_436_1 : sx_iB prog_14_method_124_code aI_436_1 = true := by decide +kernel
def aI_436_2 : sx_IL := [(20, .iload_n 2, 1), (21, .invokevirtual 901, 3), (24, .ifCond .ne 30, 3), (27, .aload_n 0, 1), (28, .getfield 111, 3), (31, .bipush 30, 2)]
theorem aJ_436_2 : sx_iB prog_14_method_124_code aI_436_2 = true := by decide +kernel
def aI_436_3 : sx_IL := [(33, .iload_n 1, 1), (34, .imul, 1), (35, .aload_n 0, 1), (36, .getfield 114, 3), (39, .iload_n 1, 1), (40, .iaload, 1)]
theorem aJ_436_3 : sx_iB prog_14_method_124_code aI_436_3 = true := by decide +kernel
def aI_436_4 : sx_IL := [(41, .iadd, 1), (42, .iload_n 2, 1), (43, .iastore, 1), (44, .aload_n 0, 1), (45, .getfield 114, 3), (48, .iload_n 1, 1)]
theorem aJ_436_4 : sx_iB prog_14_method_124_code aI_436_4 = true := by decide +kernel
def aI_436_5 : sx_IL := [(49, .dup2, 1), (50, .iaload, 1), (51, .iconst 1, 1), (52, .iadd, 1), (53, .iastore, 1), (54, .aload_n 0, 1)]
theorem aJ_436_5 : sx_iB prog_14_method_124_code aI_436_5 = true := by decide +kernel
def aI_436_6 : sx_IL := [(55, .getfield 114, 3), (58, .iload_n 1, 1), (59, .iaload, 1), (60, .ireturn, 1)]
theorem aJ_436_6 : sx_iB prog_14_method_124_code aI_436_6 = true := by decide +kernel
def aI_437_0 : sx_IL := [(0, .aload_n 0, 1), (1, .iload_n 1, 1), (2, .invokevirtual 894, 3), (5, .ifCond .eq 10, 3), (8, .iload_n 2, 1), (9, .invokestatic 652, 3)]
theorem aJ_437_0 : sx_iB prog_14_method_125_code aI_437_0 = true := by decide +kernel
def aI_437_1 : sx_IL := [(12, .ifCond .ne 5, 3), (15, .iconst (-1), 1), (16, .ireturn, 1), (17, .aload_n 0, 1), (18, .getfield 891, 3), (21, .i2l, 1)]
theorem aJ_437_1 : sx_iB prog_14_method_125_code aI_437_1 = true := by decide +kernel
def aI_437_2 : sx_IL := [(22, .lconst 1, 1), (23, .ldc2_w 649, 3), (26, .invokestatic 513, 3), (29, .ifCond .eq 26, 3), (32, .iload_n 2, 1), (33, .invokestatic 656, 3)]
theorem aJ_437_2 : sx_iB prog_14_method_125_code aI_437_2 = true := by decide +kernel
def aI_437_3 : sx_IL := [(36, .aload_n 0, 1), (37, .getfield 45, 3), (40, .bipush 8, 2), (42, .aload_n 0, 1), (43, .getfield 90, 3), (46, .iconst 0, 1)]
theorem aJ_437_3 : sx_iB prog_14_method_125_code aI_437_3 = true := by decide +kernel
def aI_437_4 : sx_IL := [(47, .iaload, 1), (48, .imul, 1), (49, .iconst 4, 1), (50, .iadd, 1), (51, .iaload, 1), (52, .if_icmp .eq 6, 3)]
theorem aJ_437_4 : sx_iB prog_14_method_125_code aI_437_4 = true := by decide +kernel
def aI_437_5 : sx_IL := [(55, .bipush (-2), 2), (57, .ireturn, 1), (58, .aload_n 0, 1), (59, .getfield 120, 3), (62, .iload_n 1, 1), (63, .aload_n 0, 1)]
theorem aJ_437_5 : sx_iB prog_14_method_125_code aI_437_5 = true := by decide +kernel
def aI_437_6 : sx_IL := [(64, .getfield 891, 3), (67, .iastore, 1), (68, .iconst 0, 1), (69, .istore_n 3, 1), (70, .iload_n 3, 1), (71, .aload_n 0, 1)]
theorem aJ_437_6 : sx_iB prog_14_method_125_code aI_437_6 = true := by decide +kernel
def aI_437_7 : sx_IL := [(72, .getfield 891, 3), (75, .if_icmp .ge 25, 3), (78, .aload_n 0, 1), (79, .getfield 117, 3), (82, .iconst 4, 1), (83, .iload_n 1, 1)]
theorem aJ_437_7 : sx_iB prog_14_method_125_code aI_437_7 = true := by decide +kernel
def aI_437_8 : sx_IL := [(84, .imul, 1), (85, .iload_n 3, 1), (86, .iadd, 1), (87, .aload_n 0, 1), (88, .getfield 90, 3), (91, .iload_n 3, 1)]
theorem aJ_437_8 : sx_iB prog_14_method_125_code aI_437_8 = true := by decide +kernel
def aI_437_9 : sx_IL := [(92, .iaload, 1), (93, .iastore, 1), (94, .iinc 3 1, 3), (97, .goto (-27), 3), (100, .aload_n 0, 1), (101, .getfield 123, 3)]
theorem aJ_437_9 : sx_iB prog_14_method_125_code aI_437_9 = true := by decide +kernel
def aI_437_10 : sx_IL := [(104, .iload_n 1, 1), (105, .iload_n 2, 1), (106, .iastore, 1), (107, .aload_n 0, 1), (108, .iconst 0, 1), (109, .putfield 891, 3)]
theorem aJ_437_10 : sx_iB prog_14_method_125_code aI_437_10 = true := by decide +kernel
def aI_437_11 : sx_IL := [(112, .aload_n 0, 1), (113, .getfield 120, 3), (116, .iload_n 1, 1), (117, .iaload, 1), (118, .ireturn, 1)]
theorem aJ_437_11 : sx_iB prog_14_method_125_code aI_437_11 = true := by decide +kernel
def aI_438_0 : sx_IL := [(0, .aload_n 0, 1), (1, .iload_n 1, 1), (2, .invokevirtual 894, 3), (5, .ifCond .eq 12, 3), (8, .aload_n 0, 1), (9, .getfield 93, 3)]
theorem aJ_438_0 : sx_iB prog_14_method_126_code aI_438_0 = true := by decide +kernel
def aI_438_1 : sx_IL := [(12, .iload_n 1, 1), (13, .iaload, 1), (14, .ifCond .eq 5, 3), (17, .iconst (-1), 1), (18, .ireturn, 1), (19, .aload_n 0, 1)]
theorem aJ_438_1 : sx_iB prog_14_method_126_code aI_438_1 = true := by decide +kernel
def aI_438_2 : sx_IL := [(20, .getfield 7, 3), (23, .iconst 0, 1), (24, .aload_n 0, 1), (25, .getfield 517, 3), (28, .invokestatic 724, 3), (31, .bipush (-4), 2)]
theorem aJ_438_2 : sx_iB prog_14_method_126_code aI_438_2 = true := by decide +kernel
def aI_438_3 : sx_IL := [(33, .if_icmp .eq 6, 3), (36, .bipush (-2), 2), (38, .ireturn, 1), (39, .aload_n 0, 1), (40, .getfield 129, 3), (43, .iload_n 1, 1)]
theorem aJ_438_3 : sx_iB prog_14_method_126_code aI_438_3 = true := by decide +kernel
def aI_438_4 : sx_IL := [(44, .aload_n 0, 1), (45, .getfield 517, 3), (48, .iastore, 1), (49, .iconst 0, 1), (50, .istore_n 2, 1), (51, .iload_n 2, 1)]
theorem aJ_438_4 : sx_iB prog_14_method_126_code aI_438_4 = true := by decide +kernel
def aI_438_5 : sx_IL := [(52, .aload_n 0, 1), (53, .getfield 517, 3), (56, .if_icmp .ge 26, 3), (59, .aload_n 0, 1), (60, .getfield 126, 3), (63, .bipush 40, 2)]
theorem aJ_438_5 : sx_iB prog_14_method_126_code aI_438_5 = true := by decide +kernel
def aI_438_6 : sx_IL := [(65, .iload_n 1, 1), (66, .imul, 1), (67, .iload_n 2, 1), (68, .iadd, 1), (69, .aload_n 0, 1), (70, .getfield 7, 3)]
theorem aJ_438_6 : sx_iB prog_14_method_126_code aI_438_6 = true := by decide +kernel
def aI_438_7 : sx_IL := [(73, .iload_n 2, 1), (74, .iaload, 1), (75, .iastore, 1), (76, .iinc 2 1, 3), (79, .goto (-28), 3), (82, .aload_n 0, 1)]
theorem aJ_438_7 : sx_iB prog_14_method_126_code aI_438_7 = true := by decide +kernel
def aI_438_8 : sx_IL := [(83, .iconst 0, 1), (84, .putfield 517, 3), (87, .iconst 1, 1), (88, .ireturn, 1)]
theorem aJ_438_8 : sx_iB prog_14_method_126_code aI_438_8 = true := by decide +kernel
def aI_439_0 : sx_IL := [(0, .aload_n 0, 1), (1, .iload_n 1, 1), (2, .invokevirtual 894, 3), (5, .ifCond .eq 13, 3), (8, .iload_n 2, 1), (9, .i2l, 1)]
theorem aJ_439_0 : sx_iB prog_14_method_127_code aI_439_0 = true := by decide +kernel
def aI_439_1 : sx_IL := [(10, .lconst 0, 1), (11, .lconst 1, 1), (12, .invokestatic 513, 3), (15, .ifCond .ne 5, 3), (18, .iconst (-1), 1), (19, .ireturn, 1)]
theorem aJ_439_1 : sx_iB prog_14_method_127_code aI_439_1 = true := by decide +kernel
def aI_439_2 : sx_IL := [(20, .aload_n 0, 1), (21, .getfield 517, 3), (24, .i2l, 1), (25, .lconst 1, 1), (26, .ldc2_w 923, 3), (29, .invokestatic 513, 3)]
theorem aJ_439_2 : sx_iB prog_14_method_127_code aI_439_2 = true := by decide +kernel
def aI_439_3 : sx_IL := [(32, .ifCond .ne 6, 3), (35, .bipush (-2), 2), (37, .ireturn, 1), (38, .aload_n 0, 1), (39, .getfield 132, 3), (42, .iload_n 1, 1)]
theorem aJ_439_3 : sx_iB prog_14_method_127_code aI_439_3 = true := by decide +kernel
def aI_439_4 : sx_IL := [(43, .iaload, 1), (44, .bipush 6, 2), (46, .if_icmp .ne 6, 3), (49, .bipush (-3), 2), (51, .ireturn, 1), (52, .bipush 6, 2)]
theorem aJ_439_4 : sx_iB prog_14_method_127_code aI_439_4 = true := by decide +kernel
def aI_439_5 : sx_IL := [(54, .iload_n 1, 1), (55, .imul, 1), (56, .aload_n 0, 1), (57, .getfield 132, 3), (60, .iload_n 1, 1), (61, .iaload, 1)]
theorem aJ_439_5 : sx_iB prog_14_method_127_code aI_439_5 = true := by decide +kernel
def aI_439_6 : sx_IL := [(62, .iadd, 1), (63, .istore 5, 2), (65, .aload_n 0, 1), (66, .getfield 138, 3), (69, .iload 5, 2), (71, .aload_n 0, 1)]
theorem aJ_439_6 : sx_iB prog_14_method_127_code aI_439_6 = true := by decide +kernel
def aI_439_7 : sx_IL := [(72, .getfield 517, 3), (75, .iastore, 1), (76, .iconst 0, 1), (77, .istore 6, 2), (79, .iload 6, 2), (81, .aload_n 0, 1)]
theorem aJ_439_7 : sx_iB prog_14_method_127_code aI_439_7 = true := by decide +kernel
def aI_439_8 : sx_IL := [(82, .getfield 517, 3), (85, .if_icmp .ge 29, 3), (88, .aload_n 0, 1), (89, .getfield 135, 3), (92, .bipush 16, 2), (94, .iload 5, 2)]
theorem aJ_439_8 : sx_iB prog_14_method_127_code aI_439_8 = true := by decide +kernel
def aI_439_9 : sx_IL := [(96, .imul, 1), (97, .iload 6, 2), (99, .iadd, 1), (100, .aload_n 0, 1), (101, .getfield 7, 3), (104, .iload 6, 2)]
theorem aJ_439_9 : sx_iB prog_14_method_127_code aI_439_9 = true := by decide +kernel
def aI_439_10 : sx_IL := [(106, .iaload, 1), (107, .iastore, 1), (108, .iinc 6 1, 3), (111, .goto (-32), 3), (114, .aload_n 0, 1), (115, .iconst 0, 1)]
theorem aJ_439_10 : sx_iB prog_14_method_127_code aI_439_10 = true := by decide +kernel
def aI_439_11 : sx_IL := [(116, .putfield 517, 3), (119, .aload_n 0, 1), (120, .getfield 141, 3), (123, .iload 5, 2), (125, .lload_n 3, 1), (126, .lastore, 1)]
theorem aJ_439_11 : sx_iB prog_14_method_127_code aI_439_11 = true := by decide +kernel
def aI_439_12 : sx_IL := [(127, .aload_n 0, 1), (128, .getfield 144, 3), (131, .iload 5, 2), (133, .iload_n 2, 1), (134, .iastore, 1), (135, .aload_n 0, 1)]
theorem aJ_439_12 : sx_iB prog_14_method_127_code aI_439_12 = true := by decide +kernel
def aI_439_13 : sx_IL := [(136, .getfield 147, 3), (139, .iload 5, 2), (141, .iconst 0, 1), (142, .bastore, 1), (143, .iconst 0, 1), (144, .istore 6, 2)]
theorem aJ_439_13 : sx_iB prog_14_method_127_code aI_439_13 = true := by decide +kernel
def aI_439_14 : sx_IL := [(146, .iload 6, 2), (148, .iconst 5, 1), (149, .if_icmp .ge 22, 3), (152, .aload_n 0, 1), (153, .getfield 150, 3), (156, .iconst 5, 1)]
theorem aJ_439_14 : sx_iB prog_14_method_127_code aI_439_14 = true := by decide +kernel
def aI_439_15 : sx_IL := [(157, .iload 5, 2), (159, .imul, 1), (160, .iload 6, 2), (162, .iadd, 1), (163, .iconst 0, 1), (164, .iastore, 1)]
theorem aJ_439_15 : sx_iB prog_14_method_127_code aI_439_15 = true := by decide +kernel
def aI_439_16 : sx_IL := [(165, .iinc 6 1, 3), (168, .goto (-22), 3), (171, .aload_n 0, 1), (172, .getfield 132, 3), (175, .iload_n 1, 1), (176, .dup2, 1)]
theorem aJ_439_16 : sx_iB prog_14_method_127_code aI_439_16 = true := by decide +kernel
def aI_439_17 : sx_IL := [(177, .iaload, 1), (178, .iconst 1, 1), (179, .iadd, 1), (180, .iastore, 1), (181, .aload_n 0, 1), (182, .getfield 132, 3)]
theorem aJ_439_17 : sx_iB prog_14_method_127_code aI_439_17 = true := by decide +kernel
def aI_439_18 : sx_IL := [(185, .iload_n 1, 1), (186, .iaload, 1), (187, .ireturn, 1)]
theorem aJ_439_18 : sx_iB prog_14_method_127_code aI_439_18 = true := by decide +kernel
def aI_440_0 : sx_IL := [(0, .aload_n 0, 1), (1, .iload_n 1, 1), (2, .invokevirtual 894, 3), (5, .ifCond .eq 21, 3), (8, .iload_n 2, 1), (9, .i2l, 1)]
theorem aJ_440_0 : sx_iB prog_14_method_128_code aI_440_0 = true := by decide +kernel
def aI_440_1 : sx_IL := [(10, .lconst 0, 1), (11, .aload_n 0, 1), (12, .getfield 132, 3), (15, .iload_n 1, 1), (16, .iaload, 1), (17, .iconst 1, 1)]
theorem aJ_440_1 : sx_iB prog_14_method_128_code aI_440_1 = true := by decide +kernel
def aI_440_2 : sx_IL := [(18, .isub, 1), (19, .i2l, 1), (20, .invokestatic 513, 3), (23, .ifCond .ne 5, 3), (26, .iconst (-1), 1), (27, .ireturn, 1)]
theorem aJ_440_2 : sx_iB prog_14_method_128_code aI_440_2 = true := by decide +kernel
def aI_440_3 : sx_IL := [(28, .aload_n 0, 1), (29, .getfield 132, 3), (32, .iload_n 1, 1), (33, .dup2, 1), (34, .iaload, 1), (35, .iconst 1, 1)]
theorem aJ_440_3 : sx_iB prog_14_method_128_code aI_440_3 = true := by decide +kernel
def aI_440_4 : sx_IL := [(36, .isub, 1), (37, .iastore, 1), (38, .bipush 6, 2), (40, .iload_n 1, 1), (41, .imul, 1), (42, .iload_n 2, 1)]
theorem aJ_440_4 : sx_iB prog_14_method_128_code aI_440_4 = true := by decide +kernel
def aI_440_5 : sx_IL := [(43, .iadd, 1), (44, .istore_n 3, 1), (45, .iload_n 3, 1), (46, .bipush 6, 2), (48, .iload_n 1, 1), (49, .imul, 1)]
theorem aJ_440_5 : sx_iB prog_14_method_128_code aI_440_5 = true := by decide +kernel
def aI_440_6 : sx_IL := [(50, .aload_n 0, 1), (51, .getfield 132, 3), (54, .iload_n 1, 1), (55, .iaload, 1), (56, .iadd, 1), (57, .if_icmp .ge 147, 3)]
theorem aJ_440_6 : sx_iB prog_14_method_128_code aI_440_6 = true := by decide +kernel
def aI_440_7 : sx_IL := [(60, .aload_n 0, 1), (61, .getfield 138, 3), (64, .iload_n 3, 1), (65, .aload_n 0, 1), (66, .getfield 138, 3), (69, .iload_n 3, 1)]
theorem aJ_440_7 : sx_iB prog_14_method_128_code aI_440_7 = true := by decide +kernel
def aI_440_8 : sx_IL := [(70, .iconst 1, 1), (71, .iadd, 1), (72, .iaload, 1), (73, .iastore, 1), (74, .aload_n 0, 1), (75, .getfield 141, 3)]
theorem aJ_440_8 : sx_iB prog_14_method_128_code aI_440_8 = true := by decide +kernel
def aI_440_9 : sx_IL := [(78, .iload_n 3, 1), (79, .aload_n 0, 1), (80, .getfield 141, 3), (83, .iload_n 3, 1), (84, .iconst 1, 1), (85, .iadd, 1)]
theorem aJ_440_9 : sx_iB prog_14_method_128_code aI_440_9 = true := by decide +kernel
def aI_440_10 : sx_IL := [(86, .laload, 1), (87, .lastore, 1), (88, .aload_n 0, 1), (89, .getfield 144, 3), (92, .iload_n 3, 1), (93, .aload_n 0, 1)]
theorem aJ_440_10 : sx_iB prog_14_method_128_code aI_440_10 = true := by decide +kernel
def aI_440_11 : sx_IL := [(94, .getfield 144, 3), (97, .iload_n 3, 1), (98, .iconst 1, 1), (99, .iadd, 1), (100, .iaload, 1), (101, .iastore, 1)]
theorem aJ_440_11 : sx_iB prog_14_method_128_code aI_440_11 = true := by decide +kernel
def aI_440_12 : sx_IL := [(102, .aload_n 0, 1), (103, .getfield 147, 3), (106, .iload_n 3, 1), (107, .aload_n 0, 1), (108, .getfield 147, 3), (111, .iload_n 3, 1)]
theorem aJ_440_12 : sx_iB prog_14_method_128_code aI_440_12 = true := by decide +kernel
def aI_440_13 : sx_IL := [(112, .iconst 1, 1), (113, .iadd, 1), (114, .baload, 1), (115, .bastore, 1), (116, .iconst 0, 1), (117, .istore 4, 2)]
theorem aJ_440_13 : sx_iB prog_14_method_128_code aI_440_13 = true := by decide +kernel
def aI_440_14 : sx_IL := [(119, .iload 4, 2), (121, .bipush 16, 2), (123, .if_icmp .ge 36, 3), (126, .aload_n 0, 1), (127, .getfield 135, 3), (130, .bipush 16, 2)]
theorem aJ_440_14 : sx_iB prog_14_method_128_code aI_440_14 = true := by decide +kernel
def aI_440_15 : sx_IL := [(132, .iload_n 3, 1), (133, .imul, 1), (134, .iload 4, 2), (136, .iadd, 1), (137, .aload_n 0, 1), (138, .getfield 135, 3)]
theorem aJ_440_15 : sx_iB prog_14_method_128_code aI_440_15 = true := by decide +kernel
def aI_440_16 : sx_IL := [(141, .bipush 16, 2), (143, .iload_n 3, 1), (144, .imul, 1), (145, .bipush 16, 2), (147, .iadd, 1), (148, .iload 4, 2)]
theorem aJ_440_16 : sx_iB prog_14_method_128_code aI_440_16 = true := by decide +kernel
def aI_440_17 : sx_IL := [(150, .iadd, 1), (151, .iaload, 1), (152, .iastore, 1), (153, .iinc 4 1, 3), (156, .goto (-37), 3), (159, .iconst 0, 1)]
theorem aJ_440_17 : sx_iB prog_14_method_128_code aI_440_17 = true := by decide +kernel
def aI_440_18 : sx_IL := [(160, .istore 4, 2), (162, .iload 4, 2), (164, .iconst 5, 1), (165, .if_icmp .ge 33, 3), (168, .aload_n 0, 1), (169, .getfield 150, 3)]
theorem aJ_440_18 : sx_iB prog_14_method_128_code aI_440_18 = true := by decide +kernel
def aI_440_19 : sx_IL := [(172, .iconst 5, 1), (173, .iload_n 3, 1), (174, .imul, 1), (175, .iload 4, 2), (177, .iadd, 1), (178, .aload_n 0, 1)]
theorem aJ_440_19 : sx_iB prog_14_method_128_code aI_440_19 = true := by decide +kernel
def aI_440_20 : sx_IL := [(179, .getfield 150, 3), (182, .iconst 5, 1), (183, .iload_n 3, 1), (184, .imul, 1), (185, .iconst 5, 1), (186, .iadd, 1)]
theorem aJ_440_20 : sx_iB prog_14_method_128_code aI_440_20 = true := by decide +kernel
def aI_440_21 : sx_IL := [(187, .iload 4, 2), (189, .iadd, 1), (190, .iaload, 1), (191, .iastore, 1), (192, .iinc 4 1, 3), (195, .goto (-33), 3)]
theorem aJ_440_21 : sx_iB prog_14_method_128_code aI_440_21 = true := by decide +kernel
def aI_440_22 : sx_IL := [(198, .iinc 3 1, 3), (201, .goto (-156), 3), (204, .aload_n 0, 1), (205, .getfield 132, 3), (208, .iload_n 1, 1), (209, .iaload, 1)]
theorem aJ_440_22 : sx_iB prog_14_method_128_code aI_440_22 = true := by decide +kernel
def aI_440_23 : sx_IL := [(210, .ireturn, 1)]
theorem aJ_440_23 : sx_iB prog_14_method_128_code aI_440_23 = true := by decide +kernel
def aI_441_0 : sx_IL := [(0, .aload_n 0, 1), (1, .iload_n 1, 1), (2, .invokevirtual 894, 3), (5, .ifCond .eq 33, 3), (8, .iload_n 2, 1), (9, .i2l, 1)]
theorem aJ_441_0 : sx_iB prog_14_method_129_code aI_441_0 = true := by decide +kernel
def aI_441_1 : sx_IL := [(10, .lconst 0, 1), (11, .aload_n 0, 1), (12, .getfield 132, 3), (15, .iload_n 1, 1), (16, .iaload, 1), (17, .iconst 1, 1)]
theorem aJ_441_1 : sx_iB prog_14_method_129_code aI_441_1 = true := by decide +kernel
def aI_441_2 : sx_IL := [(18, .isub, 1), (19, .i2l, 1), (20, .invokestatic 513, 3), (23, .ifCond .eq 15, 3), (26, .iload_n 3, 1), (27, .i2l, 1)]
theorem aJ_441_2 : sx_iB prog_14_method_129_code aI_441_2 = true := by decide +kernel
def aI_441_3 : sx_IL := [(28, .lconst 0, 1), (29, .ldc2_w 925, 3), (32, .invokestatic 513, 3), (35, .ifCond .ne 5, 3), (38, .iconst (-1), 1), (39, .ireturn, 1)]
theorem aJ_441_3 : sx_iB prog_14_method_129_code aI_441_3 = true := by decide +kernel
def aI_441_4 : sx_IL := [(40, .bipush 6, 2), (42, .iload_n 1, 1), (43, .imul, 1), (44, .iload_n 2, 1), (45, .iadd, 1), (46, .istore 4, 2)]
theorem aJ_441_4 : sx_iB prog_14_method_129_code aI_441_4 = true := by decide +kernel
def aI_441_5 : sx_IL := [(48, .aload_n 0, 1), (49, .aload_n 0, 1), (50, .getfield 138, 3), (53, .iload 4, 2), (55, .iaload, 1), (56, .putfield 520, 3)]
theorem aJ_441_5 : sx_iB prog_14_method_129_code aI_441_5 = true := by decide +kernel
def aI_441_6 : sx_IL := [(59, .iconst 0, 1), (60, .istore 5, 2), (62, .iload 5, 2), (64, .aload_n 0, 1), (65, .getfield 520, 3), (68, .if_icmp .ge 29, 3)]
theorem aJ_441_6 : sx_iB prog_14_method_129_code aI_441_6 = true := by decide +kernel
def aI_441_7 : sx_IL := [(71, .aload_n 0, 1), (72, .getfield 13, 3), (75, .iload 5, 2), (77, .aload_n 0, 1), (78, .getfield 135, 3), (81, .bipush 16, 2)]
theorem aJ_441_7 : sx_iB prog_14_method_129_code aI_441_7 = true := by decide +kernel
def aI_441_8 : sx_IL := [(83, .iload 4, 2), (85, .imul, 1), (86, .iload 5, 2), (88, .iadd, 1), (89, .iaload, 1), (90, .iastore, 1)]
theorem aJ_441_8 : sx_iB prog_14_method_129_code aI_441_8 = true := by decide +kernel
def aI_441_9 : sx_IL := [(91, .iinc 5 1, 3), (94, .goto (-32), 3), (97, .iload_n 3, 1), (98, .ifCond .ne 13, 3), (101, .aload_n 0, 1), (102, .getfield 144, 3)]
theorem aJ_441_9 : sx_iB prog_14_method_129_code aI_441_9 = true := by decide +kernel
def aI_441_10 : sx_IL := [(105, .iload 4, 2), (107, .iaload, 1), (108, .goto 37, 3), (111, .iload_n 3, 1), (112, .iconst 5, 1), (113, .if_icmp .ne 21, 3)]
theorem aJ_441_10 : sx_iB prog_14_method_129_code aI_441_10 = true := by decide +kernel
def aI_441_11 : sx_IL := [(116, .aload_n 0, 1), (117, .getfield 147, 3), (120, .iload 4, 2), (122, .baload, 1), (123, .ifCond .eq 7, 3), (126, .iconst 1, 1)]
theorem aJ_441_11 : sx_iB prog_14_method_129_code aI_441_11 = true := by decide +kernel
def aI_441_12 : sx_IL := [(127, .goto 18, 3), (130, .iconst 0, 1), (131, .goto 14, 3), (134, .aload_n 0, 1), (135, .getfield 150, 3), (138, .iconst 5, 1)]
theorem aJ_441_12 : sx_iB prog_14_method_129_code aI_441_12 = true := by decide +kernel
def aI_441_13 : sx_IL := [(139, .iload 4, 2), (141, .imul, 1), (142, .iload_n 3, 1), (143, .iadd, 1), (144, .iaload, 1), (145, .ireturn, 1)]
theorem aJ_441_13 : sx_iB prog_14_method_129_code aI_441_13 = true := by decide +kernel
def aI_442_0 : sx_IL := [(0, .aload_n 0, 1), (1, .iload_n 1, 1), (2, .invokevirtual 894, 3), (5, .ifCond .eq 12, 3), (8, .aload_n 0, 1), (9, .getfield 93, 3)]
theorem aJ_442_0 : sx_iB prog_14_method_130_code aI_442_0 = true := by decide +kernel
def aI_442_1 : sx_IL := [(12, .iload_n 1, 1), (13, .iaload, 1), (14, .ifCond .eq 5, 3), (17, .iconst (-1), 1), (18, .ireturn, 1), (19, .aload_n 0, 1)]
theorem aJ_442_1 : sx_iB prog_14_method_130_code aI_442_1 = true := by decide +kernel
def aI_442_2 : sx_IL := [(20, .getfield 517, 3), (23, .sipush 400, 3), (26, .if_icmp .le 6, 3), (29, .bipush (-2), 2), (31, .ireturn, 1), (32, .aload_n 0, 1)]
theorem aJ_442_2 : sx_iB prog_14_method_130_code aI_442_2 = true := by decide +kernel
def aI_442_3 : sx_IL := [(33, .getfield 156, 3), (36, .iload_n 1, 1), (37, .aload_n 0, 1), (38, .getfield 517, 3), (41, .iastore, 1), (42, .iconst 0, 1)]
theorem aJ_442_3 : sx_iB prog_14_method_130_code aI_442_3 = true := by decide +kernel
def aI_442_4 : sx_IL := [(43, .istore_n 2, 1), (44, .iload_n 2, 1), (45, .aload_n 0, 1), (46, .getfield 517, 3), (49, .if_icmp .ge 27, 3), (52, .aload_n 0, 1)]
theorem aJ_442_4 : sx_iB prog_14_method_130_code aI_442_4 = true := by decide +kernel
def aI_442_5 : sx_IL := [(53, .getfield 153, 3), (56, .sipush 400, 3), (59, .iload_n 1, 1), (60, .imul, 1), (61, .iload_n 2, 1), (62, .iadd, 1)]
theorem aJ_442_5 : sx_iB prog_14_method_130_code aI_442_5 = true := by decide +kernel
def aI_442_6 : sx_IL := [(63, .aload_n 0, 1), (64, .getfield 7, 3), (67, .iload_n 2, 1), (68, .iaload, 1), (69, .iastore, 1), (70, .iinc 2 1, 3)]
theorem aJ_442_6 : sx_iB prog_14_method_130_code aI_442_6 = true := by decide +kernel
def aI_442_7 : sx_IL := [(73, .goto (-29), 3), (76, .aload_n 0, 1), (77, .iconst 0, 1), (78, .putfield 517, 3), (81, .aload_n 0, 1), (82, .getfield 156, 3)]
theorem aJ_442_7 : sx_iB prog_14_method_130_code aI_442_7 = true := by decide +kernel
def aI_442_8 : sx_IL := [(85, .iload_n 1, 1), (86, .iaload, 1), (87, .ireturn, 1)]
theorem aJ_442_8 : sx_iB prog_14_method_130_code aI_442_8 = true := by decide +kernel
def aI_443_0 : sx_IL := [(0, .aload_n 0, 1), (1, .iload_n 1, 1), (2, .invokevirtual 840, 3), (5, .ifCond .eq 22, 3), (8, .iload_n 2, 1), (9, .invokestatic 652, 3)]
theorem aJ_443_0 : sx_iB prog_14_method_132_code aI_443_0 = true := by decide +kernel
def aI_443_1 : sx_IL := [(12, .ifCond .eq 15, 3), (15, .iload_n 3, 1), (16, .i2l, 1), (17, .lconst 1, 1), (18, .ldc2_w 631, 3), (21, .invokestatic 513, 3)]
theorem aJ_443_1 : sx_iB prog_14_method_132_code aI_443_1 = true := by decide +kernel
def aI_443_2 : sx_IL := [(24, .ifCond .ne 5, 3), (27, .iconst (-1), 1), (28, .ireturn, 1), (29, .aload_n 0, 1), (30, .getfield 45, 3), (33, .bipush 8, 2)]
theorem aJ_443_2 : sx_iB prog_14_method_132_code aI_443_2 = true := by decide +kernel
def aI_443_3 : sx_IL := [(35, .iload_n 1, 1), (36, .imul, 1), (37, .iconst 5, 1), (38, .iadd, 1), (39, .iaload, 1), (40, .ifCond .eq 21, 3)]
theorem aJ_443_3 : sx_iB prog_14_method_132_code aI_443_3 = true := by decide +kernel
def aI_443_4 : sx_IL := [(43, .iload_n 2, 1), (44, .invokestatic 656, 3), (47, .aload_n 0, 1), (48, .getfield 45, 3), (51, .bipush 8, 2), (53, .iload_n 1, 1)]
theorem aJ_443_4 : sx_iB prog_14_method_132_code aI_443_4 = true := by decide +kernel
def aI_443_5 : sx_IL := [(54, .imul, 1), (55, .iconst 4, 1), (56, .iadd, 1), (57, .iaload, 1), (58, .if_icmp .eq 6, 3), (61, .bipush (-2), 2)]
theorem aJ_443_5 : sx_iB prog_14_method_132_code aI_443_5 = true := by decide +kernel
def aI_443_6 : sx_IL := [(63, .ireturn, 1), (64, .aload_n 0, 1), (65, .getfield 927, 3), (68, .iconst 4, 1), (69, .if_icmp .ne 6, 3), (72, .bipush (-3), 2)]
theorem aJ_443_6 : sx_iB prog_14_method_132_code aI_443_6 = true := by decide +kernel
def aI_443_7 : sx_IL := [(74, .ireturn, 1), (75, .aload_n 0, 1), (76, .getfield 189, 3), (79, .aload_n 0, 1), (80, .getfield 927, 3), (83, .iload_n 1, 1)]
theorem aJ_443_7 : sx_iB prog_14_method_132_code aI_443_7 = true := by decide +kernel
def aI_443_8 : sx_IL := [(84, .iastore, 1), (85, .aload_n 0, 1), (86, .getfield 192, 3), (89, .aload_n 0, 1), (90, .getfield 927, 3), (93, .iload_n 2, 1)]
theorem aJ_443_8 : sx_iB prog_14_method_132_code aI_443_8 = true := by decide +kernel
def aI_443_9 : sx_IL := [(94, .iastore, 1), (95, .aload_n 0, 1), (96, .getfield 195, 3), (99, .aload_n 0, 1), (100, .getfield 927, 3), (103, .iload_n 3, 1)]
theorem aJ_443_9 : sx_iB prog_14_method_132_code aI_443_9 = true := by decide +kernel
def aI_443_10 : sx_IL := [(104, .iastore, 1), (105, .aload_n 0, 1), (106, .getfield 198, 3), (109, .aload_n 0, 1), (110, .getfield 927, 3), (113, .iconst 1, 1)]
theorem aJ_443_10 : sx_iB prog_14_method_132_code aI_443_10 = true := by decide +kernel
def aI_443_11 : sx_IL := [(114, .iastore, 1), (115, .aload_n 0, 1), (116, .getfield 201, 3), (119, .aload_n 0, 1), (120, .getfield 927, 3), (123, .iconst 1, 1)]
theorem aJ_443_11 : sx_iB prog_14_method_132_code aI_443_11 = true := by decide +kernel
def aI_443_12 : sx_IL := [(124, .iastore, 1), (125, .aload_n 0, 1), (126, .getfield 204, 3), (129, .aload_n 0, 1), (130, .getfield 927, 3), (133, .iconst 1, 1)]
theorem aJ_443_12 : sx_iB prog_14_method_132_code aI_443_12 = true := by decide +kernel
def aI_443_13 : sx_IL := [(134, .iastore, 1), (135, .aload_n 0, 1), (136, .dup, 1), (137, .getfield 927, 3), (140, .iconst 1, 1), (141, .iadd, 1)]
theorem aJ_443_13 : sx_iB prog_14_method_132_code aI_443_13 = true := by decide +kernel
def aI_443_14 : sx_IL := [(142, .putfield 927, 3), (145, .aload_n 0, 1), (146, .getfield 927, 3), (149, .iconst 1, 1), (150, .isub, 1), (151, .ireturn, 1)]
theorem aJ_443_14 : sx_iB prog_14_method_132_code aI_443_14 = true := by decide +kernel
def aI_444_0 : sx_IL := [(0, .aload_n 0, 1), (1, .iload_n 1, 1), (2, .invokevirtual 930, 3), (5, .ifCond .ne 5, 3), (8, .iconst (-1), 1), (9, .ireturn, 1)]
theorem aJ_444_0 : sx_iB prog_14_method_133_code aI_444_0 = true := by decide +kernel
def aI_444_1 : sx_IL := [(10, .aload_n 0, 1), (11, .getfield 207, 3), (14, .iload_n 1, 1), (15, .iaload, 1), (16, .bipush 8, 2), (18, .if_icmp .ne 6, 3)]
theorem aJ_444_1 : sx_iB prog_14_method_133_code aI_444_1 = true := by decide +kernel
def aI_444_2 : sx_IL := [(21, .bipush (-3), 2), (23, .ireturn, 1), (24, .aload_n 0, 1), (25, .getfield 210, 3), (28, .bipush 8, 2), (30, .iload_n 1, 1)]
theorem aJ_444_2 : sx_iB prog_14_method_133_code aI_444_2 = true := by decide +kernel
def aI_444_3 : sx_IL := [(31, .imul, 1), (32, .aload_n 0, 1), (33, .getfield 207, 3), (36, .iload_n 1, 1), (37, .iaload, 1), (38, .iadd, 1)]
theorem aJ_444_3 : sx_iB prog_14_method_133_code aI_444_3 = true := by decide +kernel
def aI_444_4 : sx_IL := [(39, .lload_n 2, 1), (40, .lastore, 1), (41, .aload_n 0, 1), (42, .getfield 207, 3), (45, .iload_n 1, 1), (46, .dup2, 1)]
theorem aJ_444_4 : sx_iB prog_14_method_133_code aI_444_4 = true := by decide +kernel
def aI_444_5 : sx_IL := [(47, .iaload, 1), (48, .iconst 1, 1), (49, .iadd, 1), (50, .iastore, 1), (51, .aload_n 0, 1), (52, .getfield 207, 3)]
theorem aJ_444_5 : sx_iB prog_14_method_133_code aI_444_5 = true := by decide +kernel
def aI_444_6 : sx_IL := [(55, .iload_n 1, 1), (56, .iaload, 1), (57, .iconst 1, 1), (58, .isub, 1), (59, .ireturn, 1)]
theorem aJ_444_6 : sx_iB prog_14_method_133_code aI_444_6 = true := by decide +kernel
def aI_445_0 : sx_IL := [(0, .iload_n 1, 1), (1, .i2l, 1), (2, .lconst 0, 1), (3, .aload_n 0, 1), (4, .getfield 927, 3), (7, .iconst 1, 1)]
theorem aJ_445_0 : sx_iB prog_14_method_131_code aI_445_0 = true := by decide +kernel
def aI_445_1 : sx_IL := [(8, .isub, 1), (9, .i2l, 1), (10, .invokestatic 513, 3), (13, .ireturn, 1)]
theorem aJ_445_1 : sx_iB prog_14_method_131_code aI_445_1 = true := by decide +kernel
def aI_446_0 : sx_IL := [(0, .aload_n 0, 1), (1, .iload_n 1, 1), (2, .invokevirtual 930, 3), (5, .ifCond .eq 21, 3), (8, .iload_n 2, 1), (9, .i2l, 1)]
theorem aJ_446_0 : sx_iB prog_14_method_134_code aI_446_0 = true := by decide +kernel
def aI_446_1 : sx_IL := [(10, .lconst 0, 1), (11, .aload_n 0, 1), (12, .getfield 207, 3), (15, .iload_n 1, 1), (16, .iaload, 1), (17, .iconst 1, 1)]
theorem aJ_446_1 : sx_iB prog_14_method_134_code aI_446_1 = true := by decide +kernel
def aI_446_2 : sx_IL := [(18, .isub, 1), (19, .i2l, 1), (20, .invokestatic 513, 3), (23, .ifCond .ne 5, 3), (26, .iconst (-1), 1), (27, .ireturn, 1)]
theorem aJ_446_2 : sx_iB prog_14_method_134_code aI_446_2 = true := by decide +kernel
def aI_446_3 : sx_IL := [(28, .bipush 12, 2), (30, .iload_n 1, 1), (31, .imul, 1), (32, .aload_n 0, 1), (33, .getfield 213, 3), (36, .iload_n 1, 1)]
theorem aJ_446_3 : sx_iB prog_14_method_134_code aI_446_3 = true := by decide +kernel
def aI_446_4 : sx_IL := [(37, .iaload, 1), (38, .iadd, 1), (39, .istore_n 3, 1), (40, .iconst 0, 1), (41, .istore 4, 2), (43, .iconst 0, 1)]
theorem aJ_446_4 : sx_iB prog_14_method_134_code aI_446_4 = true := by decide +kernel
def aI_446_5 : sx_IL := [(44, .istore 5, 2), (46, .iconst 1, 1), (47, .istore 6, 2), (49, .iconst 0, 1), (50, .istore 7, 2), (52, .iload 7, 2)]
theorem aJ_446_5 : sx_iB prog_14_method_134_code aI_446_5 = true := by decide +kernel
def aI_446_6 : sx_IL := [(54, .aload_n 0, 1), (55, .getfield 517, 3), (58, .if_icmp .gt 163, 3), (61, .iload 6, 2), (63, .ifCond .eq 158, 3), (66, .iload 7, 2)]
theorem aJ_446_6 : sx_iB prog_14_method_134_code aI_446_6 = true := by decide +kernel
def aI_446_7 : sx_IL := [(68, .aload_n 0, 1), (69, .getfield 517, 3), (72, .if_icmp .eq 15, 3), (75, .aload_n 0, 1), (76, .getfield 7, 3), (79, .iload 7, 2)]
theorem aJ_446_7 : sx_iB prog_14_method_134_code aI_446_7 = true := by decide +kernel
def aI_446_8 : sx_IL := [(81, .iaload, 1), (82, .bipush 44, 2), (84, .if_icmp .ne 131, 3), (87, .iload 4, 2), (89, .iconst 3, 1), (90, .if_icmp .ge 24, 3)]
theorem aJ_446_8 : sx_iB prog_14_method_134_code aI_446_8 = true := by decide +kernel
def aI_446_9 : sx_IL := [(93, .aload_n 0, 1), (94, .getfield 7, 3), (97, .iload 5, 2), (99, .iload 7, 2), (101, .iload 5, 2), (103, .isub, 1)]
theorem aJ_446_9 : sx_iB prog_14_method_134_code aI_446_9 = true := by decide +kernel
def aI_446_10 : sx_IL := [(104, .invokestatic 774, 3), (107, .ifCond .eq 7, 3), (110, .iconst 1, 1), (111, .goto 4, 3), (114, .iconst 0, 1), (115, .istore 6, 2)]
theorem aJ_446_10 : sx_iB prog_14_method_134_code aI_446_10 = true := by decide +kernel
def aI_446_11 : sx_IL := [(117, .iconst 0, 1), (118, .istore 8, 2), (120, .iload 8, 2), (122, .iload 4, 2), (124, .if_icmp .ge 56, 3), (127, .iload 6, 2)]
theorem aJ_446_11 : sx_iB prog_14_method_134_code aI_446_11 = true := by decide +kernel
def aI_446_12 : sx_IL := [(129, .ifCond .eq 51, 3), (132, .aload_n 0, 1), (133, .getfield 7, 3), (136, .iload 5, 2), (138, .iload 7, 2), (140, .iload 5, 2)]
theorem aJ_446_12 : sx_iB prog_14_method_134_code aI_446_12 = true := by decide +kernel
def aI_446_13 : sx_IL := [(142, .isub, 1), (143, .aload_n 0, 1), (144, .getfield 7, 3), (147, .aload_n 0, 1), (148, .getfield 255, 3), (151, .iload 8, 2)]
theorem aJ_446_13 : sx_iB prog_14_method_134_code aI_446_13 = true := by decide +kernel
def aI_446_14 : sx_IL := [(153, .iaload, 1), (154, .aload_n 0, 1), (155, .getfield 258, 3), (158, .iload 8, 2), (160, .iaload, 1), (161, .invokestatic 847, 3)]
theorem aJ_446_14 : sx_iB prog_14_method_134_code aI_446_14 = true := by decide +kernel
def aI_446_15 : sx_IL := [(164, .ifCond .ne 7, 3), (167, .iconst 1, 1), (168, .goto 4, 3), (171, .iconst 0, 1), (172, .istore 6, 2), (174, .iinc 8 1, 3)]
theorem aJ_446_15 : sx_iB prog_14_method_134_code aI_446_15 = true := by decide +kernel
def aI_446_16 : sx_IL := [(177, .goto (-57), 3), (180, .iload 6, 2), (182, .ifCond .eq 27, 3), (185, .aload_n 0, 1), (186, .getfield 255, 3), (189, .iload 4, 2)]
theorem aJ_446_16 : sx_iB prog_14_method_134_code aI_446_16 = true := by decide +kernel
def aI_446_17 : sx_IL := [(191, .iload 5, 2), (193, .iastore, 1), (194, .aload_n 0, 1), (195, .getfield 258, 3), (198, .iload 4, 2), (200, .iload 7, 2)]
theorem aJ_446_17 : sx_iB prog_14_method_134_code aI_446_17 = true := by decide +kernel
def aI_446_18 : sx_IL := [(202, .iload 5, 2), (204, .isub, 1), (205, .iastore, 1), (206, .iinc 4 1, 3), (209, .iload 7, 2), (211, .iconst 1, 1)]
theorem aJ_446_18 : sx_iB prog_14_method_134_code aI_446_18 = true := by decide +kernel
def aI_446_19 : sx_IL := [(212, .iadd, 1), (213, .istore 5, 2), (215, .iinc 7 1, 3), (218, .goto (-166), 3), (221, .iload 6, 2), (223, .ifCond .ne 6, 3)]
theorem aJ_446_19 : sx_iB prog_14_method_134_code aI_446_19 = true := by decide +kernel
def aI_446_20 : sx_IL := [(226, .bipush (-2), 2), (228, .ireturn, 1), (229, .aload_n 0, 1), (230, .getfield 213, 3), (233, .iload_n 1, 1), (234, .iaload, 1)]
theorem aJ_446_20 : sx_iB prog_14_method_134_code aI_446_20 = true := by decide +kernel
def aI_446_21 : sx_IL := [(235, .bipush 12, 2), (237, .if_icmp .ne 6, 3), (240, .bipush (-3), 2), (242, .ireturn, 1), (243, .iconst 0, 1), (244, .istore 7, 2)]
theorem aJ_446_21 : sx_iB prog_14_method_134_code aI_446_21 = true := by decide +kernel
def aI_446_22 : sx_IL := [(246, .iload 7, 2), (248, .iload 4, 2), (250, .if_icmp .ge 111, 3), (253, .iconst 3, 1), (254, .iload_n 3, 1), (255, .imul, 1)]
theorem aJ_446_22 : sx_iB prog_14_method_134_code aI_446_22 = true := by decide +kernel
def aI_446_23 : sx_IL := [(256, .iload 7, 2), (258, .iadd, 1), (259, .istore 8, 2), (261, .aload_n 0, 1), (262, .getfield 231, 3), (265, .iload 8, 2)]
theorem aJ_446_23 : sx_iB prog_14_method_134_code aI_446_23 = true := by decide +kernel
def aI_446_24 : sx_IL := [(267, .aload_n 0, 1), (268, .getfield 258, 3), (271, .iload 7, 2), (273, .iaload, 1), (274, .iastore, 1), (275, .iconst 0, 1)]
theorem aJ_446_24 : sx_iB prog_14_method_134_code aI_446_24 = true := by decide +kernel
def aI_446_25 : sx_IL := [(276, .istore 9, 2), (278, .iload 9, 2), (280, .aload_n 0, 1), (281, .getfield 258, 3), (284, .iload 7, 2), (286, .iaload, 1)]
theorem aJ_446_25 : sx_iB prog_14_method_134_code aI_446_25 = true := by decide +kernel
def aI_446_26 : sx_IL := [(287, .if_icmp .ge 37, 3), (290, .aload_n 0, 1), (291, .getfield 228, 3), (294, .bipush 42, 2), (296, .iload 8, 2), (298, .imul, 1)]
theorem aJ_446_26 : sx_iB prog_14_method_134_code aI_446_26 = true := by decide +kernel
def aI_446_27 : sx_IL := [(299, .iload 9, 2), (301, .iadd, 1), (302, .aload_n 0, 1), (303, .getfield 7, 3), (306, .aload_n 0, 1), (307, .getfield 255, 3)]
theorem aJ_446_27 : sx_iB prog_14_method_134_code aI_446_27 = true := by decide +kernel
def aI_446_28 : sx_IL := [(310, .iload 7, 2), (312, .iaload, 1), (313, .iload 9, 2), (315, .iadd, 1), (316, .iaload, 1), (317, .iastore, 1)]
theorem aJ_446_28 : sx_iB prog_14_method_134_code aI_446_28 = true := by decide +kernel
def aI_446_29 : sx_IL := [(318, .iinc 9 1, 3), (321, .goto (-43), 3), (324, .aload_n 0, 1), (325, .getfield 234, 3), (328, .iload 8, 2), (330, .aload_n 0, 1)]
theorem aJ_446_29 : sx_iB prog_14_method_134_code aI_446_29 = true := by decide +kernel
def aI_446_30 : sx_IL := [(331, .getfield 204, 3), (334, .iload_n 1, 1), (335, .iaload, 1), (336, .iastore, 1), (337, .aload_n 0, 1), (338, .getfield 204, 3)]
theorem aJ_446_30 : sx_iB prog_14_method_134_code aI_446_30 = true := by decide +kernel
def aI_446_31 : sx_IL := [(341, .iload_n 1, 1), (342, .dup2, 1), (343, .iaload, 1), (344, .iconst 1, 1), (345, .iadd, 1), (346, .iastore, 1)]
theorem aJ_446_31 : sx_iB prog_14_method_134_code aI_446_31 = true := by decide +kernel
def aI_446_32 : sx_IL := [(347, .aload_n 0, 1), (348, .getfield 237, 3), (351, .iload 8, 2), (353, .iconst 0, 1), (354, .iastore, 1), (355, .iinc 7 1, 3)]
theorem aJ_446_32 : sx_iB prog_14_method_134_code aI_446_32 = true := by decide +kernel
def aI_446_33 : sx_IL := [(358, .goto (-112), 3), (361, .aload_n 0, 1), (362, .iconst 0, 1), (363, .putfield 517, 3), (366, .aload_n 0, 1), (367, .getfield 225, 3)]
theorem aJ_446_33 : sx_iB prog_14_method_134_code aI_446_33 = true := by decide +kernel
def aI_446_34 : sx_IL := [(370, .iload_n 3, 1), (371, .iload 4, 2), (373, .iastore, 1), (374, .aload_n 0, 1), (375, .getfield 216, 3), (378, .iload_n 3, 1)]
theorem aJ_446_34 : sx_iB prog_14_method_134_code aI_446_34 = true := by decide +kernel
def aI_446_35 : sx_IL := [(379, .iload_n 2, 1), (380, .iastore, 1), (381, .aload_n 0, 1), (382, .getfield 219, 3), (385, .iload_n 3, 1), (386, .iconst 0, 1)]
theorem aJ_446_35 : sx_iB prog_14_method_134_code aI_446_35 = true := by decide +kernel
def aI_446_36 : sx_IL := [(387, .iastore, 1), (388, .aload_n 0, 1), (389, .getfield 222, 3), (392, .iload_n 3, 1), (393, .bipush (-4), 2), (395, .iastore, 1)]
theorem aJ_446_36 : sx_iB prog_14_method_134_code aI_446_36 = true := by decide +kernel
def aI_446_37 : sx_IL := [(396, .aload_n 0, 1), (397, .getfield 213, 3), (400, .iload_n 1, 1), (401, .dup2, 1), (402, .iaload, 1), (403, .iconst 1, 1)]
theorem aJ_446_37 : sx_iB prog_14_method_134_code aI_446_37 = true := by decide +kernel
def aI_446_38 : sx_IL := [(404, .iadd, 1), (405, .iastore, 1), (406, .aload_n 0, 1), (407, .getfield 213, 3), (410, .iload_n 1, 1), (411, .iaload, 1)]
theorem aJ_446_38 : sx_iB prog_14_method_134_code aI_446_38 = true := by decide +kernel
def aI_446_39 : sx_IL := [(412, .iconst 1, 1), (413, .isub, 1), (414, .ireturn, 1)]
theorem aJ_446_39 : sx_iB prog_14_method_134_code aI_446_39 = true := by decide +kernel
def aI_447_0 : sx_IL := [(0, .aload_n 0, 1), (1, .iload_n 1, 1), (2, .iload_n 2, 1), (3, .invokevirtual 933, 3), (6, .ifCond .ne 5, 3), (9, .iconst (-1), 1)]
theorem aJ_447_0 : sx_iB prog_14_method_136_code aI_447_0 = true := by decide +kernel
def aI_447_1 : sx_IL := [(10, .ireturn, 1), (11, .bipush 12, 2), (13, .iload_n 1, 1), (14, .imul, 1), (15, .iload_n 2, 1), (16, .iadd, 1)]
theorem aJ_447_1 : sx_iB prog_14_method_136_code aI_447_1 = true := by decide +kernel
def aI_447_2 : sx_IL := [(17, .istore 4, 2), (19, .iload_n 3, 1), (20, .i2l, 1), (21, .lconst 0, 1), (22, .ldc2_w 609, 3), (25, .invokestatic 513, 3)]
theorem aJ_447_2 : sx_iB prog_14_method_136_code aI_447_2 = true := by decide +kernel
def aI_447_3 : sx_IL := [(28, .ifCond .eq 55, 3), (31, .iload_n 3, 1), (32, .ifCond .ne 13, 3), (35, .aload_n 0, 1), (36, .getfield 219, 3), (39, .iload 4, 2)]
theorem aJ_447_3 : sx_iB prog_14_method_136_code aI_447_3 = true := by decide +kernel
def aI_447_4 : sx_IL := [(41, .iaload, 1), (42, .goto 40, 3), (45, .iload_n 3, 1), (46, .iconst 1, 1), (47, .if_icmp .ne 13, 3), (50, .aload_n 0, 1)]
theorem aJ_447_4 : sx_iB prog_14_method_136_code aI_447_4 = true := by decide +kernel
def aI_447_5 : sx_IL := [(51, .getfield 216, 3), (54, .iload 4, 2), (56, .iaload, 1), (57, .goto 25, 3), (60, .iload_n 3, 1), (61, .iconst 2, 1)]
theorem aJ_447_5 : sx_iB prog_14_method_136_code aI_447_5 = true := by decide +kernel
def aI_447_6 : sx_IL := [(62, .if_icmp .ne 13, 3), (65, .aload_n 0, 1), (66, .getfield 225, 3), (69, .iload 4, 2), (71, .iaload, 1), (72, .goto 10, 3)]
theorem aJ_447_6 : sx_iB prog_14_method_136_code aI_447_6 = true := by decide +kernel
def aI_447_7 : sx_IL := [(75, .aload_n 0, 1), (76, .getfield 222, 3), (79, .iload 4, 2), (81, .iaload, 1), (82, .ireturn, 1), (83, .iload_n 3, 1)]
theorem aJ_447_7 : sx_iB prog_14_method_136_code aI_447_7 = true := by decide +kernel
def aI_447_8 : sx_IL := [(84, .i2l, 1), (85, .ldc2_w 845, 3), (88, .bipush 9, 2), (90, .aload_n 0, 1), (91, .getfield 225, 3), (94, .iload 4, 2)]
theorem aJ_447_8 : sx_iB prog_14_method_136_code aI_447_8 = true := by decide +kernel
def aI_447_9 : sx_IL := [(96, .iaload, 1), (97, .iadd, 1), (98, .i2l, 1), (99, .invokestatic 513, 3), (102, .ifCond .eq 18, 3), (105, .aload_n 0, 1)]
theorem aJ_447_9 : sx_iB prog_14_method_136_code aI_447_9 = true := by decide +kernel
def aI_447_10 : sx_IL := [(106, .getfield 234, 3), (109, .iconst 3, 1), (110, .iload 4, 2), (112, .imul, 1), (113, .iload_n 3, 1), (114, .iadd, 1)]
theorem aJ_447_10 : sx_iB prog_14_method_136_code aI_447_10 = true := by decide +kernel
def aI_447_11 : sx_IL := [(115, .bipush 10, 2), (117, .isub, 1), (118, .iaload, 1), (119, .ireturn, 1), (120, .iload_n 3, 1), (121, .i2l, 1)]
theorem aJ_447_11 : sx_iB prog_14_method_136_code aI_447_11 = true := by decide +kernel
def aI_447_12 : sx_IL := [(122, .ldc2_w 936, 3), (125, .bipush 19, 2), (127, .aload_n 0, 1), (128, .getfield 225, 3), (131, .iload 4, 2), (133, .iaload, 1)]
theorem aJ_447_12 : sx_iB prog_14_method_136_code aI_447_12 = true := by decide +kernel
def aI_447_13 : sx_IL := [(134, .iadd, 1), (135, .i2l, 1), (136, .invokestatic 513, 3), (139, .ifCond .eq 20, 3), (142, .aload_n 0, 1), (143, .getfield 237, 3)]
theorem aJ_447_13 : sx_iB prog_14_method_136_code aI_447_13 = true := by decide +kernel
def aI_447_14 : sx_IL := [(146, .iconst 3, 1), (147, .iload 4, 2), (149, .imul, 1), (150, .iload_n 3, 1), (151, .iadd, 1), (152, .bipush 20, 2)]
theorem aJ_447_14 : sx_iB prog_14_method_136_code aI_447_14 = true := by decide +kernel
def aI_447_15 : sx_IL := [(154, .isub, 1), (155, .iaload, 1), (156, .goto 4, 3), (159, .iconst (-1), 1), (160, .ireturn, 1)]
theorem aJ_447_15 : sx_iB prog_14_method_136_code aI_447_15 = true := by decide +kernel
def aI_448_0 : sx_IL := [(0, .aload_n 0, 1), (1, .iload_n 1, 1), (2, .invokevirtual 930, 3), (5, .ifCond .eq 25, 3), (8, .iload_n 2, 1), (9, .i2l, 1)]
theorem aJ_448_0 : sx_iB prog_14_method_135_code aI_448_0 = true := by decide +kernel
def aI_448_1 : sx_IL := [(10, .lconst 0, 1), (11, .aload_n 0, 1), (12, .getfield 213, 3), (15, .iload_n 1, 1), (16, .iaload, 1), (17, .iconst 1, 1)]
theorem aJ_448_1 : sx_iB prog_14_method_135_code aI_448_1 = true := by decide +kernel
def aI_448_2 : sx_IL := [(18, .isub, 1), (19, .i2l, 1), (20, .invokestatic 513, 3), (23, .ifCond .eq 7, 3), (26, .iconst 1, 1), (27, .goto 4, 3)]
theorem aJ_448_2 : sx_iB prog_14_method_135_code aI_448_2 = true := by decide +kernel
def aI_448_3 : sx_IL := [(30, .iconst 0, 1), (31, .ireturn, 1)]
theorem aJ_448_3 : sx_iB prog_14_method_135_code aI_448_3 = true := by decide +kernel
def aI_449_0 : sx_IL := [(0, .aload_n 0, 1), (1, .getfield 7, 3), (4, .iconst 0, 1), (5, .aload_n 0, 1), (6, .getfield 517, 3), (9, .invokestatic 724, 3)]
theorem aJ_449_0 : sx_iB prog_14_method_137_code aI_449_0 = true := by decide +kernel
def aI_449_1 : sx_IL := [(12, .bipush (-4), 2), (14, .if_icmp .eq 6, 3), (17, .bipush (-2), 2), (19, .ireturn, 1), (20, .aload_n 0, 1), (21, .getfield 938, 3)]
theorem aJ_449_1 : sx_iB prog_14_method_137_code aI_449_1 = true := by decide +kernel
def aI_449_2 : sx_IL := [(24, .istore_n 3, 1), (25, .iconst 0, 1), (26, .istore 4, 2), (28, .iload 4, 2), (30, .aload_n 0, 1), (31, .getfield 938, 3)]
theorem aJ_449_2 : sx_iB prog_14_method_137_code aI_449_2 = true := by decide +kernel
def aI_449_3 : sx_IL := [(34, .if_icmp .ge 47, 3), (37, .aload_n 0, 1), (38, .getfield 7, 3), (41, .iconst 0, 1), (42, .aload_n 0, 1), (43, .getfield 517, 3)]
theorem aJ_449_3 : sx_iB prog_14_method_137_code aI_449_3 = true := by decide +kernel
def aI_449_4 : sx_IL := [(46, .aload_n 0, 1), (47, .getfield 246, 3), (50, .bipush 40, 2), (52, .iload 4, 2), (54, .imul, 1), (55, .aload_n 0, 1)]
theorem aJ_449_4 : sx_iB prog_14_method_137_code aI_449_4 = true := by decide +kernel
def aI_449_5 : sx_IL := [(56, .getfield 249, 3), (59, .iload 4, 2), (61, .iaload, 1), (62, .invokestatic 847, 3), (65, .ifCond .eq 8, 3), (68, .iload 4, 2)]
theorem aJ_449_5 : sx_iB prog_14_method_137_code aI_449_5 = true := by decide +kernel
def aI_449_6 : sx_IL := [(70, .goto 4, 3), (73, .iload_n 3, 1), (74, .istore_n 3, 1), (75, .iinc 4 1, 3), (78, .goto (-50), 3), (81, .iload_n 3, 1)]
theorem aJ_449_6 : sx_iB prog_14_method_137_code aI_449_6 = true := by decide +kernel
def aI_449_7 : sx_IL := [(82, .bipush 16, 2), (84, .if_icmp .ne 6, 3), (87, .bipush (-3), 2), (89, .ireturn, 1), (90, .aload_n 0, 1), (91, .getfield 249, 3)]
theorem aJ_449_7 : sx_iB prog_14_method_137_code aI_449_7 = true := by decide +kernel
def aI_449_8 : sx_IL := [(94, .iload_n 3, 1), (95, .aload_n 0, 1), (96, .getfield 517, 3), (99, .iastore, 1), (100, .iconst 0, 1), (101, .istore 4, 2)]
theorem aJ_449_8 : sx_iB prog_14_method_137_code aI_449_8 = true := by decide +kernel
def aI_449_9 : sx_IL := [(103, .iload 4, 2), (105, .aload_n 0, 1), (106, .getfield 517, 3), (109, .if_icmp .ge 28, 3), (112, .aload_n 0, 1), (113, .getfield 246, 3)]
theorem aJ_449_9 : sx_iB prog_14_method_137_code aI_449_9 = true := by decide +kernel
def aI_449_10 : sx_IL := [(116, .bipush 40, 2), (118, .iload_n 3, 1), (119, .imul, 1), (120, .iload 4, 2), (122, .iadd, 1), (123, .aload_n 0, 1)]
theorem aJ_449_10 : sx_iB prog_14_method_137_code aI_449_10 = true := by decide +kernel
def aI_449_11 : sx_IL := [(124, .getfield 7, 3), (127, .iload 4, 2), (129, .iaload, 1), (130, .iastore, 1), (131, .iinc 4 1, 3), (134, .goto (-31), 3)]
theorem aJ_449_11 : sx_iB prog_14_method_137_code aI_449_11 = true := by decide +kernel
def aI_449_12 : sx_IL := [(137, .aload_n 0, 1), (138, .getfield 252, 3), (141, .iload_n 3, 1), (142, .lload_n 1, 1), (143, .lastore, 1), (144, .aload_n 0, 1)]
theorem aJ_449_12 : sx_iB prog_14_method_137_code aI_449_12 = true := by decide +kernel
def aI_449_13 : sx_IL := [(145, .iload_n 3, 1), (146, .aload_n 0, 1), (147, .getfield 938, 3), (150, .if_icmp .ne 12, 3), (153, .aload_n 0, 1), (154, .getfield 938, 3)]
theorem aJ_449_13 : sx_iB prog_14_method_137_code aI_449_13 = true := by decide +kernel
def aI_449_14 : sx_IL := [(157, .iconst 1, 1), (158, .iadd, 1), (159, .goto 7, 3), (162, .aload_n 0, 1), (163, .getfield 938, 3), (166, .putfield 938, 3)]
theorem aJ_449_14 : sx_iB prog_14_method_137_code aI_449_14 = true := by decide +kernel
def aI_449_15 : sx_IL := [(169, .aload_n 0, 1), (170, .iconst 0, 1), (171, .putfield 517, 3), (174, .aload_n 0, 1), (175, .getfield 938, 3), (178, .ireturn, 1)]
theorem aJ_449_15 : sx_iB prog_14_method_137_code aI_449_15 = true := by decide +kernel
def aI_450_0 : sx_IL := [(0, .aload_n 0, 1), (1, .iload_n 1, 1), (2, .iload_n 2, 1), (3, .invokevirtual 933, 3), (6, .ifCond .eq 26, 3), (9, .iload_n 3, 1)]
theorem aJ_450_0 : sx_iB prog_14_method_139_code aI_450_0 = true := by decide +kernel
def aI_450_1 : sx_IL := [(10, .i2l, 1), (11, .lconst 0, 1), (12, .aload_n 0, 1), (13, .getfield 225, 3), (16, .bipush 12, 2), (18, .iload_n 1, 1)]
theorem aJ_450_1 : sx_iB prog_14_method_139_code aI_450_1 = true := by decide +kernel
def aI_450_2 : sx_IL := [(19, .imul, 1), (20, .iload_n 2, 1), (21, .iadd, 1), (22, .iaload, 1), (23, .iconst 1, 1), (24, .isub, 1)]
theorem aJ_450_2 : sx_iB prog_14_method_139_code aI_450_2 = true := by decide +kernel
def aI_450_3 : sx_IL := [(25, .i2l, 1), (26, .invokestatic 513, 3), (29, .ifCond .ne 5, 3), (32, .iconst (-1), 1), (33, .ireturn, 1), (34, .bipush 12, 2)]
theorem aJ_450_3 : sx_iB prog_14_method_139_code aI_450_3 = true := by decide +kernel
def aI_450_4 : sx_IL := [(36, .iload_n 1, 1), (37, .imul, 1), (38, .iload_n 2, 1), (39, .iadd, 1), (40, .istore 4, 2), (42, .iconst 3, 1)]
theorem aJ_450_4 : sx_iB prog_14_method_139_code aI_450_4 = true := by decide +kernel
def aI_450_5 : sx_IL := [(43, .iload 4, 2), (45, .imul, 1), (46, .iload_n 3, 1), (47, .iadd, 1), (48, .istore 5, 2), (50, .aload_n 0, 1)]
theorem aJ_450_5 : sx_iB prog_14_method_139_code aI_450_5 = true := by decide +kernel
def aI_450_6 : sx_IL := [(51, .getfield 219, 3), (54, .iload 4, 2), (56, .iaload, 1), (57, .ifCond .ne 13, 3), (60, .aload_n 0, 1), (61, .getfield 237, 3)]
theorem aJ_450_6 : sx_iB prog_14_method_139_code aI_450_6 = true := by decide +kernel
def aI_450_7 : sx_IL := [(64, .iload 5, 2), (66, .iaload, 1), (67, .ifCond .eq 6, 3), (70, .bipush (-2), 2), (72, .ireturn, 1), (73, .aload_n 0, 1)]
theorem aJ_450_7 : sx_iB prog_14_method_139_code aI_450_7 = true := by decide +kernel
def aI_450_8 : sx_IL := [(74, .getfield 228, 3), (77, .bipush 42, 2), (79, .iload 5, 2), (81, .imul, 1), (82, .invokestatic 941, 3), (85, .istore 6, 2)]
theorem aJ_450_8 : sx_iB prog_14_method_139_code aI_450_8 = true := by decide +kernel
def aI_450_9 : sx_IL := [(87, .aload_n 0, 1), (88, .iconst 0, 1), (89, .aload_n 0, 1), (90, .getfield 210, 3), (93, .bipush 8, 2), (95, .iload_n 1, 1)]
theorem aJ_450_9 : sx_iB prog_14_method_139_code aI_450_9 = true := by decide +kernel
def aI_450_10 : sx_IL := [(96, .imul, 1), (97, .aload_n 0, 1), (98, .getfield 216, 3), (101, .iload 4, 2), (103, .iaload, 1), (104, .iadd, 1)]
theorem aJ_450_10 : sx_iB prog_14_method_139_code aI_450_10 = true := by decide +kernel
def aI_450_11 : sx_IL := [(105, .laload, 1), (106, .bipush 122, 2), (108, .aload_n 0, 1), (109, .getfield 234, 3), (112, .iload 5, 2), (114, .iaload, 1)]
theorem aJ_450_11 : sx_iB prog_14_method_139_code aI_450_11 = true := by decide +kernel
def aI_450_12 : sx_IL := [(115, .i2l, 1), (116, .invokevirtual 598, 3), (119, .lstore 7, 2), (121, .aload_n 0, 1), (122, .getfield 237, 3), (125, .iload 5, 2)]
theorem aJ_450_12 : sx_iB prog_14_method_139_code aI_450_12 = true := by decide +kernel
def aI_450_13 : sx_IL := [(127, .iconst 2, 1), (128, .iastore, 1), (129, .iconst 0, 1), (130, .istore 9, 2), (132, .iload 9, 2), (134, .aload_n 0, 1)]
theorem aJ_450_13 : sx_iB prog_14_method_139_code aI_450_13 = true := by decide +kernel
def aI_450_14 : sx_IL := [(135, .getfield 938, 3), (138, .if_icmp .ge 74, 3), (141, .aload_n 0, 1), (142, .getfield 252, 3), (145, .iload 9, 2), (147, .laload, 1)]
theorem aJ_450_14 : sx_iB prog_14_method_139_code aI_450_14 = true := by decide +kernel
def aI_450_15 : sx_IL := [(148, .lload 7, 2), (150, .lcmp, 1), (151, .ifCond .ne 55, 3), (154, .aload_n 0, 1), (155, .getfield 228, 3), (158, .bipush 42, 2)]
theorem aJ_450_15 : sx_iB prog_14_method_139_code aI_450_15 = true := by decide +kernel
def aI_450_16 : sx_IL := [(160, .iload 5, 2), (162, .imul, 1), (163, .iload 6, 2), (165, .iadd, 1), (166, .aload_n 0, 1), (167, .getfield 231, 3)]
theorem aJ_450_16 : sx_iB prog_14_method_139_code aI_450_16 = true := by decide +kernel
def aI_450_17 : sx_IL := [(170, .iload 5, 2), (172, .iaload, 1), (173, .iload 6, 2), (175, .isub, 1), (176, .aload_n 0, 1), (177, .getfield 246, 3)]
theorem aJ_450_17 : sx_iB prog_14_method_139_code aI_450_17 = true := by decide +kernel
def aI_450_18 : sx_IL := [(180, .bipush 40, 2), (182, .iload 9, 2), (184, .imul, 1), (185, .aload_n 0, 1), (186, .getfield 249, 3), (189, .iload 9, 2)]
theorem aJ_450_18 : sx_iB prog_14_method_139_code aI_450_18 = true := by decide +kernel
def aI_450_19 : sx_IL := [(191, .iaload, 1), (192, .invokestatic 847, 3), (195, .ifCond .eq 11, 3), (198, .aload_n 0, 1), (199, .getfield 237, 3), (202, .iload 5, 2)]
theorem aJ_450_19 : sx_iB prog_14_method_139_code aI_450_19 = true := by decide +kernel
def aI_450_20 : sx_IL := [(204, .iconst 1, 1), (205, .iastore, 1), (206, .iinc 9 1, 3), (209, .goto (-77), 3), (212, .iconst 1, 1), (213, .istore 9, 2)]
theorem aJ_450_20 : sx_iB prog_14_method_139_code aI_450_20 = true := by decide +kernel
def aI_450_21 : sx_IL := [(215, .iconst 0, 1), (216, .istore 10, 2), (218, .iload 10, 2), (220, .aload_n 0, 1), (221, .getfield 225, 3), (224, .iload 4, 2)]
theorem aJ_450_21 : sx_iB prog_14_method_139_code aI_450_21 = true := by decide +kernel
def aI_450_22 : sx_IL := [(226, .iaload, 1), (227, .if_icmp .ge 37, 3), (230, .iload 9, 2), (232, .ifCond .eq 23, 3), (235, .aload_n 0, 1), (236, .getfield 237, 3)]
theorem aJ_450_22 : sx_iB prog_14_method_139_code aI_450_22 = true := by decide +kernel
def aI_450_23 : sx_IL := [(239, .iconst 3, 1), (240, .iload 4, 2), (242, .imul, 1), (243, .iload 10, 2), (245, .iadd, 1), (246, .iaload, 1)]
theorem aJ_450_23 : sx_iB prog_14_method_139_code aI_450_23 = true := by decide +kernel
def aI_450_24 : sx_IL := [(247, .iconst 1, 1), (248, .if_icmp .ne 7, 3), (251, .iconst 1, 1), (252, .goto 4, 3), (255, .iconst 0, 1), (256, .istore 9, 2)]
theorem aJ_450_24 : sx_iB prog_14_method_139_code aI_450_24 = true := by decide +kernel
def aI_450_25 : sx_IL := [(258, .iinc 10 1, 3), (261, .goto (-43), 3), (264, .aload_n 0, 1), (265, .getfield 219, 3), (268, .iload 4, 2), (270, .aload_n 0, 1)]
theorem aJ_450_25 : sx_iB prog_14_method_139_code aI_450_25 = true := by decide +kernel
def aI_450_26 : sx_IL := [(271, .getfield 237, 3), (274, .iload 5, 2), (276, .iaload, 1), (277, .iconst 2, 1), (278, .if_icmp .ne 7, 3), (281, .iconst 3, 1)]
theorem aJ_450_26 : sx_iB prog_14_method_139_code aI_450_26 = true := by decide +kernel
def aI_450_27 : sx_IL := [(282, .goto 13, 3), (285, .iload 9, 2), (287, .ifCond .eq 7, 3), (290, .iconst 1, 1), (291, .goto 4, 3), (294, .iconst 0, 1)]
theorem aJ_450_27 : sx_iB prog_14_method_139_code aI_450_27 = true := by decide +kernel
def aI_450_28 : sx_IL := [(295, .iastore, 1), (296, .aload_n 0, 1), (297, .getfield 237, 3), (300, .iload 5, 2), (302, .iaload, 1), (303, .ireturn, 1)]
theorem aJ_450_28 : sx_iB prog_14_method_139_code aI_450_28 = true := by decide +kernel
def aI_452_0 : sx_IL := [(0, .aload_n 0, 1), (1, .iload_n 1, 1), (2, .iload_n 2, 1), (3, .invokevirtual 933, 3), (6, .ifCond .eq 30, 3), (9, .iload_n 3, 1)]
theorem aJ_452_0 : sx_iB prog_14_method_142_code aI_452_0 = true := by decide +kernel
def aI_452_1 : sx_IL := [(10, .i2l, 1), (11, .ldc2_w 631, 3), (14, .ldc2_w 671, 3), (17, .invokestatic 513, 3), (20, .ifCond .eq 16, 3), (23, .iload 4, 2)]
theorem aJ_452_1 : sx_iB prog_14_method_142_code aI_452_1 = true := by decide +kernel
def aI_452_2 : sx_IL := [(25, .i2l, 1), (26, .lconst 1, 1), (27, .ldc2_w 523, 3), (30, .invokestatic 513, 3), (33, .ifCond .ne 5, 3), (36, .iconst (-1), 1)]
theorem aJ_452_2 : sx_iB prog_14_method_142_code aI_452_2 = true := by decide +kernel
def aI_452_3 : sx_IL := [(37, .ireturn, 1), (38, .bipush 12, 2), (40, .iload_n 1, 1), (41, .imul, 1), (42, .iload_n 2, 1), (43, .iadd, 1)]
theorem aJ_452_3 : sx_iB prog_14_method_142_code aI_452_3 = true := by decide +kernel
def aI_452_4 : sx_IL := [(44, .istore 5, 2), (46, .aload_n 0, 1), (47, .getfield 219, 3), (50, .iload 5, 2), (52, .iaload, 1), (53, .iconst 1, 1)]
theorem aJ_452_4 : sx_iB prog_14_method_142_code aI_452_4 = true := by decide +kernel
def aI_452_5 : sx_IL := [(54, .if_icmp .eq 6, 3), (57, .bipush (-2), 2), (59, .ireturn, 1), (60, .aload_n 0, 1), (61, .getfield 782, 3), (64, .bipush 30, 2)]
theorem aJ_452_5 : sx_iB prog_14_method_142_code aI_452_5 = true := by decide +kernel
def aI_452_6 : sx_IL := [(66, .if_icmp .ne 6, 3), (69, .bipush (-3), 2), (71, .ireturn, 1), (72, .aload_n 0, 1), (73, .iconst 0, 1), (74, .putfield 814, 3)]
theorem aJ_452_6 : sx_iB prog_14_method_142_code aI_452_6 = true := by decide +kernel
def aI_452_7 : sx_IL := [(77, .aload_n 0, 1), (78, .aload_n 0, 1), (79, .getfield 198, 3), (82, .iload_n 1, 1), (83, .iaload, 1), (84, .invokevirtual 949, 3)]
theorem aJ_452_7 : sx_iB prog_14_method_142_code aI_452_7 = true := by decide +kernel
def aI_452_8 : sx_IL := [(87, .aload_n 0, 1), (88, .iload_n 1, 1), (89, .invokevirtual 952, 3), (92, .aload_n 0, 1), (93, .getfield 228, 3), (96, .bipush 126, 2)]
theorem aJ_452_8 : sx_iB prog_14_method_142_code aI_452_8 = true := by decide +kernel
def aI_452_9 : sx_IL := [(98, .iload 5, 2), (100, .imul, 1), (101, .invokestatic 941, 3), (104, .istore 6, 2), (106, .aload_n 0, 1), (107, .aload_n 0, 1)]
theorem aJ_452_9 : sx_iB prog_14_method_142_code aI_452_9 = true := by decide +kernel
def aI_452_10 : sx_IL := [(108, .getfield 228, 3), (111, .bipush 126, 2), (113, .iload 5, 2), (115, .imul, 1), (116, .iload 6, 2), (118, .iadd, 1)]
theorem aJ_452_10 : sx_iB prog_14_method_142_code aI_452_10 = true := by decide +kernel
def aI_452_11 : sx_IL := [(119, .aload_n 0, 1), (120, .getfield 231, 3), (123, .iconst 3, 1), (124, .iload 5, 2), (126, .imul, 1), (127, .iaload, 1)]
theorem aJ_452_11 : sx_iB prog_14_method_142_code aI_452_11 = true := by decide +kernel
def aI_452_12 : sx_IL := [(128, .iload 6, 2), (130, .isub, 1), (131, .invokevirtual 946, 3), (134, .aload_n 0, 1), (135, .aload_n 0, 1), (136, .getfield 507, 3)]
theorem aJ_452_12 : sx_iB prog_14_method_142_code aI_452_12 = true := by decide +kernel
def aI_452_13 : sx_IL := [(139, .invokevirtual 949, 3), (142, .aload_n 0, 1), (143, .aload_n 0, 1), (144, .iload 4, 2), (146, .invokevirtual 955, 3), (149, .invokevirtual 949, 3)]
theorem aJ_452_13 : sx_iB prog_14_method_142_code aI_452_13 = true := by decide +kernel
def aI_452_14 : sx_IL := [(152, .aload_n 0, 1), (153, .aload_n 0, 1), (154, .getfield 195, 3), (157, .iload_n 1, 1), (158, .iaload, 1), (159, .invokevirtual 949, 3)]
theorem aJ_452_14 : sx_iB prog_14_method_142_code aI_452_14 = true := by decide +kernel
def aI_452_15 : sx_IL := [(162, .aload_n 0, 1), (163, .iconst 4, 1), (164, .invokevirtual 817, 3), (167, .aload_n 0, 1), (168, .iconst 4, 1), (169, .invokevirtual 817, 3)]
theorem aJ_452_15 : sx_iB prog_14_method_142_code aI_452_15 = true := by decide +kernel
def aI_452_16 : sx_IL := [(172, .aload_n 0, 1), (173, .iload_n 3, 1), (174, .invokevirtual 823, 3), (177, .aload_n 0, 1), (178, .sipush 163, 3), (181, .invokevirtual 817, 3)]
theorem aJ_452_16 : sx_iB prog_14_method_142_code aI_452_16 = true := by decide +kernel
def aI_452_17 : sx_IL := [(184, .aload_n 0, 1), (185, .iconst 1, 1), (186, .invokevirtual 817, 3), (189, .aload_n 0, 1), (190, .iconst 3, 1), (191, .invokevirtual 817, 3)]
theorem aJ_452_17 : sx_iB prog_14_method_142_code aI_452_17 = true := by decide +kernel
def aI_452_18 : sx_IL := [(194, .aload_n 0, 1), (195, .getfield 814, 3), (198, .istore 7, 2), (200, .iconst 0, 1), (201, .istore 8, 2), (203, .iload 8, 2)]
theorem aJ_452_18 : sx_iB prog_14_method_142_code aI_452_18 = true := by decide +kernel
def aI_452_19 : sx_IL := [(205, .aload_n 0, 1), (206, .getfield 225, 3), (209, .iload 5, 2), (211, .iaload, 1), (212, .if_icmp .ge 39, 3), (215, .aload_n 0, 1)]
theorem aJ_452_19 : sx_iB prog_14_method_142_code aI_452_19 = true := by decide +kernel
def aI_452_20 : sx_IL := [(216, .aload_n 0, 1), (217, .getfield 228, 3), (220, .bipush 42, 2), (222, .iconst 3, 1), (223, .iload 5, 2), (225, .imul, 1)]
theorem aJ_452_20 : sx_iB prog_14_method_142_code aI_452_20 = true := by decide +kernel
def aI_452_21 : sx_IL := [(226, .iload 8, 2), (228, .iadd, 1), (229, .imul, 1), (230, .aload_n 0, 1), (231, .getfield 231, 3), (234, .iconst 3, 1)]
theorem aJ_452_21 : sx_iB prog_14_method_142_code aI_452_21 = true := by decide +kernel
def aI_452_22 : sx_IL := [(235, .iload 5, 2), (237, .imul, 1), (238, .iload 8, 2), (240, .iadd, 1), (241, .iaload, 1), (242, .invokevirtual 946, 3)]
theorem aJ_452_22 : sx_iB prog_14_method_142_code aI_452_22 = true := by decide +kernel
def aI_452_23 : sx_IL := [(245, .iinc 8 1, 3), (248, .goto (-45), 3), (251, .aload_n 0, 1), (252, .iload 7, 2), (254, .sipush 164, 3), (257, .invokevirtual 834, 3)]
theorem aJ_452_23 : sx_iB prog_14_method_142_code aI_452_23 = true := by decide +kernel
def aI_452_24 : sx_IL := [(260, .aload_n 0, 1), (261, .iconst 0, 1), (262, .bipush 48, 2), (264, .invokevirtual 834, 3), (267, .aload_n 0, 1), (268, .aload_n 0, 1)]
theorem aJ_452_24 : sx_iB prog_14_method_142_code aI_452_24 = true := by decide +kernel
def aI_452_25 : sx_IL := [(269, .getfield 195, 3), (272, .iload_n 1, 1), (273, .iaload, 1), (274, .aload_n 0, 1), (275, .getfield 192, 3), (278, .iload_n 1, 1)]
theorem aJ_452_25 : sx_iB prog_14_method_142_code aI_452_25 = true := by decide +kernel
def aI_452_26 : sx_IL := [(279, .iaload, 1), (280, .invokevirtual 837, 3), (283, .aload_n 0, 1), (284, .bipush 35, 2), (286, .aload_n 0, 1), (287, .getfield 84, 3)]
theorem aJ_452_26 : sx_iB prog_14_method_142_code aI_452_26 = true := by decide +kernel
def aI_452_27 : sx_IL := [(290, .iconst 0, 1), (291, .aload_n 0, 1), (292, .getfield 814, 3), (295, .invokevirtual 778, 3), (298, .istore 8, 2), (300, .iload 8, 2)]
theorem aJ_452_27 : sx_iB prog_14_method_142_code aI_452_27 = true := by decide +kernel
def aI_452_28 : sx_IL := [(302, .ifCond .eq 10, 3), (305, .aload_n 0, 1), (306, .invokevirtual 789, 3), (309, .goto 5, 3), (312, .bipush (-3), 2), (314, .istore 9, 2)]
theorem aJ_452_28 : sx_iB prog_14_method_142_code aI_452_28 = true := by decide +kernel
def aI_452_29 : sx_IL := [(316, .aload_n 0, 1), (317, .getfield 198, 3), (320, .iload_n 1, 1), (321, .dup2, 1), (322, .iaload, 1), (323, .iconst 1, 1)]
theorem aJ_452_29 : sx_iB prog_14_method_142_code aI_452_29 = true := by decide +kernel
def aI_452_30 : sx_IL := [(324, .iadd, 1), (325, .iastore, 1), (326, .aload_n 0, 1), (327, .getfield 219, 3), (330, .iload 5, 2), (332, .iconst 2, 1)]
theorem aJ_452_30 : sx_iB prog_14_method_142_code aI_452_30 = true := by decide +kernel
def aI_452_31 : sx_IL := [(333, .iastore, 1), (334, .aload_n 0, 1), (335, .getfield 222, 3), (338, .iload 5, 2), (340, .iload 9, 2), (342, .iastore, 1)]
theorem aJ_452_31 : sx_iB prog_14_method_142_code aI_452_31 = true := by decide +kernel
def aI_452_32 : sx_IL := [(343, .iload 9, 2), (345, .ireturn, 1)]
theorem aJ_452_32 : sx_iB prog_14_method_142_code aI_452_32 = true := by decide +kernel
def aI_457_0 : sx_IL := [(0, .aload_n 0, 1), (1, .iload_n 1, 1), (2, .invokevirtual 930, 3), (5, .ifCond .eq 21, 3), (8, .iload_n 2, 1), (9, .i2l, 1)]
theorem aJ_457_0 : sx_iB prog_14_method_143_code aI_457_0 = true := by decide +kernel
def aI_457_1 : sx_IL := [(10, .lconst 1, 1), (11, .aload_n 0, 1), (12, .getfield 198, 3), (15, .iload_n 1, 1), (16, .iaload, 1), (17, .iconst 1, 1)]
theorem aJ_457_1 : sx_iB prog_14_method_143_code aI_457_1 = true := by decide +kernel
def aI_457_2 : sx_IL := [(18, .isub, 1), (19, .i2l, 1), (20, .invokestatic 513, 3), (23, .ifCond .ne 5, 3), (26, .iconst (-1), 1), (27, .ireturn, 1)]
theorem aJ_457_2 : sx_iB prog_14_method_143_code aI_457_2 = true := by decide +kernel
def aI_457_3 : sx_IL := [(28, .aload_n 0, 1), (29, .iload_n 1, 1), (30, .iload_n 2, 1), (31, .invokevirtual 958, 3), (34, .ifCond .eq 6, 3), (37, .bipush (-2), 2)]
theorem aJ_457_3 : sx_iB prog_14_method_143_code aI_457_3 = true := by decide +kernel
def aI_457_4 : sx_IL := [(39, .ireturn, 1), (40, .aload_n 0, 1), (41, .getfield 240, 3), (44, .iload_n 1, 1), (45, .iaload, 1), (46, .bipush 40, 2)]
theorem aJ_457_4 : sx_iB prog_14_method_143_code aI_457_4 = true := by decide +kernel
def aI_457_5 : sx_IL := [(48, .if_icmp .ne 6, 3), (51, .bipush (-3), 2), (53, .ireturn, 1), (54, .aload_n 0, 1), (55, .getfield 240, 3), (58, .iload_n 1, 1)]
theorem aJ_457_5 : sx_iB prog_14_method_143_code aI_457_5 = true := by decide +kernel
def aI_457_6 : sx_IL := [(59, .iaload, 1), (60, .istore_n 3, 1), (61, .iload_n 3, 1), (62, .ifCond .le 50, 3), (65, .aload_n 0, 1), (66, .getfield 243, 3)]
theorem aJ_457_6 : sx_iB prog_14_method_143_code aI_457_6 = true := by decide +kernel
def aI_457_7 : sx_IL := [(69, .bipush 40, 2), (71, .iload_n 1, 1), (72, .imul, 1), (73, .iload_n 3, 1), (74, .iadd, 1), (75, .iconst 1, 1)]
theorem aJ_457_7 : sx_iB prog_14_method_143_code aI_457_7 = true := by decide +kernel
def aI_457_8 : sx_IL := [(76, .isub, 1), (77, .iaload, 1), (78, .iload_n 2, 1), (79, .if_icmp .le 33, 3), (82, .aload_n 0, 1), (83, .getfield 243, 3)]
theorem aJ_457_8 : sx_iB prog_14_method_143_code aI_457_8 = true := by decide +kernel
def aI_457_9 : sx_IL := [(86, .bipush 40, 2), (88, .iload_n 1, 1), (89, .imul, 1), (90, .iload_n 3, 1), (91, .iadd, 1), (92, .aload_n 0, 1)]
theorem aJ_457_9 : sx_iB prog_14_method_143_code aI_457_9 = true := by decide +kernel
def aI_457_10 : sx_IL := [(93, .getfield 243, 3), (96, .bipush 40, 2), (98, .iload_n 1, 1), (99, .imul, 1), (100, .iload_n 3, 1), (101, .iadd, 1)]
theorem aJ_457_10 : sx_iB prog_14_method_143_code aI_457_10 = true := by decide +kernel
def aI_457_11 : sx_IL := [(102, .iconst 1, 1), (103, .isub, 1), (104, .iaload, 1), (105, .iastore, 1), (106, .iinc 3 (-1), 3), (109, .goto (-48), 3)]
theorem aJ_457_11 : sx_iB prog_14_method_143_code aI_457_11 = true := by decide +kernel
def aI_457_12 : sx_IL := [(112, .aload_n 0, 1), (113, .getfield 243, 3), (116, .bipush 40, 2), (118, .iload_n 1, 1), (119, .imul, 1), (120, .iload_n 3, 1)]
theorem aJ_457_12 : sx_iB prog_14_method_143_code aI_457_12 = true := by decide +kernel
def aI_457_13 : sx_IL := [(121, .iadd, 1), (122, .iload_n 2, 1), (123, .iastore, 1), (124, .aload_n 0, 1), (125, .getfield 240, 3), (128, .iload_n 1, 1)]
theorem aJ_457_13 : sx_iB prog_14_method_143_code aI_457_13 = true := by decide +kernel
def aI_457_14 : sx_IL := [(129, .dup2, 1), (130, .iaload, 1), (131, .iconst 1, 1), (132, .iadd, 1), (133, .iastore, 1), (134, .aload_n 0, 1)]
theorem aJ_457_14 : sx_iB prog_14_method_143_code aI_457_14 = true := by decide +kernel
def aI_457_15 : sx_IL := [(135, .getfield 240, 3), (138, .iload_n 1, 1), (139, .iaload, 1), (140, .ireturn, 1)]
theorem aJ_457_15 : sx_iB prog_14_method_143_code aI_457_15 = true := by decide +kernel
def aI_459_0 : sx_IL := [(0, .aload_n 0, 1), (1, .iload_n 1, 1), (2, .invokevirtual 930, 3), (5, .ifCond .eq 15, 3), (8, .iload_n 2, 1), (9, .i2l, 1)]
theorem aJ_459_0 : sx_iB prog_14_method_145_code aI_459_0 = true := by decide +kernel
def aI_459_1 : sx_IL := [(10, .lconst 1, 1), (11, .ldc2_w 523, 3), (14, .invokestatic 513, 3), (17, .ifCond .ne 5, 3), (20, .iconst (-1), 1), (21, .ireturn, 1)]
theorem aJ_459_1 : sx_iB prog_14_method_145_code aI_459_1 = true := by decide +kernel
def aI_459_2 : sx_IL := [(22, .aload_n 0, 1), (23, .getfield 802, 3), (26, .bipush 12, 2), (28, .if_icmp .ne 6, 3), (31, .bipush (-3), 2), (33, .ireturn, 1)]
theorem aJ_459_2 : sx_iB prog_14_method_145_code aI_459_2 = true := by decide +kernel
def aI_459_3 : sx_IL := [(34, .aload_n 0, 1), (35, .iconst 0, 1), (36, .putfield 814, 3), (39, .aload_n 0, 1), (40, .iload_n 1, 1), (41, .invokevirtual 952, 3)]
theorem aJ_459_3 : sx_iB prog_14_method_145_code aI_459_3 = true := by decide +kernel
def aI_459_4 : sx_IL := [(44, .aload_n 0, 1), (45, .aload_n 0, 1), (46, .getfield 201, 3), (49, .iload_n 1, 1), (50, .iaload, 1), (51, .invokevirtual 949, 3)]
theorem aJ_459_4 : sx_iB prog_14_method_145_code aI_459_4 = true := by decide +kernel
def aI_459_5 : sx_IL := [(54, .aload_n 0, 1), (55, .aload_n 0, 1), (56, .getfield 507, 3), (59, .invokevirtual 949, 3), (62, .aload_n 0, 1), (63, .aload_n 0, 1)]
theorem aJ_459_5 : sx_iB prog_14_method_145_code aI_459_5 = true := by decide +kernel
def aI_459_6 : sx_IL := [(64, .iload_n 2, 1), (65, .invokevirtual 955, 3), (68, .invokevirtual 949, 3), (71, .aload_n 0, 1), (72, .aload_n 0, 1), (73, .getfield 195, 3)]
theorem aJ_459_6 : sx_iB prog_14_method_145_code aI_459_6 = true := by decide +kernel
def aI_459_7 : sx_IL := [(76, .iload_n 1, 1), (77, .iaload, 1), (78, .invokevirtual 949, 3), (81, .aload_n 0, 1), (82, .getfield 814, 3), (85, .istore_n 3, 1)]
theorem aJ_459_7 : sx_iB prog_14_method_145_code aI_459_7 = true := by decide +kernel
def aI_459_8 : sx_IL := [(86, .iconst 0, 1), (87, .istore 4, 2), (89, .iload 4, 2), (91, .aload_n 0, 1), (92, .getfield 240, 3), (95, .iload_n 1, 1)]
theorem aJ_459_8 : sx_iB prog_14_method_145_code aI_459_8 = true := by decide +kernel
def aI_459_9 : sx_IL := [(96, .iaload, 1), (97, .if_icmp .ge 25, 3), (100, .aload_n 0, 1), (101, .aload_n 0, 1), (102, .getfield 243, 3), (105, .bipush 40, 2)]
theorem aJ_459_9 : sx_iB prog_14_method_145_code aI_459_9 = true := by decide +kernel
def aI_459_10 : sx_IL := [(107, .iload_n 1, 1), (108, .imul, 1), (109, .iload 4, 2), (111, .iadd, 1), (112, .iaload, 1), (113, .invokevirtual 823, 3)]
theorem aJ_459_10 : sx_iB prog_14_method_145_code aI_459_10 = true := by decide +kernel
def aI_459_11 : sx_IL := [(116, .iinc 4 1, 3), (119, .goto (-30), 3), (122, .aload_n 0, 1), (123, .iload_n 3, 1), (124, .iconst 4, 1), (125, .invokevirtual 834, 3)]
theorem aJ_459_11 : sx_iB prog_14_method_145_code aI_459_11 = true := by decide +kernel
def aI_459_12 : sx_IL := [(128, .aload_n 0, 1), (129, .iconst 0, 1), (130, .bipush 48, 2), (132, .invokevirtual 834, 3), (135, .aload_n 0, 1), (136, .aload_n 0, 1)]
theorem aJ_459_12 : sx_iB prog_14_method_145_code aI_459_12 = true := by decide +kernel
def aI_459_13 : sx_IL := [(137, .getfield 195, 3), (140, .iload_n 1, 1), (141, .iaload, 1), (142, .aload_n 0, 1), (143, .getfield 192, 3), (146, .iload_n 1, 1)]
theorem aJ_459_13 : sx_iB prog_14_method_145_code aI_459_13 = true := by decide +kernel
def aI_459_14 : sx_IL := [(147, .iaload, 1), (148, .invokevirtual 837, 3), (151, .aload_n 0, 1), (152, .getfield 201, 3), (155, .iload_n 1, 1), (156, .dup2, 1)]
theorem aJ_459_14 : sx_iB prog_14_method_145_code aI_459_14 = true := by decide +kernel
def aI_459_15 : sx_IL := [(157, .iaload, 1), (158, .iconst 1, 1), (159, .iadd, 1), (160, .iastore, 1), (161, .aload_n 0, 1), (162, .bipush 13, 2)]
theorem aJ_459_15 : sx_iB prog_14_method_145_code aI_459_15 = true := by decide +kernel
def aI_459_16 : sx_IL := [(164, .aload_n 0, 1), (165, .getfield 84, 3), (168, .iconst 0, 1), (169, .aload_n 0, 1), (170, .getfield 814, 3), (173, .invokevirtual 796, 3)]
theorem aJ_459_16 : sx_iB prog_14_method_145_code aI_459_16 = true := by decide +kernel
def aI_459_17 : sx_IL := [(176, .ifCond .eq 10, 3), (179, .aload_n 0, 1), (180, .invokevirtual 799, 3), (183, .goto 5, 3), (186, .bipush (-3), 2), (188, .ireturn, 1)]
theorem aJ_459_17 : sx_iB prog_14_method_145_code aI_459_17 = true := by decide +kernel
def aI_460_0 : sx_IL := [(0, .aload_n 0, 1), (1, .iload_n 1, 1), (2, .invokevirtual 930, 3), (5, .ifCond .eq 33, 3), (8, .iload_n 2, 1), (9, .i2l, 1)]
theorem aJ_460_0 : sx_iB prog_14_method_146_code aI_460_0 = true := by decide +kernel
def aI_460_1 : sx_IL := [(10, .lconst 1, 1), (11, .aload_n 0, 1), (12, .getfield 198, 3), (15, .iload_n 1, 1), (16, .iaload, 1), (17, .iconst 1, 1)]
theorem aJ_460_1 : sx_iB prog_14_method_146_code aI_460_1 = true := by decide +kernel
def aI_460_2 : sx_IL := [(18, .isub, 1), (19, .i2l, 1), (20, .invokestatic 513, 3), (23, .ifCond .eq 15, 3), (26, .iload_n 3, 1), (27, .i2l, 1)]
theorem aJ_460_2 : sx_iB prog_14_method_146_code aI_460_2 = true := by decide +kernel
def aI_460_3 : sx_IL := [(28, .lconst 1, 1), (29, .ldc2_w 523, 3), (32, .invokestatic 513, 3), (35, .ifCond .ne 5, 3), (38, .iconst (-1), 1), (39, .ireturn, 1)]
theorem aJ_460_3 : sx_iB prog_14_method_146_code aI_460_3 = true := by decide +kernel
def aI_460_4 : sx_IL := [(40, .aload_n 0, 1), (41, .getfield 811, 3), (44, .bipush 12, 2), (46, .if_icmp .ne 6, 3), (49, .bipush (-3), 2), (51, .ireturn, 1)]
theorem aJ_460_4 : sx_iB prog_14_method_146_code aI_460_4 = true := by decide +kernel
def aI_460_5 : sx_IL := [(52, .aload_n 0, 1), (53, .iconst 0, 1), (54, .putfield 814, 3), (57, .aload_n 0, 1), (58, .iload_n 1, 1), (59, .invokevirtual 952, 3)]
theorem aJ_460_5 : sx_iB prog_14_method_146_code aI_460_5 = true := by decide +kernel
def aI_460_6 : sx_IL := [(62, .aload_n 0, 1), (63, .iload_n 2, 1), (64, .invokevirtual 949, 3), (67, .aload_n 0, 1), (68, .aload_n 0, 1), (69, .iload_n 1, 1)]
theorem aJ_460_6 : sx_iB prog_14_method_146_code aI_460_6 = true := by decide +kernel
def aI_460_7 : sx_IL := [(70, .iload_n 2, 1), (71, .invokevirtual 958, 3), (74, .ifCond .eq 7, 3), (77, .iconst 1, 1), (78, .goto 4, 3), (81, .iconst 0, 1)]
theorem aJ_460_7 : sx_iB prog_14_method_146_code aI_460_7 = true := by decide +kernel
def aI_460_8 : sx_IL := [(82, .invokevirtual 949, 3), (85, .aload_n 0, 1), (86, .aload_n 0, 1), (87, .getfield 507, 3), (90, .invokevirtual 949, 3), (93, .aload_n 0, 1)]
theorem aJ_460_8 : sx_iB prog_14_method_146_code aI_460_8 = true := by decide +kernel
def aI_460_9 : sx_IL := [(94, .aload_n 0, 1), (95, .iload_n 3, 1), (96, .invokevirtual 955, 3), (99, .invokevirtual 949, 3), (102, .aload_n 0, 1), (103, .aload_n 0, 1)]
theorem aJ_460_9 : sx_iB prog_14_method_146_code aI_460_9 = true := by decide +kernel
def aI_460_10 : sx_IL := [(104, .getfield 195, 3), (107, .iload_n 1, 1), (108, .iaload, 1), (109, .invokevirtual 949, 3), (112, .aload_n 0, 1), (113, .iconst 0, 1)]
theorem aJ_460_10 : sx_iB prog_14_method_146_code aI_460_10 = true := by decide +kernel
def aI_460_11 : sx_IL := [(114, .bipush 48, 2), (116, .invokevirtual 834, 3), (119, .aload_n 0, 1), (120, .aload_n 0, 1), (121, .getfield 195, 3), (124, .iload_n 1, 1)]
theorem aJ_460_11 : sx_iB prog_14_method_146_code aI_460_11 = true := by decide +kernel
def aI_460_12 : sx_IL := [(125, .iaload, 1), (126, .aload_n 0, 1), (127, .getfield 192, 3), (130, .iload_n 1, 1), (131, .iaload, 1), (132, .invokevirtual 837, 3)]
theorem aJ_460_12 : sx_iB prog_14_method_146_code aI_460_12 = true := by decide +kernel
def aI_460_13 : sx_IL := [(135, .aload_n 0, 1), (136, .bipush 13, 2), (138, .aload_n 0, 1), (139, .getfield 84, 3), (142, .iconst 0, 1), (143, .aload_n 0, 1)]
theorem aJ_460_13 : sx_iB prog_14_method_146_code aI_460_13 = true := by decide +kernel
def aI_460_14 : sx_IL := [(144, .getfield 814, 3), (147, .invokevirtual 805, 3), (150, .ifCond .eq 10, 3), (153, .aload_n 0, 1), (154, .invokevirtual 808, 3), (157, .goto 5, 3)]
theorem aJ_460_14 : sx_iB prog_14_method_146_code aI_460_14 = true := by decide +kernel
def aI_460_15 : sx_IL := [(160, .bipush (-3), 2), (162, .ireturn, 1)]
theorem aJ_460_15 : sx_iB prog_14_method_146_code aI_460_15 = true := by decide +kernel
def aI_461_0 : sx_IL := [(0, .iload_n 1, 1), (1, .iconst (-1), 1), (2, .if_icmp .eq 20, 3), (5, .aload_n 0, 1), (6, .iload_n 1, 1), (7, .invokevirtual 894, 3)]
theorem aJ_461_0 : sx_iB prog_14_method_176_code aI_461_0 = true := by decide +kernel
def aI_461_1 : sx_IL := [(10, .ifCond .eq 16, 3), (13, .aload_n 0, 1), (14, .getfield 93, 3), (17, .iload_n 1, 1), (18, .iaload, 1), (19, .ifCond .ne 7, 3)]
theorem aJ_461_1 : sx_iB prog_14_method_176_code aI_461_1 = true := by decide +kernel
def aI_461_2 : sx_IL := [(22, .iconst 1, 1), (23, .goto 4, 3), (26, .iconst 0, 1), (27, .istore_n 3, 1), (28, .iload_n 2, 1), (29, .iconst (-1), 1)]
theorem aJ_461_2 : sx_iB prog_14_method_176_code aI_461_2 = true := by decide +kernel
def aI_461_3 : sx_IL := [(30, .if_icmp .eq 21, 3), (33, .aload_n 0, 1), (34, .iload_n 2, 1), (35, .invokevirtual 894, 3), (38, .ifCond .eq 17, 3), (41, .aload_n 0, 1)]
theorem aJ_461_3 : sx_iB prog_14_method_176_code aI_461_3 = true := by decide +kernel
def aI_461_4 : sx_IL := [(42, .getfield 93, 3), (45, .iload_n 2, 1), (46, .iaload, 1), (47, .iconst 1, 1), (48, .if_icmp .ne 7, 3), (51, .iconst 1, 1)]
theorem aJ_461_4 : sx_iB prog_14_method_176_code aI_461_4 = true := by decide +kernel
def aI_461_5 : sx_IL := [(52, .goto 4, 3), (55, .iconst 0, 1), (56, .istore 4, 2), (58, .iload_n 3, 1), (59, .ifCond .eq 18, 3), (62, .iload 4, 2)]
theorem aJ_461_5 : sx_iB prog_14_method_176_code aI_461_5 = true := by decide +kernel
def aI_461_6 : sx_IL := [(64, .ifCond .eq 13, 3), (67, .iload_n 1, 1), (68, .iconst (-1), 1), (69, .if_icmp .ne 10, 3), (72, .iload_n 2, 1), (73, .iconst (-1), 1)]
theorem aJ_461_6 : sx_iB prog_14_method_176_code aI_461_6 = true := by decide +kernel
def aI_461_7 : sx_IL := [(74, .if_icmp .ne 5, 3), (77, .iconst (-1), 1), (78, .ireturn, 1), (79, .aload_n 0, 1), (80, .getfield 961, 3), (83, .bipush 12, 2)]
theorem aJ_461_7 : sx_iB prog_14_method_176_code aI_461_7 = true := by decide +kernel
def aI_461_8 : sx_IL := [(85, .if_icmp .ne 6, 3), (88, .bipush (-3), 2), (90, .ireturn, 1), (91, .aload_n 0, 1), (92, .getfield 961, 3), (95, .istore 5, 2)]
theorem aJ_461_8 : sx_iB prog_14_method_176_code aI_461_8 = true := by decide +kernel
def aI_461_9 : sx_IL := [(97, .aload_n 0, 1), (98, .dup, 1), (99, .getfield 961, 3), (102, .iconst 1, 1), (103, .iadd, 1), (104, .putfield 961, 3)]
theorem aJ_461_9 : sx_iB prog_14_method_176_code aI_461_9 = true := by decide +kernel
def aI_461_10 : sx_IL := [(107, .iconst 2, 1), (108, .iload 5, 2), (110, .imul, 1), (111, .istore 6, 2), (113, .iload 6, 2), (115, .iconst 2, 1)]
theorem aJ_461_10 : sx_iB prog_14_method_176_code aI_461_10 = true := by decide +kernel
def aI_461_11 : sx_IL := [(116, .iload 5, 2), (118, .imul, 1), (119, .iconst 2, 1), (120, .iadd, 1), (121, .if_icmp .ge 80, 3), (124, .aload_n 0, 1)]
theorem aJ_461_11 : sx_iB prog_14_method_176_code aI_461_11 = true := by decide +kernel
def aI_461_12 : sx_IL := [(125, .getfield 261, 3), (128, .iload 6, 2), (130, .iload 6, 2), (132, .iconst 2, 1), (133, .iload 5, 2), (135, .imul, 1)]
theorem aJ_461_12 : sx_iB prog_14_method_176_code aI_461_12 = true := by decide +kernel
def aI_461_13 : sx_IL := [(136, .if_icmp .ne 7, 3), (139, .iload_n 1, 1), (140, .goto 4, 3), (143, .iload_n 2, 1), (144, .iastore, 1), (145, .aload_n 0, 1)]
theorem aJ_461_13 : sx_iB prog_14_method_176_code aI_461_13 = true := by decide +kernel
def aI_461_14 : sx_IL := [(146, .getfield 303, 3), (149, .iload 6, 2), (151, .bipush (-4), 2), (153, .iastore, 1), (154, .aload_n 0, 1), (155, .getfield 306, 3)]
theorem aJ_461_14 : sx_iB prog_14_method_176_code aI_461_14 = true := by decide +kernel
def aI_461_15 : sx_IL := [(158, .iload 6, 2), (160, .bipush (-4), 2), (162, .iastore, 1), (163, .iconst 0, 1), (164, .istore 7, 2), (166, .iload 7, 2)]
theorem aJ_461_15 : sx_iB prog_14_method_176_code aI_461_15 = true := by decide +kernel
def aI_461_16 : sx_IL := [(168, .iconst 2, 1), (169, .if_icmp .ge 26, 3), (172, .aload_n 0, 1), (173, .iload 7, 2), (175, .invokevirtual 568, 3), (178, .aload_n 0, 1)]
theorem aJ_461_16 : sx_iB prog_14_method_176_code aI_461_16 = true := by decide +kernel
def aI_461_17 : sx_IL := [(179, .iconst 2, 1), (180, .iload 6, 2), (182, .imul, 1), (183, .iload 7, 2), (185, .iadd, 1), (186, .invokevirtual 970, 3)]
theorem aJ_461_17 : sx_iB prog_14_method_176_code aI_461_17 = true := by decide +kernel
def aI_461_18 : sx_IL := [(189, .iinc 7 1, 3), (192, .goto (-26), 3), (195, .iinc 6 1, 3), (198, .goto (-85), 3), (201, .aload_n 0, 1), (202, .getfield 453, 3)]
theorem aJ_461_18 : sx_iB prog_14_method_176_code aI_461_18 = true := by decide +kernel
def aI_461_19 : sx_IL := [(205, .iload 5, 2), (207, .bipush (-4), 2), (209, .iastore, 1), (210, .iload_n 1, 1), (211, .ifCond .lt 9, 3), (214, .aload_n 0, 1)]
theorem aJ_461_19 : sx_iB prog_14_method_176_code aI_461_19 = true := by decide +kernel
def aI_461_20 : sx_IL := [(215, .iload 5, 2), (217, .invokevirtual 1038, 3), (220, .iload 5, 2), (222, .ireturn, 1)]
theorem aJ_461_20 : sx_iB prog_14_method_176_code aI_461_20 = true := by decide +kernel
def aI_483_0 : sx_IL := [(0, .aload_n 0, 1), (1, .iload_n 1, 1), (2, .iload_n 2, 1), (3, .invokevirtual 1272, 3), (6, .ifCond .ne 5, 3), (9, .iconst (-1), 1)]
theorem aJ_483_0 : sx_iB prog_14_method_231_code aI_483_0 = true := by decide +kernel
def aI_483_1 : sx_IL := [(10, .ireturn, 1), (11, .aload_n 0, 1), (12, .iload_n 1, 1), (13, .iload_n 2, 1), (14, .invokevirtual 1275, 3), (17, .ifCond .ne 6, 3)]
theorem aJ_483_1 : sx_iB prog_14_method_231_code aI_483_1 = true := by decide +kernel
def aI_483_2 : sx_IL := [(20, .bipush (-2), 2), (22, .ireturn, 1), (23, .iconst 2, 1), (24, .iload_n 1, 1), (25, .imul, 1), (26, .iload_n 2, 1)]
theorem aJ_483_2 : sx_iB prog_14_method_231_code aI_483_2 = true := by decide +kernel
def aI_483_3 : sx_IL := [(27, .iadd, 1), (28, .istore_n 3, 1), (29, .aload_n 0, 1), (30, .getfield 268, 3), (33, .iload_n 3, 1), (34, .iaload, 1)]
theorem aJ_483_3 : sx_iB prog_14_method_231_code aI_483_3 = true := by decide +kernel
def aI_483_4 : sx_IL := [(35, .sipush 2000, 3), (38, .if_icmp .le 6, 3), (41, .bipush (-3), 2), (43, .ireturn, 1), (44, .aload_n 0, 1), (45, .getfield 517, 3)]
theorem aJ_483_4 : sx_iB prog_14_method_231_code aI_483_4 = true := by decide +kernel
def aI_483_5 : sx_IL := [(48, .istore 4, 2), (50, .aload_n 0, 1), (51, .iconst 0, 1), (52, .putfield 517, 3), (55, .iconst 0, 1), (56, .istore 5, 2)]
theorem aJ_483_5 : sx_iB prog_14_method_231_code aI_483_5 = true := by decide +kernel
def aI_483_6 : sx_IL := [(58, .iload 5, 2), (60, .iload 4, 2), (62, .if_icmp .ge 21, 3), (65, .aload_n 0, 1), (66, .iload_n 3, 1), (67, .aload_n 0, 1)]
theorem aJ_483_6 : sx_iB prog_14_method_231_code aI_483_6 = true := by decide +kernel
def aI_483_7 : sx_IL := [(68, .getfield 7, 3), (71, .iload 5, 2), (73, .iaload, 1), (74, .invokevirtual 1278, 3), (77, .iinc 5 1, 3), (80, .goto (-22), 3)]
theorem aJ_483_7 : sx_iB prog_14_method_231_code aI_483_7 = true := by decide +kernel
def aI_483_8 : sx_IL := [(83, .aload_n 0, 1), (84, .getfield 268, 3), (87, .iload_n 3, 1), (88, .iaload, 1), (89, .ireturn, 1)]
theorem aJ_483_8 : sx_iB prog_14_method_231_code aI_483_8 = true := by decide +kernel
def aI_484_0 : sx_IL := [(0, .aload_n 0, 1), (1, .iload_n 1, 1), (2, .invokevirtual 964, 3), (5, .ifCond .eq 17, 3), (8, .iload_n 2, 1), (9, .i2l, 1)]
theorem aJ_484_0 : sx_iB prog_14_method_148_code aI_484_0 = true := by decide +kernel
def aI_484_1 : sx_IL := [(10, .lconst 0, 1), (11, .lconst 1, 1), (12, .invokestatic 513, 3), (15, .ifCond .eq 7, 3), (18, .iconst 1, 1), (19, .goto 4, 3)]
theorem aJ_484_1 : sx_iB prog_14_method_148_code aI_484_1 = true := by decide +kernel
def aI_484_2 : sx_IL := [(22, .iconst 0, 1), (23, .ireturn, 1)]
theorem aJ_484_2 : sx_iB prog_14_method_148_code aI_484_2 = true := by decide +kernel
def aI_485_0 : sx_IL := [(0, .iload_n 1, 1), (1, .i2l, 1), (2, .lconst 0, 1), (3, .aload_n 0, 1), (4, .getfield 961, 3), (7, .iconst 1, 1)]
theorem aJ_485_0 : sx_iB prog_14_method_147_code aI_485_0 = true := by decide +kernel
def aI_485_1 : sx_IL := [(8, .isub, 1), (9, .i2l, 1), (10, .invokestatic 513, 3), (13, .ireturn, 1)]
theorem aJ_485_1 : sx_iB prog_14_method_147_code aI_485_1 = true := by decide +kernel
def aI_550_0 : sx_IL := [(0, .aload_n 0, 1), (1, .iload_n 1, 1), (2, .iload_n 2, 1), (3, .invokevirtual 1272, 3), (6, .ifCond .eq 15, 3), (9, .iload_n 3, 1)]
theorem aJ_550_0 : sx_iB prog_14_method_232_code aI_550_0 = true := by decide +kernel
def aI_550_1 : sx_IL := [(10, .i2l, 1), (11, .lconst 1, 1), (12, .ldc2_w 1281, 3), (15, .invokestatic 513, 3), (18, .ifCond .ne 5, 3), (21, .iconst (-1), 1)]
theorem aJ_550_1 : sx_iB prog_14_method_232_code aI_550_1 = true := by decide +kernel
def aI_550_2 : sx_IL := [(22, .ireturn, 1), (23, .iconst 2, 1), (24, .iload_n 1, 1), (25, .imul, 1), (26, .iload_n 2, 1), (27, .iadd, 1)]
theorem aJ_550_2 : sx_iB prog_14_method_232_code aI_550_2 = true := by decide +kernel
def aI_550_3 : sx_IL := [(28, .istore 4, 2), (30, .aload_n 0, 1), (31, .iload_n 1, 1), (32, .iconst 1, 1), (33, .iload_n 2, 1), (34, .isub, 1)]
theorem aJ_550_3 : sx_iB prog_14_method_232_code aI_550_3 = true := by decide +kernel
def aI_550_4 : sx_IL := [(35, .invokevirtual 1275, 3), (38, .ifCond .ne 7, 3), (41, .iconst 1, 1), (42, .goto 4, 3), (45, .iconst 0, 1), (46, .istore 5, 2)]
theorem aJ_550_4 : sx_iB prog_14_method_232_code aI_550_4 = true := by decide +kernel
def aI_550_5 : sx_IL := [(48, .iload 5, 2), (50, .ifCond .ne 24, 3), (53, .aload_n 0, 1), (54, .getfield 268, 3), (57, .iconst 2, 1), (58, .iload_n 1, 1)]
theorem aJ_550_5 : sx_iB prog_14_method_232_code aI_550_5 = true := by decide +kernel
def aI_550_6 : sx_IL := [(59, .imul, 1), (60, .iconst 1, 1), (61, .iadd, 1), (62, .iload_n 2, 1), (63, .isub, 1), (64, .iaload, 1)]
theorem aJ_550_6 : sx_iB prog_14_method_232_code aI_550_6 = true := by decide +kernel
def aI_550_7 : sx_IL := [(65, .sipush 4000, 3), (68, .if_icmp .le 6, 3), (71, .bipush (-3), 2), (73, .ireturn, 1), (74, .iload_n 3, 1), (75, .aload_n 0, 1)]
theorem aJ_550_7 : sx_iB prog_14_method_232_code aI_550_7 = true := by decide +kernel
def aI_550_8 : sx_IL := [(76, .getfield 268, 3), (79, .iload 4, 2), (81, .iaload, 1), (82, .if_icmp .ge 7, 3), (85, .iload_n 3, 1), (86, .goto 10, 3)]
theorem aJ_550_8 : sx_iB prog_14_method_232_code aI_550_8 = true := by decide +kernel
def aI_550_9 : sx_IL := [(89, .aload_n 0, 1), (90, .getfield 268, 3), (93, .iload 4, 2), (95, .iaload, 1), (96, .istore 6, 2), (98, .iload 5, 2)]
theorem aJ_550_9 : sx_iB prog_14_method_232_code aI_550_9 = true := by decide +kernel
def aI_550_10 : sx_IL := [(100, .ifCond .eq 17, 3), (103, .iload 6, 2), (105, .sipush 800, 3), (108, .if_icmp .le 9, 3), (111, .sipush 800, 3), (114, .goto 5, 3)]
theorem aJ_550_10 : sx_iB prog_14_method_232_code aI_550_10 = true := by decide +kernel
def aI_550_11 : sx_IL := [(117, .iload 6, 2), (119, .istore 6, 2), (121, .iconst 0, 1), (122, .istore 7, 2), (124, .iload 7, 2), (126, .iload 6, 2)]
theorem aJ_550_11 : sx_iB prog_14_method_232_code aI_550_11 = true := by decide +kernel
def aI_550_12 : sx_IL := [(128, .if_icmp .ge 30, 3), (131, .aload_n 0, 1), (132, .getfield 504, 3), (135, .iload 7, 2), (137, .aload_n 0, 1), (138, .getfield 265, 3)]
theorem aJ_550_12 : sx_iB prog_14_method_232_code aI_550_12 = true := by decide +kernel
def aI_550_13 : sx_IL := [(141, .sipush 16000, 3), (144, .iload 4, 2), (146, .imul, 1), (147, .iload 7, 2), (149, .iadd, 1), (150, .iaload, 1)]
theorem aJ_550_13 : sx_iB prog_14_method_232_code aI_550_13 = true := by decide +kernel
def aI_550_14 : sx_IL := [(151, .iastore, 1), (152, .iinc 7 1, 3), (155, .goto (-31), 3), (158, .aload_n 0, 1), (159, .getfield 268, 3), (162, .iload 4, 2)]
theorem aJ_550_14 : sx_iB prog_14_method_232_code aI_550_14 = true := by decide +kernel
def aI_550_15 : sx_IL := [(164, .dup2, 1), (165, .iaload, 1), (166, .iload 6, 2), (168, .isub, 1), (169, .iastore, 1), (170, .iconst 0, 1)]
theorem aJ_550_15 : sx_iB prog_14_method_232_code aI_550_15 = true := by decide +kernel
def aI_550_16 : sx_IL := [(171, .istore 7, 2), (173, .iload 7, 2), (175, .aload_n 0, 1), (176, .getfield 268, 3), (179, .iload 4, 2), (181, .iaload, 1)]
theorem aJ_550_16 : sx_iB prog_14_method_232_code aI_550_16 = true := by decide +kernel
def aI_550_17 : sx_IL := [(182, .if_icmp .ge 40, 3), (185, .aload_n 0, 1), (186, .getfield 265, 3), (189, .sipush 16000, 3), (192, .iload 4, 2), (194, .imul, 1)]
theorem aJ_550_17 : sx_iB prog_14_method_232_code aI_550_17 = true := by decide +kernel
def aI_550_18 : sx_IL := [(195, .iload 7, 2), (197, .iadd, 1), (198, .aload_n 0, 1), (199, .getfield 265, 3), (202, .sipush 16000, 3), (205, .iload 4, 2)]
theorem aJ_550_18 : sx_iB prog_14_method_232_code aI_550_18 = true := by decide +kernel
def aI_550_19 : sx_IL := [(207, .imul, 1), (208, .iload 7, 2), (210, .iadd, 1), (211, .iload 6, 2), (213, .iadd, 1), (214, .iaload, 1)]
theorem aJ_550_19 : sx_iB prog_14_method_232_code aI_550_19 = true := by decide +kernel
def aI_550_20 : sx_IL := [(215, .iastore, 1), (216, .iinc 7 1, 3), (219, .goto (-46), 3), (222, .iconst 0, 1), (223, .istore 7, 2), (225, .iload 7, 2)]
theorem aJ_550_20 : sx_iB prog_14_method_232_code aI_550_20 = true := by decide +kernel
def aI_550_21 : sx_IL := [(227, .iload 6, 2), (229, .if_icmp .ge 49, 3), (232, .iload 5, 2), (234, .ifCond .eq 20, 3), (237, .aload_n 0, 1), (238, .getfield 13, 3)]
theorem aJ_550_21 : sx_iB prog_14_method_232_code aI_550_21 = true := by decide +kernel
def aI_550_22 : sx_IL := [(241, .iload 7, 2), (243, .aload_n 0, 1), (244, .getfield 504, 3), (247, .iload 7, 2), (249, .iaload, 1), (250, .iastore, 1)]
theorem aJ_550_22 : sx_iB prog_14_method_232_code aI_550_22 = true := by decide +kernel
def aI_550_23 : sx_IL := [(251, .goto 21, 3), (254, .aload_n 0, 1), (255, .iconst 2, 1), (256, .iload_n 1, 1), (257, .imul, 1), (258, .iconst 1, 1)]
theorem aJ_550_23 : sx_iB prog_14_method_232_code aI_550_23 = true := by decide +kernel
def aI_550_24 : sx_IL := [(259, .iadd, 1), (260, .iload_n 2, 1), (261, .isub, 1), (262, .aload_n 0, 1), (263, .getfield 504, 3), (266, .iload 7, 2)]
theorem aJ_550_24 : sx_iB prog_14_method_232_code aI_550_24 = true := by decide +kernel
def aI_550_25 : sx_IL := [(268, .iaload, 1), (269, .invokevirtual 1278, 3), (272, .iinc 7 1, 3), (275, .goto (-50), 3), (278, .aload_n 0, 1), (279, .iload 5, 2)]
theorem aJ_550_25 : sx_iB prog_14_method_232_code aI_550_25 = true := by decide +kernel
def aI_550_26 : sx_IL := [(281, .ifCond .eq 8, 3), (284, .iload 6, 2), (286, .goto 7, 3), (289, .aload_n 0, 1), (290, .getfield 520, 3), (293, .putfield 520, 3)]
theorem aJ_550_26 : sx_iB prog_14_method_232_code aI_550_26 = true := by decide +kernel
def aI_550_27 : sx_IL := [(296, .iload 6, 2), (298, .ireturn, 1)]
theorem aJ_550_27 : sx_iB prog_14_method_232_code aI_550_27 = true := by decide +kernel
def aI_551_0 : sx_IL := [(0, .aload_n 0, 1), (1, .iload_n 1, 1), (2, .iload_n 2, 1), (3, .invokevirtual 1272, 3), (6, .ifCond .ne 5, 3), (9, .iconst (-1), 1)]
theorem aJ_551_0 : sx_iB prog_14_method_233_code aI_551_0 = true := by decide +kernel
def aI_551_1 : sx_IL := [(10, .ireturn, 1), (11, .iconst 2, 1), (12, .iload_n 1, 1), (13, .imul, 1), (14, .iload_n 2, 1), (15, .iadd, 1)]
theorem aJ_551_1 : sx_iB prog_14_method_233_code aI_551_1 = true := by decide +kernel
def aI_551_2 : sx_IL := [(16, .istore 4, 2), (18, .iload_n 3, 1), (19, .iconst (-1), 1), (20, .if_icmp .ne 13, 3), (23, .aload_n 0, 1), (24, .getfield 268, 3)]
theorem aJ_551_2 : sx_iB prog_14_method_233_code aI_551_2 = true := by decide +kernel
def aI_551_3 : sx_IL := [(27, .iload 4, 2), (29, .iaload, 1), (30, .goto 39, 3), (33, .iload_n 3, 1), (34, .i2l, 1), (35, .lconst 0, 1)]
theorem aJ_551_3 : sx_iB prog_14_method_233_code aI_551_3 = true := by decide +kernel
def aI_551_4 : sx_IL := [(36, .aload_n 0, 1), (37, .getfield 268, 3), (40, .iload 4, 2), (42, .iaload, 1), (43, .iconst 1, 1), (44, .isub, 1)]
theorem aJ_551_4 : sx_iB prog_14_method_233_code aI_551_4 = true := by decide +kernel
def aI_551_5 : sx_IL := [(45, .i2l, 1), (46, .invokestatic 513, 3), (49, .ifCond .eq 19, 3), (52, .aload_n 0, 1), (53, .getfield 265, 3), (56, .sipush 16000, 3)]
theorem aJ_551_5 : sx_iB prog_14_method_233_code aI_551_5 = true := by decide +kernel
def aI_551_6 : sx_IL := [(59, .iload 4, 2), (61, .imul, 1), (62, .iload_n 3, 1), (63, .iadd, 1), (64, .iaload, 1), (65, .goto 4, 3)]
theorem aJ_551_6 : sx_iB prog_14_method_233_code aI_551_6 = true := by decide +kernel
def aI_551_7 : sx_IL := [(68, .iconst (-1), 1), (69, .ireturn, 1)]
theorem aJ_551_7 : sx_iB prog_14_method_233_code aI_551_7 = true := by decide +kernel
def aI_552_0 : sx_IL := [(0, .aload_n 0, 1), (1, .iload_n 1, 1), (2, .iload_n 2, 1), (3, .invokevirtual 1272, 3), (6, .ifCond .eq 38, 3), (9, .iload_n 3, 1)]
theorem aJ_552_0 : sx_iB prog_14_method_234_code aI_552_0 = true := by decide +kernel
def aI_552_1 : sx_IL := [(10, .i2l, 1), (11, .lconst 0, 1), (12, .aload_n 0, 1), (13, .getfield 268, 3), (16, .iconst 2, 1), (17, .iload_n 1, 1)]
theorem aJ_552_1 : sx_iB prog_14_method_234_code aI_552_1 = true := by decide +kernel
def aI_552_2 : sx_IL := [(18, .imul, 1), (19, .iload_n 2, 1), (20, .iadd, 1), (21, .iaload, 1), (22, .iconst 1, 1), (23, .isub, 1)]
theorem aJ_552_2 : sx_iB prog_14_method_234_code aI_552_2 = true := by decide +kernel
def aI_552_3 : sx_IL := [(24, .i2l, 1), (25, .invokestatic 513, 3), (28, .ifCond .eq 16, 3), (31, .iload 4, 2), (33, .i2l, 1), (34, .lconst 1, 1)]
theorem aJ_552_3 : sx_iB prog_14_method_234_code aI_552_3 = true := by decide +kernel
def aI_552_4 : sx_IL := [(35, .ldc2_w 596, 3), (38, .invokestatic 513, 3), (41, .ifCond .ne 5, 3), (44, .iconst (-1), 1), (45, .ireturn, 1), (46, .aload_n 0, 1)]
theorem aJ_552_4 : sx_iB prog_14_method_234_code aI_552_4 = true := by decide +kernel
def aI_552_5 : sx_IL := [(47, .getfield 265, 3), (50, .sipush 16000, 3), (53, .iconst 2, 1), (54, .iload_n 1, 1), (55, .imul, 1), (56, .iload_n 2, 1)]
theorem aJ_552_5 : sx_iB prog_14_method_234_code aI_552_5 = true := by decide +kernel
def aI_552_6 : sx_IL := [(57, .iadd, 1), (58, .imul, 1), (59, .iload_n 3, 1), (60, .iadd, 1), (61, .dup2, 1), (62, .iaload, 1)]
theorem aJ_552_6 : sx_iB prog_14_method_234_code aI_552_6 = true := by decide +kernel
def aI_552_7 : sx_IL := [(63, .iload 4, 2), (65, .ixor, 1), (66, .iastore, 1), (67, .aload_n 0, 1), (68, .getfield 265, 3), (71, .sipush 16000, 3)]
theorem aJ_552_7 : sx_iB prog_14_method_234_code aI_552_7 = true := by decide +kernel
def aI_552_8 : sx_IL := [(74, .iconst 2, 1), (75, .iload_n 1, 1), (76, .imul, 1), (77, .iload_n 2, 1), (78, .iadd, 1), (79, .imul, 1)]
theorem aJ_552_8 : sx_iB prog_14_method_234_code aI_552_8 = true := by decide +kernel
def aI_552_9 : sx_IL := [(80, .iload_n 3, 1), (81, .iadd, 1), (82, .iaload, 1), (83, .ireturn, 1)]
theorem aJ_552_9 : sx_iB prog_14_method_234_code aI_552_9 = true := by decide +kernel
def aI_553_0 : sx_IL := [(0, .aload_n 0, 1), (1, .iload_n 1, 1), (2, .iload_n 2, 1), (3, .invokevirtual 1272, 3), (6, .ifCond .ne 5, 3), (9, .iconst (-1), 1)]
theorem aJ_553_0 : sx_iB prog_14_method_236_code aI_553_0 = true := by decide +kernel
def aI_553_1 : sx_IL := [(10, .ireturn, 1), (11, .iconst 2, 1), (12, .iload_n 1, 1), (13, .imul, 1), (14, .iload_n 2, 1), (15, .iadd, 1)]
theorem aJ_553_1 : sx_iB prog_14_method_236_code aI_553_1 = true := by decide +kernel
def aI_553_2 : sx_IL := [(16, .istore_n 3, 1), (17, .aload_n 0, 1), (18, .iload_n 1, 1), (19, .iload_n 2, 1), (20, .invokevirtual 1275, 3), (23, .ifCond .eq 20, 3)]
theorem aJ_553_2 : sx_iB prog_14_method_236_code aI_553_2 = true := by decide +kernel
def aI_553_3 : sx_IL := [(26, .aload_n 0, 1), (27, .iload_n 3, 1), (28, .invokevirtual 1283, 3), (31, .ifCond .eq 12, 3), (34, .aload_n 0, 1), (35, .getfield 297, 3)]
theorem aJ_553_3 : sx_iB prog_14_method_236_code aI_553_3 = true := by decide +kernel
def aI_553_4 : sx_IL := [(38, .iload_n 3, 1), (39, .baload, 1), (40, .ifCond .eq 6, 3), (43, .bipush (-2), 2), (45, .ireturn, 1), (46, .aload_n 0, 1)]
theorem aJ_553_4 : sx_iB prog_14_method_236_code aI_553_4 = true := by decide +kernel
def aI_553_5 : sx_IL := [(47, .getfield 268, 3), (50, .iload_n 3, 1), (51, .iaload, 1), (52, .sipush 2000, 3), (55, .if_icmp .le 6, 3), (58, .bipush (-3), 2)]
theorem aJ_553_5 : sx_iB prog_14_method_236_code aI_553_5 = true := by decide +kernel
def aI_553_6 : sx_IL := [(60, .ireturn, 1), (61, .aload_n 0, 1), (62, .getfield 517, 3), (65, .istore 4, 2), (67, .iconst 0, 1), (68, .istore 5, 2)]
theorem aJ_553_6 : sx_iB prog_14_method_236_code aI_553_6 = true := by decide +kernel
def aI_553_7 : sx_IL := [(70, .iload 5, 2), (72, .iload 4, 2), (74, .if_icmp .ge 47, 3), (77, .aload_n 0, 1), (78, .iload_n 3, 1), (79, .bipush 23, 2)]
theorem aJ_553_7 : sx_iB prog_14_method_236_code aI_553_7 = true := by decide +kernel
def aI_553_8 : sx_IL := [(81, .aload_n 0, 1), (82, .getfield 7, 3), (85, .iload 5, 2), (87, .iload 4, 2), (89, .iload 5, 2), (91, .isub, 1)]
theorem aJ_553_8 : sx_iB prog_14_method_236_code aI_553_8 = true := by decide +kernel
def aI_553_9 : sx_IL := [(92, .sipush 200, 3), (95, .if_icmp .ge 11, 3), (98, .iload 4, 2), (100, .iload 5, 2), (102, .isub, 1), (103, .goto 6, 3)]
theorem aJ_553_9 : sx_iB prog_14_method_236_code aI_553_9 = true := by decide +kernel
def aI_553_10 : sx_IL := [(106, .sipush 200, 3), (109, .invokevirtual 987, 3), (112, .iinc 5 200, 6), (118, .goto (-48), 3), (121, .aload_n 0, 1), (122, .iconst 0, 1)]
theorem aJ_553_10 : sx_iB prog_14_method_236_code aI_553_10 = true := by decide +kernel
def aI_553_11 : sx_IL := [(123, .putfield 517, 3), (126, .iload 4, 2), (128, .ireturn, 1)]
theorem aJ_553_11 : sx_iB prog_14_method_236_code aI_553_11 = true := by decide +kernel
def aI_555_0 : sx_IL := [(0, .aload_n 0, 1), (1, .iload_n 1, 1), (2, .iload_n 2, 1), (3, .invokevirtual 1272, 3), (6, .ifCond .eq 12, 3), (9, .aload_n 0, 1)]
theorem aJ_555_0 : sx_iB prog_14_method_237_code aI_555_0 = true := by decide +kernel
def aI_555_1 : sx_IL := [(10, .iload_n 1, 1), (11, .iload_n 2, 1), (12, .invokevirtual 1275, 3), (15, .ifCond .ne 5, 3), (18, .iconst (-1), 1), (19, .ireturn, 1)]
theorem aJ_555_1 : sx_iB prog_14_method_237_code aI_555_1 = true := by decide +kernel
def aI_555_2 : sx_IL := [(20, .iconst 2, 1), (21, .iload_n 1, 1), (22, .imul, 1), (23, .iload_n 2, 1), (24, .iadd, 1), (25, .istore_n 3, 1)]
theorem aJ_555_2 : sx_iB prog_14_method_237_code aI_555_2 = true := by decide +kernel
def aI_555_3 : sx_IL := [(26, .aload_n 0, 1), (27, .getfield 288, 3), (30, .iload_n 3, 1), (31, .iaload, 1), (32, .ifCond .ne 34, 3), (35, .aload_n 0, 1)]
theorem aJ_555_3 : sx_iB prog_14_method_237_code aI_555_3 = true := by decide +kernel
def aI_555_4 : sx_IL := [(36, .getfield 300, 3), (39, .iload_n 3, 1), (40, .baload, 1), (41, .ifCond .eq 8, 3), (44, .bipush (-11), 2), (46, .goto 19, 3)]
theorem aJ_555_4 : sx_iB prog_14_method_237_code aI_555_4 = true := by decide +kernel
def aI_555_5 : sx_IL := [(49, .aload_n 0, 1), (50, .getfield 294, 3), (53, .iload_n 3, 1), (54, .baload, 1), (55, .ifCond .eq 8, 3), (58, .bipush (-12), 2)]
theorem aJ_555_5 : sx_iB prog_14_method_237_code aI_555_5 = true := by decide +kernel
def aI_555_6 : sx_IL := [(60, .goto 5, 3), (63, .bipush (-10), 2), (65, .ireturn, 1), (66, .aload_n 0, 1), (67, .getfield 285, 3), (70, .sipush 2000, 3)]
theorem aJ_555_6 : sx_iB prog_14_method_237_code aI_555_6 = true := by decide +kernel
def aI_555_7 : sx_IL := [(73, .iload_n 3, 1), (74, .imul, 1), (75, .iaload, 1), (76, .istore 4, 2), (78, .aload_n 0, 1), (79, .getfield 288, 3)]
theorem aJ_555_7 : sx_iB prog_14_method_237_code aI_555_7 = true := by decide +kernel
def aI_555_8 : sx_IL := [(82, .iload_n 3, 1), (83, .dup2, 1), (84, .iaload, 1), (85, .iconst 1, 1), (86, .isub, 1), (87, .iastore, 1)]
theorem aJ_555_8 : sx_iB prog_14_method_237_code aI_555_8 = true := by decide +kernel
def aI_555_9 : sx_IL := [(88, .iconst 0, 1), (89, .istore 5, 2), (91, .iload 5, 2), (93, .aload_n 0, 1), (94, .getfield 288, 3), (97, .iload_n 3, 1)]
theorem aJ_555_9 : sx_iB prog_14_method_237_code aI_555_9 = true := by decide +kernel
def aI_555_10 : sx_IL := [(98, .iaload, 1), (99, .if_icmp .ge 37, 3), (102, .aload_n 0, 1), (103, .getfield 285, 3), (106, .sipush 2000, 3), (109, .iload_n 3, 1)]
theorem aJ_555_10 : sx_iB prog_14_method_237_code aI_555_10 = true := by decide +kernel
def aI_555_11 : sx_IL := [(110, .imul, 1), (111, .iload 5, 2), (113, .iadd, 1), (114, .aload_n 0, 1), (115, .getfield 285, 3), (118, .sipush 2000, 3)]
theorem aJ_555_11 : sx_iB prog_14_method_237_code aI_555_11 = true := by decide +kernel
def aI_555_12 : sx_IL := [(121, .iload_n 3, 1), (122, .imul, 1), (123, .iload 5, 2), (125, .iadd, 1), (126, .iconst 1, 1), (127, .iadd, 1)]
theorem aJ_555_12 : sx_iB prog_14_method_237_code aI_555_12 = true := by decide +kernel
def aI_555_13 : sx_IL := [(128, .iaload, 1), (129, .iastore, 1), (130, .iinc 5 1, 3), (133, .goto (-42), 3), (136, .iload 4, 2), (138, .ireturn, 1)]
theorem aJ_555_13 : sx_iB prog_14_method_237_code aI_555_13 = true := by decide +kernel
def aI_556_0 : sx_IL := [(0, .aload_n 0, 1), (1, .iload_n 1, 1), (2, .iload_n 2, 1), (3, .invokevirtual 1272, 3), (6, .ifCond .ne 5, 3), (9, .iconst (-1), 1)]
theorem aJ_556_0 : sx_iB prog_14_method_238_code aI_556_0 = true := by decide +kernel
def aI_556_1 : sx_IL := [(10, .ireturn, 1), (11, .iconst 2, 1), (12, .iload_n 1, 1), (13, .imul, 1), (14, .iload_n 2, 1), (15, .iadd, 1)]
theorem aJ_556_1 : sx_iB prog_14_method_238_code aI_556_1 = true := by decide +kernel
def aI_556_2 : sx_IL := [(16, .istore_n 3, 1), (17, .aload_n 0, 1), (18, .iload_n 1, 1), (19, .iload_n 2, 1), (20, .invokevirtual 1275, 3), (23, .ifCond .eq 20, 3)]
theorem aJ_556_2 : sx_iB prog_14_method_238_code aI_556_2 = true := by decide +kernel
def aI_556_3 : sx_IL := [(26, .aload_n 0, 1), (27, .iload_n 3, 1), (28, .invokevirtual 1283, 3), (31, .ifCond .eq 12, 3), (34, .aload_n 0, 1), (35, .getfield 297, 3)]
theorem aJ_556_3 : sx_iB prog_14_method_238_code aI_556_3 = true := by decide +kernel
def aI_556_4 : sx_IL := [(38, .iload_n 3, 1), (39, .baload, 1), (40, .ifCond .eq 6, 3), (43, .bipush (-2), 2), (45, .ireturn, 1), (46, .aload_n 0, 1)]
theorem aJ_556_4 : sx_iB prog_14_method_238_code aI_556_4 = true := by decide +kernel
def aI_556_5 : sx_IL := [(47, .iload_n 3, 1), (48, .iconst 0, 1), (49, .invokevirtual 991, 3), (52, .aload_n 0, 1), (53, .getfield 297, 3), (56, .iload_n 3, 1)]
theorem aJ_556_5 : sx_iB prog_14_method_238_code aI_556_5 = true := by decide +kernel
def aI_556_6 : sx_IL := [(57, .iconst 1, 1), (58, .bastore, 1), (59, .iconst 1, 1), (60, .ireturn, 1)]
theorem aJ_556_6 : sx_iB prog_14_method_238_code aI_556_6 = true := by decide +kernel
def aI_557_0 : sx_IL := [(0, .aload_n 0, 1), (1, .iload_n 1, 1), (2, .iload_n 2, 1), (3, .invokevirtual 1272, 3), (6, .ifCond .eq 13, 3), (9, .iload_n 3, 1)]
theorem aJ_557_0 : sx_iB prog_14_method_239_code aI_557_0 = true := by decide +kernel
def aI_557_1 : sx_IL := [(10, .i2l, 1), (11, .lconst 0, 1), (12, .lconst 1, 1), (13, .invokestatic 513, 3), (16, .ifCond .ne 5, 3), (19, .iconst (-1), 1)]
theorem aJ_557_1 : sx_iB prog_14_method_239_code aI_557_1 = true := by decide +kernel
def aI_557_2 : sx_IL := [(20, .ireturn, 1), (21, .iconst 2, 1), (22, .iload_n 1, 1), (23, .imul, 1), (24, .iload_n 2, 1), (25, .iadd, 1)]
theorem aJ_557_2 : sx_iB prog_14_method_239_code aI_557_2 = true := by decide +kernel
def aI_557_3 : sx_IL := [(26, .istore 4, 2), (28, .aload_n 0, 1), (29, .iload_n 1, 1), (30, .iload_n 2, 1), (31, .invokevirtual 1275, 3), (34, .ifCond .eq 22, 3)]
theorem aJ_557_3 : sx_iB prog_14_method_239_code aI_557_3 = true := by decide +kernel
def aI_557_4 : sx_IL := [(37, .aload_n 0, 1), (38, .iload 4, 2), (40, .invokevirtual 1283, 3), (43, .ifCond .eq 13, 3), (46, .aload_n 0, 1), (47, .getfield 297, 3)]
theorem aJ_557_4 : sx_iB prog_14_method_239_code aI_557_4 = true := by decide +kernel
def aI_557_5 : sx_IL := [(50, .iload 4, 2), (52, .baload, 1), (53, .ifCond .eq 6, 3), (56, .bipush (-2), 2), (58, .ireturn, 1), (59, .aload_n 0, 1)]
theorem aJ_557_5 : sx_iB prog_14_method_239_code aI_557_5 = true := by decide +kernel
def aI_557_6 : sx_IL := [(60, .getfield 268, 3), (63, .iload 4, 2), (65, .iaload, 1), (66, .sipush 2000, 3), (69, .if_icmp .le 6, 3), (72, .bipush (-3), 2)]
theorem aJ_557_6 : sx_iB prog_14_method_239_code aI_557_6 = true := by decide +kernel
def aI_557_7 : sx_IL := [(74, .ireturn, 1), (75, .aload_n 0, 1), (76, .iload 4, 2), (78, .iload_n 3, 1), (79, .invokevirtual 1192, 3), (82, .iconst 1, 1)]
theorem aJ_557_7 : sx_iB prog_14_method_239_code aI_557_7 = true := by decide +kernel
def aI_557_8 : sx_IL := [(83, .ireturn, 1)]
theorem aJ_557_8 : sx_iB prog_14_method_239_code aI_557_8 = true := by decide +kernel
def aI_558_0 : sx_IL := [(0, .aload_n 0, 1), (1, .iload_n 1, 1), (2, .iload_n 2, 1), (3, .invokevirtual 1272, 3), (6, .ifCond .eq 24, 3), (9, .aload_n 0, 1)]
theorem aJ_558_0 : sx_iB prog_14_method_240_code aI_558_0 = true := by decide +kernel
def aI_558_1 : sx_IL := [(10, .iload_n 1, 1), (11, .iload_n 2, 1), (12, .invokevirtual 1275, 3), (15, .ifCond .eq 15, 3), (18, .iload_n 3, 1), (19, .i2l, 1)]
theorem aJ_558_1 : sx_iB prog_14_method_240_code aI_558_1 = true := by decide +kernel
def aI_558_2 : sx_IL := [(20, .lconst 0, 1), (21, .ldc2_w 1286, 3), (24, .invokestatic 513, 3), (27, .ifCond .ne 5, 3), (30, .iconst (-1), 1), (31, .ireturn, 1)]
theorem aJ_558_2 : sx_iB prog_14_method_240_code aI_558_2 = true := by decide +kernel
def aI_558_3 : sx_IL := [(32, .iconst 2, 1), (33, .iload_n 1, 1), (34, .imul, 1), (35, .iload_n 2, 1), (36, .iadd, 1), (37, .istore 4, 2)]
theorem aJ_558_3 : sx_iB prog_14_method_240_code aI_558_3 = true := by decide +kernel
def aI_558_4 : sx_IL := [(39, .iload_n 3, 1), (40, .tableswitch 257 0 13 #[72, 101, 109, 117, 125, 133, 149, 157, 165, 181, 197, 219, 241, 249], 72), (112, .aload_n 0, 1), (113, .getfield 294, 3), (116, .iload 4, 2), (118, .baload, 1)]
theorem aJ_558_4 : sx_iB prog_14_method_240_code aI_558_4 = true := by decide +kernel
def aI_558_5 : sx_IL := [(119, .ifCond .eq 7, 3), (122, .iconst 2, 1), (123, .goto 17, 3), (126, .aload_n 0, 1), (127, .iload 4, 2), (129, .invokevirtual 1283, 3)]
theorem aJ_558_5 : sx_iB prog_14_method_240_code aI_558_5 = true := by decide +kernel
def aI_558_6 : sx_IL := [(132, .ifCond .eq 7, 3), (135, .iconst 1, 1), (136, .goto 4, 3), (139, .iconst 0, 1), (140, .ireturn, 1), (141, .aload_n 0, 1)]
theorem aJ_558_6 : sx_iB prog_14_method_240_code aI_558_6 = true := by decide +kernel
def aI_558_7 : sx_IL := [(142, .getfield 330, 3), (145, .iload 4, 2), (147, .iaload, 1), (148, .ireturn, 1), (149, .aload_n 0, 1), (150, .getfield 333, 3)]
theorem aJ_558_7 : sx_iB prog_14_method_240_code aI_558_7 = true := by decide +kernel
def aI_558_8 : sx_IL := [(153, .iload 4, 2), (155, .iaload, 1), (156, .ireturn, 1), (157, .aload_n 0, 1), (158, .getfield 336, 3), (161, .iload 4, 2)]
theorem aJ_558_8 : sx_iB prog_14_method_240_code aI_558_8 = true := by decide +kernel
def aI_558_9 : sx_IL := [(163, .iaload, 1), (164, .ireturn, 1), (165, .aload_n 0, 1), (166, .getfield 339, 3), (169, .iload 4, 2), (171, .iaload, 1)]
theorem aJ_558_9 : sx_iB prog_14_method_240_code aI_558_9 = true := by decide +kernel
def aI_558_10 : sx_IL := [(172, .ireturn, 1), (173, .aload_n 0, 1), (174, .getfield 342, 3), (177, .iload 4, 2), (179, .baload, 1), (180, .ifCond .eq 7, 3)]
theorem aJ_558_10 : sx_iB prog_14_method_240_code aI_558_10 = true := by decide +kernel
def aI_558_11 : sx_IL := [(183, .iconst 1, 1), (184, .goto 4, 3), (187, .iconst 0, 1), (188, .ireturn, 1), (189, .aload_n 0, 1), (190, .getfield 303, 3)]
theorem aJ_558_11 : sx_iB prog_14_method_240_code aI_558_11 = true := by decide +kernel
def aI_558_12 : sx_IL := [(193, .iload 4, 2), (195, .iaload, 1), (196, .ireturn, 1), (197, .aload_n 0, 1), (198, .getfield 306, 3), (201, .iload 4, 2)]
theorem aJ_558_12 : sx_iB prog_14_method_240_code aI_558_12 = true := by decide +kernel
def aI_558_13 : sx_IL := [(203, .iaload, 1), (204, .ireturn, 1), (205, .aload_n 0, 1), (206, .getfield 297, 3), (209, .iload 4, 2), (211, .baload, 1)]
theorem aJ_558_13 : sx_iB prog_14_method_240_code aI_558_13 = true := by decide +kernel
def aI_558_14 : sx_IL := [(212, .ifCond .eq 7, 3), (215, .iconst 1, 1), (216, .goto 4, 3), (219, .iconst 0, 1), (220, .ireturn, 1), (221, .aload_n 0, 1)]
theorem aJ_558_14 : sx_iB prog_14_method_240_code aI_558_14 = true := by decide +kernel
def aI_558_15 : sx_IL := [(222, .getfield 300, 3), (225, .iload 4, 2), (227, .baload, 1), (228, .ifCond .eq 7, 3), (231, .iconst 1, 1), (232, .goto 4, 3)]
theorem aJ_558_15 : sx_iB prog_14_method_240_code aI_558_15 = true := by decide +kernel
def aI_558_16 : sx_IL := [(235, .iconst 0, 1), (236, .ireturn, 1), (237, .aload_n 0, 1), (238, .getfield 309, 3), (241, .iload 4, 2), (243, .baload, 1)]
theorem aJ_558_16 : sx_iB prog_14_method_240_code aI_558_16 = true := by decide +kernel
def aI_558_17 : sx_IL := [(244, .ifCond .eq 13, 3), (247, .aload_n 0, 1), (248, .getfield 321, 3), (251, .iload 4, 2), (253, .iaload, 1), (254, .goto 4, 3)]
theorem aJ_558_17 : sx_iB prog_14_method_240_code aI_558_17 = true := by decide +kernel
def aI_558_18 : sx_IL := [(257, .iconst 0, 1), (258, .ireturn, 1), (259, .aload_n 0, 1), (260, .getfield 312, 3), (263, .iload 4, 2), (265, .baload, 1)]
theorem aJ_558_18 : sx_iB prog_14_method_240_code aI_558_18 = true := by decide +kernel
def aI_558_19 : sx_IL := [(266, .ifCond .eq 13, 3), (269, .aload_n 0, 1), (270, .getfield 324, 3), (273, .iload 4, 2), (275, .iaload, 1), (276, .goto 4, 3)]
theorem aJ_558_19 : sx_iB prog_14_method_240_code aI_558_19 = true := by decide +kernel
def aI_558_20 : sx_IL := [(279, .iconst 0, 1), (280, .ireturn, 1), (281, .aload_n 0, 1), (282, .getfield 345, 3), (285, .iload 4, 2), (287, .iaload, 1)]
theorem aJ_558_20 : sx_iB prog_14_method_240_code aI_558_20 = true := by decide +kernel
def aI_558_21 : sx_IL := [(288, .ireturn, 1), (289, .aload_n 0, 1), (290, .getfield 348, 3), (293, .iload 4, 2), (295, .iaload, 1), (296, .ireturn, 1)]
theorem aJ_558_21 : sx_iB prog_14_method_240_code aI_558_21 = true := by decide +kernel
def aI_558_22 : sx_IL := [(297, .aload_n 0, 1), (298, .getfield 351, 3), (301, .iload 4, 2), (303, .iaload, 1), (304, .ireturn, 1)]
theorem aJ_558_22 : sx_iB prog_14_method_240_code aI_558_22 = true := by decide +kernel
def aI_559_0 : sx_IL := [(0, .aload_n 0, 1), (1, .iload_n 1, 1), (2, .iload_n 2, 1), (3, .invokevirtual 1272, 3), (6, .ifCond .eq 24, 3), (9, .aload_n 0, 1)]
theorem aJ_559_0 : sx_iB prog_14_method_241_code aI_559_0 = true := by decide +kernel
def aI_559_1 : sx_IL := [(10, .iload_n 1, 1), (11, .iload_n 2, 1), (12, .invokevirtual 1275, 3), (15, .ifCond .eq 15, 3), (18, .iload_n 3, 1), (19, .i2l, 1)]
theorem aJ_559_1 : sx_iB prog_14_method_241_code aI_559_1 = true := by decide +kernel
def aI_559_2 : sx_IL := [(20, .lconst 0, 1), (21, .ldc2_w 629, 3), (24, .invokestatic 513, 3), (27, .ifCond .ne 7, 3), (30, .ldc2_w 590, 3), (33, .lreturn, 1)]
theorem aJ_559_2 : sx_iB prog_14_method_241_code aI_559_2 = true := by decide +kernel
def aI_559_3 : sx_IL := [(34, .iconst 2, 1), (35, .iload_n 1, 1), (36, .imul, 1), (37, .iload_n 2, 1), (38, .iadd, 1), (39, .istore 4, 2)]
theorem aJ_559_3 : sx_iB prog_14_method_241_code aI_559_3 = true := by decide +kernel
def aI_559_4 : sx_IL := [(41, .iload_n 3, 1), (42, .tableswitch 126 0 6 #[42, 64, 86, 94, 102, 110, 118], 42), (84, .aload_n 0, 1), (85, .getfield 309, 3), (88, .iload 4, 2), (90, .baload, 1)]
theorem aJ_559_4 : sx_iB prog_14_method_241_code aI_559_4 = true := by decide +kernel
def aI_559_5 : sx_IL := [(91, .ifCond .eq 13, 3), (94, .aload_n 0, 1), (95, .getfield 315, 3), (98, .iload 4, 2), (100, .laload, 1), (101, .goto 4, 3)]
theorem aJ_559_5 : sx_iB prog_14_method_241_code aI_559_5 = true := by decide +kernel
def aI_559_6 : sx_IL := [(104, .lconst 0, 1), (105, .lreturn, 1), (106, .aload_n 0, 1), (107, .getfield 312, 3), (110, .iload 4, 2), (112, .baload, 1)]
theorem aJ_559_6 : sx_iB prog_14_method_241_code aI_559_6 = true := by decide +kernel
def aI_559_7 : sx_IL := [(113, .ifCond .eq 13, 3), (116, .aload_n 0, 1), (117, .getfield 318, 3), (120, .iload 4, 2), (122, .laload, 1), (123, .goto 4, 3)]
theorem aJ_559_7 : sx_iB prog_14_method_241_code aI_559_7 = true := by decide +kernel
def aI_559_8 : sx_IL := [(126, .lconst 0, 1), (127, .lreturn, 1), (128, .aload_n 0, 1), (129, .getfield 357, 3), (132, .iload 4, 2), (134, .laload, 1)]
theorem aJ_559_8 : sx_iB prog_14_method_241_code aI_559_8 = true := by decide +kernel
def aI_559_9 : sx_IL := [(135, .lreturn, 1), (136, .aload_n 0, 1), (137, .getfield 360, 3), (140, .iload 4, 2), (142, .laload, 1), (143, .lreturn, 1)]
theorem aJ_559_9 : sx_iB prog_14_method_241_code aI_559_9 = true := by decide +kernel
def aI_559_10 : sx_IL := [(144, .aload_n 0, 1), (145, .getfield 363, 3), (148, .iload 4, 2), (150, .laload, 1), (151, .lreturn, 1), (152, .aload_n 0, 1)]
theorem aJ_559_10 : sx_iB prog_14_method_241_code aI_559_10 = true := by decide +kernel
def aI_559_11 : sx_IL := [(153, .getfield 366, 3), (156, .iload 4, 2), (158, .laload, 1), (159, .lreturn, 1), (160, .aload_n 0, 1), (161, .getfield 369, 3)]
theorem aJ_559_11 : sx_iB prog_14_method_241_code aI_559_11 = true := by decide +kernel
def aI_559_12 : sx_IL := [(164, .iload 4, 2), (166, .laload, 1), (167, .lreturn, 1), (168, .aload_n 0, 1), (169, .getfield 330, 3), (172, .iload 4, 2)]
theorem aJ_559_12 : sx_iB prog_14_method_241_code aI_559_12 = true := by decide +kernel
def aI_559_13 : sx_IL := [(174, .iaload, 1), (175, .ifCond .ne 7, 3), (178, .lconst 0, 1), (179, .goto 15, 3), (182, .aload_n 0, 1), (183, .iload 4, 2)]
theorem aJ_559_13 : sx_iB prog_14_method_241_code aI_559_13 = true := by decide +kernel
def aI_559_14 : sx_IL := [(185, .aload_n 0, 1), (186, .iload 4, 2), (188, .invokevirtual 998, 3), (191, .invokevirtual 973, 3), (194, .lreturn, 1)]
theorem aJ_559_14 : sx_iB prog_14_method_241_code aI_559_14 = true := by decide +kernel
def aI_560_0 : sx_IL := [(0, .aload_n 0, 1), (1, .iload_n 1, 1), (2, .iload_n 2, 1), (3, .invokevirtual 1272, 3), (6, .ifCond .eq 12, 3), (9, .aload_n 0, 1)]
theorem aJ_560_0 : sx_iB prog_14_method_242_code aI_560_0 = true := by decide +kernel
def aI_560_1 : sx_IL := [(10, .iload_n 1, 1), (11, .iload_n 2, 1), (12, .invokevirtual 1275, 3), (15, .ifCond .ne 7, 3), (18, .ldc2_w 590, 3), (21, .lreturn, 1)]
theorem aJ_560_1 : sx_iB prog_14_method_242_code aI_560_1 = true := by decide +kernel
def aI_560_2 : sx_IL := [(22, .iconst 2, 1), (23, .iload_n 1, 1), (24, .imul, 1), (25, .iload_n 2, 1), (26, .iadd, 1), (27, .istore_n 3, 1)]
theorem aJ_560_2 : sx_iB prog_14_method_242_code aI_560_2 = true := by decide +kernel
def aI_560_3 : sx_IL := [(28, .aload_n 0, 1), (29, .getfield 517, 3), (32, .istore 4, 2), (34, .aload_n 0, 1), (35, .iconst 0, 1), (36, .putfield 517, 3)]
theorem aJ_560_3 : sx_iB prog_14_method_242_code aI_560_3 = true := by decide +kernel
def aI_560_4 : sx_IL := [(39, .aload_n 0, 1), (40, .getfield 363, 3), (43, .iload_n 3, 1), (44, .laload, 1), (45, .lconst 0, 1), (46, .lcmp, 1)]
theorem aJ_560_4 : sx_iB prog_14_method_242_code aI_560_4 = true := by decide +kernel
def aI_560_5 : sx_IL := [(47, .ifCond .ne 16, 3), (50, .aload_n 0, 1), (51, .getfield 366, 3), (54, .iload_n 3, 1), (55, .laload, 1), (56, .lconst 0, 1)]
theorem aJ_560_5 : sx_iB prog_14_method_242_code aI_560_5 = true := by decide +kernel
def aI_560_6 : sx_IL := [(57, .lcmp, 1), (58, .ifCond .ne 5, 3), (61, .lconst 0, 1), (62, .lreturn, 1), (63, .aload_n 0, 1), (64, .iload_n 3, 1)]
theorem aJ_560_6 : sx_iB prog_14_method_242_code aI_560_6 = true := by decide +kernel
def aI_560_7 : sx_IL := [(65, .invokevirtual 998, 3), (68, .istore 5, 2), (70, .aload_n 0, 1), (71, .iload 5, 2), (73, .aload_n 0, 1), (74, .getfield 366, 3)]
theorem aJ_560_7 : sx_iB prog_14_method_242_code aI_560_7 = true := by decide +kernel
def aI_560_8 : sx_IL := [(77, .iload_n 3, 1), (78, .laload, 1), (79, .bipush 121, 2), (81, .aload_n 0, 1), (82, .iload 5, 2), (84, .aload_n 0, 1)]
theorem aJ_560_8 : sx_iB prog_14_method_242_code aI_560_8 = true := by decide +kernel
def aI_560_9 : sx_IL := [(85, .getfield 7, 3), (88, .iconst 0, 1), (89, .iload 4, 2), (91, .invokevirtual 592, 3), (94, .invokevirtual 598, 3), (97, .lreturn, 1)]
theorem aJ_560_9 : sx_iB prog_14_method_242_code aI_560_9 = true := by decide +kernel
