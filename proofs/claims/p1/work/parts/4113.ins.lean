/-! SX: instructions, rows of the class and the reference -/
def aI_361_0 : sx_IL := [(0, .lload_n 0, 1), (1, .bipush 32, 2), (3, .lushr, 1), (4, .l2i, 1), (5, .ldc_w 626, 3), (8, .iand, 1)]
theorem aJ_361_0 : sx_iB prog_14_method_41_code aI_361_0 = true := by decide +kernel
def aI_361_1 : sx_IL := [(9, .ireturn, 1)]
theorem aJ_361_1 : sx_iB prog_14_method_41_code aI_361_1 = true := by decide +kernel
def aI_362_0 : sx_IL := [(0, .aload_n 0, 1), (1, .iload_n 1, 1), (2, .invokevirtual 568, 3), (5, .aload_n 0, 1), (6, .iload_n 2, 1), (7, .invokevirtual 606, 3)]
theorem aJ_362_0 : sx_iB prog_14_method_42_code aI_362_0 = true := by decide +kernel
def aI_362_1 : sx_IL := [(10, .aload_n 0, 1), (11, .iload_n 3, 1), (12, .invokevirtual 606, 3), (15, .aload_n 0, 1), (16, .aload 4, 2), (18, .iload 5, 2)]
theorem aJ_362_1 : sx_iB prog_14_method_42_code aI_362_1 = true := by decide +kernel
def aI_362_2 : sx_IL := [(20, .iload 6, 2), (22, .invokevirtual 586, 3), (25, .aload_n 0, 1), (26, .invokevirtual 571, 3), (29, .invokestatic 659, 3), (32, .ldc_w 663, 3)]
theorem aJ_362_2 : sx_iB prog_14_method_42_code aI_362_2 = true := by decide +kernel
def aI_362_3 : sx_IL := [(35, .irem, 1), (36, .ireturn, 1)]
theorem aJ_362_3 : sx_iB prog_14_method_42_code aI_362_3 = true := by decide +kernel
def aI_363_0 : sx_IL := [(0, .iload_n 1, 1), (1, .i2l, 1), (2, .lconst 1, 1), (3, .ldc2_w 631, 3), (6, .invokestatic 513, 3), (9, .ifCond .ne 5, 3)]
theorem aJ_363_0 : sx_iB prog_14_method_46_code aI_363_0 = true := by decide +kernel
def aI_363_1 : sx_IL := [(12, .iconst (-1), 1), (13, .ireturn, 1), (14, .aload_n 0, 1), (15, .iload_n 1, 1), (16, .iload_n 2, 1), (17, .lload_n 3, 1)]
theorem aJ_363_1 : sx_iB prog_14_method_46_code aI_363_1 = true := by decide +kernel
def aI_363_2 : sx_IL := [(18, .aload_n 0, 1), (19, .getfield 7, 3), (22, .iconst 0, 1), (23, .aload_n 0, 1), (24, .getfield 517, 3), (27, .invokevirtual 679, 3)]
theorem aJ_363_2 : sx_iB prog_14_method_46_code aI_363_2 = true := by decide +kernel
def aI_363_3 : sx_IL := [(30, .istore 5, 2), (32, .aload_n 0, 1), (33, .iconst 0, 1), (34, .putfield 517, 3), (37, .iload 5, 2), (39, .ifCond .eq 7, 3)]
theorem aJ_363_3 : sx_iB prog_14_method_46_code aI_363_3 = true := by decide +kernel
def aI_363_4 : sx_IL := [(42, .iconst 1, 1), (43, .goto 4, 3), (46, .iconst 0, 1), (47, .ireturn, 1)]
theorem aJ_363_4 : sx_iB prog_14_method_46_code aI_363_4 = true := by decide +kernel
def aI_364_0 : sx_IL := [(0, .lload_n 3, 1), (1, .bipush 32, 2), (3, .lushr, 1), (4, .l2i, 1), (5, .istore 8, 2), (7, .lload_n 3, 1)]
theorem aJ_364_0 : sx_iB prog_14_method_44_code aI_364_0 = true := by decide +kernel
def aI_364_1 : sx_IL := [(8, .l2i, 1), (9, .istore 9, 2), (11, .iload_n 2, 1), (12, .i2l, 1), (13, .ldc2_w 631, 3), (16, .ldc2_w 671, 3)]
theorem aJ_364_1 : sx_iB prog_14_method_44_code aI_364_1 = true := by decide +kernel
def aI_364_2 : sx_IL := [(19, .invokestatic 513, 3), (22, .ifCond .eq 44, 3), (25, .iload_n 2, 1), (26, .i2l, 1), (27, .ldc_w 663, 3), (30, .ldc_w 651, 3)]
theorem aJ_364_2 : sx_iB prog_14_method_44_code aI_364_2 = true := by decide +kernel
def aI_364_3 : sx_IL := [(33, .invokestatic 636, 3), (36, .iconst 1, 1), (37, .if_icmp .ne 29, 3), (40, .iload 8, 2), (42, .i2l, 1), (43, .lconst 0, 1)]
theorem aJ_364_3 : sx_iB prog_14_method_44_code aI_364_3 = true := by decide +kernel
def aI_364_4 : sx_IL := [(44, .ldc2_w 647, 3), (47, .invokestatic 513, 3), (50, .ifCond .eq 16, 3), (53, .iload 9, 2), (55, .i2l, 1), (56, .lconst 0, 1)]
theorem aJ_364_4 : sx_iB prog_14_method_44_code aI_364_4 = true := by decide +kernel
def aI_364_5 : sx_IL := [(57, .ldc2_w 647, 3), (60, .invokestatic 513, 3), (63, .ifCond .ne 5, 3), (66, .iconst 0, 1), (67, .ireturn, 1), (68, .ldc2_w 649, 3)]
theorem aJ_364_5 : sx_iB prog_14_method_44_code aI_364_5 = true := by decide +kernel
def aI_364_6 : sx_IL := [(71, .iload 9, 2), (73, .ldc_w 651, 3), (76, .invokestatic 636, 3), (79, .i2l, 1), (80, .iload_n 2, 1), (81, .i2l, 1)]
theorem aJ_364_6 : sx_iB prog_14_method_44_code aI_364_6 = true := by decide +kernel
def aI_364_7 : sx_IL := [(82, .ldc_w 663, 3), (85, .iload 8, 2), (87, .isub, 1), (88, .ldc_w 651, 3), (91, .invokestatic 636, 3), (94, .i2l, 1)]
theorem aJ_364_7 : sx_iB prog_14_method_44_code aI_364_7 = true := by decide +kernel
def aI_364_8 : sx_IL := [(95, .lmul, 1), (96, .ldc2_w 673, 3), (99, .lrem, 1), (100, .lstore 10, 2), (102, .aload_n 0, 1), (103, .iload_n 1, 1)]
theorem aJ_364_8 : sx_iB prog_14_method_44_code aI_364_8 = true := by decide +kernel
def aI_364_9 : sx_IL := [(104, .iconst 1, 1), (105, .isub, 1), (106, .lload 10, 2), (108, .l2i, 1), (109, .iload_n 2, 1), (110, .aload 5, 2)]
theorem aJ_364_9 : sx_iB prog_14_method_44_code aI_364_9 = true := by decide +kernel
def aI_364_10 : sx_IL := [(112, .iload 6, 2), (114, .iload 7, 2), (116, .invokevirtual 665, 3), (119, .iload 8, 2), (121, .if_icmp .ne 7, 3), (124, .iconst 1, 1)]
theorem aJ_364_10 : sx_iB prog_14_method_44_code aI_364_10 = true := by decide +kernel
def aI_364_11 : sx_IL := [(125, .goto 4, 3), (128, .iconst 0, 1), (129, .ireturn, 1)]
theorem aJ_364_11 : sx_iB prog_14_method_44_code aI_364_11 = true := by decide +kernel
def aI_365_0 : sx_IL := [(0, .aload_n 0, 1), (1, .getfield 683, 3), (4, .iconst 4, 1), (5, .if_icmp .ne 6, 3), (8, .bipush (-3), 2), (10, .ireturn, 1)]
theorem aJ_365_0 : sx_iB prog_14_method_49_code aI_365_0 = true := by decide +kernel
def aI_365_1 : sx_IL := [(11, .aload_n 0, 1), (12, .dup, 1), (13, .getfield 683, 3), (16, .iconst 1, 1), (17, .iadd, 1), (18, .putfield 683, 3)]
theorem aJ_365_1 : sx_iB prog_14_method_49_code aI_365_1 = true := by decide +kernel
def aI_365_2 : sx_IL := [(21, .aload_n 0, 1), (22, .getfield 683, 3), (25, .iconst 1, 1), (26, .isub, 1), (27, .ireturn, 1)]
theorem aJ_365_2 : sx_iB prog_14_method_49_code aI_365_2 = true := by decide +kernel
def aI_366_0 : sx_IL := [(0, .iload_n 1, 1), (1, .i2l, 1), (2, .lconst 0, 1), (3, .aload_n 0, 1), (4, .getfield 683, 3), (7, .iconst 1, 1)]
theorem aJ_366_0 : sx_iB prog_14_method_50_code aI_366_0 = true := by decide +kernel
def aI_366_1 : sx_IL := [(8, .isub, 1), (9, .i2l, 1), (10, .invokestatic 513, 3), (13, .ifCond .ne 5, 3), (16, .iconst (-1), 1), (17, .ireturn, 1)]
theorem aJ_366_1 : sx_iB prog_14_method_50_code aI_366_1 = true := by decide +kernel
def aI_366_2 : sx_IL := [(18, .aload_n 0, 1), (19, .getfield 16, 3), (22, .iload_n 1, 1), (23, .iaload, 1), (24, .bipush 64, 2), (26, .if_icmp .ne 6, 3)]
theorem aJ_366_2 : sx_iB prog_14_method_50_code aI_366_2 = true := by decide +kernel
def aI_366_3 : sx_IL := [(29, .bipush (-3), 2), (31, .ireturn, 1), (32, .aload_n 0, 1), (33, .getfield 19, 3), (36, .bipush 64, 2), (38, .iload_n 1, 1)]
theorem aJ_366_3 : sx_iB prog_14_method_50_code aI_366_3 = true := by decide +kernel
def aI_366_4 : sx_IL := [(39, .imul, 1), (40, .aload_n 0, 1), (41, .getfield 16, 3), (44, .iload_n 1, 1), (45, .iaload, 1), (46, .iadd, 1)]
theorem aJ_366_4 : sx_iB prog_14_method_50_code aI_366_4 = true := by decide +kernel
def aI_366_5 : sx_IL := [(47, .lload_n 2, 1), (48, .lastore, 1), (49, .aload_n 0, 1), (50, .getfield 16, 3), (53, .iload_n 1, 1), (54, .dup2, 1)]
theorem aJ_366_5 : sx_iB prog_14_method_50_code aI_366_5 = true := by decide +kernel
def aI_366_6 : sx_IL := [(55, .iaload, 1), (56, .iconst 1, 1), (57, .iadd, 1), (58, .iastore, 1), (59, .aload_n 0, 1), (60, .getfield 16, 3)]
theorem aJ_366_6 : sx_iB prog_14_method_50_code aI_366_6 = true := by decide +kernel
def aI_366_7 : sx_IL := [(63, .iload_n 1, 1), (64, .iaload, 1), (65, .ireturn, 1)]
theorem aJ_366_7 : sx_iB prog_14_method_50_code aI_366_7 = true := by decide +kernel
def aI_367_0 : sx_IL := [(0, .iload_n 1, 1), (1, .i2l, 1), (2, .lconst 0, 1), (3, .aload_n 0, 1), (4, .getfield 683, 3), (7, .iconst 1, 1)]
theorem aJ_367_0 : sx_iB prog_14_method_53_code aI_367_0 = true := by decide +kernel
def aI_367_1 : sx_IL := [(8, .isub, 1), (9, .i2l, 1), (10, .invokestatic 513, 3), (13, .ifCond .eq 29, 3), (16, .iload_n 2, 1), (17, .i2l, 1)]
theorem aJ_367_1 : sx_iB prog_14_method_53_code aI_367_1 = true := by decide +kernel
def aI_367_2 : sx_IL := [(18, .lconst 0, 1), (19, .aload_n 0, 1), (20, .getfield 16, 3), (23, .iload_n 1, 1), (24, .iaload, 1), (25, .i2l, 1)]
theorem aJ_367_2 : sx_iB prog_14_method_53_code aI_367_2 = true := by decide +kernel
def aI_367_3 : sx_IL := [(26, .invokestatic 513, 3), (29, .ifCond .eq 13, 3), (32, .aload_n 0, 1), (33, .iload_n 1, 1), (34, .iconst 0, 1), (35, .iload_n 2, 1)]
theorem aJ_367_3 : sx_iB prog_14_method_53_code aI_367_3 = true := by decide +kernel
def aI_367_4 : sx_IL := [(36, .invokevirtual 694, 3), (39, .goto 6, 3), (42, .ldc2_w 590, 3), (45, .lreturn, 1)]
theorem aJ_367_4 : sx_iB prog_14_method_53_code aI_367_4 = true := by decide +kernel
def aI_368_0 : sx_IL := [(0, .iload_n 3, 1), (1, .ifCond .ne 13, 3), (4, .aload_n 0, 1), (5, .iconst 0, 1), (6, .invokevirtual 568, 3), (9, .aload_n 0, 1)]
theorem aJ_368_0 : sx_iB prog_14_method_51_code aI_368_0 = true := by decide +kernel
def aI_368_1 : sx_IL := [(10, .invokevirtual 571, 3), (13, .lreturn, 1), (14, .iconst 0, 1), (15, .istore 4, 2), (17, .iconst 0, 1), (18, .istore 5, 2)]
theorem aJ_368_1 : sx_iB prog_14_method_51_code aI_368_1 = true := by decide +kernel
def aI_368_2 : sx_IL := [(20, .iload 5, 2), (22, .iload_n 3, 1), (23, .if_icmp .ge 122, 3), (26, .aload_n 0, 1), (27, .getfield 23, 3), (30, .iload 4, 2)]
theorem aJ_368_2 : sx_iB prog_14_method_51_code aI_368_2 = true := by decide +kernel
def aI_368_3 : sx_IL := [(32, .aload_n 0, 1), (33, .aload_n 0, 1), (34, .getfield 19, 3), (37, .bipush 64, 2), (39, .iload_n 1, 1), (40, .imul, 1)]
theorem aJ_368_3 : sx_iB prog_14_method_51_code aI_368_3 = true := by decide +kernel
def aI_368_4 : sx_IL := [(41, .iload_n 2, 1), (42, .iadd, 1), (43, .iload 5, 2), (45, .iadd, 1), (46, .laload, 1), (47, .invokevirtual 686, 3)]
theorem aJ_368_4 : sx_iB prog_14_method_51_code aI_368_4 = true := by decide +kernel
def aI_368_5 : sx_IL := [(50, .lastore, 1), (51, .aload_n 0, 1), (52, .getfield 26, 3), (55, .iload 4, 2), (57, .iconst 1, 1), (58, .iastore, 1)]
theorem aJ_368_5 : sx_iB prog_14_method_51_code aI_368_5 = true := by decide +kernel
def aI_368_6 : sx_IL := [(59, .iinc 4 1, 3), (62, .iload 4, 2), (64, .iconst 1, 1), (65, .if_icmp .le 74, 3), (68, .aload_n 0, 1), (69, .getfield 26, 3)]
theorem aJ_368_6 : sx_iB prog_14_method_51_code aI_368_6 = true := by decide +kernel
def aI_368_7 : sx_IL := [(72, .iload 4, 2), (74, .iconst 1, 1), (75, .isub, 1), (76, .iaload, 1), (77, .aload_n 0, 1), (78, .getfield 26, 3)]
theorem aJ_368_7 : sx_iB prog_14_method_51_code aI_368_7 = true := by decide +kernel
def aI_368_8 : sx_IL := [(81, .iload 4, 2), (83, .iconst 2, 1), (84, .isub, 1), (85, .iaload, 1), (86, .if_icmp .ne 53, 3), (89, .aload_n 0, 1)]
theorem aJ_368_8 : sx_iB prog_14_method_51_code aI_368_8 = true := by decide +kernel
def aI_368_9 : sx_IL := [(90, .getfield 23, 3), (93, .iload 4, 2), (95, .iconst 2, 1), (96, .isub, 1), (97, .aload_n 0, 1), (98, .aload_n 0, 1)]
theorem aJ_368_9 : sx_iB prog_14_method_51_code aI_368_9 = true := by decide +kernel
def aI_368_10 : sx_IL := [(99, .getfield 23, 3), (102, .iload 4, 2), (104, .iconst 2, 1), (105, .isub, 1), (106, .laload, 1), (107, .aload_n 0, 1)]
theorem aJ_368_10 : sx_iB prog_14_method_51_code aI_368_10 = true := by decide +kernel
def aI_368_11 : sx_IL := [(108, .getfield 23, 3), (111, .iload 4, 2), (113, .iconst 1, 1), (114, .isub, 1), (115, .laload, 1), (116, .invokevirtual 690, 3)]
theorem aJ_368_11 : sx_iB prog_14_method_51_code aI_368_11 = true := by decide +kernel
def aI_368_12 : sx_IL := [(119, .lastore, 1), (120, .aload_n 0, 1), (121, .getfield 26, 3), (124, .iload 4, 2), (126, .iconst 2, 1), (127, .isub, 1)]
theorem aJ_368_12 : sx_iB prog_14_method_51_code aI_368_12 = true := by decide +kernel
def aI_368_13 : sx_IL := [(128, .dup2, 1), (129, .iaload, 1), (130, .iconst 2, 1), (131, .imul, 1), (132, .iastore, 1), (133, .iinc 4 (-1), 3)]
theorem aJ_368_13 : sx_iB prog_14_method_51_code aI_368_13 = true := by decide +kernel
def aI_368_14 : sx_IL := [(136, .goto (-74), 3), (139, .iinc 5 1, 3), (142, .goto (-122), 3), (145, .iload 4, 2), (147, .iconst 1, 1), (148, .if_icmp .le 40, 3)]
theorem aJ_368_14 : sx_iB prog_14_method_51_code aI_368_14 = true := by decide +kernel
def aI_368_15 : sx_IL := [(151, .aload_n 0, 1), (152, .getfield 23, 3), (155, .iload 4, 2), (157, .iconst 2, 1), (158, .isub, 1), (159, .aload_n 0, 1)]
theorem aJ_368_15 : sx_iB prog_14_method_51_code aI_368_15 = true := by decide +kernel
def aI_368_16 : sx_IL := [(160, .aload_n 0, 1), (161, .getfield 23, 3), (164, .iload 4, 2), (166, .iconst 2, 1), (167, .isub, 1), (168, .laload, 1)]
theorem aJ_368_16 : sx_iB prog_14_method_51_code aI_368_16 = true := by decide +kernel
def aI_368_17 : sx_IL := [(169, .aload_n 0, 1), (170, .getfield 23, 3), (173, .iload 4, 2), (175, .iconst 1, 1), (176, .isub, 1), (177, .laload, 1)]
theorem aJ_368_17 : sx_iB prog_14_method_51_code aI_368_17 = true := by decide +kernel
def aI_368_18 : sx_IL := [(178, .invokevirtual 690, 3), (181, .lastore, 1), (182, .iinc 4 (-1), 3), (185, .goto (-40), 3), (188, .aload_n 0, 1), (189, .getfield 23, 3)]
theorem aJ_368_18 : sx_iB prog_14_method_51_code aI_368_18 = true := by decide +kernel
def aI_368_19 : sx_IL := [(192, .iconst 0, 1), (193, .laload, 1), (194, .lreturn, 1)]
theorem aJ_368_19 : sx_iB prog_14_method_51_code aI_368_19 = true := by decide +kernel
def aI_369_0 : sx_IL := [(0, .aload_n 0, 1), (1, .iconst 0, 1), (2, .invokevirtual 568, 3), (5, .aload_n 0, 1), (6, .iconst 0, 1), (7, .invokevirtual 561, 3)]
theorem aJ_369_0 : sx_iB prog_14_method_47_code aI_369_0 = true := by decide +kernel
def aI_369_1 : sx_IL := [(10, .aload_n 0, 1), (11, .lload_n 1, 1), (12, .invokevirtual 574, 3), (15, .aload_n 0, 1), (16, .invokevirtual 571, 3), (19, .lreturn, 1)]
theorem aJ_369_1 : sx_iB prog_14_method_47_code aI_369_1 = true := by decide +kernel
def aI_370_0 : sx_IL := [(0, .aload_n 0, 1), (1, .iconst 0, 1), (2, .invokevirtual 568, 3), (5, .aload_n 0, 1), (6, .iconst 1, 1), (7, .invokevirtual 561, 3)]
theorem aJ_370_0 : sx_iB prog_14_method_48_code aI_370_0 = true := by decide +kernel
def aI_370_1 : sx_IL := [(10, .aload_n 0, 1), (11, .lload_n 1, 1), (12, .invokevirtual 574, 3), (15, .aload_n 0, 1), (16, .lload_n 3, 1), (17, .invokevirtual 574, 3)]
theorem aJ_370_1 : sx_iB prog_14_method_48_code aI_370_1 = true := by decide +kernel
def aI_370_2 : sx_IL := [(20, .aload_n 0, 1), (21, .invokevirtual 571, 3), (24, .lreturn, 1)]
theorem aJ_370_2 : sx_iB prog_14_method_48_code aI_370_2 = true := by decide +kernel
def aI_371_0 : sx_IL := [(0, .iload_n 1, 1), (1, .i2l, 1), (2, .lconst 0, 1), (3, .aload_n 0, 1), (4, .getfield 683, 3), (7, .iconst 1, 1)]
theorem aJ_371_0 : sx_iB prog_14_method_55_code aI_371_0 = true := by decide +kernel
def aI_371_1 : sx_IL := [(8, .isub, 1), (9, .i2l, 1), (10, .invokestatic 513, 3), (13, .ifCond .eq 32, 3), (16, .iload_n 3, 1), (17, .i2l, 1)]
theorem aJ_371_1 : sx_iB prog_14_method_55_code aI_371_1 = true := by decide +kernel
def aI_371_2 : sx_IL := [(18, .lconst 1, 1), (19, .aload_n 0, 1), (20, .getfield 16, 3), (23, .iload_n 1, 1), (24, .iaload, 1), (25, .i2l, 1)]
theorem aJ_371_2 : sx_iB prog_14_method_55_code aI_371_2 = true := by decide +kernel
def aI_371_3 : sx_IL := [(26, .invokestatic 513, 3), (29, .ifCond .eq 16, 3), (32, .iload_n 2, 1), (33, .i2l, 1), (34, .lconst 0, 1), (35, .iload_n 3, 1)]
theorem aJ_371_3 : sx_iB prog_14_method_55_code aI_371_3 = true := by decide +kernel
def aI_371_4 : sx_IL := [(36, .iconst 1, 1), (37, .isub, 1), (38, .i2l, 1), (39, .invokestatic 513, 3), (42, .ifCond .ne 5, 3), (45, .iconst (-1), 1)]
theorem aJ_371_4 : sx_iB prog_14_method_55_code aI_371_4 = true := by decide +kernel
def aI_371_5 : sx_IL := [(46, .ireturn, 1), (47, .aload_n 0, 1), (48, .iconst 0, 1), (49, .putfield 697, 3), (52, .iconst 0, 1), (53, .istore 4, 2)]
theorem aJ_371_5 : sx_iB prog_14_method_55_code aI_371_5 = true := by decide +kernel
def aI_371_6 : sx_IL := [(55, .iload_n 3, 1), (56, .istore 5, 2), (58, .iload 5, 2), (60, .iconst 1, 1), (61, .if_icmp .le 114, 3), (64, .iload 5, 2)]
theorem aJ_371_6 : sx_iB prog_14_method_55_code aI_371_6 = true := by decide +kernel
def aI_371_7 : sx_IL := [(66, .invokestatic 700, 3), (69, .istore 6, 2), (71, .iload_n 2, 1), (72, .iload 4, 2), (74, .iload 6, 2), (76, .iadd, 1)]
theorem aJ_371_7 : sx_iB prog_14_method_55_code aI_371_7 = true := by decide +kernel
def aI_371_8 : sx_IL := [(77, .if_icmp .ge 7, 3), (80, .iconst 1, 1), (81, .goto 4, 3), (84, .iconst 0, 1), (85, .istore 7, 2), (87, .aload_n 0, 1)]
theorem aJ_371_8 : sx_iB prog_14_method_55_code aI_371_8 = true := by decide +kernel
def aI_371_9 : sx_IL := [(88, .getfield 29, 3), (91, .aload_n 0, 1), (92, .getfield 697, 3), (95, .iload 7, 2), (97, .ifCond .eq 21, 3), (100, .aload_n 0, 1)]
theorem aJ_371_9 : sx_iB prog_14_method_55_code aI_371_9 = true := by decide +kernel
def aI_371_10 : sx_IL := [(101, .iload_n 1, 1), (102, .iload 4, 2), (104, .iload 6, 2), (106, .iadd, 1), (107, .iload 5, 2), (109, .iload 6, 2)]
theorem aJ_371_10 : sx_iB prog_14_method_55_code aI_371_10 = true := by decide +kernel
def aI_371_11 : sx_IL := [(111, .isub, 1), (112, .invokevirtual 694, 3), (115, .goto 12, 3), (118, .aload_n 0, 1), (119, .iload_n 1, 1), (120, .iload 4, 2)]
theorem aJ_371_11 : sx_iB prog_14_method_55_code aI_371_11 = true := by decide +kernel
def aI_371_12 : sx_IL := [(122, .iload 6, 2), (124, .invokevirtual 694, 3), (127, .lastore, 1), (128, .aload_n 0, 1), (129, .dup, 1), (130, .getfield 697, 3)]
theorem aJ_371_12 : sx_iB prog_14_method_55_code aI_371_12 = true := by decide +kernel
def aI_371_13 : sx_IL := [(133, .iconst 1, 1), (134, .iadd, 1), (135, .putfield 697, 3), (138, .iload 7, 2), (140, .ifCond .eq 8, 3), (143, .iload 4, 2)]
theorem aJ_371_13 : sx_iB prog_14_method_55_code aI_371_13 = true := by decide +kernel
def aI_371_14 : sx_IL := [(145, .goto 8, 3), (148, .iload 4, 2), (150, .iload 6, 2), (152, .iadd, 1), (153, .istore 4, 2), (155, .iload 7, 2)]
theorem aJ_371_14 : sx_iB prog_14_method_55_code aI_371_14 = true := by decide +kernel
def aI_371_15 : sx_IL := [(157, .ifCond .eq 8, 3), (160, .iload 6, 2), (162, .goto 8, 3), (165, .iload 5, 2), (167, .iload 6, 2), (169, .isub, 1)]
theorem aJ_371_15 : sx_iB prog_14_method_55_code aI_371_15 = true := by decide +kernel
def aI_371_16 : sx_IL := [(170, .istore 5, 2), (172, .goto (-114), 3), (175, .aload_n 0, 1), (176, .invokevirtual 703, 3), (179, .ireturn, 1)]
theorem aJ_371_16 : sx_iB prog_14_method_55_code aI_371_16 = true := by decide +kernel
def aI_372_0 : sx_IL := [(0, .iconst 1, 1), (1, .istore_n 1, 1), (2, .iconst 2, 1), (3, .iload_n 1, 1), (4, .imul, 1), (5, .iload_n 0, 1)]
theorem aJ_372_0 : sx_iB prog_14_method_52_code aI_372_0 = true := by decide +kernel
def aI_372_1 : sx_IL := [(6, .if_icmp .ge 10, 3), (9, .iconst 2, 1), (10, .iload_n 1, 1), (11, .imul, 1), (12, .istore_n 1, 1), (13, .goto (-11), 3)]
theorem aJ_372_1 : sx_iB prog_14_method_52_code aI_372_1 = true := by decide +kernel
def aI_372_2 : sx_IL := [(16, .iload_n 1, 1), (17, .ireturn, 1)]
theorem aJ_372_2 : sx_iB prog_14_method_52_code aI_372_2 = true := by decide +kernel
def aI_373_0 : sx_IL := [(0, .aload_n 0, 1), (1, .iconst 0, 1), (2, .putfield 520, 3), (5, .aload_n 0, 1), (6, .getfield 697, 3), (9, .iconst 1, 1)]
theorem aJ_373_0 : sx_iB prog_14_method_54_code aI_373_0 = true := by decide +kernel
def aI_373_1 : sx_IL := [(10, .isub, 1), (11, .istore_n 1, 1), (12, .iload_n 1, 1), (13, .ifCond .lt 52, 3), (16, .iconst 0, 1), (17, .istore_n 2, 1)]
theorem aJ_373_1 : sx_iB prog_14_method_54_code aI_373_1 = true := by decide +kernel
def aI_373_2 : sx_IL := [(18, .iload_n 2, 1), (19, .bipush 8, 2), (21, .if_icmp .ge 38, 3), (24, .aload_n 0, 1), (25, .getfield 13, 3), (28, .aload_n 0, 1)]
theorem aJ_373_2 : sx_iB prog_14_method_54_code aI_373_2 = true := by decide +kernel
def aI_373_3 : sx_IL := [(29, .getfield 520, 3), (32, .aload_n 0, 1), (33, .getfield 29, 3), (36, .iload_n 1, 1), (37, .laload, 1), (38, .iload_n 2, 1)]
theorem aJ_373_3 : sx_iB prog_14_method_54_code aI_373_3 = true := by decide +kernel
def aI_373_4 : sx_IL := [(39, .invokestatic 622, 3), (42, .iastore, 1), (43, .aload_n 0, 1), (44, .dup, 1), (45, .getfield 520, 3), (48, .iconst 1, 1)]
theorem aJ_373_4 : sx_iB prog_14_method_54_code aI_373_4 = true := by decide +kernel
def aI_373_5 : sx_IL := [(49, .iadd, 1), (50, .putfield 520, 3), (53, .iinc 2 1, 3), (56, .goto (-38), 3), (59, .iinc 1 (-1), 3), (62, .goto (-50), 3)]
theorem aJ_373_5 : sx_iB prog_14_method_54_code aI_373_5 = true := by decide +kernel
def aI_373_6 : sx_IL := [(65, .aload_n 0, 1), (66, .getfield 520, 3), (69, .ireturn, 1)]
theorem aJ_373_6 : sx_iB prog_14_method_54_code aI_373_6 = true := by decide +kernel
def aI_374_0 : sx_IL := [(0, .iload_n 1, 1), (1, .i2l, 1), (2, .lconst 0, 1), (3, .aload_n 0, 1), (4, .getfield 683, 3), (7, .iconst 1, 1)]
theorem aJ_374_0 : sx_iB prog_14_method_56_code aI_374_0 = true := by decide +kernel
def aI_374_1 : sx_IL := [(8, .isub, 1), (9, .i2l, 1), (10, .invokestatic 513, 3), (13, .ifCond .eq 30, 3), (16, .iload_n 3, 1), (17, .i2l, 1)]
theorem aJ_374_1 : sx_iB prog_14_method_56_code aI_374_1 = true := by decide +kernel
def aI_374_2 : sx_IL := [(18, .lconst 1, 1), (19, .aload_n 0, 1), (20, .getfield 16, 3), (23, .iload_n 1, 1), (24, .iaload, 1), (25, .i2l, 1)]
theorem aJ_374_2 : sx_iB prog_14_method_56_code aI_374_2 = true := by decide +kernel
def aI_374_3 : sx_IL := [(26, .invokestatic 513, 3), (29, .ifCond .eq 14, 3), (32, .iload_n 2, 1), (33, .i2l, 1), (34, .lconst 1, 1), (35, .iload_n 3, 1)]
theorem aJ_374_3 : sx_iB prog_14_method_56_code aI_374_3 = true := by decide +kernel
def aI_374_4 : sx_IL := [(36, .i2l, 1), (37, .invokestatic 513, 3), (40, .ifCond .ne 5, 3), (43, .iconst (-1), 1), (44, .ireturn, 1), (45, .aload_n 0, 1)]
theorem aJ_374_4 : sx_iB prog_14_method_56_code aI_374_4 = true := by decide +kernel
def aI_374_5 : sx_IL := [(46, .iconst 0, 1), (47, .putfield 697, 3), (50, .iconst 0, 1), (51, .istore 4, 2), (53, .iload_n 3, 1), (54, .istore 5, 2)]
theorem aJ_374_5 : sx_iB prog_14_method_56_code aI_374_5 = true := by decide +kernel
def aI_374_6 : sx_IL := [(56, .iload_n 2, 1), (57, .istore 6, 2), (59, .iconst 1, 1), (60, .istore 7, 2), (62, .iload 6, 2), (64, .iload 5, 2)]
theorem aJ_374_6 : sx_iB prog_14_method_56_code aI_374_6 = true := by decide +kernel
def aI_374_7 : sx_IL := [(66, .if_icmp .ge 146, 3), (69, .iload 5, 2), (71, .invokestatic 700, 3), (74, .istore 8, 2), (76, .iload 6, 2), (78, .iload 8, 2)]
theorem aJ_374_7 : sx_iB prog_14_method_56_code aI_374_7 = true := by decide +kernel
def aI_374_8 : sx_IL := [(80, .if_icmp .gt 7, 3), (83, .iconst 1, 1), (84, .goto 4, 3), (87, .iconst 0, 1), (88, .istore 9, 2), (90, .aload_n 0, 1)]
theorem aJ_374_8 : sx_iB prog_14_method_56_code aI_374_8 = true := by decide +kernel
def aI_374_9 : sx_IL := [(91, .getfield 29, 3), (94, .aload_n 0, 1), (95, .getfield 697, 3), (98, .iload 9, 2), (100, .ifCond .eq 21, 3), (103, .aload_n 0, 1)]
theorem aJ_374_9 : sx_iB prog_14_method_56_code aI_374_9 = true := by decide +kernel
def aI_374_10 : sx_IL := [(104, .iload_n 1, 1), (105, .iload 4, 2), (107, .iload 8, 2), (109, .iadd, 1), (110, .iload 5, 2), (112, .iload 8, 2)]
theorem aJ_374_10 : sx_iB prog_14_method_56_code aI_374_10 = true := by decide +kernel
def aI_374_11 : sx_IL := [(114, .isub, 1), (115, .invokevirtual 694, 3), (118, .goto 12, 3), (121, .aload_n 0, 1), (122, .iload_n 1, 1), (123, .iload 4, 2)]
theorem aJ_374_11 : sx_iB prog_14_method_56_code aI_374_11 = true := by decide +kernel
def aI_374_12 : sx_IL := [(125, .iload 8, 2), (127, .invokevirtual 694, 3), (130, .lastore, 1), (131, .aload_n 0, 1), (132, .dup, 1), (133, .getfield 697, 3)]
theorem aJ_374_12 : sx_iB prog_14_method_56_code aI_374_12 = true := by decide +kernel
def aI_374_13 : sx_IL := [(136, .iconst 1, 1), (137, .iadd, 1), (138, .putfield 697, 3), (141, .iload 7, 2), (143, .ifCond .eq 12, 3), (146, .iload 9, 2)]
theorem aJ_374_13 : sx_iB prog_14_method_56_code aI_374_13 = true := by decide +kernel
def aI_374_14 : sx_IL := [(148, .ifCond .eq 7, 3), (151, .iconst 1, 1), (152, .goto 4, 3), (155, .iconst 0, 1), (156, .istore 7, 2), (158, .iload 9, 2)]
theorem aJ_374_14 : sx_iB prog_14_method_56_code aI_374_14 = true := by decide +kernel
def aI_374_15 : sx_IL := [(160, .ifCond .eq 8, 3), (163, .iload 6, 2), (165, .goto 8, 3), (168, .iload 6, 2), (170, .iload 8, 2), (172, .isub, 1)]
theorem aJ_374_15 : sx_iB prog_14_method_56_code aI_374_15 = true := by decide +kernel
def aI_374_16 : sx_IL := [(173, .istore 6, 2), (175, .iload 9, 2), (177, .ifCond .eq 8, 3), (180, .iload 4, 2), (182, .goto 8, 3), (185, .iload 4, 2)]
theorem aJ_374_16 : sx_iB prog_14_method_56_code aI_374_16 = true := by decide +kernel
def aI_374_17 : sx_IL := [(187, .iload 8, 2), (189, .iadd, 1), (190, .istore 4, 2), (192, .iload 9, 2), (194, .ifCond .eq 8, 3), (197, .iload 8, 2)]
theorem aJ_374_17 : sx_iB prog_14_method_56_code aI_374_17 = true := by decide +kernel
def aI_374_18 : sx_IL := [(199, .goto 8, 3), (202, .iload 5, 2), (204, .iload 8, 2), (206, .isub, 1), (207, .istore 5, 2), (209, .goto (-147), 3)]
theorem aJ_374_18 : sx_iB prog_14_method_56_code aI_374_18 = true := by decide +kernel
def aI_374_19 : sx_IL := [(212, .iload 7, 2), (214, .ifCond .ne 31, 3), (217, .aload_n 0, 1), (218, .getfield 29, 3), (221, .aload_n 0, 1), (222, .getfield 697, 3)]
theorem aJ_374_19 : sx_iB prog_14_method_56_code aI_374_19 = true := by decide +kernel
def aI_374_20 : sx_IL := [(225, .aload_n 0, 1), (226, .iload_n 1, 1), (227, .iload 4, 2), (229, .iload 5, 2), (231, .invokevirtual 694, 3), (234, .lastore, 1)]
theorem aJ_374_20 : sx_iB prog_14_method_56_code aI_374_20 = true := by decide +kernel
def aI_374_21 : sx_IL := [(235, .aload_n 0, 1), (236, .dup, 1), (237, .getfield 697, 3), (240, .iconst 1, 1), (241, .iadd, 1), (242, .putfield 697, 3)]
theorem aJ_374_21 : sx_iB prog_14_method_56_code aI_374_21 = true := by decide +kernel
def aI_374_22 : sx_IL := [(245, .aload_n 0, 1), (246, .invokevirtual 703, 3), (249, .ireturn, 1)]
theorem aJ_374_22 : sx_iB prog_14_method_56_code aI_374_22 = true := by decide +kernel
def aI_375_0 : sx_IL := [(0, .iload 4, 2), (2, .i2l, 1), (3, .lconst 1, 1), (4, .ldc2_w 707, 3), (7, .invokestatic 513, 3), (10, .ifCond .eq 17, 3)]
theorem aJ_375_0 : sx_iB prog_14_method_58_code aI_375_0 = true := by decide +kernel
def aI_375_1 : sx_IL := [(13, .iload_n 3, 1), (14, .i2l, 1), (15, .lconst 0, 1), (16, .iload 4, 2), (18, .iconst 1, 1), (19, .isub, 1)]
theorem aJ_375_1 : sx_iB prog_14_method_58_code aI_375_1 = true := by decide +kernel
def aI_375_2 : sx_IL := [(20, .i2l, 1), (21, .invokestatic 513, 3), (24, .ifCond .ne 5, 3), (27, .iconst (-1), 1), (28, .ireturn, 1), (29, .aload_n 0, 1)]
theorem aJ_375_2 : sx_iB prog_14_method_58_code aI_375_2 = true := by decide +kernel
def aI_375_3 : sx_IL := [(30, .getfield 517, 3), (33, .istore 7, 2), (35, .aload_n 0, 1), (36, .iconst 0, 1), (37, .putfield 517, 3), (40, .iconst 0, 1)]
theorem aJ_375_3 : sx_iB prog_14_method_58_code aI_375_3 = true := by decide +kernel
def aI_375_4 : sx_IL := [(41, .istore 8, 2), (43, .iload 4, 2), (45, .istore 9, 2), (47, .iload_n 3, 1), (48, .istore 10, 2), (50, .iload 9, 2)]
theorem aJ_375_4 : sx_iB prog_14_method_58_code aI_375_4 = true := by decide +kernel
def aI_375_5 : sx_IL := [(52, .iconst 1, 1), (53, .if_icmp .le 73, 3), (56, .iload 9, 2), (58, .invokestatic 700, 3), (61, .istore 11, 2), (63, .aload_n 0, 1)]
theorem aJ_375_5 : sx_iB prog_14_method_58_code aI_375_5 = true := by decide +kernel
def aI_375_6 : sx_IL := [(64, .getfield 32, 3), (67, .iload 8, 2), (69, .iload 10, 2), (71, .iload 11, 2), (73, .if_icmp .ge 7, 3), (76, .iconst 1, 1)]
theorem aJ_375_6 : sx_iB prog_14_method_58_code aI_375_6 = true := by decide +kernel
def aI_375_7 : sx_IL := [(77, .goto 4, 3), (80, .iconst 0, 1), (81, .bastore, 1), (82, .iload 10, 2), (84, .iload 11, 2), (86, .if_icmp .ge 8, 3)]
theorem aJ_375_7 : sx_iB prog_14_method_58_code aI_375_7 = true := by decide +kernel
def aI_375_8 : sx_IL := [(89, .iload 11, 2), (91, .goto 8, 3), (94, .iload 9, 2), (96, .iload 11, 2), (98, .isub, 1), (99, .istore 9, 2)]
theorem aJ_375_8 : sx_iB prog_14_method_58_code aI_375_8 = true := by decide +kernel
def aI_375_9 : sx_IL := [(101, .iload 10, 2), (103, .iload 11, 2), (105, .if_icmp .ge 8, 3), (108, .iload 10, 2), (110, .goto 8, 3), (113, .iload 10, 2)]
theorem aJ_375_9 : sx_iB prog_14_method_58_code aI_375_9 = true := by decide +kernel
def aI_375_10 : sx_IL := [(115, .iload 11, 2), (117, .isub, 1), (118, .istore 10, 2), (120, .iinc 8 1, 3), (123, .goto (-73), 3), (126, .iload 7, 2)]
theorem aJ_375_10 : sx_iB prog_14_method_58_code aI_375_10 = true := by decide +kernel
def aI_375_11 : sx_IL := [(128, .bipush 8, 2), (130, .iload 8, 2), (132, .imul, 1), (133, .if_icmp .eq 5, 3), (136, .iconst 0, 1), (137, .ireturn, 1)]
theorem aJ_375_11 : sx_iB prog_14_method_58_code aI_375_11 = true := by decide +kernel
def aI_375_12 : sx_IL := [(138, .aload_n 0, 1), (139, .lload_n 1, 1), (140, .invokevirtual 686, 3), (143, .lstore 11, 2), (145, .iconst 0, 1), (146, .istore 13, 2)]
theorem aJ_375_12 : sx_iB prog_14_method_58_code aI_375_12 = true := by decide +kernel
def aI_375_13 : sx_IL := [(148, .iload 13, 2), (150, .iload 8, 2), (152, .if_icmp .ge 53, 3), (155, .aload_n 0, 1), (156, .iload 13, 2), (158, .invokevirtual 709, 3)]
theorem aJ_375_13 : sx_iB prog_14_method_58_code aI_375_13 = true := by decide +kernel
def aI_375_14 : sx_IL := [(161, .lstore 14, 2), (163, .aload_n 0, 1), (164, .getfield 32, 3), (167, .iload 8, 2), (169, .iconst 1, 1), (170, .isub, 1)]
theorem aJ_375_14 : sx_iB prog_14_method_58_code aI_375_14 = true := by decide +kernel
def aI_375_15 : sx_IL := [(171, .iload 13, 2), (173, .isub, 1), (174, .baload, 1), (175, .ifCond .eq 14, 3), (178, .aload_n 0, 1), (179, .lload 11, 2)]
theorem aJ_375_15 : sx_iB prog_14_method_58_code aI_375_15 = true := by decide +kernel
def aI_375_16 : sx_IL := [(181, .lload 14, 2), (183, .invokevirtual 690, 3), (186, .goto 11, 3), (189, .aload_n 0, 1), (190, .lload 14, 2), (192, .lload 11, 2)]
theorem aJ_375_16 : sx_iB prog_14_method_58_code aI_375_16 = true := by decide +kernel
def aI_375_17 : sx_IL := [(194, .invokevirtual 690, 3), (197, .lstore 11, 2), (199, .iinc 13 1, 3), (202, .goto (-54), 3), (205, .lload 11, 2), (207, .lload 5, 2)]
theorem aJ_375_17 : sx_iB prog_14_method_58_code aI_375_17 = true := by decide +kernel
def aI_375_18 : sx_IL := [(209, .lcmp, 1), (210, .ifCond .ne 7, 3), (213, .iconst 1, 1), (214, .goto 4, 3), (217, .iconst 0, 1), (218, .ireturn, 1)]
theorem aJ_375_18 : sx_iB prog_14_method_58_code aI_375_18 = true := by decide +kernel
def aI_376_0 : sx_IL := [(0, .lconst 0, 1), (1, .lstore_n 2, 1), (2, .iconst 0, 1), (3, .istore 4, 2), (5, .iload 4, 2), (7, .bipush 8, 2)]
theorem aJ_376_0 : sx_iB prog_14_method_57_code aI_376_0 = true := by decide +kernel
def aI_376_1 : sx_IL := [(9, .if_icmp .ge 28, 3), (12, .lload_n 2, 1), (13, .bipush 8, 2), (15, .lshl, 1), (16, .aload_n 0, 1), (17, .getfield 7, 3)]
theorem aJ_376_1 : sx_iB prog_14_method_57_code aI_376_1 = true := by decide +kernel
def aI_376_2 : sx_IL := [(20, .bipush 8, 2), (22, .iload_n 1, 1), (23, .imul, 1), (24, .iload 4, 2), (26, .iadd, 1), (27, .iaload, 1)]
theorem aJ_376_2 : sx_iB prog_14_method_57_code aI_376_2 = true := by decide +kernel
def aI_376_3 : sx_IL := [(28, .i2l, 1), (29, .lor, 1), (30, .lstore_n 2, 1), (31, .iinc 4 1, 3), (34, .goto (-29), 3), (37, .lload_n 2, 1)]
theorem aJ_376_3 : sx_iB prog_14_method_57_code aI_376_3 = true := by decide +kernel
def aI_376_4 : sx_IL := [(38, .lreturn, 1)]
theorem aJ_376_4 : sx_iB prog_14_method_57_code aI_376_4 = true := by decide +kernel
def aI_377_0 : sx_IL := [(0, .iload_n 2, 1), (1, .i2l, 1), (2, .lconst 1, 1), (3, .ldc2_w 707, 3), (6, .invokestatic 513, 3), (9, .ifCond .eq 14, 3)]
theorem aJ_377_0 : sx_iB prog_14_method_59_code aI_377_0 = true := by decide +kernel
def aI_377_1 : sx_IL := [(12, .iload_n 1, 1), (13, .i2l, 1), (14, .lconst 1, 1), (15, .iload_n 2, 1), (16, .i2l, 1), (17, .invokestatic 513, 3)]
theorem aJ_377_1 : sx_iB prog_14_method_59_code aI_377_1 = true := by decide +kernel
def aI_377_2 : sx_IL := [(20, .ifCond .ne 5, 3), (23, .iconst (-1), 1), (24, .ireturn, 1), (25, .aload_n 0, 1), (26, .getfield 517, 3), (29, .istore 7, 2)]
theorem aJ_377_2 : sx_iB prog_14_method_59_code aI_377_2 = true := by decide +kernel
def aI_377_3 : sx_IL := [(31, .aload_n 0, 1), (32, .iconst 0, 1), (33, .putfield 517, 3), (36, .iconst 0, 1), (37, .istore 8, 2), (39, .iload_n 2, 1)]
theorem aJ_377_3 : sx_iB prog_14_method_59_code aI_377_3 = true := by decide +kernel
def aI_377_4 : sx_IL := [(40, .istore 9, 2), (42, .iload_n 1, 1), (43, .istore 10, 2), (45, .iconst 1, 1), (46, .istore 11, 2), (48, .iload 10, 2)]
theorem aJ_377_4 : sx_iB prog_14_method_59_code aI_377_4 = true := by decide +kernel
def aI_377_5 : sx_IL := [(50, .iload 9, 2), (52, .if_icmp .ge 92, 3), (55, .iload 9, 2), (57, .invokestatic 700, 3), (60, .istore 12, 2), (62, .aload_n 0, 1)]
theorem aJ_377_5 : sx_iB prog_14_method_59_code aI_377_5 = true := by decide +kernel
def aI_377_6 : sx_IL := [(63, .getfield 32, 3), (66, .iload 8, 2), (68, .iload 10, 2), (70, .iload 12, 2), (72, .if_icmp .gt 7, 3), (75, .iconst 1, 1)]
theorem aJ_377_6 : sx_iB prog_14_method_59_code aI_377_6 = true := by decide +kernel
def aI_377_7 : sx_IL := [(76, .goto 4, 3), (79, .iconst 0, 1), (80, .bastore, 1), (81, .iload 11, 2), (83, .ifCond .eq 14, 3), (86, .iload 10, 2)]
theorem aJ_377_7 : sx_iB prog_14_method_59_code aI_377_7 = true := by decide +kernel
def aI_377_8 : sx_IL := [(88, .iload 12, 2), (90, .if_icmp .gt 7, 3), (93, .iconst 1, 1), (94, .goto 4, 3), (97, .iconst 0, 1), (98, .istore 11, 2)]
theorem aJ_377_8 : sx_iB prog_14_method_59_code aI_377_8 = true := by decide +kernel
def aI_377_9 : sx_IL := [(100, .iload 10, 2), (102, .iload 12, 2), (104, .if_icmp .gt 8, 3), (107, .iload 12, 2), (109, .goto 8, 3), (112, .iload 9, 2)]
theorem aJ_377_9 : sx_iB prog_14_method_59_code aI_377_9 = true := by decide +kernel
def aI_377_10 : sx_IL := [(114, .iload 12, 2), (116, .isub, 1), (117, .istore 9, 2), (119, .iload 10, 2), (121, .iload 12, 2), (123, .if_icmp .gt 8, 3)]
theorem aJ_377_10 : sx_iB prog_14_method_59_code aI_377_10 = true := by decide +kernel
def aI_377_11 : sx_IL := [(126, .iload 10, 2), (128, .goto 8, 3), (131, .iload 10, 2), (133, .iload 12, 2), (135, .isub, 1), (136, .istore 10, 2)]
theorem aJ_377_11 : sx_iB prog_14_method_59_code aI_377_11 = true := by decide +kernel
def aI_377_12 : sx_IL := [(138, .iinc 8 1, 3), (141, .goto (-93), 3), (144, .iload 11, 2), (146, .ifCond .eq 7, 3), (149, .iconst 0, 1), (150, .goto 4, 3)]
theorem aJ_377_12 : sx_iB prog_14_method_59_code aI_377_12 = true := by decide +kernel
def aI_377_13 : sx_IL := [(153, .iconst 1, 1), (154, .istore 12, 2), (156, .iload 7, 2), (158, .bipush 8, 2), (160, .iload 8, 2), (162, .iload 12, 2)]
theorem aJ_377_13 : sx_iB prog_14_method_59_code aI_377_13 = true := by decide +kernel
def aI_377_14 : sx_IL := [(164, .iadd, 1), (165, .imul, 1), (166, .if_icmp .eq 5, 3), (169, .iconst 0, 1), (170, .ireturn, 1), (171, .iload 11, 2)]
theorem aJ_377_14 : sx_iB prog_14_method_59_code aI_377_14 = true := by decide +kernel
def aI_377_15 : sx_IL := [(173, .ifCond .eq 7, 3), (176, .lload_n 3, 1), (177, .goto 8, 3), (180, .aload_n 0, 1), (181, .iconst 0, 1), (182, .invokevirtual 709, 3)]
theorem aJ_377_15 : sx_iB prog_14_method_59_code aI_377_15 = true := by decide +kernel
def aI_377_16 : sx_IL := [(185, .lstore 13, 2), (187, .lload 13, 2), (189, .lstore 15, 2), (191, .iconst 0, 1), (192, .istore 17, 2), (194, .iload 17, 2)]
theorem aJ_377_16 : sx_iB prog_14_method_59_code aI_377_16 = true := by decide +kernel
def aI_377_17 : sx_IL := [(196, .iload 8, 2), (198, .if_icmp .ge 80, 3), (201, .aload_n 0, 1), (202, .iload 17, 2), (204, .iload 12, 2), (206, .iadd, 1)]
theorem aJ_377_17 : sx_iB prog_14_method_59_code aI_377_17 = true := by decide +kernel
def aI_377_18 : sx_IL := [(207, .invokevirtual 709, 3), (210, .lstore 18, 2), (212, .aload_n 0, 1), (213, .getfield 32, 3), (216, .iload 8, 2), (218, .iconst 1, 1)]
theorem aJ_377_18 : sx_iB prog_14_method_59_code aI_377_18 = true := by decide +kernel
def aI_377_19 : sx_IL := [(219, .isub, 1), (220, .iload 17, 2), (222, .isub, 1), (223, .baload, 1), (224, .istore 20, 2), (226, .iload 20, 2)]
theorem aJ_377_19 : sx_iB prog_14_method_59_code aI_377_19 = true := by decide +kernel
def aI_377_20 : sx_IL := [(228, .ifCond .eq 8, 3), (231, .lload 13, 2), (233, .goto 11, 3), (236, .aload_n 0, 1), (237, .lload 18, 2), (239, .lload 13, 2)]
theorem aJ_377_20 : sx_iB prog_14_method_59_code aI_377_20 = true := by decide +kernel
def aI_377_21 : sx_IL := [(241, .invokevirtual 690, 3), (244, .lstore 13, 2), (246, .iload 20, 2), (248, .ifCond .eq 14, 3), (251, .aload_n 0, 1), (252, .lload 15, 2)]
theorem aJ_377_21 : sx_iB prog_14_method_59_code aI_377_21 = true := by decide +kernel
def aI_377_22 : sx_IL := [(254, .lload 18, 2), (256, .invokevirtual 690, 3), (259, .goto 11, 3), (262, .aload_n 0, 1), (263, .lload 18, 2), (265, .lload 15, 2)]
theorem aJ_377_22 : sx_iB prog_14_method_59_code aI_377_22 = true := by decide +kernel
def aI_377_23 : sx_IL := [(267, .invokevirtual 690, 3), (270, .lstore 15, 2), (272, .iinc 17 1, 3), (275, .goto (-81), 3), (278, .lload 13, 2), (280, .lload_n 3, 1)]
theorem aJ_377_23 : sx_iB prog_14_method_59_code aI_377_23 = true := by decide +kernel
def aI_377_24 : sx_IL := [(281, .lcmp, 1), (282, .ifCond .ne 15, 3), (285, .lload 15, 2), (287, .lload 5, 2), (289, .lcmp, 1), (290, .ifCond .ne 7, 3)]
theorem aJ_377_24 : sx_iB prog_14_method_59_code aI_377_24 = true := by decide +kernel
def aI_377_25 : sx_IL := [(293, .iconst 1, 1), (294, .goto 4, 3), (297, .iconst 0, 1), (298, .ireturn, 1)]
theorem aJ_377_25 : sx_iB prog_14_method_59_code aI_377_25 = true := by decide +kernel
def aI_378_0 : sx_IL := [(0, .aload_n 0, 1), (1, .aload_n 0, 1), (2, .getfield 7, 3), (5, .iconst 0, 1), (6, .aload_n 0, 1), (7, .getfield 517, 3)]
theorem aJ_378_0 : sx_iB prog_14_method_66_code aI_378_0 = true := by decide +kernel
def aI_378_1 : sx_IL := [(10, .invokevirtual 744, 3), (13, .istore_n 1, 1), (14, .aload_n 0, 1), (15, .iconst 0, 1), (16, .putfield 517, 3), (19, .iload_n 1, 1)]
theorem aJ_378_1 : sx_iB prog_14_method_66_code aI_378_1 = true := by decide +kernel
def aI_378_2 : sx_IL := [(20, .bipush (-4), 2), (22, .if_icmp .ne 7, 3), (25, .iconst 0, 1), (26, .goto 7, 3), (29, .bipush (-10), 2), (31, .iload_n 1, 1)]
theorem aJ_378_2 : sx_iB prog_14_method_66_code aI_378_2 = true := by decide +kernel
def aI_378_3 : sx_IL := [(32, .isub, 1), (33, .ireturn, 1)]
theorem aJ_378_3 : sx_iB prog_14_method_66_code aI_378_3 = true := by decide +kernel
def aI_379_0 : sx_IL := [(0, .iconst 0, 1), (1, .istore 4, 2), (3, .aload_n 0, 1), (4, .getfield 36, 3), (7, .iconst 0, 1), (8, .iload_n 2, 1)]
theorem aJ_379_0 : sx_iB prog_14_method_65_code aI_379_0 = true := by decide +kernel
def aI_379_1 : sx_IL := [(9, .iload_n 3, 1), (10, .iadd, 1), (11, .iastore, 1), (12, .iload_n 2, 1), (13, .istore 5, 2), (15, .iconst 0, 1)]
theorem aJ_379_1 : sx_iB prog_14_method_65_code aI_379_1 = true := by decide +kernel
def aI_379_2 : sx_IL := [(16, .istore 6, 2), (18, .iload 6, 2), (20, .ifCond .ne 261, 3), (23, .aload_n 0, 1), (24, .getfield 36, 3), (27, .iload 4, 2)]
theorem aJ_379_2 : sx_iB prog_14_method_65_code aI_379_2 = true := by decide +kernel
def aI_379_3 : sx_IL := [(29, .iaload, 1), (30, .istore 7, 2), (32, .iload 5, 2), (34, .iload 7, 2), (36, .if_icmp .ne 26, 3), (39, .iload 4, 2)]
theorem aJ_379_3 : sx_iB prog_14_method_65_code aI_379_3 = true := by decide +kernel
def aI_379_4 : sx_IL := [(41, .ifCond .le 21, 3), (44, .iinc 4 (-1), 3), (47, .iload 4, 2), (49, .ifCond .ne 7, 3), (52, .iconst 1, 1), (53, .goto 4, 3)]
theorem aJ_379_4 : sx_iB prog_14_method_65_code aI_379_4 = true := by decide +kernel
def aI_379_5 : sx_IL := [(56, .iconst 0, 1), (57, .istore 6, 2), (59, .goto (-41), 3), (62, .iload 5, 2), (64, .iload 7, 2), (66, .if_icmp .eq 20, 3)]
theorem aJ_379_5 : sx_iB prog_14_method_65_code aI_379_5 = true := by decide +kernel
def aI_379_6 : sx_IL := [(69, .aload_n 1, 1), (70, .iload 5, 2), (72, .iaload, 1), (73, .invokestatic 738, 3), (76, .ifCond .eq 10, 3), (79, .iload 4, 2)]
theorem aJ_379_6 : sx_iB prog_14_method_65_code aI_379_6 = true := by decide +kernel
def aI_379_7 : sx_IL := [(81, .bipush 10, 2), (83, .if_icmp .ne 8, 3), (86, .iload 5, 2), (88, .iload_n 2, 1), (89, .isub, 1), (90, .ireturn, 1)]
theorem aJ_379_7 : sx_iB prog_14_method_65_code aI_379_7 = true := by decide +kernel
def aI_379_8 : sx_IL := [(91, .aload_n 1, 1), (92, .iload 5, 2), (94, .iaload, 1), (95, .istore 8, 2), (97, .aload_n 0, 1), (98, .aload_n 1, 1)]
theorem aJ_379_8 : sx_iB prog_14_method_65_code aI_379_8 = true := by decide +kernel
def aI_379_9 : sx_IL := [(99, .iload 5, 2), (101, .iconst 1, 1), (102, .iadd, 1), (103, .iload 7, 2), (105, .invokevirtual 741, 3), (108, .istore 9, 2)]
theorem aJ_379_9 : sx_iB prog_14_method_65_code aI_379_9 = true := by decide +kernel
def aI_379_10 : sx_IL := [(110, .iload 9, 2), (112, .bipush (-4), 2), (114, .if_icmp .eq 8, 3), (117, .iload 9, 2), (119, .iload_n 2, 1), (120, .isub, 1)]
theorem aJ_379_10 : sx_iB prog_14_method_65_code aI_379_10 = true := by decide +kernel
def aI_379_11 : sx_IL := [(121, .ireturn, 1), (122, .iload 5, 2), (124, .iconst 1, 1), (125, .aload_n 0, 1), (126, .getfield 732, 3), (129, .iadd, 1)]
theorem aJ_379_11 : sx_iB prog_14_method_65_code aI_379_11 = true := by decide +kernel
def aI_379_12 : sx_IL := [(130, .iadd, 1), (131, .istore 5, 2), (133, .aload_n 0, 1), (134, .getfield 735, 3), (137, .istore 10, 2), (139, .iload 8, 2)]
theorem aJ_379_12 : sx_iB prog_14_method_65_code aI_379_12 = true := by decide +kernel
def aI_379_13 : sx_IL := [(141, .bipush 48, 2), (143, .if_icmp .ne 21, 3), (146, .iinc 4 1, 3), (149, .aload_n 0, 1), (150, .getfield 36, 3), (153, .iload 4, 2)]
theorem aJ_379_13 : sx_iB prog_14_method_65_code aI_379_13 = true := by decide +kernel
def aI_379_14 : sx_IL := [(155, .iload 5, 2), (157, .iload 10, 2), (159, .iadd, 1), (160, .iastore, 1), (161, .goto (-143), 3), (164, .iload 8, 2)]
theorem aJ_379_14 : sx_iB prog_14_method_65_code aI_379_14 = true := by decide +kernel
def aI_379_15 : sx_IL := [(166, .iconst 2, 1), (167, .if_icmp .ne 55, 3), (170, .iload 10, 2), (172, .i2l, 1), (173, .lconst 1, 1), (174, .ldc2_w 649, 3)]
theorem aJ_379_15 : sx_iB prog_14_method_65_code aI_379_15 = true := by decide +kernel
def aI_379_16 : sx_IL := [(177, .invokestatic 513, 3), (180, .ifCond .eq 37, 3), (183, .aload_n 1, 1), (184, .iload 5, 2), (186, .iaload, 1), (187, .bipush 127, 2)]
theorem aJ_379_16 : sx_iB prog_14_method_65_code aI_379_16 = true := by decide +kernel
def aI_379_17 : sx_IL := [(189, .if_icmp .gt 28, 3), (192, .iload 10, 2), (194, .iconst 1, 1), (195, .if_icmp .le 27, 3), (198, .aload_n 1, 1), (199, .iload 5, 2)]
theorem aJ_379_17 : sx_iB prog_14_method_65_code aI_379_17 = true := by decide +kernel
def aI_379_18 : sx_IL := [(201, .iaload, 1), (202, .ifCond .ne 20, 3), (205, .aload_n 1, 1), (206, .iload 5, 2), (208, .iconst 1, 1), (209, .iadd, 1)]
theorem aJ_379_18 : sx_iB prog_14_method_65_code aI_379_18 = true := by decide +kernel
def aI_379_19 : sx_IL := [(210, .iaload, 1), (211, .sipush 128, 3), (214, .if_icmp .ge 8, 3), (217, .iload 5, 2), (219, .iload_n 2, 1), (220, .isub, 1)]
theorem aJ_379_19 : sx_iB prog_14_method_65_code aI_379_19 = true := by decide +kernel
def aI_379_20 : sx_IL := [(221, .ireturn, 1), (222, .iload 8, 2), (224, .bipush 12, 2), (226, .if_icmp .ne 14, 3), (229, .aload_n 1, 1), (230, .iload 5, 2)]
theorem aJ_379_20 : sx_iB prog_14_method_65_code aI_379_20 = true := by decide +kernel
def aI_379_21 : sx_IL := [(232, .iload 10, 2), (234, .invokestatic 724, 3), (237, .goto 5, 3), (240, .bipush (-4), 2), (242, .istore 11, 2), (244, .iload 11, 2)]
theorem aJ_379_21 : sx_iB prog_14_method_65_code aI_379_21 = true := by decide +kernel
def aI_379_22 : sx_IL := [(246, .bipush (-4), 2), (248, .if_icmp .eq 11, 3), (251, .iload 5, 2), (253, .iload 11, 2), (255, .iadd, 1), (256, .iload_n 2, 1)]
theorem aJ_379_22 : sx_iB prog_14_method_65_code aI_379_22 = true := by decide +kernel
def aI_379_23 : sx_IL := [(257, .isub, 1), (258, .ireturn, 1), (259, .iload 5, 2), (261, .iload 10, 2), (263, .iadd, 1), (264, .istore 5, 2)]
theorem aJ_379_23 : sx_iB prog_14_method_65_code aI_379_23 = true := by decide +kernel
def aI_379_24 : sx_IL := [(266, .iload 4, 2), (268, .ifCond .ne 7, 3), (271, .iconst 1, 1), (272, .goto 4, 3), (275, .iconst 0, 1), (276, .istore 6, 2)]
theorem aJ_379_24 : sx_iB prog_14_method_65_code aI_379_24 = true := by decide +kernel
def aI_379_25 : sx_IL := [(278, .goto (-260), 3), (281, .iload 5, 2), (283, .iload_n 2, 1), (284, .iload_n 3, 1), (285, .iadd, 1), (286, .if_icmp .ne 8, 3)]
theorem aJ_379_25 : sx_iB prog_14_method_65_code aI_379_25 = true := by decide +kernel
def aI_379_26 : sx_IL := [(289, .bipush (-4), 2), (291, .goto 7, 3), (294, .iload 5, 2), (296, .iload_n 2, 1), (297, .isub, 1), (298, .ireturn, 1)]
theorem aJ_379_26 : sx_iB prog_14_method_65_code aI_379_26 = true := by decide +kernel
def aI_380_0 : sx_IL := [(0, .iload_n 0, 1), (1, .bipush 48, 2), (3, .if_icmp .eq 33, 3), (6, .iload_n 0, 1), (7, .iconst 2, 1), (8, .if_icmp .eq 28, 3)]
theorem aJ_380_0 : sx_iB prog_14_method_63_code aI_380_0 = true := by decide +kernel
def aI_380_1 : sx_IL := [(11, .iload_n 0, 1), (12, .iconst 4, 1), (13, .if_icmp .eq 23, 3), (16, .iload_n 0, 1), (17, .bipush 12, 2), (19, .if_icmp .eq 17, 3)]
theorem aJ_380_1 : sx_iB prog_14_method_63_code aI_380_1 = true := by decide +kernel
def aI_380_2 : sx_IL := [(22, .iload_n 0, 1), (23, .i2l, 1), (24, .ldc2_w 728, 3), (27, .ldc2_w 730, 3), (30, .invokestatic 513, 3), (33, .ifCond .eq 7, 3)]
theorem aJ_380_2 : sx_iB prog_14_method_63_code aI_380_2 = true := by decide +kernel
def aI_380_3 : sx_IL := [(36, .iconst 1, 1), (37, .goto 4, 3), (40, .iconst 0, 1), (41, .ireturn, 1)]
theorem aJ_380_3 : sx_iB prog_14_method_63_code aI_380_3 = true := by decide +kernel
def aI_381_0 : sx_IL := [(0, .iload_n 2, 1), (1, .iload_n 3, 1), (2, .if_icmp .lt 5, 3), (5, .iload_n 3, 1), (6, .ireturn, 1), (7, .aload_n 1, 1)]
theorem aJ_381_0 : sx_iB prog_14_method_64_code aI_381_0 = true := by decide +kernel
def aI_381_1 : sx_IL := [(8, .iload_n 2, 1), (9, .iaload, 1), (10, .istore 4, 2), (12, .aload_n 0, 1), (13, .iload 4, 2), (15, .sipush 128, 3)]
theorem aJ_381_1 : sx_iB prog_14_method_64_code aI_381_1 = true := by decide +kernel
def aI_381_2 : sx_IL := [(18, .if_icmp .ge 7, 3), (21, .iconst 1, 1), (22, .goto 16, 3), (25, .iload 4, 2), (27, .sipush 129, 3), (30, .if_icmp .ne 7, 3)]
theorem aJ_381_2 : sx_iB prog_14_method_64_code aI_381_2 = true := by decide +kernel
def aI_381_3 : sx_IL := [(33, .iconst 2, 1), (34, .goto 4, 3), (37, .iconst 3, 1), (38, .putfield 732, 3), (41, .iload 4, 2), (43, .sipush 128, 3)]
theorem aJ_381_3 : sx_iB prog_14_method_64_code aI_381_3 = true := by decide +kernel
def aI_381_4 : sx_IL := [(46, .if_icmp .eq 11, 3), (49, .iload 4, 2), (51, .sipush 130, 3), (54, .if_icmp .le 5, 3), (57, .iload_n 2, 1), (58, .ireturn, 1)]
theorem aJ_381_4 : sx_iB prog_14_method_64_code aI_381_4 = true := by decide +kernel
def aI_381_5 : sx_IL := [(59, .iload_n 2, 1), (60, .aload_n 0, 1), (61, .getfield 732, 3), (64, .iadd, 1), (65, .iload_n 3, 1), (66, .if_icmp .le 5, 3)]
theorem aJ_381_5 : sx_iB prog_14_method_64_code aI_381_5 = true := by decide +kernel
def aI_381_6 : sx_IL := [(69, .iload_n 3, 1), (70, .ireturn, 1), (71, .aload_n 0, 1), (72, .iload 4, 2), (74, .sipush 128, 3), (77, .if_icmp .ge 8, 3)]
theorem aJ_381_6 : sx_iB prog_14_method_64_code aI_381_6 = true := by decide +kernel
def aI_381_7 : sx_IL := [(80, .iload 4, 2), (82, .goto 33, 3), (85, .iload 4, 2), (87, .sipush 129, 3), (90, .if_icmp .ne 11, 3), (93, .aload_n 1, 1)]
theorem aJ_381_7 : sx_iB prog_14_method_64_code aI_381_7 = true := by decide +kernel
def aI_381_8 : sx_IL := [(94, .iload_n 2, 1), (95, .iconst 1, 1), (96, .iadd, 1), (97, .iaload, 1), (98, .goto 17, 3), (101, .aload_n 1, 1)]
theorem aJ_381_8 : sx_iB prog_14_method_64_code aI_381_8 = true := by decide +kernel
def aI_381_9 : sx_IL := [(102, .iload_n 2, 1), (103, .iconst 1, 1), (104, .iadd, 1), (105, .iaload, 1), (106, .bipush 8, 2), (108, .ishl, 1)]
theorem aJ_381_9 : sx_iB prog_14_method_64_code aI_381_9 = true := by decide +kernel
def aI_381_10 : sx_IL := [(109, .aload_n 1, 1), (110, .iload_n 2, 1), (111, .iconst 2, 1), (112, .iadd, 1), (113, .iaload, 1), (114, .ior, 1)]
theorem aJ_381_10 : sx_iB prog_14_method_64_code aI_381_10 = true := by decide +kernel
def aI_381_11 : sx_IL := [(115, .putfield 735, 3), (118, .iload 4, 2), (120, .sipush 128, 3), (123, .if_icmp .lt 33, 3), (126, .iload 4, 2), (128, .sipush 129, 3)]
theorem aJ_381_11 : sx_iB prog_14_method_64_code aI_381_11 = true := by decide +kernel
def aI_381_12 : sx_IL := [(131, .if_icmp .ne 15, 3), (134, .aload_n 0, 1), (135, .getfield 735, 3), (138, .bipush 127, 2), (140, .if_icmp .le 20, 3), (143, .goto 13, 3)]
theorem aJ_381_12 : sx_iB prog_14_method_64_code aI_381_12 = true := by decide +kernel
def aI_381_13 : sx_IL := [(146, .aload_n 0, 1), (147, .getfield 735, 3), (150, .sipush 255, 3), (153, .if_icmp .le 7, 3), (156, .iconst 1, 1), (157, .goto 4, 3)]
theorem aJ_381_13 : sx_iB prog_14_method_64_code aI_381_13 = true := by decide +kernel
def aI_381_14 : sx_IL := [(160, .iconst 0, 1), (161, .istore 5, 2), (163, .iload 5, 2), (165, .ifCond .eq 23, 3), (168, .iload_n 2, 1), (169, .aload_n 0, 1)]
theorem aJ_381_14 : sx_iB prog_14_method_64_code aI_381_14 = true := by decide +kernel
def aI_381_15 : sx_IL := [(170, .getfield 732, 3), (173, .iadd, 1), (174, .aload_n 0, 1), (175, .getfield 735, 3), (178, .iadd, 1), (179, .iload_n 3, 1)]
theorem aJ_381_15 : sx_iB prog_14_method_64_code aI_381_15 = true := by decide +kernel
def aI_381_16 : sx_IL := [(180, .if_icmp .gt 8, 3), (183, .bipush (-4), 2), (185, .goto 4, 3), (188, .iload_n 2, 1), (189, .ireturn, 1)]
theorem aJ_381_16 : sx_iB prog_14_method_64_code aI_381_16 = true := by decide +kernel
def aI_382_0 : sx_IL := [(0, .iconst 0, 1), (1, .istore_n 3, 1), (2, .iconst 0, 1), (3, .istore 4, 2), (5, .iload 4, 2), (7, .iload_n 2, 1)]
theorem aJ_382_0 : sx_iB prog_14_method_61_code aI_382_0 = true := by decide +kernel
def aI_382_1 : sx_IL := [(8, .if_icmp .ge 61, 3), (11, .aload_n 0, 1), (12, .iload_n 1, 1), (13, .iload 4, 2), (15, .iadd, 1), (16, .iaload, 1)]
theorem aJ_382_1 : sx_iB prog_14_method_61_code aI_382_1 = true := by decide +kernel
def aI_382_2 : sx_IL := [(17, .istore 5, 2), (19, .iload 4, 2), (21, .bipush 40, 2), (23, .if_icmp .eq 22, 3), (26, .iload 5, 2), (28, .invokestatic 721, 3)]
theorem aJ_382_2 : sx_iB prog_14_method_61_code aI_382_2 = true := by decide +kernel
def aI_382_3 : sx_IL := [(31, .ifCond .ne 17, 3), (34, .iload 5, 2), (36, .bipush 46, 2), (38, .if_icmp .ne 7, 3), (41, .iload_n 3, 1), (42, .ifCond .ne 6, 3)]
theorem aJ_382_3 : sx_iB prog_14_method_61_code aI_382_3 = true := by decide +kernel
def aI_382_4 : sx_IL := [(45, .iload 4, 2), (47, .ireturn, 1), (48, .iload 5, 2), (50, .bipush 46, 2), (52, .if_icmp .ne 7, 3), (55, .iconst 0, 1)]
theorem aJ_382_4 : sx_iB prog_14_method_61_code aI_382_4 = true := by decide +kernel
def aI_382_5 : sx_IL := [(56, .goto 6, 3), (59, .iload_n 3, 1), (60, .iconst 1, 1), (61, .iadd, 1), (62, .istore_n 3, 1), (63, .iinc 4 1, 3)]
theorem aJ_382_5 : sx_iB prog_14_method_61_code aI_382_5 = true := by decide +kernel
def aI_382_6 : sx_IL := [(66, .goto (-61), 3), (69, .iload_n 3, 1), (70, .ifCond .ne 7, 3), (73, .iload_n 2, 1), (74, .goto 5, 3), (77, .bipush (-4), 2)]
theorem aJ_382_6 : sx_iB prog_14_method_61_code aI_382_6 = true := by decide +kernel
def aI_382_7 : sx_IL := [(79, .ireturn, 1)]
theorem aJ_382_7 : sx_iB prog_14_method_61_code aI_382_7 = true := by decide +kernel
def aI_383_0 : sx_IL := [(0, .iload_n 0, 1), (1, .i2l, 1), (2, .ldc2_w 713, 3), (5, .ldc2_w 715, 3), (8, .invokestatic 513, 3), (11, .ifCond .ne 23, 3)]
theorem aJ_383_0 : sx_iB prog_14_method_60_code aI_383_0 = true := by decide +kernel
def aI_383_1 : sx_IL := [(14, .iload_n 0, 1), (15, .i2l, 1), (16, .ldc2_w 717, 3), (19, .ldc2_w 719, 3), (22, .invokestatic 513, 3), (25, .ifCond .ne 9, 3)]
theorem aJ_383_1 : sx_iB prog_14_method_60_code aI_383_1 = true := by decide +kernel
def aI_383_2 : sx_IL := [(28, .iload_n 0, 1), (29, .bipush 45, 2), (31, .if_icmp .ne 7, 3), (34, .iconst 1, 1), (35, .goto 4, 3), (38, .iconst 0, 1)]
theorem aJ_383_2 : sx_iB prog_14_method_60_code aI_383_2 = true := by decide +kernel
def aI_383_3 : sx_IL := [(39, .ireturn, 1)]
theorem aJ_383_3 : sx_iB prog_14_method_60_code aI_383_3 = true := by decide +kernel
def aI_384_0 : sx_IL := [(0, .aload_n 0, 1), (1, .aload_n 0, 1), (2, .getfield 7, 3), (5, .iconst 0, 1), (6, .aload_n 0, 1), (7, .getfield 517, 3)]
theorem aJ_384_0 : sx_iB prog_14_method_74_code aI_384_0 = true := by decide +kernel
def aI_384_1 : sx_IL := [(10, .invokevirtual 744, 3), (13, .istore_n 1, 1), (14, .iload_n 1, 1), (15, .bipush (-4), 2), (17, .if_icmp .eq 10, 3), (20, .bipush (-10), 2)]
theorem aJ_384_1 : sx_iB prog_14_method_74_code aI_384_1 = true := by decide +kernel
def aI_384_2 : sx_IL := [(22, .iload_n 1, 1), (23, .isub, 1), (24, .goto 30, 3), (27, .aload_n 0, 1), (28, .bipush 35, 2), (30, .aload_n 0, 1)]
theorem aJ_384_2 : sx_iB prog_14_method_74_code aI_384_2 = true := by decide +kernel
def aI_384_3 : sx_IL := [(31, .getfield 7, 3), (34, .iconst 0, 1), (35, .aload_n 0, 1), (36, .getfield 517, 3), (39, .invokevirtual 778, 3), (42, .ifCond .ne 8, 3)]
theorem aJ_384_3 : sx_iB prog_14_method_74_code aI_384_3 = true := by decide +kernel
def aI_384_4 : sx_IL := [(45, .bipush (-9), 2), (47, .goto 7, 3), (50, .aload_n 0, 1), (51, .invokevirtual 789, 3), (54, .istore_n 2, 1), (55, .aload_n 0, 1)]
theorem aJ_384_4 : sx_iB prog_14_method_74_code aI_384_4 = true := by decide +kernel
def aI_384_5 : sx_IL := [(56, .iload_n 2, 1), (57, .bipush (-3), 2), (59, .if_icmp .ne 10, 3), (62, .aload_n 0, 1), (63, .getfield 517, 3), (66, .goto 4, 3)]
theorem aJ_384_5 : sx_iB prog_14_method_74_code aI_384_5 = true := by decide +kernel
def aI_384_6 : sx_IL := [(69, .iconst 0, 1), (70, .putfield 517, 3), (73, .iload_n 2, 1), (74, .ireturn, 1)]
theorem aJ_384_6 : sx_iB prog_14_method_74_code aI_384_6 = true := by decide +kernel
def aI_385_0 : sx_IL := [(0, .iload 4, 2), (2, .sipush 400, 3), (5, .if_icmp .le 5, 3), (8, .iconst 0, 1), (9, .ireturn, 1), (10, .aload_n 0, 1)]
theorem aJ_385_0 : sx_iB prog_14_method_69_code aI_385_0 = true := by decide +kernel
def aI_385_1 : sx_IL := [(11, .getfield 42, 3), (14, .iload_n 1, 1), (15, .iload 4, 2), (17, .iastore, 1), (18, .iconst 0, 1), (19, .istore 5, 2)]
theorem aJ_385_1 : sx_iB prog_14_method_69_code aI_385_1 = true := by decide +kernel
def aI_385_2 : sx_IL := [(21, .iload 5, 2), (23, .iload 4, 2), (25, .if_icmp .ge 28, 3), (28, .aload_n 0, 1), (29, .getfield 39, 3), (32, .sipush 400, 3)]
theorem aJ_385_2 : sx_iB prog_14_method_69_code aI_385_2 = true := by decide +kernel
def aI_385_3 : sx_IL := [(35, .iload_n 1, 1), (36, .imul, 1), (37, .iload 5, 2), (39, .iadd, 1), (40, .aload_n 2, 1), (41, .iload_n 3, 1)]
theorem aJ_385_3 : sx_iB prog_14_method_69_code aI_385_3 = true := by decide +kernel
def aI_385_4 : sx_IL := [(42, .iload 5, 2), (44, .iadd, 1), (45, .iaload, 1), (46, .iastore, 1), (47, .iinc 5 1, 3), (50, .goto (-29), 3)]
theorem aJ_385_4 : sx_iB prog_14_method_69_code aI_385_4 = true := by decide +kernel
def aI_385_5 : sx_IL := [(53, .aload_n 0, 1), (54, .aload_n 0, 1), (55, .getfield 39, 3), (58, .putfield 750, 3), (61, .aload_n 0, 1), (62, .sipush 400, 3)]
theorem aJ_385_5 : sx_iB prog_14_method_69_code aI_385_5 = true := by decide +kernel
def aI_385_6 : sx_IL := [(65, .iload_n 1, 1), (66, .imul, 1), (67, .putfield 747, 3), (70, .aload_n 0, 1), (71, .bipush 48, 2), (73, .aload_n 0, 1)]
theorem aJ_385_6 : sx_iB prog_14_method_69_code aI_385_6 = true := by decide +kernel
def aI_385_7 : sx_IL := [(74, .getfield 747, 3), (77, .iload 4, 2), (79, .iadd, 1), (80, .invokevirtual 759, 3), (83, .ifCond .ne 5, 3), (86, .iconst 0, 1)]
theorem aJ_385_7 : sx_iB prog_14_method_69_code aI_385_7 = true := by decide +kernel
def aI_385_8 : sx_IL := [(87, .ireturn, 1), (88, .aload_n 0, 1), (89, .getfield 747, 3), (92, .istore 5, 2), (94, .aload_n 0, 1), (95, .aload_n 0, 1)]
theorem aJ_385_8 : sx_iB prog_14_method_69_code aI_385_8 = true := by decide +kernel
def aI_385_9 : sx_IL := [(96, .getfield 753, 3), (99, .putfield 747, 3), (102, .aload_n 0, 1), (103, .getfield 54, 3), (106, .iconst 2, 1), (107, .iload_n 1, 1)]
theorem aJ_385_9 : sx_iB prog_14_method_69_code aI_385_9 = true := by decide +kernel
def aI_385_10 : sx_IL := [(108, .imul, 1), (109, .aload_n 0, 1), (110, .getfield 747, 3), (113, .iastore, 1), (114, .aload_n 0, 1), (115, .bipush 48, 2)]
theorem aJ_385_10 : sx_iB prog_14_method_69_code aI_385_10 = true := by decide +kernel
def aI_385_11 : sx_IL := [(117, .iload 5, 2), (119, .invokevirtual 759, 3), (122, .ifCond .ne 5, 3), (125, .iconst 0, 1), (126, .ireturn, 1), (127, .aload_n 0, 1)]
theorem aJ_385_11 : sx_iB prog_14_method_69_code aI_385_11 = true := by decide +kernel
def aI_385_12 : sx_IL := [(128, .getfield 54, 3), (131, .iconst 2, 1), (132, .iload_n 1, 1), (133, .imul, 1), (134, .iconst 1, 1), (135, .iadd, 1)]
theorem aJ_385_12 : sx_iB prog_14_method_69_code aI_385_12 = true := by decide +kernel
def aI_385_13 : sx_IL := [(136, .aload_n 0, 1), (137, .getfield 747, 3), (140, .aload_n 0, 1), (141, .getfield 54, 3), (144, .iconst 2, 1), (145, .iload_n 1, 1)]
theorem aJ_385_13 : sx_iB prog_14_method_69_code aI_385_13 = true := by decide +kernel
def aI_385_14 : sx_IL := [(146, .imul, 1), (147, .iaload, 1), (148, .isub, 1), (149, .iastore, 1), (150, .aload_n 0, 1), (151, .getfield 753, 3)]
theorem aJ_385_14 : sx_iB prog_14_method_69_code aI_385_14 = true := by decide +kernel
def aI_385_15 : sx_IL := [(154, .istore 6, 2), (156, .aload_n 0, 1), (157, .getfield 747, 3), (160, .istore 7, 2), (162, .aload_n 0, 1), (163, .iconst 4, 1)]
theorem aJ_385_15 : sx_iB prog_14_method_69_code aI_385_15 = true := by decide +kernel
def aI_385_16 : sx_IL := [(164, .iload 5, 2), (166, .invokevirtual 759, 3), (169, .ifCond .eq 21, 3), (172, .aload_n 0, 1), (173, .getfield 756, 3), (176, .bipush 8, 2)]
theorem aJ_385_16 : sx_iB prog_14_method_69_code aI_385_16 = true := by decide +kernel
def aI_385_17 : sx_IL := [(178, .if_icmp .ne 12, 3), (181, .aload_n 0, 1), (182, .getfield 747, 3), (185, .iload 5, 2), (187, .if_icmp .eq 5, 3), (190, .iconst 0, 1)]
theorem aJ_385_17 : sx_iB prog_14_method_69_code aI_385_17 = true := by decide +kernel
def aI_385_18 : sx_IL := [(191, .ireturn, 1), (192, .aload_n 0, 1), (193, .getfield 57, 3), (196, .iload_n 1, 1), (197, .aload_n 0, 1), (198, .getfield 753, 3)]
theorem aJ_385_18 : sx_iB prog_14_method_69_code aI_385_18 = true := by decide +kernel
def aI_385_19 : sx_IL := [(201, .iastore, 1), (202, .aload_n 0, 1), (203, .iload 6, 2), (205, .putfield 747, 3), (208, .aload_n 0, 1), (209, .iload_n 1, 1)]
theorem aJ_385_19 : sx_iB prog_14_method_69_code aI_385_19 = true := by decide +kernel
def aI_385_20 : sx_IL := [(210, .iload 7, 2), (212, .invokevirtual 763, 3), (215, .ireturn, 1)]
theorem aJ_385_20 : sx_iB prog_14_method_69_code aI_385_20 = true := by decide +kernel
def aI_386_0 : sx_IL := [(0, .aload_n 0, 1), (1, .getfield 747, 3), (4, .iload_n 2, 1), (5, .if_icmp .ge 36, 3), (8, .aload_n 0, 1), (9, .getfield 750, 3)]
theorem aJ_386_0 : sx_iB prog_14_method_67_code aI_386_0 = true := by decide +kernel
def aI_386_1 : sx_IL := [(12, .aload_n 0, 1), (13, .getfield 747, 3), (16, .iaload, 1), (17, .iload_n 1, 1), (18, .if_icmp .ne 23, 3), (21, .aload_n 0, 1)]
theorem aJ_386_1 : sx_iB prog_14_method_67_code aI_386_1 = true := by decide +kernel
def aI_386_2 : sx_IL := [(22, .aload_n 0, 1), (23, .getfield 750, 3), (26, .aload_n 0, 1), (27, .getfield 747, 3), (30, .iconst 1, 1), (31, .iadd, 1)]
theorem aJ_386_2 : sx_iB prog_14_method_67_code aI_386_2 = true := by decide +kernel
def aI_386_3 : sx_IL := [(32, .iload_n 2, 1), (33, .invokevirtual 741, 3), (36, .bipush (-4), 2), (38, .if_icmp .eq 5, 3), (41, .iconst 0, 1), (42, .ireturn, 1)]
theorem aJ_386_3 : sx_iB prog_14_method_67_code aI_386_3 = true := by decide +kernel
def aI_386_4 : sx_IL := [(43, .aload_n 0, 1), (44, .aload_n 0, 1), (45, .getfield 747, 3), (48, .iconst 1, 1), (49, .iadd, 1), (50, .aload_n 0, 1)]
theorem aJ_386_4 : sx_iB prog_14_method_67_code aI_386_4 = true := by decide +kernel
def aI_386_5 : sx_IL := [(51, .getfield 732, 3), (54, .iadd, 1), (55, .putfield 753, 3), (58, .aload_n 0, 1), (59, .aload_n 0, 1), (60, .getfield 735, 3)]
theorem aJ_386_5 : sx_iB prog_14_method_67_code aI_386_5 = true := by decide +kernel
def aI_386_6 : sx_IL := [(63, .putfield 756, 3), (66, .aload_n 0, 1), (67, .aload_n 0, 1), (68, .getfield 753, 3), (71, .aload_n 0, 1), (72, .getfield 756, 3)]
theorem aJ_386_6 : sx_iB prog_14_method_67_code aI_386_6 = true := by decide +kernel
def aI_386_7 : sx_IL := [(75, .iadd, 1), (76, .putfield 747, 3), (79, .iconst 1, 1), (80, .ireturn, 1)]
theorem aJ_386_7 : sx_iB prog_14_method_67_code aI_386_7 = true := by decide +kernel
def aI_387_0 : sx_IL := [(0, .bipush 8, 2), (2, .iload_n 1, 1), (3, .imul, 1), (4, .istore_n 3, 1), (5, .aload_n 0, 1), (6, .iconst 2, 1)]
theorem aJ_387_0 : sx_iB prog_14_method_70_code aI_387_0 = true := by decide +kernel
def aI_387_1 : sx_IL := [(7, .iload_n 2, 1), (8, .invokevirtual 759, 3), (11, .ifCond .eq 11, 3), (14, .aload_n 0, 1), (15, .invokevirtual 766, 3), (18, .iconst 1, 1)]
theorem aJ_387_1 : sx_iB prog_14_method_70_code aI_387_1 = true := by decide +kernel
def aI_387_2 : sx_IL := [(19, .if_icmp .ge 5, 3), (22, .iconst 0, 1), (23, .ireturn, 1), (24, .aload_n 0, 1), (25, .getfield 45, 3), (28, .iload_n 3, 1)]
theorem aJ_387_2 : sx_iB prog_14_method_70_code aI_387_2 = true := by decide +kernel
def aI_387_3 : sx_IL := [(29, .aload_n 0, 1), (30, .invokevirtual 766, 3), (33, .iastore, 1), (34, .aload_n 0, 1), (35, .bipush 12, 2), (37, .iload_n 2, 1)]
theorem aJ_387_3 : sx_iB prog_14_method_70_code aI_387_3 = true := by decide +kernel
def aI_387_4 : sx_IL := [(38, .invokevirtual 759, 3), (41, .ifCond .ne 5, 3), (44, .iconst 0, 1), (45, .ireturn, 1), (46, .aload_n 0, 1), (47, .getfield 48, 3)]
theorem aJ_387_4 : sx_iB prog_14_method_70_code aI_387_4 = true := by decide +kernel
def aI_387_5 : sx_IL := [(50, .iconst 2, 1), (51, .iload_n 1, 1), (52, .imul, 1), (53, .aload_n 0, 1), (54, .getfield 753, 3), (57, .iastore, 1)]
theorem aJ_387_5 : sx_iB prog_14_method_70_code aI_387_5 = true := by decide +kernel
def aI_387_6 : sx_IL := [(58, .aload_n 0, 1), (59, .getfield 48, 3), (62, .iconst 2, 1), (63, .iload_n 1, 1), (64, .imul, 1), (65, .iconst 1, 1)]
theorem aJ_387_6 : sx_iB prog_14_method_70_code aI_387_6 = true := by decide +kernel
def aI_387_7 : sx_IL := [(66, .iadd, 1), (67, .aload_n 0, 1), (68, .getfield 756, 3), (71, .iastore, 1), (72, .aload_n 0, 1), (73, .bipush 12, 2)]
theorem aJ_387_7 : sx_iB prog_14_method_70_code aI_387_7 = true := by decide +kernel
def aI_387_8 : sx_IL := [(75, .iload_n 2, 1), (76, .invokevirtual 759, 3), (79, .ifCond .ne 5, 3), (82, .iconst 0, 1), (83, .ireturn, 1), (84, .aload_n 0, 1)]
theorem aJ_387_8 : sx_iB prog_14_method_70_code aI_387_8 = true := by decide +kernel
def aI_387_9 : sx_IL := [(85, .getfield 51, 3), (88, .iconst 2, 1), (89, .iload_n 1, 1), (90, .imul, 1), (91, .aload_n 0, 1), (92, .getfield 753, 3)]
theorem aJ_387_9 : sx_iB prog_14_method_70_code aI_387_9 = true := by decide +kernel
def aI_387_10 : sx_IL := [(95, .iastore, 1), (96, .aload_n 0, 1), (97, .getfield 51, 3), (100, .iconst 2, 1), (101, .iload_n 1, 1), (102, .imul, 1)]
theorem aJ_387_10 : sx_iB prog_14_method_70_code aI_387_10 = true := by decide +kernel
def aI_387_11 : sx_IL := [(103, .iconst 1, 1), (104, .iadd, 1), (105, .aload_n 0, 1), (106, .getfield 756, 3), (109, .iastore, 1), (110, .iconst 1, 1)]
theorem aJ_387_11 : sx_iB prog_14_method_70_code aI_387_11 = true := by decide +kernel
def aI_387_12 : sx_IL := [(111, .istore 4, 2), (113, .iload 4, 2), (115, .iconst 3, 1), (116, .if_icmp .gt 33, 3), (119, .aload_n 0, 1), (120, .iconst 2, 1)]
theorem aJ_387_12 : sx_iB prog_14_method_70_code aI_387_12 = true := by decide +kernel
def aI_387_13 : sx_IL := [(121, .iload_n 2, 1), (122, .invokevirtual 759, 3), (125, .ifCond .ne 5, 3), (128, .iconst 0, 1), (129, .ireturn, 1), (130, .aload_n 0, 1)]
theorem aJ_387_13 : sx_iB prog_14_method_70_code aI_387_13 = true := by decide +kernel
def aI_387_14 : sx_IL := [(131, .getfield 45, 3), (134, .iload_n 3, 1), (135, .iload 4, 2), (137, .iadd, 1), (138, .aload_n 0, 1), (139, .invokevirtual 766, 3)]
theorem aJ_387_14 : sx_iB prog_14_method_70_code aI_387_14 = true := by decide +kernel
def aI_387_15 : sx_IL := [(142, .iastore, 1), (143, .iinc 4 1, 3), (146, .goto (-33), 3), (149, .aload_n 0, 1), (150, .getfield 45, 3), (153, .iload_n 3, 1)]
theorem aJ_387_15 : sx_iB prog_14_method_70_code aI_387_15 = true := by decide +kernel
def aI_387_16 : sx_IL := [(154, .iconst 2, 1), (155, .iadd, 1), (156, .iaload, 1), (157, .aload_n 0, 1), (158, .getfield 45, 3), (161, .iload_n 3, 1)]
theorem aJ_387_16 : sx_iB prog_14_method_70_code aI_387_16 = true := by decide +kernel
def aI_387_17 : sx_IL := [(162, .iconst 1, 1), (163, .iadd, 1), (164, .iaload, 1), (165, .if_icmp .lt 39, 3), (168, .aload_n 0, 1), (169, .getfield 45, 3)]
theorem aJ_387_17 : sx_iB prog_14_method_70_code aI_387_17 = true := by decide +kernel
def aI_387_18 : sx_IL := [(172, .iload_n 3, 1), (173, .iconst 3, 1), (174, .iadd, 1), (175, .iaload, 1), (176, .i2l, 1), (177, .lconst 1, 1)]
theorem aJ_387_18 : sx_iB prog_14_method_70_code aI_387_18 = true := by decide +kernel
def aI_387_19 : sx_IL := [(178, .ldc2_w 631, 3), (181, .invokestatic 513, 3), (184, .ifCond .eq 20, 3), (187, .aload_n 0, 1), (188, .iconst 4, 1), (189, .iload_n 2, 1)]
theorem aJ_387_19 : sx_iB prog_14_method_70_code aI_387_19 = true := by decide +kernel
def aI_387_20 : sx_IL := [(190, .invokevirtual 759, 3), (193, .ifCond .eq 11, 3), (196, .aload_n 0, 1), (197, .getfield 756, 3), (200, .iconst 4, 1), (201, .if_icmp .eq 5, 3)]
theorem aJ_387_20 : sx_iB prog_14_method_70_code aI_387_20 = true := by decide +kernel
def aI_387_21 : sx_IL := [(204, .iconst 0, 1), (205, .ireturn, 1), (206, .aload_n 0, 1), (207, .getfield 45, 3), (210, .iload_n 3, 1), (211, .iconst 4, 1)]
theorem aJ_387_21 : sx_iB prog_14_method_70_code aI_387_21 = true := by decide +kernel
def aI_387_22 : sx_IL := [(212, .iadd, 1), (213, .aload_n 0, 1), (214, .invokevirtual 766, 3), (217, .iastore, 1), (218, .aload_n 0, 1), (219, .getfield 45, 3)]
theorem aJ_387_22 : sx_iB prog_14_method_70_code aI_387_22 = true := by decide +kernel
def aI_387_23 : sx_IL := [(222, .iload_n 3, 1), (223, .iconst 5, 1), (224, .iadd, 1), (225, .aload_n 0, 1), (226, .sipush 161, 3), (229, .iload_n 2, 1)]
theorem aJ_387_23 : sx_iB prog_14_method_70_code aI_387_23 = true := by decide +kernel
def aI_387_24 : sx_IL := [(230, .invokevirtual 759, 3), (233, .ifCond .eq 7, 3), (236, .iconst 1, 1), (237, .goto 4, 3), (240, .iconst 0, 1), (241, .iastore, 1)]
theorem aJ_387_24 : sx_iB prog_14_method_70_code aI_387_24 = true := by decide +kernel
def aI_387_25 : sx_IL := [(242, .aload_n 0, 1), (243, .getfield 45, 3), (246, .iload_n 3, 1), (247, .iconst 5, 1), (248, .iadd, 1), (249, .iaload, 1)]
theorem aJ_387_25 : sx_iB prog_14_method_70_code aI_387_25 = true := by decide +kernel
def aI_387_26 : sx_IL := [(250, .ifCond .eq 10, 3), (253, .aload_n 0, 1), (254, .getfield 756, 3), (257, .ifCond .ne 7, 3), (260, .iconst 1, 1), (261, .goto 4, 3)]
theorem aJ_387_26 : sx_iB prog_14_method_70_code aI_387_26 = true := by decide +kernel
def aI_387_27 : sx_IL := [(264, .iconst 0, 1), (265, .istore 4, 2), (267, .aload_n 0, 1), (268, .getfield 45, 3), (271, .iload_n 3, 1), (272, .bipush 6, 2)]
theorem aJ_387_27 : sx_iB prog_14_method_70_code aI_387_27 = true := by decide +kernel
def aI_387_28 : sx_IL := [(274, .iadd, 1), (275, .bipush (-4), 2), (277, .iastore, 1), (278, .aload_n 0, 1), (279, .sipush 162, 3), (282, .iload_n 2, 1)]
theorem aJ_387_28 : sx_iB prog_14_method_70_code aI_387_28 = true := by decide +kernel
def aI_387_29 : sx_IL := [(283, .invokevirtual 759, 3), (286, .ifCond .eq 67, 3), (289, .iload 4, 2), (291, .ifCond .eq 41, 3), (294, .aload_n 0, 1), (295, .getfield 45, 3)]
theorem aJ_387_29 : sx_iB prog_14_method_70_code aI_387_29 = true := by decide +kernel
def aI_387_30 : sx_IL := [(298, .iload_n 3, 1), (299, .iconst 5, 1), (300, .iadd, 1), (301, .iaload, 1), (302, .iconst 1, 1), (303, .if_icmp .ne 29, 3)]
theorem aJ_387_30 : sx_iB prog_14_method_70_code aI_387_30 = true := by decide +kernel
def aI_387_31 : sx_IL := [(306, .aload_n 0, 1), (307, .getfield 756, 3), (310, .iconst 1, 1), (311, .if_icmp .ne 21, 3), (314, .aload_n 0, 1), (315, .getfield 750, 3)]
theorem aJ_387_31 : sx_iB prog_14_method_70_code aI_387_31 = true := by decide +kernel
def aI_387_32 : sx_IL := [(318, .aload_n 0, 1), (319, .getfield 753, 3), (322, .iaload, 1), (323, .bipush 6, 2), (325, .if_icmp .gt 7, 3), (328, .iconst 1, 1)]
theorem aJ_387_32 : sx_iB prog_14_method_70_code aI_387_32 = true := by decide +kernel
def aI_387_33 : sx_IL := [(329, .goto 4, 3), (332, .iconst 0, 1), (333, .istore 4, 2), (335, .aload_n 0, 1), (336, .getfield 45, 3), (339, .iload_n 3, 1)]
theorem aJ_387_33 : sx_iB prog_14_method_70_code aI_387_33 = true := by decide +kernel
def aI_387_34 : sx_IL := [(340, .bipush 6, 2), (342, .iadd, 1), (343, .aload_n 0, 1), (344, .getfield 750, 3), (347, .aload_n 0, 1), (348, .getfield 753, 3)]
theorem aJ_387_34 : sx_iB prog_14_method_70_code aI_387_34 = true := by decide +kernel
def aI_387_35 : sx_IL := [(351, .iaload, 1), (352, .iastore, 1), (353, .aload_n 0, 1), (354, .getfield 45, 3), (357, .iload_n 3, 1), (358, .bipush 7, 2)]
theorem aJ_387_35 : sx_iB prog_14_method_70_code aI_387_35 = true := by decide +kernel
def aI_387_36 : sx_IL := [(360, .iadd, 1), (361, .bipush 15, 2), (363, .iastore, 1), (364, .aload_n 0, 1), (365, .sipush 163, 3), (368, .iload_n 2, 1)]
theorem aJ_387_36 : sx_iB prog_14_method_70_code aI_387_36 = true := by decide +kernel
def aI_387_37 : sx_IL := [(369, .invokevirtual 759, 3), (372, .ifCond .eq 61, 3), (375, .iload 4, 2), (377, .ifCond .eq 35, 3), (380, .aload_n 0, 1), (381, .getfield 756, 3)]
theorem aJ_387_37 : sx_iB prog_14_method_70_code aI_387_37 = true := by decide +kernel
def aI_387_38 : sx_IL := [(384, .iconst 1, 1), (385, .if_icmp .ne 27, 3), (388, .aload_n 0, 1), (389, .getfield 750, 3), (392, .aload_n 0, 1), (393, .getfield 753, 3)]
theorem aJ_387_38 : sx_iB prog_14_method_70_code aI_387_38 = true := by decide +kernel
def aI_387_39 : sx_IL := [(396, .iaload, 1), (397, .i2l, 1), (398, .lconst 1, 1), (399, .ldc2_w 769, 3), (402, .invokestatic 513, 3), (405, .ifCond .eq 7, 3)]
theorem aJ_387_39 : sx_iB prog_14_method_70_code aI_387_39 = true := by decide +kernel
def aI_387_40 : sx_IL := [(408, .iconst 1, 1), (409, .goto 4, 3), (412, .iconst 0, 1), (413, .istore 4, 2), (415, .aload_n 0, 1), (416, .getfield 45, 3)]
theorem aJ_387_40 : sx_iB prog_14_method_70_code aI_387_40 = true := by decide +kernel
def aI_387_41 : sx_IL := [(419, .iload_n 3, 1), (420, .bipush 7, 2), (422, .iadd, 1), (423, .aload_n 0, 1), (424, .getfield 750, 3), (427, .aload_n 0, 1)]
theorem aJ_387_41 : sx_iB prog_14_method_70_code aI_387_41 = true := by decide +kernel
def aI_387_42 : sx_IL := [(428, .getfield 753, 3), (431, .iaload, 1), (432, .iastore, 1), (433, .iconst 0, 1), (434, .istore 5, 2), (436, .iload 5, 2)]
theorem aJ_387_42 : sx_iB prog_14_method_70_code aI_387_42 = true := by decide +kernel
def aI_387_43 : sx_IL := [(438, .iconst 3, 1), (439, .if_icmp .ge 57, 3), (442, .aload_n 0, 1), (443, .getfield 60, 3), (446, .iconst 3, 1), (447, .iload_n 1, 1)]
theorem aJ_387_43 : sx_iB prog_14_method_70_code aI_387_43 = true := by decide +kernel
def aI_387_44 : sx_IL := [(448, .imul, 1), (449, .iload 5, 2), (451, .iadd, 1), (452, .iconst 0, 1), (453, .iastore, 1), (454, .aload_n 0, 1)]
theorem aJ_387_44 : sx_iB prog_14_method_70_code aI_387_44 = true := by decide +kernel
def aI_387_45 : sx_IL := [(455, .sipush 164, 3), (458, .iload 5, 2), (460, .iadd, 1), (461, .iload_n 2, 1), (462, .invokevirtual 759, 3), (465, .ifCond .eq 25, 3)]
theorem aJ_387_45 : sx_iB prog_14_method_70_code aI_387_45 = true := by decide +kernel
def aI_387_46 : sx_IL := [(468, .iload 4, 2), (470, .ifCond .eq 17, 3), (473, .aload_n 0, 1), (474, .iload_n 1, 1), (475, .iload 5, 2), (477, .invokevirtual 771, 3)]
theorem aJ_387_46 : sx_iB prog_14_method_70_code aI_387_46 = true := by decide +kernel
def aI_387_47 : sx_IL := [(480, .ifCond .eq 7, 3), (483, .iconst 1, 1), (484, .goto 4, 3), (487, .iconst 0, 1), (488, .istore 4, 2), (490, .iinc 5 1, 3)]
theorem aJ_387_47 : sx_iB prog_14_method_70_code aI_387_47 = true := by decide +kernel
def aI_387_48 : sx_IL := [(493, .goto (-57), 3), (496, .iload 4, 2), (498, .ifCond .eq 15, 3), (501, .aload_n 0, 1), (502, .getfield 747, 3), (505, .iload_n 2, 1)]
theorem aJ_387_48 : sx_iB prog_14_method_70_code aI_387_48 = true := by decide +kernel
def aI_387_49 : sx_IL := [(506, .if_icmp .ne 7, 3), (509, .iconst 1, 1), (510, .goto 4, 3), (513, .iconst 0, 1), (514, .ireturn, 1)]
theorem aJ_387_49 : sx_iB prog_14_method_70_code aI_387_49 = true := by decide +kernel
def aI_388_0 : sx_IL := [(0, .iconst 0, 1), (1, .istore_n 1, 1), (2, .iconst 0, 1), (3, .istore_n 2, 1), (4, .iload_n 2, 1), (5, .aload_n 0, 1)]
theorem aJ_388_0 : sx_iB prog_14_method_68_code aI_388_0 = true := by decide +kernel
def aI_388_1 : sx_IL := [(6, .getfield 756, 3), (9, .if_icmp .ge 26, 3), (12, .iload_n 1, 1), (13, .bipush 8, 2), (15, .ishl, 1), (16, .aload_n 0, 1)]
theorem aJ_388_1 : sx_iB prog_14_method_68_code aI_388_1 = true := by decide +kernel
def aI_388_2 : sx_IL := [(17, .getfield 750, 3), (20, .aload_n 0, 1), (21, .getfield 753, 3), (24, .iload_n 2, 1), (25, .iadd, 1), (26, .iaload, 1)]
theorem aJ_388_2 : sx_iB prog_14_method_68_code aI_388_2 = true := by decide +kernel
def aI_388_3 : sx_IL := [(27, .ior, 1), (28, .istore_n 1, 1), (29, .iinc 2 1, 3), (32, .goto (-28), 3), (35, .iload_n 1, 1), (36, .ireturn, 1)]
theorem aJ_388_3 : sx_iB prog_14_method_68_code aI_388_3 = true := by decide +kernel
def aI_389_0 : sx_IL := [(0, .aload_n 0, 1), (1, .getfield 747, 3), (4, .istore_n 3, 1), (5, .aload_n 0, 1), (6, .getfield 753, 3), (9, .aload_n 0, 1)]
theorem aJ_389_0 : sx_iB prog_14_method_71_code aI_389_0 = true := by decide +kernel
def aI_389_1 : sx_IL := [(10, .getfield 756, 3), (13, .iadd, 1), (14, .istore 4, 2), (16, .aload_n 0, 1), (17, .aload_n 0, 1), (18, .getfield 753, 3)]
theorem aJ_389_1 : sx_iB prog_14_method_71_code aI_389_1 = true := by decide +kernel
def aI_389_2 : sx_IL := [(21, .putfield 747, 3), (24, .iconst 0, 1), (25, .istore 5, 2), (27, .iconst 1, 1), (28, .istore 6, 2), (30, .iload 6, 2)]
theorem aJ_389_2 : sx_iB prog_14_method_71_code aI_389_2 = true := by decide +kernel
def aI_389_3 : sx_IL := [(32, .ifCond .eq 152, 3), (35, .aload_n 0, 1), (36, .getfield 747, 3), (39, .iload 4, 2), (41, .if_icmp .ge 143, 3), (44, .iload 5, 2)]
theorem aJ_389_3 : sx_iB prog_14_method_71_code aI_389_3 = true := by decide +kernel
def aI_389_4 : sx_IL := [(46, .iconst 4, 1), (47, .if_icmp .ge 18, 3), (50, .aload_n 0, 1), (51, .bipush 12, 2), (53, .iload 4, 2), (55, .invokevirtual 759, 3)]
theorem aJ_389_4 : sx_iB prog_14_method_71_code aI_389_4 = true := by decide +kernel
def aI_389_5 : sx_IL := [(58, .ifCond .eq 7, 3), (61, .iconst 1, 1), (62, .goto 4, 3), (65, .iconst 0, 1), (66, .istore 6, 2), (68, .iload 6, 2)]
theorem aJ_389_5 : sx_iB prog_14_method_71_code aI_389_5 = true := by decide +kernel
def aI_389_6 : sx_IL := [(70, .ifCond .eq 52, 3), (73, .iload_n 2, 1), (74, .ifCond .ne 24, 3), (77, .aload_n 0, 1), (78, .getfield 750, 3), (81, .aload_n 0, 1)]
theorem aJ_389_6 : sx_iB prog_14_method_71_code aI_389_6 = true := by decide +kernel
def aI_389_7 : sx_IL := [(82, .getfield 753, 3), (85, .aload_n 0, 1), (86, .getfield 756, 3), (89, .invokestatic 774, 3), (92, .ifCond .eq 30, 3), (95, .goto 23, 3)]
theorem aJ_389_7 : sx_iB prog_14_method_71_code aI_389_7 = true := by decide +kernel
def aI_389_8 : sx_IL := [(98, .aload_n 0, 1), (99, .getfield 750, 3), (102, .aload_n 0, 1), (103, .getfield 753, 3), (106, .aload_n 0, 1), (107, .getfield 756, 3)]
theorem aJ_389_8 : sx_iB prog_14_method_71_code aI_389_8 = true := by decide +kernel
def aI_389_9 : sx_IL := [(110, .invokestatic 724, 3), (113, .bipush (-4), 2), (115, .if_icmp .ne 7, 3), (118, .iconst 1, 1), (119, .goto 4, 3), (122, .iconst 0, 1)]
theorem aJ_389_9 : sx_iB prog_14_method_71_code aI_389_9 = true := by decide +kernel
def aI_389_10 : sx_IL := [(123, .istore 6, 2), (125, .iload 6, 2), (127, .ifCond .eq (-97), 3), (130, .aload_n 0, 1), (131, .getfield 63, 3), (134, .bipush 24, 2)]
theorem aJ_389_10 : sx_iB prog_14_method_71_code aI_389_10 = true := by decide +kernel
def aI_389_11 : sx_IL := [(136, .iload_n 1, 1), (137, .imul, 1), (138, .bipush 8, 2), (140, .iload_n 2, 1), (141, .imul, 1), (142, .iadd, 1)]
theorem aJ_389_11 : sx_iB prog_14_method_71_code aI_389_11 = true := by decide +kernel
def aI_389_12 : sx_IL := [(143, .iconst 2, 1), (144, .iload 5, 2), (146, .imul, 1), (147, .iadd, 1), (148, .aload_n 0, 1), (149, .getfield 753, 3)]
theorem aJ_389_12 : sx_iB prog_14_method_71_code aI_389_12 = true := by decide +kernel
def aI_389_13 : sx_IL := [(152, .iastore, 1), (153, .aload_n 0, 1), (154, .getfield 63, 3), (157, .bipush 24, 2), (159, .iload_n 1, 1), (160, .imul, 1)]
theorem aJ_389_13 : sx_iB prog_14_method_71_code aI_389_13 = true := by decide +kernel
def aI_389_14 : sx_IL := [(161, .bipush 8, 2), (163, .iload_n 2, 1), (164, .imul, 1), (165, .iadd, 1), (166, .iconst 2, 1), (167, .iload 5, 2)]
theorem aJ_389_14 : sx_iB prog_14_method_71_code aI_389_14 = true := by decide +kernel
def aI_389_15 : sx_IL := [(169, .imul, 1), (170, .iadd, 1), (171, .iconst 1, 1), (172, .iadd, 1), (173, .aload_n 0, 1), (174, .getfield 756, 3)]
theorem aJ_389_15 : sx_iB prog_14_method_71_code aI_389_15 = true := by decide +kernel
def aI_389_16 : sx_IL := [(177, .iastore, 1), (178, .iinc 5 1, 3), (181, .goto (-151), 3), (184, .aload_n 0, 1), (185, .getfield 60, 3), (188, .iconst 3, 1)]
theorem aJ_389_16 : sx_iB prog_14_method_71_code aI_389_16 = true := by decide +kernel
def aI_389_17 : sx_IL := [(189, .iload_n 1, 1), (190, .imul, 1), (191, .iload_n 2, 1), (192, .iadd, 1), (193, .iload 5, 2), (195, .iastore, 1)]
theorem aJ_389_17 : sx_iB prog_14_method_71_code aI_389_17 = true := by decide +kernel
def aI_389_18 : sx_IL := [(196, .aload_n 0, 1), (197, .iload_n 3, 1), (198, .putfield 747, 3), (201, .iload 6, 2), (203, .ifCond .eq 12, 3), (206, .iload 5, 2)]
theorem aJ_389_18 : sx_iB prog_14_method_71_code aI_389_18 = true := by decide +kernel
def aI_389_19 : sx_IL := [(208, .ifCond .le 7, 3), (211, .iconst 1, 1), (212, .goto 4, 3), (215, .iconst 0, 1), (216, .ireturn, 1)]
theorem aJ_389_19 : sx_iB prog_14_method_71_code aI_389_19 = true := by decide +kernel
def aI_390_0 : sx_IL := [(0, .iload_n 2, 1), (1, .iconst 2, 1), (2, .if_icmp .lt 21, 3), (5, .aload_n 0, 1), (6, .iload_n 1, 1), (7, .iaload, 1)]
theorem aJ_390_0 : sx_iB prog_14_method_62_code aI_390_0 = true := by decide +kernel
def aI_390_1 : sx_IL := [(8, .bipush 42, 2), (10, .if_icmp .ne 13, 3), (13, .aload_n 0, 1), (14, .iload_n 1, 1), (15, .iconst 1, 1), (16, .iadd, 1)]
theorem aJ_390_1 : sx_iB prog_14_method_62_code aI_390_1 = true := by decide +kernel
def aI_390_2 : sx_IL := [(17, .iaload, 1), (18, .bipush 46, 2), (20, .if_icmp .eq 20, 3), (23, .aload_n 0, 1), (24, .iload_n 1, 1), (25, .iload_n 2, 1)]
theorem aJ_390_2 : sx_iB prog_14_method_62_code aI_390_2 = true := by decide +kernel
def aI_390_3 : sx_IL := [(26, .invokestatic 724, 3), (29, .bipush (-4), 2), (31, .if_icmp .ne 7, 3), (34, .iconst 1, 1), (35, .goto 4, 3), (38, .iconst 0, 1)]
theorem aJ_390_3 : sx_iB prog_14_method_62_code aI_390_3 = true := by decide +kernel
def aI_390_4 : sx_IL := [(39, .ireturn, 1), (40, .iconst 0, 1), (41, .istore_n 3, 1), (42, .iconst 2, 1), (43, .istore 4, 2), (45, .iload 4, 2)]
theorem aJ_390_4 : sx_iB prog_14_method_62_code aI_390_4 = true := by decide +kernel
def aI_390_5 : sx_IL := [(47, .iload_n 2, 1), (48, .if_icmp .ge 30, 3), (51, .iload_n 3, 1), (52, .ifCond .ne 14, 3), (55, .aload_n 0, 1), (56, .iload_n 1, 1)]
theorem aJ_390_5 : sx_iB prog_14_method_62_code aI_390_5 = true := by decide +kernel
def aI_390_6 : sx_IL := [(57, .iload 4, 2), (59, .iadd, 1), (60, .iaload, 1), (61, .bipush 46, 2), (63, .if_icmp .ne 7, 3), (66, .iconst 1, 1)]
theorem aJ_390_6 : sx_iB prog_14_method_62_code aI_390_6 = true := by decide +kernel
def aI_390_7 : sx_IL := [(67, .goto 4, 3), (70, .iconst 0, 1), (71, .istore_n 3, 1), (72, .iinc 4 1, 3), (75, .goto (-30), 3), (78, .iload_n 3, 1)]
theorem aJ_390_7 : sx_iB prog_14_method_62_code aI_390_7 = true := by decide +kernel
def aI_390_8 : sx_IL := [(79, .ifCond .eq 22, 3), (82, .aload_n 0, 1), (83, .iload_n 1, 1), (84, .iconst 2, 1), (85, .iadd, 1), (86, .iload_n 2, 1)]
theorem aJ_390_8 : sx_iB prog_14_method_62_code aI_390_8 = true := by decide +kernel
def aI_390_9 : sx_IL := [(87, .iconst 2, 1), (88, .isub, 1), (89, .invokestatic 724, 3), (92, .bipush (-4), 2), (94, .if_icmp .ne 7, 3), (97, .iconst 1, 1)]
theorem aJ_390_9 : sx_iB prog_14_method_62_code aI_390_9 = true := by decide +kernel
def aI_390_10 : sx_IL := [(98, .goto 4, 3), (101, .iconst 0, 1), (102, .ireturn, 1)]
theorem aJ_390_10 : sx_iB prog_14_method_62_code aI_390_10 = true := by decide +kernel
def aI_391_0 : sx_IL := [(0, .iconst 0, 1), (1, .istore_n 1, 1), (2, .iload_n 1, 1), (3, .aload_n 0, 1), (4, .getfield 782, 3), (7, .if_icmp .ge 91, 3)]
theorem aJ_391_0 : sx_iB prog_14_method_73_code aI_391_0 = true := by decide +kernel
def aI_391_1 : sx_IL := [(10, .aload_n 0, 1), (11, .getfield 42, 3), (14, .iload_n 1, 1), (15, .iaload, 1), (16, .aload_n 0, 1), (17, .getfield 42, 3)]
theorem aJ_391_1 : sx_iB prog_14_method_73_code aI_391_1 = true := by decide +kernel
def aI_391_2 : sx_IL := [(20, .bipush 35, 2), (22, .iaload, 1), (23, .if_icmp .ne 7, 3), (26, .iconst 1, 1), (27, .goto 4, 3), (30, .iconst 0, 1)]
theorem aJ_391_2 : sx_iB prog_14_method_73_code aI_391_2 = true := by decide +kernel
def aI_391_3 : sx_IL := [(31, .istore_n 2, 1), (32, .iconst 0, 1), (33, .istore_n 3, 1), (34, .iload_n 2, 1), (35, .ifCond .eq 51, 3), (38, .iload_n 3, 1)]
theorem aJ_391_3 : sx_iB prog_14_method_73_code aI_391_3 = true := by decide +kernel
def aI_391_4 : sx_IL := [(39, .aload_n 0, 1), (40, .getfield 42, 3), (43, .bipush 35, 2), (45, .iaload, 1), (46, .if_icmp .ge 40, 3), (49, .aload_n 0, 1)]
theorem aJ_391_4 : sx_iB prog_14_method_73_code aI_391_4 = true := by decide +kernel
def aI_391_5 : sx_IL := [(50, .getfield 39, 3), (53, .sipush 400, 3), (56, .iload_n 1, 1), (57, .imul, 1), (58, .iload_n 3, 1), (59, .iadd, 1)]
theorem aJ_391_5 : sx_iB prog_14_method_73_code aI_391_5 = true := by decide +kernel
def aI_391_6 : sx_IL := [(60, .iaload, 1), (61, .aload_n 0, 1), (62, .getfield 39, 3), (65, .sipush 14000, 3), (68, .iload_n 3, 1), (69, .iadd, 1)]
theorem aJ_391_6 : sx_iB prog_14_method_73_code aI_391_6 = true := by decide +kernel
def aI_391_7 : sx_IL := [(70, .iaload, 1), (71, .if_icmp .ne 7, 3), (74, .iconst 1, 1), (75, .goto 4, 3), (78, .iconst 0, 1), (79, .istore_n 2, 1)]
theorem aJ_391_7 : sx_iB prog_14_method_73_code aI_391_7 = true := by decide +kernel
def aI_391_8 : sx_IL := [(80, .iinc 3 1, 3), (83, .goto (-49), 3), (86, .iload_n 2, 1), (87, .ifCond .eq 5, 3), (90, .iload_n 1, 1), (91, .ireturn, 1)]
theorem aJ_391_8 : sx_iB prog_14_method_73_code aI_391_8 = true := by decide +kernel
def aI_391_9 : sx_IL := [(92, .iinc 1 1, 3), (95, .goto (-93), 3), (98, .aload_n 0, 1), (99, .getfield 782, 3), (102, .bipush 30, 2), (104, .if_icmp .ne 6, 3)]
theorem aJ_391_9 : sx_iB prog_14_method_73_code aI_391_9 = true := by decide +kernel
def aI_391_10 : sx_IL := [(107, .bipush (-3), 2), (109, .ireturn, 1), (110, .aload_n 0, 1), (111, .bipush 35, 2), (113, .aload_n 0, 1), (114, .getfield 782, 3)]
theorem aJ_391_10 : sx_iB prog_14_method_73_code aI_391_10 = true := by decide +kernel
def aI_391_11 : sx_IL := [(117, .invokevirtual 785, 3), (120, .aload_n 0, 1), (121, .dup, 1), (122, .getfield 782, 3), (125, .iconst 1, 1), (126, .iadd, 1)]
theorem aJ_391_11 : sx_iB prog_14_method_73_code aI_391_11 = true := by decide +kernel
def aI_391_12 : sx_IL := [(127, .putfield 782, 3), (130, .aload_n 0, 1), (131, .getfield 782, 3), (134, .iconst 1, 1), (135, .isub, 1), (136, .ireturn, 1)]
theorem aJ_391_12 : sx_iB prog_14_method_73_code aI_391_12 = true := by decide +kernel
def aI_392_0 : sx_IL := [(0, .aload_n 0, 1), (1, .iload_n 2, 1), (2, .aload_n 0, 1), (3, .getfield 39, 3), (6, .sipush 400, 3), (9, .iload_n 1, 1)]
theorem aJ_392_0 : sx_iB prog_14_method_72_code aI_392_0 = true := by decide +kernel
def aI_392_1 : sx_IL := [(10, .imul, 1), (11, .aload_n 0, 1), (12, .getfield 42, 3), (15, .iload_n 1, 1), (16, .iaload, 1), (17, .invokevirtual 778, 3)]
theorem aJ_392_1 : sx_iB prog_14_method_72_code aI_392_1 = true := by decide +kernel
def aI_392_2 : sx_IL := [(20, .istore_n 3, 1), (21, .aload_n 0, 1), (22, .getfield 42, 3), (25, .iload_n 2, 1), (26, .iload_n 3, 1), (27, .ifCond .eq 12, 3)]
theorem aJ_392_2 : sx_iB prog_14_method_72_code aI_392_2 = true := by decide +kernel
def aI_392_3 : sx_IL := [(30, .aload_n 0, 1), (31, .getfield 42, 3), (34, .iload_n 2, 1), (35, .iaload, 1), (36, .goto 4, 3), (39, .iconst 0, 1)]
theorem aJ_392_3 : sx_iB prog_14_method_72_code aI_392_3 = true := by decide +kernel
def aI_392_4 : sx_IL := [(40, .iastore, 1), (41, .return_, 1)]
theorem aJ_392_4 : sx_iB prog_14_method_72_code aI_392_4 = true := by decide +kernel
def aI_393_0 : sx_IL := [(0, .aload_n 0, 1), (1, .aload_n 0, 1), (2, .getfield 7, 3), (5, .iconst 0, 1), (6, .aload_n 0, 1), (7, .getfield 517, 3)]
theorem aJ_393_0 : sx_iB prog_14_method_78_code aI_393_0 = true := by decide +kernel
def aI_393_1 : sx_IL := [(10, .invokevirtual 744, 3), (13, .istore_n 1, 1), (14, .iload_n 1, 1), (15, .bipush (-4), 2), (17, .if_icmp .ne 25, 3), (20, .aload_n 0, 1)]
theorem aJ_393_1 : sx_iB prog_14_method_78_code aI_393_1 = true := by decide +kernel
def aI_393_2 : sx_IL := [(21, .bipush 13, 2), (23, .aload_n 0, 1), (24, .getfield 7, 3), (27, .iconst 0, 1), (28, .aload_n 0, 1), (29, .getfield 517, 3)]
theorem aJ_393_2 : sx_iB prog_14_method_78_code aI_393_2 = true := by decide +kernel
def aI_393_3 : sx_IL := [(32, .invokevirtual 796, 3), (35, .ifCond .eq 7, 3), (38, .iconst 1, 1), (39, .goto 4, 3), (42, .iconst 0, 1), (43, .istore_n 2, 1)]
theorem aJ_393_3 : sx_iB prog_14_method_78_code aI_393_3 = true := by decide +kernel
def aI_393_4 : sx_IL := [(44, .iload_n 1, 1), (45, .bipush (-4), 2), (47, .if_icmp .eq 10, 3), (50, .bipush (-10), 2), (52, .iload_n 1, 1), (53, .isub, 1)]
theorem aJ_393_4 : sx_iB prog_14_method_78_code aI_393_4 = true := by decide +kernel
def aI_393_5 : sx_IL := [(54, .goto 16, 3), (57, .iload_n 2, 1), (58, .ifCond .ne 8, 3), (61, .bipush (-9), 2), (63, .goto 7, 3), (66, .aload_n 0, 1)]
theorem aJ_393_5 : sx_iB prog_14_method_78_code aI_393_5 = true := by decide +kernel
def aI_393_6 : sx_IL := [(67, .invokevirtual 799, 3), (70, .istore_n 3, 1), (71, .aload_n 0, 1), (72, .iload_n 3, 1), (73, .bipush (-3), 2), (75, .if_icmp .ne 10, 3)]
theorem aJ_393_6 : sx_iB prog_14_method_78_code aI_393_6 = true := by decide +kernel
def aI_393_7 : sx_IL := [(78, .aload_n 0, 1), (79, .getfield 517, 3), (82, .goto 4, 3), (85, .iconst 0, 1), (86, .putfield 517, 3), (89, .iload_n 3, 1)]
theorem aJ_393_7 : sx_iB prog_14_method_78_code aI_393_7 = true := by decide +kernel
def aI_393_8 : sx_IL := [(90, .ireturn, 1)]
theorem aJ_393_8 : sx_iB prog_14_method_78_code aI_393_8 = true := by decide +kernel
def aI_394_0 : sx_IL := [(0, .bipush 8, 2), (2, .iload_n 1, 1), (3, .imul, 1), (4, .istore 5, 2), (6, .iload 4, 2), (8, .sipush 400, 3)]
theorem aJ_394_0 : sx_iB prog_14_method_75_code aI_394_0 = true := by decide +kernel
def aI_394_1 : sx_IL := [(11, .if_icmp .le 5, 3), (14, .iconst 0, 1), (15, .ireturn, 1), (16, .aload_n 0, 1), (17, .getfield 69, 3), (20, .iload_n 1, 1)]
theorem aJ_394_1 : sx_iB prog_14_method_75_code aI_394_1 = true := by decide +kernel
def aI_394_2 : sx_IL := [(21, .iload 4, 2), (23, .iastore, 1), (24, .iconst 0, 1), (25, .istore 6, 2), (27, .iload 6, 2), (29, .iload 4, 2)]
theorem aJ_394_2 : sx_iB prog_14_method_75_code aI_394_2 = true := by decide +kernel
def aI_394_3 : sx_IL := [(31, .if_icmp .ge 28, 3), (34, .aload_n 0, 1), (35, .getfield 66, 3), (38, .sipush 400, 3), (41, .iload_n 1, 1), (42, .imul, 1)]
theorem aJ_394_3 : sx_iB prog_14_method_75_code aI_394_3 = true := by decide +kernel
def aI_394_4 : sx_IL := [(43, .iload 6, 2), (45, .iadd, 1), (46, .aload_n 2, 1), (47, .iload_n 3, 1), (48, .iload 6, 2), (50, .iadd, 1)]
theorem aJ_394_4 : sx_iB prog_14_method_75_code aI_394_4 = true := by decide +kernel
def aI_394_5 : sx_IL := [(51, .iaload, 1), (52, .iastore, 1), (53, .iinc 6 1, 3), (56, .goto (-29), 3), (59, .aload_n 0, 1), (60, .aload_n 0, 1)]
theorem aJ_394_5 : sx_iB prog_14_method_75_code aI_394_5 = true := by decide +kernel
def aI_394_6 : sx_IL := [(61, .getfield 66, 3), (64, .putfield 750, 3), (67, .aload_n 0, 1), (68, .sipush 400, 3), (71, .iload_n 1, 1), (72, .imul, 1)]
theorem aJ_394_6 : sx_iB prog_14_method_75_code aI_394_6 = true := by decide +kernel
def aI_394_7 : sx_IL := [(73, .putfield 747, 3), (76, .aload_n 0, 1), (77, .getfield 747, 3), (80, .iload 4, 2), (82, .iadd, 1), (83, .istore 6, 2)]
theorem aJ_394_7 : sx_iB prog_14_method_75_code aI_394_7 = true := by decide +kernel
def aI_394_8 : sx_IL := [(85, .aload_n 0, 1), (86, .bipush 48, 2), (88, .iload 6, 2), (90, .invokevirtual 759, 3), (93, .ifCond .ne 5, 3), (96, .iconst 0, 1)]
theorem aJ_394_8 : sx_iB prog_14_method_75_code aI_394_8 = true := by decide +kernel
def aI_394_9 : sx_IL := [(97, .ireturn, 1), (98, .aload_n 0, 1), (99, .getfield 747, 3), (102, .istore 6, 2), (104, .aload_n 0, 1), (105, .aload_n 0, 1)]
theorem aJ_394_9 : sx_iB prog_14_method_75_code aI_394_9 = true := by decide +kernel
def aI_394_10 : sx_IL := [(106, .getfield 753, 3), (109, .putfield 747, 3), (112, .aload_n 0, 1), (113, .bipush 48, 2), (115, .iload 6, 2), (117, .invokevirtual 759, 3)]
theorem aJ_394_10 : sx_iB prog_14_method_75_code aI_394_10 = true := by decide +kernel
def aI_394_11 : sx_IL := [(120, .ifCond .ne 5, 3), (123, .iconst 0, 1), (124, .ireturn, 1), (125, .aload_n 0, 1), (126, .getfield 753, 3), (129, .istore 7, 2)]
theorem aJ_394_11 : sx_iB prog_14_method_75_code aI_394_11 = true := by decide +kernel
def aI_394_12 : sx_IL := [(131, .aload_n 0, 1), (132, .getfield 747, 3), (135, .istore 8, 2), (137, .aload_n 0, 1), (138, .iconst 4, 1), (139, .iload 6, 2)]
theorem aJ_394_12 : sx_iB prog_14_method_75_code aI_394_12 = true := by decide +kernel
def aI_394_13 : sx_IL := [(141, .invokevirtual 759, 3), (144, .ifCond .eq 21, 3), (147, .aload_n 0, 1), (148, .getfield 756, 3), (151, .bipush 8, 2), (153, .if_icmp .ne 12, 3)]
theorem aJ_394_13 : sx_iB prog_14_method_75_code aI_394_13 = true := by decide +kernel
def aI_394_14 : sx_IL := [(156, .aload_n 0, 1), (157, .getfield 747, 3), (160, .iload 6, 2), (162, .if_icmp .eq 5, 3), (165, .iconst 0, 1), (166, .ireturn, 1)]
theorem aJ_394_14 : sx_iB prog_14_method_75_code aI_394_14 = true := by decide +kernel
def aI_394_15 : sx_IL := [(167, .aload_n 0, 1), (168, .getfield 72, 3), (171, .iload 5, 2), (173, .bipush 6, 2), (175, .iadd, 1), (176, .aload_n 0, 1)]
theorem aJ_394_15 : sx_iB prog_14_method_75_code aI_394_15 = true := by decide +kernel
def aI_394_16 : sx_IL := [(177, .getfield 753, 3), (180, .iastore, 1), (181, .aload_n 0, 1), (182, .iload 7, 2), (184, .putfield 747, 3), (187, .aload_n 0, 1)]
theorem aJ_394_16 : sx_iB prog_14_method_75_code aI_394_16 = true := by decide +kernel
def aI_394_17 : sx_IL := [(188, .bipush 12, 2), (190, .iload 8, 2), (192, .invokevirtual 759, 3), (195, .ifCond .ne 5, 3), (198, .iconst 0, 1), (199, .ireturn, 1)]
theorem aJ_394_17 : sx_iB prog_14_method_75_code aI_394_17 = true := by decide +kernel
def aI_394_18 : sx_IL := [(200, .aload_n 0, 1), (201, .getfield 72, 3), (204, .iload 5, 2), (206, .aload_n 0, 1), (207, .getfield 753, 3), (210, .iastore, 1)]
theorem aJ_394_18 : sx_iB prog_14_method_75_code aI_394_18 = true := by decide +kernel
def aI_394_19 : sx_IL := [(211, .aload_n 0, 1), (212, .getfield 72, 3), (215, .iload 5, 2), (217, .iconst 1, 1), (218, .iadd, 1), (219, .aload_n 0, 1)]
theorem aJ_394_19 : sx_iB prog_14_method_75_code aI_394_19 = true := by decide +kernel
def aI_394_20 : sx_IL := [(220, .getfield 756, 3), (223, .iastore, 1), (224, .iconst 2, 1), (225, .istore 9, 2), (227, .iload 9, 2), (229, .iconst 5, 1)]
theorem aJ_394_20 : sx_iB prog_14_method_75_code aI_394_20 = true := by decide +kernel
def aI_394_21 : sx_IL := [(230, .if_icmp .gt 35, 3), (233, .aload_n 0, 1), (234, .iconst 2, 1), (235, .iload 8, 2), (237, .invokevirtual 759, 3), (240, .ifCond .ne 5, 3)]
theorem aJ_394_21 : sx_iB prog_14_method_75_code aI_394_21 = true := by decide +kernel
def aI_394_22 : sx_IL := [(243, .iconst 0, 1), (244, .ireturn, 1), (245, .aload_n 0, 1), (246, .getfield 72, 3), (249, .iload 5, 2), (251, .iload 9, 2)]
theorem aJ_394_22 : sx_iB prog_14_method_75_code aI_394_22 = true := by decide +kernel
def aI_394_23 : sx_IL := [(253, .iadd, 1), (254, .aload_n 0, 1), (255, .invokevirtual 766, 3), (258, .iastore, 1), (259, .iinc 9 1, 3), (262, .goto (-35), 3)]
theorem aJ_394_23 : sx_iB prog_14_method_75_code aI_394_23 = true := by decide +kernel
def aI_394_24 : sx_IL := [(265, .aload_n 0, 1), (266, .getfield 72, 3), (269, .iload 5, 2), (271, .iconst 4, 1), (272, .iadd, 1), (273, .iaload, 1)]
theorem aJ_394_24 : sx_iB prog_14_method_75_code aI_394_24 = true := by decide +kernel
def aI_394_25 : sx_IL := [(274, .aload_n 0, 1), (275, .getfield 72, 3), (278, .iload 5, 2), (280, .iconst 3, 1), (281, .iadd, 1), (282, .iaload, 1)]
theorem aJ_394_25 : sx_iB prog_14_method_75_code aI_394_25 = true := by decide +kernel
def aI_394_26 : sx_IL := [(283, .if_icmp .lt 42, 3), (286, .aload_n 0, 1), (287, .getfield 72, 3), (290, .iload 5, 2), (292, .iconst 5, 1), (293, .iadd, 1)]
theorem aJ_394_26 : sx_iB prog_14_method_75_code aI_394_26 = true := by decide +kernel
def aI_394_27 : sx_IL := [(294, .iaload, 1), (295, .i2l, 1), (296, .lconst 1, 1), (297, .ldc2_w 631, 3), (300, .invokestatic 513, 3), (303, .ifCond .eq 22, 3)]
theorem aJ_394_27 : sx_iB prog_14_method_75_code aI_394_27 = true := by decide +kernel
def aI_394_28 : sx_IL := [(306, .aload_n 0, 1), (307, .iconst 4, 1), (308, .iload 8, 2), (310, .invokevirtual 759, 3), (313, .ifCond .eq 12, 3), (316, .aload_n 0, 1)]
theorem aJ_394_28 : sx_iB prog_14_method_75_code aI_394_28 = true := by decide +kernel
def aI_394_29 : sx_IL := [(317, .getfield 747, 3), (320, .iload 8, 2), (322, .if_icmp .eq 5, 3), (325, .iconst 0, 1), (326, .ireturn, 1), (327, .aload_n 0, 1)]
theorem aJ_394_29 : sx_iB prog_14_method_75_code aI_394_29 = true := by decide +kernel
def aI_394_30 : sx_IL := [(328, .getfield 72, 3), (331, .iload 5, 2), (333, .bipush 7, 2), (335, .iadd, 1), (336, .aload_n 0, 1), (337, .getfield 753, 3)]
theorem aJ_394_30 : sx_iB prog_14_method_75_code aI_394_30 = true := by decide +kernel
def aI_394_31 : sx_IL := [(340, .iastore, 1), (341, .aload_n 0, 1), (342, .getfield 756, 3), (345, .iconst 4, 1), (346, .irem, 1), (347, .ifCond .ne 17, 3)]
theorem aJ_394_31 : sx_iB prog_14_method_75_code aI_394_31 = true := by decide +kernel
def aI_394_32 : sx_IL := [(350, .aload_n 0, 1), (351, .getfield 756, 3), (354, .sipush 160, 3), (357, .if_icmp .gt 7, 3), (360, .iconst 1, 1), (361, .goto 4, 3)]
theorem aJ_394_32 : sx_iB prog_14_method_75_code aI_394_32 = true := by decide +kernel
def aI_394_33 : sx_IL := [(364, .iconst 0, 1), (365, .istore 9, 2), (367, .iconst 0, 1), (368, .istore 10, 2), (370, .iconst 0, 1), (371, .istore 11, 2)]
theorem aJ_394_33 : sx_iB prog_14_method_75_code aI_394_33 = true := by decide +kernel
def aI_394_34 : sx_IL := [(373, .iload 9, 2), (375, .ifCond .eq 52, 3), (378, .iload 11, 2), (380, .aload_n 0, 1), (381, .getfield 756, 3), (384, .if_icmp .ge 43, 3)]
theorem aJ_394_34 : sx_iB prog_14_method_75_code aI_394_34 = true := by decide +kernel
def aI_394_35 : sx_IL := [(387, .aload_n 0, 1), (388, .getfield 750, 3), (391, .aload_n 0, 1), (392, .getfield 753, 3), (395, .iload 11, 2), (397, .iadd, 1)]
theorem aJ_394_35 : sx_iB prog_14_method_75_code aI_394_35 = true := by decide +kernel
def aI_394_36 : sx_IL := [(398, .invokestatic 792, 3), (401, .istore 12, 2), (403, .iload 12, 2), (405, .iload 10, 2), (407, .if_icmp .le 7, 3), (410, .iconst 1, 1)]
theorem aJ_394_36 : sx_iB prog_14_method_75_code aI_394_36 = true := by decide +kernel
def aI_394_37 : sx_IL := [(411, .goto 4, 3), (414, .iconst 0, 1), (415, .istore 9, 2), (417, .iload 12, 2), (419, .istore 10, 2), (421, .iinc 11 4, 3)]
theorem aJ_394_37 : sx_iB prog_14_method_75_code aI_394_37 = true := by decide +kernel
def aI_394_38 : sx_IL := [(424, .goto (-51), 3), (427, .iload 9, 2), (429, .ireturn, 1)]
theorem aJ_394_38 : sx_iB prog_14_method_75_code aI_394_38 = true := by decide +kernel
def aI_395_0 : sx_IL := [(0, .aload_n 0, 1), (1, .iload_n 1, 1), (2, .iaload, 1), (3, .bipush 24, 2), (5, .ishl, 1), (6, .aload_n 0, 1)]
theorem aJ_395_0 : sx_iB prog_14_method_76_code aI_395_0 = true := by decide +kernel
def aI_395_1 : sx_IL := [(7, .iload_n 1, 1), (8, .iconst 1, 1), (9, .iadd, 1), (10, .iaload, 1), (11, .bipush 16, 2), (13, .ishl, 1)]
theorem aJ_395_1 : sx_iB prog_14_method_76_code aI_395_1 = true := by decide +kernel
def aI_395_2 : sx_IL := [(14, .ior, 1), (15, .aload_n 0, 1), (16, .iload_n 1, 1), (17, .iconst 2, 1), (18, .iadd, 1), (19, .iaload, 1)]
theorem aJ_395_2 : sx_iB prog_14_method_76_code aI_395_2 = true := by decide +kernel
def aI_395_3 : sx_IL := [(20, .bipush 8, 2), (22, .ishl, 1), (23, .ior, 1), (24, .aload_n 0, 1), (25, .iload_n 1, 1), (26, .iconst 3, 1)]
theorem aJ_395_3 : sx_iB prog_14_method_76_code aI_395_3 = true := by decide +kernel
def aI_395_4 : sx_IL := [(27, .iadd, 1), (28, .iaload, 1), (29, .ior, 1), (30, .ireturn, 1)]
theorem aJ_395_4 : sx_iB prog_14_method_76_code aI_395_4 = true := by decide +kernel
def aI_396_0 : sx_IL := [(0, .aload_n 0, 1), (1, .getfield 802, 3), (4, .bipush 12, 2), (6, .if_icmp .ne 6, 3), (9, .bipush (-3), 2), (11, .ireturn, 1)]
theorem aJ_396_0 : sx_iB prog_14_method_79_code aI_396_0 = true := by decide +kernel
def aI_396_1 : sx_IL := [(12, .aload_n 0, 1), (13, .aload_n 0, 1), (14, .getfield 802, 3), (17, .aload_n 0, 1), (18, .getfield 66, 3), (21, .sipush 5200, 3)]
theorem aJ_396_1 : sx_iB prog_14_method_79_code aI_396_1 = true := by decide +kernel
def aI_396_2 : sx_IL := [(24, .aload_n 0, 1), (25, .getfield 69, 3), (28, .bipush 13, 2), (30, .iaload, 1), (31, .invokevirtual 796, 3), (34, .istore_n 1, 1)]
theorem aJ_396_2 : sx_iB prog_14_method_79_code aI_396_2 = true := by decide +kernel
def aI_396_3 : sx_IL := [(35, .aload_n 0, 1), (36, .dup, 1), (37, .getfield 802, 3), (40, .iload_n 1, 1), (41, .ifCond .eq 7, 3), (44, .iconst 1, 1)]
theorem aJ_396_3 : sx_iB prog_14_method_79_code aI_396_3 = true := by decide +kernel
def aI_396_4 : sx_IL := [(45, .goto 4, 3), (48, .iconst 0, 1), (49, .iadd, 1), (50, .putfield 802, 3), (53, .aload_n 0, 1), (54, .getfield 802, 3)]
theorem aJ_396_4 : sx_iB prog_14_method_79_code aI_396_4 = true := by decide +kernel
def aI_396_5 : sx_IL := [(57, .iconst 1, 1), (58, .isub, 1), (59, .ireturn, 1)]
theorem aJ_396_5 : sx_iB prog_14_method_79_code aI_396_5 = true := by decide +kernel
def aI_397_0 : sx_IL := [(0, .aload_n 0, 1), (1, .aload_n 0, 1), (2, .getfield 7, 3), (5, .iconst 0, 1), (6, .aload_n 0, 1), (7, .getfield 517, 3)]
theorem aJ_397_0 : sx_iB prog_14_method_80_code aI_397_0 = true := by decide +kernel
def aI_397_1 : sx_IL := [(10, .invokevirtual 744, 3), (13, .istore_n 1, 1), (14, .iload_n 1, 1), (15, .bipush (-4), 2), (17, .if_icmp .ne 25, 3), (20, .aload_n 0, 1)]
theorem aJ_397_1 : sx_iB prog_14_method_80_code aI_397_1 = true := by decide +kernel
def aI_397_2 : sx_IL := [(21, .bipush 13, 2), (23, .aload_n 0, 1), (24, .getfield 7, 3), (27, .iconst 0, 1), (28, .aload_n 0, 1), (29, .getfield 517, 3)]
theorem aJ_397_2 : sx_iB prog_14_method_80_code aI_397_2 = true := by decide +kernel
def aI_397_3 : sx_IL := [(32, .invokevirtual 805, 3), (35, .ifCond .eq 7, 3), (38, .iconst 1, 1), (39, .goto 4, 3), (42, .iconst 0, 1), (43, .istore_n 2, 1)]
theorem aJ_397_3 : sx_iB prog_14_method_80_code aI_397_3 = true := by decide +kernel
def aI_397_4 : sx_IL := [(44, .iload_n 1, 1), (45, .bipush (-4), 2), (47, .if_icmp .eq 10, 3), (50, .bipush (-10), 2), (52, .iload_n 1, 1), (53, .isub, 1)]
theorem aJ_397_4 : sx_iB prog_14_method_80_code aI_397_4 = true := by decide +kernel
def aI_397_5 : sx_IL := [(54, .goto 16, 3), (57, .iload_n 2, 1), (58, .ifCond .ne 8, 3), (61, .bipush (-9), 2), (63, .goto 7, 3), (66, .aload_n 0, 1)]
theorem aJ_397_5 : sx_iB prog_14_method_80_code aI_397_5 = true := by decide +kernel
def aI_397_6 : sx_IL := [(67, .invokevirtual 808, 3), (70, .istore_n 3, 1), (71, .aload_n 0, 1), (72, .iload_n 3, 1), (73, .bipush (-3), 2), (75, .if_icmp .ne 10, 3)]
theorem aJ_397_6 : sx_iB prog_14_method_80_code aI_397_6 = true := by decide +kernel
def aI_397_7 : sx_IL := [(78, .aload_n 0, 1), (79, .getfield 517, 3), (82, .goto 4, 3), (85, .iconst 0, 1), (86, .putfield 517, 3), (89, .iload_n 3, 1)]
theorem aJ_397_7 : sx_iB prog_14_method_80_code aI_397_7 = true := by decide +kernel
def aI_397_8 : sx_IL := [(90, .ireturn, 1)]
theorem aJ_397_8 : sx_iB prog_14_method_80_code aI_397_8 = true := by decide +kernel
def aI_398_0 : sx_IL := [(0, .bipush 8, 2), (2, .iload_n 1, 1), (3, .imul, 1), (4, .istore 5, 2), (6, .iload 4, 2), (8, .sipush 400, 3)]
theorem aJ_398_0 : sx_iB prog_14_method_77_code aI_398_0 = true := by decide +kernel
def aI_398_1 : sx_IL := [(11, .if_icmp .le 5, 3), (14, .iconst 0, 1), (15, .ireturn, 1), (16, .aload_n 0, 1), (17, .getfield 78, 3), (20, .iload_n 1, 1)]
theorem aJ_398_1 : sx_iB prog_14_method_77_code aI_398_1 = true := by decide +kernel
def aI_398_2 : sx_IL := [(21, .iload 4, 2), (23, .iastore, 1), (24, .iconst 0, 1), (25, .istore 6, 2), (27, .iload 6, 2), (29, .iload 4, 2)]
theorem aJ_398_2 : sx_iB prog_14_method_77_code aI_398_2 = true := by decide +kernel
def aI_398_3 : sx_IL := [(31, .if_icmp .ge 28, 3), (34, .aload_n 0, 1), (35, .getfield 75, 3), (38, .sipush 400, 3), (41, .iload_n 1, 1), (42, .imul, 1)]
theorem aJ_398_3 : sx_iB prog_14_method_77_code aI_398_3 = true := by decide +kernel
def aI_398_4 : sx_IL := [(43, .iload 6, 2), (45, .iadd, 1), (46, .aload_n 2, 1), (47, .iload_n 3, 1), (48, .iload 6, 2), (50, .iadd, 1)]
theorem aJ_398_4 : sx_iB prog_14_method_77_code aI_398_4 = true := by decide +kernel
def aI_398_5 : sx_IL := [(51, .iaload, 1), (52, .iastore, 1), (53, .iinc 6 1, 3), (56, .goto (-29), 3), (59, .aload_n 0, 1), (60, .aload_n 0, 1)]
theorem aJ_398_5 : sx_iB prog_14_method_77_code aI_398_5 = true := by decide +kernel
def aI_398_6 : sx_IL := [(61, .getfield 75, 3), (64, .putfield 750, 3), (67, .aload_n 0, 1), (68, .sipush 400, 3), (71, .iload_n 1, 1), (72, .imul, 1)]
theorem aJ_398_6 : sx_iB prog_14_method_77_code aI_398_6 = true := by decide +kernel
def aI_398_7 : sx_IL := [(73, .putfield 747, 3), (76, .aload_n 0, 1), (77, .getfield 747, 3), (80, .iload 4, 2), (82, .iadd, 1), (83, .istore 6, 2)]
theorem aJ_398_7 : sx_iB prog_14_method_77_code aI_398_7 = true := by decide +kernel
def aI_398_8 : sx_IL := [(85, .aload_n 0, 1), (86, .bipush 48, 2), (88, .iload 6, 2), (90, .invokevirtual 759, 3), (93, .ifCond .ne 5, 3), (96, .iconst 0, 1)]
theorem aJ_398_8 : sx_iB prog_14_method_77_code aI_398_8 = true := by decide +kernel
def aI_398_9 : sx_IL := [(97, .ireturn, 1), (98, .aload_n 0, 1), (99, .getfield 747, 3), (102, .istore 6, 2), (104, .aload_n 0, 1), (105, .aload_n 0, 1)]
theorem aJ_398_9 : sx_iB prog_14_method_77_code aI_398_9 = true := by decide +kernel
def aI_398_10 : sx_IL := [(106, .getfield 753, 3), (109, .putfield 747, 3), (112, .aload_n 0, 1), (113, .bipush 48, 2), (115, .iload 6, 2), (117, .invokevirtual 759, 3)]
theorem aJ_398_10 : sx_iB prog_14_method_77_code aI_398_10 = true := by decide +kernel
def aI_398_11 : sx_IL := [(120, .ifCond .ne 5, 3), (123, .iconst 0, 1), (124, .ireturn, 1), (125, .aload_n 0, 1), (126, .getfield 753, 3), (129, .istore 7, 2)]
theorem aJ_398_11 : sx_iB prog_14_method_77_code aI_398_11 = true := by decide +kernel
def aI_398_12 : sx_IL := [(131, .aload_n 0, 1), (132, .getfield 747, 3), (135, .istore 8, 2), (137, .aload_n 0, 1), (138, .iconst 4, 1), (139, .iload 6, 2)]
theorem aJ_398_12 : sx_iB prog_14_method_77_code aI_398_12 = true := by decide +kernel
def aI_398_13 : sx_IL := [(141, .invokevirtual 759, 3), (144, .ifCond .eq 21, 3), (147, .aload_n 0, 1), (148, .getfield 756, 3), (151, .bipush 8, 2), (153, .if_icmp .ne 12, 3)]
theorem aJ_398_13 : sx_iB prog_14_method_77_code aI_398_13 = true := by decide +kernel
def aI_398_14 : sx_IL := [(156, .aload_n 0, 1), (157, .getfield 747, 3), (160, .iload 6, 2), (162, .if_icmp .eq 5, 3), (165, .iconst 0, 1), (166, .ireturn, 1)]
theorem aJ_398_14 : sx_iB prog_14_method_77_code aI_398_14 = true := by decide +kernel
def aI_398_15 : sx_IL := [(167, .aload_n 0, 1), (168, .getfield 81, 3), (171, .iload 5, 2), (173, .bipush 6, 2), (175, .iadd, 1), (176, .aload_n 0, 1)]
theorem aJ_398_15 : sx_iB prog_14_method_77_code aI_398_15 = true := by decide +kernel
def aI_398_16 : sx_IL := [(177, .getfield 753, 3), (180, .iastore, 1), (181, .aload_n 0, 1), (182, .iload 7, 2), (184, .putfield 747, 3), (187, .aload_n 0, 1)]
theorem aJ_398_16 : sx_iB prog_14_method_77_code aI_398_16 = true := by decide +kernel
def aI_398_17 : sx_IL := [(188, .bipush 12, 2), (190, .iload 8, 2), (192, .invokevirtual 759, 3), (195, .ifCond .ne 5, 3), (198, .iconst 0, 1), (199, .ireturn, 1)]
theorem aJ_398_17 : sx_iB prog_14_method_77_code aI_398_17 = true := by decide +kernel
def aI_398_18 : sx_IL := [(200, .aload_n 0, 1), (201, .getfield 81, 3), (204, .iload 5, 2), (206, .aload_n 0, 1), (207, .getfield 753, 3), (210, .iastore, 1)]
theorem aJ_398_18 : sx_iB prog_14_method_77_code aI_398_18 = true := by decide +kernel
def aI_398_19 : sx_IL := [(211, .aload_n 0, 1), (212, .getfield 81, 3), (215, .iload 5, 2), (217, .iconst 1, 1), (218, .iadd, 1), (219, .aload_n 0, 1)]
theorem aJ_398_19 : sx_iB prog_14_method_77_code aI_398_19 = true := by decide +kernel
def aI_398_20 : sx_IL := [(220, .getfield 756, 3), (223, .iastore, 1), (224, .aload_n 0, 1), (225, .iconst 2, 1), (226, .iload 8, 2), (228, .invokevirtual 759, 3)]
theorem aJ_398_20 : sx_iB prog_14_method_77_code aI_398_20 = true := by decide +kernel
def aI_398_21 : sx_IL := [(231, .ifCond .ne 5, 3), (234, .iconst 0, 1), (235, .ireturn, 1), (236, .aload_n 0, 1), (237, .getfield 81, 3), (240, .iload 5, 2)]
theorem aJ_398_21 : sx_iB prog_14_method_77_code aI_398_21 = true := by decide +kernel
def aI_398_22 : sx_IL := [(242, .iconst 2, 1), (243, .iadd, 1), (244, .aload_n 0, 1), (245, .invokevirtual 766, 3), (248, .iastore, 1), (249, .aload_n 0, 1)]
theorem aJ_398_22 : sx_iB prog_14_method_77_code aI_398_22 = true := by decide +kernel
def aI_398_23 : sx_IL := [(250, .iconst 2, 1), (251, .iload 8, 2), (253, .invokevirtual 759, 3), (256, .ifCond .eq 11, 3), (259, .aload_n 0, 1), (260, .invokevirtual 766, 3)]
theorem aJ_398_23 : sx_iB prog_14_method_77_code aI_398_23 = true := by decide +kernel
def aI_398_24 : sx_IL := [(263, .iconst 1, 1), (264, .if_icmp .le 5, 3), (267, .iconst 0, 1), (268, .ireturn, 1), (269, .aload_n 0, 1), (270, .getfield 81, 3)]
theorem aJ_398_24 : sx_iB prog_14_method_77_code aI_398_24 = true := by decide +kernel
def aI_398_25 : sx_IL := [(273, .iload 5, 2), (275, .bipush 7, 2), (277, .iadd, 1), (278, .aload_n 0, 1), (279, .invokevirtual 766, 3), (282, .iastore, 1)]
theorem aJ_398_25 : sx_iB prog_14_method_77_code aI_398_25 = true := by decide +kernel
def aI_398_26 : sx_IL := [(283, .iconst 3, 1), (284, .istore 9, 2), (286, .iload 9, 2), (288, .iconst 5, 1), (289, .if_icmp .gt 35, 3), (292, .aload_n 0, 1)]
theorem aJ_398_26 : sx_iB prog_14_method_77_code aI_398_26 = true := by decide +kernel
def aI_398_27 : sx_IL := [(293, .iconst 2, 1), (294, .iload 8, 2), (296, .invokevirtual 759, 3), (299, .ifCond .ne 5, 3), (302, .iconst 0, 1), (303, .ireturn, 1)]
theorem aJ_398_27 : sx_iB prog_14_method_77_code aI_398_27 = true := by decide +kernel
def aI_398_28 : sx_IL := [(304, .aload_n 0, 1), (305, .getfield 81, 3), (308, .iload 5, 2), (310, .iload 9, 2), (312, .iadd, 1), (313, .aload_n 0, 1)]
theorem aJ_398_28 : sx_iB prog_14_method_77_code aI_398_28 = true := by decide +kernel
def aI_398_29 : sx_IL := [(314, .invokevirtual 766, 3), (317, .iastore, 1), (318, .iinc 9 1, 3), (321, .goto (-35), 3), (324, .aload_n 0, 1), (325, .getfield 81, 3)]
theorem aJ_398_29 : sx_iB prog_14_method_77_code aI_398_29 = true := by decide +kernel
def aI_398_30 : sx_IL := [(328, .iload 5, 2), (330, .iconst 4, 1), (331, .iadd, 1), (332, .iaload, 1), (333, .aload_n 0, 1), (334, .getfield 81, 3)]
theorem aJ_398_30 : sx_iB prog_14_method_77_code aI_398_30 = true := by decide +kernel
def aI_398_31 : sx_IL := [(337, .iload 5, 2), (339, .iconst 3, 1), (340, .iadd, 1), (341, .iaload, 1), (342, .if_icmp .lt 36, 3), (345, .aload_n 0, 1)]
theorem aJ_398_31 : sx_iB prog_14_method_77_code aI_398_31 = true := by decide +kernel
def aI_398_32 : sx_IL := [(346, .getfield 81, 3), (349, .iload 5, 2), (351, .iconst 5, 1), (352, .iadd, 1), (353, .iaload, 1), (354, .i2l, 1)]
theorem aJ_398_32 : sx_iB prog_14_method_77_code aI_398_32 = true := by decide +kernel
def aI_398_33 : sx_IL := [(355, .lconst 1, 1), (356, .ldc2_w 631, 3), (359, .invokestatic 513, 3), (362, .ifCond .eq 16, 3), (365, .aload_n 0, 1), (366, .getfield 747, 3)]
theorem aJ_398_33 : sx_iB prog_14_method_77_code aI_398_33 = true := by decide +kernel
def aI_398_34 : sx_IL := [(369, .iload 8, 2), (371, .if_icmp .ne 7, 3), (374, .iconst 1, 1), (375, .goto 4, 3), (378, .iconst 0, 1), (379, .ireturn, 1)]
theorem aJ_398_34 : sx_iB prog_14_method_77_code aI_398_34 = true := by decide +kernel
def aI_399_0 : sx_IL := [(0, .aload_n 0, 1), (1, .getfield 811, 3), (4, .bipush 12, 2), (6, .if_icmp .ne 6, 3), (9, .bipush (-3), 2), (11, .ireturn, 1)]
theorem aJ_399_0 : sx_iB prog_14_method_81_code aI_399_0 = true := by decide +kernel
def aI_399_1 : sx_IL := [(12, .aload_n 0, 1), (13, .aload_n 0, 1), (14, .getfield 811, 3), (17, .aload_n 0, 1), (18, .getfield 75, 3), (21, .sipush 5200, 3)]
theorem aJ_399_1 : sx_iB prog_14_method_81_code aI_399_1 = true := by decide +kernel
def aI_399_2 : sx_IL := [(24, .aload_n 0, 1), (25, .getfield 78, 3), (28, .bipush 13, 2), (30, .iaload, 1), (31, .invokevirtual 805, 3), (34, .istore_n 1, 1)]
theorem aJ_399_2 : sx_iB prog_14_method_81_code aI_399_2 = true := by decide +kernel
def aI_399_3 : sx_IL := [(35, .aload_n 0, 1), (36, .dup, 1), (37, .getfield 811, 3), (40, .iload_n 1, 1), (41, .ifCond .eq 7, 3), (44, .iconst 1, 1)]
theorem aJ_399_3 : sx_iB prog_14_method_81_code aI_399_3 = true := by decide +kernel
def aI_399_4 : sx_IL := [(45, .goto 4, 3), (48, .iconst 0, 1), (49, .iadd, 1), (50, .putfield 811, 3), (53, .aload_n 0, 1), (54, .getfield 811, 3)]
theorem aJ_399_4 : sx_iB prog_14_method_81_code aI_399_4 = true := by decide +kernel
def aI_399_5 : sx_IL := [(57, .iconst 1, 1), (58, .isub, 1), (59, .ireturn, 1)]
theorem aJ_399_5 : sx_iB prog_14_method_81_code aI_399_5 = true := by decide +kernel
def aI_400_0 : sx_IL := [(0, .iload_n 1, 1), (1, .i2l, 1), (2, .lconst 1, 1), (3, .ldc2_w 631, 3), (6, .invokestatic 513, 3), (9, .ifCond .eq 10, 3)]
theorem aJ_400_0 : sx_iB prog_14_method_91_code aI_400_0 = true := by decide +kernel
def aI_400_1 : sx_IL := [(12, .iload_n 2, 1), (13, .invokestatic 652, 3), (16, .ifCond .ne 5, 3), (19, .iconst (-1), 1), (20, .ireturn, 1), (21, .aload_n 0, 1)]
theorem aJ_400_1 : sx_iB prog_14_method_91_code aI_400_1 = true := by decide +kernel
def aI_400_2 : sx_IL := [(22, .iconst 0, 1), (23, .putfield 814, 3), (26, .aload_n 0, 1), (27, .aload_n 0, 1), (28, .getfield 7, 3), (31, .iconst 0, 1)]
theorem aJ_400_2 : sx_iB prog_14_method_91_code aI_400_2 = true := by decide +kernel
def aI_400_3 : sx_IL := [(32, .aload_n 0, 1), (33, .getfield 517, 3), (36, .invokevirtual 828, 3), (39, .aload_n 0, 1), (40, .iload_n 1, 1), (41, .iload_n 2, 1)]
theorem aJ_400_3 : sx_iB prog_14_method_91_code aI_400_3 = true := by decide +kernel
def aI_400_4 : sx_IL := [(42, .invokevirtual 837, 3), (45, .aload_n 0, 1), (46, .getfield 814, 3), (49, .sipush 800, 3), (52, .if_icmp .le 6, 3), (55, .bipush (-3), 2)]
theorem aJ_400_4 : sx_iB prog_14_method_91_code aI_400_4 = true := by decide +kernel
def aI_400_5 : sx_IL := [(57, .ireturn, 1), (58, .iconst 0, 1), (59, .istore_n 3, 1), (60, .iload_n 3, 1), (61, .aload_n 0, 1), (62, .getfield 814, 3)]
theorem aJ_400_5 : sx_iB prog_14_method_91_code aI_400_5 = true := by decide +kernel
def aI_400_6 : sx_IL := [(65, .if_icmp .ge 21, 3), (68, .aload_n 0, 1), (69, .getfield 7, 3), (72, .iload_n 3, 1), (73, .aload_n 0, 1), (74, .getfield 84, 3)]
theorem aJ_400_6 : sx_iB prog_14_method_91_code aI_400_6 = true := by decide +kernel
def aI_400_7 : sx_IL := [(77, .iload_n 3, 1), (78, .iaload, 1), (79, .iastore, 1), (80, .iinc 3 1, 3), (83, .goto (-23), 3), (86, .aload_n 0, 1)]
theorem aJ_400_7 : sx_iB prog_14_method_91_code aI_400_7 = true := by decide +kernel
def aI_400_8 : sx_IL := [(87, .aload_n 0, 1), (88, .getfield 814, 3), (91, .putfield 517, 3), (94, .aload_n 0, 1), (95, .getfield 517, 3), (98, .ireturn, 1)]
theorem aJ_400_8 : sx_iB prog_14_method_91_code aI_400_8 = true := by decide +kernel
def aI_401_0 : sx_IL := [(0, .iconst 0, 1), (1, .istore 4, 2), (3, .iload 4, 2), (5, .iload_n 3, 1), (6, .if_icmp .ge 19, 3), (9, .aload_n 0, 1)]
theorem aJ_401_0 : sx_iB prog_14_method_86_code aI_401_0 = true := by decide +kernel
def aI_401_1 : sx_IL := [(10, .aload_n 1, 1), (11, .iload_n 2, 1), (12, .iload 4, 2), (14, .iadd, 1), (15, .iaload, 1), (16, .invokevirtual 817, 3)]
theorem aJ_401_1 : sx_iB prog_14_method_86_code aI_401_1 = true := by decide +kernel
def aI_401_2 : sx_IL := [(19, .iinc 4 1, 3), (22, .goto (-19), 3), (25, .return_, 1)]
theorem aJ_401_2 : sx_iB prog_14_method_86_code aI_401_2 = true := by decide +kernel
def aI_402_0 : sx_IL := [(0, .aload_n 0, 1), (1, .getfield 84, 3), (4, .aload_n 0, 1), (5, .getfield 814, 3), (8, .iload_n 1, 1), (9, .sipush 255, 3)]
theorem aJ_402_0 : sx_iB prog_14_method_82_code aI_402_0 = true := by decide +kernel
def aI_402_1 : sx_IL := [(12, .iand, 1), (13, .iastore, 1), (14, .aload_n 0, 1), (15, .dup, 1), (16, .getfield 814, 3), (19, .iconst 1, 1)]
theorem aJ_402_1 : sx_iB prog_14_method_82_code aI_402_1 = true := by decide +kernel
def aI_402_2 : sx_IL := [(20, .iadd, 1), (21, .putfield 814, 3), (24, .return_, 1)]
theorem aJ_402_2 : sx_iB prog_14_method_82_code aI_402_2 = true := by decide +kernel
def aI_403_0 : sx_IL := [(0, .aload_n 0, 1), (1, .iload_n 1, 1), (2, .iload_n 2, 1), (3, .aload_n 0, 1), (4, .getfield 84, 3), (7, .iconst 0, 1)]
theorem aJ_403_0 : sx_iB prog_14_method_90_code aI_403_0 = true := by decide +kernel
def aI_403_1 : sx_IL := [(8, .aload_n 0, 1), (9, .getfield 814, 3), (12, .invokevirtual 675, 3), (15, .lstore_n 3, 1), (16, .aload_n 0, 1), (17, .iconst 4, 1)]
theorem aJ_403_1 : sx_iB prog_14_method_90_code aI_403_1 = true := by decide +kernel
def aI_403_2 : sx_IL := [(18, .invokevirtual 817, 3), (21, .aload_n 0, 1), (22, .bipush 8, 2), (24, .invokevirtual 817, 3), (27, .aload_n 0, 1), (28, .lload_n 3, 1)]
theorem aJ_403_2 : sx_iB prog_14_method_90_code aI_403_2 = true := by decide +kernel
def aI_403_3 : sx_IL := [(29, .invokevirtual 831, 3), (32, .aload_n 0, 1), (33, .iconst 0, 1), (34, .bipush 48, 2), (36, .invokevirtual 834, 3), (39, .return_, 1)]
theorem aJ_403_3 : sx_iB prog_14_method_90_code aI_403_3 = true := by decide +kernel
def aI_404_0 : sx_IL := [(0, .aload_n 0, 1), (1, .lload_n 1, 1), (2, .bipush 32, 2), (4, .lshr, 1), (5, .l2i, 1), (6, .invokevirtual 823, 3)]
theorem aJ_404_0 : sx_iB prog_14_method_85_code aI_404_0 = true := by decide +kernel
def aI_404_1 : sx_IL := [(9, .aload_n 0, 1), (10, .lload_n 1, 1), (11, .l2i, 1), (12, .invokevirtual 823, 3), (15, .return_, 1)]
theorem aJ_404_1 : sx_iB prog_14_method_85_code aI_404_1 = true := by decide +kernel
def aI_405_0 : sx_IL := [(0, .aload_n 0, 1), (1, .iload_n 1, 1), (2, .bipush 16, 2), (4, .ishr, 1), (5, .invokevirtual 820, 3), (8, .aload_n 0, 1)]
theorem aJ_405_0 : sx_iB prog_14_method_84_code aI_405_0 = true := by decide +kernel
def aI_405_1 : sx_IL := [(9, .iload_n 1, 1), (10, .invokevirtual 820, 3), (13, .return_, 1)]
theorem aJ_405_1 : sx_iB prog_14_method_84_code aI_405_1 = true := by decide +kernel
def aI_406_0 : sx_IL := [(0, .aload_n 0, 1), (1, .iload_n 1, 1), (2, .bipush 8, 2), (4, .ishr, 1), (5, .invokevirtual 817, 3), (8, .aload_n 0, 1)]
theorem aJ_406_0 : sx_iB prog_14_method_83_code aI_406_0 = true := by decide +kernel
def aI_406_1 : sx_IL := [(9, .iload_n 1, 1), (10, .invokevirtual 817, 3), (13, .return_, 1)]
theorem aJ_406_1 : sx_iB prog_14_method_83_code aI_406_1 = true := by decide +kernel
def aI_407_0 : sx_IL := [(0, .aload_n 0, 1), (1, .getfield 814, 3), (4, .iload_n 1, 1), (5, .isub, 1), (6, .istore_n 3, 1), (7, .iload_n 3, 1)]
theorem aJ_407_0 : sx_iB prog_14_method_89_code aI_407_0 = true := by decide +kernel
def aI_407_1 : sx_IL := [(8, .sipush 128, 3), (11, .if_icmp .ge 7, 3), (14, .iconst 2, 1), (15, .goto 15, 3), (18, .iload_n 3, 1), (19, .sipush 256, 3)]
theorem aJ_407_1 : sx_iB prog_14_method_89_code aI_407_1 = true := by decide +kernel
def aI_407_2 : sx_IL := [(22, .if_icmp .ge 7, 3), (25, .iconst 3, 1), (26, .goto 4, 3), (29, .iconst 4, 1), (30, .istore 4, 2), (32, .aload_n 0, 1)]
theorem aJ_407_2 : sx_iB prog_14_method_89_code aI_407_2 = true := by decide +kernel
def aI_407_3 : sx_IL := [(33, .getfield 814, 3), (36, .iconst 1, 1), (37, .isub, 1), (38, .istore 5, 2), (40, .iload 5, 2), (42, .iload_n 1, 1)]
theorem aJ_407_3 : sx_iB prog_14_method_89_code aI_407_3 = true := by decide +kernel
def aI_407_4 : sx_IL := [(43, .if_icmp .lt 26, 3), (46, .aload_n 0, 1), (47, .getfield 84, 3), (50, .iload 5, 2), (52, .iload 4, 2), (54, .iadd, 1)]
theorem aJ_407_4 : sx_iB prog_14_method_89_code aI_407_4 = true := by decide +kernel
def aI_407_5 : sx_IL := [(55, .aload_n 0, 1), (56, .getfield 84, 3), (59, .iload 5, 2), (61, .iaload, 1), (62, .iastore, 1), (63, .iinc 5 (-1), 3)]
theorem aJ_407_5 : sx_iB prog_14_method_89_code aI_407_5 = true := by decide +kernel
def aI_407_6 : sx_IL := [(66, .goto (-26), 3), (69, .aload_n 0, 1), (70, .iload_n 1, 1), (71, .putfield 814, 3), (74, .aload_n 0, 1), (75, .iload_n 2, 1)]
theorem aJ_407_6 : sx_iB prog_14_method_89_code aI_407_6 = true := by decide +kernel
def aI_407_7 : sx_IL := [(76, .invokevirtual 817, 3), (79, .iload 4, 2), (81, .iconst 2, 1), (82, .if_icmp .ne 11, 3), (85, .aload_n 0, 1), (86, .iload_n 3, 1)]
theorem aJ_407_7 : sx_iB prog_14_method_89_code aI_407_7 = true := by decide +kernel
def aI_407_8 : sx_IL := [(87, .invokevirtual 817, 3), (90, .goto 36, 3), (93, .iload 4, 2), (95, .iconst 3, 1), (96, .if_icmp .ne 18, 3), (99, .aload_n 0, 1)]
theorem aJ_407_8 : sx_iB prog_14_method_89_code aI_407_8 = true := by decide +kernel
def aI_407_9 : sx_IL := [(100, .sipush 129, 3), (103, .invokevirtual 817, 3), (106, .aload_n 0, 1), (107, .iload_n 3, 1), (108, .invokevirtual 817, 3), (111, .goto 15, 3)]
theorem aJ_407_9 : sx_iB prog_14_method_89_code aI_407_9 = true := by decide +kernel
def aI_407_10 : sx_IL := [(114, .aload_n 0, 1), (115, .sipush 130, 3), (118, .invokevirtual 817, 3), (121, .aload_n 0, 1), (122, .iload_n 3, 1), (123, .invokevirtual 820, 3)]
theorem aJ_407_10 : sx_iB prog_14_method_89_code aI_407_10 = true := by decide +kernel
def aI_407_11 : sx_IL := [(126, .aload_n 0, 1), (127, .dup, 1), (128, .getfield 814, 3), (131, .iload_n 3, 1), (132, .iadd, 1), (133, .putfield 814, 3)]
theorem aJ_407_11 : sx_iB prog_14_method_89_code aI_407_11 = true := by decide +kernel
def aI_407_12 : sx_IL := [(136, .return_, 1)]
theorem aJ_407_12 : sx_iB prog_14_method_89_code aI_407_12 = true := by decide +kernel
def aI_408_0 : sx_IL := [(0, .aload_n 0, 1), (1, .iload_n 1, 1), (2, .invokevirtual 840, 3), (5, .ifCond .eq 15, 3), (8, .iload_n 2, 1), (9, .i2l, 1)]
theorem aJ_408_0 : sx_iB prog_14_method_93_code aI_408_0 = true := by decide +kernel
def aI_408_1 : sx_IL := [(10, .lconst 0, 1), (11, .ldc2_w 843, 3), (14, .invokestatic 513, 3), (17, .ifCond .ne 5, 3), (20, .iconst (-1), 1), (21, .ireturn, 1)]
theorem aJ_408_1 : sx_iB prog_14_method_93_code aI_408_1 = true := by decide +kernel
def aI_408_2 : sx_IL := [(22, .iload_n 2, 1), (23, .bipush 8, 2), (25, .if_icmp .ge 17, 3), (28, .aload_n 0, 1), (29, .getfield 45, 3), (32, .bipush 8, 2)]
theorem aJ_408_2 : sx_iB prog_14_method_93_code aI_408_2 = true := by decide +kernel
def aI_408_3 : sx_IL := [(34, .iload_n 1, 1), (35, .imul, 1), (36, .iload_n 2, 1), (37, .iadd, 1), (38, .iaload, 1), (39, .goto 31, 3)]
theorem aJ_408_3 : sx_iB prog_14_method_93_code aI_408_3 = true := by decide +kernel
def aI_408_4 : sx_IL := [(42, .iload_n 2, 1), (43, .bipush 11, 2), (45, .if_icmp .ne 12, 3), (48, .aload_n 0, 1), (49, .getfield 42, 3), (52, .iload_n 1, 1)]
theorem aJ_408_4 : sx_iB prog_14_method_93_code aI_408_4 = true := by decide +kernel
def aI_408_5 : sx_IL := [(53, .iaload, 1), (54, .goto 16, 3), (57, .aload_n 0, 1), (58, .getfield 60, 3), (61, .iconst 3, 1), (62, .iload_n 1, 1)]
theorem aJ_408_5 : sx_iB prog_14_method_93_code aI_408_5 = true := by decide +kernel
def aI_408_6 : sx_IL := [(63, .imul, 1), (64, .iload_n 2, 1), (65, .iadd, 1), (66, .bipush 8, 2), (68, .isub, 1), (69, .iaload, 1)]
theorem aJ_408_6 : sx_iB prog_14_method_93_code aI_408_6 = true := by decide +kernel
def aI_408_7 : sx_IL := [(70, .ireturn, 1)]
theorem aJ_408_7 : sx_iB prog_14_method_93_code aI_408_7 = true := by decide +kernel
def aI_409_0 : sx_IL := [(0, .iload_n 1, 1), (1, .i2l, 1), (2, .lconst 0, 1), (3, .aload_n 0, 1), (4, .getfield 782, 3), (7, .iconst 1, 1)]
theorem aJ_409_0 : sx_iB prog_14_method_92_code aI_409_0 = true := by decide +kernel
def aI_409_1 : sx_IL := [(8, .isub, 1), (9, .i2l, 1), (10, .invokestatic 513, 3), (13, .ireturn, 1)]
theorem aJ_409_1 : sx_iB prog_14_method_92_code aI_409_1 = true := by decide +kernel
def aI_410_0 : sx_IL := [(0, .iload_n 2, 1), (1, .ifCond .eq 61, 3), (4, .iload_n 2, 1), (5, .iconst 1, 1), (6, .if_icmp .eq 56, 3), (9, .iload_n 2, 1)]
theorem aJ_410_0 : sx_iB prog_14_method_94_code aI_410_0 = true := by decide +kernel
def aI_410_1 : sx_IL := [(10, .bipush 11, 2), (12, .if_icmp .eq 50, 3), (15, .iload_n 2, 1), (16, .i2l, 1), (17, .ldc2_w 511, 3), (20, .ldc2_w 845, 3)]
theorem aJ_410_1 : sx_iB prog_14_method_94_code aI_410_1 = true := by decide +kernel
def aI_410_2 : sx_IL := [(23, .invokestatic 513, 3), (26, .ifCond .eq 40, 3), (29, .aload_n 0, 1), (30, .iload_n 1, 1), (31, .invokevirtual 840, 3), (34, .ifCond .eq 32, 3)]
theorem aJ_410_2 : sx_iB prog_14_method_94_code aI_410_2 = true := by decide +kernel
def aI_410_3 : sx_IL := [(37, .iload_n 3, 1), (38, .i2l, 1), (39, .lconst 0, 1), (40, .aload_n 0, 1), (41, .getfield 60, 3), (44, .iconst 3, 1)]
theorem aJ_410_3 : sx_iB prog_14_method_94_code aI_410_3 = true := by decide +kernel
def aI_410_4 : sx_IL := [(45, .iload_n 1, 1), (46, .imul, 1), (47, .iload_n 2, 1), (48, .iadd, 1), (49, .bipush 8, 2), (51, .isub, 1)]
theorem aJ_410_4 : sx_iB prog_14_method_94_code aI_410_4 = true := by decide +kernel
def aI_410_5 : sx_IL := [(52, .iaload, 1), (53, .iconst 1, 1), (54, .isub, 1), (55, .i2l, 1), (56, .invokestatic 513, 3), (59, .ifCond .eq 7, 3)]
theorem aJ_410_5 : sx_iB prog_14_method_94_code aI_410_5 = true := by decide +kernel
def aI_410_6 : sx_IL := [(62, .iconst 1, 1), (63, .goto 4, 3), (66, .iconst 0, 1), (67, .istore 4, 2), (69, .aload_n 0, 1), (70, .iload_n 1, 1)]
theorem aJ_410_6 : sx_iB prog_14_method_94_code aI_410_6 = true := by decide +kernel
def aI_410_7 : sx_IL := [(71, .invokevirtual 840, 3), (74, .ifCond .eq 8, 3), (77, .iload 4, 2), (79, .ifCond .ne 5, 3), (82, .iconst (-1), 1), (83, .ireturn, 1)]
theorem aJ_410_7 : sx_iB prog_14_method_94_code aI_410_7 = true := by decide +kernel
def aI_410_8 : sx_IL := [(84, .iload_n 2, 1), (85, .ifCond .ne 14, 3), (88, .aload_n 0, 1), (89, .getfield 48, 3), (92, .iconst 2, 1), (93, .iload_n 1, 1)]
theorem aJ_410_8 : sx_iB prog_14_method_94_code aI_410_8 = true := by decide +kernel
def aI_410_9 : sx_IL := [(94, .imul, 1), (95, .iaload, 1), (96, .goto 54, 3), (99, .iload_n 2, 1), (100, .iconst 1, 1), (101, .if_icmp .ne 14, 3)]
theorem aJ_410_9 : sx_iB prog_14_method_94_code aI_410_9 = true := by decide +kernel
def aI_410_10 : sx_IL := [(104, .aload_n 0, 1), (105, .getfield 51, 3), (108, .iconst 2, 1), (109, .iload_n 1, 1), (110, .imul, 1), (111, .iaload, 1)]
theorem aJ_410_10 : sx_iB prog_14_method_94_code aI_410_10 = true := by decide +kernel
def aI_410_11 : sx_IL := [(112, .goto 38, 3), (115, .iload_n 2, 1), (116, .bipush 11, 2), (118, .if_icmp .ne 11, 3), (121, .sipush 400, 3), (124, .iload_n 1, 1)]
theorem aJ_410_11 : sx_iB prog_14_method_94_code aI_410_11 = true := by decide +kernel
def aI_410_12 : sx_IL := [(125, .imul, 1), (126, .goto 24, 3), (129, .aload_n 0, 1), (130, .getfield 63, 3), (133, .bipush 24, 2), (135, .iload_n 1, 1)]
theorem aJ_410_12 : sx_iB prog_14_method_94_code aI_410_12 = true := by decide +kernel
def aI_410_13 : sx_IL := [(136, .imul, 1), (137, .bipush 8, 2), (139, .iload_n 2, 1), (140, .bipush 8, 2), (142, .isub, 1), (143, .imul, 1)]
theorem aJ_410_13 : sx_iB prog_14_method_94_code aI_410_13 = true := by decide +kernel
def aI_410_14 : sx_IL := [(144, .iadd, 1), (145, .iconst 2, 1), (146, .iload_n 3, 1), (147, .imul, 1), (148, .iadd, 1), (149, .iaload, 1)]
theorem aJ_410_14 : sx_iB prog_14_method_94_code aI_410_14 = true := by decide +kernel
def aI_410_15 : sx_IL := [(150, .istore 5, 2), (152, .iload_n 2, 1), (153, .ifCond .ne 16, 3), (156, .aload_n 0, 1), (157, .getfield 48, 3), (160, .iconst 2, 1)]
theorem aJ_410_15 : sx_iB prog_14_method_94_code aI_410_15 = true := by decide +kernel
def aI_410_16 : sx_IL := [(161, .iload_n 1, 1), (162, .imul, 1), (163, .iconst 1, 1), (164, .iadd, 1), (165, .iaload, 1), (166, .goto 59, 3)]
theorem aJ_410_16 : sx_iB prog_14_method_94_code aI_410_16 = true := by decide +kernel
def aI_410_17 : sx_IL := [(169, .iload_n 2, 1), (170, .iconst 1, 1), (171, .if_icmp .ne 16, 3), (174, .aload_n 0, 1), (175, .getfield 51, 3), (178, .iconst 2, 1)]
theorem aJ_410_17 : sx_iB prog_14_method_94_code aI_410_17 = true := by decide +kernel
def aI_410_18 : sx_IL := [(179, .iload_n 1, 1), (180, .imul, 1), (181, .iconst 1, 1), (182, .iadd, 1), (183, .iaload, 1), (184, .goto 41, 3)]
theorem aJ_410_18 : sx_iB prog_14_method_94_code aI_410_18 = true := by decide +kernel
def aI_410_19 : sx_IL := [(187, .iload_n 2, 1), (188, .bipush 11, 2), (190, .if_icmp .ne 12, 3), (193, .aload_n 0, 1), (194, .getfield 42, 3), (197, .iload_n 1, 1)]
theorem aJ_410_19 : sx_iB prog_14_method_94_code aI_410_19 = true := by decide +kernel
def aI_410_20 : sx_IL := [(198, .iaload, 1), (199, .goto 26, 3), (202, .aload_n 0, 1), (203, .getfield 63, 3), (206, .bipush 24, 2), (208, .iload_n 1, 1)]
theorem aJ_410_20 : sx_iB prog_14_method_94_code aI_410_20 = true := by decide +kernel
def aI_410_21 : sx_IL := [(209, .imul, 1), (210, .bipush 8, 2), (212, .iload_n 2, 1), (213, .bipush 8, 2), (215, .isub, 1), (216, .imul, 1)]
theorem aJ_410_21 : sx_iB prog_14_method_94_code aI_410_21 = true := by decide +kernel
def aI_410_22 : sx_IL := [(217, .iadd, 1), (218, .iconst 2, 1), (219, .iload_n 3, 1), (220, .imul, 1), (221, .iadd, 1), (222, .iconst 1, 1)]
theorem aJ_410_22 : sx_iB prog_14_method_94_code aI_410_22 = true := by decide +kernel
def aI_410_23 : sx_IL := [(223, .iadd, 1), (224, .iaload, 1), (225, .istore 6, 2), (227, .aload_n 0, 1), (228, .iload 6, 2), (230, .putfield 520, 3)]
theorem aJ_410_23 : sx_iB prog_14_method_94_code aI_410_23 = true := by decide +kernel
def aI_410_24 : sx_IL := [(233, .iconst 0, 1), (234, .istore 7, 2), (236, .iload 7, 2), (238, .iload 6, 2), (240, .if_icmp .ge 26, 3), (243, .aload_n 0, 1)]
theorem aJ_410_24 : sx_iB prog_14_method_94_code aI_410_24 = true := by decide +kernel
def aI_410_25 : sx_IL := [(244, .getfield 13, 3), (247, .iload 7, 2), (249, .aload_n 0, 1), (250, .getfield 39, 3), (253, .iload 5, 2), (255, .iload 7, 2)]
theorem aJ_410_25 : sx_iB prog_14_method_94_code aI_410_25 = true := by decide +kernel
def aI_410_26 : sx_IL := [(257, .iadd, 1), (258, .iaload, 1), (259, .iastore, 1), (260, .iinc 7 1, 3), (263, .goto (-27), 3), (266, .iload 6, 2)]
theorem aJ_410_26 : sx_iB prog_14_method_94_code aI_410_26 = true := by decide +kernel
def aI_410_27 : sx_IL := [(268, .ireturn, 1)]
theorem aJ_410_27 : sx_iB prog_14_method_94_code aI_410_27 = true := by decide +kernel
def aI_411_0 : sx_IL := [(0, .aload_n 0, 1), (1, .iload_n 1, 1), (2, .invokevirtual 840, 3), (5, .ifCond .eq 11, 3), (8, .aload_n 0, 1), (9, .iload_n 2, 1)]
theorem aJ_411_0 : sx_iB prog_14_method_102_code aI_411_0 = true := by decide +kernel
def aI_411_1 : sx_IL := [(10, .invokevirtual 840, 3), (13, .ifCond .ne 5, 3), (16, .iconst (-1), 1), (17, .ireturn, 1), (18, .aload_n 0, 1), (19, .iconst 0, 1)]
theorem aJ_411_1 : sx_iB prog_14_method_102_code aI_411_1 = true := by decide +kernel
def aI_411_2 : sx_IL := [(20, .putfield 855, 3), (23, .aload_n 0, 1), (24, .iload_n 1, 1), (25, .iload_n 2, 1), (26, .iload_n 3, 1), (27, .invokevirtual 863, 3)]
theorem aJ_411_2 : sx_iB prog_14_method_102_code aI_411_2 = true := by decide +kernel
def aI_411_3 : sx_IL := [(30, .ireturn, 1)]
theorem aJ_411_3 : sx_iB prog_14_method_102_code aI_411_3 = true := by decide +kernel
def aI_416_0 : sx_IL := [(0, .aload_n 0, 1), (1, .iload_n 1, 1), (2, .invokevirtual 840, 3), (5, .ifCond .ne 5, 3), (8, .iconst (-1), 1), (9, .ireturn, 1)]
theorem aJ_416_0 : sx_iB prog_14_method_108_code aI_416_0 = true := by decide +kernel
def aI_416_1 : sx_IL := [(10, .aload_n 0, 1), (11, .getfield 891, 3), (14, .bipush 6, 2), (16, .if_icmp .ne 6, 3), (19, .bipush (-3), 2), (21, .ireturn, 1)]
theorem aJ_416_1 : sx_iB prog_14_method_108_code aI_416_1 = true := by decide +kernel
def aI_416_2 : sx_IL := [(22, .aload_n 0, 1), (23, .getfield 90, 3), (26, .aload_n 0, 1), (27, .getfield 891, 3), (30, .iload_n 1, 1), (31, .iastore, 1)]
theorem aJ_416_2 : sx_iB prog_14_method_108_code aI_416_2 = true := by decide +kernel
def aI_416_3 : sx_IL := [(32, .aload_n 0, 1), (33, .dup, 1), (34, .getfield 891, 3), (37, .iconst 1, 1), (38, .iadd, 1), (39, .putfield 891, 3)]
theorem aJ_416_3 : sx_iB prog_14_method_108_code aI_416_3 = true := by decide +kernel
def aI_416_4 : sx_IL := [(42, .aload_n 0, 1), (43, .getfield 891, 3), (46, .ireturn, 1)]
theorem aJ_416_4 : sx_iB prog_14_method_108_code aI_416_4 = true := by decide +kernel
def aI_417_0 : sx_IL := [(0, .iload_n 1, 1), (1, .iconst (-1), 1), (2, .if_icmp .ne 10, 3), (5, .aload_n 0, 1), (6, .getfield 891, 3), (9, .goto 29, 3)]
theorem aJ_417_0 : sx_iB prog_14_method_109_code aI_417_0 = true := by decide +kernel
def aI_417_1 : sx_IL := [(12, .iload_n 1, 1), (13, .i2l, 1), (14, .lconst 0, 1), (15, .aload_n 0, 1), (16, .getfield 891, 3), (19, .iconst 1, 1)]
theorem aJ_417_1 : sx_iB prog_14_method_109_code aI_417_1 = true := by decide +kernel
def aI_417_2 : sx_IL := [(20, .isub, 1), (21, .i2l, 1), (22, .invokestatic 513, 3), (25, .ifCond .eq 12, 3), (28, .aload_n 0, 1), (29, .getfield 90, 3)]
theorem aJ_417_2 : sx_iB prog_14_method_109_code aI_417_2 = true := by decide +kernel
def aI_417_3 : sx_IL := [(32, .iload_n 1, 1), (33, .iaload, 1), (34, .goto 4, 3), (37, .iconst (-1), 1), (38, .ireturn, 1)]
theorem aJ_417_3 : sx_iB prog_14_method_109_code aI_417_3 = true := by decide +kernel
def aI_418_0 : sx_IL := [(0, .aload_n 0, 1), (1, .iload_n 1, 1), (2, .invokevirtual 894, 3), (5, .ifCond .eq 22, 3), (8, .iload_n 3, 1), (9, .i2l, 1)]
theorem aJ_418_0 : sx_iB prog_14_method_110_code aI_418_0 = true := by decide +kernel
def aI_418_1 : sx_IL := [(10, .lconst 0, 1), (11, .ldc2_w 631, 3), (14, .invokestatic 513, 3), (17, .ifCond .eq 10, 3), (20, .aload_n 0, 1), (21, .getfield 891, 3)]
theorem aJ_418_1 : sx_iB prog_14_method_110_code aI_418_1 = true := by decide +kernel
def aI_418_2 : sx_IL := [(24, .ifCond .ne 5, 3), (27, .iconst (-1), 1), (28, .ireturn, 1), (29, .aload_n 0, 1), (30, .aload_n 0, 1), (31, .getfield 891, 3)]
theorem aJ_418_2 : sx_iB prog_14_method_110_code aI_418_2 = true := by decide +kernel
def aI_418_3 : sx_IL := [(34, .putfield 881, 3), (37, .iconst 0, 1), (38, .istore 4, 2), (40, .iload 4, 2), (42, .aload_n 0, 1), (43, .getfield 891, 3)]
theorem aJ_418_3 : sx_iB prog_14_method_110_code aI_418_3 = true := by decide +kernel
def aI_418_4 : sx_IL := [(46, .if_icmp .ge 23, 3), (49, .aload_n 0, 1), (50, .getfield 87, 3), (53, .iload 4, 2), (55, .aload_n 0, 1), (56, .getfield 90, 3)]
theorem aJ_418_4 : sx_iB prog_14_method_110_code aI_418_4 = true := by decide +kernel
def aI_418_5 : sx_IL := [(59, .iload 4, 2), (61, .iaload, 1), (62, .iastore, 1), (63, .iinc 4 1, 3), (66, .goto (-26), 3), (69, .aload_n 0, 1)]
theorem aJ_418_5 : sx_iB prog_14_method_110_code aI_418_5 = true := by decide +kernel
def aI_418_6 : sx_IL := [(70, .iconst 0, 1), (71, .putfield 891, 3), (74, .aload_n 0, 1), (75, .iconst 0, 1), (76, .putfield 855, 3), (79, .aload_n 0, 1)]
theorem aJ_418_6 : sx_iB prog_14_method_110_code aI_418_6 = true := by decide +kernel
def aI_418_7 : sx_IL := [(80, .invokevirtual 897, 3), (83, .ifCond .eq 49, 3), (86, .aload_n 0, 1), (87, .iload_n 1, 1), (88, .aload_n 0, 1), (89, .getfield 87, 3)]
theorem aJ_418_7 : sx_iB prog_14_method_110_code aI_418_7 = true := by decide +kernel
def aI_418_8 : sx_IL := [(92, .aload_n 0, 1), (93, .getfield 881, 3), (96, .iconst 1, 1), (97, .isub, 1), (98, .iaload, 1), (99, .invokevirtual 901, 3)]
theorem aJ_418_8 : sx_iB prog_14_method_110_code aI_418_8 = true := by decide +kernel
def aI_418_9 : sx_IL := [(102, .ifCond .eq 30, 3), (105, .aload_n 0, 1), (106, .iload_n 2, 1), (107, .iload_n 3, 1), (108, .aload_n 0, 1), (109, .getfield 102, 3)]
theorem aJ_418_9 : sx_iB prog_14_method_110_code aI_418_9 = true := by decide +kernel
def aI_418_10 : sx_IL := [(112, .bipush 8, 2), (114, .iload_n 1, 1), (115, .imul, 1), (116, .iaload, 1), (117, .iconst 1, 1), (118, .if_icmp .ne 7, 3)]
theorem aJ_418_10 : sx_iB prog_14_method_110_code aI_418_10 = true := by decide +kernel
def aI_418_11 : sx_IL := [(121, .iconst 1, 1), (122, .goto 4, 3), (125, .iconst 0, 1), (126, .invokevirtual 904, 3), (129, .goto 5, 3), (132, .bipush (-5), 2)]
theorem aJ_418_11 : sx_iB prog_14_method_110_code aI_418_11 = true := by decide +kernel
def aI_418_12 : sx_IL := [(134, .ireturn, 1)]
theorem aJ_418_12 : sx_iB prog_14_method_110_code aI_418_12 = true := by decide +kernel
