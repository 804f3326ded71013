/-! instructions -/
def aI_0_0 : sx_IL := [(0, .aload_n 0, 1), (1, .invokespecial 1, 3), (4, .aload_n 0, 1), (5, .new 7, 3), (8, .dup, 1), (9, .invokespecial 9, 3)]
theorem aJ_0_0 : sx_iB prog_1_method_1_code aI_0_0 = true := by decide +kernel
def aI_0_1 : sx_IL := [(12, .putfield 10, 3), (15, .aload_n 0, 1), (16, .new 16, 3), (19, .dup, 1), (20, .bipush 64, 2), (22, .invokespecial 18, 3)]
theorem aJ_0_1 : sx_iB prog_1_method_1_code aI_0_1 = true := by decide +kernel
def aI_0_2 : sx_IL := [(25, .putfield 21, 3), (28, .aload_n 0, 1), (29, .new 16, 3), (32, .dup, 1), (33, .bipush 64, 2), (35, .invokespecial 18, 3)]
theorem aJ_0_2 : sx_iB prog_1_method_1_code aI_0_2 = true := by decide +kernel
def aI_0_3 : sx_IL := [(38, .putfield 25, 3), (41, .aload_n 0, 1), (42, .bipush 6, 2), (44, .newarray .int, 2), (46, .putfield 28, 3), (49, .aload_n 0, 1)]
theorem aJ_0_3 : sx_iB prog_1_method_1_code aI_0_3 = true := by decide +kernel
def aI_0_4 : sx_IL := [(50, .bipush 8, 2), (52, .anewarray 32, 3), (55, .putfield 34, 3), (58, .aload_n 0, 1), (59, .bipush 24, 2), (61, .anewarray 38, 3)]
theorem aJ_0_4 : sx_iB prog_1_method_1_code aI_0_4 = true := by decide +kernel
def aI_0_5 : sx_IL := [(64, .putfield 40, 3), (67, .aload_n 0, 1), (68, .iconst 4, 1), (69, .anewarray 44, 3), (72, .putfield 46, 3), (75, .aload_n 0, 1)]
theorem aJ_0_5 : sx_iB prog_1_method_1_code aI_0_5 = true := by decide +kernel
def aI_0_6 : sx_IL := [(76, .bipush 16, 2), (78, .anewarray 16, 3), (81, .putfield 50, 3), (84, .aload_n 0, 1), (85, .bipush 16, 2), (87, .newarray .long, 2)]
theorem aJ_0_6 : sx_iB prog_1_method_1_code aI_0_6 = true := by decide +kernel
def aI_0_7 : sx_IL := [(89, .putfield 54, 3), (92, .aload_n 0, 1), (93, .iconst 4, 1), (94, .bipush 64, 2), (96, .multianewarray 58 2, 4), (100, .putfield 60, 3)]
theorem aJ_0_7 : sx_iB prog_1_method_1_code aI_0_7 = true := by decide +kernel
def aI_0_8 : sx_IL := [(103, .aload_n 0, 1), (104, .iconst 4, 1), (105, .newarray .int, 2), (107, .putfield 63, 3), (110, .aload_n 0, 1), (111, .bipush 16, 2)]
theorem aJ_0_8 : sx_iB prog_1_method_1_code aI_0_8 = true := by decide +kernel
def aI_0_9 : sx_IL := [(113, .newarray .long, 2), (115, .putfield 66, 3), (118, .return_, 1)]
theorem aJ_0_9 : sx_iB prog_1_method_1_code aI_0_9 = true := by decide +kernel
def aS_0 (pc : Nat) : sx_IL := (if pc < 64 then (if pc < 25 then (if pc < 12 then aI_0_0 else aI_0_1) else (if pc < 38 then aI_0_2 else (if pc < 50 then aI_0_3 else aI_0_4))) else (if pc < 89 then (if pc < 76 then aI_0_5 else aI_0_6) else (if pc < 103 then aI_0_7 else (if pc < 113 then aI_0_8 else aI_0_9))))
theorem aT_0 (pc : Nat) : sx_iOk prog_1_method_1_code (aS_0 pc) := (sx_ite (p := fun l => sx_iOk prog_1_method_1_code l) (sx_ite (p := fun l => sx_iOk prog_1_method_1_code l) (sx_ite (p := fun l => sx_iOk prog_1_method_1_code l) (sx_iB_s aJ_0_0) (sx_iB_s aJ_0_1)) (sx_ite (p := fun l => sx_iOk prog_1_method_1_code l) (sx_iB_s aJ_0_2) (sx_ite (p := fun l => sx_iOk prog_1_method_1_code l) (sx_iB_s aJ_0_3) (sx_iB_s aJ_0_4)))) (sx_ite (p := fun l => sx_iOk prog_1_method_1_code l) (sx_ite (p := fun l => sx_iOk prog_1_method_1_code l) (sx_iB_s aJ_0_5) (sx_iB_s aJ_0_6)) (sx_ite (p := fun l => sx_iOk prog_1_method_1_code l) (sx_iB_s aJ_0_7) (sx_ite (p := fun l => sx_iOk prog_1_method_1_code l) (sx_iB_s aJ_0_8) (sx_iB_s aJ_0_9)))))
def aW_0 : Nat → Option (Instr × Nat) := fun pc => sx_iF (aS_0 pc) pc
theorem aX_0 : ∀ pc i len, aW_0 pc = some (i, len) → decode aM_0.1.2.1 pc = .ok (i, len) := fun pc i len h => sx_iF_s (aT_0 pc) h
def aI_1_0 : sx_IL := [(0, .aload_n 0, 1), (1, .invokespecial 3, 3), (4, .aload_n 0, 1), (5, .new 9, 3), (8, .dup, 1), (9, .invokespecial 11, 3)]
theorem aJ_1_0 : sx_iB prog_5_method_1_code aI_1_0 = true := by decide +kernel
def aI_1_1 : sx_IL := [(12, .putfield 12, 3), (15, .aload_n 0, 1), (16, .new 18, 3), (19, .dup, 1), (20, .sipush 512, 3), (23, .invokespecial 20, 3)]
theorem aJ_1_1 : sx_iB prog_5_method_1_code aI_1_1 = true := by decide +kernel
def aI_1_2 : sx_IL := [(26, .putfield 23, 3), (29, .aload_n 0, 1), (30, .new 18, 3), (33, .dup, 1), (34, .sipush 256, 3), (37, .invokespecial 20, 3)]
theorem aJ_1_2 : sx_iB prog_5_method_1_code aI_1_2 = true := by decide +kernel
def aI_1_3 : sx_IL := [(40, .putfield 27, 3), (43, .aload_n 0, 1), (44, .new 18, 3), (47, .dup, 1), (48, .bipush 8, 2), (50, .invokespecial 20, 3)]
theorem aJ_1_3 : sx_iB prog_5_method_1_code aI_1_3 = true := by decide +kernel
def aI_1_4 : sx_IL := [(53, .putfield 30, 3), (56, .aload_n 0, 1), (57, .bipush 10, 2), (59, .newarray .int, 2), (61, .putfield 33, 3), (64, .aload_n 0, 1)]
theorem aJ_1_4 : sx_iB prog_5_method_1_code aI_1_4 = true := by decide +kernel
def aI_1_5 : sx_IL := [(65, .new 37, 3), (68, .dup, 1), (69, .invokespecial 39, 3), (72, .putfield 40, 3), (75, .aload_n 0, 1), (76, .new 37, 3)]
theorem aJ_1_5 : sx_iB prog_5_method_1_code aI_1_5 = true := by decide +kernel
def aI_1_6 : sx_IL := [(79, .dup, 1), (80, .invokespecial 39, 3), (83, .putfield 44, 3), (86, .aload_n 0, 1), (87, .bipush 30, 2), (89, .anewarray 47, 3)]
theorem aJ_1_6 : sx_iB prog_5_method_1_code aI_1_6 = true := by decide +kernel
def aI_1_7 : sx_IL := [(92, .putfield 49, 3), (95, .aload_n 0, 1), (96, .bipush 12, 2), (98, .anewarray 47, 3), (101, .putfield 53, 3), (104, .aload_n 0, 1)]
theorem aJ_1_7 : sx_iB prog_5_method_1_code aI_1_7 = true := by decide +kernel
def aI_1_8 : sx_IL := [(105, .bipush 12, 2), (107, .anewarray 47, 3), (110, .putfield 56, 3), (113, .aload_n 0, 1), (114, .new 47, 3), (117, .dup, 1)]
theorem aJ_1_8 : sx_iB prog_5_method_1_code aI_1_8 = true := by decide +kernel
def aI_1_9 : sx_IL := [(118, .sipush 400, 3), (121, .invokespecial 59, 3), (124, .putfield 60, 3), (127, .aload_n 0, 1), (128, .iconst 4, 1), (129, .anewarray 47, 3)]
theorem aJ_1_9 : sx_iB prog_5_method_1_code aI_1_9 = true := by decide +kernel
def aI_1_10 : sx_IL := [(132, .putfield 64, 3), (135, .aload_n 0, 1), (136, .new 47, 3), (139, .dup, 1), (140, .sipush 400, 3), (143, .invokespecial 59, 3)]
theorem aJ_1_10 : sx_iB prog_5_method_1_code aI_1_10 = true := by decide +kernel
def aI_1_11 : sx_IL := [(146, .putfield 67, 3), (149, .aload_n 0, 1), (150, .bipush 6, 2), (152, .anewarray 47, 3), (155, .putfield 70, 3), (158, .iconst 0, 1)]
theorem aJ_1_11 : sx_iB prog_5_method_1_code aI_1_11 = true := by decide +kernel
def aI_1_12 : sx_IL := [(159, .istore_n 1, 1), (160, .iload_n 1, 1), (161, .aload_n 0, 1), (162, .getfield 64, 3), (165, .arraylength, 1), (166, .if_icmp .ge 25, 3)]
theorem aJ_1_12 : sx_iB prog_5_method_1_code aI_1_12 = true := by decide +kernel
def aI_1_13 : sx_IL := [(169, .aload_n 0, 1), (170, .getfield 64, 3), (173, .iload_n 1, 1), (174, .new 47, 3), (177, .dup, 1), (178, .sipush 400, 3)]
theorem aJ_1_13 : sx_iB prog_5_method_1_code aI_1_13 = true := by decide +kernel
def aI_1_14 : sx_IL := [(181, .invokespecial 59, 3), (184, .aastore, 1), (185, .iinc 1 1, 3), (188, .goto (-28), 3), (191, .return_, 1)]
theorem aJ_1_14 : sx_iB prog_5_method_1_code aI_1_14 = true := by decide +kernel
def aS_1 (pc : Nat) : sx_IL := (if pc < 92 then (if pc < 40 then (if pc < 12 then aI_1_0 else (if pc < 26 then aI_1_1 else aI_1_2)) else (if pc < 65 then (if pc < 53 then aI_1_3 else aI_1_4) else (if pc < 79 then aI_1_5 else aI_1_6))) else (if pc < 146 then (if pc < 118 then (if pc < 105 then aI_1_7 else aI_1_8) else (if pc < 132 then aI_1_9 else aI_1_10)) else (if pc < 169 then (if pc < 159 then aI_1_11 else aI_1_12) else (if pc < 181 then aI_1_13 else aI_1_14))))
theorem aT_1 (pc : Nat) : sx_iOk prog_5_method_1_code (aS_1 pc) := (sx_ite (p := fun l => sx_iOk prog_5_method_1_code l) (sx_ite (p := fun l => sx_iOk prog_5_method_1_code l) (sx_ite (p := fun l => sx_iOk prog_5_method_1_code l) (sx_iB_s aJ_1_0) (sx_ite (p := fun l => sx_iOk prog_5_method_1_code l) (sx_iB_s aJ_1_1) (sx_iB_s aJ_1_2))) (sx_ite (p := fun l => sx_iOk prog_5_method_1_code l) (sx_ite (p := fun l => sx_iOk prog_5_method_1_code l) (sx_iB_s aJ_1_3) (sx_iB_s aJ_1_4)) (sx_ite (p := fun l => sx_iOk prog_5_method_1_code l) (sx_iB_s aJ_1_5) (sx_iB_s aJ_1_6)))) (sx_ite (p := fun l => sx_iOk prog_5_method_1_code l) (sx_ite (p := fun l => sx_iOk prog_5_method_1_code l) (sx_ite (p := fun l => sx_iOk prog_5_method_1_code l) (sx_iB_s aJ_1_7) (sx_iB_s aJ_1_8)) (sx_ite (p := fun l => sx_iOk prog_5_method_1_code l) (sx_iB_s aJ_1_9) (sx_iB_s aJ_1_10))) (sx_ite (p := fun l => sx_iOk prog_5_method_1_code l) (sx_ite (p := fun l => sx_iOk prog_5_method_1_code l) (sx_iB_s aJ_1_11) (sx_iB_s aJ_1_12)) (sx_ite (p := fun l => sx_iOk prog_5_method_1_code l) (sx_iB_s aJ_1_13) (sx_iB_s aJ_1_14)))))
def aW_1 : Nat → Option (Instr × Nat) := fun pc => sx_iF (aS_1 pc) pc
theorem aX_1 : ∀ pc i len, aW_1 pc = some (i, len) → decode aM_1.1.2.1 pc = .ok (i, len) := fun pc i len h => sx_iF_s (aT_1 pc) h
def aI_4_0 : sx_IL := [(0, .aload_n 0, 1), (1, .invokespecial 1, 3), (4, .aload_n 0, 1), (5, .iconst 0, 1), (6, .newarray .int, 2), (8, .putfield 7, 3)]
theorem aJ_4_0 : sx_iB prog_4_method_1_code aI_4_0 = true := by decide +kernel
def aI_4_1 : sx_IL := [(11, .aload_n 0, 1), (12, .bipush 11, 2), (14, .newarray .int, 2), (16, .putfield 13, 3), (19, .aload_n 0, 1), (20, .bipush 11, 2)]
theorem aJ_4_1 : sx_iB prog_4_method_1_code aI_4_1 = true := by decide +kernel
def aI_4_2 : sx_IL := [(22, .newarray .int, 2), (24, .putfield 16, 3), (27, .return_, 1)]
theorem aJ_4_2 : sx_iB prog_4_method_1_code aI_4_2 = true := by decide +kernel
def aS_4 (pc : Nat) : sx_IL := (if pc < 11 then aI_4_0 else (if pc < 22 then aI_4_1 else aI_4_2))
theorem aT_4 (pc : Nat) : sx_iOk prog_4_method_1_code (aS_4 pc) := (sx_ite (p := fun l => sx_iOk prog_4_method_1_code l) (sx_iB_s aJ_4_0) (sx_ite (p := fun l => sx_iOk prog_4_method_1_code l) (sx_iB_s aJ_4_1) (sx_iB_s aJ_4_2)))
def aW_4 : Nat → Option (Instr × Nat) := fun pc => sx_iF (aS_4 pc) pc
theorem aX_4 : ∀ pc i len, aW_4 pc = some (i, len) → decode aM_4.1.2.1 pc = .ok (i, len) := fun pc i len h => sx_iF_s (aT_4 pc) h
def aI_319_0 : sx_IL := [(0, .aload_n 0, 1), (1, .invokespecial 1, 3), (4, .aload_n 0, 1), (5, .sipush 800, 3), (8, .newarray .int, 2), (10, .putfield 7, 3)]
theorem aJ_319_0 : sx_iB prog_14_method_1_code aI_319_0 = true := by decide +kernel
def aI_319_1 : sx_IL := [(13, .aload_n 0, 1), (14, .sipush 820, 3), (17, .newarray .int, 2), (19, .putfield 13, 3), (22, .aload_n 0, 1), (23, .iconst 4, 1)]
theorem aJ_319_1 : sx_iB prog_14_method_1_code aI_319_1 = true := by decide +kernel
def aI_319_2 : sx_IL := [(24, .newarray .int, 2), (26, .putfield 16, 3), (29, .aload_n 0, 1), (30, .sipush 256, 3), (33, .newarray .long, 2), (35, .putfield 19, 3)]
theorem aJ_319_2 : sx_iB prog_14_method_1_code aI_319_2 = true := by decide +kernel
def aI_319_3 : sx_IL := [(38, .aload_n 0, 1), (39, .bipush 64, 2), (41, .newarray .long, 2), (43, .putfield 23, 3), (46, .aload_n 0, 1), (47, .bipush 64, 2)]
theorem aJ_319_3 : sx_iB prog_14_method_1_code aI_319_3 = true := by decide +kernel
def aI_319_4 : sx_IL := [(49, .newarray .int, 2), (51, .putfield 26, 3), (54, .aload_n 0, 1), (55, .bipush 16, 2), (57, .newarray .long, 2), (59, .putfield 29, 3)]
theorem aJ_319_4 : sx_iB prog_14_method_1_code aI_319_4 = true := by decide +kernel
def aI_319_5 : sx_IL := [(62, .aload_n 0, 1), (63, .bipush 16, 2), (65, .newarray .boolean, 2), (67, .putfield 32, 3), (70, .aload_n 0, 1), (71, .bipush 12, 2)]
theorem aJ_319_5 : sx_iB prog_14_method_1_code aI_319_5 = true := by decide +kernel
def aI_319_6 : sx_IL := [(73, .newarray .int, 2), (75, .putfield 36, 3), (78, .aload_n 0, 1), (79, .sipush 14400, 3), (82, .newarray .int, 2), (84, .putfield 39, 3)]
theorem aJ_319_6 : sx_iB prog_14_method_1_code aI_319_6 = true := by decide +kernel
def aI_319_7 : sx_IL := [(87, .aload_n 0, 1), (88, .bipush 36, 2), (90, .newarray .int, 2), (92, .putfield 42, 3), (95, .aload_n 0, 1), (96, .sipush 288, 3)]
theorem aJ_319_7 : sx_iB prog_14_method_1_code aI_319_7 = true := by decide +kernel
def aI_319_8 : sx_IL := [(99, .newarray .int, 2), (101, .putfield 45, 3), (104, .aload_n 0, 1), (105, .bipush 72, 2), (107, .newarray .int, 2), (109, .putfield 48, 3)]
theorem aJ_319_8 : sx_iB prog_14_method_1_code aI_319_8 = true := by decide +kernel
def aI_319_9 : sx_IL := [(112, .aload_n 0, 1), (113, .bipush 72, 2), (115, .newarray .int, 2), (117, .putfield 51, 3), (120, .aload_n 0, 1), (121, .bipush 72, 2)]
theorem aJ_319_9 : sx_iB prog_14_method_1_code aI_319_9 = true := by decide +kernel
def aI_319_10 : sx_IL := [(123, .newarray .int, 2), (125, .putfield 54, 3), (128, .aload_n 0, 1), (129, .bipush 36, 2), (131, .newarray .int, 2), (133, .putfield 57, 3)]
theorem aJ_319_10 : sx_iB prog_14_method_1_code aI_319_10 = true := by decide +kernel
def aI_319_11 : sx_IL := [(136, .aload_n 0, 1), (137, .bipush 108, 2), (139, .newarray .int, 2), (141, .putfield 60, 3), (144, .aload_n 0, 1), (145, .sipush 864, 3)]
theorem aJ_319_11 : sx_iB prog_14_method_1_code aI_319_11 = true := by decide +kernel
def aI_319_12 : sx_IL := [(148, .newarray .int, 2), (150, .putfield 63, 3), (153, .aload_n 0, 1), (154, .sipush 5600, 3), (157, .newarray .int, 2), (159, .putfield 66, 3)]
theorem aJ_319_12 : sx_iB prog_14_method_1_code aI_319_12 = true := by decide +kernel
def aI_319_13 : sx_IL := [(162, .aload_n 0, 1), (163, .bipush 14, 2), (165, .newarray .int, 2), (167, .putfield 69, 3), (170, .aload_n 0, 1), (171, .bipush 112, 2)]
theorem aJ_319_13 : sx_iB prog_14_method_1_code aI_319_13 = true := by decide +kernel
def aI_319_14 : sx_IL := [(173, .newarray .int, 2), (175, .putfield 72, 3), (178, .aload_n 0, 1), (179, .sipush 5600, 3), (182, .newarray .int, 2), (184, .putfield 75, 3)]
theorem aJ_319_14 : sx_iB prog_14_method_1_code aI_319_14 = true := by decide +kernel
def aI_319_15 : sx_IL := [(187, .aload_n 0, 1), (188, .bipush 14, 2), (190, .newarray .int, 2), (192, .putfield 78, 3), (195, .aload_n 0, 1), (196, .bipush 112, 2)]
theorem aJ_319_15 : sx_iB prog_14_method_1_code aI_319_15 = true := by decide +kernel
def aI_319_16 : sx_IL := [(198, .newarray .int, 2), (200, .putfield 81, 3), (203, .aload_n 0, 1), (204, .sipush 2000, 3), (207, .newarray .int, 2), (209, .putfield 84, 3)]
theorem aJ_319_16 : sx_iB prog_14_method_1_code aI_319_16 = true := by decide +kernel
def aI_319_17 : sx_IL := [(212, .aload_n 0, 1), (213, .bipush 8, 2), (215, .newarray .int, 2), (217, .putfield 87, 3), (220, .aload_n 0, 1), (221, .bipush 6, 2)]
theorem aJ_319_17 : sx_iB prog_14_method_1_code aI_319_17 = true := by decide +kernel
def aI_319_18 : sx_IL := [(223, .newarray .int, 2), (225, .putfield 90, 3), (228, .aload_n 0, 1), (229, .bipush 8, 2), (231, .newarray .int, 2), (233, .putfield 93, 3)]
theorem aJ_319_18 : sx_iB prog_14_method_1_code aI_319_18 = true := by decide +kernel
def aI_319_19 : sx_IL := [(236, .aload_n 0, 1), (237, .bipush 96, 2), (239, .newarray .int, 2), (241, .putfield 96, 3), (244, .aload_n 0, 1), (245, .bipush 24, 2)]
theorem aJ_319_19 : sx_iB prog_14_method_1_code aI_319_19 = true := by decide +kernel
def aI_319_20 : sx_IL := [(247, .newarray .int, 2), (249, .putfield 99, 3), (252, .aload_n 0, 1), (253, .bipush 64, 2), (255, .newarray .int, 2), (257, .putfield 102, 3)]
theorem aJ_319_20 : sx_iB prog_14_method_1_code aI_319_20 = true := by decide +kernel
def aI_319_21 : sx_IL := [(260, .aload_n 0, 1), (261, .sipush 1600, 3), (264, .newarray .int, 2), (266, .putfield 105, 3), (269, .aload_n 0, 1), (270, .bipush 8, 2)]
theorem aJ_319_21 : sx_iB prog_14_method_1_code aI_319_21 = true := by decide +kernel
def aI_319_22 : sx_IL := [(272, .newarray .int, 2), (274, .putfield 108, 3), (277, .aload_n 0, 1), (278, .sipush 240, 3), (281, .newarray .int, 2), (283, .putfield 111, 3)]
theorem aJ_319_22 : sx_iB prog_14_method_1_code aI_319_22 = true := by decide +kernel
def aI_319_23 : sx_IL := [(286, .aload_n 0, 1), (287, .bipush 8, 2), (289, .newarray .int, 2), (291, .putfield 114, 3), (294, .aload_n 0, 1), (295, .bipush 32, 2)]
theorem aJ_319_23 : sx_iB prog_14_method_1_code aI_319_23 = true := by decide +kernel
def aI_319_24 : sx_IL := [(297, .newarray .int, 2), (299, .putfield 117, 3), (302, .aload_n 0, 1), (303, .bipush 8, 2), (305, .newarray .int, 2), (307, .putfield 120, 3)]
theorem aJ_319_24 : sx_iB prog_14_method_1_code aI_319_24 = true := by decide +kernel
def aI_319_25 : sx_IL := [(310, .aload_n 0, 1), (311, .bipush 8, 2), (313, .newarray .int, 2), (315, .putfield 123, 3), (318, .aload_n 0, 1), (319, .sipush 320, 3)]
theorem aJ_319_25 : sx_iB prog_14_method_1_code aI_319_25 = true := by decide +kernel
def aI_319_26 : sx_IL := [(322, .newarray .int, 2), (324, .putfield 126, 3), (327, .aload_n 0, 1), (328, .bipush 8, 2), (330, .newarray .int, 2), (332, .putfield 129, 3)]
theorem aJ_319_26 : sx_iB prog_14_method_1_code aI_319_26 = true := by decide +kernel
def aI_319_27 : sx_IL := [(335, .aload_n 0, 1), (336, .bipush 8, 2), (338, .newarray .int, 2), (340, .putfield 132, 3), (343, .aload_n 0, 1), (344, .sipush 768, 3)]
theorem aJ_319_27 : sx_iB prog_14_method_1_code aI_319_27 = true := by decide +kernel
def aI_319_28 : sx_IL := [(347, .newarray .int, 2), (349, .putfield 135, 3), (352, .aload_n 0, 1), (353, .bipush 48, 2), (355, .newarray .int, 2), (357, .putfield 138, 3)]
theorem aJ_319_28 : sx_iB prog_14_method_1_code aI_319_28 = true := by decide +kernel
def aI_319_29 : sx_IL := [(360, .aload_n 0, 1), (361, .bipush 48, 2), (363, .newarray .long, 2), (365, .putfield 141, 3), (368, .aload_n 0, 1), (369, .bipush 48, 2)]
theorem aJ_319_29 : sx_iB prog_14_method_1_code aI_319_29 = true := by decide +kernel
def aI_319_30 : sx_IL := [(371, .newarray .int, 2), (373, .putfield 144, 3), (376, .aload_n 0, 1), (377, .bipush 48, 2), (379, .newarray .boolean, 2), (381, .putfield 147, 3)]
theorem aJ_319_30 : sx_iB prog_14_method_1_code aI_319_30 = true := by decide +kernel
def aI_319_31 : sx_IL := [(384, .aload_n 0, 1), (385, .sipush 240, 3), (388, .newarray .int, 2), (390, .putfield 150, 3), (393, .aload_n 0, 1), (394, .sipush 3200, 3)]
theorem aJ_319_31 : sx_iB prog_14_method_1_code aI_319_31 = true := by decide +kernel
def aI_319_32 : sx_IL := [(397, .newarray .int, 2), (399, .putfield 153, 3), (402, .aload_n 0, 1), (403, .bipush 8, 2), (405, .newarray .int, 2), (407, .putfield 156, 3)]
theorem aJ_319_32 : sx_iB prog_14_method_1_code aI_319_32 = true := by decide +kernel
def aI_319_33 : sx_IL := [(410, .aload_n 0, 1), (411, .bipush 8, 2), (413, .newarray .long, 2), (415, .putfield 159, 3), (418, .aload_n 0, 1), (419, .bipush 8, 2)]
theorem aJ_319_33 : sx_iB prog_14_method_1_code aI_319_33 = true := by decide +kernel
def aI_319_34 : sx_IL := [(421, .newarray .boolean, 2), (423, .putfield 162, 3), (426, .aload_n 0, 1), (427, .bipush 8, 2), (429, .newarray .int, 2), (431, .putfield 165, 3)]
theorem aJ_319_34 : sx_iB prog_14_method_1_code aI_319_34 = true := by decide +kernel
def aI_319_35 : sx_IL := [(434, .aload_n 0, 1), (435, .bipush 8, 2), (437, .newarray .int, 2), (439, .putfield 168, 3), (442, .aload_n 0, 1), (443, .sipush 160, 3)]
theorem aJ_319_35 : sx_iB prog_14_method_1_code aI_319_35 = true := by decide +kernel
def aI_319_36 : sx_IL := [(446, .newarray .long, 2), (448, .putfield 171, 3), (451, .aload_n 0, 1), (452, .sipush 160, 3), (455, .newarray .long, 2), (457, .putfield 174, 3)]
theorem aJ_319_36 : sx_iB prog_14_method_1_code aI_319_36 = true := by decide +kernel
def aI_319_37 : sx_IL := [(460, .aload_n 0, 1), (461, .sipush 160, 3), (464, .newarray .int, 2), (466, .putfield 177, 3), (469, .aload_n 0, 1), (470, .sipush 160, 3)]
theorem aJ_319_37 : sx_iB prog_14_method_1_code aI_319_37 = true := by decide +kernel
def aI_319_38 : sx_IL := [(473, .newarray .int, 2), (475, .putfield 180, 3), (478, .aload_n 0, 1), (479, .sipush 160, 3), (482, .newarray .int, 2), (484, .putfield 183, 3)]
theorem aJ_319_38 : sx_iB prog_14_method_1_code aI_319_38 = true := by decide +kernel
def aI_319_39 : sx_IL := [(487, .aload_n 0, 1), (488, .sipush 160, 3), (491, .newarray .boolean, 2), (493, .putfield 186, 3), (496, .aload_n 0, 1), (497, .iconst 4, 1)]
theorem aJ_319_39 : sx_iB prog_14_method_1_code aI_319_39 = true := by decide +kernel
def aI_319_40 : sx_IL := [(498, .newarray .int, 2), (500, .putfield 189, 3), (503, .aload_n 0, 1), (504, .iconst 4, 1), (505, .newarray .int, 2), (507, .putfield 192, 3)]
theorem aJ_319_40 : sx_iB prog_14_method_1_code aI_319_40 = true := by decide +kernel
def aI_319_41 : sx_IL := [(510, .aload_n 0, 1), (511, .iconst 4, 1), (512, .newarray .int, 2), (514, .putfield 195, 3), (517, .aload_n 0, 1), (518, .iconst 4, 1)]
theorem aJ_319_41 : sx_iB prog_14_method_1_code aI_319_41 = true := by decide +kernel
def aI_319_42 : sx_IL := [(519, .newarray .int, 2), (521, .putfield 198, 3), (524, .aload_n 0, 1), (525, .iconst 4, 1), (526, .newarray .int, 2), (528, .putfield 201, 3)]
theorem aJ_319_42 : sx_iB prog_14_method_1_code aI_319_42 = true := by decide +kernel
def aI_319_43 : sx_IL := [(531, .aload_n 0, 1), (532, .iconst 4, 1), (533, .newarray .int, 2), (535, .putfield 204, 3), (538, .aload_n 0, 1), (539, .iconst 4, 1)]
theorem aJ_319_43 : sx_iB prog_14_method_1_code aI_319_43 = true := by decide +kernel
def aI_319_44 : sx_IL := [(540, .newarray .int, 2), (542, .putfield 207, 3), (545, .aload_n 0, 1), (546, .bipush 32, 2), (548, .newarray .long, 2), (550, .putfield 210, 3)]
theorem aJ_319_44 : sx_iB prog_14_method_1_code aI_319_44 = true := by decide +kernel
def aI_319_45 : sx_IL := [(553, .aload_n 0, 1), (554, .iconst 4, 1), (555, .newarray .int, 2), (557, .putfield 213, 3), (560, .aload_n 0, 1), (561, .bipush 48, 2)]
theorem aJ_319_45 : sx_iB prog_14_method_1_code aI_319_45 = true := by decide +kernel
def aI_319_46 : sx_IL := [(563, .newarray .int, 2), (565, .putfield 216, 3), (568, .aload_n 0, 1), (569, .bipush 48, 2), (571, .newarray .int, 2), (573, .putfield 219, 3)]
theorem aJ_319_46 : sx_iB prog_14_method_1_code aI_319_46 = true := by decide +kernel
def aI_319_47 : sx_IL := [(576, .aload_n 0, 1), (577, .bipush 48, 2), (579, .newarray .int, 2), (581, .putfield 222, 3), (584, .aload_n 0, 1), (585, .bipush 48, 2)]
theorem aJ_319_47 : sx_iB prog_14_method_1_code aI_319_47 = true := by decide +kernel
def aI_319_48 : sx_IL := [(587, .newarray .int, 2), (589, .putfield 225, 3), (592, .aload_n 0, 1), (593, .sipush 6048, 3), (596, .newarray .int, 2), (598, .putfield 228, 3)]
theorem aJ_319_48 : sx_iB prog_14_method_1_code aI_319_48 = true := by decide +kernel
def aI_319_49 : sx_IL := [(601, .aload_n 0, 1), (602, .sipush 144, 3), (605, .newarray .int, 2), (607, .putfield 231, 3), (610, .aload_n 0, 1), (611, .sipush 144, 3)]
theorem aJ_319_49 : sx_iB prog_14_method_1_code aI_319_49 = true := by decide +kernel
def aI_319_50 : sx_IL := [(614, .newarray .int, 2), (616, .putfield 234, 3), (619, .aload_n 0, 1), (620, .sipush 144, 3), (623, .newarray .int, 2), (625, .putfield 237, 3)]
theorem aJ_319_50 : sx_iB prog_14_method_1_code aI_319_50 = true := by decide +kernel
def aI_319_51 : sx_IL := [(628, .aload_n 0, 1), (629, .iconst 4, 1), (630, .newarray .int, 2), (632, .putfield 240, 3), (635, .aload_n 0, 1), (636, .sipush 160, 3)]
theorem aJ_319_51 : sx_iB prog_14_method_1_code aI_319_51 = true := by decide +kernel
def aI_319_52 : sx_IL := [(639, .newarray .int, 2), (641, .putfield 243, 3), (644, .aload_n 0, 1), (645, .sipush 640, 3), (648, .newarray .int, 2), (650, .putfield 246, 3)]
theorem aJ_319_52 : sx_iB prog_14_method_1_code aI_319_52 = true := by decide +kernel
def aI_319_53 : sx_IL := [(653, .aload_n 0, 1), (654, .bipush 16, 2), (656, .newarray .int, 2), (658, .putfield 249, 3), (661, .aload_n 0, 1), (662, .bipush 16, 2)]
theorem aJ_319_53 : sx_iB prog_14_method_1_code aI_319_53 = true := by decide +kernel
def aI_319_54 : sx_IL := [(664, .newarray .long, 2), (666, .putfield 252, 3), (669, .aload_n 0, 1), (670, .iconst 4, 1), (671, .newarray .int, 2), (673, .putfield 255, 3)]
theorem aJ_319_54 : sx_iB prog_14_method_1_code aI_319_54 = true := by decide +kernel
def aI_319_55 : sx_IL := [(676, .aload_n 0, 1), (677, .iconst 4, 1), (678, .newarray .int, 2), (680, .putfield 258, 3), (683, .aload_n 0, 1), (684, .bipush 24, 2)]
theorem aJ_319_55 : sx_iB prog_14_method_1_code aI_319_55 = true := by decide +kernel
def aI_319_56 : sx_IL := [(686, .newarray .int, 2), (688, .putfield 261, 3), (691, .aload_n 0, 1), (692, .ldc_w 264, 3), (695, .newarray .int, 2), (697, .putfield 265, 3)]
theorem aJ_319_56 : sx_iB prog_14_method_1_code aI_319_56 = true := by decide +kernel
def aI_319_57 : sx_IL := [(700, .aload_n 0, 1), (701, .bipush 24, 2), (703, .newarray .int, 2), (705, .putfield 268, 3), (708, .aload_n 0, 1), (709, .sipush 7680, 3)]
theorem aJ_319_57 : sx_iB prog_14_method_1_code aI_319_57 = true := by decide +kernel
def aI_319_58 : sx_IL := [(712, .newarray .int, 2), (714, .putfield 271, 3), (717, .aload_n 0, 1), (718, .bipush 24, 2), (720, .newarray .int, 2), (722, .putfield 274, 3)]
theorem aJ_319_58 : sx_iB prog_14_method_1_code aI_319_58 = true := by decide +kernel
def aI_319_59 : sx_IL := [(725, .aload_n 0, 1), (726, .ldc_w 277, 3), (729, .newarray .int, 2), (731, .putfield 278, 3), (734, .aload_n 0, 1), (735, .bipush 24, 2)]
theorem aJ_319_59 : sx_iB prog_14_method_1_code aI_319_59 = true := by decide +kernel
def aI_319_60 : sx_IL := [(737, .newarray .int, 2), (739, .putfield 281, 3), (742, .aload_n 0, 1), (743, .ldc_w 284, 3), (746, .newarray .int, 2), (748, .putfield 285, 3)]
theorem aJ_319_60 : sx_iB prog_14_method_1_code aI_319_60 = true := by decide +kernel
def aI_319_61 : sx_IL := [(751, .aload_n 0, 1), (752, .bipush 24, 2), (754, .newarray .int, 2), (756, .putfield 288, 3), (759, .aload_n 0, 1), (760, .bipush 24, 2)]
theorem aJ_319_61 : sx_iB prog_14_method_1_code aI_319_61 = true := by decide +kernel
def aI_319_62 : sx_IL := [(762, .newarray .int, 2), (764, .putfield 291, 3), (767, .aload_n 0, 1), (768, .bipush 24, 2), (770, .newarray .boolean, 2), (772, .putfield 294, 3)]
theorem aJ_319_62 : sx_iB prog_14_method_1_code aI_319_62 = true := by decide +kernel
def aI_319_63 : sx_IL := [(775, .aload_n 0, 1), (776, .bipush 24, 2), (778, .newarray .boolean, 2), (780, .putfield 297, 3), (783, .aload_n 0, 1), (784, .bipush 24, 2)]
theorem aJ_319_63 : sx_iB prog_14_method_1_code aI_319_63 = true := by decide +kernel
def aI_319_64 : sx_IL := [(786, .newarray .boolean, 2), (788, .putfield 300, 3), (791, .aload_n 0, 1), (792, .bipush 24, 2), (794, .newarray .int, 2), (796, .putfield 303, 3)]
theorem aJ_319_64 : sx_iB prog_14_method_1_code aI_319_64 = true := by decide +kernel
def aI_319_65 : sx_IL := [(799, .aload_n 0, 1), (800, .bipush 24, 2), (802, .newarray .int, 2), (804, .putfield 306, 3), (807, .aload_n 0, 1), (808, .bipush 24, 2)]
theorem aJ_319_65 : sx_iB prog_14_method_1_code aI_319_65 = true := by decide +kernel
def aI_319_66 : sx_IL := [(810, .newarray .boolean, 2), (812, .putfield 309, 3), (815, .aload_n 0, 1), (816, .bipush 24, 2), (818, .newarray .boolean, 2), (820, .putfield 312, 3)]
theorem aJ_319_66 : sx_iB prog_14_method_1_code aI_319_66 = true := by decide +kernel
def aI_319_67 : sx_IL := [(823, .aload_n 0, 1), (824, .bipush 24, 2), (826, .newarray .long, 2), (828, .putfield 315, 3), (831, .aload_n 0, 1), (832, .bipush 24, 2)]
theorem aJ_319_67 : sx_iB prog_14_method_1_code aI_319_67 = true := by decide +kernel
def aI_319_68 : sx_IL := [(834, .newarray .long, 2), (836, .putfield 318, 3), (839, .aload_n 0, 1), (840, .bipush 24, 2), (842, .newarray .int, 2), (844, .putfield 321, 3)]
theorem aJ_319_68 : sx_iB prog_14_method_1_code aI_319_68 = true := by decide +kernel
def aI_319_69 : sx_IL := [(847, .aload_n 0, 1), (848, .bipush 24, 2), (850, .newarray .int, 2), (852, .putfield 324, 3), (855, .aload_n 0, 1), (856, .bipush 24, 2)]
theorem aJ_319_69 : sx_iB prog_14_method_1_code aI_319_69 = true := by decide +kernel
def aI_319_70 : sx_IL := [(858, .newarray .int, 2), (860, .putfield 327, 3), (863, .aload_n 0, 1), (864, .bipush 24, 2), (866, .newarray .int, 2), (868, .putfield 330, 3)]
theorem aJ_319_70 : sx_iB prog_14_method_1_code aI_319_70 = true := by decide +kernel
def aI_319_71 : sx_IL := [(871, .aload_n 0, 1), (872, .bipush 24, 2), (874, .newarray .int, 2), (876, .putfield 333, 3), (879, .aload_n 0, 1), (880, .bipush 24, 2)]
theorem aJ_319_71 : sx_iB prog_14_method_1_code aI_319_71 = true := by decide +kernel
def aI_319_72 : sx_IL := [(882, .newarray .int, 2), (884, .putfield 336, 3), (887, .aload_n 0, 1), (888, .bipush 24, 2), (890, .newarray .int, 2), (892, .putfield 339, 3)]
theorem aJ_319_72 : sx_iB prog_14_method_1_code aI_319_72 = true := by decide +kernel
def aI_319_73 : sx_IL := [(895, .aload_n 0, 1), (896, .bipush 24, 2), (898, .newarray .boolean, 2), (900, .putfield 342, 3), (903, .aload_n 0, 1), (904, .bipush 24, 2)]
theorem aJ_319_73 : sx_iB prog_14_method_1_code aI_319_73 = true := by decide +kernel
def aI_319_74 : sx_IL := [(906, .newarray .int, 2), (908, .putfield 345, 3), (911, .aload_n 0, 1), (912, .bipush 24, 2), (914, .newarray .int, 2), (916, .putfield 348, 3)]
theorem aJ_319_74 : sx_iB prog_14_method_1_code aI_319_74 = true := by decide +kernel
def aI_319_75 : sx_IL := [(919, .aload_n 0, 1), (920, .bipush 24, 2), (922, .newarray .int, 2), (924, .putfield 351, 3), (927, .aload_n 0, 1), (928, .bipush 24, 2)]
theorem aJ_319_75 : sx_iB prog_14_method_1_code aI_319_75 = true := by decide +kernel
def aI_319_76 : sx_IL := [(930, .newarray .boolean, 2), (932, .putfield 354, 3), (935, .aload_n 0, 1), (936, .bipush 24, 2), (938, .newarray .long, 2), (940, .putfield 357, 3)]
theorem aJ_319_76 : sx_iB prog_14_method_1_code aI_319_76 = true := by decide +kernel
def aI_319_77 : sx_IL := [(943, .aload_n 0, 1), (944, .bipush 24, 2), (946, .newarray .long, 2), (948, .putfield 360, 3), (951, .aload_n 0, 1), (952, .bipush 24, 2)]
theorem aJ_319_77 : sx_iB prog_14_method_1_code aI_319_77 = true := by decide +kernel
def aI_319_78 : sx_IL := [(954, .newarray .long, 2), (956, .putfield 363, 3), (959, .aload_n 0, 1), (960, .bipush 24, 2), (962, .newarray .long, 2), (964, .putfield 366, 3)]
theorem aJ_319_78 : sx_iB prog_14_method_1_code aI_319_78 = true := by decide +kernel
def aI_319_79 : sx_IL := [(967, .aload_n 0, 1), (968, .bipush 24, 2), (970, .newarray .long, 2), (972, .putfield 369, 3), (975, .aload_n 0, 1), (976, .bipush 24, 2)]
theorem aJ_319_79 : sx_iB prog_14_method_1_code aI_319_79 = true := by decide +kernel
def aI_319_80 : sx_IL := [(978, .newarray .long, 2), (980, .putfield 372, 3), (983, .aload_n 0, 1), (984, .bipush 24, 2), (986, .newarray .long, 2), (988, .putfield 375, 3)]
theorem aJ_319_80 : sx_iB prog_14_method_1_code aI_319_80 = true := by decide +kernel
def aI_319_81 : sx_IL := [(991, .aload_n 0, 1), (992, .bipush 24, 2), (994, .newarray .long, 2), (996, .putfield 378, 3), (999, .aload_n 0, 1), (1000, .bipush 24, 2)]
theorem aJ_319_81 : sx_iB prog_14_method_1_code aI_319_81 = true := by decide +kernel
def aI_319_82 : sx_IL := [(1002, .newarray .int, 2), (1004, .putfield 381, 3), (1007, .aload_n 0, 1), (1008, .bipush 24, 2), (1010, .newarray .int, 2), (1012, .putfield 384, 3)]
theorem aJ_319_82 : sx_iB prog_14_method_1_code aI_319_82 = true := by decide +kernel
def aI_319_83 : sx_IL := [(1015, .aload_n 0, 1), (1016, .bipush 48, 2), (1018, .newarray .int, 2), (1020, .putfield 387, 3), (1023, .aload_n 0, 1), (1024, .bipush 48, 2)]
theorem aJ_319_83 : sx_iB prog_14_method_1_code aI_319_83 = true := by decide +kernel
def aI_319_84 : sx_IL := [(1026, .newarray .int, 2), (1028, .putfield 390, 3), (1031, .aload_n 0, 1), (1032, .bipush 48, 2), (1034, .newarray .int, 2), (1036, .putfield 393, 3)]
theorem aJ_319_84 : sx_iB prog_14_method_1_code aI_319_84 = true := by decide +kernel
def aI_319_85 : sx_IL := [(1039, .aload_n 0, 1), (1040, .bipush 48, 2), (1042, .newarray .int, 2), (1044, .putfield 396, 3), (1047, .aload_n 0, 1), (1048, .bipush 48, 2)]
theorem aJ_319_85 : sx_iB prog_14_method_1_code aI_319_85 = true := by decide +kernel
def aI_319_86 : sx_IL := [(1050, .newarray .int, 2), (1052, .putfield 399, 3), (1055, .aload_n 0, 1), (1056, .bipush 48, 2), (1058, .newarray .int, 2), (1060, .putfield 402, 3)]
theorem aJ_319_86 : sx_iB prog_14_method_1_code aI_319_86 = true := by decide +kernel
def aI_319_87 : sx_IL := [(1063, .aload_n 0, 1), (1064, .bipush 48, 2), (1066, .newarray .long, 2), (1068, .putfield 405, 3), (1071, .aload_n 0, 1), (1072, .bipush 12, 2)]
theorem aJ_319_87 : sx_iB prog_14_method_1_code aI_319_87 = true := by decide +kernel
def aI_319_88 : sx_IL := [(1074, .newarray .long, 2), (1076, .putfield 408, 3), (1079, .aload_n 0, 1), (1080, .bipush 12, 2), (1082, .newarray .int, 2), (1084, .putfield 411, 3)]
theorem aJ_319_88 : sx_iB prog_14_method_1_code aI_319_88 = true := by decide +kernel
def aI_319_89 : sx_IL := [(1087, .aload_n 0, 1), (1088, .bipush 12, 2), (1090, .newarray .int, 2), (1092, .putfield 414, 3), (1095, .aload_n 0, 1), (1096, .bipush 12, 2)]
theorem aJ_319_89 : sx_iB prog_14_method_1_code aI_319_89 = true := by decide +kernel
def aI_319_90 : sx_IL := [(1098, .newarray .int, 2), (1100, .putfield 417, 3), (1103, .aload_n 0, 1), (1104, .bipush 12, 2), (1106, .newarray .int, 2), (1108, .putfield 420, 3)]
theorem aJ_319_90 : sx_iB prog_14_method_1_code aI_319_90 = true := by decide +kernel
def aI_319_91 : sx_IL := [(1111, .aload_n 0, 1), (1112, .sipush 1152, 3), (1115, .newarray .int, 2), (1117, .putfield 423, 3), (1120, .aload_n 0, 1), (1121, .bipush 72, 2)]
theorem aJ_319_91 : sx_iB prog_14_method_1_code aI_319_91 = true := by decide +kernel
def aI_319_92 : sx_IL := [(1123, .newarray .int, 2), (1125, .putfield 426, 3), (1128, .aload_n 0, 1), (1129, .bipush 72, 2), (1131, .newarray .long, 2), (1133, .putfield 429, 3)]
theorem aJ_319_92 : sx_iB prog_14_method_1_code aI_319_92 = true := by decide +kernel
def aI_319_93 : sx_IL := [(1136, .aload_n 0, 1), (1137, .bipush 72, 2), (1139, .newarray .int, 2), (1141, .putfield 432, 3), (1144, .aload_n 0, 1), (1145, .bipush 72, 2)]
theorem aJ_319_93 : sx_iB prog_14_method_1_code aI_319_93 = true := by decide +kernel
def aI_319_94 : sx_IL := [(1147, .newarray .boolean, 2), (1149, .putfield 435, 3), (1152, .aload_n 0, 1), (1153, .bipush 72, 2), (1155, .newarray .int, 2), (1157, .putfield 438, 3)]
theorem aJ_319_94 : sx_iB prog_14_method_1_code aI_319_94 = true := by decide +kernel
def aI_319_95 : sx_IL := [(1160, .aload_n 0, 1), (1161, .bipush 12, 2), (1163, .newarray .boolean, 2), (1165, .putfield 441, 3), (1168, .aload_n 0, 1), (1169, .bipush 12, 2)]
theorem aJ_319_95 : sx_iB prog_14_method_1_code aI_319_95 = true := by decide +kernel
def aI_319_96 : sx_IL := [(1171, .newarray .boolean, 2), (1173, .putfield 444, 3), (1176, .aload_n 0, 1), (1177, .bipush 12, 2), (1179, .newarray .long, 2), (1181, .putfield 447, 3)]
theorem aJ_319_96 : sx_iB prog_14_method_1_code aI_319_96 = true := by decide +kernel
def aI_319_97 : sx_IL := [(1184, .aload_n 0, 1), (1185, .bipush 12, 2), (1187, .newarray .boolean, 2), (1189, .putfield 450, 3), (1192, .aload_n 0, 1), (1193, .bipush 12, 2)]
theorem aJ_319_97 : sx_iB prog_14_method_1_code aI_319_97 = true := by decide +kernel
def aI_319_98 : sx_IL := [(1195, .newarray .int, 2), (1197, .putfield 453, 3), (1200, .aload_n 0, 1), (1201, .bipush 24, 2), (1203, .newarray .int, 2), (1205, .putfield 456, 3)]
theorem aJ_319_98 : sx_iB prog_14_method_1_code aI_319_98 = true := by decide +kernel
def aI_319_99 : sx_IL := [(1208, .aload_n 0, 1), (1209, .bipush 24, 2), (1211, .newarray .int, 2), (1213, .putfield 459, 3), (1216, .aload_n 0, 1), (1217, .sipush 30000, 3)]
theorem aJ_319_99 : sx_iB prog_14_method_1_code aI_319_99 = true := by decide +kernel
def aI_319_100 : sx_IL := [(1220, .newarray .int, 2), (1222, .putfield 462, 3), (1225, .aload_n 0, 1), (1226, .bipush 12, 2), (1228, .newarray .int, 2), (1230, .putfield 465, 3)]
theorem aJ_319_100 : sx_iB prog_14_method_1_code aI_319_100 = true := by decide +kernel
def aI_319_101 : sx_IL := [(1233, .aload_n 0, 1), (1234, .bipush 12, 2), (1236, .newarray .long, 2), (1238, .putfield 468, 3), (1241, .aload_n 0, 1), (1242, .bipush 12, 2)]
theorem aJ_319_101 : sx_iB prog_14_method_1_code aI_319_101 = true := by decide +kernel
def aI_319_102 : sx_IL := [(1244, .newarray .long, 2), (1246, .putfield 471, 3), (1249, .aload_n 0, 1), (1250, .bipush 12, 2), (1252, .newarray .int, 2), (1254, .putfield 474, 3)]
theorem aJ_319_102 : sx_iB prog_14_method_1_code aI_319_102 = true := by decide +kernel
def aI_319_103 : sx_IL := [(1257, .aload_n 0, 1), (1258, .bipush 12, 2), (1260, .newarray .int, 2), (1262, .putfield 477, 3), (1265, .aload_n 0, 1), (1266, .sipush 320, 3)]
theorem aJ_319_103 : sx_iB prog_14_method_1_code aI_319_103 = true := by decide +kernel
def aI_319_104 : sx_IL := [(1269, .newarray .int, 2), (1271, .putfield 480, 3), (1274, .aload_n 0, 1), (1275, .sipush 2700, 3), (1278, .newarray .int, 2), (1280, .putfield 483, 3)]
theorem aJ_319_104 : sx_iB prog_14_method_1_code aI_319_104 = true := by decide +kernel
def aI_319_105 : sx_IL := [(1283, .aload_n 0, 1), (1284, .iconst 1, 1), (1285, .newarray .int, 2), (1287, .putfield 486, 3), (1290, .aload_n 0, 1), (1291, .bipush 11, 2)]
theorem aJ_319_105 : sx_iB prog_14_method_1_code aI_319_105 = true := by decide +kernel
def aI_319_106 : sx_IL := [(1293, .newarray .int, 2), (1295, .putfield 489, 3), (1298, .aload_n 0, 1), (1299, .bipush 11, 2), (1301, .newarray .int, 2), (1303, .putfield 492, 3)]
theorem aJ_319_106 : sx_iB prog_14_method_1_code aI_319_106 = true := by decide +kernel
def aI_319_107 : sx_IL := [(1306, .aload_n 0, 1), (1307, .bipush 9, 2), (1309, .newarray .int, 2), (1311, .putfield 495, 3), (1314, .aload_n 0, 1), (1315, .iconst 4, 1)]
theorem aJ_319_107 : sx_iB prog_14_method_1_code aI_319_107 = true := by decide +kernel
def aI_319_108 : sx_IL := [(1316, .newarray .int, 2), (1318, .putfield 498, 3), (1321, .aload_n 0, 1), (1322, .iconst 4, 1), (1323, .newarray .int, 2), (1325, .putfield 501, 3)]
theorem aJ_319_108 : sx_iB prog_14_method_1_code aI_319_108 = true := by decide +kernel
def aI_319_109 : sx_IL := [(1328, .aload_n 0, 1), (1329, .sipush 8000, 3), (1332, .newarray .int, 2), (1334, .putfield 504, 3), (1337, .aload_n 0, 1), (1338, .iconst 0, 1)]
theorem aJ_319_109 : sx_iB prog_14_method_1_code aI_319_109 = true := by decide +kernel
def aI_319_110 : sx_IL := [(1339, .putfield 507, 3), (1342, .return_, 1)]
theorem aJ_319_110 : sx_iB prog_14_method_1_code aI_319_110 = true := by decide +kernel
def aS_319 (pc : Nat) : sx_IL := (if pc < 676 then (if pc < 335 then (if pc < 162 then (if pc < 73 then (if pc < 38 then (if pc < 13 then aI_319_0 else (if pc < 24 then aI_319_1 else aI_319_2)) else (if pc < 49 then aI_319_3 else (if pc < 62 then aI_319_4 else aI_319_5))) else (if pc < 112 then (if pc < 87 then aI_319_6 else (if pc < 99 then aI_319_7 else aI_319_8)) else (if pc < 136 then (if pc < 123 then aI_319_9 else aI_319_10) else (if pc < 148 then aI_319_11 else aI_319_12)))) else (if pc < 247 then (if pc < 198 then (if pc < 173 then aI_319_13 else (if pc < 187 then aI_319_14 else aI_319_15)) else (if pc < 223 then (if pc < 212 then aI_319_16 else aI_319_17) else (if pc < 236 then aI_319_18 else aI_319_19))) else (if pc < 286 then (if pc < 260 then aI_319_20 else (if pc < 272 then aI_319_21 else aI_319_22)) else (if pc < 310 then (if pc < 297 then aI_319_23 else aI_319_24) else (if pc < 322 then aI_319_25 else aI_319_26))))) else (if pc < 510 then (if pc < 421 then (if pc < 371 then (if pc < 347 then aI_319_27 else (if pc < 360 then aI_319_28 else aI_319_29)) else (if pc < 397 then (if pc < 384 then aI_319_30 else aI_319_31) else (if pc < 410 then aI_319_32 else aI_319_33))) else (if pc < 460 then (if pc < 434 then aI_319_34 else (if pc < 446 then aI_319_35 else aI_319_36)) else (if pc < 487 then (if pc < 473 then aI_319_37 else aI_319_38) else (if pc < 498 then aI_319_39 else aI_319_40)))) else (if pc < 587 then (if pc < 540 then (if pc < 519 then aI_319_41 else (if pc < 531 then aI_319_42 else aI_319_43)) else (if pc < 563 then (if pc < 553 then aI_319_44 else aI_319_45) else (if pc < 576 then aI_319_46 else aI_319_47))) else (if pc < 628 then (if pc < 601 then aI_319_48 else (if pc < 614 then aI_319_49 else aI_319_50)) else (if pc < 653 then (if pc < 639 then aI_319_51 else aI_319_52) else (if pc < 664 then aI_319_53 else aI_319_54)))))) else (if pc < 1015 then (if pc < 847 then (if pc < 762 then (if pc < 712 then (if pc < 686 then aI_319_55 else (if pc < 700 then aI_319_56 else aI_319_57)) else (if pc < 737 then (if pc < 725 then aI_319_58 else aI_319_59) else (if pc < 751 then aI_319_60 else aI_319_61))) else (if pc < 799 then (if pc < 775 then aI_319_62 else (if pc < 786 then aI_319_63 else aI_319_64)) else (if pc < 823 then (if pc < 810 then aI_319_65 else aI_319_66) else (if pc < 834 then aI_319_67 else aI_319_68)))) else (if pc < 930 then (if pc < 882 then (if pc < 858 then aI_319_69 else (if pc < 871 then aI_319_70 else aI_319_71)) else (if pc < 906 then (if pc < 895 then aI_319_72 else aI_319_73) else (if pc < 919 then aI_319_74 else aI_319_75))) else (if pc < 967 then (if pc < 943 then aI_319_76 else (if pc < 954 then aI_319_77 else aI_319_78)) else (if pc < 991 then (if pc < 978 then aI_319_79 else aI_319_80) else (if pc < 1002 then aI_319_81 else aI_319_82))))) else (if pc < 1184 then (if pc < 1098 then (if pc < 1050 then (if pc < 1026 then aI_319_83 else (if pc < 1039 then aI_319_84 else aI_319_85)) else (if pc < 1074 then (if pc < 1063 then aI_319_86 else aI_319_87) else (if pc < 1087 then aI_319_88 else aI_319_89))) else (if pc < 1136 then (if pc < 1111 then aI_319_90 else (if pc < 1123 then aI_319_91 else aI_319_92)) else (if pc < 1160 then (if pc < 1147 then aI_319_93 else aI_319_94) else (if pc < 1171 then aI_319_95 else aI_319_96)))) else (if pc < 1269 then (if pc < 1220 then (if pc < 1195 then aI_319_97 else (if pc < 1208 then aI_319_98 else aI_319_99)) else (if pc < 1244 then (if pc < 1233 then aI_319_100 else aI_319_101) else (if pc < 1257 then aI_319_102 else aI_319_103))) else (if pc < 1306 then (if pc < 1283 then aI_319_104 else (if pc < 1293 then aI_319_105 else aI_319_106)) else (if pc < 1328 then (if pc < 1316 then aI_319_107 else aI_319_108) else (if pc < 1339 then aI_319_109 else aI_319_110)))))))
theorem aT_319 (pc : Nat) : sx_iOk prog_14_method_1_code (aS_319 pc) := (sx_ite (p := fun l => sx_iOk prog_14_method_1_code l) (sx_ite (p := fun l => sx_iOk prog_14_method_1_code l) (sx_ite (p := fun l => sx_iOk prog_14_method_1_code l) (sx_ite (p := fun l => sx_iOk prog_14_method_1_code l) (sx_ite (p := fun l => sx_iOk prog_14_method_1_code l) (sx_ite (p := fun l => sx_iOk prog_14_method_1_code l) (sx_iB_s aJ_319_0) (sx_ite (p := fun l => sx_iOk prog_14_method_1_code l) (sx_iB_s aJ_319_1) (sx_iB_s aJ_319_2))) (sx_ite (p := fun l => sx_iOk prog_14_method_1_code l) (sx_iB_s aJ_319_3) (sx_ite (p := fun l => sx_iOk prog_14_method_1_code l) (sx_iB_s aJ_319_4) (sx_iB_s aJ_319_5)))) (sx_ite (p := fun l => sx_iOk prog_14_method_1_code l) (sx_ite (p := fun l => sx_iOk prog_14_method_1_code l) (sx_iB_s aJ_319_6) (sx_ite (p := fun l => sx_iOk prog_14_method_1_code l) (sx_iB_s aJ_319_7) (sx_iB_s aJ_319_8))) (sx_ite (p := fun l => sx_iOk prog_14_method_1_code l) (sx_ite (p := fun l => sx_iOk prog_14_method_1_code l) (sx_iB_s aJ_319_9) (sx_iB_s aJ_319_10)) (sx_ite (p := fun l => sx_iOk prog_14_method_1_code l) (sx_iB_s aJ_319_11) (sx_iB_s aJ_319_12))))) (sx_ite (p := fun l => sx_iOk prog_14_method_1_code l) (sx_ite (p := fun l => sx_iOk prog_14_method_1_code l) (sx_ite (p := fun l => sx_iOk prog_14_method_1_code l) (sx_iB_s aJ_319_13) (sx_ite (p := fun l => sx_iOk prog_14_method_1_code l) (sx_iB_s aJ_319_14) (sx_iB_s aJ_319_15))) (sx_ite (p := fun l => sx_iOk prog_14_method_1_code l) (sx_ite (p := fun l => sx_iOk prog_14_method_1_code l) (sx_iB_s aJ_319_16) (sx_iB_s aJ_319_17)) (sx_ite (p := fun l => sx_iOk prog_14_method_1_code l) (sx_iB_s aJ_319_18) (sx_iB_s aJ_319_19)))) (sx_ite (p := fun l => sx_iOk prog_14_method_1_code l) (sx_ite (p := fun l => sx_iOk prog_14_method_1_code l) (sx_iB_s aJ_319_20) (sx_ite (p := fun l => sx_iOk prog_14_method_1_code l) (sx_iB_s aJ_319_21) (sx_iB_s aJ_319_22))) (sx_ite (p := fun l => sx_iOk prog_14_method_1_code l) (sx_ite (p := fun l => sx_iOk prog_14_method_1_code l) (sx_iB_s aJ_319_23) (sx_iB_s aJ_319_24)) (sx_ite (p := fun l => sx_iOk prog_14_method_1_code l) (sx_iB_s aJ_319_25) (sx_iB_s aJ_319_26)))))) (sx_ite (p := fun l => sx_iOk prog_14_method_1_code l) (sx_ite (p := fun l => sx_iOk prog_14_method_1_code l) (sx_ite (p := fun l => sx_iOk prog_14_method_1_code l) (sx_ite (p := fun l => sx_iOk prog_14_method_1_code l) (sx_iB_s aJ_319_27) (sx_ite (p := fun l => sx_iOk prog_14_method_1_code l) (sx_iB_s aJ_319_28) (sx_iB_s aJ_319_29))) (sx_ite (p := fun l => sx_iOk prog_14_method_1_code l) (sx_ite (p := fun l => sx_iOk prog_14_method_1_code l) (sx_iB_s aJ_319_30) (sx_iB_s aJ_319_31)) (sx_ite (p := fun l => sx_iOk prog_14_method_1_code l) (sx_iB_s aJ_319_32) (sx_iB_s aJ_319_33)))) (sx_ite (p := fun l => sx_iOk prog_14_method_1_code l) (sx_ite (p := fun l => sx_iOk prog_14_method_1_code l) (sx_iB_s aJ_319_34) (sx_ite (p := fun l => sx_iOk prog_14_method_1_code l) (sx_iB_s aJ_319_35) (sx_iB_s aJ_319_36))) (sx_ite (p := fun l => sx_iOk prog_14_method_1_code l) (sx_ite (p := fun l => sx_iOk prog_14_method_1_code l) (sx_iB_s aJ_319_37) (sx_iB_s aJ_319_38)) (sx_ite (p := fun l => sx_iOk prog_14_method_1_code l) (sx_iB_s aJ_319_39) (sx_iB_s aJ_319_40))))) (sx_ite (p := fun l => sx_iOk prog_14_method_1_code l) (sx_ite (p := fun l => sx_iOk prog_14_method_1_code l) (sx_ite (p := fun l => sx_iOk prog_14_method_1_code l) (sx_iB_s aJ_319_41) (sx_ite (p := fun l => sx_iOk prog_14_method_1_code l) (sx_iB_s aJ_319_42) (sx_iB_s aJ_319_43))) (sx_ite (p := fun l => sx_iOk prog_14_method_1_code l) (sx_ite (p := fun l => sx_iOk prog_14_method_1_code l) (sx_iB_s aJ_319_44) (sx_iB_s aJ_319_45)) (sx_ite (p := fun l => sx_iOk prog_14_method_1_code l) (sx_iB_s aJ_319_46) (sx_iB_s aJ_319_47)))) (sx_ite (p := fun l => sx_iOk prog_14_method_1_code l) (sx_ite (p := fun l => sx_iOk prog_14_method_1_code l) (sx_iB_s aJ_319_48) (sx_ite (p := fun l => sx_iOk prog_14_method_1_code l) (sx_iB_s aJ_319_49) (sx_iB_s aJ_319_50))) (sx_ite (p := fun l => sx_iOk prog_14_method_1_code l) (sx_ite (p := fun l => sx_iOk prog_14_method_1_code l) (sx_iB_s aJ_319_51) (sx_iB_s aJ_319_52)) (sx_ite (p := fun l => sx_iOk prog_14_method_1_code l) (sx_iB_s aJ_319_53) (sx_iB_s aJ_319_54))))))) (sx_ite (p := fun l => sx_iOk prog_14_method_1_code l) (sx_ite (p := fun l => sx_iOk prog_14_method_1_code l) (sx_ite (p := fun l => sx_iOk prog_14_method_1_code l) (sx_ite (p := fun l => sx_iOk prog_14_method_1_code l) (sx_ite (p := fun l => sx_iOk prog_14_method_1_code l) (sx_iB_s aJ_319_55) (sx_ite (p := fun l => sx_iOk prog_14_method_1_code l) (sx_iB_s aJ_319_56) (sx_iB_s aJ_319_57))) (sx_ite (p := fun l => sx_iOk prog_14_method_1_code l) (sx_ite (p := fun l => sx_iOk prog_14_method_1_code l) (sx_iB_s aJ_319_58) (sx_iB_s aJ_319_59)) (sx_ite (p := fun l => sx_iOk prog_14_method_1_code l) (sx_iB_s aJ_319_60) (sx_iB_s aJ_319_61)))) (sx_ite (p := fun l => sx_iOk prog_14_method_1_code l) (sx_ite (p := fun l => sx_iOk prog_14_method_1_code l) (sx_iB_s aJ_319_62) (sx_ite (p := fun l => sx_iOk prog_14_method_1_code l) (sx_iB_s aJ_319_63) (sx_iB_s aJ_319_64))) (sx_ite (p := fun l => sx_iOk prog_14_method_1_code l) (sx_ite (p := fun l => sx_iOk prog_14_method_1_code l) (sx_iB_s aJ_319_65) (sx_iB_s aJ_319_66)) (sx_ite (p := fun l => sx_iOk prog_14_method_1_code l) (sx_iB_s aJ_319_67) (sx_iB_s aJ_319_68))))) (sx_ite (p := fun l => sx_iOk prog_14_method_1_code l) (sx_ite (p := fun l => sx_iOk prog_14_method_1_code l) (sx_ite (p := fun l => sx_iOk prog_14_method_1_code l) (sx_iB_s aJ_319_69) (sx_ite (p := fun l => sx_iOk prog_14_method_1_code l) (sx_iB_s aJ_319_70) (sx_iB_s aJ_319_71))) (sx_ite (p := fun l => sx_iOk prog_14_method_1_code l) (sx_ite (p := fun l => sx_iOk prog_14_method_1_code l) (sx_iB_s aJ_319_72) (sx_iB_s aJ_319_73)) (sx_ite (p := fun l => sx_iOk prog_14_method_1_code l) (sx_iB_s aJ_319_74) (sx_iB_s aJ_319_75)))) (sx_ite (p := fun l => sx_iOk prog_14_method_1_code l) (sx_ite (p := fun l => sx_iOk prog_14_method_1_code l) (sx_iB_s aJ_319_76) (sx_ite (p := fun l => sx_iOk prog_14_method_1_code l) (sx_iB_s aJ_319_77) (sx_iB_s aJ_319_78))) (sx_ite (p := fun l => sx_iOk prog_14_method_1_code l) (sx_ite (p := fun l => sx_iOk prog_14_method_1_code l) (sx_iB_s aJ_319_79) (sx_iB_s aJ_319_80)) (sx_ite (p := fun l => sx_iOk prog_14_method_1_code l) (sx_iB_s aJ_319_81) (sx_iB_s aJ_319_82)))))) (sx_ite (p := fun l => sx_iOk prog_14_method_1_code l) (sx_ite (p := fun l => sx_iOk prog_14_method_1_code l) (sx_ite (p := fun l => sx_iOk prog_14_method_1_code l) (sx_ite (p := fun l => sx_iOk prog_14_method_1_code l) (sx_iB_s aJ_319_83) (sx_ite (p := fun l => sx_iOk prog_14_method_1_code l) (sx_iB_s aJ_319_84) (sx_iB_s aJ_319_85))) (sx_ite (p := fun l => sx_iOk prog_14_method_1_code l) (sx_ite (p := fun l => sx_iOk prog_14_method_1_code l) (sx_iB_s aJ_319_86) (sx_iB_s aJ_319_87)) (sx_ite (p := fun l => sx_iOk prog_14_method_1_code l) (sx_iB_s aJ_319_88) (sx_iB_s aJ_319_89)))) (sx_ite (p := fun l => sx_iOk prog_14_method_1_code l) (sx_ite (p := fun l => sx_iOk prog_14_method_1_code l) (sx_iB_s aJ_319_90) (sx_ite (p := fun l => sx_iOk prog_14_method_1_code l) (sx_iB_s aJ_319_91) (sx_iB_s aJ_319_92))) (sx_ite (p := fun l => sx_iOk prog_14_method_1_code l) (sx_ite (p := fun l => sx_iOk prog_14_method_1_code l) (sx_iB_s aJ_319_93) (sx_iB_s aJ_319_94)) (sx_ite (p := fun l => sx_iOk prog_14_method_1_code l) (sx_iB_s aJ_319_95) (sx_iB_s aJ_319_96))))) (sx_ite (p := fun l => sx_iOk prog_14_method_1_code l) (sx_ite (p := fun l => sx_iOk prog_14_method_1_code l) (sx_ite (p := fun l => sx_iOk prog_14_method_1_code l) (sx_iB_s aJ_319_97) (sx_ite (p := fun l => sx_iOk prog_14_method_1_code l) (sx_iB_s aJ_319_98) (sx_iB_s aJ_319_99))) (sx_ite (p := fun l => sx_iOk prog_14_method_1_code l) (sx_ite (p := fun l => sx_iOk prog_14_method_1_code l) (sx_iB_s aJ_319_100) (sx_iB_s aJ_319_101)) (sx_ite (p := fun l => sx_iOk prog_14_method_1_code l) (sx_iB_s aJ_319_102) (sx_iB_s aJ_319_103)))) (sx_ite (p := fun l => sx_iOk prog_14_method_1_code l) (sx_ite (p := fun l => sx_iOk prog_14_method_1_code l) (sx_iB_s aJ_319_104) (sx_ite (p := fun l => sx_iOk prog_14_method_1_code l) (sx_iB_s aJ_319_105) (sx_iB_s aJ_319_106))) (sx_ite (p := fun l => sx_iOk prog_14_method_1_code l) (sx_ite (p := fun l => sx_iOk prog_14_method_1_code l) (sx_iB_s aJ_319_107) (sx_iB_s aJ_319_108)) (sx_ite (p := fun l => sx_iOk prog_14_method_1_code l) (sx_iB_s aJ_319_109) (sx_iB_s aJ_319_110))))))))
def aW_319 : Nat → Option (Instr × Nat) := fun pc => sx_iF (aS_319 pc) pc
theorem aX_319 : ∀ pc i len, aW_319 pc = some (i, len) → decode aM_319.1.2.1 pc = .ok (i, len) := fun pc i len h => sx_iF_s (aT_319 pc) h
def aI_561_0 : sx_IL := [(0, .new 7, 3), (3, .dup, 1), (4, .invokespecial 9, 3), (7, .astore_n 1, 1), (8, .new 10, 3), (11, .dup, 1)]
theorem aJ_561_0 : sx_iB code aI_561_0 = true := by decide +kernel
def aI_561_1 : sx_IL := [(12, .invokespecial 12, 3), (15, .astore_n 2, 1), (16, .iconst 0, 1), (17, .istore_n 3, 1), (18, .iload_n 3, 1), (19, .aload_n 0, 1)]
theorem aJ_561_1 : sx_iB code aI_561_1 = true := by decide +kernel
def aI_561_2 : sx_IL := [(20, .arraylength, 1), (21, .bipush 7, 2), (23, .isub, 1), (24, .if_icmp .gt 3149, 3), (27, .aload_n 0, 1), (28, .iload_n 3, 1)]
theorem aJ_561_2 : sx_iB code aI_561_2 = true := by decide +kernel
def aI_561_3 : sx_IL := [(29, .iaload, 1), (30, .bipush 127, 2), (32, .iand, 1), (33, .tableswitch 3134 0 66 #[283, 346, 369, 392, 405, 428, 451, 514, 629, 744, 859, 892, 935, 958, 991, 1064, 1077, 1110, 1123, 1136, 1149, 1182, 1225, 1248, 1291, 1344, 1367, 1410, 1433, 1476, 1519, 1542, 1575, 1608, 1631, 1704, 1737, 1780, 1803, 1836, 1869, 1912, 1955, 2008, 2041, 2074, 2107, 2150, 2193, 2236, 2269, 2312, 2375, 2408, 2451, 2504, 2547, 2600, 2633, 2666, 2709, 2722, 2785, 2818, 2861, 2904, 3019], 283), (316, .aload_n 1, 1), (317, .aload_n 0, 1)]
theorem aJ_561_3 : sx_iB code aI_561_3 = true := by decide +kernel
def aI_561_4 : sx_IL := [(318, .iload_n 3, 1), (319, .iconst 1, 1), (320, .iadd, 1), (321, .iaload, 1), (322, .aload_n 0, 1), (323, .iload_n 3, 1)]
theorem aJ_561_4 : sx_iB code aI_561_4 = true := by decide +kernel
def aI_561_5 : sx_IL := [(324, .iconst 2, 1), (325, .iadd, 1), (326, .iaload, 1), (327, .i2l, 1), (328, .bipush 32, 2), (330, .lshl, 1)]
theorem aJ_561_5 : sx_iB code aI_561_5 = true := by decide +kernel
def aI_561_6 : sx_IL := [(331, .aload_n 0, 1), (332, .iload_n 3, 1), (333, .iconst 3, 1), (334, .iadd, 1), (335, .iaload, 1), (336, .i2l, 1)]
theorem aJ_561_6 : sx_iB code aI_561_6 = true := by decide +kernel
def aI_561_7 : sx_IL := [(337, .ldc2_w 13, 3), (340, .land, 1), (341, .lor, 1), (342, .invokevirtual 15, 3), (345, .pop, 1), (346, .aload_n 2, 1)]
theorem aJ_561_7 : sx_iB code aI_561_7 = true := by decide +kernel
def aI_561_8 : sx_IL := [(347, .aload_n 0, 1), (348, .iload_n 3, 1), (349, .iconst 1, 1), (350, .iadd, 1), (351, .iaload, 1), (352, .aload_n 0, 1)]
theorem aJ_561_8 : sx_iB code aI_561_8 = true := by decide +kernel
def aI_561_9 : sx_IL := [(353, .iload_n 3, 1), (354, .iconst 2, 1), (355, .iadd, 1), (356, .iaload, 1), (357, .i2l, 1), (358, .bipush 32, 2)]
theorem aJ_561_9 : sx_iB code aI_561_9 = true := by decide +kernel
def aI_561_10 : sx_IL := [(360, .lshl, 1), (361, .aload_n 0, 1), (362, .iload_n 3, 1), (363, .iconst 3, 1), (364, .iadd, 1), (365, .iaload, 1)]
theorem aJ_561_10 : sx_iB code aI_561_10 = true := by decide +kernel
def aI_561_11 : sx_IL := [(366, .i2l, 1), (367, .ldc2_w 13, 3), (370, .land, 1), (371, .lor, 1), (372, .invokevirtual 19, 3), (375, .pop, 1)]
theorem aJ_561_11 : sx_iB code aI_561_11 = true := by decide +kernel
def aI_561_12 : sx_IL := [(376, .goto 2791, 3), (379, .aload_n 1, 1), (380, .aload_n 0, 1), (381, .iload_n 3, 1), (382, .iconst 1, 1), (383, .iadd, 1)]
theorem aJ_561_12 : sx_iB code aI_561_12 = true := by decide +kernel
def aI_561_13 : sx_IL := [(384, .iaload, 1), (385, .invokevirtual 20, 3), (388, .pop, 1), (389, .aload_n 2, 1), (390, .aload_n 0, 1), (391, .iload_n 3, 1)]
theorem aJ_561_13 : sx_iB code aI_561_13 = true := by decide +kernel
def aI_561_14 : sx_IL := [(392, .iconst 1, 1), (393, .iadd, 1), (394, .iaload, 1), (395, .invokevirtual 24, 3), (398, .pop, 1), (399, .goto 2768, 3)]
theorem aJ_561_14 : sx_iB code aI_561_14 = true := by decide +kernel
def aI_561_15 : sx_IL := [(402, .aload_n 1, 1), (403, .aload_n 0, 1), (404, .iload_n 3, 1), (405, .iconst 1, 1), (406, .iadd, 1), (407, .iaload, 1)]
theorem aJ_561_15 : sx_iB code aI_561_15 = true := by decide +kernel
def aI_561_16 : sx_IL := [(408, .invokevirtual 25, 3), (411, .pop, 1), (412, .aload_n 2, 1), (413, .aload_n 0, 1), (414, .iload_n 3, 1), (415, .iconst 1, 1)]
theorem aJ_561_16 : sx_iB code aI_561_16 = true := by decide +kernel
def aI_561_17 : sx_IL := [(416, .iadd, 1), (417, .iaload, 1), (418, .invokevirtual 28, 3), (421, .pop, 1), (422, .goto 2745, 3), (425, .aload_n 1, 1)]
theorem aJ_561_17 : sx_iB code aI_561_17 = true := by decide +kernel
def aI_561_18 : sx_IL := [(426, .invokevirtual 29, 3), (429, .pop, 1), (430, .aload_n 2, 1), (431, .invokevirtual 33, 3), (434, .pop, 1), (435, .goto 2732, 3)]
theorem aJ_561_18 : sx_iB code aI_561_18 = true := by decide +kernel
def aI_561_19 : sx_IL := [(438, .aload_n 1, 1), (439, .aload_n 0, 1), (440, .iload_n 3, 1), (441, .iconst 1, 1), (442, .iadd, 1), (443, .iaload, 1)]
theorem aJ_561_19 : sx_iB code aI_561_19 = true := by decide +kernel
def aI_561_20 : sx_IL := [(444, .invokevirtual 34, 3), (447, .aload_n 2, 1), (448, .aload_n 0, 1), (449, .iload_n 3, 1), (450, .iconst 1, 1), (451, .iadd, 1)]
theorem aJ_561_20 : sx_iB code aI_561_20 = true := by decide +kernel
def aI_561_21 : sx_IL := [(452, .iaload, 1), (453, .invokevirtual 37, 3), (456, .if_icmp .eq 2711, 3), (459, .iconst 0, 1), (460, .ireturn, 1), (461, .aload_n 1, 1)]
theorem aJ_561_21 : sx_iB code aI_561_21 = true := by decide +kernel
def aI_561_22 : sx_IL := [(462, .aload_n 0, 1), (463, .iload_n 3, 1), (464, .iconst 1, 1), (465, .iadd, 1), (466, .iaload, 1), (467, .invokevirtual 38, 3)]
theorem aJ_561_22 : sx_iB code aI_561_22 = true := by decide +kernel
def aI_561_23 : sx_IL := [(470, .pop2, 1), (471, .aload_n 2, 1), (472, .aload_n 0, 1), (473, .iload_n 3, 1), (474, .iconst 1, 1), (475, .iadd, 1)]
theorem aJ_561_23 : sx_iB code aI_561_23 = true := by decide +kernel
def aI_561_24 : sx_IL := [(476, .iaload, 1), (477, .invokevirtual 42, 3), (480, .pop2, 1), (481, .goto 2686, 3), (484, .aload_n 1, 1), (485, .aload_n 0, 1)]
theorem aJ_561_24 : sx_iB code aI_561_24 = true := by decide +kernel
def aI_561_25 : sx_IL := [(486, .iload_n 3, 1), (487, .iconst 1, 1), (488, .iadd, 1), (489, .iaload, 1), (490, .aload_n 0, 1), (491, .iload_n 3, 1)]
theorem aJ_561_25 : sx_iB code aI_561_25 = true := by decide +kernel
def aI_561_26 : sx_IL := [(492, .iconst 2, 1), (493, .iadd, 1), (494, .iaload, 1), (495, .i2l, 1), (496, .bipush 32, 2), (498, .lshl, 1)]
theorem aJ_561_26 : sx_iB code aI_561_26 = true := by decide +kernel
def aI_561_27 : sx_IL := [(499, .aload_n 0, 1), (500, .iload_n 3, 1), (501, .iconst 3, 1), (502, .iadd, 1), (503, .iaload, 1), (504, .i2l, 1)]
theorem aJ_561_27 : sx_iB code aI_561_27 = true := by decide +kernel
def aI_561_28 : sx_IL := [(505, .ldc2_w 13, 3), (508, .land, 1), (509, .lor, 1), (510, .invokevirtual 43, 3), (513, .pop2, 1), (514, .aload_n 2, 1)]
theorem aJ_561_28 : sx_iB code aI_561_28 = true := by decide +kernel
def aI_561_29 : sx_IL := [(515, .aload_n 0, 1), (516, .iload_n 3, 1), (517, .iconst 1, 1), (518, .iadd, 1), (519, .iaload, 1), (520, .aload_n 0, 1)]
theorem aJ_561_29 : sx_iB code aI_561_29 = true := by decide +kernel
def aI_561_30 : sx_IL := [(521, .iload_n 3, 1), (522, .iconst 2, 1), (523, .iadd, 1), (524, .iaload, 1), (525, .i2l, 1), (526, .bipush 32, 2)]
theorem aJ_561_30 : sx_iB code aI_561_30 = true := by decide +kernel
def aI_561_31 : sx_IL := [(528, .lshl, 1), (529, .aload_n 0, 1), (530, .iload_n 3, 1), (531, .iconst 3, 1), (532, .iadd, 1), (533, .iaload, 1)]
theorem aJ_561_31 : sx_iB code aI_561_31 = true := by decide +kernel
def aI_561_32 : sx_IL := [(534, .i2l, 1), (535, .ldc2_w 13, 3), (538, .land, 1), (539, .lor, 1), (540, .invokevirtual 47, 3), (543, .pop2, 1)]
theorem aJ_561_32 : sx_iB code aI_561_32 = true := by decide +kernel
def aI_561_33 : sx_IL := [(544, .goto 2623, 3), (547, .aload_n 1, 1), (548, .aload_n 0, 1), (549, .iload_n 3, 1), (550, .iconst 1, 1), (551, .iadd, 1)]
theorem aJ_561_33 : sx_iB code aI_561_33 = true := by decide +kernel
def aI_561_34 : sx_IL := [(552, .iaload, 1), (553, .aload_n 0, 1), (554, .iload_n 3, 1), (555, .iconst 2, 1), (556, .iadd, 1), (557, .iaload, 1)]
theorem aJ_561_34 : sx_iB code aI_561_34 = true := by decide +kernel
def aI_561_35 : sx_IL := [(558, .i2l, 1), (559, .bipush 32, 2), (561, .lshl, 1), (562, .aload_n 0, 1), (563, .iload_n 3, 1), (564, .iconst 3, 1)]
theorem aJ_561_35 : sx_iB code aI_561_35 = true := by decide +kernel
def aI_561_36 : sx_IL := [(565, .iadd, 1), (566, .iaload, 1), (567, .i2l, 1), (568, .ldc2_w 13, 3), (571, .land, 1), (572, .lor, 1)]
theorem aJ_561_36 : sx_iB code aI_561_36 = true := by decide +kernel
def aI_561_37 : sx_IL := [(573, .aload_n 0, 1), (574, .iload_n 3, 1), (575, .iconst 4, 1), (576, .iadd, 1), (577, .iaload, 1), (578, .aload_n 0, 1)]
theorem aJ_561_37 : sx_iB code aI_561_37 = true := by decide +kernel
def aI_561_38 : sx_IL := [(579, .iload_n 3, 1), (580, .iconst 5, 1), (581, .iadd, 1), (582, .iaload, 1), (583, .i2l, 1), (584, .bipush 32, 2)]
theorem aJ_561_38 : sx_iB code aI_561_38 = true := by decide +kernel
def aI_561_39 : sx_IL := [(586, .lshl, 1), (587, .aload_n 0, 1), (588, .iload_n 3, 1), (589, .bipush 6, 2), (591, .iadd, 1), (592, .iaload, 1)]
theorem aJ_561_39 : sx_iB code aI_561_39 = true := by decide +kernel
def aI_561_40 : sx_IL := [(593, .i2l, 1), (594, .ldc2_w 13, 3), (597, .land, 1), (598, .lor, 1), (599, .invokevirtual 48, 3), (602, .pop2, 1)]
theorem aJ_561_40 : sx_iB code aI_561_40 = true := by decide +kernel
def aI_561_41 : sx_IL := [(603, .aload_n 2, 1), (604, .aload_n 0, 1), (605, .iload_n 3, 1), (606, .iconst 1, 1), (607, .iadd, 1), (608, .iaload, 1)]
theorem aJ_561_41 : sx_iB code aI_561_41 = true := by decide +kernel
def aI_561_42 : sx_IL := [(609, .aload_n 0, 1), (610, .iload_n 3, 1), (611, .iconst 2, 1), (612, .iadd, 1), (613, .iaload, 1), (614, .i2l, 1)]
theorem aJ_561_42 : sx_iB code aI_561_42 = true := by decide +kernel
def aI_561_43 : sx_IL := [(615, .bipush 32, 2), (617, .lshl, 1), (618, .aload_n 0, 1), (619, .iload_n 3, 1), (620, .iconst 3, 1), (621, .iadd, 1)]
theorem aJ_561_43 : sx_iB code aI_561_43 = true := by decide +kernel
def aI_561_44 : sx_IL := [(622, .iaload, 1), (623, .i2l, 1), (624, .ldc2_w 13, 3), (627, .land, 1), (628, .lor, 1), (629, .aload_n 0, 1)]
theorem aJ_561_44 : sx_iB code aI_561_44 = true := by decide +kernel
def aI_561_45 : sx_IL := [(630, .iload_n 3, 1), (631, .iconst 4, 1), (632, .iadd, 1), (633, .iaload, 1), (634, .aload_n 0, 1), (635, .iload_n 3, 1)]
theorem aJ_561_45 : sx_iB code aI_561_45 = true := by decide +kernel
def aI_561_46 : sx_IL := [(636, .iconst 5, 1), (637, .iadd, 1), (638, .iaload, 1), (639, .i2l, 1), (640, .bipush 32, 2), (642, .lshl, 1)]
theorem aJ_561_46 : sx_iB code aI_561_46 = true := by decide +kernel
def aI_561_47 : sx_IL := [(643, .aload_n 0, 1), (644, .iload_n 3, 1), (645, .bipush 6, 2), (647, .iadd, 1), (648, .iaload, 1), (649, .i2l, 1)]
theorem aJ_561_47 : sx_iB code aI_561_47 = true := by decide +kernel
def aI_561_48 : sx_IL := [(650, .ldc2_w 13, 3), (653, .land, 1), (654, .lor, 1), (655, .invokevirtual 52, 3), (658, .pop2, 1), (659, .goto 2508, 3)]
theorem aJ_561_48 : sx_iB code aI_561_48 = true := by decide +kernel
def aI_561_49 : sx_IL := [(662, .aload_n 1, 1), (663, .aload_n 0, 1), (664, .iload_n 3, 1), (665, .iconst 1, 1), (666, .iadd, 1), (667, .iaload, 1)]
theorem aJ_561_49 : sx_iB code aI_561_49 = true := by decide +kernel
def aI_561_50 : sx_IL := [(668, .aload_n 0, 1), (669, .iload_n 3, 1), (670, .iconst 2, 1), (671, .iadd, 1), (672, .iaload, 1), (673, .i2l, 1)]
theorem aJ_561_50 : sx_iB code aI_561_50 = true := by decide +kernel
def aI_561_51 : sx_IL := [(674, .bipush 32, 2), (676, .lshl, 1), (677, .aload_n 0, 1), (678, .iload_n 3, 1), (679, .iconst 3, 1), (680, .iadd, 1)]
theorem aJ_561_51 : sx_iB code aI_561_51 = true := by decide +kernel
def aI_561_52 : sx_IL := [(681, .iaload, 1), (682, .i2l, 1), (683, .ldc2_w 13, 3), (686, .land, 1), (687, .lor, 1), (688, .aload_n 0, 1)]
theorem aJ_561_52 : sx_iB code aI_561_52 = true := by decide +kernel
def aI_561_53 : sx_IL := [(689, .iload_n 3, 1), (690, .iconst 4, 1), (691, .iadd, 1), (692, .iaload, 1), (693, .i2l, 1), (694, .bipush 32, 2)]
theorem aJ_561_53 : sx_iB code aI_561_53 = true := by decide +kernel
def aI_561_54 : sx_IL := [(696, .lshl, 1), (697, .aload_n 0, 1), (698, .iload_n 3, 1), (699, .iconst 5, 1), (700, .iadd, 1), (701, .iaload, 1)]
theorem aJ_561_54 : sx_iB code aI_561_54 = true := by decide +kernel
def aI_561_55 : sx_IL := [(702, .i2l, 1), (703, .ldc2_w 13, 3), (706, .land, 1), (707, .lor, 1), (708, .aload_n 0, 1), (709, .iload_n 3, 1)]
theorem aJ_561_55 : sx_iB code aI_561_55 = true := by decide +kernel
def aI_561_56 : sx_IL := [(710, .bipush 6, 2), (712, .iadd, 1), (713, .iaload, 1), (714, .invokevirtual 53, 3), (717, .pop, 1), (718, .aload_n 2, 1)]
theorem aJ_561_56 : sx_iB code aI_561_56 = true := by decide +kernel
def aI_561_57 : sx_IL := [(719, .aload_n 0, 1), (720, .iload_n 3, 1), (721, .iconst 1, 1), (722, .iadd, 1), (723, .iaload, 1), (724, .aload_n 0, 1)]
theorem aJ_561_57 : sx_iB code aI_561_57 = true := by decide +kernel
def aI_561_58 : sx_IL := [(725, .iload_n 3, 1), (726, .iconst 2, 1), (727, .iadd, 1), (728, .iaload, 1), (729, .i2l, 1), (730, .bipush 32, 2)]
theorem aJ_561_58 : sx_iB code aI_561_58 = true := by decide +kernel
def aI_561_59 : sx_IL := [(732, .lshl, 1), (733, .aload_n 0, 1), (734, .iload_n 3, 1), (735, .iconst 3, 1), (736, .iadd, 1), (737, .iaload, 1)]
theorem aJ_561_59 : sx_iB code aI_561_59 = true := by decide +kernel
def aI_561_60 : sx_IL := [(738, .i2l, 1), (739, .ldc2_w 13, 3), (742, .land, 1), (743, .lor, 1), (744, .aload_n 0, 1), (745, .iload_n 3, 1)]
theorem aJ_561_60 : sx_iB code aI_561_60 = true := by decide +kernel
def aI_561_61 : sx_IL := [(746, .iconst 4, 1), (747, .iadd, 1), (748, .iaload, 1), (749, .i2l, 1), (750, .bipush 32, 2), (752, .lshl, 1)]
theorem aJ_561_61 : sx_iB code aI_561_61 = true := by decide +kernel
def aI_561_62 : sx_IL := [(753, .aload_n 0, 1), (754, .iload_n 3, 1), (755, .iconst 5, 1), (756, .iadd, 1), (757, .iaload, 1), (758, .i2l, 1)]
theorem aJ_561_62 : sx_iB code aI_561_62 = true := by decide +kernel
def aI_561_63 : sx_IL := [(759, .ldc2_w 13, 3), (762, .land, 1), (763, .lor, 1), (764, .aload_n 0, 1), (765, .iload_n 3, 1), (766, .bipush 6, 2)]
theorem aJ_561_63 : sx_iB code aI_561_63 = true := by decide +kernel
def aI_561_64 : sx_IL := [(768, .iadd, 1), (769, .iaload, 1), (770, .invokevirtual 57, 3), (773, .pop, 1), (774, .goto 2393, 3), (777, .aload_n 1, 1)]
theorem aJ_561_64 : sx_iB code aI_561_64 = true := by decide +kernel
def aI_561_65 : sx_IL := [(778, .aload_n 0, 1), (779, .iload_n 3, 1), (780, .iconst 1, 1), (781, .iadd, 1), (782, .iaload, 1), (783, .aload_n 0, 1)]
theorem aJ_561_65 : sx_iB code aI_561_65 = true := by decide +kernel
def aI_561_66 : sx_IL := [(784, .iload_n 3, 1), (785, .iconst 2, 1), (786, .iadd, 1), (787, .iaload, 1), (788, .i2l, 1), (789, .bipush 32, 2)]
theorem aJ_561_66 : sx_iB code aI_561_66 = true := by decide +kernel
def aI_561_67 : sx_IL := [(791, .lshl, 1), (792, .aload_n 0, 1), (793, .iload_n 3, 1), (794, .iconst 3, 1), (795, .iadd, 1), (796, .iaload, 1)]
theorem aJ_561_67 : sx_iB code aI_561_67 = true := by decide +kernel
def aI_561_68 : sx_IL := [(797, .i2l, 1), (798, .ldc2_w 13, 3), (801, .land, 1), (802, .lor, 1), (803, .aload_n 0, 1), (804, .iload_n 3, 1)]
theorem aJ_561_68 : sx_iB code aI_561_68 = true := by decide +kernel
def aI_561_69 : sx_IL := [(805, .iconst 4, 1), (806, .iadd, 1), (807, .iaload, 1), (808, .i2l, 1), (809, .bipush 32, 2), (811, .lshl, 1)]
theorem aJ_561_69 : sx_iB code aI_561_69 = true := by decide +kernel
def aI_561_70 : sx_IL := [(812, .aload_n 0, 1), (813, .iload_n 3, 1), (814, .iconst 5, 1), (815, .iadd, 1), (816, .iaload, 1), (817, .i2l, 1)]
theorem aJ_561_70 : sx_iB code aI_561_70 = true := by decide +kernel
def aI_561_71 : sx_IL := [(818, .ldc2_w 13, 3), (821, .land, 1), (822, .lor, 1), (823, .aload_n 0, 1), (824, .iload_n 3, 1), (825, .bipush 6, 2)]
theorem aJ_561_71 : sx_iB code aI_561_71 = true := by decide +kernel
def aI_561_72 : sx_IL := [(827, .iadd, 1), (828, .iaload, 1), (829, .invokevirtual 58, 3), (832, .pop, 1), (833, .aload_n 2, 1), (834, .aload_n 0, 1)]
theorem aJ_561_72 : sx_iB code aI_561_72 = true := by decide +kernel
def aI_561_73 : sx_IL := [(835, .iload_n 3, 1), (836, .iconst 1, 1), (837, .iadd, 1), (838, .iaload, 1), (839, .aload_n 0, 1), (840, .iload_n 3, 1)]
theorem aJ_561_73 : sx_iB code aI_561_73 = true := by decide +kernel
def aI_561_74 : sx_IL := [(841, .iconst 2, 1), (842, .iadd, 1), (843, .iaload, 1), (844, .i2l, 1), (845, .bipush 32, 2), (847, .lshl, 1)]
theorem aJ_561_74 : sx_iB code aI_561_74 = true := by decide +kernel
def aI_561_75 : sx_IL := [(848, .aload_n 0, 1), (849, .iload_n 3, 1), (850, .iconst 3, 1), (851, .iadd, 1), (852, .iaload, 1), (853, .i2l, 1)]
theorem aJ_561_75 : sx_iB code aI_561_75 = true := by decide +kernel
def aI_561_76 : sx_IL := [(854, .ldc2_w 13, 3), (857, .land, 1), (858, .lor, 1), (859, .aload_n 0, 1), (860, .iload_n 3, 1), (861, .iconst 4, 1)]
theorem aJ_561_76 : sx_iB code aI_561_76 = true := by decide +kernel
def aI_561_77 : sx_IL := [(862, .iadd, 1), (863, .iaload, 1), (864, .i2l, 1), (865, .bipush 32, 2), (867, .lshl, 1), (868, .aload_n 0, 1)]
theorem aJ_561_77 : sx_iB code aI_561_77 = true := by decide +kernel
def aI_561_78 : sx_IL := [(869, .iload_n 3, 1), (870, .iconst 5, 1), (871, .iadd, 1), (872, .iaload, 1), (873, .i2l, 1), (874, .ldc2_w 13, 3)]
theorem aJ_561_78 : sx_iB code aI_561_78 = true := by decide +kernel
def aI_561_79 : sx_IL := [(877, .land, 1), (878, .lor, 1), (879, .aload_n 0, 1), (880, .iload_n 3, 1), (881, .bipush 6, 2), (883, .iadd, 1)]
theorem aJ_561_79 : sx_iB code aI_561_79 = true := by decide +kernel
def aI_561_80 : sx_IL := [(884, .iaload, 1), (885, .invokevirtual 61, 3), (888, .pop, 1), (889, .goto 2278, 3), (892, .aload_n 1, 1), (893, .aload_n 0, 1)]
theorem aJ_561_80 : sx_iB code aI_561_80 = true := by decide +kernel
def aI_561_81 : sx_IL := [(894, .iload_n 3, 1), (895, .iconst 1, 1), (896, .iadd, 1), (897, .iaload, 1), (898, .aload_n 0, 1), (899, .iload_n 3, 1)]
theorem aJ_561_81 : sx_iB code aI_561_81 = true := by decide +kernel
def aI_561_82 : sx_IL := [(900, .iconst 2, 1), (901, .iadd, 1), (902, .iaload, 1), (903, .invokevirtual 62, 3), (906, .pop, 1), (907, .aload_n 2, 1)]
theorem aJ_561_82 : sx_iB code aI_561_82 = true := by decide +kernel
def aI_561_83 : sx_IL := [(908, .aload_n 0, 1), (909, .iload_n 3, 1), (910, .iconst 1, 1), (911, .iadd, 1), (912, .iaload, 1), (913, .aload_n 0, 1)]
theorem aJ_561_83 : sx_iB code aI_561_83 = true := by decide +kernel
def aI_561_84 : sx_IL := [(914, .iload_n 3, 1), (915, .iconst 2, 1), (916, .iadd, 1), (917, .iaload, 1), (918, .invokevirtual 66, 3), (921, .pop, 1)]
theorem aJ_561_84 : sx_iB code aI_561_84 = true := by decide +kernel
def aI_561_85 : sx_IL := [(922, .goto 2245, 3), (925, .aload_n 1, 1), (926, .aload_n 0, 1), (927, .iload_n 3, 1), (928, .iconst 1, 1), (929, .iadd, 1)]
theorem aJ_561_85 : sx_iB code aI_561_85 = true := by decide +kernel
def aI_561_86 : sx_IL := [(930, .iaload, 1), (931, .aload_n 0, 1), (932, .iload_n 3, 1), (933, .iconst 2, 1), (934, .iadd, 1), (935, .iaload, 1)]
theorem aJ_561_86 : sx_iB code aI_561_86 = true := by decide +kernel
def aI_561_87 : sx_IL := [(936, .aload_n 0, 1), (937, .iload_n 3, 1), (938, .iconst 3, 1), (939, .iadd, 1), (940, .iaload, 1), (941, .invokevirtual 67, 3)]
theorem aJ_561_87 : sx_iB code aI_561_87 = true := by decide +kernel
def aI_561_88 : sx_IL := [(944, .pop2, 1), (945, .aload_n 2, 1), (946, .aload_n 0, 1), (947, .iload_n 3, 1), (948, .iconst 1, 1), (949, .iadd, 1)]
theorem aJ_561_88 : sx_iB code aI_561_88 = true := by decide +kernel
def aI_561_89 : sx_IL := [(950, .iaload, 1), (951, .aload_n 0, 1), (952, .iload_n 3, 1), (953, .iconst 2, 1), (954, .iadd, 1), (955, .iaload, 1)]
theorem aJ_561_89 : sx_iB code aI_561_89 = true := by decide +kernel
def aI_561_90 : sx_IL := [(956, .aload_n 0, 1), (957, .iload_n 3, 1), (958, .iconst 3, 1), (959, .iadd, 1), (960, .iaload, 1), (961, .invokevirtual 71, 3)]
theorem aJ_561_90 : sx_iB code aI_561_90 = true := by decide +kernel
def aI_561_91 : sx_IL := [(964, .pop2, 1), (965, .goto 2202, 3), (968, .aload_n 1, 1), (969, .aload_n 0, 1), (970, .iload_n 3, 1), (971, .iconst 1, 1)]
theorem aJ_561_91 : sx_iB code aI_561_91 = true := by decide +kernel
def aI_561_92 : sx_IL := [(972, .iadd, 1), (973, .iaload, 1), (974, .invokevirtual 72, 3), (977, .pop, 1), (978, .aload_n 2, 1), (979, .aload_n 0, 1)]
theorem aJ_561_92 : sx_iB code aI_561_92 = true := by decide +kernel
def aI_561_93 : sx_IL := [(980, .iload_n 3, 1), (981, .iconst 1, 1), (982, .iadd, 1), (983, .iaload, 1), (984, .invokevirtual 75, 3), (987, .pop, 1)]
theorem aJ_561_93 : sx_iB code aI_561_93 = true := by decide +kernel
def aI_561_94 : sx_IL := [(988, .goto 2179, 3), (991, .aload_n 1, 1), (992, .aload_n 0, 1), (993, .iload_n 3, 1), (994, .iconst 1, 1), (995, .iadd, 1)]
theorem aJ_561_94 : sx_iB code aI_561_94 = true := by decide +kernel
def aI_561_95 : sx_IL := [(996, .iaload, 1), (997, .aload_n 0, 1), (998, .iload_n 3, 1), (999, .iconst 2, 1), (1000, .iadd, 1), (1001, .iaload, 1)]
theorem aJ_561_95 : sx_iB code aI_561_95 = true := by decide +kernel
def aI_561_96 : sx_IL := [(1002, .invokevirtual 76, 3), (1005, .pop2, 1), (1006, .aload_n 2, 1), (1007, .aload_n 0, 1), (1008, .iload_n 3, 1), (1009, .iconst 1, 1)]
theorem aJ_561_96 : sx_iB code aI_561_96 = true := by decide +kernel
def aI_561_97 : sx_IL := [(1010, .iadd, 1), (1011, .iaload, 1), (1012, .aload_n 0, 1), (1013, .iload_n 3, 1), (1014, .iconst 2, 1), (1015, .iadd, 1)]
theorem aJ_561_97 : sx_iB code aI_561_97 = true := by decide +kernel
def aI_561_98 : sx_IL := [(1016, .iaload, 1), (1017, .invokevirtual 80, 3), (1020, .pop2, 1), (1021, .goto 2146, 3), (1024, .aload_n 1, 1), (1025, .aload_n 0, 1)]
theorem aJ_561_98 : sx_iB code aI_561_98 = true := by decide +kernel
def aI_561_99 : sx_IL := [(1026, .iload_n 3, 1), (1027, .iconst 1, 1), (1028, .iadd, 1), (1029, .iaload, 1), (1030, .aload_n 0, 1), (1031, .iload_n 3, 1)]
theorem aJ_561_99 : sx_iB code aI_561_99 = true := by decide +kernel
def aI_561_100 : sx_IL := [(1032, .iconst 2, 1), (1033, .iadd, 1), (1034, .iaload, 1), (1035, .aload_n 0, 1), (1036, .iload_n 3, 1), (1037, .iconst 3, 1)]
theorem aJ_561_100 : sx_iB code aI_561_100 = true := by decide +kernel
def aI_561_101 : sx_IL := [(1038, .iadd, 1), (1039, .iaload, 1), (1040, .i2l, 1), (1041, .bipush 32, 2), (1043, .lshl, 1), (1044, .aload_n 0, 1)]
theorem aJ_561_101 : sx_iB code aI_561_101 = true := by decide +kernel
def aI_561_102 : sx_IL := [(1045, .iload_n 3, 1), (1046, .iconst 4, 1), (1047, .iadd, 1), (1048, .iaload, 1), (1049, .i2l, 1), (1050, .ldc2_w 13, 3)]
theorem aJ_561_102 : sx_iB code aI_561_102 = true := by decide +kernel
def aI_561_103 : sx_IL := [(1053, .land, 1), (1054, .lor, 1), (1055, .invokevirtual 81, 3), (1058, .pop, 1), (1059, .aload_n 2, 1), (1060, .aload_n 0, 1)]
theorem aJ_561_103 : sx_iB code aI_561_103 = true := by decide +kernel
def aI_561_104 : sx_IL := [(1061, .iload_n 3, 1), (1062, .iconst 1, 1), (1063, .iadd, 1), (1064, .iaload, 1), (1065, .aload_n 0, 1), (1066, .iload_n 3, 1)]
theorem aJ_561_104 : sx_iB code aI_561_104 = true := by decide +kernel
def aI_561_105 : sx_IL := [(1067, .iconst 2, 1), (1068, .iadd, 1), (1069, .iaload, 1), (1070, .aload_n 0, 1), (1071, .iload_n 3, 1), (1072, .iconst 3, 1)]
theorem aJ_561_105 : sx_iB code aI_561_105 = true := by decide +kernel
def aI_561_106 : sx_IL := [(1073, .iadd, 1), (1074, .iaload, 1), (1075, .i2l, 1), (1076, .bipush 32, 2), (1078, .lshl, 1), (1079, .aload_n 0, 1)]
theorem aJ_561_106 : sx_iB code aI_561_106 = true := by decide +kernel
def aI_561_107 : sx_IL := [(1080, .iload_n 3, 1), (1081, .iconst 4, 1), (1082, .iadd, 1), (1083, .iaload, 1), (1084, .i2l, 1), (1085, .ldc2_w 13, 3)]
theorem aJ_561_107 : sx_iB code aI_561_107 = true := by decide +kernel
def aI_561_108 : sx_IL := [(1088, .land, 1), (1089, .lor, 1), (1090, .invokevirtual 85, 3), (1093, .pop, 1), (1094, .goto 2073, 3), (1097, .aload_n 1, 1)]
theorem aJ_561_108 : sx_iB code aI_561_108 = true := by decide +kernel
def aI_561_109 : sx_IL := [(1098, .invokevirtual 86, 3), (1101, .pop, 1), (1102, .aload_n 2, 1), (1103, .invokevirtual 89, 3), (1106, .pop, 1), (1107, .goto 2060, 3)]
theorem aJ_561_109 : sx_iB code aI_561_109 = true := by decide +kernel
def aI_561_110 : sx_IL := [(1110, .aload_n 1, 1), (1111, .aload_n 0, 1), (1112, .iload_n 3, 1), (1113, .iconst 1, 1), (1114, .iadd, 1), (1115, .iaload, 1)]
theorem aJ_561_110 : sx_iB code aI_561_110 = true := by decide +kernel
def aI_561_111 : sx_IL := [(1116, .aload_n 0, 1), (1117, .iload_n 3, 1), (1118, .iconst 2, 1), (1119, .iadd, 1), (1120, .iaload, 1), (1121, .invokevirtual 90, 3)]
theorem aJ_561_111 : sx_iB code aI_561_111 = true := by decide +kernel
def aI_561_112 : sx_IL := [(1124, .pop, 1), (1125, .aload_n 2, 1), (1126, .aload_n 0, 1), (1127, .iload_n 3, 1), (1128, .iconst 1, 1), (1129, .iadd, 1)]
theorem aJ_561_112 : sx_iB code aI_561_112 = true := by decide +kernel
def aI_561_113 : sx_IL := [(1130, .iaload, 1), (1131, .aload_n 0, 1), (1132, .iload_n 3, 1), (1133, .iconst 2, 1), (1134, .iadd, 1), (1135, .iaload, 1)]
theorem aJ_561_113 : sx_iB code aI_561_113 = true := by decide +kernel
def aI_561_114 : sx_IL := [(1136, .invokevirtual 93, 3), (1139, .pop, 1), (1140, .goto 2027, 3), (1143, .aload_n 1, 1), (1144, .invokevirtual 94, 3), (1147, .pop, 1)]
theorem aJ_561_114 : sx_iB code aI_561_114 = true := by decide +kernel
def aI_561_115 : sx_IL := [(1148, .aload_n 2, 1), (1149, .invokevirtual 97, 3), (1152, .pop, 1), (1153, .goto 2014, 3), (1156, .aload_n 1, 1), (1157, .invokevirtual 98, 3)]
theorem aJ_561_115 : sx_iB code aI_561_115 = true := by decide +kernel
def aI_561_116 : sx_IL := [(1160, .pop, 1), (1161, .aload_n 2, 1), (1162, .invokevirtual 101, 3), (1165, .pop, 1), (1166, .goto 2001, 3), (1169, .aload_n 1, 1)]
theorem aJ_561_116 : sx_iB code aI_561_116 = true := by decide +kernel
def aI_561_117 : sx_IL := [(1170, .invokevirtual 102, 3), (1173, .pop, 1), (1174, .aload_n 2, 1), (1175, .invokevirtual 105, 3), (1178, .pop, 1), (1179, .goto 1988, 3)]
theorem aJ_561_117 : sx_iB code aI_561_117 = true := by decide +kernel
def aI_561_118 : sx_IL := [(1182, .aload_n 1, 1), (1183, .aload_n 0, 1), (1184, .iload_n 3, 1), (1185, .iconst 1, 1), (1186, .iadd, 1), (1187, .iaload, 1)]
theorem aJ_561_118 : sx_iB code aI_561_118 = true := by decide +kernel
def aI_561_119 : sx_IL := [(1188, .aload_n 0, 1), (1189, .iload_n 3, 1), (1190, .iconst 2, 1), (1191, .iadd, 1), (1192, .iaload, 1), (1193, .invokevirtual 106, 3)]
theorem aJ_561_119 : sx_iB code aI_561_119 = true := by decide +kernel
def aI_561_120 : sx_IL := [(1196, .pop, 1), (1197, .aload_n 2, 1), (1198, .aload_n 0, 1), (1199, .iload_n 3, 1), (1200, .iconst 1, 1), (1201, .iadd, 1)]
theorem aJ_561_120 : sx_iB code aI_561_120 = true := by decide +kernel
def aI_561_121 : sx_IL := [(1202, .iaload, 1), (1203, .aload_n 0, 1), (1204, .iload_n 3, 1), (1205, .iconst 2, 1), (1206, .iadd, 1), (1207, .iaload, 1)]
theorem aJ_561_121 : sx_iB code aI_561_121 = true := by decide +kernel
def aI_561_122 : sx_IL := [(1208, .invokevirtual 109, 3), (1211, .pop, 1), (1212, .goto 1955, 3), (1215, .aload_n 1, 1), (1216, .aload_n 0, 1), (1217, .iload_n 3, 1)]
theorem aJ_561_122 : sx_iB code aI_561_122 = true := by decide +kernel
def aI_561_123 : sx_IL := [(1218, .iconst 1, 1), (1219, .iadd, 1), (1220, .iaload, 1), (1221, .aload_n 0, 1), (1222, .iload_n 3, 1), (1223, .iconst 2, 1)]
theorem aJ_561_123 : sx_iB code aI_561_123 = true := by decide +kernel
def aI_561_124 : sx_IL := [(1224, .iadd, 1), (1225, .iaload, 1), (1226, .aload_n 0, 1), (1227, .iload_n 3, 1), (1228, .iconst 3, 1), (1229, .iadd, 1)]
theorem aJ_561_124 : sx_iB code aI_561_124 = true := by decide +kernel
def aI_561_125 : sx_IL := [(1230, .iaload, 1), (1231, .invokevirtual 110, 3), (1234, .pop, 1), (1235, .aload_n 2, 1), (1236, .aload_n 0, 1), (1237, .iload_n 3, 1)]
theorem aJ_561_125 : sx_iB code aI_561_125 = true := by decide +kernel
def aI_561_126 : sx_IL := [(1238, .iconst 1, 1), (1239, .iadd, 1), (1240, .iaload, 1), (1241, .aload_n 0, 1), (1242, .iload_n 3, 1), (1243, .iconst 2, 1)]
theorem aJ_561_126 : sx_iB code aI_561_126 = true := by decide +kernel
def aI_561_127 : sx_IL := [(1244, .iadd, 1), (1245, .iaload, 1), (1246, .aload_n 0, 1), (1247, .iload_n 3, 1), (1248, .iconst 3, 1), (1249, .iadd, 1)]
theorem aJ_561_127 : sx_iB code aI_561_127 = true := by decide +kernel
def aI_561_128 : sx_IL := [(1250, .iaload, 1), (1251, .invokevirtual 114, 3), (1254, .pop, 1), (1255, .goto 1912, 3), (1258, .aload_n 1, 1), (1259, .aload_n 0, 1)]
theorem aJ_561_128 : sx_iB code aI_561_128 = true := by decide +kernel
def aI_561_129 : sx_IL := [(1260, .iload_n 3, 1), (1261, .iconst 1, 1), (1262, .iadd, 1), (1263, .iaload, 1), (1264, .invokevirtual 115, 3), (1267, .pop, 1)]
theorem aJ_561_129 : sx_iB code aI_561_129 = true := by decide +kernel
def aI_561_130 : sx_IL := [(1268, .aload_n 2, 1), (1269, .aload_n 0, 1), (1270, .iload_n 3, 1), (1271, .iconst 1, 1), (1272, .iadd, 1), (1273, .iaload, 1)]
theorem aJ_561_130 : sx_iB code aI_561_130 = true := by decide +kernel
def aI_561_131 : sx_IL := [(1274, .invokevirtual 118, 3), (1277, .pop, 1), (1278, .goto 1889, 3), (1281, .aload_n 1, 1), (1282, .aload_n 0, 1), (1283, .iload_n 3, 1)]
theorem aJ_561_131 : sx_iB code aI_561_131 = true := by decide +kernel
def aI_561_132 : sx_IL := [(1284, .iconst 1, 1), (1285, .iadd, 1), (1286, .iaload, 1), (1287, .aload_n 0, 1), (1288, .iload_n 3, 1), (1289, .iconst 2, 1)]
theorem aJ_561_132 : sx_iB code aI_561_132 = true := by decide +kernel
def aI_561_133 : sx_IL := [(1290, .iadd, 1), (1291, .iaload, 1), (1292, .aload_n 0, 1), (1293, .iload_n 3, 1), (1294, .iconst 3, 1), (1295, .iadd, 1)]
theorem aJ_561_133 : sx_iB code aI_561_133 = true := by decide +kernel
def aI_561_134 : sx_IL := [(1296, .iaload, 1), (1297, .invokevirtual 119, 3), (1300, .pop, 1), (1301, .aload_n 2, 1), (1302, .aload_n 0, 1), (1303, .iload_n 3, 1)]
theorem aJ_561_134 : sx_iB code aI_561_134 = true := by decide +kernel
def aI_561_135 : sx_IL := [(1304, .iconst 1, 1), (1305, .iadd, 1), (1306, .iaload, 1), (1307, .aload_n 0, 1), (1308, .iload_n 3, 1), (1309, .iconst 2, 1)]
theorem aJ_561_135 : sx_iB code aI_561_135 = true := by decide +kernel
def aI_561_136 : sx_IL := [(1310, .iadd, 1), (1311, .iaload, 1), (1312, .aload_n 0, 1), (1313, .iload_n 3, 1), (1314, .iconst 3, 1), (1315, .iadd, 1)]
theorem aJ_561_136 : sx_iB code aI_561_136 = true := by decide +kernel
def aI_561_137 : sx_IL := [(1316, .iaload, 1), (1317, .invokevirtual 122, 3), (1320, .pop, 1), (1321, .goto 1846, 3), (1324, .aload_n 1, 1), (1325, .aload_n 0, 1)]
theorem aJ_561_137 : sx_iB code aI_561_137 = true := by decide +kernel
def aI_561_138 : sx_IL := [(1326, .iload_n 3, 1), (1327, .iconst 1, 1), (1328, .iadd, 1), (1329, .iaload, 1), (1330, .aload_n 0, 1), (1331, .iload_n 3, 1)]
theorem aJ_561_138 : sx_iB code aI_561_138 = true := by decide +kernel
def aI_561_139 : sx_IL := [(1332, .iconst 2, 1), (1333, .iadd, 1), (1334, .iaload, 1), (1335, .aload_n 0, 1), (1336, .iload_n 3, 1), (1337, .iconst 3, 1)]
theorem aJ_561_139 : sx_iB code aI_561_139 = true := by decide +kernel
def aI_561_140 : sx_IL := [(1338, .iadd, 1), (1339, .iaload, 1), (1340, .aload_n 0, 1), (1341, .iload_n 3, 1), (1342, .iconst 4, 1), (1343, .iadd, 1)]
theorem aJ_561_140 : sx_iB code aI_561_140 = true := by decide +kernel
def aI_561_141 : sx_IL := [(1344, .iaload, 1), (1345, .invokevirtual 123, 3), (1348, .pop, 1), (1349, .aload_n 2, 1), (1350, .aload_n 0, 1), (1351, .iload_n 3, 1)]
theorem aJ_561_141 : sx_iB code aI_561_141 = true := by decide +kernel
def aI_561_142 : sx_IL := [(1352, .iconst 1, 1), (1353, .iadd, 1), (1354, .iaload, 1), (1355, .aload_n 0, 1), (1356, .iload_n 3, 1), (1357, .iconst 2, 1)]
theorem aJ_561_142 : sx_iB code aI_561_142 = true := by decide +kernel
def aI_561_143 : sx_IL := [(1358, .iadd, 1), (1359, .iaload, 1), (1360, .aload_n 0, 1), (1361, .iload_n 3, 1), (1362, .iconst 3, 1), (1363, .iadd, 1)]
theorem aJ_561_143 : sx_iB code aI_561_143 = true := by decide +kernel
def aI_561_144 : sx_IL := [(1364, .iaload, 1), (1365, .aload_n 0, 1), (1366, .iload_n 3, 1), (1367, .iconst 4, 1), (1368, .iadd, 1), (1369, .iaload, 1)]
theorem aJ_561_144 : sx_iB code aI_561_144 = true := by decide +kernel
def aI_561_145 : sx_IL := [(1370, .invokevirtual 127, 3), (1373, .pop, 1), (1374, .goto 1793, 3), (1377, .aload_n 1, 1), (1378, .aload_n 0, 1), (1379, .iload_n 3, 1)]
theorem aJ_561_145 : sx_iB code aI_561_145 = true := by decide +kernel
def aI_561_146 : sx_IL := [(1380, .iconst 1, 1), (1381, .iadd, 1), (1382, .iaload, 1), (1383, .invokevirtual 128, 3), (1386, .pop, 1), (1387, .aload_n 2, 1)]
theorem aJ_561_146 : sx_iB code aI_561_146 = true := by decide +kernel
def aI_561_147 : sx_IL := [(1388, .aload_n 0, 1), (1389, .iload_n 3, 1), (1390, .iconst 1, 1), (1391, .iadd, 1), (1392, .iaload, 1), (1393, .invokevirtual 131, 3)]
theorem aJ_561_147 : sx_iB code aI_561_147 = true := by decide +kernel
def aI_561_148 : sx_IL := [(1396, .pop, 1), (1397, .goto 1770, 3), (1400, .aload_n 1, 1), (1401, .aload_n 0, 1), (1402, .iload_n 3, 1), (1403, .iconst 1, 1)]
theorem aJ_561_148 : sx_iB code aI_561_148 = true := by decide +kernel
def aI_561_149 : sx_IL := [(1404, .iadd, 1), (1405, .iaload, 1), (1406, .aload_n 0, 1), (1407, .iload_n 3, 1), (1408, .iconst 2, 1), (1409, .iadd, 1)]
theorem aJ_561_149 : sx_iB code aI_561_149 = true := by decide +kernel
def aI_561_150 : sx_IL := [(1410, .iaload, 1), (1411, .aload_n 0, 1), (1412, .iload_n 3, 1), (1413, .iconst 3, 1), (1414, .iadd, 1), (1415, .iaload, 1)]
theorem aJ_561_150 : sx_iB code aI_561_150 = true := by decide +kernel
def aI_561_151 : sx_IL := [(1416, .invokevirtual 132, 3), (1419, .pop, 1), (1420, .aload_n 2, 1), (1421, .aload_n 0, 1), (1422, .iload_n 3, 1), (1423, .iconst 1, 1)]
theorem aJ_561_151 : sx_iB code aI_561_151 = true := by decide +kernel
def aI_561_152 : sx_IL := [(1424, .iadd, 1), (1425, .iaload, 1), (1426, .aload_n 0, 1), (1427, .iload_n 3, 1), (1428, .iconst 2, 1), (1429, .iadd, 1)]
theorem aJ_561_152 : sx_iB code aI_561_152 = true := by decide +kernel
def aI_561_153 : sx_IL := [(1430, .iaload, 1), (1431, .aload_n 0, 1), (1432, .iload_n 3, 1), (1433, .iconst 3, 1), (1434, .iadd, 1), (1435, .iaload, 1)]
theorem aJ_561_153 : sx_iB code aI_561_153 = true := by decide +kernel
def aI_561_154 : sx_IL := [(1436, .invokevirtual 135, 3), (1439, .pop, 1), (1440, .goto 1727, 3), (1443, .aload_n 1, 1), (1444, .aload_n 0, 1), (1445, .iload_n 3, 1)]
theorem aJ_561_154 : sx_iB code aI_561_154 = true := by decide +kernel
def aI_561_155 : sx_IL := [(1446, .iconst 1, 1), (1447, .iadd, 1), (1448, .iaload, 1), (1449, .invokevirtual 136, 3), (1452, .pop, 1), (1453, .aload_n 2, 1)]
theorem aJ_561_155 : sx_iB code aI_561_155 = true := by decide +kernel
def aI_561_156 : sx_IL := [(1454, .aload_n 0, 1), (1455, .iload_n 3, 1), (1456, .iconst 1, 1), (1457, .iadd, 1), (1458, .iaload, 1), (1459, .invokevirtual 139, 3)]
theorem aJ_561_156 : sx_iB code aI_561_156 = true := by decide +kernel
def aI_561_157 : sx_IL := [(1462, .pop, 1), (1463, .goto 1704, 3), (1466, .aload_n 1, 1), (1467, .aload_n 0, 1), (1468, .iload_n 3, 1), (1469, .iconst 1, 1)]
theorem aJ_561_157 : sx_iB code aI_561_157 = true := by decide +kernel
def aI_561_158 : sx_IL := [(1470, .iadd, 1), (1471, .iaload, 1), (1472, .aload_n 0, 1), (1473, .iload_n 3, 1), (1474, .iconst 2, 1), (1475, .iadd, 1)]
theorem aJ_561_158 : sx_iB code aI_561_158 = true := by decide +kernel
def aI_561_159 : sx_IL := [(1476, .iaload, 1), (1477, .aload_n 0, 1), (1478, .iload_n 3, 1), (1479, .iconst 3, 1), (1480, .iadd, 1), (1481, .iaload, 1)]
theorem aJ_561_159 : sx_iB code aI_561_159 = true := by decide +kernel
def aI_561_160 : sx_IL := [(1482, .invokevirtual 140, 3), (1485, .pop, 1), (1486, .aload_n 2, 1), (1487, .aload_n 0, 1), (1488, .iload_n 3, 1), (1489, .iconst 1, 1)]
theorem aJ_561_160 : sx_iB code aI_561_160 = true := by decide +kernel
def aI_561_161 : sx_IL := [(1490, .iadd, 1), (1491, .iaload, 1), (1492, .aload_n 0, 1), (1493, .iload_n 3, 1), (1494, .iconst 2, 1), (1495, .iadd, 1)]
theorem aJ_561_161 : sx_iB code aI_561_161 = true := by decide +kernel
def aI_561_162 : sx_IL := [(1496, .iaload, 1), (1497, .aload_n 0, 1), (1498, .iload_n 3, 1), (1499, .iconst 3, 1), (1500, .iadd, 1), (1501, .iaload, 1)]
theorem aJ_561_162 : sx_iB code aI_561_162 = true := by decide +kernel
def aI_561_163 : sx_IL := [(1502, .invokevirtual 143, 3), (1505, .pop, 1), (1506, .goto 1661, 3), (1509, .aload_n 1, 1), (1510, .aload_n 0, 1), (1511, .iload_n 3, 1)]
theorem aJ_561_163 : sx_iB code aI_561_163 = true := by decide +kernel
def aI_561_164 : sx_IL := [(1512, .iconst 1, 1), (1513, .iadd, 1), (1514, .iaload, 1), (1515, .aload_n 0, 1), (1516, .iload_n 3, 1), (1517, .iconst 2, 1)]
theorem aJ_561_164 : sx_iB code aI_561_164 = true := by decide +kernel
def aI_561_165 : sx_IL := [(1518, .iadd, 1), (1519, .iaload, 1), (1520, .aload_n 0, 1), (1521, .iload_n 3, 1), (1522, .iconst 3, 1), (1523, .iadd, 1)]
theorem aJ_561_165 : sx_iB code aI_561_165 = true := by decide +kernel
def aI_561_166 : sx_IL := [(1524, .iaload, 1), (1525, .invokevirtual 144, 3), (1528, .pop, 1), (1529, .aload_n 2, 1), (1530, .aload_n 0, 1), (1531, .iload_n 3, 1)]
theorem aJ_561_166 : sx_iB code aI_561_166 = true := by decide +kernel
def aI_561_167 : sx_IL := [(1532, .iconst 1, 1), (1533, .iadd, 1), (1534, .iaload, 1), (1535, .aload_n 0, 1), (1536, .iload_n 3, 1), (1537, .iconst 2, 1)]
theorem aJ_561_167 : sx_iB code aI_561_167 = true := by decide +kernel
def aI_561_168 : sx_IL := [(1538, .iadd, 1), (1539, .iaload, 1), (1540, .aload_n 0, 1), (1541, .iload_n 3, 1), (1542, .iconst 3, 1), (1543, .iadd, 1)]
theorem aJ_561_168 : sx_iB code aI_561_168 = true := by decide +kernel
def aI_561_169 : sx_IL := [(1544, .iaload, 1), (1545, .invokevirtual 147, 3), (1548, .pop, 1), (1549, .goto 1618, 3), (1552, .aload_n 1, 1), (1553, .aload_n 0, 1)]
theorem aJ_561_169 : sx_iB code aI_561_169 = true := by decide +kernel
def aI_561_170 : sx_IL := [(1554, .iload_n 3, 1), (1555, .iconst 1, 1), (1556, .iadd, 1), (1557, .iaload, 1), (1558, .invokevirtual 148, 3), (1561, .pop, 1)]
theorem aJ_561_170 : sx_iB code aI_561_170 = true := by decide +kernel
def aI_561_171 : sx_IL := [(1562, .aload_n 2, 1), (1563, .aload_n 0, 1), (1564, .iload_n 3, 1), (1565, .iconst 1, 1), (1566, .iadd, 1), (1567, .iaload, 1)]
theorem aJ_561_171 : sx_iB code aI_561_171 = true := by decide +kernel
def aI_561_172 : sx_IL := [(1568, .invokevirtual 151, 3), (1571, .pop, 1), (1572, .goto 1595, 3), (1575, .aload_n 1, 1), (1576, .aload_n 0, 1), (1577, .iload_n 3, 1)]
theorem aJ_561_172 : sx_iB code aI_561_172 = true := by decide +kernel
def aI_561_173 : sx_IL := [(1578, .iconst 1, 1), (1579, .iadd, 1), (1580, .iaload, 1), (1581, .aload_n 0, 1), (1582, .iload_n 3, 1), (1583, .iconst 2, 1)]
theorem aJ_561_173 : sx_iB code aI_561_173 = true := by decide +kernel
def aI_561_174 : sx_IL := [(1584, .iadd, 1), (1585, .iaload, 1), (1586, .invokevirtual 152, 3), (1589, .pop, 1), (1590, .aload_n 2, 1), (1591, .aload_n 0, 1)]
theorem aJ_561_174 : sx_iB code aI_561_174 = true := by decide +kernel
def aI_561_175 : sx_IL := [(1592, .iload_n 3, 1), (1593, .iconst 1, 1), (1594, .iadd, 1), (1595, .iaload, 1), (1596, .aload_n 0, 1), (1597, .iload_n 3, 1)]
theorem aJ_561_175 : sx_iB code aI_561_175 = true := by decide +kernel
def aI_561_176 : sx_IL := [(1598, .iconst 2, 1), (1599, .iadd, 1), (1600, .iaload, 1), (1601, .invokevirtual 155, 3), (1604, .pop, 1), (1605, .goto 1562, 3)]
theorem aJ_561_176 : sx_iB code aI_561_176 = true := by decide +kernel
def aI_561_177 : sx_IL := [(1608, .aload_n 1, 1), (1609, .aload_n 0, 1), (1610, .iload_n 3, 1), (1611, .iconst 1, 1), (1612, .iadd, 1), (1613, .iaload, 1)]
theorem aJ_561_177 : sx_iB code aI_561_177 = true := by decide +kernel
def aI_561_178 : sx_IL := [(1614, .aload_n 0, 1), (1615, .iload_n 3, 1), (1616, .iconst 2, 1), (1617, .iadd, 1), (1618, .iaload, 1), (1619, .invokevirtual 156, 3)]
theorem aJ_561_178 : sx_iB code aI_561_178 = true := by decide +kernel
def aI_561_179 : sx_IL := [(1622, .pop, 1), (1623, .aload_n 2, 1), (1624, .aload_n 0, 1), (1625, .iload_n 3, 1), (1626, .iconst 1, 1), (1627, .iadd, 1)]
theorem aJ_561_179 : sx_iB code aI_561_179 = true := by decide +kernel
def aI_561_180 : sx_IL := [(1628, .iaload, 1), (1629, .aload_n 0, 1), (1630, .iload_n 3, 1), (1631, .iconst 2, 1), (1632, .iadd, 1), (1633, .iaload, 1)]
theorem aJ_561_180 : sx_iB code aI_561_180 = true := by decide +kernel
def aI_561_181 : sx_IL := [(1634, .invokevirtual 159, 3), (1637, .pop, 1), (1638, .goto 1529, 3), (1641, .aload_n 1, 1), (1642, .aload_n 0, 1), (1643, .iload_n 3, 1)]
theorem aJ_561_181 : sx_iB code aI_561_181 = true := by decide +kernel
def aI_561_182 : sx_IL := [(1644, .iconst 1, 1), (1645, .iadd, 1), (1646, .iaload, 1), (1647, .invokevirtual 160, 3), (1650, .pop, 1), (1651, .aload_n 2, 1)]
theorem aJ_561_182 : sx_iB code aI_561_182 = true := by decide +kernel
def aI_561_183 : sx_IL := [(1652, .aload_n 0, 1), (1653, .iload_n 3, 1), (1654, .iconst 1, 1), (1655, .iadd, 1), (1656, .iaload, 1), (1657, .invokevirtual 163, 3)]
theorem aJ_561_183 : sx_iB code aI_561_183 = true := by decide +kernel
def aI_561_184 : sx_IL := [(1660, .pop, 1), (1661, .goto 1506, 3), (1664, .aload_n 1, 1), (1665, .aload_n 0, 1), (1666, .iload_n 3, 1), (1667, .iconst 1, 1)]
theorem aJ_561_184 : sx_iB code aI_561_184 = true := by decide +kernel
def aI_561_185 : sx_IL := [(1668, .iadd, 1), (1669, .iaload, 1), (1670, .aload_n 0, 1), (1671, .iload_n 3, 1), (1672, .iconst 2, 1), (1673, .iadd, 1)]
theorem aJ_561_185 : sx_iB code aI_561_185 = true := by decide +kernel
def aI_561_186 : sx_IL := [(1674, .iaload, 1), (1675, .aload_n 0, 1), (1676, .iload_n 3, 1), (1677, .iconst 3, 1), (1678, .iadd, 1), (1679, .iaload, 1)]
theorem aJ_561_186 : sx_iB code aI_561_186 = true := by decide +kernel
def aI_561_187 : sx_IL := [(1680, .i2l, 1), (1681, .bipush 32, 2), (1683, .lshl, 1), (1684, .aload_n 0, 1), (1685, .iload_n 3, 1), (1686, .iconst 4, 1)]
theorem aJ_561_187 : sx_iB code aI_561_187 = true := by decide +kernel
def aI_561_188 : sx_IL := [(1687, .iadd, 1), (1688, .iaload, 1), (1689, .i2l, 1), (1690, .ldc2_w 13, 3), (1693, .land, 1), (1694, .lor, 1)]
theorem aJ_561_188 : sx_iB code aI_561_188 = true := by decide +kernel
def aI_561_189 : sx_IL := [(1695, .invokevirtual 164, 3), (1698, .pop, 1), (1699, .aload_n 2, 1), (1700, .aload_n 0, 1), (1701, .iload_n 3, 1), (1702, .iconst 1, 1)]
theorem aJ_561_189 : sx_iB code aI_561_189 = true := by decide +kernel
def aI_561_190 : sx_IL := [(1703, .iadd, 1), (1704, .iaload, 1), (1705, .aload_n 0, 1), (1706, .iload_n 3, 1), (1707, .iconst 2, 1), (1708, .iadd, 1)]
theorem aJ_561_190 : sx_iB code aI_561_190 = true := by decide +kernel
def aI_561_191 : sx_IL := [(1709, .iaload, 1), (1710, .aload_n 0, 1), (1711, .iload_n 3, 1), (1712, .iconst 3, 1), (1713, .iadd, 1), (1714, .iaload, 1)]
theorem aJ_561_191 : sx_iB code aI_561_191 = true := by decide +kernel
def aI_561_192 : sx_IL := [(1715, .i2l, 1), (1716, .bipush 32, 2), (1718, .lshl, 1), (1719, .aload_n 0, 1), (1720, .iload_n 3, 1), (1721, .iconst 4, 1)]
theorem aJ_561_192 : sx_iB code aI_561_192 = true := by decide +kernel
def aI_561_193 : sx_IL := [(1722, .iadd, 1), (1723, .iaload, 1), (1724, .i2l, 1), (1725, .ldc2_w 13, 3), (1728, .land, 1), (1729, .lor, 1)]
theorem aJ_561_193 : sx_iB code aI_561_193 = true := by decide +kernel
def aI_561_194 : sx_IL := [(1730, .invokevirtual 167, 3), (1733, .pop, 1), (1734, .goto 1433, 3), (1737, .aload_n 1, 1), (1738, .aload_n 0, 1), (1739, .iload_n 3, 1)]
theorem aJ_561_194 : sx_iB code aI_561_194 = true := by decide +kernel
def aI_561_195 : sx_IL := [(1740, .iconst 1, 1), (1741, .iadd, 1), (1742, .iaload, 1), (1743, .aload_n 0, 1), (1744, .iload_n 3, 1), (1745, .iconst 2, 1)]
theorem aJ_561_195 : sx_iB code aI_561_195 = true := by decide +kernel
def aI_561_196 : sx_IL := [(1746, .iadd, 1), (1747, .iaload, 1), (1748, .invokevirtual 168, 3), (1751, .pop, 1), (1752, .aload_n 2, 1), (1753, .aload_n 0, 1)]
theorem aJ_561_196 : sx_iB code aI_561_196 = true := by decide +kernel
def aI_561_197 : sx_IL := [(1754, .iload_n 3, 1), (1755, .iconst 1, 1), (1756, .iadd, 1), (1757, .iaload, 1), (1758, .aload_n 0, 1), (1759, .iload_n 3, 1)]
theorem aJ_561_197 : sx_iB code aI_561_197 = true := by decide +kernel
def aI_561_198 : sx_IL := [(1760, .iconst 2, 1), (1761, .iadd, 1), (1762, .iaload, 1), (1763, .invokevirtual 171, 3), (1766, .pop, 1), (1767, .goto 1400, 3)]
theorem aJ_561_198 : sx_iB code aI_561_198 = true := by decide +kernel
def aI_561_199 : sx_IL := [(1770, .aload_n 1, 1), (1771, .aload_n 0, 1), (1772, .iload_n 3, 1), (1773, .iconst 1, 1), (1774, .iadd, 1), (1775, .iaload, 1)]
theorem aJ_561_199 : sx_iB code aI_561_199 = true := by decide +kernel
def aI_561_200 : sx_IL := [(1776, .aload_n 0, 1), (1777, .iload_n 3, 1), (1778, .iconst 2, 1), (1779, .iadd, 1), (1780, .iaload, 1), (1781, .aload_n 0, 1)]
theorem aJ_561_200 : sx_iB code aI_561_200 = true := by decide +kernel
def aI_561_201 : sx_IL := [(1782, .iload_n 3, 1), (1783, .iconst 3, 1), (1784, .iadd, 1), (1785, .iaload, 1), (1786, .invokevirtual 172, 3), (1789, .pop, 1)]
theorem aJ_561_201 : sx_iB code aI_561_201 = true := by decide +kernel
def aI_561_202 : sx_IL := [(1790, .aload_n 2, 1), (1791, .aload_n 0, 1), (1792, .iload_n 3, 1), (1793, .iconst 1, 1), (1794, .iadd, 1), (1795, .iaload, 1)]
theorem aJ_561_202 : sx_iB code aI_561_202 = true := by decide +kernel
def aI_561_203 : sx_IL := [(1796, .aload_n 0, 1), (1797, .iload_n 3, 1), (1798, .iconst 2, 1), (1799, .iadd, 1), (1800, .iaload, 1), (1801, .aload_n 0, 1)]
theorem aJ_561_203 : sx_iB code aI_561_203 = true := by decide +kernel
def aI_561_204 : sx_IL := [(1802, .iload_n 3, 1), (1803, .iconst 3, 1), (1804, .iadd, 1), (1805, .iaload, 1), (1806, .invokevirtual 175, 3), (1809, .pop, 1)]
theorem aJ_561_204 : sx_iB code aI_561_204 = true := by decide +kernel
def aI_561_205 : sx_IL := [(1810, .goto 1357, 3), (1813, .aload_n 1, 1), (1814, .aload_n 0, 1), (1815, .iload_n 3, 1), (1816, .iconst 1, 1), (1817, .iadd, 1)]
theorem aJ_561_205 : sx_iB code aI_561_205 = true := by decide +kernel
def aI_561_206 : sx_IL := [(1818, .iaload, 1), (1819, .invokevirtual 176, 3), (1822, .pop, 1), (1823, .aload_n 2, 1), (1824, .aload_n 0, 1), (1825, .iload_n 3, 1)]
theorem aJ_561_206 : sx_iB code aI_561_206 = true := by decide +kernel
def aI_561_207 : sx_IL := [(1826, .iconst 1, 1), (1827, .iadd, 1), (1828, .iaload, 1), (1829, .invokevirtual 179, 3), (1832, .pop, 1), (1833, .goto 1334, 3)]
theorem aJ_561_207 : sx_iB code aI_561_207 = true := by decide +kernel
def aI_561_208 : sx_IL := [(1836, .aload_n 1, 1), (1837, .aload_n 0, 1), (1838, .iload_n 3, 1), (1839, .iconst 1, 1), (1840, .iadd, 1), (1841, .iaload, 1)]
theorem aJ_561_208 : sx_iB code aI_561_208 = true := by decide +kernel
def aI_561_209 : sx_IL := [(1842, .aload_n 0, 1), (1843, .iload_n 3, 1), (1844, .iconst 2, 1), (1845, .iadd, 1), (1846, .iaload, 1), (1847, .invokevirtual 180, 3)]
theorem aJ_561_209 : sx_iB code aI_561_209 = true := by decide +kernel
def aI_561_210 : sx_IL := [(1850, .pop, 1), (1851, .aload_n 2, 1), (1852, .aload_n 0, 1), (1853, .iload_n 3, 1), (1854, .iconst 1, 1), (1855, .iadd, 1)]
theorem aJ_561_210 : sx_iB code aI_561_210 = true := by decide +kernel
def aI_561_211 : sx_IL := [(1856, .iaload, 1), (1857, .aload_n 0, 1), (1858, .iload_n 3, 1), (1859, .iconst 2, 1), (1860, .iadd, 1), (1861, .iaload, 1)]
theorem aJ_561_211 : sx_iB code aI_561_211 = true := by decide +kernel
def aI_561_212 : sx_IL := [(1862, .invokevirtual 183, 3), (1865, .pop, 1), (1866, .goto 1301, 3), (1869, .aload_n 1, 1), (1870, .aload_n 0, 1), (1871, .iload_n 3, 1)]
theorem aJ_561_212 : sx_iB code aI_561_212 = true := by decide +kernel
def aI_561_213 : sx_IL := [(1872, .iconst 1, 1), (1873, .iadd, 1), (1874, .iaload, 1), (1875, .aload_n 0, 1), (1876, .iload_n 3, 1), (1877, .iconst 2, 1)]
theorem aJ_561_213 : sx_iB code aI_561_213 = true := by decide +kernel
def aI_561_214 : sx_IL := [(1878, .iadd, 1), (1879, .iaload, 1), (1880, .invokevirtual 184, 3), (1883, .pop, 1), (1884, .aload_n 2, 1), (1885, .aload_n 0, 1)]
theorem aJ_561_214 : sx_iB code aI_561_214 = true := by decide +kernel
def aI_561_215 : sx_IL := [(1886, .iload_n 3, 1), (1887, .iconst 1, 1), (1888, .iadd, 1), (1889, .iaload, 1), (1890, .aload_n 0, 1), (1891, .iload_n 3, 1)]
theorem aJ_561_215 : sx_iB code aI_561_215 = true := by decide +kernel
def aI_561_216 : sx_IL := [(1892, .iconst 2, 1), (1893, .iadd, 1), (1894, .iaload, 1), (1895, .invokevirtual 187, 3), (1898, .pop, 1), (1899, .goto 1268, 3)]
theorem aJ_561_216 : sx_iB code aI_561_216 = true := by decide +kernel
def aI_561_217 : sx_IL := [(1902, .aload_n 1, 1), (1903, .aload_n 0, 1), (1904, .iload_n 3, 1), (1905, .iconst 1, 1), (1906, .iadd, 1), (1907, .iaload, 1)]
theorem aJ_561_217 : sx_iB code aI_561_217 = true := by decide +kernel
def aI_561_218 : sx_IL := [(1908, .aload_n 0, 1), (1909, .iload_n 3, 1), (1910, .iconst 2, 1), (1911, .iadd, 1), (1912, .iaload, 1), (1913, .aload_n 0, 1)]
theorem aJ_561_218 : sx_iB code aI_561_218 = true := by decide +kernel
def aI_561_219 : sx_IL := [(1914, .iload_n 3, 1), (1915, .iconst 3, 1), (1916, .iadd, 1), (1917, .iaload, 1), (1918, .invokevirtual 188, 3), (1921, .pop, 1)]
theorem aJ_561_219 : sx_iB code aI_561_219 = true := by decide +kernel
def aI_561_220 : sx_IL := [(1922, .aload_n 2, 1), (1923, .aload_n 0, 1), (1924, .iload_n 3, 1), (1925, .iconst 1, 1), (1926, .iadd, 1), (1927, .iaload, 1)]
theorem aJ_561_220 : sx_iB code aI_561_220 = true := by decide +kernel
def aI_561_221 : sx_IL := [(1928, .aload_n 0, 1), (1929, .iload_n 3, 1), (1930, .iconst 2, 1), (1931, .iadd, 1), (1932, .iaload, 1), (1933, .aload_n 0, 1)]
theorem aJ_561_221 : sx_iB code aI_561_221 = true := by decide +kernel
def aI_561_222 : sx_IL := [(1934, .iload_n 3, 1), (1935, .iconst 3, 1), (1936, .iadd, 1), (1937, .iaload, 1), (1938, .invokevirtual 191, 3), (1941, .pop, 1)]
theorem aJ_561_222 : sx_iB code aI_561_222 = true := by decide +kernel
def aI_561_223 : sx_IL := [(1942, .goto 1225, 3), (1945, .aload_n 1, 1), (1946, .aload_n 0, 1), (1947, .iload_n 3, 1), (1948, .iconst 1, 1), (1949, .iadd, 1)]
theorem aJ_561_223 : sx_iB code aI_561_223 = true := by decide +kernel
def aI_561_224 : sx_IL := [(1950, .iaload, 1), (1951, .aload_n 0, 1), (1952, .iload_n 3, 1), (1953, .iconst 2, 1), (1954, .iadd, 1), (1955, .iaload, 1)]
theorem aJ_561_224 : sx_iB code aI_561_224 = true := by decide +kernel
def aI_561_225 : sx_IL := [(1956, .aload_n 0, 1), (1957, .iload_n 3, 1), (1958, .iconst 3, 1), (1959, .iadd, 1), (1960, .iaload, 1), (1961, .invokevirtual 192, 3)]
theorem aJ_561_225 : sx_iB code aI_561_225 = true := by decide +kernel
def aI_561_226 : sx_IL := [(1964, .pop, 1), (1965, .aload_n 2, 1), (1966, .aload_n 0, 1), (1967, .iload_n 3, 1), (1968, .iconst 1, 1), (1969, .iadd, 1)]
theorem aJ_561_226 : sx_iB code aI_561_226 = true := by decide +kernel
def aI_561_227 : sx_IL := [(1970, .iaload, 1), (1971, .aload_n 0, 1), (1972, .iload_n 3, 1), (1973, .iconst 2, 1), (1974, .iadd, 1), (1975, .iaload, 1)]
theorem aJ_561_227 : sx_iB code aI_561_227 = true := by decide +kernel
def aI_561_228 : sx_IL := [(1976, .aload_n 0, 1), (1977, .iload_n 3, 1), (1978, .iconst 3, 1), (1979, .iadd, 1), (1980, .iaload, 1), (1981, .invokevirtual 195, 3)]
theorem aJ_561_228 : sx_iB code aI_561_228 = true := by decide +kernel
def aI_561_229 : sx_IL := [(1984, .pop, 1), (1985, .goto 1182, 3), (1988, .aload_n 1, 1), (1989, .aload_n 0, 1), (1990, .iload_n 3, 1), (1991, .iconst 1, 1)]
theorem aJ_561_229 : sx_iB code aI_561_229 = true := by decide +kernel
def aI_561_230 : sx_IL := [(1992, .iadd, 1), (1993, .iaload, 1), (1994, .aload_n 0, 1), (1995, .iload_n 3, 1), (1996, .iconst 2, 1), (1997, .iadd, 1)]
theorem aJ_561_230 : sx_iB code aI_561_230 = true := by decide +kernel
def aI_561_231 : sx_IL := [(1998, .iaload, 1), (1999, .aload_n 0, 1), (2000, .iload_n 3, 1), (2001, .iconst 3, 1), (2002, .iadd, 1), (2003, .iaload, 1)]
theorem aJ_561_231 : sx_iB code aI_561_231 = true := by decide +kernel
def aI_561_232 : sx_IL := [(2004, .aload_n 0, 1), (2005, .iload_n 3, 1), (2006, .iconst 4, 1), (2007, .iadd, 1), (2008, .iaload, 1), (2009, .invokevirtual 196, 3)]
theorem aJ_561_232 : sx_iB code aI_561_232 = true := by decide +kernel
def aI_561_233 : sx_IL := [(2012, .pop, 1), (2013, .aload_n 2, 1), (2014, .aload_n 0, 1), (2015, .iload_n 3, 1), (2016, .iconst 1, 1), (2017, .iadd, 1)]
theorem aJ_561_233 : sx_iB code aI_561_233 = true := by decide +kernel
def aI_561_234 : sx_IL := [(2018, .iaload, 1), (2019, .aload_n 0, 1), (2020, .iload_n 3, 1), (2021, .iconst 2, 1), (2022, .iadd, 1), (2023, .iaload, 1)]
theorem aJ_561_234 : sx_iB code aI_561_234 = true := by decide +kernel
def aI_561_235 : sx_IL := [(2024, .aload_n 0, 1), (2025, .iload_n 3, 1), (2026, .iconst 3, 1), (2027, .iadd, 1), (2028, .iaload, 1), (2029, .aload_n 0, 1)]
theorem aJ_561_235 : sx_iB code aI_561_235 = true := by decide +kernel
def aI_561_236 : sx_IL := [(2030, .iload_n 3, 1), (2031, .iconst 4, 1), (2032, .iadd, 1), (2033, .iaload, 1), (2034, .invokevirtual 199, 3), (2037, .pop, 1)]
theorem aJ_561_236 : sx_iB code aI_561_236 = true := by decide +kernel
def aI_561_237 : sx_IL := [(2038, .goto 1129, 3), (2041, .aload_n 1, 1), (2042, .aload_n 0, 1), (2043, .iload_n 3, 1), (2044, .iconst 1, 1), (2045, .iadd, 1)]
theorem aJ_561_237 : sx_iB code aI_561_237 = true := by decide +kernel
def aI_561_238 : sx_IL := [(2046, .iaload, 1), (2047, .aload_n 0, 1), (2048, .iload_n 3, 1), (2049, .iconst 2, 1), (2050, .iadd, 1), (2051, .iaload, 1)]
theorem aJ_561_238 : sx_iB code aI_561_238 = true := by decide +kernel
def aI_561_239 : sx_IL := [(2052, .invokevirtual 200, 3), (2055, .pop, 1), (2056, .aload_n 2, 1), (2057, .aload_n 0, 1), (2058, .iload_n 3, 1), (2059, .iconst 1, 1)]
theorem aJ_561_239 : sx_iB code aI_561_239 = true := by decide +kernel
def aI_561_240 : sx_IL := [(2060, .iadd, 1), (2061, .iaload, 1), (2062, .aload_n 0, 1), (2063, .iload_n 3, 1), (2064, .iconst 2, 1), (2065, .iadd, 1)]
theorem aJ_561_240 : sx_iB code aI_561_240 = true := by decide +kernel
def aI_561_241 : sx_IL := [(2066, .iaload, 1), (2067, .invokevirtual 203, 3), (2070, .pop, 1), (2071, .goto 1096, 3), (2074, .aload_n 1, 1), (2075, .aload_n 0, 1)]
theorem aJ_561_241 : sx_iB code aI_561_241 = true := by decide +kernel
def aI_561_242 : sx_IL := [(2076, .iload_n 3, 1), (2077, .iconst 1, 1), (2078, .iadd, 1), (2079, .iaload, 1), (2080, .aload_n 0, 1), (2081, .iload_n 3, 1)]
theorem aJ_561_242 : sx_iB code aI_561_242 = true := by decide +kernel
def aI_561_243 : sx_IL := [(2082, .iconst 2, 1), (2083, .iadd, 1), (2084, .iaload, 1), (2085, .invokevirtual 204, 3), (2088, .pop, 1), (2089, .aload_n 2, 1)]
theorem aJ_561_243 : sx_iB code aI_561_243 = true := by decide +kernel
def aI_561_244 : sx_IL := [(2090, .aload_n 0, 1), (2091, .iload_n 3, 1), (2092, .iconst 1, 1), (2093, .iadd, 1), (2094, .iaload, 1), (2095, .aload_n 0, 1)]
theorem aJ_561_244 : sx_iB code aI_561_244 = true := by decide +kernel
def aI_561_245 : sx_IL := [(2096, .iload_n 3, 1), (2097, .iconst 2, 1), (2098, .iadd, 1), (2099, .iaload, 1), (2100, .invokevirtual 207, 3), (2103, .pop, 1)]
theorem aJ_561_245 : sx_iB code aI_561_245 = true := by decide +kernel
def aI_561_246 : sx_IL := [(2104, .goto 1063, 3), (2107, .aload_n 1, 1), (2108, .aload_n 0, 1), (2109, .iload_n 3, 1), (2110, .iconst 1, 1), (2111, .iadd, 1)]
theorem aJ_561_246 : sx_iB code aI_561_246 = true := by decide +kernel
def aI_561_247 : sx_IL := [(2112, .iaload, 1), (2113, .aload_n 0, 1), (2114, .iload_n 3, 1), (2115, .iconst 2, 1), (2116, .iadd, 1), (2117, .iaload, 1)]
theorem aJ_561_247 : sx_iB code aI_561_247 = true := by decide +kernel
def aI_561_248 : sx_IL := [(2118, .invokevirtual 208, 3), (2121, .pop, 1), (2122, .aload_n 2, 1), (2123, .aload_n 0, 1), (2124, .iload_n 3, 1), (2125, .iconst 1, 1)]
theorem aJ_561_248 : sx_iB code aI_561_248 = true := by decide +kernel
def aI_561_249 : sx_IL := [(2126, .iadd, 1), (2127, .iaload, 1), (2128, .aload_n 0, 1), (2129, .iload_n 3, 1), (2130, .iconst 2, 1), (2131, .iadd, 1)]
theorem aJ_561_249 : sx_iB code aI_561_249 = true := by decide +kernel
def aI_561_250 : sx_IL := [(2132, .iaload, 1), (2133, .invokevirtual 211, 3), (2136, .pop, 1), (2137, .goto 1030, 3), (2140, .aload_n 1, 1), (2141, .aload_n 0, 1)]
theorem aJ_561_250 : sx_iB code aI_561_250 = true := by decide +kernel
def aI_561_251 : sx_IL := [(2142, .iload_n 3, 1), (2143, .iconst 1, 1), (2144, .iadd, 1), (2145, .iaload, 1), (2146, .aload_n 0, 1), (2147, .iload_n 3, 1)]
theorem aJ_561_251 : sx_iB code aI_561_251 = true := by decide +kernel
def aI_561_252 : sx_IL := [(2148, .iconst 2, 1), (2149, .iadd, 1), (2150, .iaload, 1), (2151, .aload_n 0, 1), (2152, .iload_n 3, 1), (2153, .iconst 3, 1)]
theorem aJ_561_252 : sx_iB code aI_561_252 = true := by decide +kernel
def aI_561_253 : sx_IL := [(2154, .iadd, 1), (2155, .iaload, 1), (2156, .invokevirtual 212, 3), (2159, .pop, 1), (2160, .aload_n 2, 1), (2161, .aload_n 0, 1)]
theorem aJ_561_253 : sx_iB code aI_561_253 = true := by decide +kernel
def aI_561_254 : sx_IL := [(2162, .iload_n 3, 1), (2163, .iconst 1, 1), (2164, .iadd, 1), (2165, .iaload, 1), (2166, .aload_n 0, 1), (2167, .iload_n 3, 1)]
theorem aJ_561_254 : sx_iB code aI_561_254 = true := by decide +kernel
def aI_561_255 : sx_IL := [(2168, .iconst 2, 1), (2169, .iadd, 1), (2170, .iaload, 1), (2171, .aload_n 0, 1), (2172, .iload_n 3, 1), (2173, .iconst 3, 1)]
theorem aJ_561_255 : sx_iB code aI_561_255 = true := by decide +kernel
def aI_561_256 : sx_IL := [(2174, .iadd, 1), (2175, .iaload, 1), (2176, .invokevirtual 215, 3), (2179, .pop, 1), (2180, .goto 987, 3), (2183, .aload_n 1, 1)]
theorem aJ_561_256 : sx_iB code aI_561_256 = true := by decide +kernel
def aI_561_257 : sx_IL := [(2184, .aload_n 0, 1), (2185, .iload_n 3, 1), (2186, .iconst 1, 1), (2187, .iadd, 1), (2188, .iaload, 1), (2189, .aload_n 0, 1)]
theorem aJ_561_257 : sx_iB code aI_561_257 = true := by decide +kernel
def aI_561_258 : sx_IL := [(2190, .iload_n 3, 1), (2191, .iconst 2, 1), (2192, .iadd, 1), (2193, .iaload, 1), (2194, .aload_n 0, 1), (2195, .iload_n 3, 1)]
theorem aJ_561_258 : sx_iB code aI_561_258 = true := by decide +kernel
def aI_561_259 : sx_IL := [(2196, .iconst 3, 1), (2197, .iadd, 1), (2198, .iaload, 1), (2199, .invokevirtual 216, 3), (2202, .pop, 1), (2203, .aload_n 2, 1)]
theorem aJ_561_259 : sx_iB code aI_561_259 = true := by decide +kernel
def aI_561_260 : sx_IL := [(2204, .aload_n 0, 1), (2205, .iload_n 3, 1), (2206, .iconst 1, 1), (2207, .iadd, 1), (2208, .iaload, 1), (2209, .aload_n 0, 1)]
theorem aJ_561_260 : sx_iB code aI_561_260 = true := by decide +kernel
def aI_561_261 : sx_IL := [(2210, .iload_n 3, 1), (2211, .iconst 2, 1), (2212, .iadd, 1), (2213, .iaload, 1), (2214, .aload_n 0, 1), (2215, .iload_n 3, 1)]
theorem aJ_561_261 : sx_iB code aI_561_261 = true := by decide +kernel
def aI_561_262 : sx_IL := [(2216, .iconst 3, 1), (2217, .iadd, 1), (2218, .iaload, 1), (2219, .invokevirtual 219, 3), (2222, .pop, 1), (2223, .goto 944, 3)]
theorem aJ_561_262 : sx_iB code aI_561_262 = true := by decide +kernel
def aI_561_263 : sx_IL := [(2226, .aload_n 1, 1), (2227, .aload_n 0, 1), (2228, .iload_n 3, 1), (2229, .iconst 1, 1), (2230, .iadd, 1), (2231, .iaload, 1)]
theorem aJ_561_263 : sx_iB code aI_561_263 = true := by decide +kernel
def aI_561_264 : sx_IL := [(2232, .aload_n 0, 1), (2233, .iload_n 3, 1), (2234, .iconst 2, 1), (2235, .iadd, 1), (2236, .iaload, 1), (2237, .aload_n 0, 1)]
theorem aJ_561_264 : sx_iB code aI_561_264 = true := by decide +kernel
def aI_561_265 : sx_IL := [(2238, .iload_n 3, 1), (2239, .iconst 3, 1), (2240, .iadd, 1), (2241, .iaload, 1), (2242, .invokevirtual 220, 3), (2245, .pop2, 1)]
theorem aJ_561_265 : sx_iB code aI_561_265 = true := by decide +kernel
def aI_561_266 : sx_IL := [(2246, .aload_n 2, 1), (2247, .aload_n 0, 1), (2248, .iload_n 3, 1), (2249, .iconst 1, 1), (2250, .iadd, 1), (2251, .iaload, 1)]
theorem aJ_561_266 : sx_iB code aI_561_266 = true := by decide +kernel
def aI_561_267 : sx_IL := [(2252, .aload_n 0, 1), (2253, .iload_n 3, 1), (2254, .iconst 2, 1), (2255, .iadd, 1), (2256, .iaload, 1), (2257, .aload_n 0, 1)]
theorem aJ_561_267 : sx_iB code aI_561_267 = true := by decide +kernel
def aI_561_268 : sx_IL := [(2258, .iload_n 3, 1), (2259, .iconst 3, 1), (2260, .iadd, 1), (2261, .iaload, 1), (2262, .invokevirtual 223, 3), (2265, .pop2, 1)]
theorem aJ_561_268 : sx_iB code aI_561_268 = true := by decide +kernel
def aI_561_269 : sx_IL := [(2266, .goto 901, 3), (2269, .aload_n 1, 1), (2270, .aload_n 0, 1), (2271, .iload_n 3, 1), (2272, .iconst 1, 1), (2273, .iadd, 1)]
theorem aJ_561_269 : sx_iB code aI_561_269 = true := by decide +kernel
def aI_561_270 : sx_IL := [(2274, .iaload, 1), (2275, .aload_n 0, 1), (2276, .iload_n 3, 1), (2277, .iconst 2, 1), (2278, .iadd, 1), (2279, .iaload, 1)]
theorem aJ_561_270 : sx_iB code aI_561_270 = true := by decide +kernel
def aI_561_271 : sx_IL := [(2280, .invokevirtual 224, 3), (2283, .pop2, 1), (2284, .aload_n 2, 1), (2285, .aload_n 0, 1), (2286, .iload_n 3, 1), (2287, .iconst 1, 1)]
theorem aJ_561_271 : sx_iB code aI_561_271 = true := by decide +kernel
def aI_561_272 : sx_IL := [(2288, .iadd, 1), (2289, .iaload, 1), (2290, .aload_n 0, 1), (2291, .iload_n 3, 1), (2292, .iconst 2, 1), (2293, .iadd, 1)]
theorem aJ_561_272 : sx_iB code aI_561_272 = true := by decide +kernel
def aI_561_273 : sx_IL := [(2294, .iaload, 1), (2295, .invokevirtual 227, 3), (2298, .pop2, 1), (2299, .goto 868, 3), (2302, .aload_n 1, 1), (2303, .aload_n 0, 1)]
theorem aJ_561_273 : sx_iB code aI_561_273 = true := by decide +kernel
def aI_561_274 : sx_IL := [(2304, .iload_n 3, 1), (2305, .iconst 1, 1), (2306, .iadd, 1), (2307, .iaload, 1), (2308, .aload_n 0, 1), (2309, .iload_n 3, 1)]
theorem aJ_561_274 : sx_iB code aI_561_274 = true := by decide +kernel
def aI_561_275 : sx_IL := [(2310, .iconst 2, 1), (2311, .iadd, 1), (2312, .iaload, 1), (2313, .aload_n 0, 1), (2314, .iload_n 3, 1), (2315, .iconst 3, 1)]
theorem aJ_561_275 : sx_iB code aI_561_275 = true := by decide +kernel
def aI_561_276 : sx_IL := [(2316, .iadd, 1), (2317, .iaload, 1), (2318, .invokevirtual 228, 3), (2321, .pop, 1), (2322, .aload_n 2, 1), (2323, .aload_n 0, 1)]
theorem aJ_561_276 : sx_iB code aI_561_276 = true := by decide +kernel
def aI_561_277 : sx_IL := [(2324, .iload_n 3, 1), (2325, .iconst 1, 1), (2326, .iadd, 1), (2327, .iaload, 1), (2328, .aload_n 0, 1), (2329, .iload_n 3, 1)]
theorem aJ_561_277 : sx_iB code aI_561_277 = true := by decide +kernel
def aI_561_278 : sx_IL := [(2330, .iconst 2, 1), (2331, .iadd, 1), (2332, .iaload, 1), (2333, .aload_n 0, 1), (2334, .iload_n 3, 1), (2335, .iconst 3, 1)]
theorem aJ_561_278 : sx_iB code aI_561_278 = true := by decide +kernel
def aI_561_279 : sx_IL := [(2336, .iadd, 1), (2337, .iaload, 1), (2338, .invokevirtual 231, 3), (2341, .pop, 1), (2342, .goto 825, 3), (2345, .aload_n 1, 1)]
theorem aJ_561_279 : sx_iB code aI_561_279 = true := by decide +kernel
def aI_561_280 : sx_IL := [(2346, .aload_n 0, 1), (2347, .iload_n 3, 1), (2348, .iconst 1, 1), (2349, .iadd, 1), (2350, .iaload, 1), (2351, .aload_n 0, 1)]
theorem aJ_561_280 : sx_iB code aI_561_280 = true := by decide +kernel
def aI_561_281 : sx_IL := [(2352, .iload_n 3, 1), (2353, .iconst 2, 1), (2354, .iadd, 1), (2355, .iaload, 1), (2356, .i2l, 1), (2357, .bipush 32, 2)]
theorem aJ_561_281 : sx_iB code aI_561_281 = true := by decide +kernel
def aI_561_282 : sx_IL := [(2359, .lshl, 1), (2360, .aload_n 0, 1), (2361, .iload_n 3, 1), (2362, .iconst 3, 1), (2363, .iadd, 1), (2364, .iaload, 1)]
theorem aJ_561_282 : sx_iB code aI_561_282 = true := by decide +kernel
def aI_561_283 : sx_IL := [(2365, .i2l, 1), (2366, .ldc2_w 13, 3), (2369, .land, 1), (2370, .lor, 1), (2371, .invokevirtual 232, 3), (2374, .pop, 1)]
theorem aJ_561_283 : sx_iB code aI_561_283 = true := by decide +kernel
def aI_561_284 : sx_IL := [(2375, .aload_n 2, 1), (2376, .aload_n 0, 1), (2377, .iload_n 3, 1), (2378, .iconst 1, 1), (2379, .iadd, 1), (2380, .iaload, 1)]
theorem aJ_561_284 : sx_iB code aI_561_284 = true := by decide +kernel
def aI_561_285 : sx_IL := [(2381, .aload_n 0, 1), (2382, .iload_n 3, 1), (2383, .iconst 2, 1), (2384, .iadd, 1), (2385, .iaload, 1), (2386, .i2l, 1)]
theorem aJ_561_285 : sx_iB code aI_561_285 = true := by decide +kernel
def aI_561_286 : sx_IL := [(2387, .bipush 32, 2), (2389, .lshl, 1), (2390, .aload_n 0, 1), (2391, .iload_n 3, 1), (2392, .iconst 3, 1), (2393, .iadd, 1)]
theorem aJ_561_286 : sx_iB code aI_561_286 = true := by decide +kernel
def aI_561_287 : sx_IL := [(2394, .iaload, 1), (2395, .i2l, 1), (2396, .ldc2_w 13, 3), (2399, .land, 1), (2400, .lor, 1), (2401, .invokevirtual 235, 3)]
theorem aJ_561_287 : sx_iB code aI_561_287 = true := by decide +kernel
def aI_561_288 : sx_IL := [(2404, .pop, 1), (2405, .goto 762, 3), (2408, .aload_n 1, 1), (2409, .aload_n 0, 1), (2410, .iload_n 3, 1), (2411, .iconst 1, 1)]
theorem aJ_561_288 : sx_iB code aI_561_288 = true := by decide +kernel
def aI_561_289 : sx_IL := [(2412, .iadd, 1), (2413, .iaload, 1), (2414, .aload_n 0, 1), (2415, .iload_n 3, 1), (2416, .iconst 2, 1), (2417, .iadd, 1)]
theorem aJ_561_289 : sx_iB code aI_561_289 = true := by decide +kernel
def aI_561_290 : sx_IL := [(2418, .iaload, 1), (2419, .invokevirtual 236, 3), (2422, .pop, 1), (2423, .aload_n 2, 1), (2424, .aload_n 0, 1), (2425, .iload_n 3, 1)]
theorem aJ_561_290 : sx_iB code aI_561_290 = true := by decide +kernel
def aI_561_291 : sx_IL := [(2426, .iconst 1, 1), (2427, .iadd, 1), (2428, .iaload, 1), (2429, .aload_n 0, 1), (2430, .iload_n 3, 1), (2431, .iconst 2, 1)]
theorem aJ_561_291 : sx_iB code aI_561_291 = true := by decide +kernel
def aI_561_292 : sx_IL := [(2432, .iadd, 1), (2433, .iaload, 1), (2434, .invokevirtual 239, 3), (2437, .pop, 1), (2438, .goto 729, 3), (2441, .aload_n 1, 1)]
theorem aJ_561_292 : sx_iB code aI_561_292 = true := by decide +kernel
def aI_561_293 : sx_IL := [(2442, .aload_n 0, 1), (2443, .iload_n 3, 1), (2444, .iconst 1, 1), (2445, .iadd, 1), (2446, .iaload, 1), (2447, .aload_n 0, 1)]
theorem aJ_561_293 : sx_iB code aI_561_293 = true := by decide +kernel
def aI_561_294 : sx_IL := [(2448, .iload_n 3, 1), (2449, .iconst 2, 1), (2450, .iadd, 1), (2451, .iaload, 1), (2452, .aload_n 0, 1), (2453, .iload_n 3, 1)]
theorem aJ_561_294 : sx_iB code aI_561_294 = true := by decide +kernel
def aI_561_295 : sx_IL := [(2454, .iconst 3, 1), (2455, .iadd, 1), (2456, .iaload, 1), (2457, .invokevirtual 240, 3), (2460, .pop, 1), (2461, .aload_n 2, 1)]
theorem aJ_561_295 : sx_iB code aI_561_295 = true := by decide +kernel
def aI_561_296 : sx_IL := [(2462, .aload_n 0, 1), (2463, .iload_n 3, 1), (2464, .iconst 1, 1), (2465, .iadd, 1), (2466, .iaload, 1), (2467, .aload_n 0, 1)]
theorem aJ_561_296 : sx_iB code aI_561_296 = true := by decide +kernel
def aI_561_297 : sx_IL := [(2468, .iload_n 3, 1), (2469, .iconst 2, 1), (2470, .iadd, 1), (2471, .iaload, 1), (2472, .aload_n 0, 1), (2473, .iload_n 3, 1)]
theorem aJ_561_297 : sx_iB code aI_561_297 = true := by decide +kernel
def aI_561_298 : sx_IL := [(2474, .iconst 3, 1), (2475, .iadd, 1), (2476, .iaload, 1), (2477, .invokevirtual 243, 3), (2480, .pop, 1), (2481, .goto 686, 3)]
theorem aJ_561_298 : sx_iB code aI_561_298 = true := by decide +kernel
def aI_561_299 : sx_IL := [(2484, .aload_n 1, 1), (2485, .aload_n 0, 1), (2486, .iload_n 3, 1), (2487, .iconst 1, 1), (2488, .iadd, 1), (2489, .iaload, 1)]
theorem aJ_561_299 : sx_iB code aI_561_299 = true := by decide +kernel
def aI_561_300 : sx_IL := [(2490, .i2l, 1), (2491, .bipush 32, 2), (2493, .lshl, 1), (2494, .aload_n 0, 1), (2495, .iload_n 3, 1), (2496, .iconst 2, 1)]
theorem aJ_561_300 : sx_iB code aI_561_300 = true := by decide +kernel
def aI_561_301 : sx_IL := [(2497, .iadd, 1), (2498, .iaload, 1), (2499, .i2l, 1), (2500, .ldc2_w 13, 3), (2503, .land, 1), (2504, .lor, 1)]
theorem aJ_561_301 : sx_iB code aI_561_301 = true := by decide +kernel
def aI_561_302 : sx_IL := [(2505, .invokevirtual 244, 3), (2508, .pop, 1), (2509, .aload_n 2, 1), (2510, .aload_n 0, 1), (2511, .iload_n 3, 1), (2512, .iconst 1, 1)]
theorem aJ_561_302 : sx_iB code aI_561_302 = true := by decide +kernel
def aI_561_303 : sx_IL := [(2513, .iadd, 1), (2514, .iaload, 1), (2515, .i2l, 1), (2516, .bipush 32, 2), (2518, .lshl, 1), (2519, .aload_n 0, 1)]
theorem aJ_561_303 : sx_iB code aI_561_303 = true := by decide +kernel
def aI_561_304 : sx_IL := [(2520, .iload_n 3, 1), (2521, .iconst 2, 1), (2522, .iadd, 1), (2523, .iaload, 1), (2524, .i2l, 1), (2525, .ldc2_w 13, 3)]
theorem aJ_561_304 : sx_iB code aI_561_304 = true := by decide +kernel
def aI_561_305 : sx_IL := [(2528, .land, 1), (2529, .lor, 1), (2530, .invokevirtual 248, 3), (2533, .pop, 1), (2534, .goto 633, 3), (2537, .aload_n 1, 1)]
theorem aJ_561_305 : sx_iB code aI_561_305 = true := by decide +kernel
def aI_561_306 : sx_IL := [(2538, .aload_n 0, 1), (2539, .iload_n 3, 1), (2540, .iconst 1, 1), (2541, .iadd, 1), (2542, .iaload, 1), (2543, .aload_n 0, 1)]
theorem aJ_561_306 : sx_iB code aI_561_306 = true := by decide +kernel
def aI_561_307 : sx_IL := [(2544, .iload_n 3, 1), (2545, .iconst 2, 1), (2546, .iadd, 1), (2547, .iaload, 1), (2548, .aload_n 0, 1), (2549, .iload_n 3, 1)]
theorem aJ_561_307 : sx_iB code aI_561_307 = true := by decide +kernel
def aI_561_308 : sx_IL := [(2550, .iconst 3, 1), (2551, .iadd, 1), (2552, .iaload, 1), (2553, .invokevirtual 249, 3), (2556, .pop, 1), (2557, .aload_n 2, 1)]
theorem aJ_561_308 : sx_iB code aI_561_308 = true := by decide +kernel
def aI_561_309 : sx_IL := [(2558, .aload_n 0, 1), (2559, .iload_n 3, 1), (2560, .iconst 1, 1), (2561, .iadd, 1), (2562, .iaload, 1), (2563, .aload_n 0, 1)]
theorem aJ_561_309 : sx_iB code aI_561_309 = true := by decide +kernel
def aI_561_310 : sx_IL := [(2564, .iload_n 3, 1), (2565, .iconst 2, 1), (2566, .iadd, 1), (2567, .iaload, 1), (2568, .aload_n 0, 1), (2569, .iload_n 3, 1)]
theorem aJ_561_310 : sx_iB code aI_561_310 = true := by decide +kernel
def aI_561_311 : sx_IL := [(2570, .iconst 3, 1), (2571, .iadd, 1), (2572, .iaload, 1), (2573, .invokevirtual 252, 3), (2576, .pop, 1), (2577, .goto 590, 3)]
theorem aJ_561_311 : sx_iB code aI_561_311 = true := by decide +kernel
def aI_561_312 : sx_IL := [(2580, .aload_n 1, 1), (2581, .aload_n 0, 1), (2582, .iload_n 3, 1), (2583, .iconst 1, 1), (2584, .iadd, 1), (2585, .iaload, 1)]
theorem aJ_561_312 : sx_iB code aI_561_312 = true := by decide +kernel
def aI_561_313 : sx_IL := [(2586, .aload_n 0, 1), (2587, .iload_n 3, 1), (2588, .iconst 2, 1), (2589, .iadd, 1), (2590, .iaload, 1), (2591, .aload_n 0, 1)]
theorem aJ_561_313 : sx_iB code aI_561_313 = true := by decide +kernel
def aI_561_314 : sx_IL := [(2592, .iload_n 3, 1), (2593, .iconst 3, 1), (2594, .iadd, 1), (2595, .iaload, 1), (2596, .aload_n 0, 1), (2597, .iload_n 3, 1)]
theorem aJ_561_314 : sx_iB code aI_561_314 = true := by decide +kernel
def aI_561_315 : sx_IL := [(2598, .iconst 4, 1), (2599, .iadd, 1), (2600, .iaload, 1), (2601, .invokevirtual 253, 3), (2604, .pop, 1), (2605, .aload_n 2, 1)]
theorem aJ_561_315 : sx_iB code aI_561_315 = true := by decide +kernel
def aI_561_316 : sx_IL := [(2606, .aload_n 0, 1), (2607, .iload_n 3, 1), (2608, .iconst 1, 1), (2609, .iadd, 1), (2610, .iaload, 1), (2611, .aload_n 0, 1)]
theorem aJ_561_316 : sx_iB code aI_561_316 = true := by decide +kernel
def aI_561_317 : sx_IL := [(2612, .iload_n 3, 1), (2613, .iconst 2, 1), (2614, .iadd, 1), (2615, .iaload, 1), (2616, .aload_n 0, 1), (2617, .iload_n 3, 1)]
theorem aJ_561_317 : sx_iB code aI_561_317 = true := by decide +kernel
def aI_561_318 : sx_IL := [(2618, .iconst 3, 1), (2619, .iadd, 1), (2620, .iaload, 1), (2621, .aload_n 0, 1), (2622, .iload_n 3, 1), (2623, .iconst 4, 1)]
theorem aJ_561_318 : sx_iB code aI_561_318 = true := by decide +kernel
def aI_561_319 : sx_IL := [(2624, .iadd, 1), (2625, .iaload, 1), (2626, .invokevirtual 256, 3), (2629, .pop, 1), (2630, .goto 537, 3), (2633, .aload_n 1, 1)]
theorem aJ_561_319 : sx_iB code aI_561_319 = true := by decide +kernel
def aI_561_320 : sx_IL := [(2634, .aload_n 0, 1), (2635, .iload_n 3, 1), (2636, .iconst 1, 1), (2637, .iadd, 1), (2638, .iaload, 1), (2639, .aload_n 0, 1)]
theorem aJ_561_320 : sx_iB code aI_561_320 = true := by decide +kernel
def aI_561_321 : sx_IL := [(2640, .iload_n 3, 1), (2641, .iconst 2, 1), (2642, .iadd, 1), (2643, .iaload, 1), (2644, .invokevirtual 257, 3), (2647, .pop, 1)]
theorem aJ_561_321 : sx_iB code aI_561_321 = true := by decide +kernel
def aI_561_322 : sx_IL := [(2648, .aload_n 2, 1), (2649, .aload_n 0, 1), (2650, .iload_n 3, 1), (2651, .iconst 1, 1), (2652, .iadd, 1), (2653, .iaload, 1)]
theorem aJ_561_322 : sx_iB code aI_561_322 = true := by decide +kernel
def aI_561_323 : sx_IL := [(2654, .aload_n 0, 1), (2655, .iload_n 3, 1), (2656, .iconst 2, 1), (2657, .iadd, 1), (2658, .iaload, 1), (2659, .invokevirtual 260, 3)]
theorem aJ_561_323 : sx_iB code aI_561_323 = true := by decide +kernel
def aI_561_324 : sx_IL := [(2662, .pop, 1), (2663, .goto 504, 3), (2666, .aload_n 1, 1), (2667, .aload_n 0, 1), (2668, .iload_n 3, 1), (2669, .iconst 1, 1)]
theorem aJ_561_324 : sx_iB code aI_561_324 = true := by decide +kernel
def aI_561_325 : sx_IL := [(2670, .iadd, 1), (2671, .iaload, 1), (2672, .aload_n 0, 1), (2673, .iload_n 3, 1), (2674, .iconst 2, 1), (2675, .iadd, 1)]
theorem aJ_561_325 : sx_iB code aI_561_325 = true := by decide +kernel
def aI_561_326 : sx_IL := [(2676, .iaload, 1), (2677, .invokevirtual 261, 3), (2680, .pop, 1), (2681, .aload_n 2, 1), (2682, .aload_n 0, 1), (2683, .iload_n 3, 1)]
theorem aJ_561_326 : sx_iB code aI_561_326 = true := by decide +kernel
def aI_561_327 : sx_IL := [(2684, .iconst 1, 1), (2685, .iadd, 1), (2686, .iaload, 1), (2687, .aload_n 0, 1), (2688, .iload_n 3, 1), (2689, .iconst 2, 1)]
theorem aJ_561_327 : sx_iB code aI_561_327 = true := by decide +kernel
def aI_561_328 : sx_IL := [(2690, .iadd, 1), (2691, .iaload, 1), (2692, .invokevirtual 264, 3), (2695, .pop, 1), (2696, .goto 471, 3), (2699, .aload_n 1, 1)]
theorem aJ_561_328 : sx_iB code aI_561_328 = true := by decide +kernel
def aI_561_329 : sx_IL := [(2700, .aload_n 0, 1), (2701, .iload_n 3, 1), (2702, .iconst 1, 1), (2703, .iadd, 1), (2704, .iaload, 1), (2705, .aload_n 0, 1)]
theorem aJ_561_329 : sx_iB code aI_561_329 = true := by decide +kernel
def aI_561_330 : sx_IL := [(2706, .iload_n 3, 1), (2707, .iconst 2, 1), (2708, .iadd, 1), (2709, .iaload, 1), (2710, .aload_n 0, 1), (2711, .iload_n 3, 1)]
theorem aJ_561_330 : sx_iB code aI_561_330 = true := by decide +kernel
def aI_561_331 : sx_IL := [(2712, .iconst 3, 1), (2713, .iadd, 1), (2714, .iaload, 1), (2715, .invokevirtual 265, 3), (2718, .pop, 1), (2719, .aload_n 2, 1)]
theorem aJ_561_331 : sx_iB code aI_561_331 = true := by decide +kernel
def aI_561_332 : sx_IL := [(2720, .aload_n 0, 1), (2721, .iload_n 3, 1), (2722, .iconst 1, 1), (2723, .iadd, 1), (2724, .iaload, 1), (2725, .aload_n 0, 1)]
theorem aJ_561_332 : sx_iB code aI_561_332 = true := by decide +kernel
def aI_561_333 : sx_IL := [(2726, .iload_n 3, 1), (2727, .iconst 2, 1), (2728, .iadd, 1), (2729, .iaload, 1), (2730, .aload_n 0, 1), (2731, .iload_n 3, 1)]
theorem aJ_561_333 : sx_iB code aI_561_333 = true := by decide +kernel
def aI_561_334 : sx_IL := [(2732, .iconst 3, 1), (2733, .iadd, 1), (2734, .iaload, 1), (2735, .invokevirtual 268, 3), (2738, .pop, 1), (2739, .goto 428, 3)]
theorem aJ_561_334 : sx_iB code aI_561_334 = true := by decide +kernel
def aI_561_335 : sx_IL := [(2742, .aload_n 1, 1), (2743, .invokevirtual 269, 3), (2746, .pop, 1), (2747, .aload_n 2, 1), (2748, .invokevirtual 272, 3), (2751, .pop, 1)]
theorem aJ_561_335 : sx_iB code aI_561_335 = true := by decide +kernel
def aI_561_336 : sx_IL := [(2752, .goto 415, 3), (2755, .aload_n 1, 1), (2756, .aload_n 0, 1), (2757, .iload_n 3, 1), (2758, .iconst 1, 1), (2759, .iadd, 1)]
theorem aJ_561_336 : sx_iB code aI_561_336 = true := by decide +kernel
def aI_561_337 : sx_IL := [(2760, .iaload, 1), (2761, .aload_n 0, 1), (2762, .iload_n 3, 1), (2763, .iconst 2, 1), (2764, .iadd, 1), (2765, .iaload, 1)]
theorem aJ_561_337 : sx_iB code aI_561_337 = true := by decide +kernel
def aI_561_338 : sx_IL := [(2766, .i2l, 1), (2767, .bipush 32, 2), (2769, .lshl, 1), (2770, .aload_n 0, 1), (2771, .iload_n 3, 1), (2772, .iconst 3, 1)]
theorem aJ_561_338 : sx_iB code aI_561_338 = true := by decide +kernel
def aI_561_339 : sx_IL := [(2773, .iadd, 1), (2774, .iaload, 1), (2775, .i2l, 1), (2776, .ldc2_w 13, 3), (2779, .land, 1), (2780, .lor, 1)]
theorem aJ_561_339 : sx_iB code aI_561_339 = true := by decide +kernel
def aI_561_340 : sx_IL := [(2781, .invokevirtual 273, 3), (2784, .pop, 1), (2785, .aload_n 2, 1), (2786, .aload_n 0, 1), (2787, .iload_n 3, 1), (2788, .iconst 1, 1)]
theorem aJ_561_340 : sx_iB code aI_561_340 = true := by decide +kernel
def aI_561_341 : sx_IL := [(2789, .iadd, 1), (2790, .iaload, 1), (2791, .aload_n 0, 1), (2792, .iload_n 3, 1), (2793, .iconst 2, 1), (2794, .iadd, 1)]
theorem aJ_561_341 : sx_iB code aI_561_341 = true := by decide +kernel
def aI_561_342 : sx_IL := [(2795, .iaload, 1), (2796, .i2l, 1), (2797, .bipush 32, 2), (2799, .lshl, 1), (2800, .aload_n 0, 1), (2801, .iload_n 3, 1)]
theorem aJ_561_342 : sx_iB code aI_561_342 = true := by decide +kernel
def aI_561_343 : sx_IL := [(2802, .iconst 3, 1), (2803, .iadd, 1), (2804, .iaload, 1), (2805, .i2l, 1), (2806, .ldc2_w 13, 3), (2809, .land, 1)]
theorem aJ_561_343 : sx_iB code aI_561_343 = true := by decide +kernel
def aI_561_344 : sx_IL := [(2810, .lor, 1), (2811, .invokevirtual 276, 3), (2814, .pop, 1), (2815, .goto 352, 3), (2818, .aload_n 1, 1), (2819, .aload_n 0, 1)]
theorem aJ_561_344 : sx_iB code aI_561_344 = true := by decide +kernel
def aI_561_345 : sx_IL := [(2820, .iload_n 3, 1), (2821, .iconst 1, 1), (2822, .iadd, 1), (2823, .iaload, 1), (2824, .aload_n 0, 1), (2825, .iload_n 3, 1)]
theorem aJ_561_345 : sx_iB code aI_561_345 = true := by decide +kernel
def aI_561_346 : sx_IL := [(2826, .iconst 2, 1), (2827, .iadd, 1), (2828, .iaload, 1), (2829, .invokevirtual 277, 3), (2832, .pop2, 1), (2833, .aload_n 2, 1)]
theorem aJ_561_346 : sx_iB code aI_561_346 = true := by decide +kernel
def aI_561_347 : sx_IL := [(2834, .aload_n 0, 1), (2835, .iload_n 3, 1), (2836, .iconst 1, 1), (2837, .iadd, 1), (2838, .iaload, 1), (2839, .aload_n 0, 1)]
theorem aJ_561_347 : sx_iB code aI_561_347 = true := by decide +kernel
def aI_561_348 : sx_IL := [(2840, .iload_n 3, 1), (2841, .iconst 2, 1), (2842, .iadd, 1), (2843, .iaload, 1), (2844, .invokevirtual 280, 3), (2847, .pop2, 1)]
theorem aJ_561_348 : sx_iB code aI_561_348 = true := by decide +kernel
def aI_561_349 : sx_IL := [(2848, .goto 319, 3), (2851, .aload_n 1, 1), (2852, .aload_n 0, 1), (2853, .iload_n 3, 1), (2854, .iconst 1, 1), (2855, .iadd, 1)]
theorem aJ_561_349 : sx_iB code aI_561_349 = true := by decide +kernel
def aI_561_350 : sx_IL := [(2856, .iaload, 1), (2857, .aload_n 0, 1), (2858, .iload_n 3, 1), (2859, .iconst 2, 1), (2860, .iadd, 1), (2861, .iaload, 1)]
theorem aJ_561_350 : sx_iB code aI_561_350 = true := by decide +kernel
def aI_561_351 : sx_IL := [(2862, .aload_n 0, 1), (2863, .iload_n 3, 1), (2864, .iconst 3, 1), (2865, .iadd, 1), (2866, .iaload, 1), (2867, .invokevirtual 281, 3)]
theorem aJ_561_351 : sx_iB code aI_561_351 = true := by decide +kernel
def aI_561_352 : sx_IL := [(2870, .pop, 1), (2871, .aload_n 2, 1), (2872, .aload_n 0, 1), (2873, .iload_n 3, 1), (2874, .iconst 1, 1), (2875, .iadd, 1)]
theorem aJ_561_352 : sx_iB code aI_561_352 = true := by decide +kernel
def aI_561_353 : sx_IL := [(2876, .iaload, 1), (2877, .aload_n 0, 1), (2878, .iload_n 3, 1), (2879, .iconst 2, 1), (2880, .iadd, 1), (2881, .iaload, 1)]
theorem aJ_561_353 : sx_iB code aI_561_353 = true := by decide +kernel
def aI_561_354 : sx_IL := [(2882, .aload_n 0, 1), (2883, .iload_n 3, 1), (2884, .iconst 3, 1), (2885, .iadd, 1), (2886, .iaload, 1), (2887, .invokevirtual 284, 3)]
theorem aJ_561_354 : sx_iB code aI_561_354 = true := by decide +kernel
def aI_561_355 : sx_IL := [(2890, .pop, 1), (2891, .goto 276, 3), (2894, .aload_n 1, 1), (2895, .aload_n 0, 1), (2896, .iload_n 3, 1), (2897, .iconst 1, 1)]
theorem aJ_561_355 : sx_iB code aI_561_355 = true := by decide +kernel
def aI_561_356 : sx_IL := [(2898, .iadd, 1), (2899, .iaload, 1), (2900, .aload_n 0, 1), (2901, .iload_n 3, 1), (2902, .iconst 2, 1), (2903, .iadd, 1)]
theorem aJ_561_356 : sx_iB code aI_561_356 = true := by decide +kernel
def aI_561_357 : sx_IL := [(2904, .iaload, 1), (2905, .aload_n 0, 1), (2906, .iload_n 3, 1), (2907, .iconst 3, 1), (2908, .iadd, 1), (2909, .iaload, 1)]
theorem aJ_561_357 : sx_iB code aI_561_357 = true := by decide +kernel
def aI_561_358 : sx_IL := [(2910, .invokevirtual 285, 3), (2913, .pop, 1), (2914, .aload_n 2, 1), (2915, .aload_n 0, 1), (2916, .iload_n 3, 1), (2917, .iconst 1, 1)]
theorem aJ_561_358 : sx_iB code aI_561_358 = true := by decide +kernel
def aI_561_359 : sx_IL := [(2918, .iadd, 1), (2919, .iaload, 1), (2920, .aload_n 0, 1), (2921, .iload_n 3, 1), (2922, .iconst 2, 1), (2923, .iadd, 1)]
theorem aJ_561_359 : sx_iB code aI_561_359 = true := by decide +kernel
def aI_561_360 : sx_IL := [(2924, .iaload, 1), (2925, .aload_n 0, 1), (2926, .iload_n 3, 1), (2927, .iconst 3, 1), (2928, .iadd, 1), (2929, .iaload, 1)]
theorem aJ_561_360 : sx_iB code aI_561_360 = true := by decide +kernel
def aI_561_361 : sx_IL := [(2930, .invokevirtual 288, 3), (2933, .pop, 1), (2934, .goto 233, 3), (2937, .aload_n 1, 1), (2938, .aload_n 0, 1), (2939, .iload_n 3, 1)]
theorem aJ_561_361 : sx_iB code aI_561_361 = true := by decide +kernel
def aI_561_362 : sx_IL := [(2940, .iconst 1, 1), (2941, .iadd, 1), (2942, .iaload, 1), (2943, .i2l, 1), (2944, .bipush 32, 2), (2946, .lshl, 1)]
theorem aJ_561_362 : sx_iB code aI_561_362 = true := by decide +kernel
def aI_561_363 : sx_IL := [(2947, .aload_n 0, 1), (2948, .iload_n 3, 1), (2949, .iconst 2, 1), (2950, .iadd, 1), (2951, .iaload, 1), (2952, .i2l, 1)]
theorem aJ_561_363 : sx_iB code aI_561_363 = true := by decide +kernel
def aI_561_364 : sx_IL := [(2953, .ldc2_w 13, 3), (2956, .land, 1), (2957, .lor, 1), (2958, .aload_n 0, 1), (2959, .iload_n 3, 1), (2960, .iconst 3, 1)]
theorem aJ_561_364 : sx_iB code aI_561_364 = true := by decide +kernel
def aI_561_365 : sx_IL := [(2961, .iadd, 1), (2962, .iaload, 1), (2963, .aload_n 0, 1), (2964, .iload_n 3, 1), (2965, .iconst 4, 1), (2966, .iadd, 1)]
theorem aJ_561_365 : sx_iB code aI_561_365 = true := by decide +kernel
def aI_561_366 : sx_IL := [(2967, .iaload, 1), (2968, .aload_n 0, 1), (2969, .iload_n 3, 1), (2970, .iconst 5, 1), (2971, .iadd, 1), (2972, .iaload, 1)]
theorem aJ_561_366 : sx_iB code aI_561_366 = true := by decide +kernel
def aI_561_367 : sx_IL := [(2973, .i2l, 1), (2974, .bipush 32, 2), (2976, .lshl, 1), (2977, .aload_n 0, 1), (2978, .iload_n 3, 1), (2979, .bipush 6, 2)]
theorem aJ_561_367 : sx_iB code aI_561_367 = true := by decide +kernel
def aI_561_368 : sx_IL := [(2981, .iadd, 1), (2982, .iaload, 1), (2983, .i2l, 1), (2984, .ldc2_w 13, 3), (2987, .land, 1), (2988, .lor, 1)]
theorem aJ_561_368 : sx_iB code aI_561_368 = true := by decide +kernel
def aI_561_369 : sx_IL := [(2989, .invokevirtual 289, 3), (2992, .pop, 1), (2993, .aload_n 2, 1), (2994, .aload_n 0, 1), (2995, .iload_n 3, 1), (2996, .iconst 1, 1)]
theorem aJ_561_369 : sx_iB code aI_561_369 = true := by decide +kernel
def aI_561_370 : sx_IL := [(2997, .iadd, 1), (2998, .iaload, 1), (2999, .i2l, 1), (3000, .bipush 32, 2), (3002, .lshl, 1), (3003, .aload_n 0, 1)]
theorem aJ_561_370 : sx_iB code aI_561_370 = true := by decide +kernel
def aI_561_371 : sx_IL := [(3004, .iload_n 3, 1), (3005, .iconst 2, 1), (3006, .iadd, 1), (3007, .iaload, 1), (3008, .i2l, 1), (3009, .ldc2_w 13, 3)]
theorem aJ_561_371 : sx_iB code aI_561_371 = true := by decide +kernel
def aI_561_372 : sx_IL := [(3012, .land, 1), (3013, .lor, 1), (3014, .aload_n 0, 1), (3015, .iload_n 3, 1), (3016, .iconst 3, 1), (3017, .iadd, 1)]
theorem aJ_561_372 : sx_iB code aI_561_372 = true := by decide +kernel
def aI_561_373 : sx_IL := [(3018, .iaload, 1), (3019, .aload_n 0, 1), (3020, .iload_n 3, 1), (3021, .iconst 4, 1), (3022, .iadd, 1), (3023, .iaload, 1)]
theorem aJ_561_373 : sx_iB code aI_561_373 = true := by decide +kernel
def aI_561_374 : sx_IL := [(3024, .aload_n 0, 1), (3025, .iload_n 3, 1), (3026, .iconst 5, 1), (3027, .iadd, 1), (3028, .iaload, 1), (3029, .i2l, 1)]
theorem aJ_561_374 : sx_iB code aI_561_374 = true := by decide +kernel
def aI_561_375 : sx_IL := [(3030, .bipush 32, 2), (3032, .lshl, 1), (3033, .aload_n 0, 1), (3034, .iload_n 3, 1), (3035, .bipush 6, 2), (3037, .iadd, 1)]
theorem aJ_561_375 : sx_iB code aI_561_375 = true := by decide +kernel
def aI_561_376 : sx_IL := [(3038, .iaload, 1), (3039, .i2l, 1), (3040, .ldc2_w 13, 3), (3043, .land, 1), (3044, .lor, 1), (3045, .invokevirtual 293, 3)]
theorem aJ_561_376 : sx_iB code aI_561_376 = true := by decide +kernel
def aI_561_377 : sx_IL := [(3048, .pop, 1), (3049, .goto 118, 3), (3052, .aload_n 1, 1), (3053, .aload_n 0, 1), (3054, .iload_n 3, 1), (3055, .iconst 1, 1)]
theorem aJ_561_377 : sx_iB code aI_561_377 = true := by decide +kernel
def aI_561_378 : sx_IL := [(3056, .iadd, 1), (3057, .iaload, 1), (3058, .aload_n 0, 1), (3059, .iload_n 3, 1), (3060, .iconst 2, 1), (3061, .iadd, 1)]
theorem aJ_561_378 : sx_iB code aI_561_378 = true := by decide +kernel
def aI_561_379 : sx_IL := [(3062, .iaload, 1), (3063, .aload_n 0, 1), (3064, .iload_n 3, 1), (3065, .iconst 3, 1), (3066, .iadd, 1), (3067, .iaload, 1)]
theorem aJ_561_379 : sx_iB code aI_561_379 = true := by decide +kernel
def aI_561_380 : sx_IL := [(3068, .i2l, 1), (3069, .bipush 32, 2), (3071, .lshl, 1), (3072, .aload_n 0, 1), (3073, .iload_n 3, 1), (3074, .iconst 4, 1)]
theorem aJ_561_380 : sx_iB code aI_561_380 = true := by decide +kernel
def aI_561_381 : sx_IL := [(3075, .iadd, 1), (3076, .iaload, 1), (3077, .i2l, 1), (3078, .ldc2_w 13, 3), (3081, .land, 1), (3082, .lor, 1)]
theorem aJ_561_381 : sx_iB code aI_561_381 = true := by decide +kernel
def aI_561_382 : sx_IL := [(3083, .aload_n 0, 1), (3084, .iload_n 3, 1), (3085, .iconst 5, 1), (3086, .iadd, 1), (3087, .iaload, 1), (3088, .i2l, 1)]
theorem aJ_561_382 : sx_iB code aI_561_382 = true := by decide +kernel
def aI_561_383 : sx_IL := [(3089, .bipush 32, 2), (3091, .lshl, 1), (3092, .aload_n 0, 1), (3093, .iload_n 3, 1), (3094, .bipush 6, 2), (3096, .iadd, 1)]
theorem aJ_561_383 : sx_iB code aI_561_383 = true := by decide +kernel
def aI_561_384 : sx_IL := [(3097, .iaload, 1), (3098, .i2l, 1), (3099, .ldc2_w 13, 3), (3102, .land, 1), (3103, .lor, 1), (3104, .invokevirtual 294, 3)]
theorem aJ_561_384 : sx_iB code aI_561_384 = true := by decide +kernel
def aI_561_385 : sx_IL := [(3107, .pop, 1), (3108, .aload_n 2, 1), (3109, .aload_n 0, 1), (3110, .iload_n 3, 1), (3111, .iconst 1, 1), (3112, .iadd, 1)]
theorem aJ_561_385 : sx_iB code aI_561_385 = true := by decide +kernel
def aI_561_386 : sx_IL := [(3113, .iaload, 1), (3114, .aload_n 0, 1), (3115, .iload_n 3, 1), (3116, .iconst 2, 1), (3117, .iadd, 1), (3118, .iaload, 1)]
theorem aJ_561_386 : sx_iB code aI_561_386 = true := by decide +kernel
def aI_561_387 : sx_IL := [(3119, .aload_n 0, 1), (3120, .iload_n 3, 1), (3121, .iconst 3, 1), (3122, .iadd, 1), (3123, .iaload, 1), (3124, .i2l, 1)]
theorem aJ_561_387 : sx_iB code aI_561_387 = true := by decide +kernel
def aI_561_388 : sx_IL := [(3125, .bipush 32, 2), (3127, .lshl, 1), (3128, .aload_n 0, 1), (3129, .iload_n 3, 1), (3130, .iconst 4, 1), (3131, .iadd, 1)]
theorem aJ_561_388 : sx_iB code aI_561_388 = true := by decide +kernel
def aI_561_389 : sx_IL := [(3132, .iaload, 1), (3133, .i2l, 1), (3134, .ldc2_w 13, 3), (3137, .land, 1), (3138, .lor, 1), (3139, .aload_n 0, 1)]
theorem aJ_561_389 : sx_iB code aI_561_389 = true := by decide +kernel
def aI_561_390 : sx_IL := [(3140, .iload_n 3, 1), (3141, .iconst 5, 1), (3142, .iadd, 1), (3143, .iaload, 1), (3144, .i2l, 1), (3145, .bipush 32, 2)]
theorem aJ_561_390 : sx_iB code aI_561_390 = true := by decide +kernel
def aI_561_391 : sx_IL := [(3147, .lshl, 1), (3148, .aload_n 0, 1), (3149, .iload_n 3, 1), (3150, .bipush 6, 2), (3152, .iadd, 1), (3153, .iaload, 1)]
theorem aJ_561_391 : sx_iB code aI_561_391 = true := by decide +kernel
def aI_561_392 : sx_IL := [(3154, .i2l, 1), (3155, .ldc2_w 13, 3), (3158, .land, 1), (3159, .lor, 1), (3160, .invokevirtual 298, 3), (3163, .pop, 1)]
theorem aJ_561_392 : sx_iB code aI_561_392 = true := by decide +kernel
def aI_561_393 : sx_IL := [(3164, .goto 3, 3), (3167, .iinc 3 7, 3), (3170, .goto (-3152), 3), (3173, .iconst 1, 1), (3174, .ireturn, 1)]
theorem aJ_561_393 : sx_iB code aI_561_393 = true := by decide +kernel
def aS_561 (pc : Nat) : sx_IL := (if pc < 1754 then (if pc < 1016 then (if pc < 662 then (if pc < 476 then (if pc < 376 then (if pc < 331 then (if pc < 29 then (if pc < 12 then aI_561_0 else (if pc < 20 then aI_561_1 else aI_561_2)) else (if pc < 318 then aI_561_3 else (if pc < 324 then aI_561_4 else aI_561_5))) else (if pc < 353 then (if pc < 337 then aI_561_6 else (if pc < 347 then aI_561_7 else aI_561_8)) else (if pc < 360 then aI_561_9 else (if pc < 366 then aI_561_10 else aI_561_11)))) else (if pc < 426 then (if pc < 402 then (if pc < 384 then aI_561_12 else (if pc < 392 then aI_561_13 else aI_561_14)) else (if pc < 408 then aI_561_15 else (if pc < 416 then aI_561_16 else aI_561_17))) else (if pc < 452 then (if pc < 438 then aI_561_18 else (if pc < 444 then aI_561_19 else aI_561_20)) else (if pc < 462 then aI_561_21 else (if pc < 470 then aI_561_22 else aI_561_23))))) else (if pc < 565 then (if pc < 521 then (if pc < 499 then (if pc < 486 then aI_561_24 else (if pc < 492 then aI_561_25 else aI_561_26)) else (if pc < 505 then aI_561_27 else (if pc < 515 then aI_561_28 else aI_561_29))) else (if pc < 544 then (if pc < 528 then aI_561_30 else (if pc < 534 then aI_561_31 else aI_561_32)) else (if pc < 552 then aI_561_33 else (if pc < 558 then aI_561_34 else aI_561_35)))) else (if pc < 609 then (if pc < 586 then (if pc < 573 then aI_561_36 else (if pc < 579 then aI_561_37 else aI_561_38)) else (if pc < 593 then aI_561_39 else (if pc < 603 then aI_561_40 else aI_561_41))) else (if pc < 630 then (if pc < 615 then aI_561_42 else (if pc < 622 then aI_561_43 else aI_561_44)) else (if pc < 643 then (if pc < 636 then aI_561_45 else aI_561_46) else (if pc < 650 then aI_561_47 else aI_561_48)))))) else (if pc < 835 then (if pc < 746 then (if pc < 702 then (if pc < 681 then (if pc < 668 then aI_561_49 else (if pc < 674 then aI_561_50 else aI_561_51)) else (if pc < 689 then aI_561_52 else (if pc < 696 then aI_561_53 else aI_561_54))) else (if pc < 725 then (if pc < 710 then aI_561_55 else (if pc < 719 then aI_561_56 else aI_561_57)) else (if pc < 732 then aI_561_58 else (if pc < 738 then aI_561_59 else aI_561_60)))) else (if pc < 791 then (if pc < 768 then (if pc < 753 then aI_561_61 else (if pc < 759 then aI_561_62 else aI_561_63)) else (if pc < 778 then aI_561_64 else (if pc < 784 then aI_561_65 else aI_561_66))) else (if pc < 812 then (if pc < 797 then aI_561_67 else (if pc < 805 then aI_561_68 else aI_561_69)) else (if pc < 818 then aI_561_70 else (if pc < 827 then aI_561_71 else aI_561_72))))) else (if pc < 922 then (if pc < 877 then (if pc < 854 then (if pc < 841 then aI_561_73 else (if pc < 848 then aI_561_74 else aI_561_75)) else (if pc < 862 then aI_561_76 else (if pc < 869 then aI_561_77 else aI_561_78))) else (if pc < 900 then (if pc < 884 then aI_561_79 else (if pc < 894 then aI_561_80 else aI_561_81)) else (if pc < 908 then aI_561_82 else (if pc < 914 then aI_561_83 else aI_561_84)))) else (if pc < 964 then (if pc < 944 then (if pc < 930 then aI_561_85 else (if pc < 936 then aI_561_86 else aI_561_87)) else (if pc < 950 then aI_561_88 else (if pc < 956 then aI_561_89 else aI_561_90))) else (if pc < 988 then (if pc < 972 then aI_561_91 else (if pc < 980 then aI_561_92 else aI_561_93)) else (if pc < 1002 then (if pc < 996 then aI_561_94 else aI_561_95) else (if pc < 1010 then aI_561_96 else aI_561_97))))))) else (if pc < 1388 then (if pc < 1208 then (if pc < 1110 then (if pc < 1061 then (if pc < 1038 then (if pc < 1026 then aI_561_98 else (if pc < 1032 then aI_561_99 else aI_561_100)) else (if pc < 1045 then aI_561_101 else (if pc < 1053 then aI_561_102 else aI_561_103))) else (if pc < 1080 then (if pc < 1067 then aI_561_104 else (if pc < 1073 then aI_561_105 else aI_561_106)) else (if pc < 1088 then aI_561_107 else (if pc < 1098 then aI_561_108 else aI_561_109)))) else (if pc < 1160 then (if pc < 1130 then (if pc < 1116 then aI_561_110 else (if pc < 1124 then aI_561_111 else aI_561_112)) else (if pc < 1136 then aI_561_113 else (if pc < 1148 then aI_561_114 else aI_561_115))) else (if pc < 1188 then (if pc < 1170 then aI_561_116 else (if pc < 1182 then aI_561_117 else aI_561_118)) else (if pc < 1196 then aI_561_119 else (if pc < 1202 then aI_561_120 else aI_561_121))))) else (if pc < 1296 then (if pc < 1250 then (if pc < 1230 then (if pc < 1218 then aI_561_122 else (if pc < 1224 then aI_561_123 else aI_561_124)) else (if pc < 1238 then aI_561_125 else (if pc < 1244 then aI_561_126 else aI_561_127))) else (if pc < 1274 then (if pc < 1260 then aI_561_128 else (if pc < 1268 then aI_561_129 else aI_561_130)) else (if pc < 1284 then aI_561_131 else (if pc < 1290 then aI_561_132 else aI_561_133)))) else (if pc < 1338 then (if pc < 1316 then (if pc < 1304 then aI_561_134 else (if pc < 1310 then aI_561_135 else aI_561_136)) else (if pc < 1326 then aI_561_137 else (if pc < 1332 then aI_561_138 else aI_561_139))) else (if pc < 1358 then (if pc < 1344 then aI_561_140 else (if pc < 1352 then aI_561_141 else aI_561_142)) else (if pc < 1370 then (if pc < 1364 then aI_561_143 else aI_561_144) else (if pc < 1380 then aI_561_145 else aI_561_146)))))) else (if pc < 1568 then (if pc < 1476 then (if pc < 1430 then (if pc < 1410 then (if pc < 1396 then aI_561_147 else (if pc < 1404 then aI_561_148 else aI_561_149)) else (if pc < 1416 then aI_561_150 else (if pc < 1424 then aI_561_151 else aI_561_152))) else (if pc < 1454 then (if pc < 1436 then aI_561_153 else (if pc < 1446 then aI_561_154 else aI_561_155)) else (if pc < 1462 then aI_561_156 else (if pc < 1470 then aI_561_157 else aI_561_158)))) else (if pc < 1518 then (if pc < 1496 then (if pc < 1482 then aI_561_159 else (if pc < 1490 then aI_561_160 else aI_561_161)) else (if pc < 1502 then aI_561_162 else (if pc < 1512 then aI_561_163 else aI_561_164))) else (if pc < 1538 then (if pc < 1524 then aI_561_165 else (if pc < 1532 then aI_561_166 else aI_561_167)) else (if pc < 1554 then (if pc < 1544 then aI_561_168 else aI_561_169) else (if pc < 1562 then aI_561_170 else aI_561_171))))) else (if pc < 1660 then (if pc < 1614 then (if pc < 1592 then (if pc < 1578 then aI_561_172 else (if pc < 1584 then aI_561_173 else aI_561_174)) else (if pc < 1598 then aI_561_175 else (if pc < 1608 then aI_561_176 else aI_561_177))) else (if pc < 1634 then (if pc < 1622 then aI_561_178 else (if pc < 1628 then aI_561_179 else aI_561_180)) else (if pc < 1644 then aI_561_181 else (if pc < 1652 then aI_561_182 else aI_561_183)))) else (if pc < 1703 then (if pc < 1680 then (if pc < 1668 then aI_561_184 else (if pc < 1674 then aI_561_185 else aI_561_186)) else (if pc < 1687 then aI_561_187 else (if pc < 1695 then aI_561_188 else aI_561_189))) else (if pc < 1722 then (if pc < 1709 then aI_561_190 else (if pc < 1715 then aI_561_191 else aI_561_192)) else (if pc < 1740 then (if pc < 1730 then aI_561_193 else aI_561_194) else (if pc < 1746 then aI_561_195 else aI_561_196)))))))) else (if pc < 2454 then (if pc < 2104 then (if pc < 1928 then (if pc < 1842 then (if pc < 1796 then (if pc < 1776 then (if pc < 1760 then aI_561_197 else (if pc < 1770 then aI_561_198 else aI_561_199)) else (if pc < 1782 then aI_561_200 else (if pc < 1790 then aI_561_201 else aI_561_202))) else (if pc < 1818 then (if pc < 1802 then aI_561_203 else (if pc < 1810 then aI_561_204 else aI_561_205)) else (if pc < 1826 then aI_561_206 else (if pc < 1836 then aI_561_207 else aI_561_208)))) else (if pc < 1886 then (if pc < 1862 then (if pc < 1850 then aI_561_209 else (if pc < 1856 then aI_561_210 else aI_561_211)) else (if pc < 1872 then aI_561_212 else (if pc < 1878 then aI_561_213 else aI_561_214))) else (if pc < 1908 then (if pc < 1892 then aI_561_215 else (if pc < 1902 then aI_561_216 else aI_561_217)) else (if pc < 1914 then aI_561_218 else (if pc < 1922 then aI_561_219 else aI_561_220))))) else (if pc < 2012 then (if pc < 1970 then (if pc < 1950 then (if pc < 1934 then aI_561_221 else (if pc < 1942 then aI_561_222 else aI_561_223)) else (if pc < 1956 then aI_561_224 else (if pc < 1964 then aI_561_225 else aI_561_226))) else (if pc < 1992 then (if pc < 1976 then aI_561_227 else (if pc < 1984 then aI_561_228 else aI_561_229)) else (if pc < 1998 then aI_561_230 else (if pc < 2004 then aI_561_231 else aI_561_232)))) else (if pc < 2052 then (if pc < 2030 then (if pc < 2018 then aI_561_233 else (if pc < 2024 then aI_561_234 else aI_561_235)) else (if pc < 2038 then aI_561_236 else (if pc < 2046 then aI_561_237 else aI_561_238))) else (if pc < 2076 then (if pc < 2060 then aI_561_239 else (if pc < 2066 then aI_561_240 else aI_561_241)) else (if pc < 2090 then (if pc < 2082 then aI_561_242 else aI_561_243) else (if pc < 2096 then aI_561_244 else aI_561_245)))))) else (if pc < 2274 then (if pc < 2190 then (if pc < 2148 then (if pc < 2126 then (if pc < 2112 then aI_561_246 else (if pc < 2118 then aI_561_247 else aI_561_248)) else (if pc < 2132 then aI_561_249 else (if pc < 2142 then aI_561_250 else aI_561_251))) else (if pc < 2168 then (if pc < 2154 then aI_561_252 else (if pc < 2162 then aI_561_253 else aI_561_254)) else (if pc < 2174 then aI_561_255 else (if pc < 2184 then aI_561_256 else aI_561_257)))) else (if pc < 2232 then (if pc < 2210 then (if pc < 2196 then aI_561_258 else (if pc < 2204 then aI_561_259 else aI_561_260)) else (if pc < 2216 then aI_561_261 else (if pc < 2226 then aI_561_262 else aI_561_263))) else (if pc < 2252 then (if pc < 2238 then aI_561_264 else (if pc < 2246 then aI_561_265 else aI_561_266)) else (if pc < 2258 then aI_561_267 else (if pc < 2266 then aI_561_268 else aI_561_269))))) else (if pc < 2359 then (if pc < 2316 then (if pc < 2294 then (if pc < 2280 then aI_561_270 else (if pc < 2288 then aI_561_271 else aI_561_272)) else (if pc < 2304 then aI_561_273 else (if pc < 2310 then aI_561_274 else aI_561_275))) else (if pc < 2336 then (if pc < 2324 then aI_561_276 else (if pc < 2330 then aI_561_277 else aI_561_278)) else (if pc < 2346 then aI_561_279 else (if pc < 2352 then aI_561_280 else aI_561_281)))) else (if pc < 2404 then (if pc < 2381 then (if pc < 2365 then aI_561_282 else (if pc < 2375 then aI_561_283 else aI_561_284)) else (if pc < 2387 then aI_561_285 else (if pc < 2394 then aI_561_286 else aI_561_287))) else (if pc < 2426 then (if pc < 2412 then aI_561_288 else (if pc < 2418 then aI_561_289 else aI_561_290)) else (if pc < 2442 then (if pc < 2432 then aI_561_291 else aI_561_292) else (if pc < 2448 then aI_561_293 else aI_561_294))))))) else (if pc < 2810 then (if pc < 2624 then (if pc < 2544 then (if pc < 2497 then (if pc < 2474 then (if pc < 2462 then aI_561_295 else (if pc < 2468 then aI_561_296 else aI_561_297)) else (if pc < 2484 then aI_561_298 else (if pc < 2490 then aI_561_299 else aI_561_300))) else (if pc < 2520 then (if pc < 2505 then aI_561_301 else (if pc < 2513 then aI_561_302 else aI_561_303)) else (if pc < 2528 then aI_561_304 else (if pc < 2538 then aI_561_305 else aI_561_306)))) else (if pc < 2586 then (if pc < 2564 then (if pc < 2550 then aI_561_307 else (if pc < 2558 then aI_561_308 else aI_561_309)) else (if pc < 2570 then aI_561_310 else (if pc < 2580 then aI_561_311 else aI_561_312))) else (if pc < 2606 then (if pc < 2592 then aI_561_313 else (if pc < 2598 then aI_561_314 else aI_561_315)) else (if pc < 2612 then aI_561_316 else (if pc < 2618 then aI_561_317 else aI_561_318))))) else (if pc < 2712 then (if pc < 2670 then (if pc < 2648 then (if pc < 2634 then aI_561_319 else (if pc < 2640 then aI_561_320 else aI_561_321)) else (if pc < 2654 then aI_561_322 else (if pc < 2662 then aI_561_323 else aI_561_324))) else (if pc < 2690 then (if pc < 2676 then aI_561_325 else (if pc < 2684 then aI_561_326 else aI_561_327)) else (if pc < 2700 then aI_561_328 else (if pc < 2706 then aI_561_329 else aI_561_330)))) else (if pc < 2760 then (if pc < 2732 then (if pc < 2720 then aI_561_331 else (if pc < 2726 then aI_561_332 else aI_561_333)) else (if pc < 2742 then aI_561_334 else (if pc < 2752 then aI_561_335 else aI_561_336))) else (if pc < 2781 then (if pc < 2766 then aI_561_337 else (if pc < 2773 then aI_561_338 else aI_561_339)) else (if pc < 2795 then (if pc < 2789 then aI_561_340 else aI_561_341) else (if pc < 2802 then aI_561_342 else aI_561_343)))))) else (if pc < 2989 then (if pc < 2898 then (if pc < 2856 then (if pc < 2834 then (if pc < 2820 then aI_561_344 else (if pc < 2826 then aI_561_345 else aI_561_346)) else (if pc < 2840 then aI_561_347 else (if pc < 2848 then aI_561_348 else aI_561_349))) else (if pc < 2876 then (if pc < 2862 then aI_561_350 else (if pc < 2870 then aI_561_351 else aI_561_352)) else (if pc < 2882 then aI_561_353 else (if pc < 2890 then aI_561_354 else aI_561_355)))) else (if pc < 2940 then (if pc < 2918 then (if pc < 2904 then aI_561_356 else (if pc < 2910 then aI_561_357 else aI_561_358)) else (if pc < 2924 then aI_561_359 else (if pc < 2930 then aI_561_360 else aI_561_361))) else (if pc < 2961 then (if pc < 2947 then aI_561_362 else (if pc < 2953 then aI_561_363 else aI_561_364)) else (if pc < 2973 then (if pc < 2967 then aI_561_365 else aI_561_366) else (if pc < 2981 then aI_561_367 else aI_561_368))))) else (if pc < 3075 then (if pc < 3030 then (if pc < 3012 then (if pc < 2997 then aI_561_369 else (if pc < 3004 then aI_561_370 else aI_561_371)) else (if pc < 3018 then aI_561_372 else (if pc < 3024 then aI_561_373 else aI_561_374))) else (if pc < 3056 then (if pc < 3038 then aI_561_375 else (if pc < 3048 then aI_561_376 else aI_561_377)) else (if pc < 3062 then aI_561_378 else (if pc < 3068 then aI_561_379 else aI_561_380)))) else (if pc < 3119 then (if pc < 3097 then (if pc < 3083 then aI_561_381 else (if pc < 3089 then aI_561_382 else aI_561_383)) else (if pc < 3107 then aI_561_384 else (if pc < 3113 then aI_561_385 else aI_561_386))) else (if pc < 3140 then (if pc < 3125 then aI_561_387 else (if pc < 3132 then aI_561_388 else aI_561_389)) else (if pc < 3154 then (if pc < 3147 then aI_561_390 else aI_561_391) else (if pc < 3164 then aI_561_392 else aI_561_393)))))))))
theorem aT_561 (pc : Nat) : sx_iOk code (aS_561 pc) := (sx_ite (p := fun l => sx_iOk code l) (sx_ite (p := fun l => sx_iOk code l) (sx_ite (p := fun l => sx_iOk code l) (sx_ite (p := fun l => sx_iOk code l) (sx_ite (p := fun l => sx_iOk code l) (sx_ite (p := fun l => sx_iOk code l) (sx_ite (p := fun l => sx_iOk code l) (sx_ite (p := fun l => sx_iOk code l) (sx_iB_s aJ_561_0) (sx_ite (p := fun l => sx_iOk code l) (sx_iB_s aJ_561_1) (sx_iB_s aJ_561_2))) (sx_ite (p := fun l => sx_iOk code l) (sx_iB_s aJ_561_3) (sx_ite (p := fun l => sx_iOk code l) (sx_iB_s aJ_561_4) (sx_iB_s aJ_561_5)))) (sx_ite (p := fun l => sx_iOk code l) (sx_ite (p := fun l => sx_iOk code l) (sx_iB_s aJ_561_6) (sx_ite (p := fun l => sx_iOk code l) (sx_iB_s aJ_561_7) (sx_iB_s aJ_561_8))) (sx_ite (p := fun l => sx_iOk code l) (sx_iB_s aJ_561_9) (sx_ite (p := fun l => sx_iOk code l) (sx_iB_s aJ_561_10) (sx_iB_s aJ_561_11))))) (sx_ite (p := fun l => sx_iOk code l) (sx_ite (p := fun l => sx_iOk code l) (sx_ite (p := fun l => sx_iOk code l) (sx_iB_s aJ_561_12) (sx_ite (p := fun l => sx_iOk code l) (sx_iB_s aJ_561_13) (sx_iB_s aJ_561_14))) (sx_ite (p := fun l => sx_iOk code l) (sx_iB_s aJ_561_15) (sx_ite (p := fun l => sx_iOk code l) (sx_iB_s aJ_561_16) (sx_iB_s aJ_561_17)))) (sx_ite (p := fun l => sx_iOk code l) (sx_ite (p := fun l => sx_iOk code l) (sx_iB_s aJ_561_18) (sx_ite (p := fun l => sx_iOk code l) (sx_iB_s aJ_561_19) (sx_iB_s aJ_561_20))) (sx_ite (p := fun l => sx_iOk code l) (sx_iB_s aJ_561_21) (sx_ite (p := fun l => sx_iOk code l) (sx_iB_s aJ_561_22) (sx_iB_s aJ_561_23)))))) (sx_ite (p := fun l => sx_iOk code l) (sx_ite (p := fun l => sx_iOk code l) (sx_ite (p := fun l => sx_iOk code l) (sx_ite (p := fun l => sx_iOk code l) (sx_iB_s aJ_561_24) (sx_ite (p := fun l => sx_iOk code l) (sx_iB_s aJ_561_25) (sx_iB_s aJ_561_26))) (sx_ite (p := fun l => sx_iOk code l) (sx_iB_s aJ_561_27) (sx_ite (p := fun l => sx_iOk code l) (sx_iB_s aJ_561_28) (sx_iB_s aJ_561_29)))) (sx_ite (p := fun l => sx_iOk code l) (sx_ite (p := fun l => sx_iOk code l) (sx_iB_s aJ_561_30) (sx_ite (p := fun l => sx_iOk code l) (sx_iB_s aJ_561_31) (sx_iB_s aJ_561_32))) (sx_ite (p := fun l => sx_iOk code l) (sx_iB_s aJ_561_33) (sx_ite (p := fun l => sx_iOk code l) (sx_iB_s aJ_561_34) (sx_iB_s aJ_561_35))))) (sx_ite (p := fun l => sx_iOk code l) (sx_ite (p := fun l => sx_iOk code l) (sx_ite (p := fun l => sx_iOk code l) (sx_iB_s aJ_561_36) (sx_ite (p := fun l => sx_iOk code l) (sx_iB_s aJ_561_37) (sx_iB_s aJ_561_38))) (sx_ite (p := fun l => sx_iOk code l) (sx_iB_s aJ_561_39) (sx_ite (p := fun l => sx_iOk code l) (sx_iB_s aJ_561_40) (sx_iB_s aJ_561_41)))) (sx_ite (p := fun l => sx_iOk code l) (sx_ite (p := fun l => sx_iOk code l) (sx_iB_s aJ_561_42) (sx_ite (p := fun l => sx_iOk code l) (sx_iB_s aJ_561_43) (sx_iB_s aJ_561_44))) (sx_ite (p := fun l => sx_iOk code l) (sx_ite (p := fun l => sx_iOk code l) (sx_iB_s aJ_561_45) (sx_iB_s aJ_561_46)) (sx_ite (p := fun l => sx_iOk code l) (sx_iB_s aJ_561_47) (sx_iB_s aJ_561_48))))))) (sx_ite (p := fun l => sx_iOk code l) (sx_ite (p := fun l => sx_iOk code l) (sx_ite (p := fun l => sx_iOk code l) (sx_ite (p := fun l => sx_iOk code l) (sx_ite (p := fun l => sx_iOk code l) (sx_iB_s aJ_561_49) (sx_ite (p := fun l => sx_iOk code l) (sx_iB_s aJ_561_50) (sx_iB_s aJ_561_51))) (sx_ite (p := fun l => sx_iOk code l) (sx_iB_s aJ_561_52) (sx_ite (p := fun l => sx_iOk code l) (sx_iB_s aJ_561_53) (sx_iB_s aJ_561_54)))) (sx_ite (p := fun l => sx_iOk code l) (sx_ite (p := fun l => sx_iOk code l) (sx_iB_s aJ_561_55) (sx_ite (p := fun l => sx_iOk code l) (sx_iB_s aJ_561_56) (sx_iB_s aJ_561_57))) (sx_ite (p := fun l => sx_iOk code l) (sx_iB_s aJ_561_58) (sx_ite (p := fun l => sx_iOk code l) (sx_iB_s aJ_561_59) (sx_iB_s aJ_561_60))))) (sx_ite (p := fun l => sx_iOk code l) (sx_ite (p := fun l => sx_iOk code l) (sx_ite (p := fun l => sx_iOk code l) (sx_iB_s aJ_561_61) (sx_ite (p := fun l => sx_iOk code l) (sx_iB_s aJ_561_62) (sx_iB_s aJ_561_63))) (sx_ite (p := fun l => sx_iOk code l) (sx_iB_s aJ_561_64) (sx_ite (p := fun l => sx_iOk code l) (sx_iB_s aJ_561_65) (sx_iB_s aJ_561_66)))) (sx_ite (p := fun l => sx_iOk code l) (sx_ite (p := fun l => sx_iOk code l) (sx_iB_s aJ_561_67) (sx_ite (p := fun l => sx_iOk code l) (sx_iB_s aJ_561_68) (sx_iB_s aJ_561_69))) (sx_ite (p := fun l => sx_iOk code l) (sx_iB_s aJ_561_70) (sx_ite (p := fun l => sx_iOk code l) (sx_iB_s aJ_561_71) (sx_iB_s aJ_561_72)))))) (sx_ite (p := fun l => sx_iOk code l) (sx_ite (p := fun l => sx_iOk code l) (sx_ite (p := fun l => sx_iOk code l) (sx_ite (p := fun l => sx_iOk code l) (sx_iB_s aJ_561_73) (sx_ite (p := fun l => sx_iOk code l) (sx_iB_s aJ_561_74) (sx_iB_s aJ_561_75))) (sx_ite (p := fun l => sx_iOk code l) (sx_iB_s aJ_561_76) (sx_ite (p := fun l => sx_iOk code l) (sx_iB_s aJ_561_77) (sx_iB_s aJ_561_78)))) (sx_ite (p := fun l => sx_iOk code l) (sx_ite (p := fun l => sx_iOk code l) (sx_iB_s aJ_561_79) (sx_ite (p := fun l => sx_iOk code l) (sx_iB_s aJ_561_80) (sx_iB_s aJ_561_81))) (sx_ite (p := fun l => sx_iOk code l) (sx_iB_s aJ_561_82) (sx_ite (p := fun l => sx_iOk code l) (sx_iB_s aJ_561_83) (sx_iB_s aJ_561_84))))) (sx_ite (p := fun l => sx_iOk code l) (sx_ite (p := fun l => sx_iOk code l) (sx_ite (p := fun l => sx_iOk code l) (sx_iB_s aJ_561_85) (sx_ite (p := fun l => sx_iOk code l) (sx_iB_s aJ_561_86) (sx_iB_s aJ_561_87))) (sx_ite (p := fun l => sx_iOk code l) (sx_iB_s aJ_561_88) (sx_ite (p := fun l => sx_iOk code l) (sx_iB_s aJ_561_89) (sx_iB_s aJ_561_90)))) (sx_ite (p := fun l => sx_iOk code l) (sx_ite (p := fun l => sx_iOk code l) (sx_iB_s aJ_561_91) (sx_ite (p := fun l => sx_iOk code l) (sx_iB_s aJ_561_92) (sx_iB_s aJ_561_93))) (sx_ite (p := fun l => sx_iOk code l) (sx_ite (p := fun l => sx_iOk code l) (sx_iB_s aJ_561_94) (sx_iB_s aJ_561_95)) (sx_ite (p := fun l => sx_iOk code l) (sx_iB_s aJ_561_96) (sx_iB_s aJ_561_97)))))))) (sx_ite (p := fun l => sx_iOk code l) (sx_ite (p := fun l => sx_iOk code l) (sx_ite (p := fun l => sx_iOk code l) (sx_ite (p := fun l => sx_iOk code l) (sx_ite (p := fun l => sx_iOk code l) (sx_ite (p := fun l => sx_iOk code l) (sx_iB_s aJ_561_98) (sx_ite (p := fun l => sx_iOk code l) (sx_iB_s aJ_561_99) (sx_iB_s aJ_561_100))) (sx_ite (p := fun l => sx_iOk code l) (sx_iB_s aJ_561_101) (sx_ite (p := fun l => sx_iOk code l) (sx_iB_s aJ_561_102) (sx_iB_s aJ_561_103)))) (sx_ite (p := fun l => sx_iOk code l) (sx_ite (p := fun l => sx_iOk code l) (sx_iB_s aJ_561_104) (sx_ite (p := fun l => sx_iOk code l) (sx_iB_s aJ_561_105) (sx_iB_s aJ_561_106))) (sx_ite (p := fun l => sx_iOk code l) (sx_iB_s aJ_561_107) (sx_ite (p := fun l => sx_iOk code l) (sx_iB_s aJ_561_108) (sx_iB_s aJ_561_109))))) (sx_ite (p := fun l => sx_iOk code l) (sx_ite (p := fun l => sx_iOk code l) (sx_ite (p := fun l => sx_iOk code l) (sx_iB_s aJ_561_110) (sx_ite (p := fun l => sx_iOk code l) (sx_iB_s aJ_561_111) (sx_iB_s aJ_561_112))) (sx_ite (p := fun l => sx_iOk code l) (sx_iB_s aJ_561_113) (sx_ite (p := fun l => sx_iOk code l) (sx_iB_s aJ_561_114) (sx_iB_s aJ_561_115)))) (sx_ite (p := fun l => sx_iOk code l) (sx_ite (p := fun l => sx_iOk code l) (sx_iB_s aJ_561_116) (sx_ite (p := fun l => sx_iOk code l) (sx_iB_s aJ_561_117) (sx_iB_s aJ_561_118))) (sx_ite (p := fun l => sx_iOk code l) (sx_iB_s aJ_561_119) (sx_ite (p := fun l => sx_iOk code l) (sx_iB_s aJ_561_120) (sx_iB_s aJ_561_121)))))) (sx_ite (p := fun l => sx_iOk code l) (sx_ite (p := fun l => sx_iOk code l) (sx_ite (p := fun l => sx_iOk code l) (sx_ite (p := fun l => sx_iOk code l) (sx_iB_s aJ_561_122) (sx_ite (p := fun l => sx_iOk code l) (sx_iB_s aJ_561_123) (sx_iB_s aJ_561_124))) (sx_ite (p := fun l => sx_iOk code l) (sx_iB_s aJ_561_125) (sx_ite (p := fun l => sx_iOk code l) (sx_iB_s aJ_561_126) (sx_iB_s aJ_561_127)))) (sx_ite (p := fun l => sx_iOk code l) (sx_ite (p := fun l => sx_iOk code l) (sx_iB_s aJ_561_128) (sx_ite (p := fun l => sx_iOk code l) (sx_iB_s aJ_561_129) (sx_iB_s aJ_561_130))) (sx_ite (p := fun l => sx_iOk code l) (sx_iB_s aJ_561_131) (sx_ite (p := fun l => sx_iOk code l) (sx_iB_s aJ_561_132) (sx_iB_s aJ_561_133))))) (sx_ite (p := fun l => sx_iOk code l) (sx_ite (p := fun l => sx_iOk code l) (sx_ite (p := fun l => sx_iOk code l) (sx_iB_s aJ_561_134) (sx_ite (p := fun l => sx_iOk code l) (sx_iB_s aJ_561_135) (sx_iB_s aJ_561_136))) (sx_ite (p := fun l => sx_iOk code l) (sx_iB_s aJ_561_137) (sx_ite (p := fun l => sx_iOk code l) (sx_iB_s aJ_561_138) (sx_iB_s aJ_561_139)))) (sx_ite (p := fun l => sx_iOk code l) (sx_ite (p := fun l => sx_iOk code l) (sx_iB_s aJ_561_140) (sx_ite (p := fun l => sx_iOk code l) (sx_iB_s aJ_561_141) (sx_iB_s aJ_561_142))) (sx_ite (p := fun l => sx_iOk code l) (sx_ite (p := fun l => sx_iOk code l) (sx_iB_s aJ_561_143) (sx_iB_s aJ_561_144)) (sx_ite (p := fun l => sx_iOk code l) (sx_iB_s aJ_561_145) (sx_iB_s aJ_561_146))))))) (sx_ite (p := fun l => sx_iOk code l) (sx_ite (p := fun l => sx_iOk code l) (sx_ite (p := fun l => sx_iOk code l) (sx_ite (p := fun l => sx_iOk code l) (sx_ite (p := fun l => sx_iOk code l) (sx_iB_s aJ_561_147) (sx_ite (p := fun l => sx_iOk code l) (sx_iB_s aJ_561_148) (sx_iB_s aJ_561_149))) (sx_ite (p := fun l => sx_iOk code l) (sx_iB_s aJ_561_150) (sx_ite (p := fun l => sx_iOk code l) (sx_iB_s aJ_561_151) (sx_iB_s aJ_561_152)))) (sx_ite (p := fun l => sx_iOk code l) (sx_ite (p := fun l => sx_iOk code l) (sx_iB_s aJ_561_153) (sx_ite (p := fun l => sx_iOk code l) (sx_iB_s aJ_561_154) (sx_iB_s aJ_561_155))) (sx_ite (p := fun l => sx_iOk code l) (sx_iB_s aJ_561_156) (sx_ite (p := fun l => sx_iOk code l) (sx_iB_s aJ_561_157) (sx_iB_s aJ_561_158))))) (sx_ite (p := fun l => sx_iOk code l) (sx_ite (p := fun l => sx_iOk code l) (sx_ite (p := fun l => sx_iOk code l) (sx_iB_s aJ_561_159) (sx_ite (p := fun l => sx_iOk code l) (sx_iB_s aJ_561_160) (sx_iB_s aJ_561_161))) (sx_ite (p := fun l => sx_iOk code l) (sx_iB_s aJ_561_162) (sx_ite (p := fun l => sx_iOk code l) (sx_iB_s aJ_561_163) (sx_iB_s aJ_561_164)))) (sx_ite (p := fun l => sx_iOk code l) (sx_ite (p := fun l => sx_iOk code l) (sx_iB_s aJ_561_165) (sx_ite (p := fun l => sx_iOk code l) (sx_iB_s aJ_561_166) (sx_iB_s aJ_561_167))) (sx_ite (p := fun l => sx_iOk code l) (sx_ite (p := fun l => sx_iOk code l) (sx_iB_s aJ_561_168) (sx_iB_s aJ_561_169)) (sx_ite (p := fun l => sx_iOk code l) (sx_iB_s aJ_561_170) (sx_iB_s aJ_561_171)))))) (sx_ite (p := fun l => sx_iOk code l) (sx_ite (p := fun l => sx_iOk code l) (sx_ite (p := fun l => sx_iOk code l) (sx_ite (p := fun l => sx_iOk code l) (sx_iB_s aJ_561_172) (sx_ite (p := fun l => sx_iOk code l) (sx_iB_s aJ_561_173) (sx_iB_s aJ_561_174))) (sx_ite (p := fun l => sx_iOk code l) (sx_iB_s aJ_561_175) (sx_ite (p := fun l => sx_iOk code l) (sx_iB_s aJ_561_176) (sx_iB_s aJ_561_177)))) (sx_ite (p := fun l => sx_iOk code l) (sx_ite (p := fun l => sx_iOk code l) (sx_iB_s aJ_561_178) (sx_ite (p := fun l => sx_iOk code l) (sx_iB_s aJ_561_179) (sx_iB_s aJ_561_180))) (sx_ite (p := fun l => sx_iOk code l) (sx_iB_s aJ_561_181) (sx_ite (p := fun l => sx_iOk code l) (sx_iB_s aJ_561_182) (sx_iB_s aJ_561_183))))) (sx_ite (p := fun l => sx_iOk code l) (sx_ite (p := fun l => sx_iOk code l) (sx_ite (p := fun l => sx_iOk code l) (sx_iB_s aJ_561_184) (sx_ite (p := fun l => sx_iOk code l) (sx_iB_s aJ_561_185) (sx_iB_s aJ_561_186))) (sx_ite (p := fun l => sx_iOk code l) (sx_iB_s aJ_561_187) (sx_ite (p := fun l => sx_iOk code l) (sx_iB_s aJ_561_188) (sx_iB_s aJ_561_189)))) (sx_ite (p := fun l => sx_iOk code l) (sx_ite (p := fun l => sx_iOk code l) (sx_iB_s aJ_561_190) (sx_ite (p := fun l => sx_iOk code l) (sx_iB_s aJ_561_191) (sx_iB_s aJ_561_192))) (sx_ite (p := fun l => sx_iOk code l) (sx_ite (p := fun l => sx_iOk code l) (sx_iB_s aJ_561_193) (sx_iB_s aJ_561_194)) (sx_ite (p := fun l => sx_iOk code l) (sx_iB_s aJ_561_195) (sx_iB_s aJ_561_196))))))))) (sx_ite (p := fun l => sx_iOk code l) (sx_ite (p := fun l => sx_iOk code l) (sx_ite (p := fun l => sx_iOk code l) (sx_ite (p := fun l => sx_iOk code l) (sx_ite (p := fun l => sx_iOk code l) (sx_ite (p := fun l => sx_iOk code l) (sx_ite (p := fun l => sx_iOk code l) (sx_iB_s aJ_561_197) (sx_ite (p := fun l => sx_iOk code l) (sx_iB_s aJ_561_198) (sx_iB_s aJ_561_199))) (sx_ite (p := fun l => sx_iOk code l) (sx_iB_s aJ_561_200) (sx_ite (p := fun l => sx_iOk code l) (sx_iB_s aJ_561_201) (sx_iB_s aJ_561_202)))) (sx_ite (p := fun l => sx_iOk code l) (sx_ite (p := fun l => sx_iOk code l) (sx_iB_s aJ_561_203) (sx_ite (p := fun l => sx_iOk code l) (sx_iB_s aJ_561_204) (sx_iB_s aJ_561_205))) (sx_ite (p := fun l => sx_iOk code l) (sx_iB_s aJ_561_206) (sx_ite (p := fun l => sx_iOk code l) (sx_iB_s aJ_561_207) (sx_iB_s aJ_561_208))))) (sx_ite (p := fun l => sx_iOk code l) (sx_ite (p := fun l => sx_iOk code l) (sx_ite (p := fun l => sx_iOk code l) (sx_iB_s aJ_561_209) (sx_ite (p := fun l => sx_iOk code l) (sx_iB_s aJ_561_210) (sx_iB_s aJ_561_211))) (sx_ite (p := fun l => sx_iOk code l) (sx_iB_s aJ_561_212) (sx_ite (p := fun l => sx_iOk code l) (sx_iB_s aJ_561_213) (sx_iB_s aJ_561_214)))) (sx_ite (p := fun l => sx_iOk code l) (sx_ite (p := fun l => sx_iOk code l) (sx_iB_s aJ_561_215) (sx_ite (p := fun l => sx_iOk code l) (sx_iB_s aJ_561_216) (sx_iB_s aJ_561_217))) (sx_ite (p := fun l => sx_iOk code l) (sx_iB_s aJ_561_218) (sx_ite (p := fun l => sx_iOk code l) (sx_iB_s aJ_561_219) (sx_iB_s aJ_561_220)))))) (sx_ite (p := fun l => sx_iOk code l) (sx_ite (p := fun l => sx_iOk code l) (sx_ite (p := fun l => sx_iOk code l) (sx_ite (p := fun l => sx_iOk code l) (sx_iB_s aJ_561_221) (sx_ite (p := fun l => sx_iOk code l) (sx_iB_s aJ_561_222) (sx_iB_s aJ_561_223))) (sx_ite (p := fun l => sx_iOk code l) (sx_iB_s aJ_561_224) (sx_ite (p := fun l => sx_iOk code l) (sx_iB_s aJ_561_225) (sx_iB_s aJ_561_226)))) (sx_ite (p := fun l => sx_iOk code l) (sx_ite (p := fun l => sx_iOk code l) (sx_iB_s aJ_561_227) (sx_ite (p := fun l => sx_iOk code l) (sx_iB_s aJ_561_228) (sx_iB_s aJ_561_229))) (sx_ite (p := fun l => sx_iOk code l) (sx_iB_s aJ_561_230) (sx_ite (p := fun l => sx_iOk code l) (sx_iB_s aJ_561_231) (sx_iB_s aJ_561_232))))) (sx_ite (p := fun l => sx_iOk code l) (sx_ite (p := fun l => sx_iOk code l) (sx_ite (p := fun l => sx_iOk code l) (sx_iB_s aJ_561_233) (sx_ite (p := fun l => sx_iOk code l) (sx_iB_s aJ_561_234) (sx_iB_s aJ_561_235))) (sx_ite (p := fun l => sx_iOk code l) (sx_iB_s aJ_561_236) (sx_ite (p := fun l => sx_iOk code l) (sx_iB_s aJ_561_237) (sx_iB_s aJ_561_238)))) (sx_ite (p := fun l => sx_iOk code l) (sx_ite (p := fun l => sx_iOk code l) (sx_iB_s aJ_561_239) (sx_ite (p := fun l => sx_iOk code l) (sx_iB_s aJ_561_240) (sx_iB_s aJ_561_241))) (sx_ite (p := fun l => sx_iOk code l) (sx_ite (p := fun l => sx_iOk code l) (sx_iB_s aJ_561_242) (sx_iB_s aJ_561_243)) (sx_ite (p := fun l => sx_iOk code l) (sx_iB_s aJ_561_244) (sx_iB_s aJ_561_245))))))) (sx_ite (p := fun l => sx_iOk code l) (sx_ite (p := fun l => sx_iOk code l) (sx_ite (p := fun l => sx_iOk code l) (sx_ite (p := fun l => sx_iOk code l) (sx_ite (p := fun l => sx_iOk code l) (sx_iB_s aJ_561_246) (sx_ite (p := fun l => sx_iOk code l) (sx_iB_s aJ_561_247) (sx_iB_s aJ_561_248))) (sx_ite (p := fun l => sx_iOk code l) (sx_iB_s aJ_561_249) (sx_ite (p := fun l => sx_iOk code l) (sx_iB_s aJ_561_250) (sx_iB_s aJ_561_251)))) (sx_ite (p := fun l => sx_iOk code l) (sx_ite (p := fun l => sx_iOk code l) (sx_iB_s aJ_561_252) (sx_ite (p := fun l => sx_iOk code l) (sx_iB_s aJ_561_253) (sx_iB_s aJ_561_254))) (sx_ite (p := fun l => sx_iOk code l) (sx_iB_s aJ_561_255) (sx_ite (p := fun l => sx_iOk code l) (sx_iB_s aJ_561_256) (sx_iB_s aJ_561_257))))) (sx_ite (p := fun l => sx_iOk code l) (sx_ite (p := fun l => sx_iOk code l) (sx_ite (p := fun l => sx_iOk code l) (sx_iB_s aJ_561_258) (sx_ite (p := fun l => sx_iOk code l) (sx_iB_s aJ_561_259) (sx_iB_s aJ_561_260))) (sx_ite (p := fun l => sx_iOk code l) (sx_iB_s aJ_561_261) (sx_ite (p := fun l => sx_iOk code l) (sx_iB_s aJ_561_262) (sx_iB_s aJ_561_263)))) (sx_ite (p := fun l => sx_iOk code l) (sx_ite (p := fun l => sx_iOk code l) (sx_iB_s aJ_561_264) (sx_ite (p := fun l => sx_iOk code l) (sx_iB_s aJ_561_265) (sx_iB_s aJ_561_266))) (sx_ite (p := fun l => sx_iOk code l) (sx_iB_s aJ_561_267) (sx_ite (p := fun l => sx_iOk code l) (sx_iB_s aJ_561_268) (sx_iB_s aJ_561_269)))))) (sx_ite (p := fun l => sx_iOk code l) (sx_ite (p := fun l => sx_iOk code l) (sx_ite (p := fun l => sx_iOk code l) (sx_ite (p := fun l => sx_iOk code l) (sx_iB_s aJ_561_270) (sx_ite (p := fun l => sx_iOk code l) (sx_iB_s aJ_561_271) (sx_iB_s aJ_561_272))) (sx_ite (p := fun l => sx_iOk code l) (sx_iB_s aJ_561_273) (sx_ite (p := fun l => sx_iOk code l) (sx_iB_s aJ_561_274) (sx_iB_s aJ_561_275)))) (sx_ite (p := fun l => sx_iOk code l) (sx_ite (p := fun l => sx_iOk code l) (sx_iB_s aJ_561_276) (sx_ite (p := fun l => sx_iOk code l) (sx_iB_s aJ_561_277) (sx_iB_s aJ_561_278))) (sx_ite (p := fun l => sx_iOk code l) (sx_iB_s aJ_561_279) (sx_ite (p := fun l => sx_iOk code l) (sx_iB_s aJ_561_280) (sx_iB_s aJ_561_281))))) (sx_ite (p := fun l => sx_iOk code l) (sx_ite (p := fun l => sx_iOk code l) (sx_ite (p := fun l => sx_iOk code l) (sx_iB_s aJ_561_282) (sx_ite (p := fun l => sx_iOk code l) (sx_iB_s aJ_561_283) (sx_iB_s aJ_561_284))) (sx_ite (p := fun l => sx_iOk code l) (sx_iB_s aJ_561_285) (sx_ite (p := fun l => sx_iOk code l) (sx_iB_s aJ_561_286) (sx_iB_s aJ_561_287)))) (sx_ite (p := fun l => sx_iOk code l) (sx_ite (p := fun l => sx_iOk code l) (sx_iB_s aJ_561_288) (sx_ite (p := fun l => sx_iOk code l) (sx_iB_s aJ_561_289) (sx_iB_s aJ_561_290))) (sx_ite (p := fun l => sx_iOk code l) (sx_ite (p := fun l => sx_iOk code l) (sx_iB_s aJ_561_291) (sx_iB_s aJ_561_292)) (sx_ite (p := fun l => sx_iOk code l) (sx_iB_s aJ_561_293) (sx_iB_s aJ_561_294)))))))) (sx_ite (p := fun l => sx_iOk code l) (sx_ite (p := fun l => sx_iOk code l) (sx_ite (p := fun l => sx_iOk code l) (sx_ite (p := fun l => sx_iOk code l) (sx_ite (p := fun l => sx_iOk code l) (sx_ite (p := fun l => sx_iOk code l) (sx_iB_s aJ_561_295) (sx_ite (p := fun l => sx_iOk code l) (sx_iB_s aJ_561_296) (sx_iB_s aJ_561_297))) (sx_ite (p := fun l => sx_iOk code l) (sx_iB_s aJ_561_298) (sx_ite (p := fun l => sx_iOk code l) (sx_iB_s aJ_561_299) (sx_iB_s aJ_561_300)))) (sx_ite (p := fun l => sx_iOk code l) (sx_ite (p := fun l => sx_iOk code l) (sx_iB_s aJ_561_301) (sx_ite (p := fun l => sx_iOk code l) (sx_iB_s aJ_561_302) (sx_iB_s aJ_561_303))) (sx_ite (p := fun l => sx_iOk code l) (sx_iB_s aJ_561_304) (sx_ite (p := fun l => sx_iOk code l) (sx_iB_s aJ_561_305) (sx_iB_s aJ_561_306))))) (sx_ite (p := fun l => sx_iOk code l) (sx_ite (p := fun l => sx_iOk code l) (sx_ite (p := fun l => sx_iOk code l) (sx_iB_s aJ_561_307) (sx_ite (p := fun l => sx_iOk code l) (sx_iB_s aJ_561_308) (sx_iB_s aJ_561_309))) (sx_ite (p := fun l => sx_iOk code l) (sx_iB_s aJ_561_310) (sx_ite (p := fun l => sx_iOk code l) (sx_iB_s aJ_561_311) (sx_iB_s aJ_561_312)))) (sx_ite (p := fun l => sx_iOk code l) (sx_ite (p := fun l => sx_iOk code l) (sx_iB_s aJ_561_313) (sx_ite (p := fun l => sx_iOk code l) (sx_iB_s aJ_561_314) (sx_iB_s aJ_561_315))) (sx_ite (p := fun l => sx_iOk code l) (sx_iB_s aJ_561_316) (sx_ite (p := fun l => sx_iOk code l) (sx_iB_s aJ_561_317) (sx_iB_s aJ_561_318)))))) (sx_ite (p := fun l => sx_iOk code l) (sx_ite (p := fun l => sx_iOk code l) (sx_ite (p := fun l => sx_iOk code l) (sx_ite (p := fun l => sx_iOk code l) (sx_iB_s aJ_561_319) (sx_ite (p := fun l => sx_iOk code l) (sx_iB_s aJ_561_320) (sx_iB_s aJ_561_321))) (sx_ite (p := fun l => sx_iOk code l) (sx_iB_s aJ_561_322) (sx_ite (p := fun l => sx_iOk code l) (sx_iB_s aJ_561_323) (sx_iB_s aJ_561_324)))) (sx_ite (p := fun l => sx_iOk code l) (sx_ite (p := fun l => sx_iOk code l) (sx_iB_s aJ_561_325) (sx_ite (p := fun l => sx_iOk code l) (sx_iB_s aJ_561_326) (sx_iB_s aJ_561_327))) (sx_ite (p := fun l => sx_iOk code l) (sx_iB_s aJ_561_328) (sx_ite (p := fun l => sx_iOk code l) (sx_iB_s aJ_561_329) (sx_iB_s aJ_561_330))))) (sx_ite (p := fun l => sx_iOk code l) (sx_ite (p := fun l => sx_iOk code l) (sx_ite (p := fun l => sx_iOk code l) (sx_iB_s aJ_561_331) (sx_ite (p := fun l => sx_iOk code l) (sx_iB_s aJ_561_332) (sx_iB_s aJ_561_333))) (sx_ite (p := fun l => sx_iOk code l) (sx_iB_s aJ_561_334) (sx_ite (p := fun l => sx_iOk code l) (sx_iB_s aJ_561_335) (sx_iB_s aJ_561_336)))) (sx_ite (p := fun l => sx_iOk code l) (sx_ite (p := fun l => sx_iOk code l) (sx_iB_s aJ_561_337) (sx_ite (p := fun l => sx_iOk code l) (sx_iB_s aJ_561_338) (sx_iB_s aJ_561_339))) (sx_ite (p := fun l => sx_iOk code l) (sx_ite (p := fun l => sx_iOk code l) (sx_iB_s aJ_561_340) (sx_iB_s aJ_561_341)) (sx_ite (p := fun l => sx_iOk code l) (sx_iB_s aJ_561_342) (sx_iB_s aJ_561_343))))))) (sx_ite (p := fun l => sx_iOk code l) (sx_ite (p := fun l => sx_iOk code l) (sx_ite (p := fun l => sx_iOk code l) (sx_ite (p := fun l => sx_iOk code l) (sx_ite (p := fun l => sx_iOk code l) (sx_iB_s aJ_561_344) (sx_ite (p := fun l => sx_iOk code l) (sx_iB_s aJ_561_345) (sx_iB_s aJ_561_346))) (sx_ite (p := fun l => sx_iOk code l) (sx_iB_s aJ_561_347) (sx_ite (p := fun l => sx_iOk code l) (sx_iB_s aJ_561_348) (sx_iB_s aJ_561_349)))) (sx_ite (p := fun l => sx_iOk code l) (sx_ite (p := fun l => sx_iOk code l) (sx_iB_s aJ_561_350) (sx_ite (p := fun l => sx_iOk code l) (sx_iB_s aJ_561_351) (sx_iB_s aJ_561_352))) (sx_ite (p := fun l => sx_iOk code l) (sx_iB_s aJ_561_353) (sx_ite (p := fun l => sx_iOk code l) (sx_iB_s aJ_561_354) (sx_iB_s aJ_561_355))))) (sx_ite (p := fun l => sx_iOk code l) (sx_ite (p := fun l => sx_iOk code l) (sx_ite (p := fun l => sx_iOk code l) (sx_iB_s aJ_561_356) (sx_ite (p := fun l => sx_iOk code l) (sx_iB_s aJ_561_357) (sx_iB_s aJ_561_358))) (sx_ite (p := fun l => sx_iOk code l) (sx_iB_s aJ_561_359) (sx_ite (p := fun l => sx_iOk code l) (sx_iB_s aJ_561_360) (sx_iB_s aJ_561_361)))) (sx_ite (p := fun l => sx_iOk code l) (sx_ite (p := fun l => sx_iOk code l) (sx_iB_s aJ_561_362) (sx_ite (p := fun l => sx_iOk code l) (sx_iB_s aJ_561_363) (sx_iB_s aJ_561_364))) (sx_ite (p := fun l => sx_iOk code l) (sx_ite (p := fun l => sx_iOk code l) (sx_iB_s aJ_561_365) (sx_iB_s aJ_561_366)) (sx_ite (p := fun l => sx_iOk code l) (sx_iB_s aJ_561_367) (sx_iB_s aJ_561_368)))))) (sx_ite (p := fun l => sx_iOk code l) (sx_ite (p := fun l => sx_iOk code l) (sx_ite (p := fun l => sx_iOk code l) (sx_ite (p := fun l => sx_iOk code l) (sx_iB_s aJ_561_369) (sx_ite (p := fun l => sx_iOk code l) (sx_iB_s aJ_561_370) (sx_iB_s aJ_561_371))) (sx_ite (p := fun l => sx_iOk code l) (sx_iB_s aJ_561_372) (sx_ite (p := fun l => sx_iOk code l) (sx_iB_s aJ_561_373) (sx_iB_s aJ_561_374)))) (sx_ite (p := fun l => sx_iOk code l) (sx_ite (p := fun l => sx_iOk code l) (sx_iB_s aJ_561_375) (sx_ite (p := fun l => sx_iOk code l) (sx_iB_s aJ_561_376) (sx_iB_s aJ_561_377))) (sx_ite (p := fun l => sx_iOk code l) (sx_iB_s aJ_561_378) (sx_ite (p := fun l => sx_iOk code l) (sx_iB_s aJ_561_379) (sx_iB_s aJ_561_380))))) (sx_ite (p := fun l => sx_iOk code l) (sx_ite (p := fun l => sx_iOk code l) (sx_ite (p := fun l => sx_iOk code l) (sx_iB_s aJ_561_381) (sx_ite (p := fun l => sx_iOk code l) (sx_iB_s aJ_561_382) (sx_iB_s aJ_561_383))) (sx_ite (p := fun l => sx_iOk code l) (sx_iB_s aJ_561_384) (sx_ite (p := fun l => sx_iOk code l) (sx_iB_s aJ_561_385) (sx_iB_s aJ_561_386)))) (sx_ite (p := fun l => sx_iOk code l) (sx_ite (p := fun l => sx_iOk code l) (sx_iB_s aJ_561_387) (sx_ite (p := fun l => sx_iOk code l) (sx_iB_s aJ_561_388) (sx_iB_s aJ_561_389))) (sx_ite (p := fun l => sx_iOk code l) (sx_ite (p := fun l => sx_iOk code l) (sx_iB_s aJ_561_390) (sx_iB_s aJ_561_391)) (sx_ite (p := fun l => sx_iOk code l) (sx_iB_s aJ_561_392) (sx_iB_s aJ_561_393))))))))))
def aW_561 : Nat → Option (Instr × Nat) := fun pc => sx_iF (aS_561 pc) pc
theorem aX_561 : ∀ pc i len, aW_561 pc = some (i, len) → decode aM_561.1.2.1 pc = .ok (i, len) := fun pc i len h => sx_iF_s (aT_561 pc) h
