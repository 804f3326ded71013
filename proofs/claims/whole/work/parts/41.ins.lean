/-! SX: instructions of the program, checked -/
abbrev sx_IL : Type := List (Nat × Instr × Nat)
theorem sx_ite {α : Type} {p : α → Prop} {c : Prop} [Decidable c] {a b : α} (ha : p a) (hb : p b) : p (if c then a else b) := by
  split
  · exact ha
  · exact hb
def sx_iOk (cc : ByteArray) (l : sx_IL) : Prop := ∀ q ∈ l, decode cc q.1 = .ok q.2
def sx_iB (cc : ByteArray) (l : sx_IL) : Bool := l.all (fun q => decide (decode cc q.1 = .ok q.2))
theorem sx_iB_s {cc : ByteArray} {l : sx_IL} (h : sx_iB cc l = true) : sx_iOk cc l := fun q hq => of_decide_eq_true (List.all_eq_true.mp h q hq)
def sx_iF (l : sx_IL) (pc : Nat) : Option (Instr × Nat) := (l.find? (fun q => q.1 == pc)).map (fun q => q.2)
theorem sx_iF_s {cc : ByteArray} {l : sx_IL} (h : sx_iOk cc l) {pc : Nat} {r : Instr × Nat} (e : sx_iF l pc = some r) : decode cc pc = .ok r := by
  unfold sx_iF at e
  obtain ⟨q, h1, rfl⟩ := Option.map_eq_some_iff.mp e
  have h2 : (q.1 == pc) = true := List.find?_some (p := fun q : Nat × Instr × Nat => q.1 == pc) h1
  rw [← eq_of_beq h2]
  exact h q (List.mem_of_find?_eq_some h1)
def aI_0_0 : sx_IL := [(0, .aload_n 0, 1), (1, .invokespecial 1, 3), (4, .aload_n 0, 1), (5, .new 7, 3), (8, .dup, 1), (9, .invokespecial 9, 3), (12, .putfield 10, 3), (15, .aload_n 0, 1), (16, .new 16, 3), (19, .dup, 1), (20, .bipush 64, 2), (22, .invokespecial 18, 3)]
theorem aJ_0_0 : sx_iB prog_1_method_1_code aI_0_0 = true := by decide +kernel
def aI_0_1 : sx_IL := [(25, .putfield 21, 3), (28, .aload_n 0, 1), (29, .new 16, 3), (32, .dup, 1), (33, .bipush 64, 2), (35, .invokespecial 18, 3), (38, .putfield 25, 3), (41, .aload_n 0, 1), (42, .bipush 6, 2), (44, .newarray .int, 2), (46, .putfield 28, 3), (49, .aload_n 0, 1)]
theorem aJ_0_1 : sx_iB prog_1_method_1_code aI_0_1 = true := by decide +kernel
def aI_0_2 : sx_IL := [(50, .bipush 8, 2), (52, .anewarray 32, 3), (55, .putfield 34, 3), (58, .aload_n 0, 1), (59, .bipush 24, 2), (61, .anewarray 38, 3), (64, .putfield 40, 3), (67, .aload_n 0, 1), (68, .iconst 4, 1), (69, .anewarray 44, 3), (72, .putfield 46, 3), (75, .aload_n 0, 1)]
theorem aJ_0_2 : sx_iB prog_1_method_1_code aI_0_2 = true := by decide +kernel
def aI_0_3 : sx_IL := [(76, .bipush 16, 2), (78, .anewarray 16, 3), (81, .putfield 50, 3), (84, .aload_n 0, 1), (85, .bipush 16, 2), (87, .newarray .long, 2), (89, .putfield 54, 3), (92, .aload_n 0, 1), (93, .iconst 4, 1), (94, .bipush 64, 2), (96, .multianewarray 58 2, 4), (100, .putfield 60, 3)]
theorem aJ_0_3 : sx_iB prog_1_method_1_code aI_0_3 = true := by decide +kernel
def aI_0_4 : sx_IL := [(103, .aload_n 0, 1), (104, .iconst 4, 1), (105, .newarray .int, 2), (107, .putfield 63, 3), (110, .aload_n 0, 1), (111, .bipush 16, 2), (113, .newarray .long, 2), (115, .putfield 66, 3), (118, .return_, 1)]
theorem aJ_0_4 : sx_iB prog_1_method_1_code aI_0_4 = true := by decide +kernel
def aS_0 (pc : Nat) : sx_IL := (if pc < 50 then (if pc < 25 then aI_0_0 else aI_0_1) else (if pc < 76 then aI_0_2 else (if pc < 103 then aI_0_3 else aI_0_4)))
theorem aT_0 (pc : Nat) : sx_iOk prog_1_method_1_code (aS_0 pc) := by
  unfold aS_0
  exact (sx_ite (sx_ite (sx_iB_s aJ_0_0) (sx_iB_s aJ_0_1)) (sx_ite (sx_iB_s aJ_0_2) (sx_ite (sx_iB_s aJ_0_3) (sx_iB_s aJ_0_4))))
def aI_1_0 : sx_IL := [(0, .aload_n 0, 1), (1, .invokespecial 3, 3), (4, .aload_n 0, 1), (5, .new 9, 3), (8, .dup, 1), (9, .invokespecial 11, 3), (12, .putfield 12, 3), (15, .aload_n 0, 1), (16, .new 18, 3), (19, .dup, 1), (20, .sipush 512, 3), (23, .invokespecial 20, 3)]
theorem aJ_1_0 : sx_iB prog_5_method_1_code aI_1_0 = true := by decide +kernel
def aI_1_1 : sx_IL := [(26, .putfield 23, 3), (29, .aload_n 0, 1), (30, .new 18, 3), (33, .dup, 1), (34, .sipush 256, 3), (37, .invokespecial 20, 3), (40, .putfield 27, 3), (43, .aload_n 0, 1), (44, .new 18, 3), (47, .dup, 1), (48, .bipush 8, 2), (50, .invokespecial 20, 3)]
theorem aJ_1_1 : sx_iB prog_5_method_1_code aI_1_1 = true := by decide +kernel
def aI_1_2 : sx_IL := [(53, .putfield 30, 3), (56, .aload_n 0, 1), (57, .bipush 10, 2), (59, .newarray .int, 2), (61, .putfield 33, 3), (64, .aload_n 0, 1), (65, .new 37, 3), (68, .dup, 1), (69, .invokespecial 39, 3), (72, .putfield 40, 3), (75, .aload_n 0, 1), (76, .new 37, 3)]
theorem aJ_1_2 : sx_iB prog_5_method_1_code aI_1_2 = true := by decide +kernel
def aI_1_3 : sx_IL := [(79, .dup, 1), (80, .invokespecial 39, 3), (83, .putfield 44, 3), (86, .aload_n 0, 1), (87, .bipush 30, 2), (89, .anewarray 47, 3), (92, .putfield 49, 3), (95, .aload_n 0, 1), (96, .bipush 12, 2), (98, .anewarray 47, 3), (101, .putfield 53, 3), (104, .aload_n 0, 1)]
theorem aJ_1_3 : sx_iB prog_5_method_1_code aI_1_3 = true := by decide +kernel
def aI_1_4 : sx_IL := [(105, .bipush 12, 2), (107, .anewarray 47, 3), (110, .putfield 56, 3), (113, .aload_n 0, 1), (114, .new 47, 3), (117, .dup, 1), (118, .sipush 400, 3), (121, .invokespecial 59, 3), (124, .putfield 60, 3), (127, .aload_n 0, 1), (128, .iconst 4, 1), (129, .anewarray 47, 3)]
theorem aJ_1_4 : sx_iB prog_5_method_1_code aI_1_4 = true := by decide +kernel
def aI_1_5 : sx_IL := [(132, .putfield 64, 3), (135, .aload_n 0, 1), (136, .new 47, 3), (139, .dup, 1), (140, .sipush 400, 3), (143, .invokespecial 59, 3), (146, .putfield 67, 3), (149, .aload_n 0, 1), (150, .bipush 6, 2), (152, .anewarray 47, 3), (155, .putfield 70, 3), (158, .iconst 0, 1)]
theorem aJ_1_5 : sx_iB prog_5_method_1_code aI_1_5 = true := by decide +kernel
def aI_1_6 : sx_IL := [(159, .istore_n 1, 1), (160, .iload_n 1, 1), (161, .aload_n 0, 1), (162, .getfield 64, 3), (165, .arraylength, 1), (166, .if_icmp .ge 25, 3), (169, .aload_n 0, 1), (170, .getfield 64, 3), (173, .iload_n 1, 1), (174, .new 47, 3), (177, .dup, 1), (178, .sipush 400, 3)]
theorem aJ_1_6 : sx_iB prog_5_method_1_code aI_1_6 = true := by decide +kernel
def aI_1_7 : sx_IL := [(181, .invokespecial 59, 3), (184, .aastore, 1), (185, .iinc 1 1, 3), (188, .goto (-28), 3), (191, .return_, 1)]
theorem aJ_1_7 : sx_iB prog_5_method_1_code aI_1_7 = true := by decide +kernel
def aS_1 (pc : Nat) : sx_IL := (if pc < 105 then (if pc < 53 then (if pc < 26 then aI_1_0 else aI_1_1) else (if pc < 79 then aI_1_2 else aI_1_3)) else (if pc < 159 then (if pc < 132 then aI_1_4 else aI_1_5) else (if pc < 181 then aI_1_6 else aI_1_7)))
theorem aT_1 (pc : Nat) : sx_iOk prog_5_method_1_code (aS_1 pc) := by
  unfold aS_1
  exact (sx_ite (sx_ite (sx_ite (sx_iB_s aJ_1_0) (sx_iB_s aJ_1_1)) (sx_ite (sx_iB_s aJ_1_2) (sx_iB_s aJ_1_3))) (sx_ite (sx_ite (sx_iB_s aJ_1_4) (sx_iB_s aJ_1_5)) (sx_ite (sx_iB_s aJ_1_6) (sx_iB_s aJ_1_7))))
def aI_2_0 : sx_IL := [(0, .aload_n 0, 1), (1, .invokespecial 1, 3), (4, .return_, 1)]
theorem aJ_2_0 : sx_iB prog_6_method_1_code aI_2_0 = true := by decide +kernel
def aS_2 (pc : Nat) : sx_IL := aI_2_0
theorem aT_2 (pc : Nat) : sx_iOk prog_6_method_1_code (aS_2 pc) := (sx_iB_s aJ_2_0)
def aI_3_0 : sx_IL := [(0, .aload_n 0, 1), (1, .invokespecial 1, 3), (4, .aload_n 0, 1), (5, .iload_n 1, 1), (6, .bipush 8, 2), (8, .invokestatic 7, 3), (11, .newarray .int, 2), (13, .putfield 13, 3), (16, .return_, 1)]
theorem aJ_3_0 : sx_iB prog_9_method_1_code aI_3_0 = true := by decide +kernel
def aS_3 (pc : Nat) : sx_IL := aI_3_0
theorem aT_3 (pc : Nat) : sx_iOk prog_9_method_1_code (aS_3 pc) := (sx_iB_s aJ_3_0)
def aI_4_0 : sx_IL := [(0, .aload_n 0, 1), (1, .invokespecial 1, 3), (4, .aload_n 0, 1), (5, .iconst 0, 1), (6, .newarray .int, 2), (8, .putfield 7, 3), (11, .aload_n 0, 1), (12, .bipush 11, 2), (14, .newarray .int, 2), (16, .putfield 13, 3), (19, .aload_n 0, 1), (20, .bipush 11, 2)]
theorem aJ_4_0 : sx_iB prog_4_method_1_code aI_4_0 = true := by decide +kernel
def aI_4_1 : sx_IL := [(22, .newarray .int, 2), (24, .putfield 16, 3), (27, .return_, 1)]
theorem aJ_4_1 : sx_iB prog_4_method_1_code aI_4_1 = true := by decide +kernel
def aS_4 (pc : Nat) : sx_IL := (if pc < 22 then aI_4_0 else aI_4_1)
theorem aT_4 (pc : Nat) : sx_iOk prog_4_method_1_code (aS_4 pc) := by
  unfold aS_4
  exact (sx_ite (sx_iB_s aJ_4_0) (sx_iB_s aJ_4_1))
def aI_5_0 : sx_IL := [(0, .aload_n 0, 1), (1, .invokespecial 3, 3), (4, .aload_n 0, 1), (5, .bipush 12, 2), (7, .newarray .int, 2), (9, .putfield 9, 3), (12, .aload_n 0, 1), (13, .bipush 32, 2), (15, .newarray .int, 2), (17, .putfield 15, 3), (20, .aload_n 0, 1), (21, .iconst (-1), 1)]
theorem aJ_5_0 : sx_iB prog_8_method_1_code aI_5_0 = true := by decide +kernel
def aI_5_1 : sx_IL := [(22, .putfield 18, 3), (25, .aload_n 0, 1), (26, .iload_n 1, 1), (27, .iconst 1, 1), (28, .invokestatic 22, 3), (31, .newarray .int, 2), (33, .putfield 28, 3), (36, .return_, 1)]
theorem aJ_5_1 : sx_iB prog_8_method_1_code aI_5_1 = true := by decide +kernel
def aS_5 (pc : Nat) : sx_IL := (if pc < 22 then aI_5_0 else aI_5_1)
theorem aT_5 (pc : Nat) : sx_iOk prog_8_method_1_code (aS_5 pc) := by
  unfold aS_5
  exact (sx_ite (sx_iB_s aJ_5_0) (sx_iB_s aJ_5_1))
def aI_319_0 : sx_IL := [(0, .aload_n 0, 1), (1, .invokespecial 1, 3), (4, .aload_n 0, 1), (5, .sipush 800, 3), (8, .newarray .int, 2), (10, .putfield 7, 3), (13, .aload_n 0, 1), (14, .sipush 820, 3), (17, .newarray .int, 2), (19, .putfield 13, 3), (22, .aload_n 0, 1), (23, .iconst 4, 1)]
theorem aJ_319_0 : sx_iB prog_14_method_1_code aI_319_0 = true := by decide +kernel
def aI_319_1 : sx_IL := [(24, .newarray .int, 2), (26, .putfield 16, 3), (29, .aload_n 0, 1), (30, .sipush 256, 3), (33, .newarray .long, 2), (35, .putfield 19, 3), (38, .aload_n 0, 1), (39, .bipush 64, 2), (41, .newarray .long, 2), (43, .putfield 23, 3), (46, .aload_n 0, 1), (47, .bipush 64, 2)]
theorem aJ_319_1 : sx_iB prog_14_method_1_code aI_319_1 = true := by decide +kernel
def aI_319_2 : sx_IL := [(49, .newarray .int, 2), (51, .putfield 26, 3), (54, .aload_n 0, 1), (55, .bipush 16, 2), (57, .newarray .long, 2), (59, .putfield 29, 3), (62, .aload_n 0, 1), (63, .bipush 16, 2), (65, .newarray .boolean, 2), (67, .putfield 32, 3), (70, .aload_n 0, 1), (71, .bipush 12, 2)]
theorem aJ_319_2 : sx_iB prog_14_method_1_code aI_319_2 = true := by decide +kernel
def aI_319_3 : sx_IL := [(73, .newarray .int, 2), (75, .putfield 36, 3), (78, .aload_n 0, 1), (79, .sipush 14400, 3), (82, .newarray .int, 2), (84, .putfield 39, 3), (87, .aload_n 0, 1), (88, .bipush 36, 2), (90, .newarray .int, 2), (92, .putfield 42, 3), (95, .aload_n 0, 1), (96, .sipush 288, 3)]
theorem aJ_319_3 : sx_iB prog_14_method_1_code aI_319_3 = true := by decide +kernel
def aI_319_4 : sx_IL := [(99, .newarray .int, 2), (101, .putfield 45, 3), (104, .aload_n 0, 1), (105, .bipush 72, 2), (107, .newarray .int, 2), (109, .putfield 48, 3), (112, .aload_n 0, 1), (113, .bipush 72, 2), (115, .newarray .int, 2), (117, .putfield 51, 3), (120, .aload_n 0, 1), (121, .bipush 72, 2)]
theorem aJ_319_4 : sx_iB prog_14_method_1_code aI_319_4 = true := by decide +kernel
def aI_319_5 : sx_IL := [(123, .newarray .int, 2), (125, .putfield 54, 3), (128, .aload_n 0, 1), (129, .bipush 36, 2), (131, .newarray .int, 2), (133, .putfield 57, 3), (136, .aload_n 0, 1), (137, .bipush 108, 2), (139, .newarray .int, 2), (141, .putfield 60, 3), (144, .aload_n 0, 1), (145, .sipush 864, 3)]
theorem aJ_319_5 : sx_iB prog_14_method_1_code aI_319_5 = true := by decide +kernel
def aI_319_6 : sx_IL := [(148, .newarray .int, 2), (150, .putfield 63, 3), (153, .aload_n 0, 1), (154, .sipush 5600, 3), (157, .newarray .int, 2), (159, .putfield 66, 3), (162, .aload_n 0, 1), (163, .bipush 14, 2), (165, .newarray .int, 2), (167, .putfield 69, 3), (170, .aload_n 0, 1), (171, .bipush 112, 2)]
theorem aJ_319_6 : sx_iB prog_14_method_1_code aI_319_6 = true := by decide +kernel
def aI_319_7 : sx_IL := [(173, .newarray .int, 2), (175, .putfield 72, 3), (178, .aload_n 0, 1), (179, .sipush 5600, 3), (182, .newarray .int, 2), (184, .putfield 75, 3), (187, .aload_n 0, 1), (188, .bipush 14, 2), (190, .newarray .int, 2), (192, .putfield 78, 3), (195, .aload_n 0, 1), (196, .bipush 112, 2)]
theorem aJ_319_7 : sx_iB prog_14_method_1_code aI_319_7 = true := by decide +kernel
def aI_319_8 : sx_IL := [(198, .newarray .int, 2), (200, .putfield 81, 3), (203, .aload_n 0, 1), (204, .sipush 2000, 3), (207, .newarray .int, 2), (209, .putfield 84, 3), (212, .aload_n 0, 1), (213, .bipush 8, 2), (215, .newarray .int, 2), (217, .putfield 87, 3), (220, .aload_n 0, 1), (221, .bipush 6, 2)]
theorem aJ_319_8 : sx_iB prog_14_method_1_code aI_319_8 = true := by decide +kernel
def aI_319_9 : sx_IL := [(223, .newarray .int, 2), (225, .putfield 90, 3), (228, .aload_n 0, 1), (229, .bipush 8, 2), (231, .newarray .int, 2), (233, .putfield 93, 3), (236, .aload_n 0, 1), (237, .bipush 96, 2), (239, .newarray .int, 2), (241, .putfield 96, 3), (244, .aload_n 0, 1), (245, .bipush 24, 2)]
theorem aJ_319_9 : sx_iB prog_14_method_1_code aI_319_9 = true := by decide +kernel
def aI_319_10 : sx_IL := [(247, .newarray .int, 2), (249, .putfield 99, 3), (252, .aload_n 0, 1), (253, .bipush 64, 2), (255, .newarray .int, 2), (257, .putfield 102, 3), (260, .aload_n 0, 1), (261, .sipush 1600, 3), (264, .newarray .int, 2), (266, .putfield 105, 3), (269, .aload_n 0, 1), (270, .bipush 8, 2)]
theorem aJ_319_10 : sx_iB prog_14_method_1_code aI_319_10 = true := by decide +kernel
def aI_319_11 : sx_IL := [(272, .newarray .int, 2), (274, .putfield 108, 3), (277, .aload_n 0, 1), (278, .sipush 240, 3), (281, .newarray .int, 2), (283, .putfield 111, 3), (286, .aload_n 0, 1), (287, .bipush 8, 2), (289, .newarray .int, 2), (291, .putfield 114, 3), (294, .aload_n 0, 1), (295, .bipush 32, 2)]
theorem aJ_319_11 : sx_iB prog_14_method_1_code aI_319_11 = true := by decide +kernel
def aI_319_12 : sx_IL := [(297, .newarray .int, 2), (299, .putfield 117, 3), (302, .aload_n 0, 1), (303, .bipush 8, 2), (305, .newarray .int, 2), (307, .putfield 120, 3), (310, .aload_n 0, 1), (311, .bipush 8, 2), (313, .newarray .int, 2), (315, .putfield 123, 3), (318, .aload_n 0, 1), (319, .sipush 320, 3)]
theorem aJ_319_12 : sx_iB prog_14_method_1_code aI_319_12 = true := by decide +kernel
def aI_319_13 : sx_IL := [(322, .newarray .int, 2), (324, .putfield 126, 3), (327, .aload_n 0, 1), (328, .bipush 8, 2), (330, .newarray .int, 2), (332, .putfield 129, 3), (335, .aload_n 0, 1), (336, .bipush 8, 2), (338, .newarray .int, 2), (340, .putfield 132, 3), (343, .aload_n 0, 1), (344, .sipush 768, 3)]
theorem aJ_319_13 : sx_iB prog_14_method_1_code aI_319_13 = true := by decide +kernel
def aI_319_14 : sx_IL := [(347, .newarray .int, 2), (349, .putfield 135, 3), (352, .aload_n 0, 1), (353, .bipush 48, 2), (355, .newarray .int, 2), (357, .putfield 138, 3), (360, .aload_n 0, 1), (361, .bipush 48, 2), (363, .newarray .long, 2), (365, .putfield 141, 3), (368, .aload_n 0, 1), (369, .bipush 48, 2)]
theorem aJ_319_14 : sx_iB prog_14_method_1_code aI_319_14 = true := by decide +kernel
def aI_319_15 : sx_IL := [(371, .newarray .int, 2), (373, .putfield 144, 3), (376, .aload_n 0, 1), (377, .bipush 48, 2), (379, .newarray .boolean, 2), (381, .putfield 147, 3), (384, .aload_n 0, 1), (385, .sipush 240, 3), (388, .newarray .int, 2), (390, .putfield 150, 3), (393, .aload_n 0, 1), (394, .sipush 3200, 3)]
theorem aJ_319_15 : sx_iB prog_14_method_1_code aI_319_15 = true := by decide +kernel
def aI_319_16 : sx_IL := [(397, .newarray .int, 2), (399, .putfield 153, 3), (402, .aload_n 0, 1), (403, .bipush 8, 2), (405, .newarray .int, 2), (407, .putfield 156, 3), (410, .aload_n 0, 1), (411, .bipush 8, 2), (413, .newarray .long, 2), (415, .putfield 159, 3), (418, .aload_n 0, 1), (419, .bipush 8, 2)]
theorem aJ_319_16 : sx_iB prog_14_method_1_code aI_319_16 = true := by decide +kernel
def aI_319_17 : sx_IL := [(421, .newarray .boolean, 2), (423, .putfield 162, 3), (426, .aload_n 0, 1), (427, .bipush 8, 2), (429, .newarray .int, 2), (431, .putfield 165, 3), (434, .aload_n 0, 1), (435, .bipush 8, 2), (437, .newarray .int, 2), (439, .putfield 168, 3), (442, .aload_n 0, 1), (443, .sipush 160, 3)]
theorem aJ_319_17 : sx_iB prog_14_method_1_code aI_319_17 = true := by decide +kernel
def aI_319_18 : sx_IL := [(446, .newarray .long, 2), (448, .putfield 171, 3), (451, .aload_n 0, 1), (452, .sipush 160, 3), (455, .newarray .long, 2), (457, .putfield 174, 3), (460, .aload_n 0, 1), (461, .sipush 160, 3), (464, .newarray .int, 2), (466, .putfield 177, 3), (469, .aload_n 0, 1), (470, .sipush 160, 3)]
theorem aJ_319_18 : sx_iB prog_14_method_1_code aI_319_18 = true := by decide +kernel
def aI_319_19 : sx_IL := [(473, .newarray .int, 2), (475, .putfield 180, 3), (478, .aload_n 0, 1), (479, .sipush 160, 3), (482, .newarray .int, 2), (484, .putfield 183, 3), (487, .aload_n 0, 1), (488, .sipush 160, 3), (491, .newarray .boolean, 2), (493, .putfield 186, 3), (496, .aload_n 0, 1), (497, .iconst 4, 1)]
theorem aJ_319_19 : sx_iB prog_14_method_1_code aI_319_19 = true := by decide +kernel
def aI_319_20 : sx_IL := [(498, .newarray .int, 2), (500, .putfield 189, 3), (503, .aload_n 0, 1), (504, .iconst 4, 1), (505, .newarray .int, 2), (507, .putfield 192, 3), (510, .aload_n 0, 1), (511, .iconst 4, 1), (512, .newarray .int, 2), (514, .putfield 195, 3), (517, .aload_n 0, 1), (518, .iconst 4, 1)]
theorem aJ_319_20 : sx_iB prog_14_method_1_code aI_319_20 = true := by decide +kernel
def aI_319_21 : sx_IL := [(519, .newarray .int, 2), (521, .putfield 198, 3), (524, .aload_n 0, 1), (525, .iconst 4, 1), (526, .newarray .int, 2), (528, .putfield 201, 3), (531, .aload_n 0, 1), (532, .iconst 4, 1), (533, .newarray .int, 2), (535, .putfield 204, 3), (538, .aload_n 0, 1), (539, .iconst 4, 1)]
theorem aJ_319_21 : sx_iB prog_14_method_1_code aI_319_21 = true := by decide +kernel
def aI_319_22 : sx_IL := [(540, .newarray .int, 2), (542, .putfield 207, 3), (545, .aload_n 0, 1), (546, .bipush 32, 2), (548, .newarray .long, 2), (550, .putfield 210, 3), (553, .aload_n 0, 1), (554, .iconst 4, 1), (555, .newarray .int, 2), (557, .putfield 213, 3), (560, .aload_n 0, 1), (561, .bipush 48, 2)]
theorem aJ_319_22 : sx_iB prog_14_method_1_code aI_319_22 = true := by decide +kernel
def aI_319_23 : sx_IL := [(563, .newarray .int, 2), (565, .putfield 216, 3), (568, .aload_n 0, 1), (569, .bipush 48, 2), (571, .newarray .int, 2), (573, .putfield 219, 3), (576, .aload_n 0, 1), (577, .bipush 48, 2), (579, .newarray .int, 2), (581, .putfield 222, 3), (584, .aload_n 0, 1), (585, .bipush 48, 2)]
theorem aJ_319_23 : sx_iB prog_14_method_1_code aI_319_23 = true := by decide +kernel
def aI_319_24 : sx_IL := [(587, .newarray .int, 2), (589, .putfield 225, 3), (592, .aload_n 0, 1), (593, .sipush 6048, 3), (596, .newarray .int, 2), (598, .putfield 228, 3), (601, .aload_n 0, 1), (602, .sipush 144, 3), (605, .newarray .int, 2), (607, .putfield 231, 3), (610, .aload_n 0, 1), (611, .sipush 144, 3)]
theorem aJ_319_24 : sx_iB prog_14_method_1_code aI_319_24 = true := by decide +kernel
def aI_319_25 : sx_IL := [(614, .newarray .int, 2), (616, .putfield 234, 3), (619, .aload_n 0, 1), (620, .sipush 144, 3), (623, .newarray .int, 2), (625, .putfield 237, 3), (628, .aload_n 0, 1), (629, .iconst 4, 1), (630, .newarray .int, 2), (632, .putfield 240, 3), (635, .aload_n 0, 1), (636, .sipush 160, 3)]
theorem aJ_319_25 : sx_iB prog_14_method_1_code aI_319_25 = true := by decide +kernel
def aI_319_26 : sx_IL := [(639, .newarray .int, 2), (641, .putfield 243, 3), (644, .aload_n 0, 1), (645, .sipush 640, 3), (648, .newarray .int, 2), (650, .putfield 246, 3), (653, .aload_n 0, 1), (654, .bipush 16, 2), (656, .newarray .int, 2), (658, .putfield 249, 3), (661, .aload_n 0, 1), (662, .bipush 16, 2)]
theorem aJ_319_26 : sx_iB prog_14_method_1_code aI_319_26 = true := by decide +kernel
def aI_319_27 : sx_IL := [(664, .newarray .long, 2), (666, .putfield 252, 3), (669, .aload_n 0, 1), (670, .iconst 4, 1), (671, .newarray .int, 2), (673, .putfield 255, 3), (676, .aload_n 0, 1), (677, .iconst 4, 1), (678, .newarray .int, 2), (680, .putfield 258, 3), (683, .aload_n 0, 1), (684, .bipush 24, 2)]
theorem aJ_319_27 : sx_iB prog_14_method_1_code aI_319_27 = true := by decide +kernel
def aI_319_28 : sx_IL := [(686, .newarray .int, 2), (688, .putfield 261, 3), (691, .aload_n 0, 1), (692, .ldc_w 264, 3), (695, .newarray .int, 2), (697, .putfield 265, 3), (700, .aload_n 0, 1), (701, .bipush 24, 2), (703, .newarray .int, 2), (705, .putfield 268, 3), (708, .aload_n 0, 1), (709, .sipush 7680, 3)]
theorem aJ_319_28 : sx_iB prog_14_method_1_code aI_319_28 = true := by decide +kernel
def aI_319_29 : sx_IL := [(712, .newarray .int, 2), (714, .putfield 271, 3), (717, .aload_n 0, 1), (718, .bipush 24, 2), (720, .newarray .int, 2), (722, .putfield 274, 3), (725, .aload_n 0, 1), (726, .ldc_w 277, 3), (729, .newarray .int, 2), (731, .putfield 278, 3), (734, .aload_n 0, 1), (735, .bipush 24, 2)]
theorem aJ_319_29 : sx_iB prog_14_method_1_code aI_319_29 = true := by decide +kernel
def aI_319_30 : sx_IL := [(737, .newarray .int, 2), (739, .putfield 281, 3), (742, .aload_n 0, 1), (743, .ldc_w 284, 3), (746, .newarray .int, 2), (748, .putfield 285, 3), (751, .aload_n 0, 1), (752, .bipush 24, 2), (754, .newarray .int, 2), (756, .putfield 288, 3), (759, .aload_n 0, 1), (760, .bipush 24, 2)]
theorem aJ_319_30 : sx_iB prog_14_method_1_code aI_319_30 = true := by decide +kernel
def aI_319_31 : sx_IL := [(762, .newarray .int, 2), (764, .putfield 291, 3), (767, .aload_n 0, 1), (768, .bipush 24, 2), (770, .newarray .boolean, 2), (772, .putfield 294, 3), (775, .aload_n 0, 1), (776, .bipush 24, 2), (778, .newarray .boolean, 2), (780, .putfield 297, 3), (783, .aload_n 0, 1), (784, .bipush 24, 2)]
theorem aJ_319_31 : sx_iB prog_14_method_1_code aI_319_31 = true := by decide +kernel
def aI_319_32 : sx_IL := [(786, .newarray .boolean, 2), (788, .putfield 300, 3), (791, .aload_n 0, 1), (792, .bipush 24, 2), (794, .newarray .int, 2), (796, .putfield 303, 3), (799, .aload_n 0, 1), (800, .bipush 24, 2), (802, .newarray .int, 2), (804, .putfield 306, 3), (807, .aload_n 0, 1), (808, .bipush 24, 2)]
theorem aJ_319_32 : sx_iB prog_14_method_1_code aI_319_32 = true := by decide +kernel
def aI_319_33 : sx_IL := [(810, .newarray .boolean, 2), (812, .putfield 309, 3), (815, .aload_n 0, 1), (816, .bipush 24, 2), (818, .newarray .boolean, 2), (820, .putfield 312, 3), (823, .aload_n 0, 1), (824, .bipush 24, 2), (826, .newarray .long, 2), (828, .putfield 315, 3), (831, .aload_n 0, 1), (832, .bipush 24, 2)]
theorem aJ_319_33 : sx_iB prog_14_method_1_code aI_319_33 = true := by decide +kernel
def aI_319_34 : sx_IL := [(834, .newarray .long, 2), (836, .putfield 318, 3), (839, .aload_n 0, 1), (840, .bipush 24, 2), (842, .newarray .int, 2), (844, .putfield 321, 3), (847, .aload_n 0, 1), (848, .bipush 24, 2), (850, .newarray .int, 2), (852, .putfield 324, 3), (855, .aload_n 0, 1), (856, .bipush 24, 2)]
theorem aJ_319_34 : sx_iB prog_14_method_1_code aI_319_34 = true := by decide +kernel
def aI_319_35 : sx_IL := [(858, .newarray .int, 2), (860, .putfield 327, 3), (863, .aload_n 0, 1), (864, .bipush 24, 2), (866, .newarray .int, 2), (868, .putfield 330, 3), (871, .aload_n 0, 1), (872, .bipush 24, 2), (874, .newarray .int, 2), (876, .putfield 333, 3), (879, .aload_n 0, 1), (880, .bipush 24, 2)]
theorem aJ_319_35 : sx_iB prog_14_method_1_code aI_319_35 = true := by decide +kernel
def aI_319_36 : sx_IL := [(882, .newarray .int, 2), (884, .putfield 336, 3), (887, .aload_n 0, 1), (888, .bipush 24, 2), (890, .newarray .int, 2), (892, .putfield 339, 3), (895, .aload_n 0, 1), (896, .bipush 24, 2), (898, .newarray .boolean, 2), (900, .putfield 342, 3), (903, .aload_n 0, 1), (904, .bipush 24, 2)]
theorem aJ_319_36 : sx_iB prog_14_method_1_code aI_319_36 = true := by decide +kernel
def aI_319_37 : sx_IL := [(906, .newarray .int, 2), (908, .putfield 345, 3), (911, .aload_n 0, 1), (912, .bipush 24, 2), (914, .newarray .int, 2), (916, .putfield 348, 3), (919, .aload_n 0, 1), (920, .bipush 24, 2), (922, .newarray .int, 2), (924, .putfield 351, 3), (927, .aload_n 0, 1), (928, .bipush 24, 2)]
theorem aJ_319_37 : sx_iB prog_14_method_1_code aI_319_37 = true := by decide +kernel
def aI_319_38 : sx_IL := [(930, .newarray .boolean, 2), (932, .putfield 354, 3), (935, .aload_n 0, 1), (936, .bipush 24, 2), (938, .newarray .long, 2), (940, .putfield 357, 3), (943, .aload_n 0, 1), (944, .bipush 24, 2), (946, .newarray .long, 2), (948, .putfield 360, 3), (951, .aload_n 0, 1), (952, .bipush 24, 2)]
theorem aJ_319_38 : sx_iB prog_14_method_1_code aI_319_38 = true := by decide +kernel
def aI_319_39 : sx_IL := [(954, .newarray .long, 2), (956, .putfield 363, 3), (959, .aload_n 0, 1), (960, .bipush 24, 2), (962, .newarray .long, 2), (964, .putfield 366, 3), (967, .aload_n 0, 1), (968, .bipush 24, 2), (970, .newarray .long, 2), (972, .putfield 369, 3), (975, .aload_n 0, 1), (976, .bipush 24, 2)]
theorem aJ_319_39 : sx_iB prog_14_method_1_code aI_319_39 = true := by decide +kernel
def aI_319_40 : sx_IL := [(978, .newarray .long, 2), (980, .putfield 372, 3), (983, .aload_n 0, 1), (984, .bipush 24, 2), (986, .newarray .long, 2), (988, .putfield 375, 3), (991, .aload_n 0, 1), (992, .bipush 24, 2), (994, .newarray .long, 2), (996, .putfield 378, 3), (999, .aload_n 0, 1), (1000, .bipush 24, 2)]
theorem aJ_319_40 : sx_iB prog_14_method_1_code aI_319_40 = true := by decide +kernel
def aI_319_41 : sx_IL := [(1002, .newarray .int, 2), (1004, .putfield 381, 3), (1007, .aload_n 0, 1), (1008, .bipush 24, 2), (1010, .newarray .int, 2), (1012, .putfield 384, 3), (1015, .aload_n 0, 1), (1016, .bipush 48, 2), (1018, .newarray .int, 2), (1020, .putfield 387, 3), (1023, .aload_n 0, 1), (1024, .bipush 48, 2)]
theorem aJ_319_41 : sx_iB prog_14_method_1_code aI_319_41 = true := by decide +kernel
def aI_319_42 : sx_IL := [(1026, .newarray .int, 2), (1028, .putfield 390, 3), (1031, .aload_n 0, 1), (1032, .bipush 48, 2), (1034, .newarray .int, 2), (1036, .putfield 393, 3), (1039, .aload_n 0, 1), (1040, .bipush 48, 2), (1042, .newarray .int, 2), (1044, .putfield 396, 3), (1047, .aload_n 0, 1), (1048, .bipush 48, 2)]
theorem aJ_319_42 : sx_iB prog_14_method_1_code aI_319_42 = true := by decide +kernel
def aI_319_43 : sx_IL := [(1050, .newarray .int, 2), (1052, .putfield 399, 3), (1055, .aload_n 0, 1), (1056, .bipush 48, 2), (1058, .newarray .int, 2), (1060, .putfield 402, 3), (1063, .aload_n 0, 1), (1064, .bipush 48, 2), (1066, .newarray .long, 2), (1068, .putfield 405, 3), (1071, .aload_n 0, 1), (1072, .bipush 12, 2)]
theorem aJ_319_43 : sx_iB prog_14_method_1_code aI_319_43 = true := by decide +kernel
def aI_319_44 : sx_IL := [(1074, .newarray .long, 2), (1076, .putfield 408, 3), (1079, .aload_n 0, 1), (1080, .bipush 12, 2), (1082, .newarray .int, 2), (1084, .putfield 411, 3), (1087, .aload_n 0, 1), (1088, .bipush 12, 2), (1090, .newarray .int, 2), (1092, .putfield 414, 3), (1095, .aload_n 0, 1), (1096, .bipush 12, 2)]
theorem aJ_319_44 : sx_iB prog_14_method_1_code aI_319_44 = true := by decide +kernel
def aI_319_45 : sx_IL := [(1098, .newarray .int, 2), (1100, .putfield 417, 3), (1103, .aload_n 0, 1), (1104, .bipush 12, 2), (1106, .newarray .int, 2), (1108, .putfield 420, 3), (1111, .aload_n 0, 1), (1112, .sipush 1152, 3), (1115, .newarray .int, 2), (1117, .putfield 423, 3), (1120, .aload_n 0, 1), (1121, .bipush 72, 2)]
theorem aJ_319_45 : sx_iB prog_14_method_1_code aI_319_45 = true := by decide +kernel
def aI_319_46 : sx_IL := [(1123, .newarray .int, 2), (1125, .putfield 426, 3), (1128, .aload_n 0, 1), (1129, .bipush 72, 2), (1131, .newarray .long, 2), (1133, .putfield 429, 3), (1136, .aload_n 0, 1), (1137, .bipush 72, 2), (1139, .newarray .int, 2), (1141, .putfield 432, 3), (1144, .aload_n 0, 1), (1145, .bipush 72, 2)]
theorem aJ_319_46 : sx_iB prog_14_method_1_code aI_319_46 = true := by decide +kernel
def aI_319_47 : sx_IL := [(1147, .newarray .boolean, 2), (1149, .putfield 435, 3), (1152, .aload_n 0, 1), (1153, .bipush 72, 2), (1155, .newarray .int, 2), (1157, .putfield 438, 3), (1160, .aload_n 0, 1), (1161, .bipush 12, 2), (1163, .newarray .boolean, 2), (1165, .putfield 441, 3), (1168, .aload_n 0, 1), (1169, .bipush 12, 2)]
theorem aJ_319_47 : sx_iB prog_14_method_1_code aI_319_47 = true := by decide +kernel
def aI_319_48 : sx_IL := [(1171, .newarray .boolean, 2), (1173, .putfield 444, 3), (1176, .aload_n 0, 1), (1177, .bipush 12, 2), (1179, .newarray .long, 2), (1181, .putfield 447, 3), (1184, .aload_n 0, 1), (1185, .bipush 12, 2), (1187, .newarray .boolean, 2), (1189, .putfield 450, 3), (1192, .aload_n 0, 1), (1193, .bipush 12, 2)]
theorem aJ_319_48 : sx_iB prog_14_method_1_code aI_319_48 = true := by decide +kernel
def aI_319_49 : sx_IL := [(1195, .newarray .int, 2), (1197, .putfield 453, 3), (1200, .aload_n 0, 1), (1201, .bipush 24, 2), (1203, .newarray .int, 2), (1205, .putfield 456, 3), (1208, .aload_n 0, 1), (1209, .bipush 24, 2), (1211, .newarray .int, 2), (1213, .putfield 459, 3), (1216, .aload_n 0, 1), (1217, .sipush 30000, 3)]
theorem aJ_319_49 : sx_iB prog_14_method_1_code aI_319_49 = true := by decide +kernel
def aI_319_50 : sx_IL := [(1220, .newarray .int, 2), (1222, .putfield 462, 3), (1225, .aload_n 0, 1), (1226, .bipush 12, 2), (1228, .newarray .int, 2), (1230, .putfield 465, 3), (1233, .aload_n 0, 1), (1234, .bipush 12, 2), (1236, .newarray .long, 2), (1238, .putfield 468, 3), (1241, .aload_n 0, 1), (1242, .bipush 12, 2)]
theorem aJ_319_50 : sx_iB prog_14_method_1_code aI_319_50 = true := by decide +kernel
def aI_319_51 : sx_IL := [(1244, .newarray .long, 2), (1246, .putfield 471, 3), (1249, .aload_n 0, 1), (1250, .bipush 12, 2), (1252, .newarray .int, 2), (1254, .putfield 474, 3), (1257, .aload_n 0, 1), (1258, .bipush 12, 2), (1260, .newarray .int, 2), (1262, .putfield 477, 3), (1265, .aload_n 0, 1), (1266, .sipush 320, 3)]
theorem aJ_319_51 : sx_iB prog_14_method_1_code aI_319_51 = true := by decide +kernel
def aI_319_52 : sx_IL := [(1269, .newarray .int, 2), (1271, .putfield 480, 3), (1274, .aload_n 0, 1), (1275, .sipush 2700, 3), (1278, .newarray .int, 2), (1280, .putfield 483, 3), (1283, .aload_n 0, 1), (1284, .iconst 1, 1), (1285, .newarray .int, 2), (1287, .putfield 486, 3), (1290, .aload_n 0, 1), (1291, .bipush 11, 2)]
theorem aJ_319_52 : sx_iB prog_14_method_1_code aI_319_52 = true := by decide +kernel
def aI_319_53 : sx_IL := [(1293, .newarray .int, 2), (1295, .putfield 489, 3), (1298, .aload_n 0, 1), (1299, .bipush 11, 2), (1301, .newarray .int, 2), (1303, .putfield 492, 3), (1306, .aload_n 0, 1), (1307, .bipush 9, 2), (1309, .newarray .int, 2), (1311, .putfield 495, 3), (1314, .aload_n 0, 1), (1315, .iconst 4, 1)]
theorem aJ_319_53 : sx_iB prog_14_method_1_code aI_319_53 = true := by decide +kernel
def aI_319_54 : sx_IL := [(1316, .newarray .int, 2), (1318, .putfield 498, 3), (1321, .aload_n 0, 1), (1322, .iconst 4, 1), (1323, .newarray .int, 2), (1325, .putfield 501, 3), (1328, .aload_n 0, 1), (1329, .sipush 8000, 3), (1332, .newarray .int, 2), (1334, .putfield 504, 3), (1337, .aload_n 0, 1), (1338, .iconst 0, 1)]
theorem aJ_319_54 : sx_iB prog_14_method_1_code aI_319_54 = true := by decide +kernel
def aI_319_55 : sx_IL := [(1339, .putfield 507, 3), (1342, .return_, 1)]
theorem aJ_319_55 : sx_iB prog_14_method_1_code aI_319_55 = true := by decide +kernel
def aS_319 (pc : Nat) : sx_IL := (if pc < 686 then (if pc < 347 then (if pc < 173 then (if pc < 73 then (if pc < 24 then aI_319_0 else (if pc < 49 then aI_319_1 else aI_319_2)) else (if pc < 123 then (if pc < 99 then aI_319_3 else aI_319_4) else (if pc < 148 then aI_319_5 else aI_319_6))) else (if pc < 247 then (if pc < 198 then aI_319_7 else (if pc < 223 then aI_319_8 else aI_319_9)) else (if pc < 297 then (if pc < 272 then aI_319_10 else aI_319_11) else (if pc < 322 then aI_319_12 else aI_319_13)))) else (if pc < 519 then (if pc < 421 then (if pc < 371 then aI_319_14 else (if pc < 397 then aI_319_15 else aI_319_16)) else (if pc < 473 then (if pc < 446 then aI_319_17 else aI_319_18) else (if pc < 498 then aI_319_19 else aI_319_20))) else (if pc < 587 then (if pc < 540 then aI_319_21 else (if pc < 563 then aI_319_22 else aI_319_23)) else (if pc < 639 then (if pc < 614 then aI_319_24 else aI_319_25) else (if pc < 664 then aI_319_26 else aI_319_27))))) else (if pc < 1026 then (if pc < 858 then (if pc < 762 then (if pc < 712 then aI_319_28 else (if pc < 737 then aI_319_29 else aI_319_30)) else (if pc < 810 then (if pc < 786 then aI_319_31 else aI_319_32) else (if pc < 834 then aI_319_33 else aI_319_34))) else (if pc < 930 then (if pc < 882 then aI_319_35 else (if pc < 906 then aI_319_36 else aI_319_37)) else (if pc < 978 then (if pc < 954 then aI_319_38 else aI_319_39) else (if pc < 1002 then aI_319_40 else aI_319_41)))) else (if pc < 1195 then (if pc < 1098 then (if pc < 1050 then aI_319_42 else (if pc < 1074 then aI_319_43 else aI_319_44)) else (if pc < 1147 then (if pc < 1123 then aI_319_45 else aI_319_46) else (if pc < 1171 then aI_319_47 else aI_319_48))) else (if pc < 1269 then (if pc < 1220 then aI_319_49 else (if pc < 1244 then aI_319_50 else aI_319_51)) else (if pc < 1316 then (if pc < 1293 then aI_319_52 else aI_319_53) else (if pc < 1339 then aI_319_54 else aI_319_55))))))
theorem aT_319 (pc : Nat) : sx_iOk prog_14_method_1_code (aS_319 pc) := by
  unfold aS_319
  exact (sx_ite (sx_ite (sx_ite (sx_ite (sx_ite (sx_iB_s aJ_319_0) (sx_ite (sx_iB_s aJ_319_1) (sx_iB_s aJ_319_2))) (sx_ite (sx_ite (sx_iB_s aJ_319_3) (sx_iB_s aJ_319_4)) (sx_ite (sx_iB_s aJ_319_5) (sx_iB_s aJ_319_6)))) (sx_ite (sx_ite (sx_iB_s aJ_319_7) (sx_ite (sx_iB_s aJ_319_8) (sx_iB_s aJ_319_9))) (sx_ite (sx_ite (sx_iB_s aJ_319_10) (sx_iB_s aJ_319_11)) (sx_ite (sx_iB_s aJ_319_12) (sx_iB_s aJ_319_13))))) (sx_ite (sx_ite (sx_ite (sx_iB_s aJ_319_14) (sx_ite (sx_iB_s aJ_319_15) (sx_iB_s aJ_319_16))) (sx_ite (sx_ite (sx_iB_s aJ_319_17) (sx_iB_s aJ_319_18)) (sx_ite (sx_iB_s aJ_319_19) (sx_iB_s aJ_319_20)))) (sx_ite (sx_ite (sx_iB_s aJ_319_21) (sx_ite (sx_iB_s aJ_319_22) (sx_iB_s aJ_319_23))) (sx_ite (sx_ite (sx_iB_s aJ_319_24) (sx_iB_s aJ_319_25)) (sx_ite (sx_iB_s aJ_319_26) (sx_iB_s aJ_319_27)))))) (sx_ite (sx_ite (sx_ite (sx_ite (sx_iB_s aJ_319_28) (sx_ite (sx_iB_s aJ_319_29) (sx_iB_s aJ_319_30))) (sx_ite (sx_ite (sx_iB_s aJ_319_31) (sx_iB_s aJ_319_32)) (sx_ite (sx_iB_s aJ_319_33) (sx_iB_s aJ_319_34)))) (sx_ite (sx_ite (sx_iB_s aJ_319_35) (sx_ite (sx_iB_s aJ_319_36) (sx_iB_s aJ_319_37))) (sx_ite (sx_ite (sx_iB_s aJ_319_38) (sx_iB_s aJ_319_39)) (sx_ite (sx_iB_s aJ_319_40) (sx_iB_s aJ_319_41))))) (sx_ite (sx_ite (sx_ite (sx_iB_s aJ_319_42) (sx_ite (sx_iB_s aJ_319_43) (sx_iB_s aJ_319_44))) (sx_ite (sx_ite (sx_iB_s aJ_319_45) (sx_iB_s aJ_319_46)) (sx_ite (sx_iB_s aJ_319_47) (sx_iB_s aJ_319_48)))) (sx_ite (sx_ite (sx_iB_s aJ_319_49) (sx_ite (sx_iB_s aJ_319_50) (sx_iB_s aJ_319_51))) (sx_ite (sx_ite (sx_iB_s aJ_319_52) (sx_iB_s aJ_319_53)) (sx_ite (sx_iB_s aJ_319_54) (sx_iB_s aJ_319_55)))))))
def aI_561_0 : sx_IL := [(0, .new 7, 3), (3, .dup, 1), (4, .invokespecial 9, 3), (7, .astore_n 1, 1), (8, .new 10, 3), (11, .dup, 1), (12, .invokespecial 12, 3), (15, .astore_n 2, 1), (16, .iconst 0, 1), (17, .istore_n 3, 1), (18, .iload_n 3, 1), (19, .aload_n 0, 1)]
theorem aJ_561_0 : sx_iB code aI_561_0 = true := by decide +kernel
def aI_561_1 : sx_IL := [(20, .arraylength, 1), (21, .bipush 7, 2), (23, .isub, 1), (24, .if_icmp .gt 3157, 3), (27, .aload_n 0, 1), (28, .iload_n 3, 1), (29, .iaload, 1), (30, .bipush 127, 2), (32, .iand, 1), (33, .tableswitch 3142 0 66 #[283, 346, 369, 392, 405, 428, 452, 516, 632, 747, 862, 895, 939, 962, 996, 1069, 1082, 1115, 1128, 1141, 1154, 1187, 1230, 1253, 1296, 1349, 1372, 1415, 1438, 1481, 1524, 1547, 1580, 1613, 1636, 1709, 1742, 1785, 1808, 1841, 1874, 1917, 1960, 2013, 2046, 2079, 2112, 2155, 2198, 2242, 2276, 2319, 2382, 2415, 2458, 2511, 2554, 2607, 2640, 2673, 2716, 2729, 2792, 2826, 2869, 2912, 3027], 283)]
theorem aJ_561_1 : sx_iB code aI_561_1 = true := by decide +kernel
def aS_561 (pc : Nat) : sx_IL := (if pc < 20 then aI_561_0 else aI_561_1)
theorem aT_561 (pc : Nat) : sx_iOk code (aS_561 pc) := by
  unfold aS_561
  exact (sx_ite (sx_iB_s aJ_561_0) (sx_iB_s aJ_561_1))
def sx_P1 (f : Nat → Option (Instr × Nat)) (y : Nat) : Prop := ∀ pc r, f pc = some r → ∀ mt, am_meth (aP (fun i => i)) y = some mt → decode mt.2.1 pc = .ok r
def aU_0 (y pc : Nat) : Option (Instr × Nat) := if y = 0 then sx_iF (aS_0 pc) pc else none
set_option maxRecDepth 100000 in
theorem aV0_0 (y : Nat) : sx_P1 (aU_0 y) y := by
  intro pc r h mt hm
  unfold aU_0 at h
  split at h
  · rename_i hy
    subst hy
    have e : aM_0.1 = mt := Option.some.inj (show some aM_0.1 = some mt from hm)
    subst e
    exact sx_iF_s (aT_0 pc) h
  · cases h
def aU_1 (y pc : Nat) : Option (Instr × Nat) := if y = 1 then sx_iF (aS_1 pc) pc else none
set_option maxRecDepth 100000 in
theorem aV0_1 (y : Nat) : sx_P1 (aU_1 y) y := by
  intro pc r h mt hm
  unfold aU_1 at h
  split at h
  · rename_i hy
    subst hy
    have e : aM_1.1 = mt := Option.some.inj (show some aM_1.1 = some mt from hm)
    subst e
    exact sx_iF_s (aT_1 pc) h
  · cases h
def aU_2 (y pc : Nat) : Option (Instr × Nat) := if y = 2 then sx_iF (aS_2 pc) pc else none
set_option maxRecDepth 100000 in
theorem aV0_2 (y : Nat) : sx_P1 (aU_2 y) y := by
  intro pc r h mt hm
  unfold aU_2 at h
  split at h
  · rename_i hy
    subst hy
    have e : aM_2.1 = mt := Option.some.inj (show some aM_2.1 = some mt from hm)
    subst e
    exact sx_iF_s (aT_2 pc) h
  · cases h
def aU_3 (y pc : Nat) : Option (Instr × Nat) := if y = 3 then sx_iF (aS_3 pc) pc else none
set_option maxRecDepth 100000 in
theorem aV0_3 (y : Nat) : sx_P1 (aU_3 y) y := by
  intro pc r h mt hm
  unfold aU_3 at h
  split at h
  · rename_i hy
    subst hy
    have e : aM_3.1 = mt := Option.some.inj (show some aM_3.1 = some mt from hm)
    subst e
    exact sx_iF_s (aT_3 pc) h
  · cases h
def aU_4 (y pc : Nat) : Option (Instr × Nat) := if y = 4 then sx_iF (aS_4 pc) pc else none
set_option maxRecDepth 100000 in
theorem aV0_4 (y : Nat) : sx_P1 (aU_4 y) y := by
  intro pc r h mt hm
  unfold aU_4 at h
  split at h
  · rename_i hy
    subst hy
    have e : aM_4.1 = mt := Option.some.inj (show some aM_4.1 = some mt from hm)
    subst e
    exact sx_iF_s (aT_4 pc) h
  · cases h
def aU_5 (y pc : Nat) : Option (Instr × Nat) := if y = 5 then sx_iF (aS_5 pc) pc else none
set_option maxRecDepth 100000 in
theorem aV0_5 (y : Nat) : sx_P1 (aU_5 y) y := by
  intro pc r h mt hm
  unfold aU_5 at h
  split at h
  · rename_i hy
    subst hy
    have e : aM_5.1 = mt := Option.some.inj (show some aM_5.1 = some mt from hm)
    subst e
    exact sx_iF_s (aT_5 pc) h
  · cases h
def aU_319 (y pc : Nat) : Option (Instr × Nat) := if y = 319 then sx_iF (aS_319 pc) pc else none
set_option maxRecDepth 100000 in
theorem aV0_319 (y : Nat) : sx_P1 (aU_319 y) y := by
  intro pc r h mt hm
  unfold aU_319 at h
  split at h
  · rename_i hy
    subst hy
    have e : aM_319.1 = mt := Option.some.inj (show some aM_319.1 = some mt from hm)
    subst e
    exact sx_iF_s (aT_319 pc) h
  · cases h
def aU_561 (y pc : Nat) : Option (Instr × Nat) := if y = 561 then sx_iF (aS_561 pc) pc else none
set_option maxRecDepth 100000 in
theorem aV0_561 (y : Nat) : sx_P1 (aU_561 y) y := by
  intro pc r h mt hm
  unfold aU_561 at h
  split at h
  · rename_i hy
    subst hy
    have e : aM_561.1 = mt := Option.some.inj (show some aM_561.1 = some mt from hm)
    subst e
    exact sx_iF_s (aT_561 pc) h
  · cases h
def aIns : sx_Ins := fun y => (if y < 4 then (if y < 2 then (if y < 1 then aU_0 y else aU_1 y) else (if y < 3 then aU_2 y else aU_3 y)) else (if y < 319 then (if y < 5 then aU_4 y else aU_5 y) else (if y < 561 then aU_319 y else aU_561 y)))
theorem aIns_s : sx_insOk (aP (fun i => i)) aIns := by
  intro y
  show sx_P1 (aIns y) y
  unfold aIns
  exact (sx_ite (p := fun f => sx_P1 f y) (sx_ite (p := fun f => sx_P1 f y) (sx_ite (p := fun f => sx_P1 f y) (aV0_0 y) (aV0_1 y)) (sx_ite (p := fun f => sx_P1 f y) (aV0_2 y) (aV0_3 y))) (sx_ite (p := fun f => sx_P1 f y) (sx_ite (p := fun f => sx_P1 f y) (aV0_4 y) (aV0_5 y)) (sx_ite (p := fun f => sx_P1 f y) (aV0_319 y) (aV0_561 y))))
