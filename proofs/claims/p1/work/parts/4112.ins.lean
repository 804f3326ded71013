/-! SX: instructions, rows of the class and the reference -/
def aI_171_0 : sx_IL := [(0, .aload_n 0, 1), (1, .iload_n 1, 1), (2, .invokevirtual 23, 3), (5, .bipush 8, 2), (7, .ishl, 1), (8, .aload_n 0, 1)]
theorem aJ_171_0 : sx_iB prog_9_method_4_code aI_171_0 = true := by decide +kernel
def aI_171_1 : sx_IL := [(9, .iload_n 1, 1), (10, .iconst 1, 1), (11, .iadd, 1), (12, .invokevirtual 23, 3), (15, .ior, 1), (16, .ireturn, 1)]
theorem aJ_171_1 : sx_iB prog_9_method_4_code aI_171_1 = true := by decide +kernel
def aI_195_0 : sx_IL := [(0, .aload_n 0, 1), (1, .iload_n 1, 1), (2, .invokevirtual 27, 3), (5, .i2l, 1), (6, .bipush 32, 2), (8, .lshl, 1)]
theorem aJ_195_0 : sx_iB prog_9_method_6_code aI_195_0 = true := by decide +kernel
def aI_195_1 : sx_IL := [(9, .aload_n 0, 1), (10, .iload_n 1, 1), (11, .iconst 4, 1), (12, .iadd, 1), (13, .invokevirtual 27, 3), (16, .i2l, 1)]
theorem aJ_195_1 : sx_iB prog_9_method_6_code aI_195_1 = true := by decide +kernel
def aI_195_2 : sx_IL := [(17, .ldc2_w 30, 3), (20, .land, 1), (21, .lor, 1), (22, .lreturn, 1)]
theorem aJ_195_2 : sx_iB prog_9_method_6_code aI_195_2 = true := by decide +kernel
def aI_258_0 : sx_IL := [(0, .aload_n 0, 1), (1, .iload_n 1, 1), (2, .iload_n 2, 1), (3, .invokevirtual 336, 3), (6, .ifCond .eq 15, 3), (9, .iload_n 3, 1)]
theorem aJ_258_0 : sx_iB prog_1_method_51_code aI_258_0 = true := by decide +kernel
def aI_258_1 : sx_IL := [(10, .iconst 1, 1), (11, .if_icmp .lt 10, 3), (14, .iload_n 3, 1), (15, .sipush 8000, 3), (18, .if_icmp .le 5, 3), (21, .iconst (-1), 1)]
theorem aJ_258_1 : sx_iB prog_1_method_51_code aI_258_1 = true := by decide +kernel
def aI_258_2 : sx_IL := [(22, .ireturn, 1), (23, .aload_n 0, 1), (24, .iload_n 1, 1), (25, .iload_n 2, 1), (26, .invokevirtual 339, 3), (29, .astore 4, 2)]
theorem aJ_258_2 : sx_iB prog_1_method_51_code aI_258_2 = true := by decide +kernel
def aI_258_3 : sx_IL := [(31, .aload_n 0, 1), (32, .iload_n 1, 1), (33, .iconst 1, 1), (34, .iload_n 2, 1), (35, .isub, 1), (36, .invokevirtual 339, 3)]
theorem aJ_258_3 : sx_iB prog_1_method_51_code aI_258_3 = true := by decide +kernel
def aI_258_4 : sx_IL := [(39, .astore 5, 2), (41, .aload 5, 2), (43, .ifnull 20, 3), (46, .aload 5, 2), (48, .getfield 343, 3), (51, .getfield 69, 3)]
theorem aJ_258_4 : sx_iB prog_1_method_51_code aI_258_4 = true := by decide +kernel
def aI_258_5 : sx_IL := [(54, .sipush 4000, 3), (57, .if_icmp .le 6, 3), (60, .bipush (-3), 2), (62, .ireturn, 1), (63, .aload 4, 2), (65, .ifnonnull 7, 3)]
theorem aJ_258_5 : sx_iB prog_1_method_51_code aI_258_5 = true := by decide +kernel
def aI_258_6 : sx_IL := [(68, .iconst 0, 1), (69, .goto 15, 3), (72, .iload_n 3, 1), (73, .aload 4, 2), (75, .getfield 343, 3), (78, .getfield 69, 3)]
theorem aJ_258_6 : sx_iB prog_1_method_51_code aI_258_6 = true := by decide +kernel
def aI_258_7 : sx_IL := [(81, .invokestatic 349, 3), (84, .istore 6, 2), (86, .aload 5, 2), (88, .ifnonnull 46, 3), (91, .iload 6, 2), (93, .sipush 800, 3)]
theorem aJ_258_7 : sx_iB prog_1_method_51_code aI_258_7 = true := by decide +kernel
def aI_258_8 : sx_IL := [(96, .invokestatic 349, 3), (99, .istore 6, 2), (101, .aload_n 0, 1), (102, .getfield 25, 3), (105, .invokevirtual 108, 3), (108, .aload 4, 2)]
theorem aJ_258_8 : sx_iB prog_1_method_51_code aI_258_8 = true := by decide +kernel
def aI_258_9 : sx_IL := [(110, .ifnull 45, 3), (113, .aload_n 0, 1), (114, .getfield 25, 3), (117, .aload 4, 2), (119, .getfield 343, 3), (122, .getfield 80, 3)]
theorem aJ_258_9 : sx_iB prog_1_method_51_code aI_258_9 = true := by decide +kernel
def aI_258_10 : sx_IL := [(125, .iconst 0, 1), (126, .iload 6, 2), (128, .invokevirtual 83, 3), (131, .goto 24, 3), (134, .aload 4, 2), (136, .ifnull 19, 3)]
theorem aJ_258_10 : sx_iB prog_1_method_51_code aI_258_10 = true := by decide +kernel
def aI_258_11 : sx_IL := [(139, .aload 5, 2), (141, .aload 4, 2), (143, .getfield 343, 3), (146, .getfield 80, 3), (149, .iconst 0, 1), (150, .iload 6, 2)]
theorem aJ_258_11 : sx_iB prog_1_method_51_code aI_258_11 = true := by decide +kernel
def aI_258_12 : sx_IL := [(152, .invokevirtual 346, 3), (155, .aload 4, 2), (157, .ifnull 13, 3), (160, .aload 4, 2), (162, .getfield 343, 3), (165, .iload 6, 2)]
theorem aJ_258_12 : sx_iB prog_1_method_51_code aI_258_12 = true := by decide +kernel
def aI_258_13 : sx_IL := [(167, .invokevirtual 354, 3), (170, .iload 6, 2), (172, .ireturn, 1)]
theorem aJ_258_13 : sx_iB prog_1_method_51_code aI_258_13 = true := by decide +kernel
def aI_259_0 : sx_IL := [(0, .aload_n 0, 1), (1, .iload_n 1, 1), (2, .iload_n 2, 1), (3, .invokevirtual 339, 3), (6, .astore 4, 2), (8, .aload 4, 2)]
theorem aJ_259_0 : sx_iB prog_1_method_52_code aI_259_0 = true := by decide +kernel
def aI_259_1 : sx_IL := [(10, .ifnonnull 7, 3), (13, .iconst 0, 1), (14, .goto 11, 3), (17, .aload 4, 2), (19, .getfield 343, 3), (22, .getfield 69, 3)]
theorem aJ_259_1 : sx_iB prog_1_method_52_code aI_259_1 = true := by decide +kernel
def aI_259_2 : sx_IL := [(25, .istore 5, 2), (27, .aload_n 0, 1), (28, .iload_n 1, 1), (29, .iload_n 2, 1), (30, .invokevirtual 336, 3), (33, .ifCond .eq 14, 3)]
theorem aJ_259_2 : sx_iB prog_1_method_52_code aI_259_2 = true := by decide +kernel
def aI_259_3 : sx_IL := [(36, .iload_n 3, 1), (37, .iconst (-1), 1), (38, .if_icmp .lt 9, 3), (41, .iload_n 3, 1), (42, .iload 5, 2), (44, .if_icmp .lt 5, 3)]
theorem aJ_259_3 : sx_iB prog_1_method_52_code aI_259_3 = true := by decide +kernel
def aI_259_4 : sx_IL := [(47, .iconst (-1), 1), (48, .ireturn, 1), (49, .iload_n 3, 1), (50, .iconst (-1), 1), (51, .if_icmp .eq 8, 3), (54, .aload 4, 2)]
theorem aJ_259_4 : sx_iB prog_1_method_52_code aI_259_4 = true := by decide +kernel
def aI_259_5 : sx_IL := [(56, .ifnonnull 8, 3), (59, .iload 5, 2), (61, .goto 12, 3), (64, .aload 4, 2), (66, .getfield 343, 3), (69, .iload_n 3, 1)]
theorem aJ_259_5 : sx_iB prog_1_method_52_code aI_259_5 = true := by decide +kernel
def aI_259_6 : sx_IL := [(70, .invokevirtual 76, 3), (73, .ireturn, 1)]
theorem aJ_259_6 : sx_iB prog_1_method_52_code aI_259_6 = true := by decide +kernel
def aI_260_0 : sx_IL := [(0, .aload_n 0, 1), (1, .iload_n 1, 1), (2, .iload_n 2, 1), (3, .invokevirtual 339, 3), (6, .astore 5, 2), (8, .aload 5, 2)]
theorem aJ_260_0 : sx_iB prog_1_method_53_code aI_260_0 = true := by decide +kernel
def aI_260_1 : sx_IL := [(10, .ifnull 33, 3), (13, .iload_n 3, 1), (14, .ifCond .lt 29, 3), (17, .iload_n 3, 1), (18, .aload 5, 2), (20, .getfield 343, 3)]
theorem aJ_260_1 : sx_iB prog_1_method_53_code aI_260_1 = true := by decide +kernel
def aI_260_2 : sx_IL := [(23, .getfield 69, 3), (26, .if_icmp .ge 17, 3), (29, .iload 4, 2), (31, .iconst 1, 1), (32, .if_icmp .lt 11, 3), (35, .iload 4, 2)]
theorem aJ_260_2 : sx_iB prog_1_method_53_code aI_260_2 = true := by decide +kernel
def aI_260_3 : sx_IL := [(37, .sipush 255, 3), (40, .if_icmp .le 5, 3), (43, .iconst (-1), 1), (44, .ireturn, 1), (45, .aload 5, 2), (47, .getfield 343, 3)]
theorem aJ_260_3 : sx_iB prog_1_method_53_code aI_260_3 = true := by decide +kernel
def aI_260_4 : sx_IL := [(50, .getfield 80, 3), (53, .iload_n 3, 1), (54, .dup2, 1), (55, .iaload, 1), (56, .iload 4, 2), (58, .ixor, 1)]
theorem aJ_260_4 : sx_iB prog_1_method_53_code aI_260_4 = true := by decide +kernel
def aI_260_5 : sx_IL := [(59, .iastore, 1), (60, .aload 5, 2), (62, .getfield 343, 3), (65, .iload_n 3, 1), (66, .invokevirtual 76, 3), (69, .ireturn, 1)]
theorem aJ_260_5 : sx_iB prog_1_method_53_code aI_260_5 = true := by decide +kernel
def aI_261_0 : sx_IL := [(0, .aload_n 0, 1), (1, .iload_n 1, 1), (2, .iload_n 2, 1), (3, .invokevirtual 336, 3), (6, .ifCond .ne 5, 3), (9, .iconst (-1), 1)]
theorem aJ_261_0 : sx_iB prog_1_method_54_code aI_261_0 = true := by decide +kernel
def aI_261_1 : sx_IL := [(10, .ireturn, 1), (11, .aload_n 0, 1), (12, .iload_n 1, 1), (13, .iload_n 2, 1), (14, .invokevirtual 339, 3), (17, .astore_n 3, 1)]
theorem aJ_261_1 : sx_iB prog_1_method_54_code aI_261_1 = true := by decide +kernel
def aI_261_2 : sx_IL := [(18, .aload_n 3, 1), (19, .ifnull 10, 3), (22, .aload_n 3, 1), (23, .invokevirtual 357, 3), (26, .ifCond .ne 6, 3), (29, .bipush (-2), 2)]
theorem aJ_261_2 : sx_iB prog_1_method_54_code aI_261_2 = true := by decide +kernel
def aI_261_3 : sx_IL := [(31, .ireturn, 1), (32, .aload_n 3, 1), (33, .getfield 343, 3), (36, .getfield 69, 3), (39, .sipush 2000, 3), (42, .if_icmp .le 6, 3)]
theorem aJ_261_3 : sx_iB prog_1_method_54_code aI_261_3 = true := by decide +kernel
def aI_261_4 : sx_IL := [(45, .bipush (-3), 2), (47, .ireturn, 1), (48, .aload_n 0, 1), (49, .getfield 21, 3), (52, .getfield 69, 3), (55, .istore 4, 2)]
theorem aJ_261_4 : sx_iB prog_1_method_54_code aI_261_4 = true := by decide +kernel
def aI_261_5 : sx_IL := [(57, .aload_n 3, 1), (58, .bipush 23, 2), (60, .aload_n 0, 1), (61, .getfield 21, 3), (64, .getfield 80, 3), (67, .iconst 0, 1)]
theorem aJ_261_5 : sx_iB prog_1_method_54_code aI_261_5 = true := by decide +kernel
def aI_261_6 : sx_IL := [(68, .iload 4, 2), (70, .invokevirtual 361, 3), (73, .aload_n 0, 1), (74, .getfield 21, 3), (77, .invokevirtual 108, 3), (80, .iload 4, 2)]
theorem aJ_261_6 : sx_iB prog_1_method_54_code aI_261_6 = true := by decide +kernel
def aI_261_7 : sx_IL := [(82, .ireturn, 1)]
theorem aJ_261_7 : sx_iB prog_1_method_54_code aI_261_7 = true := by decide +kernel
def aI_263_0 : sx_IL := [(0, .aload_n 0, 1), (1, .iload_n 1, 1), (2, .iload_n 2, 1), (3, .invokevirtual 339, 3), (6, .astore_n 3, 1), (7, .aload_n 3, 1)]
theorem aJ_263_0 : sx_iB prog_1_method_55_code aI_263_0 = true := by decide +kernel
def aI_263_1 : sx_IL := [(8, .ifnonnull 7, 3), (11, .iconst (-1), 1), (12, .goto 7, 3), (15, .aload_n 3, 1), (16, .invokevirtual 364, 3), (19, .ireturn, 1)]
theorem aJ_263_1 : sx_iB prog_1_method_55_code aI_263_1 = true := by decide +kernel
def aI_265_0 : sx_IL := [(0, .aload_n 0, 1), (1, .iload_n 1, 1), (2, .iload_n 2, 1), (3, .invokevirtual 336, 3), (6, .ifCond .ne 5, 3), (9, .iconst (-1), 1)]
theorem aJ_265_0 : sx_iB prog_1_method_56_code aI_265_0 = true := by decide +kernel
def aI_265_1 : sx_IL := [(10, .ireturn, 1), (11, .aload_n 0, 1), (12, .iload_n 1, 1), (13, .iload_n 2, 1), (14, .invokevirtual 339, 3), (17, .astore_n 3, 1)]
theorem aJ_265_1 : sx_iB prog_1_method_56_code aI_265_1 = true := by decide +kernel
def aI_265_2 : sx_IL := [(18, .aload_n 3, 1), (19, .ifnull 10, 3), (22, .aload_n 3, 1), (23, .invokevirtual 357, 3), (26, .ifCond .ne 6, 3), (29, .bipush (-2), 2)]
theorem aJ_265_2 : sx_iB prog_1_method_56_code aI_265_2 = true := by decide +kernel
def aI_265_3 : sx_IL := [(31, .ireturn, 1), (32, .aload_n 3, 1), (33, .iconst 0, 1), (34, .invokevirtual 368, 3), (37, .aload_n 3, 1), (38, .getfield 371, 3)]
theorem aJ_265_3 : sx_iB prog_1_method_56_code aI_265_3 = true := by decide +kernel
def aI_265_4 : sx_IL := [(41, .bipush 8, 2), (43, .iconst 1, 1), (44, .iastore, 1), (45, .iconst 1, 1), (46, .ireturn, 1)]
theorem aJ_265_4 : sx_iB prog_1_method_56_code aI_265_4 = true := by decide +kernel
def aI_266_0 : sx_IL := [(0, .aload_n 0, 1), (1, .iload_n 1, 1), (2, .iload_n 2, 1), (3, .invokevirtual 336, 3), (6, .ifCond .eq 12, 3), (9, .iload_n 3, 1)]
theorem aJ_266_0 : sx_iB prog_1_method_57_code aI_266_0 = true := by decide +kernel
def aI_266_1 : sx_IL := [(10, .ifCond .eq 10, 3), (13, .iload_n 3, 1), (14, .iconst 1, 1), (15, .if_icmp .eq 5, 3), (18, .iconst (-1), 1), (19, .ireturn, 1)]
theorem aJ_266_1 : sx_iB prog_1_method_57_code aI_266_1 = true := by decide +kernel
def aI_266_2 : sx_IL := [(20, .aload_n 0, 1), (21, .iload_n 1, 1), (22, .iload_n 2, 1), (23, .invokevirtual 339, 3), (26, .astore 4, 2), (28, .aload 4, 2)]
theorem aJ_266_2 : sx_iB prog_1_method_57_code aI_266_2 = true := by decide +kernel
def aI_266_3 : sx_IL := [(30, .ifnull 11, 3), (33, .aload 4, 2), (35, .invokevirtual 357, 3), (38, .ifCond .ne 6, 3), (41, .bipush (-2), 2), (43, .ireturn, 1)]
theorem aJ_266_3 : sx_iB prog_1_method_57_code aI_266_3 = true := by decide +kernel
def aI_266_4 : sx_IL := [(44, .aload 4, 2), (46, .getfield 343, 3), (49, .getfield 69, 3), (52, .sipush 2000, 3), (55, .if_icmp .le 6, 3), (58, .bipush (-3), 2)]
theorem aJ_266_4 : sx_iB prog_1_method_57_code aI_266_4 = true := by decide +kernel
def aI_266_5 : sx_IL := [(60, .ireturn, 1), (61, .aload 4, 2), (63, .iload_n 3, 1), (64, .invokevirtual 374, 3), (67, .aload 4, 2), (69, .invokevirtual 377, 3)]
theorem aJ_266_5 : sx_iB prog_1_method_57_code aI_266_5 = true := by decide +kernel
def aI_266_6 : sx_IL := [(72, .aload 4, 2), (74, .invokevirtual 380, 3), (77, .iconst 1, 1), (78, .ireturn, 1)]
theorem aJ_266_6 : sx_iB prog_1_method_57_code aI_266_6 = true := by decide +kernel
def aI_267_0 : sx_IL := [(0, .aload_n 0, 1), (1, .iload_n 1, 1), (2, .iload_n 2, 1), (3, .invokevirtual 339, 3), (6, .astore 4, 2), (8, .aload 4, 2)]
theorem aJ_267_0 : sx_iB prog_1_method_58_code aI_267_0 = true := by decide +kernel
def aI_267_1 : sx_IL := [(10, .ifnull 17, 3), (13, .iload_n 3, 1), (14, .ifCond .lt 13, 3), (17, .iload_n 3, 1), (18, .aload 4, 2), (20, .getfield 371, 3)]
theorem aJ_267_1 : sx_iB prog_1_method_58_code aI_267_1 = true := by decide +kernel
def aI_267_2 : sx_IL := [(23, .arraylength, 1), (24, .if_icmp .lt 5, 3), (27, .iconst (-1), 1), (28, .ireturn, 1), (29, .aload 4, 2), (31, .getfield 371, 3)]
theorem aJ_267_2 : sx_iB prog_1_method_58_code aI_267_2 = true := by decide +kernel
def aI_267_3 : sx_IL := [(34, .iload_n 3, 1), (35, .iaload, 1), (36, .ireturn, 1)]
theorem aJ_267_3 : sx_iB prog_1_method_58_code aI_267_3 = true := by decide +kernel
def aI_268_0 : sx_IL := [(0, .aload_n 0, 1), (1, .iload_n 1, 1), (2, .iload_n 2, 1), (3, .invokevirtual 339, 3), (6, .astore 4, 2), (8, .aload 4, 2)]
theorem aJ_268_0 : sx_iB prog_1_method_59_code aI_268_0 = true := by decide +kernel
def aI_268_1 : sx_IL := [(10, .ifnull 13, 3), (13, .iload_n 3, 1), (14, .ifCond .lt 9, 3), (17, .iload_n 3, 1), (18, .bipush 7, 2), (20, .if_icmp .le 7, 3)]
theorem aJ_268_1 : sx_iB prog_1_method_59_code aI_268_1 = true := by decide +kernel
def aI_268_2 : sx_IL := [(23, .ldc2_w 96, 3), (26, .lreturn, 1), (27, .iload_n 3, 1), (28, .bipush 7, 2), (30, .if_icmp .ne 11, 3), (33, .aload 4, 2)]
theorem aJ_268_2 : sx_iB prog_1_method_59_code aI_268_2 = true := by decide +kernel
def aI_268_3 : sx_IL := [(35, .invokevirtual 383, 3), (38, .goto 10, 3), (41, .aload 4, 2), (43, .getfield 387, 3), (46, .iload_n 3, 1), (47, .laload, 1)]
theorem aJ_268_3 : sx_iB prog_1_method_59_code aI_268_3 = true := by decide +kernel
def aI_268_4 : sx_IL := [(48, .lreturn, 1)]
theorem aJ_268_4 : sx_iB prog_1_method_59_code aI_268_4 = true := by decide +kernel
def aI_269_0 : sx_IL := [(0, .aload_n 0, 1), (1, .iload_n 1, 1), (2, .iload_n 2, 1), (3, .invokevirtual 339, 3), (6, .astore_n 3, 1), (7, .aload_n 3, 1)]
theorem aJ_269_0 : sx_iB prog_1_method_60_code aI_269_0 = true := by decide +kernel
def aI_269_1 : sx_IL := [(8, .ifnonnull 7, 3), (11, .ldc2_w 96, 3), (14, .lreturn, 1), (15, .lconst 0, 1), (16, .lstore 4, 2), (18, .aload_n 3, 1)]
theorem aJ_269_1 : sx_iB prog_1_method_60_code aI_269_1 = true := by decide +kernel
def aI_269_2 : sx_IL := [(19, .getfield 390, 3), (22, .ifCond .eq 67, 3), (25, .aload_n 3, 1), (26, .getfield 371, 3), (29, .iconst 1, 1), (30, .iaload, 1)]
theorem aJ_269_2 : sx_iB prog_1_method_60_code aI_269_2 = true := by decide +kernel
def aI_269_3 : sx_IL := [(31, .invokestatic 119, 3), (34, .istore 6, 2), (36, .aload_n 0, 1), (37, .getfield 10, 3), (40, .getfield 98, 3), (43, .iload 6, 2)]
theorem aJ_269_3 : sx_iB prog_1_method_60_code aI_269_3 = true := by decide +kernel
def aI_269_4 : sx_IL := [(45, .aload_n 0, 1), (46, .getfield 21, 3), (49, .getfield 80, 3), (52, .iconst 0, 1), (53, .aload_n 0, 1), (54, .getfield 21, 3)]
theorem aJ_269_4 : sx_iB prog_1_method_60_code aI_269_4 = true := by decide +kernel
def aI_269_5 : sx_IL := [(57, .getfield 69, 3), (60, .invokevirtual 102, 3), (63, .lstore 7, 2), (65, .aload_n 0, 1), (66, .getfield 10, 3), (69, .getfield 98, 3)]
theorem aJ_269_5 : sx_iB prog_1_method_60_code aI_269_5 = true := by decide +kernel
def aI_269_6 : sx_IL := [(72, .iload 6, 2), (74, .aload_n 3, 1), (75, .getfield 387, 3), (78, .iconst 5, 1), (79, .laload, 1), (80, .bipush 121, 2)]
theorem aJ_269_6 : sx_iB prog_1_method_60_code aI_269_6 = true := by decide +kernel
def aI_269_7 : sx_IL := [(82, .lload 7, 2), (84, .invokevirtual 115, 3), (87, .lstore 4, 2), (89, .aload_n 0, 1), (90, .getfield 21, 3), (93, .invokevirtual 108, 3)]
theorem aJ_269_7 : sx_iB prog_1_method_60_code aI_269_7 = true := by decide +kernel
def aI_269_8 : sx_IL := [(96, .lload 4, 2), (98, .lreturn, 1)]
theorem aJ_269_8 : sx_iB prog_1_method_60_code aI_269_8 = true := by decide +kernel
def aI_270_0 : sx_IL := [(0, .aload_n 0, 1), (1, .iload_n 1, 1), (2, .invokevirtual 193, 3), (5, .ifCond .eq 17, 3), (8, .iload_n 2, 1), (9, .invokestatic 149, 3)]
theorem aJ_270_0 : sx_iB prog_1_method_61_code aI_270_0 = true := by decide +kernel
def aI_270_1 : sx_IL := [(12, .ifCond .eq 10, 3), (15, .iload_n 3, 1), (16, .invokestatic 155, 3), (19, .ifCond .ne 5, 3), (22, .iconst (-1), 1), (23, .ireturn, 1)]
theorem aJ_270_1 : sx_iB prog_1_method_61_code aI_270_1 = true := by decide +kernel
def aI_270_2 : sx_IL := [(24, .aload_n 0, 1), (25, .getfield 10, 3), (28, .getfield 196, 3), (31, .iload_n 1, 1), (32, .aaload, 1), (33, .astore 4, 2)]
theorem aJ_270_2 : sx_iB prog_1_method_61_code aI_270_2 = true := by decide +kernel
def aI_270_3 : sx_IL := [(35, .aload 4, 2), (37, .getfield 200, 3), (40, .iconst 5, 1), (41, .iaload, 1), (42, .ifCond .eq 24, 3), (45, .aload 4, 2)]
theorem aJ_270_3 : sx_iB prog_1_method_61_code aI_270_3 = true := by decide +kernel
def aI_270_4 : sx_IL := [(47, .getfield 200, 3), (50, .iconst 4, 1), (51, .iaload, 1), (52, .aload_n 0, 1), (53, .getfield 10, 3), (56, .getfield 98, 3)]
theorem aJ_270_4 : sx_iB prog_1_method_61_code aI_270_4 = true := by decide +kernel
def aI_270_5 : sx_IL := [(59, .iload_n 2, 1), (60, .invokevirtual 152, 3), (63, .if_icmp .eq 6, 3), (66, .bipush (-2), 2), (68, .ireturn, 1), (69, .aload_n 0, 1)]
theorem aJ_270_5 : sx_iB prog_1_method_61_code aI_270_5 = true := by decide +kernel
def aI_270_6 : sx_IL := [(70, .getfield 393, 3), (73, .iconst 4, 1), (74, .if_icmp .lt 6, 3), (77, .bipush (-3), 2), (79, .ireturn, 1), (80, .aload_n 0, 1)]
theorem aJ_270_6 : sx_iB prog_1_method_61_code aI_270_6 = true := by decide +kernel
def aI_270_7 : sx_IL := [(81, .getfield 46, 3), (84, .aload_n 0, 1), (85, .getfield 393, 3), (88, .new 44, 3), (91, .dup, 1), (92, .aload_n 0, 1)]
theorem aJ_270_7 : sx_iB prog_1_method_61_code aI_270_7 = true := by decide +kernel
def aI_270_8 : sx_IL := [(93, .getfield 10, 3), (96, .aload 4, 2), (98, .iload_n 2, 1), (99, .iload_n 3, 1), (100, .invokespecial 396, 3), (103, .aastore, 1)]
theorem aJ_270_8 : sx_iB prog_1_method_61_code aI_270_8 = true := by decide +kernel
def aI_270_9 : sx_IL := [(104, .aload_n 0, 1), (105, .dup, 1), (106, .getfield 393, 3), (109, .iconst 1, 1), (110, .iadd, 1), (111, .putfield 393, 3)]
theorem aJ_270_9 : sx_iB prog_1_method_61_code aI_270_9 = true := by decide +kernel
def aI_270_10 : sx_IL := [(114, .aload_n 0, 1), (115, .getfield 393, 3), (118, .iconst 1, 1), (119, .isub, 1), (120, .ireturn, 1)]
theorem aJ_270_10 : sx_iB prog_1_method_61_code aI_270_10 = true := by decide +kernel
def aI_272_0 : sx_IL := [(0, .aload_n 0, 1), (1, .iload_n 1, 1), (2, .invokevirtual 399, 3), (5, .ifCond .eq 16, 3), (8, .aload_n 0, 1), (9, .getfield 46, 3)]
theorem aJ_272_0 : sx_iB prog_1_method_65_code aI_272_0 = true := by decide +kernel
def aI_272_1 : sx_IL := [(12, .iload_n 1, 1), (13, .aaload, 1), (14, .lload_n 2, 1), (15, .invokevirtual 405, 3), (18, .goto 4, 3), (21, .iconst (-1), 1)]
theorem aJ_272_1 : sx_iB prog_1_method_65_code aI_272_1 = true := by decide +kernel
def aI_272_2 : sx_IL := [(22, .ireturn, 1)]
theorem aJ_272_2 : sx_iB prog_1_method_65_code aI_272_2 = true := by decide +kernel
def aI_273_0 : sx_IL := [(0, .iload_n 1, 1), (1, .ifCond .lt 15, 3), (4, .iload_n 1, 1), (5, .aload_n 0, 1), (6, .getfield 393, 3), (9, .if_icmp .ge 7, 3)]
theorem aJ_273_0 : sx_iB prog_1_method_62_code aI_273_0 = true := by decide +kernel
def aI_273_1 : sx_IL := [(12, .iconst 1, 1), (13, .goto 4, 3), (16, .iconst 0, 1), (17, .ireturn, 1)]
theorem aJ_273_1 : sx_iB prog_1_method_62_code aI_273_1 = true := by decide +kernel
def aI_275_0 : sx_IL := [(0, .aload_n 0, 1), (1, .iload_n 1, 1), (2, .invokevirtual 399, 3), (5, .ifCond .eq 20, 3), (8, .iload_n 2, 1), (9, .ifCond .lt 16, 3)]
theorem aJ_275_0 : sx_iB prog_1_method_66_code aI_275_0 = true := by decide +kernel
def aI_275_1 : sx_IL := [(12, .iload_n 2, 1), (13, .aload_n 0, 1), (14, .getfield 46, 3), (17, .iload_n 1, 1), (18, .aaload, 1), (19, .getfield 409, 3)]
theorem aJ_275_1 : sx_iB prog_1_method_66_code aI_275_1 = true := by decide +kernel
def aI_275_2 : sx_IL := [(22, .if_icmp .lt 5, 3), (25, .iconst (-1), 1), (26, .ireturn, 1), (27, .aload_n 0, 1), (28, .getfield 46, 3), (31, .iload_n 1, 1)]
theorem aJ_275_2 : sx_iB prog_1_method_66_code aI_275_2 = true := by decide +kernel
def aI_275_3 : sx_IL := [(32, .aaload, 1), (33, .iload_n 2, 1), (34, .aload_n 0, 1), (35, .getfield 21, 3), (38, .invokevirtual 412, 3), (41, .istore_n 3, 1)]
theorem aJ_275_3 : sx_iB prog_1_method_66_code aI_275_3 = true := by decide +kernel
def aI_275_4 : sx_IL := [(42, .iload_n 3, 1), (43, .ifCond .lt 10, 3), (46, .aload_n 0, 1), (47, .getfield 21, 3), (50, .invokevirtual 108, 3), (53, .iload_n 3, 1)]
theorem aJ_275_4 : sx_iB prog_1_method_66_code aI_275_4 = true := by decide +kernel
def aI_275_5 : sx_IL := [(54, .ireturn, 1)]
theorem aJ_275_5 : sx_iB prog_1_method_66_code aI_275_5 = true := by decide +kernel
def aI_280_0 : sx_IL := [(0, .aload_n 0, 1), (1, .iload_n 1, 1), (2, .iload_n 2, 1), (3, .invokevirtual 415, 3), (6, .ifCond .eq 17, 3), (9, .aload_n 0, 1)]
theorem aJ_280_0 : sx_iB prog_1_method_67_code aI_280_0 = true := by decide +kernel
def aI_280_1 : sx_IL := [(10, .getfield 46, 3), (13, .iload_n 1, 1), (14, .aaload, 1), (15, .iload_n 2, 1), (16, .iload_n 3, 1), (17, .invokevirtual 418, 3)]
theorem aJ_280_1 : sx_iB prog_1_method_67_code aI_280_1 = true := by decide +kernel
def aI_280_2 : sx_IL := [(20, .goto 4, 3), (23, .iconst (-1), 1), (24, .ireturn, 1)]
theorem aJ_280_2 : sx_iB prog_1_method_67_code aI_280_2 = true := by decide +kernel
def aI_281_0 : sx_IL := [(0, .aload_n 0, 1), (1, .iload_n 1, 1), (2, .invokevirtual 399, 3), (5, .ifCond .eq 24, 3), (8, .iload_n 2, 1), (9, .ifCond .lt 20, 3)]
theorem aJ_281_0 : sx_iB prog_1_method_63_code aI_281_0 = true := by decide +kernel
def aI_281_1 : sx_IL := [(12, .iload_n 2, 1), (13, .aload_n 0, 1), (14, .getfield 46, 3), (17, .iload_n 1, 1), (18, .aaload, 1), (19, .getfield 402, 3)]
theorem aJ_281_1 : sx_iB prog_1_method_63_code aI_281_1 = true := by decide +kernel
def aI_281_2 : sx_IL := [(22, .if_icmp .ge 7, 3), (25, .iconst 1, 1), (26, .goto 4, 3), (29, .iconst 0, 1), (30, .ireturn, 1)]
theorem aJ_281_2 : sx_iB prog_1_method_63_code aI_281_2 = true := by decide +kernel
def aI_283_0 : sx_IL := [(0, .aload_n 0, 1), (1, .getfield 21, 3), (4, .getfield 80, 3), (7, .iconst 0, 1), (8, .aload_n 0, 1), (9, .getfield 21, 3)]
theorem aJ_283_0 : sx_iB prog_1_method_68_code aI_283_0 = true := by decide +kernel
def aI_283_1 : sx_IL := [(12, .getfield 69, 3), (15, .invokestatic 287, 3), (18, .ifCond .lt 6, 3), (21, .bipush (-2), 2), (23, .ireturn, 1), (24, .aload_n 0, 1)]
theorem aJ_283_1 : sx_iB prog_1_method_68_code aI_283_1 = true := by decide +kernel
def aI_283_2 : sx_IL := [(25, .aload_n 0, 1), (26, .getfield 21, 3), (29, .getfield 80, 3), (32, .iconst 0, 1), (33, .aload_n 0, 1), (34, .getfield 21, 3)]
theorem aJ_283_2 : sx_iB prog_1_method_68_code aI_283_2 = true := by decide +kernel
def aI_283_3 : sx_IL := [(37, .getfield 69, 3), (40, .invokevirtual 420, 3), (43, .istore_n 3, 1), (44, .iload_n 3, 1), (45, .bipush 16, 2), (47, .if_icmp .lt 6, 3)]
theorem aJ_283_3 : sx_iB prog_1_method_68_code aI_283_3 = true := by decide +kernel
def aI_283_4 : sx_IL := [(50, .bipush (-3), 2), (52, .ireturn, 1), (53, .iload_n 3, 1), (54, .aload_n 0, 1), (55, .getfield 423, 3), (58, .if_icmp .ne 57, 3)]
theorem aJ_283_4 : sx_iB prog_1_method_68_code aI_283_4 = true := by decide +kernel
def aI_283_5 : sx_IL := [(61, .aload_n 0, 1), (62, .getfield 50, 3), (65, .iload_n 3, 1), (66, .new 16, 3), (69, .dup, 1), (70, .aload_n 0, 1)]
theorem aJ_283_5 : sx_iB prog_1_method_68_code aI_283_5 = true := by decide +kernel
def aI_283_6 : sx_IL := [(71, .getfield 21, 3), (74, .getfield 69, 3), (77, .invokespecial 18, 3), (80, .aastore, 1), (81, .aload_n 0, 1), (82, .getfield 50, 3)]
theorem aJ_283_6 : sx_iB prog_1_method_68_code aI_283_6 = true := by decide +kernel
def aI_283_7 : sx_IL := [(85, .iload_n 3, 1), (86, .aaload, 1), (87, .aload_n 0, 1), (88, .getfield 21, 3), (91, .getfield 80, 3), (94, .iconst 0, 1)]
theorem aJ_283_7 : sx_iB prog_1_method_68_code aI_283_7 = true := by decide +kernel
def aI_283_8 : sx_IL := [(95, .aload_n 0, 1), (96, .getfield 21, 3), (99, .getfield 69, 3), (102, .invokevirtual 83, 3), (105, .aload_n 0, 1), (106, .dup, 1)]
theorem aJ_283_8 : sx_iB prog_1_method_68_code aI_283_8 = true := by decide +kernel
def aI_283_9 : sx_IL := [(107, .getfield 423, 3), (110, .iconst 1, 1), (111, .iadd, 1), (112, .putfield 423, 3), (115, .aload_n 0, 1), (116, .getfield 54, 3)]
theorem aJ_283_9 : sx_iB prog_1_method_68_code aI_283_9 = true := by decide +kernel
def aI_283_10 : sx_IL := [(119, .iload_n 3, 1), (120, .lload_n 1, 1), (121, .lastore, 1), (122, .aload_n 0, 1), (123, .getfield 21, 3), (126, .invokevirtual 108, 3)]
theorem aJ_283_10 : sx_iB prog_1_method_68_code aI_283_10 = true := by decide +kernel
def aI_283_11 : sx_IL := [(129, .aload_n 0, 1), (130, .getfield 423, 3), (133, .ireturn, 1)]
theorem aJ_283_11 : sx_iB prog_1_method_68_code aI_283_11 = true := by decide +kernel
def aI_285_0 : sx_IL := [(0, .aload_n 0, 1), (1, .iload_n 1, 1), (2, .iload_n 2, 1), (3, .invokevirtual 415, 3), (6, .ifCond .eq 22, 3), (9, .iload_n 3, 1)]
theorem aJ_285_0 : sx_iB prog_1_method_70_code aI_285_0 = true := by decide +kernel
def aI_285_1 : sx_IL := [(10, .ifCond .lt 18, 3), (13, .iload_n 3, 1), (14, .aload_n 0, 1), (15, .getfield 46, 3), (18, .iload_n 1, 1), (19, .aaload, 1)]
theorem aJ_285_1 : sx_iB prog_1_method_70_code aI_285_1 = true := by decide +kernel
def aI_285_2 : sx_IL := [(20, .getfield 430, 3), (23, .iload_n 2, 1), (24, .iaload, 1), (25, .if_icmp .lt 5, 3), (28, .iconst (-1), 1), (29, .ireturn, 1)]
theorem aJ_285_2 : sx_iB prog_1_method_70_code aI_285_2 = true := by decide +kernel
def aI_285_3 : sx_IL := [(30, .aload_n 0, 1), (31, .getfield 46, 3), (34, .iload_n 1, 1), (35, .aaload, 1), (36, .astore 4, 2), (38, .aload 4, 2)]
theorem aJ_285_3 : sx_iB prog_1_method_70_code aI_285_3 = true := by decide +kernel
def aI_285_4 : sx_IL := [(40, .iload_n 2, 1), (41, .iload_n 3, 1), (42, .invokevirtual 433, 3), (45, .ifCond .ne 6, 3), (48, .bipush (-2), 2), (50, .ireturn, 1)]
theorem aJ_285_4 : sx_iB prog_1_method_70_code aI_285_4 = true := by decide +kernel
def aI_285_5 : sx_IL := [(51, .aload 4, 2), (53, .getfield 436, 3), (56, .iconst 3, 1), (57, .iload_n 2, 1), (58, .imul, 1), (59, .iload_n 3, 1)]
theorem aJ_285_5 : sx_iB prog_1_method_70_code aI_285_5 = true := by decide +kernel
def aI_285_6 : sx_IL := [(60, .iadd, 1), (61, .aaload, 1), (62, .astore 5, 2), (64, .aload_n 0, 1), (65, .aload 5, 2), (67, .getfield 80, 3)]
theorem aJ_285_6 : sx_iB prog_1_method_70_code aI_285_6 = true := by decide +kernel
def aI_285_7 : sx_IL := [(70, .aload 5, 2), (72, .getfield 80, 3), (75, .iconst 0, 1), (76, .aload 5, 2), (78, .getfield 69, 3), (81, .invokestatic 439, 3)]
theorem aJ_285_7 : sx_iB prog_1_method_70_code aI_285_7 = true := by decide +kernel
def aI_285_8 : sx_IL := [(84, .aload 5, 2), (86, .getfield 69, 3), (89, .invokevirtual 420, 3), (92, .istore 6, 2), (94, .iload 6, 2), (96, .aload_n 0, 1)]
theorem aJ_285_8 : sx_iB prog_1_method_70_code aI_285_8 = true := by decide +kernel
def aI_285_9 : sx_IL := [(97, .getfield 423, 3), (100, .if_icmp .ge 25, 3), (103, .aload_n 0, 1), (104, .getfield 54, 3), (107, .iload 6, 2), (109, .laload, 1)]
theorem aJ_285_9 : sx_iB prog_1_method_70_code aI_285_9 = true := by decide +kernel
def aI_285_10 : sx_IL := [(110, .aload 4, 2), (112, .iload_n 2, 1), (113, .iload_n 3, 1), (114, .invokevirtual 442, 3), (117, .lcmp, 1), (118, .ifCond .ne 7, 3)]
theorem aJ_285_10 : sx_iB prog_1_method_70_code aI_285_10 = true := by decide +kernel
def aI_285_11 : sx_IL := [(121, .iconst 1, 1), (122, .goto 4, 3), (125, .iconst 0, 1), (126, .istore 7, 2), (128, .aload 4, 2), (130, .iload_n 2, 1)]
theorem aJ_285_11 : sx_iB prog_1_method_70_code aI_285_11 = true := by decide +kernel
def aI_285_12 : sx_IL := [(131, .iload_n 3, 1), (132, .iload 7, 2), (134, .invokevirtual 446, 3), (137, .ireturn, 1)]
theorem aJ_285_12 : sx_iB prog_1_method_70_code aI_285_12 = true := by decide +kernel
def aI_289_0 : sx_IL := [(0, .aload_n 0, 1), (1, .iload_n 1, 1), (2, .iload_n 2, 1), (3, .invokevirtual 415, 3), (6, .ifCond .eq 23, 3), (9, .iload_n 3, 1)]
theorem aJ_289_0 : sx_iB prog_1_method_71_code aI_289_0 = true := by decide +kernel
def aI_289_1 : sx_IL := [(10, .iconst 2, 1), (11, .if_icmp .lt 18, 3), (14, .iload_n 3, 1), (15, .ldc_w 450, 3), (18, .if_icmp .gt 11, 3), (21, .iload 4, 2)]
theorem aJ_289_1 : sx_iB prog_1_method_71_code aI_289_1 = true := by decide +kernel
def aI_289_2 : sx_IL := [(23, .invokestatic 451, 3), (26, .ifCond .ne 5, 3), (29, .iconst (-1), 1), (30, .ireturn, 1), (31, .aload_n 0, 1), (32, .getfield 46, 3)]
theorem aJ_289_2 : sx_iB prog_1_method_71_code aI_289_2 = true := by decide +kernel
def aI_289_3 : sx_IL := [(35, .iload_n 1, 1), (36, .aaload, 1), (37, .iload_n 2, 1), (38, .iload_n 3, 1), (39, .iload 4, 2), (41, .invokevirtual 454, 3)]
theorem aJ_289_3 : sx_iB prog_1_method_71_code aI_289_3 = true := by decide +kernel
def aI_289_4 : sx_IL := [(44, .ireturn, 1)]
theorem aJ_289_4 : sx_iB prog_1_method_71_code aI_289_4 = true := by decide +kernel
def aI_293_0 : sx_IL := [(0, .iload_n 1, 1), (1, .sipush 128, 3), (4, .if_icmp .ge 7, 3), (7, .iconst 1, 1), (8, .goto 24, 3), (11, .iload_n 1, 1)]
theorem aJ_293_0 : sx_iB prog_9_method_16_code aI_293_0 = true := by decide +kernel
def aI_293_1 : sx_IL := [(12, .ldc 52, 2), (14, .if_icmp .ge 7, 3), (17, .iconst 2, 1), (18, .goto 14, 3), (21, .iload_n 1, 1), (22, .ldc 53, 2)]
theorem aJ_293_1 : sx_iB prog_9_method_16_code aI_293_1 = true := by decide +kernel
def aI_293_2 : sx_IL := [(24, .if_icmp .ge 7, 3), (27, .iconst 3, 1), (28, .goto 4, 3), (31, .iconst 4, 1), (32, .istore_n 2, 1), (33, .aload_n 0, 1)]
theorem aJ_293_2 : sx_iB prog_9_method_16_code aI_293_2 = true := by decide +kernel
def aI_293_3 : sx_IL := [(34, .iconst 2, 1), (35, .iload_n 2, 1), (36, .invokevirtual 56, 3), (39, .iload_n 2, 1), (40, .iconst 1, 1), (41, .isub, 1)]
theorem aJ_293_3 : sx_iB prog_9_method_16_code aI_293_3 = true := by decide +kernel
def aI_293_4 : sx_IL := [(42, .istore_n 3, 1), (43, .iload_n 3, 1), (44, .ifCond .lt 19, 3), (47, .aload_n 0, 1), (48, .iload_n 1, 1), (49, .bipush 8, 2)]
theorem aJ_293_4 : sx_iB prog_9_method_16_code aI_293_4 = true := by decide +kernel
def aI_293_5 : sx_IL := [(51, .iload_n 3, 1), (52, .imul, 1), (53, .iushr, 1), (54, .invokevirtual 39, 3), (57, .iinc 3 (-1), 3), (60, .goto (-17), 3)]
theorem aJ_293_5 : sx_iB prog_9_method_16_code aI_293_5 = true := by decide +kernel
def aI_293_6 : sx_IL := [(63, .return_, 1)]
theorem aJ_293_6 : sx_iB prog_9_method_16_code aI_293_6 = true := by decide +kernel
def aI_295_0 : sx_IL := [(0, .aload_n 0, 1), (1, .iload_n 1, 1), (2, .iconst 0, 1), (3, .iload 4, 2), (5, .iload_n 3, 1), (6, .isub, 1)]
theorem aJ_295_0 : sx_iB prog_9_method_17_code aI_295_0 = true := by decide +kernel
def aI_295_1 : sx_IL := [(7, .invokestatic 7, 3), (10, .invokevirtual 56, 3), (13, .aload_n 0, 1), (14, .aload_n 2, 1), (15, .iload_n 3, 1), (16, .iload 4, 2)]
theorem aJ_295_1 : sx_iB prog_9_method_17_code aI_295_1 = true := by decide +kernel
def aI_295_2 : sx_IL := [(18, .invokevirtual 60, 3), (21, .return_, 1)]
theorem aJ_295_2 : sx_iB prog_9_method_17_code aI_295_2 = true := by decide +kernel
def aI_298_0 : sx_IL := [(0, .aload_n 0, 1), (1, .iload_n 1, 1), (2, .invokevirtual 399, 3), (5, .ifCond .eq 29, 3), (8, .aload_n 0, 1), (9, .getfield 46, 3)]
theorem aJ_298_0 : sx_iB prog_1_method_72_code aI_298_0 = true := by decide +kernel
def aI_298_1 : sx_IL := [(12, .iload_n 1, 1), (13, .aaload, 1), (14, .iload_n 2, 1), (15, .invokevirtual 458, 3), (18, .ifCond .eq 16, 3), (21, .aload_n 0, 1)]
theorem aJ_298_1 : sx_iB prog_1_method_72_code aI_298_1 = true := by decide +kernel
def aI_298_2 : sx_IL := [(22, .getfield 46, 3), (25, .iload_n 1, 1), (26, .aaload, 1), (27, .iload_n 2, 1), (28, .invokevirtual 461, 3), (31, .goto 4, 3)]
theorem aJ_298_2 : sx_iB prog_1_method_72_code aI_298_2 = true := by decide +kernel
def aI_298_3 : sx_IL := [(34, .iconst (-1), 1), (35, .ireturn, 1)]
theorem aJ_298_3 : sx_iB prog_1_method_72_code aI_298_3 = true := by decide +kernel
def aI_302_0 : sx_IL := [(0, .aload_n 0, 1), (1, .iload_n 1, 1), (2, .invokevirtual 399, 3), (5, .ifCond .eq 23, 3), (8, .iload_n 2, 1), (9, .invokestatic 451, 3)]
theorem aJ_302_0 : sx_iB prog_1_method_73_code aI_302_0 = true := by decide +kernel
def aI_302_1 : sx_IL := [(12, .ifCond .eq 16, 3), (15, .aload_n 0, 1), (16, .getfield 46, 3), (19, .iload_n 1, 1), (20, .aaload, 1), (21, .iload_n 2, 1)]
theorem aJ_302_1 : sx_iB prog_1_method_73_code aI_302_1 = true := by decide +kernel
def aI_302_2 : sx_IL := [(22, .invokevirtual 464, 3), (25, .goto 4, 3), (28, .iconst (-1), 1), (29, .ireturn, 1)]
theorem aJ_302_2 : sx_iB prog_1_method_73_code aI_302_2 = true := by decide +kernel
def aI_304_0 : sx_IL := [(0, .aload_n 0, 1), (1, .iload_n 1, 1), (2, .invokevirtual 399, 3), (5, .ifCond .eq 23, 3), (8, .aload_n 0, 1), (9, .getfield 46, 3)]
theorem aJ_304_0 : sx_iB prog_1_method_74_code aI_304_0 = true := by decide +kernel
def aI_304_1 : sx_IL := [(12, .iload_n 1, 1), (13, .aaload, 1), (14, .iload_n 2, 1), (15, .invokevirtual 458, 3), (18, .ifCond .eq 10, 3), (21, .iload_n 3, 1)]
theorem aJ_304_1 : sx_iB prog_1_method_74_code aI_304_1 = true := by decide +kernel
def aI_304_2 : sx_IL := [(22, .invokestatic 451, 3), (25, .ifCond .ne 5, 3), (28, .iconst (-1), 1), (29, .ireturn, 1), (30, .aload_n 0, 1), (31, .getfield 46, 3)]
theorem aJ_304_2 : sx_iB prog_1_method_74_code aI_304_2 = true := by decide +kernel
def aI_304_3 : sx_IL := [(34, .iload_n 1, 1), (35, .aaload, 1), (36, .iload_n 2, 1), (37, .iload_n 3, 1), (38, .invokevirtual 467, 3), (41, .ireturn, 1)]
theorem aJ_304_3 : sx_iB prog_1_method_74_code aI_304_3 = true := by decide +kernel
def aI_306_0 : sx_IL := [(0, .aload_n 0, 1), (1, .getfield 470, 3), (4, .iconst 4, 1), (5, .if_icmp .lt 6, 3), (8, .bipush (-3), 2), (10, .ireturn, 1)]
theorem aJ_306_0 : sx_iB prog_1_method_75_code aI_306_0 = true := by decide +kernel
def aI_306_1 : sx_IL := [(11, .aload_n 0, 1), (12, .dup, 1), (13, .getfield 470, 3), (16, .iconst 1, 1), (17, .iadd, 1), (18, .putfield 470, 3)]
theorem aJ_306_1 : sx_iB prog_1_method_75_code aI_306_1 = true := by decide +kernel
def aI_306_2 : sx_IL := [(21, .aload_n 0, 1), (22, .getfield 470, 3), (25, .iconst 1, 1), (26, .isub, 1), (27, .ireturn, 1)]
theorem aJ_306_2 : sx_iB prog_1_method_75_code aI_306_2 = true := by decide +kernel
def aI_307_0 : sx_IL := [(0, .aload_n 0, 1), (1, .iload_n 1, 1), (2, .invokevirtual 473, 3), (5, .ifCond .ne 5, 3), (8, .iconst (-1), 1), (9, .ireturn, 1)]
theorem aJ_307_0 : sx_iB prog_1_method_77_code aI_307_0 = true := by decide +kernel
def aI_307_1 : sx_IL := [(10, .aload_n 0, 1), (11, .getfield 63, 3), (14, .iload_n 1, 1), (15, .iaload, 1), (16, .bipush 64, 2), (18, .if_icmp .lt 6, 3)]
theorem aJ_307_1 : sx_iB prog_1_method_77_code aI_307_1 = true := by decide +kernel
def aI_307_2 : sx_IL := [(21, .bipush (-3), 2), (23, .ireturn, 1), (24, .aload_n 0, 1), (25, .getfield 60, 3), (28, .iload_n 1, 1), (29, .aaload, 1)]
theorem aJ_307_2 : sx_iB prog_1_method_77_code aI_307_2 = true := by decide +kernel
def aI_307_3 : sx_IL := [(30, .aload_n 0, 1), (31, .getfield 63, 3), (34, .iload_n 1, 1), (35, .iaload, 1), (36, .lload_n 2, 1), (37, .lastore, 1)]
theorem aJ_307_3 : sx_iB prog_1_method_77_code aI_307_3 = true := by decide +kernel
def aI_307_4 : sx_IL := [(38, .aload_n 0, 1), (39, .getfield 63, 3), (42, .iload_n 1, 1), (43, .dup2, 1), (44, .iaload, 1), (45, .iconst 1, 1)]
theorem aJ_307_4 : sx_iB prog_1_method_77_code aI_307_4 = true := by decide +kernel
def aI_307_5 : sx_IL := [(46, .iadd, 1), (47, .iastore, 1), (48, .aload_n 0, 1), (49, .getfield 63, 3), (52, .iload_n 1, 1), (53, .iaload, 1)]
theorem aJ_307_5 : sx_iB prog_1_method_77_code aI_307_5 = true := by decide +kernel
def aI_307_6 : sx_IL := [(54, .ireturn, 1)]
theorem aJ_307_6 : sx_iB prog_1_method_77_code aI_307_6 = true := by decide +kernel
def aI_308_0 : sx_IL := [(0, .iload_n 1, 1), (1, .ifCond .lt 15, 3), (4, .iload_n 1, 1), (5, .aload_n 0, 1), (6, .getfield 470, 3), (9, .if_icmp .ge 7, 3)]
theorem aJ_308_0 : sx_iB prog_1_method_76_code aI_308_0 = true := by decide +kernel
def aI_308_1 : sx_IL := [(12, .iconst 1, 1), (13, .goto 4, 3), (16, .iconst 0, 1), (17, .ireturn, 1)]
theorem aJ_308_1 : sx_iB prog_1_method_76_code aI_308_1 = true := by decide +kernel
def aI_309_0 : sx_IL := [(0, .aload_n 0, 1), (1, .iload_n 1, 1), (2, .invokevirtual 473, 3), (5, .ifCond .eq 17, 3), (8, .iload_n 2, 1), (9, .ifCond .lt 13, 3)]
theorem aJ_309_0 : sx_iB prog_1_method_78_code aI_309_0 = true := by decide +kernel
def aI_309_1 : sx_IL := [(12, .iload_n 2, 1), (13, .aload_n 0, 1), (14, .getfield 63, 3), (17, .iload_n 1, 1), (18, .iaload, 1), (19, .if_icmp .le 7, 3)]
theorem aJ_309_1 : sx_iB prog_1_method_78_code aI_309_1 = true := by decide +kernel
def aI_309_2 : sx_IL := [(22, .ldc2_w 96, 3), (25, .lreturn, 1), (26, .aload_n 0, 1), (27, .aload_n 0, 1), (28, .getfield 60, 3), (31, .iload_n 1, 1)]
theorem aJ_309_2 : sx_iB prog_1_method_78_code aI_309_2 = true := by decide +kernel
def aI_309_3 : sx_IL := [(32, .aaload, 1), (33, .iconst 0, 1), (34, .iload_n 2, 1), (35, .invokevirtual 476, 3), (38, .lreturn, 1)]
theorem aJ_309_3 : sx_iB prog_1_method_78_code aI_309_3 = true := by decide +kernel
def aI_311_0 : sx_IL := [(0, .aload_n 0, 1), (1, .getfield 10, 3), (4, .getfield 98, 3), (7, .astore_n 3, 1), (8, .aload_n 3, 1), (9, .iconst 0, 1)]
theorem aJ_311_0 : sx_iB prog_1_method_85_code aI_311_0 = true := by decide +kernel
def aI_311_1 : sx_IL := [(10, .invokevirtual 502, 3), (13, .aload_n 3, 1), (14, .iconst 0, 1), (15, .invokevirtual 504, 3), (18, .aload_n 3, 1), (19, .lload_n 1, 1)]
theorem aJ_311_1 : sx_iB prog_1_method_85_code aI_311_1 = true := by decide +kernel
def aI_311_2 : sx_IL := [(20, .invokevirtual 505, 3), (23, .aload_n 3, 1), (24, .invokevirtual 506, 3), (27, .lreturn, 1)]
theorem aJ_311_2 : sx_iB prog_1_method_85_code aI_311_2 = true := by decide +kernel
def aI_313_0 : sx_IL := [(0, .aload_n 0, 1), (1, .iload_n 1, 1), (2, .invokevirtual 473, 3), (5, .ifCond .eq 27, 3), (8, .iload_n 3, 1), (9, .iconst 1, 1)]
theorem aJ_313_0 : sx_iB prog_1_method_79_code aI_313_0 = true := by decide +kernel
def aI_313_1 : sx_IL := [(10, .if_icmp .lt 22, 3), (13, .iload_n 3, 1), (14, .aload_n 0, 1), (15, .getfield 63, 3), (18, .iload_n 1, 1), (19, .iaload, 1)]
theorem aJ_313_1 : sx_iB prog_1_method_79_code aI_313_1 = true := by decide +kernel
def aI_313_2 : sx_IL := [(20, .if_icmp .gt 12, 3), (23, .iload_n 2, 1), (24, .ifCond .lt 8, 3), (27, .iload_n 2, 1), (28, .iload_n 3, 1), (29, .if_icmp .lt 5, 3)]
theorem aJ_313_2 : sx_iB prog_1_method_79_code aI_313_2 = true := by decide +kernel
def aI_313_3 : sx_IL := [(32, .iconst (-1), 1), (33, .ireturn, 1), (34, .iconst 0, 1), (35, .istore 4, 2), (37, .iconst 0, 1), (38, .istore 5, 2)]
theorem aJ_313_3 : sx_iB prog_1_method_79_code aI_313_3 = true := by decide +kernel
def aI_313_4 : sx_IL := [(40, .iload_n 2, 1), (41, .istore 6, 2), (43, .iload_n 3, 1), (44, .istore 7, 2), (46, .iload 7, 2), (48, .iconst 1, 1)]
theorem aJ_313_4 : sx_iB prog_1_method_79_code aI_313_4 = true := by decide +kernel
def aI_313_5 : sx_IL := [(49, .if_icmp .le 138, 3), (52, .iload 4, 2), (54, .bipush 7, 2), (56, .if_icmp .ge 131, 3), (59, .iload 7, 2), (61, .invokestatic 480, 3)]
theorem aJ_313_5 : sx_iB prog_1_method_79_code aI_313_5 = true := by decide +kernel
def aI_313_6 : sx_IL := [(64, .istore 8, 2), (66, .iload 6, 2), (68, .iload 8, 2), (70, .if_icmp .ge 7, 3), (73, .iconst 1, 1), (74, .goto 4, 3)]
theorem aJ_313_6 : sx_iB prog_1_method_79_code aI_313_6 = true := by decide +kernel
def aI_313_7 : sx_IL := [(77, .iconst 0, 1), (78, .istore 9, 2), (80, .aload_n 0, 1), (81, .getfield 66, 3), (84, .bipush 8, 2), (86, .iload 4, 2)]
theorem aJ_313_7 : sx_iB prog_1_method_79_code aI_313_7 = true := by decide +kernel
def aI_313_8 : sx_IL := [(88, .iadd, 1), (89, .iload 9, 2), (91, .ifCond .eq 26, 3), (94, .aload_n 0, 1), (95, .aload_n 0, 1), (96, .getfield 60, 3)]
theorem aJ_313_8 : sx_iB prog_1_method_79_code aI_313_8 = true := by decide +kernel
def aI_313_9 : sx_IL := [(99, .iload_n 1, 1), (100, .aaload, 1), (101, .iload 5, 2), (103, .iload 8, 2), (105, .iadd, 1), (106, .iload 7, 2)]
theorem aJ_313_9 : sx_iB prog_1_method_79_code aI_313_9 = true := by decide +kernel
def aI_313_10 : sx_IL := [(108, .iload 8, 2), (110, .isub, 1), (111, .invokevirtual 476, 3), (114, .goto 17, 3), (117, .aload_n 0, 1), (118, .aload_n 0, 1)]
theorem aJ_313_10 : sx_iB prog_1_method_79_code aI_313_10 = true := by decide +kernel
def aI_313_11 : sx_IL := [(119, .getfield 60, 3), (122, .iload_n 1, 1), (123, .aaload, 1), (124, .iload 5, 2), (126, .iload 8, 2), (128, .invokevirtual 476, 3)]
theorem aJ_313_11 : sx_iB prog_1_method_79_code aI_313_11 = true := by decide +kernel
def aI_313_12 : sx_IL := [(131, .lastore, 1), (132, .iload 5, 2), (134, .iload 9, 2), (136, .ifCond .eq 7, 3), (139, .iconst 0, 1), (140, .goto 5, 3)]
theorem aJ_313_12 : sx_iB prog_1_method_79_code aI_313_12 = true := by decide +kernel
def aI_313_13 : sx_IL := [(143, .iload 8, 2), (145, .iadd, 1), (146, .istore 5, 2), (148, .iload 6, 2), (150, .iload 9, 2), (152, .ifCond .eq 7, 3)]
theorem aJ_313_13 : sx_iB prog_1_method_79_code aI_313_13 = true := by decide +kernel
def aI_313_14 : sx_IL := [(155, .iconst 0, 1), (156, .goto 5, 3), (159, .iload 8, 2), (161, .isub, 1), (162, .istore 6, 2), (164, .iload 9, 2)]
theorem aJ_313_14 : sx_iB prog_1_method_79_code aI_313_14 = true := by decide +kernel
def aI_313_15 : sx_IL := [(166, .ifCond .eq 8, 3), (169, .iload 8, 2), (171, .goto 8, 3), (174, .iload 7, 2), (176, .iload 8, 2), (178, .isub, 1)]
theorem aJ_313_15 : sx_iB prog_1_method_79_code aI_313_15 = true := by decide +kernel
def aI_313_16 : sx_IL := [(179, .istore 7, 2), (181, .iinc 4 1, 3), (184, .goto (-138), 3), (187, .aload_n 0, 1), (188, .iload 4, 2), (190, .invokevirtual 483, 3)]
theorem aJ_313_16 : sx_iB prog_1_method_79_code aI_313_16 = true := by decide +kernel
def aI_313_17 : sx_IL := [(193, .aload_n 0, 1), (194, .getfield 25, 3), (197, .getfield 69, 3), (200, .ireturn, 1)]
theorem aJ_313_17 : sx_iB prog_1_method_79_code aI_313_17 = true := by decide +kernel
def aI_314_0 : sx_IL := [(0, .iconst 1, 1), (1, .istore_n 1, 1), (2, .iconst 0, 1), (3, .istore_n 2, 1), (4, .iload_n 2, 1), (5, .bipush 8, 2)]
theorem aJ_314_0 : sx_iB prog_1_method_84_code aI_314_0 = true := by decide +kernel
def aI_314_1 : sx_IL := [(7, .if_icmp .ge 20, 3), (10, .iconst 2, 1), (11, .iload_n 1, 1), (12, .imul, 1), (13, .iload_n 0, 1), (14, .if_icmp .ge 13, 3)]
theorem aJ_314_1 : sx_iB prog_1_method_84_code aI_314_1 = true := by decide +kernel
def aI_314_2 : sx_IL := [(17, .iload_n 1, 1), (18, .iconst 2, 1), (19, .imul, 1), (20, .istore_n 1, 1), (21, .iinc 2 1, 3), (24, .goto (-20), 3)]
theorem aJ_314_2 : sx_iB prog_1_method_84_code aI_314_2 = true := by decide +kernel
def aI_314_3 : sx_IL := [(27, .iload_n 1, 1), (28, .ireturn, 1)]
theorem aJ_314_3 : sx_iB prog_1_method_84_code aI_314_3 = true := by decide +kernel
def aI_316_0 : sx_IL := [(0, .aload_n 0, 1), (1, .iload_n 1, 1), (2, .invokevirtual 473, 3), (5, .ifCond .eq 28, 3), (8, .iload_n 3, 1), (9, .iconst 1, 1)]
theorem aJ_316_0 : sx_iB prog_1_method_80_code aI_316_0 = true := by decide +kernel
def aI_316_1 : sx_IL := [(10, .if_icmp .lt 23, 3), (13, .iload_n 3, 1), (14, .aload_n 0, 1), (15, .getfield 63, 3), (18, .iload_n 1, 1), (19, .iaload, 1)]
theorem aJ_316_1 : sx_iB prog_1_method_80_code aI_316_1 = true := by decide +kernel
def aI_316_2 : sx_IL := [(20, .if_icmp .gt 13, 3), (23, .iload_n 2, 1), (24, .iconst 1, 1), (25, .if_icmp .lt 8, 3), (28, .iload_n 2, 1), (29, .iload_n 3, 1)]
theorem aJ_316_2 : sx_iB prog_1_method_80_code aI_316_2 = true := by decide +kernel
def aI_316_3 : sx_IL := [(30, .if_icmp .le 5, 3), (33, .iconst (-1), 1), (34, .ireturn, 1), (35, .iconst 0, 1), (36, .istore 4, 2), (38, .iconst 0, 1)]
theorem aJ_316_3 : sx_iB prog_1_method_80_code aI_316_3 = true := by decide +kernel
def aI_316_4 : sx_IL := [(39, .istore 5, 2), (41, .iload_n 2, 1), (42, .istore 6, 2), (44, .iload_n 3, 1), (45, .istore 7, 2), (47, .iconst 1, 1)]
theorem aJ_316_4 : sx_iB prog_1_method_80_code aI_316_4 = true := by decide +kernel
def aI_316_5 : sx_IL := [(48, .istore 8, 2), (50, .iload 7, 2), (52, .iload 6, 2), (54, .if_icmp .le 155, 3), (57, .iload 4, 2), (59, .bipush 7, 2)]
theorem aJ_316_5 : sx_iB prog_1_method_80_code aI_316_5 = true := by decide +kernel
def aI_316_6 : sx_IL := [(61, .if_icmp .ge 148, 3), (64, .iload 7, 2), (66, .invokestatic 480, 3), (69, .istore 9, 2), (71, .iload 6, 2), (73, .iload 9, 2)]
theorem aJ_316_6 : sx_iB prog_1_method_80_code aI_316_6 = true := by decide +kernel
def aI_316_7 : sx_IL := [(75, .if_icmp .gt 7, 3), (78, .iconst 1, 1), (79, .goto 4, 3), (82, .iconst 0, 1), (83, .istore 10, 2), (85, .aload_n 0, 1)]
theorem aJ_316_7 : sx_iB prog_1_method_80_code aI_316_7 = true := by decide +kernel
def aI_316_8 : sx_IL := [(86, .getfield 66, 3), (89, .bipush 8, 2), (91, .iload 4, 2), (93, .iadd, 1), (94, .iload 10, 2), (96, .ifCond .eq 26, 3)]
theorem aJ_316_8 : sx_iB prog_1_method_80_code aI_316_8 = true := by decide +kernel
def aI_316_9 : sx_IL := [(99, .aload_n 0, 1), (100, .aload_n 0, 1), (101, .getfield 60, 3), (104, .iload_n 1, 1), (105, .aaload, 1), (106, .iload 5, 2)]
theorem aJ_316_9 : sx_iB prog_1_method_80_code aI_316_9 = true := by decide +kernel
def aI_316_10 : sx_IL := [(108, .iload 9, 2), (110, .iadd, 1), (111, .iload 7, 2), (113, .iload 9, 2), (115, .isub, 1), (116, .invokevirtual 476, 3)]
theorem aJ_316_10 : sx_iB prog_1_method_80_code aI_316_10 = true := by decide +kernel
def aI_316_11 : sx_IL := [(119, .goto 17, 3), (122, .aload_n 0, 1), (123, .aload_n 0, 1), (124, .getfield 60, 3), (127, .iload_n 1, 1), (128, .aaload, 1)]
theorem aJ_316_11 : sx_iB prog_1_method_80_code aI_316_11 = true := by decide +kernel
def aI_316_12 : sx_IL := [(129, .iload 5, 2), (131, .iload 9, 2), (133, .invokevirtual 476, 3), (136, .lastore, 1), (137, .iload 5, 2), (139, .iload 10, 2)]
theorem aJ_316_12 : sx_iB prog_1_method_80_code aI_316_12 = true := by decide +kernel
def aI_316_13 : sx_IL := [(141, .ifCond .eq 7, 3), (144, .iconst 0, 1), (145, .goto 5, 3), (148, .iload 9, 2), (150, .iadd, 1), (151, .istore 5, 2)]
theorem aJ_316_13 : sx_iB prog_1_method_80_code aI_316_13 = true := by decide +kernel
def aI_316_14 : sx_IL := [(153, .iload 6, 2), (155, .iload 10, 2), (157, .ifCond .eq 7, 3), (160, .iconst 0, 1), (161, .goto 5, 3), (164, .iload 9, 2)]
theorem aJ_316_14 : sx_iB prog_1_method_80_code aI_316_14 = true := by decide +kernel
def aI_316_15 : sx_IL := [(166, .isub, 1), (167, .istore 6, 2), (169, .iload 10, 2), (171, .ifCond .eq 8, 3), (174, .iload 9, 2), (176, .goto 8, 3)]
theorem aJ_316_15 : sx_iB prog_1_method_80_code aI_316_15 = true := by decide +kernel
def aI_316_16 : sx_IL := [(179, .iload 7, 2), (181, .iload 9, 2), (183, .isub, 1), (184, .istore 7, 2), (186, .iload 8, 2), (188, .ifCond .eq 12, 3)]
theorem aJ_316_16 : sx_iB prog_1_method_80_code aI_316_16 = true := by decide +kernel
def aI_316_17 : sx_IL := [(191, .iload 10, 2), (193, .ifCond .eq 7, 3), (196, .iconst 1, 1), (197, .goto 4, 3), (200, .iconst 0, 1), (201, .istore 8, 2)]
theorem aJ_316_17 : sx_iB prog_1_method_80_code aI_316_17 = true := by decide +kernel
def aI_316_18 : sx_IL := [(203, .iinc 4 1, 3), (206, .goto (-156), 3), (209, .iload 8, 2), (211, .ifCond .ne 30, 3), (214, .aload_n 0, 1), (215, .getfield 66, 3)]
theorem aJ_316_18 : sx_iB prog_1_method_80_code aI_316_18 = true := by decide +kernel
def aI_316_19 : sx_IL := [(218, .bipush 8, 2), (220, .iload 4, 2), (222, .iadd, 1), (223, .aload_n 0, 1), (224, .aload_n 0, 1), (225, .getfield 60, 3)]
theorem aJ_316_19 : sx_iB prog_1_method_80_code aI_316_19 = true := by decide +kernel
def aI_316_20 : sx_IL := [(228, .iload_n 1, 1), (229, .aaload, 1), (230, .iload 5, 2), (232, .iload 7, 2), (234, .invokevirtual 476, 3), (237, .lastore, 1)]
theorem aJ_316_20 : sx_iB prog_1_method_80_code aI_316_20 = true := by decide +kernel
def aI_316_21 : sx_IL := [(238, .iinc 4 1, 3), (241, .aload_n 0, 1), (242, .iload 4, 2), (244, .invokevirtual 483, 3), (247, .aload_n 0, 1), (248, .getfield 25, 3)]
theorem aJ_316_21 : sx_iB prog_1_method_80_code aI_316_21 = true := by decide +kernel
def aI_316_22 : sx_IL := [(251, .getfield 69, 3), (254, .ireturn, 1)]
theorem aJ_316_22 : sx_iB prog_1_method_80_code aI_316_22 = true := by decide +kernel
def aI_317_0 : sx_IL := [(0, .iload 4, 2), (2, .iconst 1, 1), (3, .if_icmp .lt 20, 3), (6, .iload 4, 2), (8, .bipush 64, 2), (10, .if_icmp .gt 13, 3)]
theorem aJ_317_0 : sx_iB prog_1_method_82_code aI_317_0 = true := by decide +kernel
def aI_317_1 : sx_IL := [(13, .iload_n 3, 1), (14, .ifCond .lt 9, 3), (17, .iload_n 3, 1), (18, .iload 4, 2), (20, .if_icmp .lt 5, 3), (23, .iconst (-1), 1)]
theorem aJ_317_1 : sx_iB prog_1_method_82_code aI_317_1 = true := by decide +kernel
def aI_317_2 : sx_IL := [(24, .ireturn, 1), (25, .iconst 0, 1), (26, .istore 7, 2), (28, .iconst 0, 1), (29, .istore 8, 2), (31, .iload_n 3, 1)]
theorem aJ_317_2 : sx_iB prog_1_method_82_code aI_317_2 = true := by decide +kernel
def aI_317_3 : sx_IL := [(32, .istore 9, 2), (34, .iload 4, 2), (36, .istore 10, 2), (38, .iload 10, 2), (40, .iconst 1, 1), (41, .if_icmp .le 88, 3)]
theorem aJ_317_3 : sx_iB prog_1_method_82_code aI_317_3 = true := by decide +kernel
def aI_317_4 : sx_IL := [(44, .iload 8, 2), (46, .bipush 7, 2), (48, .if_icmp .ge 81, 3), (51, .iload 10, 2), (53, .invokestatic 480, 3), (56, .istore 11, 2)]
theorem aJ_317_4 : sx_iB prog_1_method_82_code aI_317_4 = true := by decide +kernel
def aI_317_5 : sx_IL := [(58, .iload 9, 2), (60, .iload 11, 2), (62, .if_icmp .ge 7, 3), (65, .iconst 1, 1), (66, .goto 4, 3), (69, .iconst 0, 1)]
theorem aJ_317_5 : sx_iB prog_1_method_82_code aI_317_5 = true := by decide +kernel
def aI_317_6 : sx_IL := [(70, .istore 12, 2), (72, .iload 7, 2), (74, .iload 12, 2), (76, .ifCond .eq 10, 3), (79, .iconst 1, 1), (80, .iload 8, 2)]
theorem aJ_317_6 : sx_iB prog_1_method_82_code aI_317_6 = true := by decide +kernel
def aI_317_7 : sx_IL := [(82, .ishl, 1), (83, .goto 4, 3), (86, .iconst 0, 1), (87, .ior, 1), (88, .istore 7, 2), (90, .iload 9, 2)]
theorem aJ_317_7 : sx_iB prog_1_method_82_code aI_317_7 = true := by decide +kernel
def aI_317_8 : sx_IL := [(92, .iload 12, 2), (94, .ifCond .eq 7, 3), (97, .iconst 0, 1), (98, .goto 5, 3), (101, .iload 11, 2), (103, .isub, 1)]
theorem aJ_317_8 : sx_iB prog_1_method_82_code aI_317_8 = true := by decide +kernel
def aI_317_9 : sx_IL := [(104, .istore 9, 2), (106, .iload 12, 2), (108, .ifCond .eq 8, 3), (111, .iload 11, 2), (113, .goto 8, 3), (116, .iload 10, 2)]
theorem aJ_317_9 : sx_iB prog_1_method_82_code aI_317_9 = true := by decide +kernel
def aI_317_10 : sx_IL := [(118, .iload 11, 2), (120, .isub, 1), (121, .istore 10, 2), (123, .iinc 8 1, 3), (126, .goto (-88), 3), (129, .aload_n 0, 1)]
theorem aJ_317_10 : sx_iB prog_1_method_82_code aI_317_10 = true := by decide +kernel
def aI_317_11 : sx_IL := [(130, .getfield 21, 3), (133, .getfield 69, 3), (136, .bipush 8, 2), (138, .iload 8, 2), (140, .imul, 1), (141, .if_icmp .ne 7, 3)]
theorem aJ_317_11 : sx_iB prog_1_method_82_code aI_317_11 = true := by decide +kernel
def aI_317_12 : sx_IL := [(144, .iconst 1, 1), (145, .goto 4, 3), (148, .iconst 0, 1), (149, .istore 10, 2), (151, .aload_n 0, 1), (152, .lload_n 1, 1)]
theorem aJ_317_12 : sx_iB prog_1_method_82_code aI_317_12 = true := by decide +kernel
def aI_317_13 : sx_IL := [(153, .invokevirtual 490, 3), (156, .lstore 11, 2), (158, .iconst 0, 1), (159, .istore 13, 2), (161, .iload 10, 2), (163, .ifCond .eq 79, 3)]
theorem aJ_317_13 : sx_iB prog_1_method_82_code aI_317_13 = true := by decide +kernel
def aI_317_14 : sx_IL := [(166, .iload 13, 2), (168, .iload 8, 2), (170, .if_icmp .ge 72, 3), (173, .aload_n 0, 1), (174, .getfield 21, 3), (177, .bipush 8, 2)]
theorem aJ_317_14 : sx_iB prog_1_method_82_code aI_317_14 = true := by decide +kernel
def aI_317_15 : sx_IL := [(179, .iload 13, 2), (181, .imul, 1), (182, .invokevirtual 494, 3), (185, .lstore 14, 2), (187, .iload 7, 2), (189, .iload 8, 2)]
theorem aJ_317_15 : sx_iB prog_1_method_82_code aI_317_15 = true := by decide +kernel
def aI_317_16 : sx_IL := [(191, .iconst 1, 1), (192, .isub, 1), (193, .iload 13, 2), (195, .isub, 1), (196, .iushr, 1), (197, .iconst 1, 1)]
theorem aJ_317_16 : sx_iB prog_1_method_82_code aI_317_16 = true := by decide +kernel
def aI_317_17 : sx_IL := [(198, .iand, 1), (199, .iconst 1, 1), (200, .if_icmp .ne 7, 3), (203, .iconst 1, 1), (204, .goto 4, 3), (207, .iconst 0, 1)]
theorem aJ_317_17 : sx_iB prog_1_method_82_code aI_317_17 = true := by decide +kernel
def aI_317_18 : sx_IL := [(208, .istore 16, 2), (210, .iload 16, 2), (212, .ifCond .eq 14, 3), (215, .aload_n 0, 1), (216, .lload 11, 2), (218, .lload 14, 2)]
theorem aJ_317_18 : sx_iB prog_1_method_82_code aI_317_18 = true := by decide +kernel
def aI_317_19 : sx_IL := [(220, .invokevirtual 498, 3), (223, .goto 11, 3), (226, .aload_n 0, 1), (227, .lload 14, 2), (229, .lload 11, 2), (231, .invokevirtual 498, 3)]
theorem aJ_317_19 : sx_iB prog_1_method_82_code aI_317_19 = true := by decide +kernel
def aI_317_20 : sx_IL := [(234, .lstore 11, 2), (236, .iinc 13 1, 3), (239, .goto (-78), 3), (242, .aload_n 0, 1), (243, .getfield 21, 3), (246, .invokevirtual 108, 3)]
theorem aJ_317_20 : sx_iB prog_1_method_82_code aI_317_20 = true := by decide +kernel
def aI_317_21 : sx_IL := [(249, .iload 10, 2), (251, .ifCond .eq 15, 3), (254, .lload 11, 2), (256, .lload 5, 2), (258, .lcmp, 1), (259, .ifCond .ne 7, 3)]
theorem aJ_317_21 : sx_iB prog_1_method_82_code aI_317_21 = true := by decide +kernel
def aI_317_22 : sx_IL := [(262, .iconst 1, 1), (263, .goto 4, 3), (266, .iconst 0, 1), (267, .ireturn, 1)]
theorem aJ_317_22 : sx_iB prog_1_method_82_code aI_317_22 = true := by decide +kernel
def aI_318_0 : sx_IL := [(0, .iload_n 2, 1), (1, .iconst 1, 1), (2, .if_icmp .lt 19, 3), (5, .iload_n 2, 1), (6, .bipush 64, 2), (8, .if_icmp .gt 13, 3)]
theorem aJ_318_0 : sx_iB prog_1_method_83_code aI_318_0 = true := by decide +kernel
def aI_318_1 : sx_IL := [(11, .iload_n 1, 1), (12, .iconst 1, 1), (13, .if_icmp .lt 8, 3), (16, .iload_n 1, 1), (17, .iload_n 2, 1), (18, .if_icmp .le 5, 3)]
theorem aJ_318_1 : sx_iB prog_1_method_83_code aI_318_1 = true := by decide +kernel
def aI_318_2 : sx_IL := [(21, .iconst (-1), 1), (22, .ireturn, 1), (23, .iconst 0, 1), (24, .istore 7, 2), (26, .iconst 0, 1), (27, .istore 8, 2)]
theorem aJ_318_2 : sx_iB prog_1_method_83_code aI_318_2 = true := by decide +kernel
def aI_318_3 : sx_IL := [(29, .iload_n 1, 1), (30, .istore 9, 2), (32, .iload_n 2, 1), (33, .istore 10, 2), (35, .iload 10, 2), (37, .iload 9, 2)]
theorem aJ_318_3 : sx_iB prog_1_method_83_code aI_318_3 = true := by decide +kernel
def aI_318_4 : sx_IL := [(39, .if_icmp .le 88, 3), (42, .iload 8, 2), (44, .bipush 7, 2), (46, .if_icmp .ge 81, 3), (49, .iload 10, 2), (51, .invokestatic 480, 3)]
theorem aJ_318_4 : sx_iB prog_1_method_83_code aI_318_4 = true := by decide +kernel
def aI_318_5 : sx_IL := [(54, .istore 11, 2), (56, .iload 9, 2), (58, .iload 11, 2), (60, .if_icmp .gt 7, 3), (63, .iconst 1, 1), (64, .goto 4, 3)]
theorem aJ_318_5 : sx_iB prog_1_method_83_code aI_318_5 = true := by decide +kernel
def aI_318_6 : sx_IL := [(67, .iconst 0, 1), (68, .istore 12, 2), (70, .iload 7, 2), (72, .iload 12, 2), (74, .ifCond .eq 10, 3), (77, .iconst 1, 1)]
theorem aJ_318_6 : sx_iB prog_1_method_83_code aI_318_6 = true := by decide +kernel
def aI_318_7 : sx_IL := [(78, .iload 8, 2), (80, .ishl, 1), (81, .goto 4, 3), (84, .iconst 0, 1), (85, .ior, 1), (86, .istore 7, 2)]
theorem aJ_318_7 : sx_iB prog_1_method_83_code aI_318_7 = true := by decide +kernel
def aI_318_8 : sx_IL := [(88, .iload 9, 2), (90, .iload 12, 2), (92, .ifCond .eq 7, 3), (95, .iconst 0, 1), (96, .goto 5, 3), (99, .iload 11, 2)]
theorem aJ_318_8 : sx_iB prog_1_method_83_code aI_318_8 = true := by decide +kernel
def aI_318_9 : sx_IL := [(101, .isub, 1), (102, .istore 9, 2), (104, .iload 12, 2), (106, .ifCond .eq 8, 3), (109, .iload 11, 2), (111, .goto 8, 3)]
theorem aJ_318_9 : sx_iB prog_1_method_83_code aI_318_9 = true := by decide +kernel
def aI_318_10 : sx_IL := [(114, .iload 10, 2), (116, .iload 11, 2), (118, .isub, 1), (119, .istore 10, 2), (121, .iinc 8 1, 3), (124, .goto (-89), 3)]
theorem aJ_318_10 : sx_iB prog_1_method_83_code aI_318_10 = true := by decide +kernel
def aI_318_11 : sx_IL := [(127, .iload 7, 2), (129, .iconst 1, 1), (130, .iload 8, 2), (132, .ishl, 1), (133, .iconst 1, 1), (134, .isub, 1)]
theorem aJ_318_11 : sx_iB prog_1_method_83_code aI_318_11 = true := by decide +kernel
def aI_318_12 : sx_IL := [(135, .if_icmp .ne 7, 3), (138, .iconst 1, 1), (139, .goto 4, 3), (142, .iconst 0, 1), (143, .istore 10, 2), (145, .iload 10, 2)]
theorem aJ_318_12 : sx_iB prog_1_method_83_code aI_318_12 = true := by decide +kernel
def aI_318_13 : sx_IL := [(147, .ifCond .eq 7, 3), (150, .iconst 0, 1), (151, .goto 4, 3), (154, .iconst 1, 1), (155, .istore 11, 2), (157, .aload_n 0, 1)]
theorem aJ_318_13 : sx_iB prog_1_method_83_code aI_318_13 = true := by decide +kernel
def aI_318_14 : sx_IL := [(158, .getfield 21, 3), (161, .getfield 69, 3), (164, .bipush 8, 2), (166, .iload 8, 2), (168, .iload 11, 2), (170, .iadd, 1)]
theorem aJ_318_14 : sx_iB prog_1_method_83_code aI_318_14 = true := by decide +kernel
def aI_318_15 : sx_IL := [(171, .imul, 1), (172, .if_icmp .ne 7, 3), (175, .iconst 1, 1), (176, .goto 4, 3), (179, .iconst 0, 1), (180, .istore 12, 2)]
theorem aJ_318_15 : sx_iB prog_1_method_83_code aI_318_15 = true := by decide +kernel
def aI_318_16 : sx_IL := [(182, .iload 10, 2), (184, .ifCond .eq 7, 3), (187, .lload_n 3, 1), (188, .goto 11, 3), (191, .aload_n 0, 1), (192, .getfield 21, 3)]
theorem aJ_318_16 : sx_iB prog_1_method_83_code aI_318_16 = true := by decide +kernel
def aI_318_17 : sx_IL := [(195, .iconst 0, 1), (196, .invokevirtual 494, 3), (199, .lstore 13, 2), (201, .lload 13, 2), (203, .lstore 15, 2), (205, .iconst 0, 1)]
theorem aJ_318_17 : sx_iB prog_1_method_83_code aI_318_17 = true := by decide +kernel
def aI_318_18 : sx_IL := [(206, .istore 17, 2), (208, .iload 12, 2), (210, .ifCond .eq 102, 3), (213, .iload 17, 2), (215, .iload 8, 2), (217, .if_icmp .ge 95, 3)]
theorem aJ_318_18 : sx_iB prog_1_method_83_code aI_318_18 = true := by decide +kernel
def aI_318_19 : sx_IL := [(220, .aload_n 0, 1), (221, .getfield 21, 3), (224, .bipush 8, 2), (226, .iload 11, 2), (228, .iload 17, 2), (230, .iadd, 1)]
theorem aJ_318_19 : sx_iB prog_1_method_83_code aI_318_19 = true := by decide +kernel
def aI_318_20 : sx_IL := [(231, .imul, 1), (232, .invokevirtual 494, 3), (235, .lstore 18, 2), (237, .iload 7, 2), (239, .iload 8, 2), (241, .iconst 1, 1)]
theorem aJ_318_20 : sx_iB prog_1_method_83_code aI_318_20 = true := by decide +kernel
def aI_318_21 : sx_IL := [(242, .isub, 1), (243, .iload 17, 2), (245, .isub, 1), (246, .iushr, 1), (247, .iconst 1, 1), (248, .iand, 1)]
theorem aJ_318_21 : sx_iB prog_1_method_83_code aI_318_21 = true := by decide +kernel
def aI_318_22 : sx_IL := [(249, .iconst 1, 1), (250, .if_icmp .ne 7, 3), (253, .iconst 1, 1), (254, .goto 4, 3), (257, .iconst 0, 1), (258, .istore 20, 2)]
theorem aJ_318_22 : sx_iB prog_1_method_83_code aI_318_22 = true := by decide +kernel
def aI_318_23 : sx_IL := [(260, .iload 20, 2), (262, .ifCond .eq 8, 3), (265, .lload 13, 2), (267, .goto 11, 3), (270, .aload_n 0, 1), (271, .lload 18, 2)]
theorem aJ_318_23 : sx_iB prog_1_method_83_code aI_318_23 = true := by decide +kernel
def aI_318_24 : sx_IL := [(273, .lload 13, 2), (275, .invokevirtual 498, 3), (278, .lstore 13, 2), (280, .iload 20, 2), (282, .ifCond .eq 14, 3), (285, .aload_n 0, 1)]
theorem aJ_318_24 : sx_iB prog_1_method_83_code aI_318_24 = true := by decide +kernel
def aI_318_25 : sx_IL := [(286, .lload 15, 2), (288, .lload 18, 2), (290, .invokevirtual 498, 3), (293, .goto 11, 3), (296, .aload_n 0, 1), (297, .lload 18, 2)]
theorem aJ_318_25 : sx_iB prog_1_method_83_code aI_318_25 = true := by decide +kernel
def aI_318_26 : sx_IL := [(299, .lload 15, 2), (301, .invokevirtual 498, 3), (304, .lstore 15, 2), (306, .iinc 17 1, 3), (309, .goto (-101), 3), (312, .aload_n 0, 1)]
theorem aJ_318_26 : sx_iB prog_1_method_83_code aI_318_26 = true := by decide +kernel
def aI_318_27 : sx_IL := [(313, .getfield 21, 3), (316, .invokevirtual 108, 3), (319, .iload 12, 2), (321, .ifCond .eq 22, 3), (324, .lload 13, 2), (326, .lload_n 3, 1)]
theorem aJ_318_27 : sx_iB prog_1_method_83_code aI_318_27 = true := by decide +kernel
def aI_318_28 : sx_IL := [(327, .lcmp, 1), (328, .ifCond .ne 15, 3), (331, .lload 15, 2), (333, .lload 5, 2), (335, .lcmp, 1), (336, .ifCond .ne 7, 3)]
theorem aJ_318_28 : sx_iB prog_1_method_83_code aI_318_28 = true := by decide +kernel
def aI_318_29 : sx_IL := [(339, .iconst 1, 1), (340, .goto 4, 3), (343, .iconst 0, 1), (344, .ireturn, 1)]
theorem aJ_318_29 : sx_iB prog_1_method_83_code aI_318_29 = true := by decide +kernel
def aI_319_0 : sx_IL := [(0, .aload_n 0, 1), (1, .invokespecial 1, 3), (4, .aload_n 0, 1), (5, .sipush 800, 3), (8, .newarray .int, 2), (10, .putfield 7, 3)]
theorem aJ_319_0 : sx_iB prog_14_method_1_code aI_319_0 = true := by decide +kernel
def aI_319_1 : sx_IL := [(13, .aload_n 0, 1), (14, .sipush 820, 3), (17, .newarray .int, 2), (19, .putfield 13, 3), (22, .aload_n 0, 1), (23, .iconst 4, 1)]
theorem aJ_319_1 : sx_iB prog_14_method_1_code aI_319_1 = true := by decide +kernel
def aI_319_2 : sx_IL := [(24, .newarray .int, 2), (26, .putfield 16, 3), (29, .aload_n 0, 1), (30, .sipush 256, 3), (33, .newarray .long, 2), (35, .putfield 19, 3)]
theorem aJ_319_2 : sx_iB prog_14_method_1_code aI_319_2 = true := by decide +kernel
def aI_319_3 : sx_IL := [(38, .aload_n 0, 1), (39, .bipush 64, 2), (41, .newarray .long, 2), (43, .putfield 23, 3), (46, .aload_n 0, 1), (47, .bipush 64, 2)]
theorem aJ_319_3 : sx_iB prog_14_method_1_code aI_319_3 = true := by decide +kernel
def aI_319_4 : sx_IL := [(49, .newarray .int, 2), (51, .putfield 26, 3), (54, .aload_n 0, 1), (55, .bipush 16, 2), (57, .newarray .long, 2), (59, .putfield 29, 3)]
theorem aJ_319_4 : sx_iB prog_14_method_1_code aI_319_4 = true := by decide +kernel
def aI_319_5 : sx_IL := [(62, .aload_n 0, 1), (63, .bipush 16, 2), (65, .newarray .boolean, 2), (67, .putfield 32, 3), (70, .aload_n 0, 1), (71, .bipush 12, 2)]
theorem aJ_319_5 : sx_iB prog_14_method_1_code aI_319_5 = true := by decide +kernel
def aI_319_6 : sx_IL := [(73, .newarray .int, 2), (75, .putfield 36, 3), (78, .aload_n 0, 1), (79, .sipush 14400, 3), (82, .newarray .int, 2), (84, .putfield 39, 3)]
theorem aJ_319_6 : sx_iB prog_14_method_1_code aI_319_6 = true := by decide +kernel
def aI_319_7 : sx_IL := [(87, .aload_n 0, 1), (88, .bipush 36, 2), (90, .newarray .int, 2), (92, .putfield 42, 3), (95, .aload_n 0, 1), (96, .sipush 288, 3)]
theorem aJ_319_7 : sx_iB prog_14_method_1_code aI_319_7 = true := by decide +kernel
def aI_319_8 : sx_IL := [(99, .newarray .int, 2), (101, .putfield 45, 3), (104, .aload_n 0, 1), (105, .bipush 72, 2), (107, .newarray .int, 2), (109, .putfield 48, 3)]
theorem aJ_319_8 : sx_iB prog_14_method_1_code aI_319_8 = true := by decide +kernel
def aI_319_9 : sx_IL := [(112, .aload_n 0, 1), (113, .bipush 72, 2), (115, .newarray .int, 2), (117, .putfield 51, 3), (120, .aload_n 0, 1), (121, .bipush 72, 2)]
theorem aJ_319_9 : sx_iB prog_14_method_1_code aI_319_9 = true := by decide +kernel
def aI_319_10 : sx_IL := [(123, .newarray .int, 2), (125, .putfield 54, 3), (128, .aload_n 0, 1), (129, .bipush 36, 2), (131, .newarray .int, 2), (133, .putfield 57, 3)]
theorem aJ_319_10 : sx_iB prog_14_method_1_code aI_319_10 = true := by decide +kernel
def aI_319_11 : sx_IL := [(136, .aload_n 0, 1), (137, .bipush 108, 2), (139, .newarray .int, 2), (141, .putfield 60, 3), (144, .aload_n 0, 1), (145, .sipush 864, 3)]
theorem aJ_319_11 : sx_iB prog_14_method_1_code aI_319_11 = true := by decide +kernel
def aI_319_12 : sx_IL := [(148, .newarray .int, 2), (150, .putfield 63, 3), (153, .aload_n 0, 1), (154, .sipush 5600, 3), (157, .newarray .int, 2), (159, .putfield 66, 3)]
theorem aJ_319_12 : sx_iB prog_14_method_1_code aI_319_12 = true := by decide +kernel
def aI_319_13 : sx_IL := [(162, .aload_n 0, 1), (163, .bipush 14, 2), (165, .newarray .int, 2), (167, .putfield 69, 3), (170, .aload_n 0, 1), (171, .bipush 112, 2)]
theorem aJ_319_13 : sx_iB prog_14_method_1_code aI_319_13 = true := by decide +kernel
def aI_319_14 : sx_IL := [(173, .newarray .int, 2), (175, .putfield 72, 3), (178, .aload_n 0, 1), (179, .sipush 5600, 3), (182, .newarray .int, 2), (184, .putfield 75, 3)]
theorem aJ_319_14 : sx_iB prog_14_method_1_code aI_319_14 = true := by decide +kernel
def aI_319_15 : sx_IL := [(187, .aload_n 0, 1), (188, .bipush 14, 2), (190, .newarray .int, 2), (192, .putfield 78, 3), (195, .aload_n 0, 1), (196, .bipush 112, 2)]
theorem aJ_319_15 : sx_iB prog_14_method_1_code aI_319_15 = true := by decide +kernel
def aI_319_16 : sx_IL := [(198, .newarray .int, 2), (200, .putfield 81, 3), (203, .aload_n 0, 1), (204, .sipush 2000, 3), (207, .newarray .int, 2), (209, .putfield 84, 3)]
theorem aJ_319_16 : sx_iB prog_14_method_1_code aI_319_16 = true := by decide +kernel
def aI_319_17 : sx_IL := [(212, .aload_n 0, 1), (213, .bipush 8, 2), (215, .newarray .int, 2), (217, .putfield 87, 3), (220, .aload_n 0, 1), (221, .bipush 6, 2)]
theorem aJ_319_17 : sx_iB prog_14_method_1_code aI_319_17 = true := by decide +kernel
def aI_319_18 : sx_IL := [(223, .newarray .int, 2), (225, .putfield 90, 3), (228, .aload_n 0, 1), (229, .bipush 8, 2), (231, .newarray .int, 2), (233, .putfield 93, 3)]
theorem aJ_319_18 : sx_iB prog_14_method_1_code aI_319_18 = true := by decide +kernel
def aI_319_19 : sx_IL := [(236, .aload_n 0, 1), (237, .bipush 96, 2), (239, .newarray .int, 2), (241, .putfield 96, 3), (244, .aload_n 0, 1), (245, .bipush 24, 2)]
theorem aJ_319_19 : sx_iB prog_14_method_1_code aI_319_19 = true := by decide +kernel
def aI_319_20 : sx_IL := [(247, .newarray .int, 2), (249, .putfield 99, 3), (252, .aload_n 0, 1), (253, .bipush 64, 2), (255, .newarray .int, 2), (257, .putfield 102, 3)]
theorem aJ_319_20 : sx_iB prog_14_method_1_code aI_319_20 = true := by decide +kernel
def aI_319_21 : sx_IL := [(260, .aload_n 0, 1), (261, .sipush 1600, 3), (264, .newarray .int, 2), (266, .putfield 105, 3), (269, .aload_n 0, 1), (270, .bipush 8, 2)]
theorem aJ_319_21 : sx_iB prog_14_method_1_code aI_319_21 = true := by decide +kernel
def aI_319_22 : sx_IL := [(272, .newarray .int, 2), (274, .putfield 108, 3), (277, .aload_n 0, 1), (278, .sipush 240, 3), (281, .newarray .int, 2), (283, .putfield 111, 3)]
theorem aJ_319_22 : sx_iB prog_14_method_1_code aI_319_22 = true := by decide +kernel
def aI_319_23 : sx_IL := [(286, .aload_n 0, 1), (287, .bipush 8, 2), (289, .newarray .int, 2), (291, .putfield 114, 3), (294, .aload_n 0, 1), (295, .bipush 32, 2)]
theorem aJ_319_23 : sx_iB prog_14_method_1_code aI_319_23 = true := by decide +kernel
def aI_319_24 : sx_IL := [(297, .newarray .int, 2), (299, .putfield 117, 3), (302, .aload_n 0, 1), (303, .bipush 8, 2), (305, .newarray .int, 2), (307, .putfield 120, 3)]
theorem aJ_319_24 : sx_iB prog_14_method_1_code aI_319_24 = true := by decide +kernel
def aI_319_25 : sx_IL := [(310, .aload_n 0, 1), (311, .bipush 8, 2), (313, .newarray .int, 2), (315, .putfield 123, 3), (318, .aload_n 0, 1), (319, .sipush 320, 3)]
theorem aJ_319_25 : sx_iB prog_14_method_1_code aI_319_25 = true := by decide +kernel
def aI_319_26 : sx_IL := [(322, .newarray .int, 2), (324, .putfield 126, 3), (327, .aload_n 0, 1), (328, .bipush 8, 2), (330, .newarray .int, 2), (332, .putfield 129, 3)]
theorem aJ_319_26 : sx_iB prog_14_method_1_code aI_319_26 = true := by decide +kernel
def aI_319_27 : sx_IL := [(335, .aload_n 0, 1), (336, .bipush 8, 2), (338, .newarray .int, 2), (340, .putfield 132, 3), (343, .aload_n 0, 1), (344, .sipush 768, 3)]
theorem aJ_319_27 : sx_iB prog_14_method_1_code aI_319_27 = true := by decide +kernel
def aI_319_28 : sx_IL := [(347, .newarray .int, 2), (349, .putfield 135, 3), (352, .aload_n 0, 1), (353, .bipush 48, 2), (355, .newarray .int, 2), (357, .putfield 138, 3)]
theorem aJ_319_28 : sx_iB prog_14_method_1_code aI_319_28 = true := by decide +kernel
def aI_319_29 : sx_IL := [(360, .aload_n 0, 1), (361, .bipush 48, 2), (363, .newarray .long, 2), (365, .putfield 141, 3), (368, .aload_n 0, 1), (369, .bipush 48, 2)]
theorem aJ_319_29 : sx_iB prog_14_method_1_code aI_319_29 = true := by decide +kernel
def aI_319_30 : sx_IL := [(371, .newarray .int, 2), (373, .putfield 144, 3), (376, .aload_n 0, 1), (377, .bipush 48, 2), (379, .newarray .boolean, 2), (381, .putfield 147, 3)]
theorem aJ_319_30 : sx_iB prog_14_method_1_code aI_319_30 = true := by decide +kernel
def aI_319_31 : sx_IL := [(384, .aload_n 0, 1), (385, .sipush 240, 3), (388, .newarray .int, 2), (390, .putfield 150, 3), (393, .aload_n 0, 1), (394, .sipush 3200, 3)]
theorem aJ_319_31 : sx_iB prog_14_method_1_code aI_319_31 = true := by decide +kernel
def aI_319_32 : sx_IL := [(397, .newarray .int, 2), (399, .putfield 153, 3), (402, .aload_n 0, 1), (403, .bipush 8, 2), (405, .newarray .int, 2), (407, .putfield 156, 3)]
theorem aJ_319_32 : sx_iB prog_14_method_1_code aI_319_32 = true := by decide +kernel
def aI_319_33 : sx_IL := [(410, .aload_n 0, 1), (411, .bipush 8, 2), (413, .newarray .long, 2), (415, .putfield 159, 3), (418, .aload_n 0, 1), (419, .bipush 8, 2)]
theorem aJ_319_33 : sx_iB prog_14_method_1_code aI_319_33 = true := by decide +kernel
def aI_319_34 : sx_IL := [(421, .newarray .boolean, 2), (423, .putfield 162, 3), (426, .aload_n 0, 1), (427, .bipush 8, 2), (429, .newarray .int, 2), (431, .putfield 165, 3)]
theorem aJ_319_34 : sx_iB prog_14_method_1_code aI_319_34 = true := by decide +kernel
def aI_319_35 : sx_IL := [(434, .aload_n 0, 1), (435, .bipush 8, 2), (437, .newarray .int, 2), (439, .putfield 168, 3), (442, .aload_n 0, 1), (443, .sipush 160, 3)]
theorem aJ_319_35 : sx_iB prog_14_method_1_code aI_319_35 = true := by decide +kernel
def aI_319_36 : sx_IL := [(446, .newarray .long, 2), (448, .putfield 171, 3), (451, .aload_n 0, 1), (452, .sipush 160, 3), (455, .newarray .long, 2), (457, .putfield 174, 3)]
theorem aJ_319_36 : sx_iB prog_14_method_1_code aI_319_36 = true := by decide +kernel
def aI_319_37 : sx_IL := [(460, .aload_n 0, 1), (461, .sipush 160, 3), (464, .newarray .int, 2), (466, .putfield 177, 3), (469, .aload_n 0, 1), (470, .sipush 160, 3)]
theorem aJ_319_37 : sx_iB prog_14_method_1_code aI_319_37 = true := by decide +kernel
def aI_319_38 : sx_IL := [(473, .newarray .int, 2), (475, .putfield 180, 3), (478, .aload_n 0, 1), (479, .sipush 160, 3), (482, .newarray .int, 2), (484, .putfield 183, 3)]
theorem aJ_319_38 : sx_iB prog_14_method_1_code aI_319_38 = true := by decide +kernel
def aI_319_39 : sx_IL := [(487, .aload_n 0, 1), (488, .sipush 160, 3), (491, .newarray .boolean, 2), (493, .putfield 186, 3), (496, .aload_n 0, 1), (497, .iconst 4, 1)]
theorem aJ_319_39 : sx_iB prog_14_method_1_code aI_319_39 = true := by decide +kernel
def aI_319_40 : sx_IL := [(498, .newarray .int, 2), (500, .putfield 189, 3), (503, .aload_n 0, 1), (504, .iconst 4, 1), (505, .newarray .int, 2), (507, .putfield 192, 3)]
theorem aJ_319_40 : sx_iB prog_14_method_1_code aI_319_40 = true := by decide +kernel
def aI_319_41 : sx_IL := [(510, .aload_n 0, 1), (511, .iconst 4, 1), (512, .newarray .int, 2), (514, .putfield 195, 3), (517, .aload_n 0, 1), (518, .iconst 4, 1)]
theorem aJ_319_41 : sx_iB prog_14_method_1_code aI_319_41 = true := by decide +kernel
def aI_319_42 : sx_IL := [(519, .newarray .int, 2), (521, .putfield 198, 3), (524, .aload_n 0, 1), (525, .iconst 4, 1), (526, .newarray .int, 2), (528, .putfield 201, 3)]
theorem aJ_319_42 : sx_iB prog_14_method_1_code aI_319_42 = true := by decide +kernel
def aI_319_43 : sx_IL := [(531, .aload_n 0, 1), (532, .iconst 4, 1), (533, .newarray .int, 2), (535, .putfield 204, 3), (538, .aload_n 0, 1), (539, .iconst 4, 1)]
theorem aJ_319_43 : sx_iB prog_14_method_1_code aI_319_43 = true := by decide +kernel
def aI_319_44 : sx_IL := [(540, .newarray .int, 2), (542, .putfield 207, 3), (545, .aload_n 0, 1), (546, .bipush 32, 2), (548, .newarray .long, 2), (550, .putfield 210, 3)]
theorem aJ_319_44 : sx_iB prog_14_method_1_code aI_319_44 = true := by decide +kernel
def aI_319_45 : sx_IL := [(553, .aload_n 0, 1), (554, .iconst 4, 1), (555, .newarray .int, 2), (557, .putfield 213, 3), (560, .aload_n 0, 1), (561, .bipush 48, 2)]
theorem aJ_319_45 : sx_iB prog_14_method_1_code aI_319_45 = true := by decide +kernel
def aI_319_46 : sx_IL := [(563, .newarray .int, 2), (565, .putfield 216, 3), (568, .aload_n 0, 1), (569, .bipush 48, 2), (571, .newarray .int, 2), (573, .putfield 219, 3)]
theorem aJ_319_46 : sx_iB prog_14_method_1_code aI_319_46 = true := by decide +kernel
def aI_319_47 : sx_IL := [(576, .aload_n 0, 1), (577, .bipush 48, 2), (579, .newarray .int, 2), (581, .putfield 222, 3), (584, .aload_n 0, 1), (585, .bipush 48, 2)]
theorem aJ_319_47 : sx_iB prog_14_method_1_code aI_319_47 = true := by decide +kernel
def aI_319_48 : sx_IL := [(587, .newarray .int, 2), (589, .putfield 225, 3), (592, .aload_n 0, 1), (593, .sipush 6048, 3), (596, .newarray .int, 2), (598, .putfield 228, 3)]
theorem aJ_319_48 : sx_iB prog_14_method_1_code aI_319_48 = true := by decide +kernel
def aI_319_49 : sx_IL := [(601, .aload_n 0, 1), (602, .sipush 144, 3), (605, .newarray .int, 2), (607, .putfield 231, 3), (610, .aload_n 0, 1), (611, .sipush 144, 3)]
theorem aJ_319_49 : sx_iB prog_14_method_1_code aI_319_49 = true := by decide +kernel
def aI_319_50 : sx_IL := [(614, .newarray .int, 2), (616, .putfield 234, 3), (619, .aload_n 0, 1), (620, .sipush 144, 3), (623, .newarray .int, 2), (625, .putfield 237, 3)]
theorem aJ_319_50 : sx_iB prog_14_method_1_code aI_319_50 = true := by decide +kernel
def aI_319_51 : sx_IL := [(628, .aload_n 0, 1), (629, .iconst 4, 1), (630, .newarray .int, 2), (632, .putfield 240, 3), (635, .aload_n 0, 1), (636, .sipush 160, 3)]
theorem aJ_319_51 : sx_iB prog_14_method_1_code aI_319_51 = true := by decide +kernel
def aI_319_52 : sx_IL := [(639, .newarray .int, 2), (641, .putfield 243, 3), (644, .aload_n 0, 1), (645, .sipush 640, 3), (648, .newarray .int, 2), (650, .putfield 246, 3)]
theorem aJ_319_52 : sx_iB prog_14_method_1_code aI_319_52 = true := by decide +kernel
def aI_319_53 : sx_IL := [(653, .aload_n 0, 1), (654, .bipush 16, 2), (656, .newarray .int, 2), (658, .putfield 249, 3), (661, .aload_n 0, 1), (662, .bipush 16, 2)]
theorem aJ_319_53 : sx_iB prog_14_method_1_code aI_319_53 = true := by decide +kernel
def aI_319_54 : sx_IL := [(664, .newarray .long, 2), (666, .putfield 252, 3), (669, .aload_n 0, 1), (670, .iconst 4, 1), (671, .newarray .int, 2), (673, .putfield 255, 3)]
theorem aJ_319_54 : sx_iB prog_14_method_1_code aI_319_54 = true := by decide +kernel
def aI_319_55 : sx_IL := [(676, .aload_n 0, 1), (677, .iconst 4, 1), (678, .newarray .int, 2), (680, .putfield 258, 3), (683, .aload_n 0, 1), (684, .bipush 24, 2)]
theorem aJ_319_55 : sx_iB prog_14_method_1_code aI_319_55 = true := by decide +kernel
def aI_319_56 : sx_IL := [(686, .newarray .int, 2), (688, .putfield 261, 3), (691, .aload_n 0, 1), (692, .ldc_w 264, 3), (695, .newarray .int, 2), (697, .putfield 265, 3)]
theorem aJ_319_56 : sx_iB prog_14_method_1_code aI_319_56 = true := by decide +kernel
def aI_319_57 : sx_IL := [(700, .aload_n 0, 1), (701, .bipush 24, 2), (703, .newarray .int, 2), (705, .putfield 268, 3), (708, .aload_n 0, 1), (709, .sipush 7680, 3)]
theorem aJ_319_57 : sx_iB prog_14_method_1_code aI_319_57 = true := by decide +kernel
def aI_319_58 : sx_IL := [(712, .newarray .int, 2), (714, .putfield 271, 3), (717, .aload_n 0, 1), (718, .bipush 24, 2), (720, .newarray .int, 2), (722, .putfield 274, 3)]
theorem aJ_319_58 : sx_iB prog_14_method_1_code aI_319_58 = true := by decide +kernel
def aI_319_59 : sx_IL := [(725, .aload_n 0, 1), (726, .ldc_w 277, 3), (729, .newarray .int, 2), (731, .putfield 278, 3), (734, .aload_n 0, 1), (735, .bipush 24, 2)]
theorem aJ_319_59 : sx_iB prog_14_method_1_code aI_319_59 = true := by decide +kernel
def aI_319_60 : sx_IL := [(737, .newarray .int, 2), (739, .putfield 281, 3), (742, .aload_n 0, 1), (743, .ldc_w 284, 3), (746, .newarray .int, 2), (748, .putfield 285, 3)]
theorem aJ_319_60 : sx_iB prog_14_method_1_code aI_319_60 = true := by decide +kernel
def aI_319_61 : sx_IL := [(751, .aload_n 0, 1), (752, .bipush 24, 2), (754, .newarray .int, 2), (756, .putfield 288, 3), (759, .aload_n 0, 1), (760, .bipush 24, 2)]
theorem aJ_319_61 : sx_iB prog_14_method_1_code aI_319_61 = true := by decide +kernel
def aI_319_62 : sx_IL := [(762, .newarray .int, 2), (764, .putfield 291, 3), (767, .aload_n 0, 1), (768, .bipush 24, 2), (770, .newarray .boolean, 2), (772, .putfield 294, 3)]
theorem aJ_319_62 : sx_iB prog_14_method_1_code aI_319_62 = true := by decide +kernel
def aI_319_63 : sx_IL := [(775, .aload_n 0, 1), (776, .bipush 24, 2), (778, .newarray .boolean, 2), (780, .putfield 297, 3), (783, .aload_n 0, 1), (784, .bipush 24, 2)]
theorem aJ_319_63 : sx_iB prog_14_method_1_code aI_319_63 = true := by decide +kernel
def aI_319_64 : sx_IL := [(786, .newarray .boolean, 2), (788, .putfield 300, 3), (791, .aload_n 0, 1), (792, .bipush 24, 2), (794, .newarray .int, 2), (796, .putfield 303, 3)]
theorem aJ_319_64 : sx_iB prog_14_method_1_code aI_319_64 = true := by decide +kernel
def aI_319_65 : sx_IL := [(799, .aload_n 0, 1), (800, .bipush 24, 2), (802, .newarray .int, 2), (804, .putfield 306, 3), (807, .aload_n 0, 1), (808, .bipush 24, 2)]
theorem aJ_319_65 : sx_iB prog_14_method_1_code aI_319_65 = true := by decide +kernel
def aI_319_66 : sx_IL := [(810, .newarray .boolean, 2), (812, .putfield 309, 3), (815, .aload_n 0, 1), (816, .bipush 24, 2), (818, .newarray .boolean, 2), (820, .putfield 312, 3)]
theorem aJ_319_66 : sx_iB prog_14_method_1_code aI_319_66 = true := by decide +kernel
def aI_319_67 : sx_IL := [(823, .aload_n 0, 1), (824, .bipush 24, 2), (826, .newarray .long, 2), (828, .putfield 315, 3), (831, .aload_n 0, 1), (832, .bipush 24, 2)]
theorem aJ_319_67 : sx_iB prog_14_method_1_code aI_319_67 = true := by decide +kernel
def aI_319_68 : sx_IL := [(834, .newarray .long, 2), (836, .putfield 318, 3), (839, .aload_n 0, 1), (840, .bipush 24, 2), (842, .newarray .int, 2), (844, .putfield 321, 3)]
theorem aJ_319_68 : sx_iB prog_14_method_1_code aI_319_68 = true := by decide +kernel
def aI_319_69 : sx_IL := [(847, .aload_n 0, 1), (848, .bipush 24, 2), (850, .newarray .int, 2), (852, .putfield 324, 3), (855, .aload_n 0, 1), (856, .bipush 24, 2)]
theorem aJ_319_69 : sx_iB prog_14_method_1_code aI_319_69 = true := by decide +kernel
def aI_319_70 : sx_IL := [(858, .newarray .int, 2), (860, .putfield 327, 3), (863, .aload_n 0, 1), (864, .bipush 24, 2), (866, .newarray .int, 2), (868, .putfield 330, 3)]
theorem aJ_319_70 : sx_iB prog_14_method_1_code aI_319_70 = true := by decide +kernel
def aI_319_71 : sx_IL := [(871, .aload_n 0, 1), (872, .bipush 24, 2), (874, .newarray .int, 2), (876, .putfield 333, 3), (879, .aload_n 0, 1), (880, .bipush 24, 2)]
theorem aJ_319_71 : sx_iB prog_14_method_1_code aI_319_71 = true := by decide +kernel
def aI_319_72 : sx_IL := [(882, .newarray .int, 2), (884, .putfield 336, 3), (887, .aload_n 0, 1), (888, .bipush 24, 2), (890, .newarray .int, 2), (892, .putfield 339, 3)]
theorem aJ_319_72 : sx_iB prog_14_method_1_code aI_319_72 = true := by decide +kernel
def aI_319_73 : sx_IL := [(895, .aload_n 0, 1), (896, .bipush 24, 2), (898, .newarray .boolean, 2), (900, .putfield 342, 3), (903, .aload_n 0, 1), (904, .bipush 24, 2)]
theorem aJ_319_73 : sx_iB prog_14_method_1_code aI_319_73 = true := by decide +kernel
def aI_319_74 : sx_IL := [(906, .newarray .int, 2), (908, .putfield 345, 3), (911, .aload_n 0, 1), (912, .bipush 24, 2), (914, .newarray .int, 2), (916, .putfield 348, 3)]
theorem aJ_319_74 : sx_iB prog_14_method_1_code aI_319_74 = true := by decide +kernel
def aI_319_75 : sx_IL := [(919, .aload_n 0, 1), (920, .bipush 24, 2), (922, .newarray .int, 2), (924, .putfield 351, 3), (927, .aload_n 0, 1), (928, .bipush 24, 2)]
theorem aJ_319_75 : sx_iB prog_14_method_1_code aI_319_75 = true := by decide +kernel
def aI_319_76 : sx_IL := [(930, .newarray .boolean, 2), (932, .putfield 354, 3), (935, .aload_n 0, 1), (936, .bipush 24, 2), (938, .newarray .long, 2), (940, .putfield 357, 3)]
theorem aJ_319_76 : sx_iB prog_14_method_1_code aI_319_76 = true := by decide +kernel
def aI_319_77 : sx_IL := [(943, .aload_n 0, 1), (944, .bipush 24, 2), (946, .newarray .long, 2), (948, .putfield 360, 3), (951, .aload_n 0, 1), (952, .bipush 24, 2)]
theorem aJ_319_77 : sx_iB prog_14_method_1_code aI_319_77 = true := by decide +kernel
def aI_319_78 : sx_IL := [(954, .newarray .long, 2), (956, .putfield 363, 3), (959, .aload_n 0, 1), (960, .bipush 24, 2), (962, .newarray .long, 2), (964, .putfield 366, 3)]
theorem aJ_319_78 : sx_iB prog_14_method_1_code aI_319_78 = true := by decide +kernel
def aI_319_79 : sx_IL := [(967, .aload_n 0, 1), (968, .bipush 24, 2), (970, .newarray .long, 2), (972, .putfield 369, 3), (975, .aload_n 0, 1), (976, .bipush 24, 2)]
theorem aJ_319_79 : sx_iB prog_14_method_1_code aI_319_79 = true := by decide +kernel
def aI_319_80 : sx_IL := [(978, .newarray .long, 2), (980, .putfield 372, 3), (983, .aload_n 0, 1), (984, .bipush 24, 2), (986, .newarray .long, 2), (988, .putfield 375, 3)]
theorem aJ_319_80 : sx_iB prog_14_method_1_code aI_319_80 = true := by decide +kernel
def aI_319_81 : sx_IL := [(991, .aload_n 0, 1), (992, .bipush 24, 2), (994, .newarray .long, 2), (996, .putfield 378, 3), (999, .aload_n 0, 1), (1000, .bipush 24, 2)]
theorem aJ_319_81 : sx_iB prog_14_method_1_code aI_319_81 = true := by decide +kernel
def aI_319_82 : sx_IL := [(1002, .newarray .int, 2), (1004, .putfield 381, 3), (1007, .aload_n 0, 1), (1008, .bipush 24, 2), (1010, .newarray .int, 2), (1012, .putfield 384, 3)]
theorem aJ_319_82 : sx_iB prog_14_method_1_code aI_319_82 = true := by decide +kernel
def aI_319_83 : sx_IL := [(1015, .aload_n 0, 1), (1016, .bipush 48, 2), (1018, .newarray .int, 2), (1020, .putfield 387, 3), (1023, .aload_n 0, 1), (1024, .bipush 48, 2)]
theorem aJ_319_83 : sx_iB prog_14_method_1_code aI_319_83 = true := by decide +kernel
def aI_319_84 : sx_IL := [(1026, .newarray .int, 2), (1028, .putfield 390, 3), (1031, .aload_n 0, 1), (1032, .bipush 48, 2), (1034, .newarray .int, 2), (1036, .putfield 393, 3)]
theorem aJ_319_84 : sx_iB prog_14_method_1_code aI_319_84 = true := by decide +kernel
def aI_319_85 : sx_IL := [(1039, .aload_n 0, 1), (1040, .bipush 48, 2), (1042, .newarray .int, 2), (1044, .putfield 396, 3), (1047, .aload_n 0, 1), (1048, .bipush 48, 2)]
theorem aJ_319_85 : sx_iB prog_14_method_1_code aI_319_85 = true := by decide +kernel
def aI_319_86 : sx_IL := [(1050, .newarray .int, 2), (1052, .putfield 399, 3), (1055, .aload_n 0, 1), (1056, .bipush 48, 2), (1058, .newarray .int, 2), (1060, .putfield 402, 3)]
theorem aJ_319_86 : sx_iB prog_14_method_1_code aI_319_86 = true := by decide +kernel
def aI_319_87 : sx_IL := [(1063, .aload_n 0, 1), (1064, .bipush 48, 2), (1066, .newarray .long, 2), (1068, .putfield 405, 3), (1071, .aload_n 0, 1), (1072, .bipush 12, 2)]
theorem aJ_319_87 : sx_iB prog_14_method_1_code aI_319_87 = true := by decide +kernel
def aI_319_88 : sx_IL := [(1074, .newarray .long, 2), (1076, .putfield 408, 3), (1079, .aload_n 0, 1), (1080, .bipush 12, 2), (1082, .newarray .int, 2), (1084, .putfield 411, 3)]
theorem aJ_319_88 : sx_iB prog_14_method_1_code aI_319_88 = true := by decide +kernel
def aI_319_89 : sx_IL := [(1087, .aload_n 0, 1), (1088, .bipush 12, 2), (1090, .newarray .int, 2), (1092, .putfield 414, 3), (1095, .aload_n 0, 1), (1096, .bipush 12, 2)]
theorem aJ_319_89 : sx_iB prog_14_method_1_code aI_319_89 = true := by decide +kernel
def aI_319_90 : sx_IL := [(1098, .newarray .int, 2), (1100, .putfield 417, 3), (1103, .aload_n 0, 1), (1104, .bipush 12, 2), (1106, .newarray .int, 2), (1108, .putfield 420, 3)]
theorem aJ_319_90 : sx_iB prog_14_method_1_code aI_319_90 = true := by decide +kernel
def aI_319_91 : sx_IL := [(1111, .aload_n 0, 1), (1112, .sipush 1152, 3), (1115, .newarray .int, 2), (1117, .putfield 423, 3), (1120, .aload_n 0, 1), (1121, .bipush 72, 2)]
theorem aJ_319_91 : sx_iB prog_14_method_1_code aI_319_91 = true := by decide +kernel
def aI_319_92 : sx_IL := [(1123, .newarray .int, 2), (1125, .putfield 426, 3), (1128, .aload_n 0, 1), (1129, .bipush 72, 2), (1131, .newarray .long, 2), (1133, .putfield 429, 3)]
theorem aJ_319_92 : sx_iB prog_14_method_1_code aI_319_92 = true := by decide +kernel
def aI_319_93 : sx_IL := [(1136, .aload_n 0, 1), (1137, .bipush 72, 2), (1139, .newarray .int, 2), (1141, .putfield 432, 3), (1144, .aload_n 0, 1), (1145, .bipush 72, 2)]
theorem aJ_319_93 : sx_iB prog_14_method_1_code aI_319_93 = true := by decide +kernel
def aI_319_94 : sx_IL := [(1147, .newarray .boolean, 2), (1149, .putfield 435, 3), (1152, .aload_n 0, 1), (1153, .bipush 72, 2), (1155, .newarray .int, 2), (1157, .putfield 438, 3)]
theorem aJ_319_94 : sx_iB prog_14_method_1_code aI_319_94 = true := by decide +kernel
def aI_319_95 : sx_IL := [(1160, .aload_n 0, 1), (1161, .bipush 12, 2), (1163, .newarray .boolean, 2), (1165, .putfield 441, 3), (1168, .aload_n 0, 1), (1169, .bipush 12, 2)]
theorem aJ_319_95 : sx_iB prog_14_method_1_code aI_319_95 = true := by decide +kernel
def aI_319_96 : sx_IL := [(1171, .newarray .boolean, 2), (1173, .putfield 444, 3), (1176, .aload_n 0, 1), (1177, .bipush 12, 2), (1179, .newarray .long, 2), (1181, .putfield 447, 3)]
theorem aJ_319_96 : sx_iB prog_14_method_1_code aI_319_96 = true := by decide +kernel
def aI_319_97 : sx_IL := [(1184, .aload_n 0, 1), (1185, .bipush 12, 2), (1187, .newarray .boolean, 2), (1189, .putfield 450, 3), (1192, .aload_n 0, 1), (1193, .bipush 12, 2)]
theorem aJ_319_97 : sx_iB prog_14_method_1_code aI_319_97 = true := by decide +kernel
def aI_319_98 : sx_IL := [(1195, .newarray .int, 2), (1197, .putfield 453, 3), (1200, .aload_n 0, 1), (1201, .bipush 24, 2), (1203, .newarray .int, 2), (1205, .putfield 456, 3)]
theorem aJ_319_98 : sx_iB prog_14_method_1_code aI_319_98 = true := by decide +kernel
def aI_319_99 : sx_IL := [(1208, .aload_n 0, 1), (1209, .bipush 24, 2), (1211, .newarray .int, 2), (1213, .putfield 459, 3), (1216, .aload_n 0, 1), (1217, .sipush 30000, 3)]
theorem aJ_319_99 : sx_iB prog_14_method_1_code aI_319_99 = true := by decide +kernel
def aI_319_100 : sx_IL := [(1220, .newarray .int, 2), (1222, .putfield 462, 3), (1225, .aload_n 0, 1), (1226, .bipush 12, 2), (1228, .newarray .int, 2), (1230, .putfield 465, 3)]
theorem aJ_319_100 : sx_iB prog_14_method_1_code aI_319_100 = true := by decide +kernel
def aI_319_101 : sx_IL := [(1233, .aload_n 0, 1), (1234, .bipush 12, 2), (1236, .newarray .long, 2), (1238, .putfield 468, 3), (1241, .aload_n 0, 1), (1242, .bipush 12, 2)]
theorem aJ_319_101 : sx_iB prog_14_method_1_code aI_319_101 = true := by decide +kernel
def aI_319_102 : sx_IL := [(1244, .newarray .long, 2), (1246, .putfield 471, 3), (1249, .aload_n 0, 1), (1250, .bipush 12, 2), (1252, .newarray .int, 2), (1254, .putfield 474, 3)]
theorem aJ_319_102 : sx_iB prog_14_method_1_code aI_319_102 = true := by decide +kernel
def aI_319_103 : sx_IL := [(1257, .aload_n 0, 1), (1258, .bipush 12, 2), (1260, .newarray .int, 2), (1262, .putfield 477, 3), (1265, .aload_n 0, 1), (1266, .sipush 320, 3)]
theorem aJ_319_103 : sx_iB prog_14_method_1_code aI_319_103 = true := by decide +kernel
def aI_319_104 : sx_IL := [(1269, .newarray .int, 2), (1271, .putfield 480, 3), (1274, .aload_n 0, 1), (1275, .sipush 2700, 3), (1278, .newarray .int, 2), (1280, .putfield 483, 3)]
theorem aJ_319_104 : sx_iB prog_14_method_1_code aI_319_104 = true := by decide +kernel
def aI_319_105 : sx_IL := [(1283, .aload_n 0, 1), (1284, .iconst 1, 1), (1285, .newarray .int, 2), (1287, .putfield 486, 3), (1290, .aload_n 0, 1), (1291, .bipush 11, 2)]
theorem aJ_319_105 : sx_iB prog_14_method_1_code aI_319_105 = true := by decide +kernel
def aI_319_106 : sx_IL := [(1293, .newarray .int, 2), (1295, .putfield 489, 3), (1298, .aload_n 0, 1), (1299, .bipush 11, 2), (1301, .newarray .int, 2), (1303, .putfield 492, 3)]
theorem aJ_319_106 : sx_iB prog_14_method_1_code aI_319_106 = true := by decide +kernel
def aI_319_107 : sx_IL := [(1306, .aload_n 0, 1), (1307, .bipush 9, 2), (1309, .newarray .int, 2), (1311, .putfield 495, 3), (1314, .aload_n 0, 1), (1315, .iconst 4, 1)]
theorem aJ_319_107 : sx_iB prog_14_method_1_code aI_319_107 = true := by decide +kernel
def aI_319_108 : sx_IL := [(1316, .newarray .int, 2), (1318, .putfield 498, 3), (1321, .aload_n 0, 1), (1322, .iconst 4, 1), (1323, .newarray .int, 2), (1325, .putfield 501, 3)]
theorem aJ_319_108 : sx_iB prog_14_method_1_code aI_319_108 = true := by decide +kernel
def aI_319_109 : sx_IL := [(1328, .aload_n 0, 1), (1329, .sipush 8000, 3), (1332, .newarray .int, 2), (1334, .putfield 504, 3), (1337, .aload_n 0, 1), (1338, .iconst 0, 1)]
theorem aJ_319_109 : sx_iB prog_14_method_1_code aI_319_109 = true := by decide +kernel
def aI_319_110 : sx_IL := [(1339, .putfield 507, 3), (1342, .return_, 1)]
theorem aJ_319_110 : sx_iB prog_14_method_1_code aI_319_110 = true := by decide +kernel
def aI_320_0 : sx_IL := [(0, .iload_n 1, 1), (1, .i2l, 1), (2, .lconst 1, 1), (3, .ldc2_w 511, 3), (6, .invokestatic 513, 3), (9, .ifCond .ne 5, 3)]
theorem aJ_320_0 : sx_iB prog_14_method_3_code aI_320_0 = true := by decide +kernel
def aI_320_1 : sx_IL := [(12, .iconst (-1), 1), (13, .ireturn, 1), (14, .aload_n 0, 1), (15, .getfield 517, 3), (18, .iload_n 1, 1), (19, .iadd, 1)]
theorem aJ_320_1 : sx_iB prog_14_method_3_code aI_320_1 = true := by decide +kernel
def aI_320_2 : sx_IL := [(20, .sipush 800, 3), (23, .if_icmp .le 6, 3), (26, .bipush (-3), 2), (28, .ireturn, 1), (29, .iload_n 1, 1), (30, .iconst 1, 1)]
theorem aJ_320_2 : sx_iB prog_14_method_3_code aI_320_2 = true := by decide +kernel
def aI_320_3 : sx_IL := [(31, .isub, 1), (32, .istore 4, 2), (34, .iload 4, 2), (36, .ifCond .lt 40, 3), (39, .aload_n 0, 1), (40, .getfield 7, 3)]
theorem aJ_320_3 : sx_iB prog_14_method_3_code aI_320_3 = true := by decide +kernel
def aI_320_4 : sx_IL := [(43, .aload_n 0, 1), (44, .getfield 517, 3), (47, .lload_n 2, 1), (48, .bipush 8, 2), (50, .iload 4, 2), (52, .imul, 1)]
theorem aJ_320_4 : sx_iB prog_14_method_3_code aI_320_4 = true := by decide +kernel
def aI_320_5 : sx_IL := [(53, .lushr, 1), (54, .l2i, 1), (55, .sipush 255, 3), (58, .iand, 1), (59, .iastore, 1), (60, .aload_n 0, 1)]
theorem aJ_320_5 : sx_iB prog_14_method_3_code aI_320_5 = true := by decide +kernel
def aI_320_6 : sx_IL := [(61, .dup, 1), (62, .getfield 517, 3), (65, .iconst 1, 1), (66, .iadd, 1), (67, .putfield 517, 3), (70, .iinc 4 (-1), 3)]
theorem aJ_320_6 : sx_iB prog_14_method_3_code aI_320_6 = true := by decide +kernel
def aI_320_7 : sx_IL := [(73, .goto (-39), 3), (76, .aload_n 0, 1), (77, .getfield 517, 3), (80, .ireturn, 1)]
theorem aJ_320_7 : sx_iB prog_14_method_3_code aI_320_7 = true := by decide +kernel
def aI_321_0 : sx_IL := [(0, .lload_n 0, 1), (1, .lload_n 2, 1), (2, .lcmp, 1), (3, .ifCond .lt 14, 3), (6, .lload_n 0, 1), (7, .lload 4, 2)]
theorem aJ_321_0 : sx_iB prog_14_method_2_code aI_321_0 = true := by decide +kernel
def aI_321_1 : sx_IL := [(9, .lcmp, 1), (10, .ifCond .gt 7, 3), (13, .iconst 1, 1), (14, .goto 4, 3), (17, .iconst 0, 1), (18, .ireturn, 1)]
theorem aJ_321_1 : sx_iB prog_14_method_2_code aI_321_1 = true := by decide +kernel
def aI_322_0 : sx_IL := [(0, .iload_n 1, 1), (1, .i2l, 1), (2, .lconst 0, 1), (3, .aload_n 0, 1), (4, .getfield 517, 3), (7, .i2l, 1)]
theorem aJ_322_0 : sx_iB prog_14_method_4_code aI_322_0 = true := by decide +kernel
def aI_322_1 : sx_IL := [(8, .invokestatic 513, 3), (11, .ifCond .ne 5, 3), (14, .iconst (-1), 1), (15, .ireturn, 1), (16, .aload_n 0, 1), (17, .getfield 517, 3)]
theorem aJ_322_1 : sx_iB prog_14_method_4_code aI_322_1 = true := by decide +kernel
def aI_322_2 : sx_IL := [(20, .iload_n 1, 1), (21, .isub, 1), (22, .istore_n 2, 1), (23, .aload_n 0, 1), (24, .iload_n 1, 1), (25, .putfield 517, 3)]
theorem aJ_322_2 : sx_iB prog_14_method_4_code aI_322_2 = true := by decide +kernel
def aI_322_3 : sx_IL := [(28, .iload_n 2, 1), (29, .ireturn, 1)]
theorem aJ_322_3 : sx_iB prog_14_method_4_code aI_322_3 = true := by decide +kernel
def aI_323_0 : sx_IL := [(0, .iload_n 1, 1), (1, .iconst (-1), 1), (2, .if_icmp .ne 10, 3), (5, .aload_n 0, 1), (6, .getfield 520, 3), (9, .goto 29, 3)]
theorem aJ_323_0 : sx_iB prog_14_method_5_code aI_323_0 = true := by decide +kernel
def aI_323_1 : sx_IL := [(12, .iload_n 1, 1), (13, .i2l, 1), (14, .lconst 0, 1), (15, .aload_n 0, 1), (16, .getfield 520, 3), (19, .iconst 1, 1)]
theorem aJ_323_1 : sx_iB prog_14_method_5_code aI_323_1 = true := by decide +kernel
def aI_323_2 : sx_IL := [(20, .isub, 1), (21, .i2l, 1), (22, .invokestatic 513, 3), (25, .ifCond .eq 12, 3), (28, .aload_n 0, 1), (29, .getfield 13, 3)]
theorem aJ_323_2 : sx_iB prog_14_method_5_code aI_323_2 = true := by decide +kernel
def aI_323_3 : sx_IL := [(32, .iload_n 1, 1), (33, .iaload, 1), (34, .goto 4, 3), (37, .iconst (-1), 1), (38, .ireturn, 1)]
theorem aJ_323_3 : sx_iB prog_14_method_5_code aI_323_3 = true := by decide +kernel
def aI_324_0 : sx_IL := [(0, .aload_n 0, 1), (1, .getfield 517, 3), (4, .aload_n 0, 1), (5, .getfield 520, 3), (8, .iadd, 1), (9, .sipush 800, 3)]
theorem aJ_324_0 : sx_iB prog_14_method_6_code aI_324_0 = true := by decide +kernel
def aI_324_1 : sx_IL := [(12, .if_icmp .le 6, 3), (15, .bipush (-3), 2), (17, .ireturn, 1), (18, .iconst 0, 1), (19, .istore_n 1, 1), (20, .iload_n 1, 1)]
theorem aJ_324_1 : sx_iB prog_14_method_6_code aI_324_1 = true := by decide +kernel
def aI_324_2 : sx_IL := [(21, .aload_n 0, 1), (22, .getfield 520, 3), (25, .if_icmp .ge 26, 3), (28, .aload_n 0, 1), (29, .getfield 7, 3), (32, .aload_n 0, 1)]
theorem aJ_324_2 : sx_iB prog_14_method_6_code aI_324_2 = true := by decide +kernel
def aI_324_3 : sx_IL := [(33, .getfield 517, 3), (36, .iload_n 1, 1), (37, .iadd, 1), (38, .aload_n 0, 1), (39, .getfield 13, 3), (42, .iload_n 1, 1)]
theorem aJ_324_3 : sx_iB prog_14_method_6_code aI_324_3 = true := by decide +kernel
def aI_324_4 : sx_IL := [(43, .iaload, 1), (44, .iastore, 1), (45, .iinc 1 1, 3), (48, .goto (-28), 3), (51, .aload_n 0, 1), (52, .dup, 1)]
theorem aJ_324_4 : sx_iB prog_14_method_6_code aI_324_4 = true := by decide +kernel
def aI_324_5 : sx_IL := [(53, .getfield 517, 3), (56, .aload_n 0, 1), (57, .getfield 520, 3), (60, .iadd, 1), (61, .putfield 517, 3), (64, .aload_n 0, 1)]
theorem aJ_324_5 : sx_iB prog_14_method_6_code aI_324_5 = true := by decide +kernel
def aI_324_6 : sx_IL := [(65, .getfield 517, 3), (68, .ireturn, 1)]
theorem aJ_324_6 : sx_iB prog_14_method_6_code aI_324_6 = true := by decide +kernel
def aI_325_0 : sx_IL := [(0, .iload_n 1, 1), (1, .i2l, 1), (2, .lconst 0, 1), (3, .ldc2_w 523, 3), (6, .invokestatic 513, 3), (9, .ifCond .ne 5, 3)]
theorem aJ_325_0 : sx_iB prog_14_method_7_code aI_325_0 = true := by decide +kernel
def aI_325_1 : sx_IL := [(12, .iconst (-1), 1), (13, .ireturn, 1), (14, .aload_n 0, 1), (15, .getfield 507, 3), (18, .iload_n 1, 1), (19, .iadd, 1)]
theorem aJ_325_1 : sx_iB prog_14_method_7_code aI_325_1 = true := by decide +kernel
def aI_325_2 : sx_IL := [(20, .ldc_w 525, 3), (23, .if_icmp .le 6, 3), (26, .bipush (-2), 2), (28, .ireturn, 1), (29, .aload_n 0, 1), (30, .dup, 1)]
theorem aJ_325_2 : sx_iB prog_14_method_7_code aI_325_2 = true := by decide +kernel
def aI_325_3 : sx_IL := [(31, .getfield 507, 3), (34, .iload_n 1, 1), (35, .iadd, 1), (36, .putfield 507, 3), (39, .aload_n 0, 1), (40, .getfield 507, 3)]
theorem aJ_325_3 : sx_iB prog_14_method_7_code aI_325_3 = true := by decide +kernel
def aI_325_4 : sx_IL := [(43, .ireturn, 1)]
theorem aJ_325_4 : sx_iB prog_14_method_7_code aI_325_4 = true := by decide +kernel
def aI_326_0 : sx_IL := [(0, .iload_n 1, 1), (1, .i2l, 1), (2, .lconst 0, 1), (3, .lconst 1, 1), (4, .invokestatic 513, 3), (7, .ifCond .ne 7, 3)]
theorem aJ_326_0 : sx_iB prog_14_method_22_code aI_326_0 = true := by decide +kernel
def aI_326_1 : sx_IL := [(10, .ldc2_w 590, 3), (13, .lreturn, 1), (14, .aload_n 0, 1), (15, .iload_n 1, 1), (16, .aload_n 0, 1), (17, .getfield 7, 3)]
theorem aJ_326_1 : sx_iB prog_14_method_22_code aI_326_1 = true := by decide +kernel
def aI_326_2 : sx_IL := [(20, .iconst 0, 1), (21, .aload_n 0, 1), (22, .getfield 517, 3), (25, .invokevirtual 592, 3), (28, .lstore_n 2, 1), (29, .aload_n 0, 1)]
theorem aJ_326_2 : sx_iB prog_14_method_22_code aI_326_2 = true := by decide +kernel
def aI_326_3 : sx_IL := [(30, .iconst 0, 1), (31, .putfield 517, 3), (34, .lload_n 2, 1), (35, .lreturn, 1)]
theorem aJ_326_3 : sx_iB prog_14_method_22_code aI_326_3 = true := by decide +kernel
def aI_327_0 : sx_IL := [(0, .aload_n 0, 1), (1, .iload_n 1, 1), (2, .invokevirtual 568, 3), (5, .aload_n 0, 1), (6, .aload_n 2, 1), (7, .iload_n 3, 1)]
theorem aJ_327_0 : sx_iB prog_14_method_21_code aI_327_0 = true := by decide +kernel
def aI_327_1 : sx_IL := [(8, .iload 4, 2), (10, .invokevirtual 586, 3), (13, .aload_n 0, 1), (14, .invokevirtual 571, 3), (17, .lreturn, 1)]
theorem aJ_327_1 : sx_iB prog_14_method_21_code aI_327_1 = true := by decide +kernel
def aI_328_0 : sx_IL := [(0, .aload_n 0, 1), (1, .iconst 1, 1), (2, .iload_n 1, 1), (3, .iadd, 1), (4, .putfield 526, 3), (7, .aload_n 0, 1)]
theorem aJ_328_0 : sx_iB prog_14_method_11_code aI_328_0 = true := by decide +kernel
def aI_328_1 : sx_IL := [(8, .iconst 2, 1), (9, .iload_n 1, 1), (10, .iadd, 1), (11, .putfield 529, 3), (14, .aload_n 0, 1), (15, .iconst 3, 1)]
theorem aJ_328_1 : sx_iB prog_14_method_11_code aI_328_1 = true := by decide +kernel
def aI_328_2 : sx_IL := [(16, .iload_n 1, 1), (17, .iadd, 1), (18, .putfield 539, 3), (21, .aload_n 0, 1), (22, .iconst 4, 1), (23, .iload_n 1, 1)]
theorem aJ_328_2 : sx_iB prog_14_method_11_code aI_328_2 = true := by decide +kernel
def aI_328_3 : sx_IL := [(24, .iadd, 1), (25, .putfield 532, 3), (28, .aload_n 0, 1), (29, .iconst 0, 1), (30, .putfield 544, 3), (33, .aload_n 0, 1)]
theorem aJ_328_3 : sx_iB prog_14_method_11_code aI_328_3 = true := by decide +kernel
def aI_328_4 : sx_IL := [(34, .lconst 0, 1), (35, .putfield 547, 3), (38, .aload_n 0, 1), (39, .iconst 0, 1), (40, .putfield 551, 3), (43, .return_, 1)]
theorem aJ_328_4 : sx_iB prog_14_method_11_code aI_328_4 = true := by decide +kernel
def aI_329_0 : sx_IL := [(0, .iconst 0, 1), (1, .istore 4, 2), (3, .iload 4, 2), (5, .iload_n 3, 1), (6, .if_icmp .ge 19, 3), (9, .aload_n 0, 1)]
theorem aJ_329_0 : sx_iB prog_14_method_14_code aI_329_0 = true := by decide +kernel
def aI_329_1 : sx_IL := [(10, .aload_n 1, 1), (11, .iload_n 2, 1), (12, .iload 4, 2), (14, .iadd, 1), (15, .iaload, 1), (16, .invokevirtual 561, 3)]
theorem aJ_329_1 : sx_iB prog_14_method_14_code aI_329_1 = true := by decide +kernel
def aI_329_2 : sx_IL := [(19, .iinc 4 1, 3), (22, .goto (-19), 3), (25, .return_, 1)]
theorem aJ_329_2 : sx_iB prog_14_method_14_code aI_329_2 = true := by decide +kernel
def aI_330_0 : sx_IL := [(0, .aload_n 0, 1), (1, .iload_n 1, 1), (2, .invokevirtual 554, 3), (5, .aload_n 0, 1), (6, .dup, 1), (7, .getfield 551, 3)]
theorem aJ_330_0 : sx_iB prog_14_method_12_code aI_330_0 = true := by decide +kernel
def aI_330_1 : sx_IL := [(10, .iconst 1, 1), (11, .iadd, 1), (12, .putfield 551, 3), (15, .return_, 1)]
theorem aJ_330_1 : sx_iB prog_14_method_12_code aI_330_1 = true := by decide +kernel
def aI_331_0 : sx_IL := [(0, .aload_n 0, 1), (1, .aload_n 0, 1), (2, .getfield 547, 3), (5, .bipush 8, 2), (7, .lshl, 1), (8, .iload_n 1, 1)]
theorem aJ_331_0 : sx_iB prog_14_method_13_code aI_331_0 = true := by decide +kernel
def aI_331_1 : sx_IL := [(9, .i2l, 1), (10, .lor, 1), (11, .putfield 547, 3), (14, .aload_n 0, 1), (15, .dup, 1), (16, .getfield 544, 3)]
theorem aJ_331_1 : sx_iB prog_14_method_13_code aI_331_1 = true := by decide +kernel
def aI_331_2 : sx_IL := [(19, .iconst 1, 1), (20, .iadd, 1), (21, .putfield 544, 3), (24, .aload_n 0, 1), (25, .getfield 544, 3), (28, .bipush 8, 2)]
theorem aJ_331_2 : sx_iB prog_14_method_13_code aI_331_2 = true := by decide +kernel
def aI_331_3 : sx_IL := [(30, .if_icmp .ne 48, 3), (33, .aload_n 0, 1), (34, .dup, 1), (35, .getfield 526, 3), (38, .aload_n 0, 1), (39, .getfield 547, 3)]
theorem aJ_331_3 : sx_iB prog_14_method_13_code aI_331_3 = true := by decide +kernel
def aI_331_4 : sx_IL := [(42, .bipush 32, 2), (44, .lushr, 1), (45, .l2i, 1), (46, .ixor, 1), (47, .putfield 526, 3), (50, .aload_n 0, 1)]
theorem aJ_331_4 : sx_iB prog_14_method_13_code aI_331_4 = true := by decide +kernel
def aI_331_5 : sx_IL := [(51, .dup, 1), (52, .getfield 529, 3), (55, .aload_n 0, 1), (56, .getfield 547, 3), (59, .l2i, 1), (60, .ixor, 1)]
theorem aJ_331_5 : sx_iB prog_14_method_13_code aI_331_5 = true := by decide +kernel
def aI_331_6 : sx_IL := [(61, .putfield 529, 3), (64, .aload_n 0, 1), (65, .invokevirtual 558, 3), (68, .aload_n 0, 1), (69, .iconst 0, 1), (70, .putfield 544, 3)]
theorem aJ_331_6 : sx_iB prog_14_method_13_code aI_331_6 = true := by decide +kernel
def aI_331_7 : sx_IL := [(73, .aload_n 0, 1), (74, .lconst 0, 1), (75, .putfield 547, 3), (78, .return_, 1)]
theorem aJ_331_7 : sx_iB prog_14_method_13_code aI_331_7 = true := by decide +kernel
def aI_332_0 : sx_IL := [(0, .iconst 1, 1), (1, .istore_n 1, 1), (2, .iload_n 1, 1), (3, .bipush 8, 2), (5, .if_icmp .gt 143, 3), (8, .aload_n 0, 1)]
theorem aJ_332_0 : sx_iB prog_14_method_9_code aI_332_0 = true := by decide +kernel
def aI_332_1 : sx_IL := [(9, .dup, 1), (10, .getfield 526, 3), (13, .aload_n 0, 1), (14, .getfield 529, 3), (17, .iadd, 1), (18, .putfield 526, 3)]
theorem aJ_332_1 : sx_iB prog_14_method_9_code aI_332_1 = true := by decide +kernel
def aI_332_2 : sx_IL := [(21, .aload_n 0, 1), (22, .aload_n 0, 1), (23, .getfield 532, 3), (26, .aload_n 0, 1), (27, .getfield 526, 3), (30, .ixor, 1)]
theorem aJ_332_2 : sx_iB prog_14_method_9_code aI_332_2 = true := by decide +kernel
def aI_332_3 : sx_IL := [(31, .bipush 16, 2), (33, .invokestatic 535, 3), (36, .putfield 532, 3), (39, .aload_n 0, 1), (40, .dup, 1), (41, .getfield 539, 3)]
theorem aJ_332_3 : sx_iB prog_14_method_9_code aI_332_3 = true := by decide +kernel
def aI_332_4 : sx_IL := [(44, .aload_n 0, 1), (45, .getfield 532, 3), (48, .iadd, 1), (49, .putfield 539, 3), (52, .aload_n 0, 1), (53, .aload_n 0, 1)]
theorem aJ_332_4 : sx_iB prog_14_method_9_code aI_332_4 = true := by decide +kernel
def aI_332_5 : sx_IL := [(54, .getfield 529, 3), (57, .aload_n 0, 1), (58, .getfield 539, 3), (61, .ixor, 1), (62, .bipush 12, 2), (64, .invokestatic 535, 3)]
theorem aJ_332_5 : sx_iB prog_14_method_9_code aI_332_5 = true := by decide +kernel
def aI_332_6 : sx_IL := [(67, .putfield 529, 3), (70, .aload_n 0, 1), (71, .dup, 1), (72, .getfield 526, 3), (75, .aload_n 0, 1), (76, .getfield 529, 3)]
theorem aJ_332_6 : sx_iB prog_14_method_9_code aI_332_6 = true := by decide +kernel
def aI_332_7 : sx_IL := [(79, .iadd, 1), (80, .putfield 526, 3), (83, .aload_n 0, 1), (84, .aload_n 0, 1), (85, .getfield 532, 3), (88, .aload_n 0, 1)]
theorem aJ_332_7 : sx_iB prog_14_method_9_code aI_332_7 = true := by decide +kernel
def aI_332_8 : sx_IL := [(89, .getfield 526, 3), (92, .ixor, 1), (93, .bipush 8, 2), (95, .invokestatic 535, 3), (98, .putfield 532, 3), (101, .aload_n 0, 1)]
theorem aJ_332_8 : sx_iB prog_14_method_9_code aI_332_8 = true := by decide +kernel
def aI_332_9 : sx_IL := [(102, .dup, 1), (103, .getfield 539, 3), (106, .aload_n 0, 1), (107, .getfield 532, 3), (110, .iadd, 1), (111, .putfield 539, 3)]
theorem aJ_332_9 : sx_iB prog_14_method_9_code aI_332_9 = true := by decide +kernel
def aI_332_10 : sx_IL := [(114, .aload_n 0, 1), (115, .aload_n 0, 1), (116, .getfield 529, 3), (119, .aload_n 0, 1), (120, .getfield 539, 3), (123, .ixor, 1)]
theorem aJ_332_10 : sx_iB prog_14_method_9_code aI_332_10 = true := by decide +kernel
def aI_332_11 : sx_IL := [(124, .bipush 7, 2), (126, .invokestatic 535, 3), (129, .putfield 529, 3), (132, .aload_n 0, 1), (133, .dup, 1), (134, .getfield 526, 3)]
theorem aJ_332_11 : sx_iB prog_14_method_9_code aI_332_11 = true := by decide +kernel
def aI_332_12 : sx_IL := [(137, .iload_n 1, 1), (138, .ixor, 1), (139, .putfield 526, 3), (142, .iinc 1 1, 3), (145, .goto (-143), 3), (148, .return_, 1)]
theorem aJ_332_12 : sx_iB prog_14_method_9_code aI_332_12 = true := by decide +kernel
def aI_333_0 : sx_IL := [(0, .iload_n 0, 1), (1, .iload_n 1, 1), (2, .ishl, 1), (3, .iload_n 0, 1), (4, .bipush 32, 2), (6, .iload_n 1, 1)]
theorem aJ_333_0 : sx_iB prog_14_method_8_code aI_333_0 = true := by decide +kernel
def aI_333_1 : sx_IL := [(7, .isub, 1), (8, .iushr, 1), (9, .ior, 1), (10, .ireturn, 1)]
theorem aJ_333_1 : sx_iB prog_14_method_8_code aI_333_1 = true := by decide +kernel
def aI_334_0 : sx_IL := [(0, .aload_n 0, 1), (1, .sipush 128, 3), (4, .invokevirtual 554, 3), (7, .aload_n 0, 1), (8, .getfield 544, 3), (11, .ifCond .le 11, 3)]
theorem aJ_334_0 : sx_iB prog_14_method_17_code aI_334_0 = true := by decide +kernel
def aI_334_1 : sx_IL := [(14, .aload_n 0, 1), (15, .iconst 0, 1), (16, .invokevirtual 554, 3), (19, .goto (-12), 3), (22, .aload_n 0, 1), (23, .dup, 1)]
theorem aJ_334_1 : sx_iB prog_14_method_17_code aI_334_1 = true := by decide +kernel
def aI_334_2 : sx_IL := [(24, .getfield 539, 3), (27, .aload_n 0, 1), (28, .getfield 551, 3), (31, .ixor, 1), (32, .putfield 539, 3), (35, .aload_n 0, 1)]
theorem aJ_334_2 : sx_iB prog_14_method_17_code aI_334_2 = true := by decide +kernel
def aI_334_3 : sx_IL := [(36, .invokevirtual 558, 3), (39, .aload_n 0, 1), (40, .invokevirtual 564, 3), (43, .lreturn, 1)]
theorem aJ_334_3 : sx_iB prog_14_method_17_code aI_334_3 = true := by decide +kernel
def aI_335_0 : sx_IL := [(0, .aload_n 0, 1), (1, .getfield 526, 3), (4, .aload_n 0, 1), (5, .getfield 539, 3), (8, .ixor, 1), (9, .i2l, 1)]
theorem aJ_335_0 : sx_iB prog_14_method_10_code aI_335_0 = true := by decide +kernel
def aI_335_1 : sx_IL := [(10, .bipush 32, 2), (12, .lshl, 1), (13, .aload_n 0, 1), (14, .getfield 529, 3), (17, .aload_n 0, 1), (18, .getfield 532, 3)]
theorem aJ_335_1 : sx_iB prog_14_method_10_code aI_335_1 = true := by decide +kernel
def aI_335_2 : sx_IL := [(21, .ixor, 1), (22, .i2l, 1), (23, .ldc2_w 542, 3), (26, .land, 1), (27, .lor, 1), (28, .lreturn, 1)]
theorem aJ_335_2 : sx_iB prog_14_method_10_code aI_335_2 = true := by decide +kernel
def aI_336_0 : sx_IL := [(0, .iload_n 1, 1), (1, .i2l, 1), (2, .lconst 0, 1), (3, .lconst 1, 1), (4, .invokestatic 513, 3), (7, .ifCond .ne 7, 3)]
theorem aJ_336_0 : sx_iB prog_14_method_23_code aI_336_0 = true := by decide +kernel
def aI_336_1 : sx_IL := [(10, .ldc2_w 590, 3), (13, .lreturn, 1), (14, .aload_n 0, 1), (15, .iload_n 1, 1), (16, .lload_n 2, 1), (17, .invokevirtual 578, 3)]
theorem aJ_336_1 : sx_iB prog_14_method_23_code aI_336_1 = true := by decide +kernel
def aI_336_2 : sx_IL := [(20, .aload_n 0, 1), (21, .aload_n 0, 1), (22, .getfield 7, 3), (25, .iconst 0, 1), (26, .aload_n 0, 1), (27, .getfield 517, 3)]
theorem aJ_336_2 : sx_iB prog_14_method_23_code aI_336_2 = true := by decide +kernel
def aI_336_3 : sx_IL := [(30, .invokevirtual 586, 3), (33, .aload_n 0, 1), (34, .iconst 0, 1), (35, .putfield 517, 3), (38, .aload_n 0, 1), (39, .iload_n 1, 1)]
theorem aJ_336_3 : sx_iB prog_14_method_23_code aI_336_3 = true := by decide +kernel
def aI_336_4 : sx_IL := [(40, .lload_n 2, 1), (41, .invokevirtual 582, 3), (44, .lreturn, 1)]
theorem aJ_336_4 : sx_iB prog_14_method_23_code aI_336_4 = true := by decide +kernel
def aI_337_0 : sx_IL := [(0, .aload_n 0, 1), (1, .iload_n 1, 1), (2, .invokevirtual 568, 3), (5, .bipush 7, 2), (7, .istore 4, 2), (9, .iload 4, 2)]
theorem aJ_337_0 : sx_iB prog_14_method_18_code aI_337_0 = true := by decide +kernel
def aI_337_1 : sx_IL := [(11, .ifCond .lt 28, 3), (14, .aload_n 0, 1), (15, .lload_n 2, 1), (16, .bipush 8, 2), (18, .iload 4, 2), (20, .imul, 1)]
theorem aJ_337_1 : sx_iB prog_14_method_18_code aI_337_1 = true := by decide +kernel
def aI_337_2 : sx_IL := [(21, .lushr, 1), (22, .l2i, 1), (23, .sipush 255, 3), (26, .iand, 1), (27, .bipush 54, 2), (29, .ixor, 1)]
theorem aJ_337_2 : sx_iB prog_14_method_18_code aI_337_2 = true := by decide +kernel
def aI_337_3 : sx_IL := [(30, .invokevirtual 561, 3), (33, .iinc 4 (-1), 3), (36, .goto (-27), 3), (39, .return_, 1)]
theorem aJ_337_3 : sx_iB prog_14_method_18_code aI_337_3 = true := by decide +kernel
def aI_338_0 : sx_IL := [(0, .aload_n 0, 1), (1, .invokevirtual 571, 3), (4, .lstore 4, 2), (6, .aload_n 0, 1), (7, .iload_n 1, 1), (8, .invokevirtual 568, 3)]
theorem aJ_338_0 : sx_iB prog_14_method_19_code aI_338_0 = true := by decide +kernel
def aI_338_1 : sx_IL := [(11, .bipush 7, 2), (13, .istore 6, 2), (15, .iload 6, 2), (17, .ifCond .lt 28, 3), (20, .aload_n 0, 1), (21, .lload_n 2, 1)]
theorem aJ_338_1 : sx_iB prog_14_method_19_code aI_338_1 = true := by decide +kernel
def aI_338_2 : sx_IL := [(22, .bipush 8, 2), (24, .iload 6, 2), (26, .imul, 1), (27, .lushr, 1), (28, .l2i, 1), (29, .sipush 255, 3)]
theorem aJ_338_2 : sx_iB prog_14_method_19_code aI_338_2 = true := by decide +kernel
def aI_338_3 : sx_IL := [(32, .iand, 1), (33, .bipush 92, 2), (35, .ixor, 1), (36, .invokevirtual 561, 3), (39, .iinc 6 (-1), 3), (42, .goto (-27), 3)]
theorem aJ_338_3 : sx_iB prog_14_method_19_code aI_338_3 = true := by decide +kernel
def aI_338_4 : sx_IL := [(45, .aload_n 0, 1), (46, .lload 4, 2), (48, .invokevirtual 574, 3), (51, .aload_n 0, 1), (52, .invokevirtual 571, 3), (55, .lreturn, 1)]
theorem aJ_338_4 : sx_iB prog_14_method_19_code aI_338_4 = true := by decide +kernel
def aI_339_0 : sx_IL := [(0, .bipush 7, 2), (2, .istore_n 3, 1), (3, .iload_n 3, 1), (4, .ifCond .lt 24, 3), (7, .aload_n 0, 1), (8, .lload_n 1, 1)]
theorem aJ_339_0 : sx_iB prog_14_method_15_code aI_339_0 = true := by decide +kernel
def aI_339_1 : sx_IL := [(9, .bipush 8, 2), (11, .iload_n 3, 1), (12, .imul, 1), (13, .lushr, 1), (14, .l2i, 1), (15, .sipush 255, 3)]
theorem aJ_339_1 : sx_iB prog_14_method_15_code aI_339_1 = true := by decide +kernel
def aI_339_2 : sx_IL := [(18, .iand, 1), (19, .invokevirtual 561, 3), (22, .iinc 3 (-1), 3), (25, .goto (-22), 3), (28, .return_, 1)]
theorem aJ_339_2 : sx_iB prog_14_method_15_code aI_339_2 = true := by decide +kernel
def aI_340_0 : sx_IL := [(0, .iload_n 1, 1), (1, .i2l, 1), (2, .lconst 0, 1), (3, .lconst 1, 1), (4, .invokestatic 513, 3), (7, .ifCond .eq 29, 3)]
theorem aJ_340_0 : sx_iB prog_14_method_24_code aI_340_0 = true := by decide +kernel
def aI_340_1 : sx_IL := [(10, .iload 4, 2), (12, .i2l, 1), (13, .lconst 0, 1), (14, .ldc2_w 596, 3), (17, .invokestatic 513, 3), (20, .ifCond .eq 16, 3)]
theorem aJ_340_1 : sx_iB prog_14_method_24_code aI_340_1 = true := by decide +kernel
def aI_340_2 : sx_IL := [(23, .aload_n 0, 1), (24, .iload_n 1, 1), (25, .lload_n 2, 1), (26, .iload 4, 2), (28, .lload 5, 2), (30, .invokevirtual 598, 3)]
theorem aJ_340_2 : sx_iB prog_14_method_24_code aI_340_2 = true := by decide +kernel
def aI_340_3 : sx_IL := [(33, .goto 6, 3), (36, .ldc2_w 590, 3), (39, .lreturn, 1)]
theorem aJ_340_3 : sx_iB prog_14_method_24_code aI_340_3 = true := by decide +kernel
def aI_341_0 : sx_IL := [(0, .aload_n 0, 1), (1, .iload_n 1, 1), (2, .lload_n 2, 1), (3, .invokevirtual 578, 3), (6, .aload_n 0, 1), (7, .iload 4, 2)]
theorem aJ_341_0 : sx_iB prog_14_method_20_code aI_341_0 = true := by decide +kernel
def aI_341_1 : sx_IL := [(9, .invokevirtual 561, 3), (12, .aload_n 0, 1), (13, .lload 5, 2), (15, .invokevirtual 574, 3), (18, .aload_n 0, 1), (19, .iload_n 1, 1)]
theorem aJ_341_1 : sx_iB prog_14_method_20_code aI_341_1 = true := by decide +kernel
def aI_341_2 : sx_IL := [(20, .lload_n 2, 1), (21, .invokevirtual 582, 3), (24, .lreturn, 1)]
theorem aJ_341_2 : sx_iB prog_14_method_20_code aI_341_2 = true := by decide +kernel
def aI_342_0 : sx_IL := [(0, .iload_n 1, 1), (1, .i2l, 1), (2, .lconst 1, 1), (3, .ldc2_w 609, 3), (6, .invokestatic 513, 3), (9, .ifCond .eq 18, 3)]
theorem aJ_342_0 : sx_iB prog_14_method_30_code aI_342_0 = true := by decide +kernel
def aI_342_1 : sx_IL := [(12, .iload 6, 2), (14, .i2l, 1), (15, .lconst 0, 1), (16, .aload_n 0, 1), (17, .getfield 517, 3), (20, .i2l, 1)]
theorem aJ_342_1 : sx_iB prog_14_method_30_code aI_342_1 = true := by decide +kernel
def aI_342_2 : sx_IL := [(21, .invokestatic 513, 3), (24, .ifCond .ne 5, 3), (27, .iconst (-1), 1), (28, .ireturn, 1), (29, .aload_n 0, 1), (30, .getfield 517, 3)]
theorem aJ_342_2 : sx_iB prog_14_method_30_code aI_342_2 = true := by decide +kernel
def aI_342_3 : sx_IL := [(33, .iload 6, 2), (35, .isub, 1), (36, .istore 7, 2), (38, .iconst 0, 1), (39, .istore 8, 2), (41, .iload 8, 2)]
theorem aJ_342_3 : sx_iB prog_14_method_30_code aI_342_3 = true := by decide +kernel
def aI_342_4 : sx_IL := [(43, .iload 7, 2), (45, .if_icmp .ge 26, 3), (48, .aload_n 0, 1), (49, .getfield 13, 3), (52, .iload 8, 2), (54, .aload_n 0, 1)]
theorem aJ_342_4 : sx_iB prog_14_method_30_code aI_342_4 = true := by decide +kernel
def aI_342_5 : sx_IL := [(55, .getfield 7, 3), (58, .iload 6, 2), (60, .iload 8, 2), (62, .iadd, 1), (63, .iaload, 1), (64, .iastore, 1)]
theorem aJ_342_5 : sx_iB prog_14_method_30_code aI_342_5 = true := by decide +kernel
def aI_342_6 : sx_IL := [(65, .iinc 8 1, 3), (68, .goto (-27), 3), (71, .aload_n 0, 1), (72, .lload_n 2, 1), (73, .lload 4, 2), (75, .aload_n 0, 1)]
theorem aJ_342_6 : sx_iB prog_14_method_30_code aI_342_6 = true := by decide +kernel
def aI_342_7 : sx_IL := [(76, .getfield 13, 3), (79, .iconst 0, 1), (80, .iload 7, 2), (82, .invokevirtual 611, 3), (85, .aload_n 0, 1), (86, .iload_n 1, 1)]
theorem aJ_342_7 : sx_iB prog_14_method_30_code aI_342_7 = true := by decide +kernel
def aI_342_8 : sx_IL := [(87, .lload_n 2, 1), (88, .lload 4, 2), (90, .aload_n 0, 1), (91, .getfield 7, 3), (94, .iconst 0, 1), (95, .iload 6, 2)]
theorem aJ_342_8 : sx_iB prog_14_method_30_code aI_342_8 = true := by decide +kernel
def aI_342_9 : sx_IL := [(97, .aload_n 0, 1), (98, .getfield 13, 3), (101, .iconst 0, 1), (102, .iload 7, 2), (104, .invokevirtual 615, 3), (107, .lstore 8, 2)]
theorem aJ_342_9 : sx_iB prog_14_method_30_code aI_342_9 = true := by decide +kernel
def aI_342_10 : sx_IL := [(109, .iconst 0, 1), (110, .istore 10, 2), (112, .iload 10, 2), (114, .iload_n 1, 1), (115, .invokestatic 619, 3), (118, .if_icmp .ge 26, 3)]
theorem aJ_342_10 : sx_iB prog_14_method_30_code aI_342_10 = true := by decide +kernel
def aI_342_11 : sx_IL := [(121, .aload_n 0, 1), (122, .getfield 13, 3), (125, .iload 7, 2), (127, .iload 10, 2), (129, .iadd, 1), (130, .lload 8, 2)]
theorem aJ_342_11 : sx_iB prog_14_method_30_code aI_342_11 = true := by decide +kernel
def aI_342_12 : sx_IL := [(132, .iload 10, 2), (134, .invokestatic 622, 3), (137, .iastore, 1), (138, .iinc 10 1, 3), (141, .goto (-29), 3), (144, .aload_n 0, 1)]
theorem aJ_342_12 : sx_iB prog_14_method_30_code aI_342_12 = true := by decide +kernel
def aI_342_13 : sx_IL := [(145, .iload 7, 2), (147, .iload_n 1, 1), (148, .invokestatic 619, 3), (151, .iadd, 1), (152, .putfield 520, 3), (155, .aload_n 0, 1)]
theorem aJ_342_13 : sx_iB prog_14_method_30_code aI_342_13 = true := by decide +kernel
def aI_342_14 : sx_IL := [(156, .iconst 0, 1), (157, .putfield 517, 3), (160, .aload_n 0, 1), (161, .getfield 520, 3), (164, .ireturn, 1)]
theorem aJ_342_14 : sx_iB prog_14_method_30_code aI_342_14 = true := by decide +kernel
def aI_343_0 : sx_IL := [(0, .lconst 0, 1), (1, .lstore 8, 2), (3, .iconst 0, 1), (4, .istore 10, 2), (6, .iload 10, 2), (8, .iload 7, 2)]
theorem aJ_343_0 : sx_iB prog_14_method_27_code aI_343_0 = true := by decide +kernel
def aI_343_1 : sx_IL := [(10, .if_icmp .ge 87, 3), (13, .iload 10, 2), (15, .bipush 8, 2), (17, .irem, 1), (18, .ifCond .ne 43, 3), (21, .aload_n 0, 1)]
theorem aJ_343_1 : sx_iB prog_14_method_27_code aI_343_1 = true := by decide +kernel
def aI_343_2 : sx_IL := [(22, .lload_n 1, 1), (23, .bipush 32, 2), (25, .lushr, 1), (26, .l2i, 1), (27, .putfield 526, 3), (30, .aload_n 0, 1)]
theorem aJ_343_2 : sx_iB prog_14_method_27_code aI_343_2 = true := by decide +kernel
def aI_343_3 : sx_IL := [(31, .lload_n 1, 1), (32, .l2i, 1), (33, .putfield 529, 3), (36, .aload_n 0, 1), (37, .lload_n 3, 1), (38, .l2i, 1)]
theorem aJ_343_3 : sx_iB prog_14_method_27_code aI_343_3 = true := by decide +kernel
def aI_343_4 : sx_IL := [(39, .putfield 539, 3), (42, .aload_n 0, 1), (43, .iload 10, 2), (45, .bipush 8, 2), (47, .idiv, 1), (48, .putfield 532, 3)]
theorem aJ_343_4 : sx_iB prog_14_method_27_code aI_343_4 = true := by decide +kernel
def aI_343_5 : sx_IL := [(51, .aload_n 0, 1), (52, .invokevirtual 558, 3), (55, .aload_n 0, 1), (56, .invokevirtual 564, 3), (59, .lstore 8, 2), (61, .aload 5, 2)]
theorem aJ_343_5 : sx_iB prog_14_method_27_code aI_343_5 = true := by decide +kernel
def aI_343_6 : sx_IL := [(63, .iload 6, 2), (65, .iload 10, 2), (67, .iadd, 1), (68, .dup2, 1), (69, .iaload, 1), (70, .lload 8, 2)]
theorem aJ_343_6 : sx_iB prog_14_method_27_code aI_343_6 = true := by decide +kernel
def aI_343_7 : sx_IL := [(72, .bipush 56, 2), (74, .bipush 8, 2), (76, .iload 10, 2), (78, .bipush 8, 2), (80, .irem, 1), (81, .imul, 1)]
theorem aJ_343_7 : sx_iB prog_14_method_27_code aI_343_7 = true := by decide +kernel
def aI_343_8 : sx_IL := [(82, .isub, 1), (83, .lushr, 1), (84, .l2i, 1), (85, .sipush 255, 3), (88, .iand, 1), (89, .ixor, 1)]
theorem aJ_343_8 : sx_iB prog_14_method_27_code aI_343_8 = true := by decide +kernel
def aI_343_9 : sx_IL := [(90, .iastore, 1), (91, .iinc 10 1, 3), (94, .goto (-88), 3), (97, .return_, 1)]
theorem aJ_343_9 : sx_iB prog_14_method_27_code aI_343_9 = true := by decide +kernel
def aI_344_0 : sx_IL := [(0, .iload_n 1, 1), (1, .invokestatic 602, 3), (4, .istore 12, 2), (6, .aload_n 0, 1), (7, .iload 12, 2), (9, .lload_n 2, 1)]
theorem aJ_344_0 : sx_iB prog_14_method_28_code aI_344_0 = true := by decide +kernel
def aI_344_1 : sx_IL := [(10, .bipush 116, 2), (12, .lload 4, 2), (14, .invokevirtual 598, 3), (17, .lstore 13, 2), (19, .aload_n 0, 1), (20, .iload 12, 2)]
theorem aJ_344_1 : sx_iB prog_14_method_28_code aI_344_1 = true := by decide +kernel
def aI_344_2 : sx_IL := [(22, .lload 13, 2), (24, .invokevirtual 578, 3), (27, .aload_n 0, 1), (28, .aload 6, 2), (30, .iload 7, 2), (32, .iload 8, 2)]
theorem aJ_344_2 : sx_iB prog_14_method_28_code aI_344_2 = true := by decide +kernel
def aI_344_3 : sx_IL := [(34, .invokevirtual 586, 3), (37, .aload_n 0, 1), (38, .aload 9, 2), (40, .iload 10, 2), (42, .iload 11, 2), (44, .invokevirtual 586, 3)]
theorem aJ_344_3 : sx_iB prog_14_method_28_code aI_344_3 = true := by decide +kernel
def aI_344_4 : sx_IL := [(47, .aload_n 0, 1), (48, .iload 8, 2), (50, .invokevirtual 606, 3), (53, .aload_n 0, 1), (54, .iload 12, 2), (56, .lload 13, 2)]
theorem aJ_344_4 : sx_iB prog_14_method_28_code aI_344_4 = true := by decide +kernel
def aI_344_5 : sx_IL := [(58, .invokevirtual 582, 3), (61, .lreturn, 1)]
theorem aJ_344_5 : sx_iB prog_14_method_28_code aI_344_5 = true := by decide +kernel
def aI_345_0 : sx_IL := [(0, .iload_n 0, 1), (1, .iconst 3, 1), (2, .if_icmp .ne 7, 3), (5, .iconst 1, 1), (6, .goto 4, 3), (9, .iconst 0, 1)]
theorem aJ_345_0 : sx_iB prog_14_method_25_code aI_345_0 = true := by decide +kernel
def aI_345_1 : sx_IL := [(10, .ireturn, 1)]
theorem aJ_345_1 : sx_iB prog_14_method_25_code aI_345_1 = true := by decide +kernel
def aI_346_0 : sx_IL := [(0, .iconst 3, 1), (1, .istore_n 2, 1), (2, .iload_n 2, 1), (3, .ifCond .lt 23, 3), (6, .aload_n 0, 1), (7, .iload_n 1, 1)]
theorem aJ_346_0 : sx_iB prog_14_method_16_code aI_346_0 = true := by decide +kernel
def aI_346_1 : sx_IL := [(8, .bipush 8, 2), (10, .iload_n 2, 1), (11, .imul, 1), (12, .iushr, 1), (13, .sipush 255, 3), (16, .iand, 1)]
theorem aJ_346_1 : sx_iB prog_14_method_16_code aI_346_1 = true := by decide +kernel
def aI_346_2 : sx_IL := [(17, .invokevirtual 561, 3), (20, .iinc 2 (-1), 3), (23, .goto (-21), 3), (26, .return_, 1)]
theorem aJ_346_2 : sx_iB prog_14_method_16_code aI_346_2 = true := by decide +kernel
def aI_347_0 : sx_IL := [(0, .iload_n 0, 1), (1, .iconst 2, 1), (2, .if_icmp .ne 7, 3), (5, .iconst 4, 1), (6, .goto 5, 3), (9, .bipush 8, 2)]
theorem aJ_347_0 : sx_iB prog_14_method_26_code aI_347_0 = true := by decide +kernel
def aI_347_1 : sx_IL := [(11, .ireturn, 1)]
theorem aJ_347_1 : sx_iB prog_14_method_26_code aI_347_1 = true := by decide +kernel
def aI_348_0 : sx_IL := [(0, .lload_n 0, 1), (1, .bipush 56, 2), (3, .bipush 8, 2), (5, .iload_n 2, 1), (6, .imul, 1), (7, .isub, 1)]
theorem aJ_348_0 : sx_iB prog_14_method_29_code aI_348_0 = true := by decide +kernel
def aI_348_1 : sx_IL := [(8, .lushr, 1), (9, .l2i, 1), (10, .sipush 255, 3), (13, .iand, 1), (14, .ireturn, 1)]
theorem aJ_348_1 : sx_iB prog_14_method_29_code aI_348_1 = true := by decide +kernel
def aI_349_0 : sx_IL := [(0, .iload_n 1, 1), (1, .i2l, 1), (2, .lconst 1, 1), (3, .ldc2_w 609, 3), (6, .invokestatic 513, 3), (9, .ifCond .eq 18, 3)]
theorem aJ_349_0 : sx_iB prog_14_method_31_code aI_349_0 = true := by decide +kernel
def aI_349_1 : sx_IL := [(12, .iload 6, 2), (14, .i2l, 1), (15, .lconst 0, 1), (16, .aload_n 0, 1), (17, .getfield 517, 3), (20, .i2l, 1)]
theorem aJ_349_1 : sx_iB prog_14_method_31_code aI_349_1 = true := by decide +kernel
def aI_349_2 : sx_IL := [(21, .invokestatic 513, 3), (24, .ifCond .ne 5, 3), (27, .iconst (-1), 1), (28, .ireturn, 1), (29, .aload_n 0, 1), (30, .getfield 517, 3)]
theorem aJ_349_2 : sx_iB prog_14_method_31_code aI_349_2 = true := by decide +kernel
def aI_349_3 : sx_IL := [(33, .iload 6, 2), (35, .isub, 1), (36, .iload_n 1, 1), (37, .invokestatic 619, 3), (40, .isub, 1), (41, .istore 7, 2)]
theorem aJ_349_3 : sx_iB prog_14_method_31_code aI_349_3 = true := by decide +kernel
def aI_349_4 : sx_IL := [(43, .iload 7, 2), (45, .ifCond .lt 7, 3), (48, .iconst 1, 1), (49, .goto 4, 3), (52, .iconst 0, 1), (53, .istore 8, 2)]
theorem aJ_349_4 : sx_iB prog_14_method_31_code aI_349_4 = true := by decide +kernel
def aI_349_5 : sx_IL := [(55, .iload 8, 2), (57, .ifCond .eq 81, 3), (60, .aload_n 0, 1), (61, .iload_n 1, 1), (62, .lload_n 2, 1), (63, .lload 4, 2)]
theorem aJ_349_5 : sx_iB prog_14_method_31_code aI_349_5 = true := by decide +kernel
def aI_349_6 : sx_IL := [(65, .aload_n 0, 1), (66, .getfield 7, 3), (69, .iconst 0, 1), (70, .iload 6, 2), (72, .aload_n 0, 1), (73, .getfield 7, 3)]
theorem aJ_349_6 : sx_iB prog_14_method_31_code aI_349_6 = true := by decide +kernel
def aI_349_7 : sx_IL := [(76, .iload 6, 2), (78, .iload 7, 2), (80, .invokevirtual 615, 3), (83, .lstore 9, 2), (85, .iconst 0, 1), (86, .istore 11, 2)]
theorem aJ_349_7 : sx_iB prog_14_method_31_code aI_349_7 = true := by decide +kernel
def aI_349_8 : sx_IL := [(88, .iload 11, 2), (90, .iload_n 1, 1), (91, .invokestatic 619, 3), (94, .if_icmp .ge 44, 3), (97, .iload 8, 2), (99, .ifCond .eq 30, 3)]
theorem aJ_349_8 : sx_iB prog_14_method_31_code aI_349_8 = true := by decide +kernel
def aI_349_9 : sx_IL := [(102, .aload_n 0, 1), (103, .getfield 7, 3), (106, .iload 6, 2), (108, .iload 7, 2), (110, .iadd, 1), (111, .iload 11, 2)]
theorem aJ_349_9 : sx_iB prog_14_method_31_code aI_349_9 = true := by decide +kernel
def aI_349_10 : sx_IL := [(113, .iadd, 1), (114, .iaload, 1), (115, .lload 9, 2), (117, .iload 11, 2), (119, .invokestatic 622, 3), (122, .if_icmp .ne 7, 3)]
theorem aJ_349_10 : sx_iB prog_14_method_31_code aI_349_10 = true := by decide +kernel
def aI_349_11 : sx_IL := [(125, .iconst 1, 1), (126, .goto 4, 3), (129, .iconst 0, 1), (130, .istore 8, 2), (132, .iinc 11 1, 3), (135, .goto (-47), 3)]
theorem aJ_349_11 : sx_iB prog_14_method_31_code aI_349_11 = true := by decide +kernel
def aI_349_12 : sx_IL := [(138, .iload 8, 2), (140, .ifCond .eq 57, 3), (143, .aload_n 0, 1), (144, .lload_n 2, 1), (145, .lload 4, 2), (147, .aload_n 0, 1)]
theorem aJ_349_12 : sx_iB prog_14_method_31_code aI_349_12 = true := by decide +kernel
def aI_349_13 : sx_IL := [(148, .getfield 7, 3), (151, .iload 6, 2), (153, .iload 7, 2), (155, .invokevirtual 611, 3), (158, .iconst 0, 1), (159, .istore 9, 2)]
theorem aJ_349_13 : sx_iB prog_14_method_31_code aI_349_13 = true := by decide +kernel
def aI_349_14 : sx_IL := [(161, .iload 9, 2), (163, .iload 7, 2), (165, .if_icmp .ge 26, 3), (168, .aload_n 0, 1), (169, .getfield 13, 3), (172, .iload 9, 2)]
theorem aJ_349_14 : sx_iB prog_14_method_31_code aI_349_14 = true := by decide +kernel
def aI_349_15 : sx_IL := [(174, .aload_n 0, 1), (175, .getfield 7, 3), (178, .iload 6, 2), (180, .iload 9, 2), (182, .iadd, 1), (183, .iaload, 1)]
theorem aJ_349_15 : sx_iB prog_14_method_31_code aI_349_15 = true := by decide +kernel
def aI_349_16 : sx_IL := [(184, .iastore, 1), (185, .iinc 9 1, 3), (188, .goto (-27), 3), (191, .aload_n 0, 1), (192, .iload 7, 2), (194, .putfield 520, 3)]
theorem aJ_349_16 : sx_iB prog_14_method_31_code aI_349_16 = true := by decide +kernel
def aI_349_17 : sx_IL := [(197, .aload_n 0, 1), (198, .iconst 0, 1), (199, .putfield 517, 3), (202, .iload 8, 2), (204, .ifCond .eq 7, 3), (207, .iconst 1, 1)]
theorem aJ_349_17 : sx_iB prog_14_method_31_code aI_349_17 = true := by decide +kernel
def aI_349_18 : sx_IL := [(208, .goto 4, 3), (211, .iconst 0, 1), (212, .ireturn, 1)]
theorem aJ_349_18 : sx_iB prog_14_method_31_code aI_349_18 = true := by decide +kernel
def aI_350_0 : sx_IL := [(0, .iload_n 1, 1), (1, .i2l, 1), (2, .lconst 1, 1), (3, .ldc2_w 609, 3), (6, .invokestatic 513, 3), (9, .ifCond .eq 15, 3)]
theorem aJ_350_0 : sx_iB prog_14_method_36_code aI_350_0 = true := by decide +kernel
def aI_350_1 : sx_IL := [(12, .iload_n 2, 1), (13, .ifCond .lt 11, 3), (16, .iload_n 1, 1), (17, .iload_n 2, 1), (18, .invokestatic 640, 3), (21, .goto 4, 3)]
theorem aJ_350_1 : sx_iB prog_14_method_36_code aI_350_1 = true := by decide +kernel
def aI_350_2 : sx_IL := [(24, .iconst (-1), 1), (25, .ireturn, 1)]
theorem aJ_350_2 : sx_iB prog_14_method_36_code aI_350_2 = true := by decide +kernel
def aI_351_0 : sx_IL := [(0, .iload_n 0, 1), (1, .iconst 1, 1), (2, .if_icmp .ne 9, 3), (5, .ldc2_w 629, 3), (8, .goto 6, 3), (11, .ldc2_w 631, 3)]
theorem aJ_351_0 : sx_iB prog_14_method_34_code aI_351_0 = true := by decide +kernel
def aI_351_1 : sx_IL := [(14, .iload_n 1, 1), (15, .iload_n 0, 1), (16, .invokestatic 633, 3), (19, .invokestatic 636, 3), (22, .ireturn, 1)]
theorem aJ_351_1 : sx_iB prog_14_method_34_code aI_351_1 = true := by decide +kernel
def aI_352_0 : sx_IL := [(0, .iload_n 0, 1), (1, .iconst 1, 1), (2, .if_icmp .ne 9, 3), (5, .ldc_w 626, 3), (8, .goto 17, 3), (11, .iload_n 0, 1)]
theorem aJ_352_0 : sx_iB prog_14_method_32_code aI_352_0 = true := by decide +kernel
def aI_352_1 : sx_IL := [(12, .iconst 2, 1), (13, .if_icmp .ne 9, 3), (16, .ldc_w 627, 3), (19, .goto 6, 3), (22, .ldc_w 628, 3), (25, .ireturn, 1)]
theorem aJ_352_1 : sx_iB prog_14_method_32_code aI_352_1 = true := by decide +kernel
def aI_353_0 : sx_IL := [(0, .lconst 1, 1), (1, .lstore 4, 2), (3, .bipush 30, 2), (5, .istore 6, 2), (7, .iload 6, 2), (9, .ifCond .lt 43, 3)]
theorem aJ_353_0 : sx_iB prog_14_method_33_code aI_353_0 = true := by decide +kernel
def aI_353_1 : sx_IL := [(12, .lload 4, 2), (14, .lload 4, 2), (16, .lmul, 1), (17, .iload_n 3, 1), (18, .i2l, 1), (19, .lrem, 1)]
theorem aJ_353_1 : sx_iB prog_14_method_33_code aI_353_1 = true := by decide +kernel
def aI_353_2 : sx_IL := [(20, .lstore 4, 2), (22, .iload_n 2, 1), (23, .iload 6, 2), (25, .ishr, 1), (26, .iconst 1, 1), (27, .iand, 1)]
theorem aJ_353_2 : sx_iB prog_14_method_33_code aI_353_2 = true := by decide +kernel
def aI_353_3 : sx_IL := [(28, .iconst 1, 1), (29, .if_icmp .ne 13, 3), (32, .lload 4, 2), (34, .lload_n 0, 1), (35, .lmul, 1), (36, .iload_n 3, 1)]
theorem aJ_353_3 : sx_iB prog_14_method_33_code aI_353_3 = true := by decide +kernel
def aI_353_4 : sx_IL := [(37, .i2l, 1), (38, .lrem, 1), (39, .goto 5, 3), (42, .lload 4, 2), (44, .lstore 4, 2), (46, .iinc 6 (-1), 3)]
theorem aJ_353_4 : sx_iB prog_14_method_33_code aI_353_4 = true := by decide +kernel
def aI_353_5 : sx_IL := [(49, .goto (-42), 3), (52, .lload 4, 2), (54, .l2i, 1), (55, .ireturn, 1)]
theorem aJ_353_5 : sx_iB prog_14_method_33_code aI_353_5 = true := by decide +kernel
def aI_354_0 : sx_IL := [(0, .iload_n 1, 1), (1, .i2l, 1), (2, .lconst 1, 1), (3, .ldc2_w 609, 3), (6, .invokestatic 513, 3), (9, .ifCond .eq 16, 3)]
theorem aJ_354_0 : sx_iB prog_14_method_37_code aI_354_0 = true := by decide +kernel
def aI_354_1 : sx_IL := [(12, .iload_n 2, 1), (13, .ifCond .lt 12, 3), (16, .iload_n 1, 1), (17, .iload_n 2, 1), (18, .iload_n 3, 1), (19, .invokestatic 643, 3)]
theorem aJ_354_1 : sx_iB prog_14_method_37_code aI_354_1 = true := by decide +kernel
def aI_354_2 : sx_IL := [(22, .goto 6, 3), (25, .ldc2_w 590, 3), (28, .lreturn, 1)]
theorem aJ_354_2 : sx_iB prog_14_method_37_code aI_354_2 = true := by decide +kernel
def aI_355_0 : sx_IL := [(0, .iload_n 0, 1), (1, .invokestatic 633, 3), (4, .istore_n 3, 1), (5, .iload_n 2, 1), (6, .i2l, 1), (7, .ldc2_w 631, 3)]
theorem aJ_355_0 : sx_iB prog_14_method_35_code aI_355_0 = true := by decide +kernel
def aI_355_1 : sx_IL := [(10, .iload_n 3, 1), (11, .iconst 2, 1), (12, .isub, 1), (13, .i2l, 1), (14, .invokestatic 513, 3), (17, .ifCond .ne 5, 3)]
theorem aJ_355_1 : sx_iB prog_14_method_35_code aI_355_1 = true := by decide +kernel
def aI_355_2 : sx_IL := [(20, .lconst 0, 1), (21, .lreturn, 1), (22, .iload_n 2, 1), (23, .i2l, 1), (24, .iload_n 1, 1), (25, .iload_n 3, 1)]
theorem aJ_355_2 : sx_iB prog_14_method_35_code aI_355_2 = true := by decide +kernel
def aI_355_3 : sx_IL := [(26, .invokestatic 636, 3), (29, .istore 4, 2), (31, .iload 4, 2), (33, .i2l, 1), (34, .ldc2_w 631, 3), (37, .iload_n 3, 1)]
theorem aJ_355_3 : sx_iB prog_14_method_35_code aI_355_3 = true := by decide +kernel
def aI_355_4 : sx_IL := [(38, .iconst 2, 1), (39, .isub, 1), (40, .i2l, 1), (41, .invokestatic 513, 3), (44, .ifCond .eq 9, 3), (47, .iload 4, 2)]
theorem aJ_355_4 : sx_iB prog_14_method_35_code aI_355_4 = true := by decide +kernel
def aI_355_5 : sx_IL := [(49, .i2l, 1), (50, .goto 4, 3), (53, .lconst 0, 1), (54, .lreturn, 1)]
theorem aJ_355_5 : sx_iB prog_14_method_35_code aI_355_5 = true := by decide +kernel
def aI_356_0 : sx_IL := [(0, .iload_n 1, 1), (1, .invokestatic 652, 3), (4, .ifCond .eq 10, 3), (7, .iload_n 1, 1), (8, .invokestatic 656, 3), (11, .goto 4, 3)]
theorem aJ_356_0 : sx_iB prog_14_method_40_code aI_356_0 = true := by decide +kernel
def aI_356_1 : sx_IL := [(14, .iconst (-1), 1), (15, .ireturn, 1)]
theorem aJ_356_1 : sx_iB prog_14_method_40_code aI_356_1 = true := by decide +kernel
def aI_357_0 : sx_IL := [(0, .iload_n 0, 1), (1, .i2l, 1), (2, .lconst 1, 1), (3, .ldc2_w 647, 3), (6, .invokestatic 513, 3), (9, .ireturn, 1)]
theorem aJ_357_0 : sx_iB prog_14_method_38_code aI_357_0 = true := by decide +kernel
def aI_358_0 : sx_IL := [(0, .ldc2_w 649, 3), (3, .iload_n 0, 1), (4, .ldc_w 651, 3), (7, .invokestatic 636, 3), (10, .ireturn, 1)]
theorem aJ_358_0 : sx_iB prog_14_method_39_code aI_358_0 = true := by decide +kernel
def aI_359_0 : sx_IL := [(0, .iload_n 1, 1), (1, .i2l, 1), (2, .lconst 1, 1), (3, .ldc2_w 631, 3), (6, .invokestatic 513, 3), (9, .ifCond .eq 10, 3)]
theorem aJ_359_0 : sx_iB prog_14_method_45_code aI_359_0 = true := by decide +kernel
def aI_359_1 : sx_IL := [(12, .iload_n 2, 1), (13, .invokestatic 652, 3), (16, .ifCond .ne 7, 3), (19, .ldc2_w 590, 3), (22, .lreturn, 1), (23, .aload_n 0, 1)]
theorem aJ_359_1 : sx_iB prog_14_method_45_code aI_359_1 = true := by decide +kernel
def aI_359_2 : sx_IL := [(24, .iload_n 1, 1), (25, .iload_n 2, 1), (26, .aload_n 0, 1), (27, .getfield 7, 3), (30, .iconst 0, 1), (31, .aload_n 0, 1)]
theorem aJ_359_2 : sx_iB prog_14_method_45_code aI_359_2 = true := by decide +kernel
def aI_359_3 : sx_IL := [(32, .getfield 517, 3), (35, .invokevirtual 675, 3), (38, .lstore_n 3, 1), (39, .aload_n 0, 1), (40, .iconst 0, 1), (41, .putfield 517, 3)]
theorem aJ_359_3 : sx_iB prog_14_method_45_code aI_359_3 = true := by decide +kernel
def aI_359_4 : sx_IL := [(44, .lload_n 3, 1), (45, .lreturn, 1)]
theorem aJ_359_4 : sx_iB prog_14_method_45_code aI_359_4 = true := by decide +kernel
def aI_360_0 : sx_IL := [(0, .iload_n 1, 1), (1, .iconst 1, 1), (2, .isub, 1), (3, .istore 6, 2), (5, .aload_n 0, 1), (6, .iload 6, 2)]
theorem aJ_360_0 : sx_iB prog_14_method_43_code aI_360_0 = true := by decide +kernel
def aI_360_1 : sx_IL := [(8, .iload_n 2, 1), (9, .i2l, 1), (10, .invokevirtual 578, 3), (13, .aload_n 0, 1), (14, .aload_n 3, 1), (15, .iload 4, 2)]
theorem aJ_360_1 : sx_iB prog_14_method_43_code aI_360_1 = true := by decide +kernel
def aI_360_2 : sx_IL := [(17, .iload 5, 2), (19, .invokevirtual 586, 3), (22, .aload_n 0, 1), (23, .iload 6, 2), (25, .iload_n 2, 1), (26, .i2l, 1)]
theorem aJ_360_2 : sx_iB prog_14_method_43_code aI_360_2 = true := by decide +kernel
def aI_360_3 : sx_IL := [(27, .invokevirtual 582, 3), (30, .invokestatic 659, 3), (33, .istore 7, 2), (35, .iconst 1, 1), (36, .iload 7, 2), (38, .ldc_w 664, 3)]
theorem aJ_360_3 : sx_iB prog_14_method_43_code aI_360_3 = true := by decide +kernel
def aI_360_4 : sx_IL := [(41, .irem, 1), (42, .iadd, 1), (43, .istore 8, 2), (45, .iload 8, 2), (47, .invokestatic 656, 3), (50, .istore 9, 2)]
theorem aJ_360_4 : sx_iB prog_14_method_43_code aI_360_4 = true := by decide +kernel
def aI_360_5 : sx_IL := [(52, .aload_n 0, 1), (53, .iload 6, 2), (55, .iload 9, 2), (57, .iload_n 2, 1), (58, .invokestatic 656, 3), (61, .aload_n 3, 1)]
theorem aJ_360_5 : sx_iB prog_14_method_43_code aI_360_5 = true := by decide +kernel
def aI_360_6 : sx_IL := [(62, .iload 4, 2), (64, .iload 5, 2), (66, .invokevirtual 665, 3), (69, .istore 10, 2), (71, .iload 8, 2), (73, .i2l, 1)]
theorem aJ_360_6 : sx_iB prog_14_method_43_code aI_360_6 = true := by decide +kernel
def aI_360_7 : sx_IL := [(74, .iload 10, 2), (76, .i2l, 1), (77, .iload_n 2, 1), (78, .i2l, 1), (79, .lmul, 1), (80, .ladd, 1)]
theorem aJ_360_7 : sx_iB prog_14_method_43_code aI_360_7 = true := by decide +kernel
def aI_360_8 : sx_IL := [(81, .ldc2_w 669, 3), (84, .lrem, 1), (85, .lstore 11, 2), (87, .iload 10, 2), (89, .i2l, 1), (90, .bipush 32, 2)]
theorem aJ_360_8 : sx_iB prog_14_method_43_code aI_360_8 = true := by decide +kernel
def aI_360_9 : sx_IL := [(92, .lshl, 1), (93, .lload 11, 2), (95, .lor, 1), (96, .lreturn, 1)]
theorem aJ_360_9 : sx_iB prog_14_method_43_code aI_360_9 = true := by decide +kernel
