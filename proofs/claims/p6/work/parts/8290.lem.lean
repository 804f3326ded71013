/-! lemmas -/
def rY_0 : tc_Lm := ql_use 39 tS_39 false
theorem rZ_0 {RO : am_O} : tc_lmt tp_G RO tp_T rY_0 := ql_use_ok rfl
def rY_1 : tc_Lm := ql_nil 0 tS_0
theorem rZ_1 {RO : am_O} : tc_lmt tp_G RO tp_T rY_1 := ql_nil_ok rfl
def rY_2 : tc_Lm := ql_less 0 tS_0 true
theorem rZ_2 {RO : am_O} : tc_lmt tp_G RO tp_T rY_2 := ql_less_ok rfl
def rY_3 : tc_Lm := ql_use 0 tS_0 false
theorem rZ_3 {RO : am_O} : tc_lmt tp_G RO tp_T rY_3 := ql_use_ok rfl
def rY_4 : tc_Lm := ql_open 0 tS_0
theorem rZ_4 {RO : am_O} : tc_lmt tp_G RO tp_T rY_4 := ql_open_ok rfl
def rY_5 : tc_Lm := ql_put 0 tS_0 26 [0]
theorem rZ_5 {RO : am_O} : tc_lmt tp_G RO tp_T rY_5 := ql_put_ok rfl (by decide)
def rY_6 : tc_Lm := ql_less 0 tS_0 false
theorem rZ_6 {RO : am_O} : tc_lmt tp_G RO tp_T rY_6 := ql_less_ok rfl
def rY_7 : tc_Lm := ql_grow 0 tS_0
theorem rZ_7 {RO : am_O} : tc_lmt tp_G RO tp_T rY_7 := ql_grow_ok rfl
def rY_8 : tc_Lm := ql_shut 0 tS_0
theorem rZ_8 {RO : am_O} : tc_lmt tp_G RO tp_T rY_8 := ql_shut_ok rfl
def rY_9 : tc_Lm := da_bd 8 7 tS_8
theorem rZ_9 {RO : am_O} : tc_lmt tp_G RO tp_T rY_9 := da_bd_ok rfl rfl
def rY_10 : tc_Lm := ni_put 7
theorem rZ_10 {RO : am_O} : tc_lmt tp_G RO tp_T rY_10 := ni_put_ok (k := 34) rfl
def rY_11 : tc_Lm := da_p1 8
theorem rZ_11 {RO : am_O} : tc_lmt tp_G RO tp_T rY_11 := da_p1_ok (S := tS_8) rfl (by decide)
def rY_12 : tc_Lm := da_p2 8 7
theorem rZ_12 {RO : am_O} : tc_lmt tp_G RO tp_T rY_12 := da_p2_ok (S := tS_8) rfl rfl (by decide)
def rY_13 : tc_Lm := kx_put 2 tS_2 false
theorem rZ_13 {RO : am_O} : tc_lmt tp_G RO tp_T rY_13 := kx_put_ok rfl
def rY_14 : tc_Lm := ql_less 21 tS_21 true
theorem rZ_14 {RO : am_O} : tc_lmt tp_G RO tp_T rY_14 := ql_less_ok rfl
def rY_15 : tc_Lm := ql_use 21 tS_21 false
theorem rZ_15 {RO : am_O} : tc_lmt tp_G RO tp_T rY_15 := ql_use_ok rfl
def rY_16 : tc_Lm := ql_open 22 tS_22
theorem rZ_16 {RO : am_O} : tc_lmt tp_G RO tp_T rY_16 := ql_open_ok rfl
def rY_17 : tc_Lm := ql_shut 22 tS_22
theorem rZ_17 {RO : am_O} : tc_lmt tp_G RO tp_T rY_17 := ql_shut_ok rfl
def rY_18 : tc_Lm := ql_use 23 tS_23 false
theorem rZ_18 {RO : am_O} : tc_lmt tp_G RO tp_T rY_18 := ql_use_ok rfl
def rY_19 : tc_Lm := ql_use 22 tS_22 false
theorem rZ_19 {RO : am_O} : tc_lmt tp_G RO tp_T rY_19 := ql_use_ok rfl
def rY_20 : tc_Lm := ql_open 23 tS_23
theorem rZ_20 {RO : am_O} : tc_lmt tp_G RO tp_T rY_20 := ql_open_ok rfl
def rY_21 : tc_Lm := ql_shut 23 tS_23
theorem rZ_21 {RO : am_O} : tc_lmt tp_G RO tp_T rY_21 := ql_shut_ok rfl
def rY_22 : tc_Lm := ql_use 3 tS_3 false
theorem rZ_22 {RO : am_O} : tc_lmt tp_G RO tp_T rY_22 := ql_use_ok rfl
def rY_23 : tc_Lm := ql_use 4 tS_4 false
theorem rZ_23 {RO : am_O} : tc_lmt tp_G RO tp_T rY_23 := ql_use_ok rfl
def rY_24 : tc_Lm := ql_use 5 tS_5 false
theorem rZ_24 {RO : am_O} : tc_lmt tp_G RO tp_T rY_24 := ql_use_ok rfl
def rY_25 : tc_Lm := ql_miss 22 tS_22 95 [0, 1]
theorem rZ_25 {RO : am_O} : tc_lmt tp_G RO tp_T rY_25 := ql_miss_ok rfl (by decide) (by decide)
def rY_26 : tc_Lm := ql_put 23 tS_23 95 [0, 0]
theorem rZ_26 {RO : am_O} : tc_lmt tp_G RO tp_T rY_26 := ql_put_ok rfl (by decide)
def rY_27 : tc_Lm := ql_put 22 tS_22 95 [0, 0]
theorem rZ_27 {RO : am_O} : tc_lmt tp_G RO tp_T rY_27 := ql_put_ok rfl (by decide)
def rY_28 : tc_Lm := ql_miss 23 tS_23 95 [0, 1]
theorem rZ_28 {RO : am_O} : tc_lmt tp_G RO tp_T rY_28 := ql_miss_ok rfl (by decide) (by decide)
def rY_29 : tc_Lm := ql_miss 21 tS_21 86 [1, 0]
theorem rZ_29 {RO : am_O} : tc_lmt tp_G RO tp_T rY_29 := ql_miss_ok rfl (by decide) (by decide)
def rY_30 : tc_Lm := ql_miss 22 tS_22 86 [1, 0]
theorem rZ_30 {RO : am_O} : tc_lmt tp_G RO tp_T rY_30 := ql_miss_ok rfl (by decide) (by decide)
def rY_31 : tc_Lm := ql_put 23 tS_23 86 [0, 0]
theorem rZ_31 {RO : am_O} : tc_lmt tp_G RO tp_T rY_31 := ql_put_ok rfl (by decide)
def rY_32 : tc_Lm := ql_open 21 tS_21
theorem rZ_32 {RO : am_O} : tc_lmt tp_G RO tp_T rY_32 := ql_open_ok rfl
def rY_33 : tc_Lm := ql_put 21 tS_21 86 [0, 0]
theorem rZ_33 {RO : am_O} : tc_lmt tp_G RO tp_T rY_33 := ql_put_ok rfl (by decide)
def rY_34 : tc_Lm := ql_put 22 tS_22 86 [0, 0]
theorem rZ_34 {RO : am_O} : tc_lmt tp_G RO tp_T rY_34 := ql_put_ok rfl (by decide)
def rY_35 : tc_Lm := ql_miss 23 tS_23 86 [1, 0]
theorem rZ_35 {RO : am_O} : tc_lmt tp_G RO tp_T rY_35 := ql_miss_ok rfl (by decide) (by decide)
def rY_36 : tc_Lm := ql_nil 34 tS_34
theorem rZ_36 {RO : am_O} : tc_lmt tp_G RO tp_T rY_36 := ql_nil_ok rfl
def rY_37 : tc_Lm := ql_nil 35 tS_35
theorem rZ_37 {RO : am_O} : tc_lmt tp_G RO tp_T rY_37 := ql_nil_ok rfl
def rY_38 : tc_Lm := ql_open 35 tS_35
theorem rZ_38 {RO : am_O} : tc_lmt tp_G RO tp_T rY_38 := ql_open_ok rfl
def rY_39 : tc_Lm := ql_put 35 tS_35 9 [0]
theorem rZ_39 {RO : am_O} : tc_lmt tp_G RO tp_T rY_39 := ql_put_ok rfl (by decide)
def rY_40 : tc_Lm := ql_open 34 tS_34
theorem rZ_40 {RO : am_O} : tc_lmt tp_G RO tp_T rY_40 := ql_open_ok rfl
def rY_41 : tc_Lm := ql_less 35 tS_35 false
theorem rZ_41 {RO : am_O} : tc_lmt tp_G RO tp_T rY_41 := ql_less_ok rfl
def rY_42 : tc_Lm := sg_nil 24 tS_24
theorem rZ_42 {RO : am_O} : tc_lmt tp_G RO tp_T rY_42 := sg_nil_ok rfl
def rY_43 : tc_Lm := sg_nil 28 tS_28
theorem rZ_43 {RO : am_O} : tc_lmt tp_G RO tp_T rY_43 := sg_nil_ok rfl
def rY_44 : tc_Lm := ql_grow 35 tS_35
theorem rZ_44 {RO : am_O} : tc_lmt tp_G RO tp_T rY_44 := ql_grow_ok rfl
def rY_45 : tc_Lm := ql_shut 35 tS_35
theorem rZ_45 {RO : am_O} : tc_lmt tp_G RO tp_T rY_45 := ql_shut_ok rfl
def rY_46 : tc_Lm := ql_use 35 tS_35 false
theorem rZ_46 {RO : am_O} : tc_lmt tp_G RO tp_T rY_46 := ql_use_ok rfl
def rY_47 : tc_Lm := sg_snoc 24 tS_24 ([([(0, 1)], -161), ([(1, -1)], 127)], ([(1, 1)], 2)) [0, 1]
theorem rZ_47 {RO : am_O} : tc_lmt tp_G RO tp_T rY_47 := sg_snoc_ok rfl (by decide) (by decide)
def rY_48 : tc_Lm := sg_snoc 28 tS_28 ([([(1, -1)], 127)], ([(1, 1)], 2)) [1]
theorem rZ_48 {RO : am_O} : tc_lmt tp_G RO tp_T rY_48 := sg_snoc_ok rfl (by decide) (by decide)
def rY_49 : tc_Lm := sg_snoc 24 tS_24 ([([(0, 1)], -161), ([(1, 1)], -129), ([(1, -1)], 129)], ([(2, 1)], 3)) [0, 1, 2]
theorem rZ_49 {RO : am_O} : tc_lmt tp_G RO tp_T rY_49 := sg_snoc_ok rfl (by decide) (by decide)
def rY_50 : tc_Lm := sg_snoc 28 tS_28 ([([(1, 1)], -129), ([(1, -1)], 129)], ([(2, 1)], 3)) [1, 2]
theorem rZ_50 {RO : am_O} : tc_lmt tp_G RO tp_T rY_50 := sg_snoc_ok rfl (by decide) (by decide)
def rY_51 : tc_Lm := sg_snoc 24 tS_24 ([([(0, 1)], -161), ([(1, 1)], -130), ([(1, -1)], 130)], ([(2, 256), (3, 1)], 4)) [0, 1, 2, 3]
theorem rZ_51 {RO : am_O} : tc_lmt tp_G RO tp_T rY_51 := sg_snoc_ok rfl (by decide) (by decide)
def rY_52 : tc_Lm := sg_eq 24
theorem rZ_52 {RO : am_O} : tc_lmt tp_G RO tp_T rY_52 := sg_eq_ok (S := tS_24) rfl
def rY_53 : tc_Lm := sg_snoc 28 tS_28 ([([(1, 1)], -130), ([(1, -1)], 130)], ([(2, 256), (3, 1)], 4)) [1, 2, 3]
theorem rZ_53 {RO : am_O} : tc_lmt tp_G RO tp_T rY_53 := sg_snoc_ok rfl (by decide) (by decide)
def rY_54 : tc_Lm := sg_snoc 24 tS_24 ([([(0, 1)], -12), ([(0, -1)], 12), ([(1, -1)], 42)], ([(1, 1)], 2)) [0, 1]
theorem rZ_54 {RO : am_O} : tc_lmt tp_G RO tp_T rY_54 := sg_snoc_ok rfl (by decide) (by decide)
def rY_55 : tc_Lm := sg_snoc 24 tS_24 ([([(0, 1)], -2), ([(0, -1)], 2), ([(1, -1)], 4)], ([(1, 1)], 2)) [0, 1]
theorem rZ_55 {RO : am_O} : tc_lmt tp_G RO tp_T rY_55 := sg_snoc_ok rfl (by decide) (by decide)
def rY_56 : tc_Lm := sg_snoc 24 tS_24 ([([(0, 1)], -4), ([(0, -1)], 4), ([(1, -1)], 127)], ([(1, 1)], 2)) [0, 1]
theorem rZ_56 {RO : am_O} : tc_lmt tp_G RO tp_T rY_56 := sg_snoc_ok rfl (by decide) (by decide)
def rY_57 : tc_Lm := sg_snoc 24 tS_24 ([([(0, 1)], -4), ([(0, -1)], 4), ([(1, 1)], -129), ([(1, -1)], 129)], ([(2, 1)], 3)) [0, 1, 2]
theorem rZ_57 {RO : am_O} : tc_lmt tp_G RO tp_T rY_57 := sg_snoc_ok rfl (by decide) (by decide)
def rY_58 : tc_Lm := sg_snoc 24 tS_24 ([([(0, 1)], -4), ([(0, -1)], 4), ([(1, 1)], -130), ([(1, -1)], 130)], ([(2, 256), (3, 1)], 4)) [0, 1, 2, 3]
theorem rZ_58 {RO : am_O} : tc_lmt tp_G RO tp_T rY_58 := sg_snoc_ok rfl (by decide) (by decide)
def rY_59 : tc_Lm := ql_far 34 tS_34 9
theorem rZ_59 {RO : am_O} : tc_lmt tp_G RO tp_T rY_59 := ql_far_ok rfl
def rY_60 : tc_Lm := sg_snoc 24 tS_24 ([([(0, 1)], -48), ([(0, -1)], 48), ([(1, -1)], 127)], ([], 2)) [0, 1]
theorem rZ_60 {RO : am_O} : tc_lmt tp_G RO tp_T rY_60 := sg_snoc_ok rfl (by decide) (by decide)
def rY_61 : tc_Lm := ql_nil 36 tS_36
theorem rZ_61 {RO : am_O} : tc_lmt tp_G RO tp_T rY_61 := ql_nil_ok rfl
def rY_62 : tc_Lm := ql_open 36 tS_36
theorem rZ_62 {RO : am_O} : tc_lmt tp_G RO tp_T rY_62 := ql_open_ok rfl
def rY_63 : tc_Lm := ql_grow 36 tS_36
theorem rZ_63 {RO : am_O} : tc_lmt tp_G RO tp_T rY_63 := ql_grow_ok rfl
def rY_64 : tc_Lm := ql_shut 36 tS_36
theorem rZ_64 {RO : am_O} : tc_lmt tp_G RO tp_T rY_64 := ql_shut_ok rfl
def rY_65 : tc_Lm := ql_nil 37 tS_37
theorem rZ_65 {RO : am_O} : tc_lmt tp_G RO tp_T rY_65 := ql_nil_ok rfl
def rY_66 : tc_Lm := ql_open 37 tS_37
theorem rZ_66 {RO : am_O} : tc_lmt tp_G RO tp_T rY_66 := ql_open_ok rfl
def rY_67 : tc_Lm := ql_grow 37 tS_37
theorem rZ_67 {RO : am_O} : tc_lmt tp_G RO tp_T rY_67 := ql_grow_ok rfl
def rY_68 : tc_Lm := ql_shut 37 tS_37
theorem rZ_68 {RO : am_O} : tc_lmt tp_G RO tp_T rY_68 := ql_shut_ok rfl
def rY_69 : tc_Lm := ql_grow 34 tS_34
theorem rZ_69 {RO : am_O} : tc_lmt tp_G RO tp_T rY_69 := ql_grow_ok rfl
def rY_70 : tc_Lm := ql_shut 34 tS_34
theorem rZ_70 {RO : am_O} : tc_lmt tp_G RO tp_T rY_70 := ql_shut_ok rfl
def rY_71 : tc_Lm := sg_snoc 24 tS_24 ([([(0, 1)], -48), ([(0, -1)], 48), ([(1, 1)], -129), ([(1, -1)], 129)], ([], 3)) [0, 1]
theorem rZ_71 {RO : am_O} : tc_lmt tp_G RO tp_T rY_71 := sg_snoc_ok rfl (by decide) (by decide)
def rY_72 : tc_Lm := sg_snoc 24 tS_24 ([([(0, 1)], -48), ([(0, -1)], 48), ([(1, 1)], -130), ([(1, -1)], 130)], ([], 4)) [0, 1]
theorem rZ_72 {RO : am_O} : tc_lmt tp_G RO tp_T rY_72 := sg_snoc_ok rfl (by decide) (by decide)
def rY_73 : tc_Lm := sg_eq 28
theorem rZ_73 {RO : am_O} : tc_lmt tp_G RO tp_T rY_73 := sg_eq_ok (S := tS_28) rfl
def rY_74 : tc_Lm := ql_use 34 tS_34 false
theorem rZ_74 {RO : am_O} : tc_lmt tp_G RO tp_T rY_74 := ql_use_ok rfl
def rY_75 : tc_Lm := ql_use 37 tS_37 false
theorem rZ_75 {RO : am_O} : tc_lmt tp_G RO tp_T rY_75 := ql_use_ok rfl
def rY_76 : tc_Lm := ql_use 36 tS_36 false
theorem rZ_76 {RO : am_O} : tc_lmt tp_G RO tp_T rY_76 := ql_use_ok rfl
def rY_77 : tc_Lm := ql_far 37 tS_37 9
theorem rZ_77 {RO : am_O} : tc_lmt tp_G RO tp_T rY_77 := ql_far_ok rfl
def rY_78 : tc_Lm := ql_far 36 tS_36 9
theorem rZ_78 {RO : am_O} : tc_lmt tp_G RO tp_T rY_78 := ql_far_ok rfl
def rY_79 : tc_Lm := ql_less 34 tS_34 true
theorem rZ_79 {RO : am_O} : tc_lmt tp_G RO tp_T rY_79 := ql_less_ok rfl
def rY_80 : tc_Lm := ql_less 35 tS_35 true
theorem rZ_80 {RO : am_O} : tc_lmt tp_G RO tp_T rY_80 := ql_less_ok rfl
def rY_81 : tc_Lm := el_eq
theorem rZ_81 {RO : am_O} : tc_lmt tp_G RO tp_T rY_81 := el_eq_ok
def rY_82 : tc_Lm := ni_nil 7 34
theorem rZ_82 {RO : am_O} : tc_lmt tp_G RO tp_T rY_82 := ni_nil_ok rfl
def rY_83 : tc_Lm := ni_less 7
theorem rZ_83 {RO : am_O} : tc_lmt tp_G RO tp_T rY_83 := ni_less_ok (k := 34) rfl
def rY_84 : tc_Lm := ni_snoc 7 34 true
theorem rZ_84 {RO : am_O} : tc_lmt tp_G RO tp_T rY_84 := ni_snoc_ok rfl
def rY_85 : tc_Lm := ni_snoc 7 34 false
theorem rZ_85 {RO : am_O} : tc_lmt tp_G RO tp_T rY_85 := ni_snoc_ok rfl
def rY_86 : tc_Lm := ql_miss 14 tS_14 99 [0, 0, 1]
theorem rZ_86 {RO : am_O} : tc_lmt tp_G RO tp_T rY_86 := ql_miss_ok rfl (by decide) (by decide)
def rY_87 : tc_Lm := ql_miss 15 tS_15 99 [0, 0, 1]
theorem rZ_87 {RO : am_O} : tc_lmt tp_G RO tp_T rY_87 := ql_miss_ok rfl (by decide) (by decide)
def rY_88 : tc_Lm := ql_miss 16 tS_16 99 [1, 0]
theorem rZ_88 {RO : am_O} : tc_lmt tp_G RO tp_T rY_88 := ql_miss_ok rfl (by decide) (by decide)
def rY_89 : tc_Lm := ql_miss 17 tS_17 99 [1, 0]
theorem rZ_89 {RO : am_O} : tc_lmt tp_G RO tp_T rY_89 := ql_miss_ok rfl (by decide) (by decide)
def rY_90 : tc_Lm := ql_miss 15 tS_15 105 [1, 0, 0]
theorem rZ_90 {RO : am_O} : tc_lmt tp_G RO tp_T rY_90 := ql_miss_ok rfl (by decide) (by decide)
def rY_91 : tc_Lm := ql_miss 14 tS_14 105 [1, 0, 0]
theorem rZ_91 {RO : am_O} : tc_lmt tp_G RO tp_T rY_91 := ql_miss_ok rfl (by decide) (by decide)
def rY_92 : tc_Lm := ql_use 14 tS_14 false
theorem rZ_92 {RO : am_O} : tc_lmt tp_G RO tp_T rY_92 := ql_use_ok rfl
def rY_93 : tc_Lm := ql_use 15 tS_15 false
theorem rZ_93 {RO : am_O} : tc_lmt tp_G RO tp_T rY_93 := ql_use_ok rfl
def rY_94 : tc_Lm := ql_use 16 tS_16 false
theorem rZ_94 {RO : am_O} : tc_lmt tp_G RO tp_T rY_94 := ql_use_ok rfl
def rY_95 : tc_Lm := ql_use 17 tS_17 false
theorem rZ_95 {RO : am_O} : tc_lmt tp_G RO tp_T rY_95 := ql_use_ok rfl
def rY_96 : tc_Lm := ql_open 14 tS_14
theorem rZ_96 {RO : am_O} : tc_lmt tp_G RO tp_T rY_96 := ql_open_ok rfl
def rY_97 : tc_Lm := ql_put 14 tS_14 99 [0, 0, 0]
theorem rZ_97 {RO : am_O} : tc_lmt tp_G RO tp_T rY_97 := ql_put_ok rfl (by decide)
def rY_98 : tc_Lm := ql_open 15 tS_15
theorem rZ_98 {RO : am_O} : tc_lmt tp_G RO tp_T rY_98 := ql_open_ok rfl
def rY_99 : tc_Lm := ql_put 15 tS_15 99 [0, 0, 0]
theorem rZ_99 {RO : am_O} : tc_lmt tp_G RO tp_T rY_99 := ql_put_ok rfl (by decide)
def rY_100 : tc_Lm := ql_open 16 tS_16
theorem rZ_100 {RO : am_O} : tc_lmt tp_G RO tp_T rY_100 := ql_open_ok rfl
def rY_101 : tc_Lm := ql_put 16 tS_16 99 [0, 0]
theorem rZ_101 {RO : am_O} : tc_lmt tp_G RO tp_T rY_101 := ql_put_ok rfl (by decide)
def rY_102 : tc_Lm := ql_open 17 tS_17
theorem rZ_102 {RO : am_O} : tc_lmt tp_G RO tp_T rY_102 := ql_open_ok rfl
def rY_103 : tc_Lm := ql_put 17 tS_17 99 [0, 0]
theorem rZ_103 {RO : am_O} : tc_lmt tp_G RO tp_T rY_103 := ql_put_ok rfl (by decide)
def rY_104 : tc_Lm := ql_shut 17 tS_17
theorem rZ_104 {RO : am_O} : tc_lmt tp_G RO tp_T rY_104 := ql_shut_ok rfl
def rY_105 : tc_Lm := ql_shut 16 tS_16
theorem rZ_105 {RO : am_O} : tc_lmt tp_G RO tp_T rY_105 := ql_shut_ok rfl
def rY_106 : tc_Lm := ql_put 15 tS_15 105 [0, 0, 0]
theorem rZ_106 {RO : am_O} : tc_lmt tp_G RO tp_T rY_106 := ql_put_ok rfl (by decide)
def rY_107 : tc_Lm := ql_put 14 tS_14 105 [0, 0, 0]
theorem rZ_107 {RO : am_O} : tc_lmt tp_G RO tp_T rY_107 := ql_put_ok rfl (by decide)
def rY_108 : tc_Lm := ql_shut 14 tS_14
theorem rZ_108 {RO : am_O} : tc_lmt tp_G RO tp_T rY_108 := ql_shut_ok rfl
def rY_109 : tc_Lm := ql_shut 15 tS_15
theorem rZ_109 {RO : am_O} : tc_lmt tp_G RO tp_T rY_109 := ql_shut_ok rfl
def rY_110 : tc_Lm := ql_miss 3 tS_3 87 [0, 1, 1, 0]
theorem rZ_110 {RO : am_O} : tc_lmt tp_G RO tp_T rY_110 := ql_miss_ok rfl (by decide) (by decide)
def rY_111 : tc_Lm := ql_open 3 tS_3
theorem rZ_111 {RO : am_O} : tc_lmt tp_G RO tp_T rY_111 := ql_open_ok rfl
def rY_112 : tc_Lm := ql_put 3 tS_3 88 [0, 0, 0, 0]
theorem rZ_112 {RO : am_O} : tc_lmt tp_G RO tp_T rY_112 := ql_put_ok rfl (by decide)
def rY_113 : tc_Lm := ql_open 4 tS_4
theorem rZ_113 {RO : am_O} : tc_lmt tp_G RO tp_T rY_113 := ql_open_ok rfl
def rY_114 : tc_Lm := ql_put 4 tS_4 88 [0, 0]
theorem rZ_114 {RO : am_O} : tc_lmt tp_G RO tp_T rY_114 := ql_put_ok rfl (by decide)
def rY_115 : tc_Lm := ql_open 5 tS_5
theorem rZ_115 {RO : am_O} : tc_lmt tp_G RO tp_T rY_115 := ql_open_ok rfl
def rY_116 : tc_Lm := ql_shut 4 tS_4
theorem rZ_116 {RO : am_O} : tc_lmt tp_G RO tp_T rY_116 := ql_shut_ok rfl
def rY_117 : tc_Lm := ql_shut 3 tS_3
theorem rZ_117 {RO : am_O} : tc_lmt tp_G RO tp_T rY_117 := ql_shut_ok rfl
def rY_118 : tc_Lm := ql_put 3 tS_3 87 [0, 1, 0, 0]
theorem rZ_118 {RO : am_O} : tc_lmt tp_G RO tp_T rY_118 := ql_put_ok rfl (by decide)
def rY_119 : tc_Lm := ql_put 3 tS_3 87 [0, 0, 2, 0]
theorem rZ_119 {RO : am_O} : tc_lmt tp_G RO tp_T rY_119 := ql_put_ok rfl (by decide)
def rY_120 : tc_Lm := ql_put 3 tS_3 94 [0, 0, 0, 0]
theorem rZ_120 {RO : am_O} : tc_lmt tp_G RO tp_T rY_120 := ql_put_ok rfl (by decide)
def rY_121 : tc_Lm := ql_put 4 tS_4 94 [0, 0]
theorem rZ_121 {RO : am_O} : tc_lmt tp_G RO tp_T rY_121 := ql_put_ok rfl (by decide)
def rY_122 : tc_Lm := ql_put 5 tS_5 94 [0, 0]
theorem rZ_122 {RO : am_O} : tc_lmt tp_G RO tp_T rY_122 := ql_put_ok rfl (by decide)
def rY_123 : tc_Lm := ql_shut 5 tS_5
theorem rZ_123 {RO : am_O} : tc_lmt tp_G RO tp_T rY_123 := ql_shut_ok rfl
def rY_124 : tc_Lm := ql_use 19 tS_19 false
theorem rZ_124 {RO : am_O} : tc_lmt tp_G RO tp_T rY_124 := ql_use_ok rfl
def rY_125 : tc_Lm := ql_use 20 tS_20 false
theorem rZ_125 {RO : am_O} : tc_lmt tp_G RO tp_T rY_125 := ql_use_ok rfl
def rY_126 : tc_Lm := ql_put 5 tS_5 90 [0, 0]
theorem rZ_126 {RO : am_O} : tc_lmt tp_G RO tp_T rY_126 := ql_put_ok rfl (by decide)
def rY_127 : tc_Lm := ql_shut 20 tS_20
theorem rZ_127 {RO : am_O} : tc_lmt tp_G RO tp_T rY_127 := ql_shut_ok rfl
def rY_128 : tc_Lm := ql_shut 19 tS_19
theorem rZ_128 {RO : am_O} : tc_lmt tp_G RO tp_T rY_128 := ql_shut_ok rfl
def rY_129 : tc_Lm := ql_open 19 tS_19
theorem rZ_129 {RO : am_O} : tc_lmt tp_G RO tp_T rY_129 := ql_open_ok rfl
def rY_130 : tc_Lm := ql_put 19 tS_19 93 [0, 0]
theorem rZ_130 {RO : am_O} : tc_lmt tp_G RO tp_T rY_130 := ql_put_ok rfl (by decide)
def rY_131 : tc_Lm := ql_open 20 tS_20
theorem rZ_131 {RO : am_O} : tc_lmt tp_G RO tp_T rY_131 := ql_open_ok rfl
def rY_132 : tc_Lm := ql_put 20 tS_20 93 [0, 0]
theorem rZ_132 {RO : am_O} : tc_lmt tp_G RO tp_T rY_132 := ql_put_ok rfl (by decide)
def rY_133 : tc_Lm := ql_miss 18 tS_18 93 [0, 1]
theorem rZ_133 {RO : am_O} : tc_lmt tp_G RO tp_T rY_133 := ql_miss_ok rfl (by decide) (by decide)
def rY_134 : tc_Lm := ql_put 16 tS_16 93 [0, 0]
theorem rZ_134 {RO : am_O} : tc_lmt tp_G RO tp_T rY_134 := ql_put_ok rfl (by decide)
def rY_135 : tc_Lm := ql_put 17 tS_17 93 [0, 0]
theorem rZ_135 {RO : am_O} : tc_lmt tp_G RO tp_T rY_135 := ql_put_ok rfl (by decide)
def rY_136 : tc_Lm := ql_miss 21 tS_21 93 [0, 1]
theorem rZ_136 {RO : am_O} : tc_lmt tp_G RO tp_T rY_136 := ql_miss_ok rfl (by decide) (by decide)
def rY_137 : tc_Lm := ql_miss 18 tS_18 100 [1, 0]
theorem rZ_137 {RO : am_O} : tc_lmt tp_G RO tp_T rY_137 := ql_miss_ok rfl (by decide) (by decide)
def rY_138 : tc_Lm := ql_put 19 tS_19 100 [0, 0]
theorem rZ_138 {RO : am_O} : tc_lmt tp_G RO tp_T rY_138 := ql_put_ok rfl (by decide)
def rY_139 : tc_Lm := ql_put 20 tS_20 100 [0, 0]
theorem rZ_139 {RO : am_O} : tc_lmt tp_G RO tp_T rY_139 := ql_put_ok rfl (by decide)
def rY_140 : tc_Lm := ql_use 6 tS_6 false
theorem rZ_140 {RO : am_O} : tc_lmt tp_G RO tp_T rY_140 := ql_use_ok rfl
def rY_141 : tc_Lm := kx_use 1 tS_1
theorem rZ_141 {RO : am_O} : tc_lmt tp_G RO tp_T rY_141 := kx_use_ok rfl
def rY_142 : tc_Lm := ql_open 6 tS_6
theorem rZ_142 {RO : am_O} : tc_lmt tp_G RO tp_T rY_142 := ql_open_ok rfl
def rY_143 : tc_Lm := ql_put 6 tS_6 159 [0, 0]
theorem rZ_143 {RO : am_O} : tc_lmt tp_G RO tp_T rY_143 := ql_put_ok rfl (by decide)
def rY_144 : tc_Lm := kx_put 1 tS_1 false
theorem rZ_144 {RO : am_O} : tc_lmt tp_G RO tp_T rY_144 := kx_put_ok rfl
def rY_145 : tc_Lm := ql_shut 6 tS_6
theorem rZ_145 {RO : am_O} : tc_lmt tp_G RO tp_T rY_145 := ql_shut_ok rfl
def rY_146 : tc_Lm := sg_nil 10 tS_10
theorem rZ_146 {RO : am_O} : tc_lmt tp_G RO tp_T rY_146 := sg_nil_ok rfl
def rY_147 : tc_Lm := sg_eq 10
theorem rZ_147 {RO : am_O} : tc_lmt tp_G RO tp_T rY_147 := sg_eq_ok (S := tS_10) rfl
def rY_148 : tc_Lm := sg_snoc 10 tS_10 ([], ([(1, 256), (2, 1)], 3)) [1, 2]
theorem rZ_148 {RO : am_O} : tc_lmt tp_G RO tp_T rY_148 := sg_snoc_ok rfl (by decide) (by decide)
def rY_149 : tc_Lm := kx_put 1 tS_1 true
theorem rZ_149 {RO : am_O} : tc_lmt tp_G RO tp_T rY_149 := kx_put_ok rfl
def rY_150 : tc_Lm := ql_put 6 tS_6 160 [0, 0]
theorem rZ_150 {RO : am_O} : tc_lmt tp_G RO tp_T rY_150 := ql_put_ok rfl (by decide)
def rY_151 : tc_Lm := sg_nil 9 tS_9
theorem rZ_151 {RO : am_O} : tc_lmt tp_G RO tp_T rY_151 := sg_nil_ok rfl
def rY_152 : tc_Lm := sg_eq 9
theorem rZ_152 {RO : am_O} : tc_lmt tp_G RO tp_T rY_152 := sg_eq_ok (S := tS_9) rfl
def rY_153 : tc_Lm := sg_snoc 9 tS_9 ([([(0, 1)], -1), ([(0, -1)], 16)], ([(0, 1)], 5)) [0]
theorem rZ_153 {RO : am_O} : tc_lmt tp_G RO tp_T rY_153 := sg_snoc_ok rfl (by decide) (by decide)
def rY_154 : tc_Lm := fa_use 13 11 true
theorem rZ_154 {RO : am_O} : tc_lmt tp_G RO tp_T rY_154 := fa_use_ok (S := (tS_11, 151)) rfl rfl rfl
def rY_155 : tc_Lm := sg_min 11 tS_11 false
theorem rZ_155 {RO : am_O} : tc_lmt tp_G RO tp_T rY_155 := sg_min_ok rfl
def rY_156 : tc_Lm := sg_unc 11 tS_11 ([], ([(1, 256), (2, 1)], 3)) [1, 2] [0] false
theorem rZ_156 {RO : am_O} : tc_lmt tp_G RO tp_T rY_156 := sg_unc_ok rfl (by decide) (by decide)
def rY_157 : tc_Lm := sg_min 9 tS_9 true
theorem rZ_157 {RO : am_O} : tc_lmt tp_G RO tp_T rY_157 := sg_min_ok rfl
def rY_158 : tc_Lm := sg_unc 9 tS_9 ([([(0, 1)], -1), ([(0, -1)], 16)], ([(0, 1)], 5)) [0] [0] true
theorem rZ_158 {RO : am_O} : tc_lmt tp_G RO tp_T rY_158 := sg_unc_ok rfl (by decide) (by decide)
def rY_159 : tc_Lm := ql_put 14 tS_14 106 [0, 0, 0]
theorem rZ_159 {RO : am_O} : tc_lmt tp_G RO tp_T rY_159 := ql_put_ok rfl (by decide)
def rY_160 : tc_Lm := ql_put 15 tS_15 106 [0, 0, 0]
theorem rZ_160 {RO : am_O} : tc_lmt tp_G RO tp_T rY_160 := ql_put_ok rfl (by decide)
def rY_161 : tc_Lm := ql_use 38 tS_38 false
theorem rZ_161 {RO : am_O} : tc_lmt tp_G RO tp_T rY_161 := ql_use_ok rfl
def rY_162 : tc_Lm := fa_open 13
theorem rZ_162 {RO : am_O} : tc_lmt tp_G RO tp_T rY_162 := fa_open_ok (S := (tS_11, 151)) rfl
def rY_163 : tc_Lm := fa_p2 13
theorem rZ_163 {RO : am_O} : tc_lmt tp_G RO tp_T rY_163 := fa_p2_ok (S := (tS_11, 151)) rfl (by decide)
def rY_164 : tc_Lm := cp_nil 12 tS_12
theorem rZ_164 {RO : am_O} : tc_lmt tp_G RO tp_T rY_164 := cp_nil_ok rfl
def rY_165 : tc_Lm := cp_sg 12 10 11
theorem rZ_165 {RO : am_O} : tc_lmt tp_G RO tp_T rY_165 := cp_sg_ok (S := tS_12) (G := tS_10) (G' := tS_11) rfl rfl rfl rfl rfl
def rY_166 : tc_Lm := fa_shut 13 11 true
theorem rZ_166 {RO : am_O} : tc_lmt tp_G RO tp_T rY_166 := fa_shut_ok (S := (tS_11, 151)) rfl rfl
def rY_167 : tc_Lm := cp_put 12
theorem rZ_167 {RO : am_O} : tc_lmt tp_G RO tp_T rY_167 := cp_put_ok (S := tS_12) rfl (by decide)
def rY_168 : tc_Lm := fa_p1 13
theorem rZ_168 {RO : am_O} : tc_lmt tp_G RO tp_T rY_168 := fa_p1_ok (S := (tS_11, 151)) rfl (by decide)
def rY_169 : tc_Lm := ql_miss 3 tS_3 87 [0, 2, 2, 0]
theorem rZ_169 {RO : am_O} : tc_lmt tp_G RO tp_T rY_169 := ql_miss_ok rfl (by decide) (by decide)
def rY_170 : tc_Lm := ql_use 18 tS_18 false
theorem rZ_170 {RO : am_O} : tc_lmt tp_G RO tp_T rY_170 := ql_use_ok rfl
def rY_171 : tc_Lm := ql_miss 17 tS_17 93 [0, 1]
theorem rZ_171 {RO : am_O} : tc_lmt tp_G RO tp_T rY_171 := ql_miss_ok rfl (by decide) (by decide)
def rY_172 : tc_Lm := ql_miss 16 tS_16 93 [0, 1]
theorem rZ_172 {RO : am_O} : tc_lmt tp_G RO tp_T rY_172 := ql_miss_ok rfl (by decide) (by decide)
def rY_173 : tc_Lm := ql_put 21 tS_21 93 [0, 0]
theorem rZ_173 {RO : am_O} : tc_lmt tp_G RO tp_T rY_173 := ql_put_ok rfl (by decide)
def rY_174 : tc_Lm := ql_open 18 tS_18
theorem rZ_174 {RO : am_O} : tc_lmt tp_G RO tp_T rY_174 := ql_open_ok rfl
def rY_175 : tc_Lm := ql_put 18 tS_18 93 [0, 0]
theorem rZ_175 {RO : am_O} : tc_lmt tp_G RO tp_T rY_175 := ql_put_ok rfl (by decide)
def rY_176 : tc_Lm := ql_miss 20 tS_20 93 [0, 1]
theorem rZ_176 {RO : am_O} : tc_lmt tp_G RO tp_T rY_176 := ql_miss_ok rfl (by decide) (by decide)
def rY_177 : tc_Lm := ql_miss 19 tS_19 93 [0, 1]
theorem rZ_177 {RO : am_O} : tc_lmt tp_G RO tp_T rY_177 := ql_miss_ok rfl (by decide) (by decide)
def rY_178 : tc_Lm := ql_shut 18 tS_18
theorem rZ_178 {RO : am_O} : tc_lmt tp_G RO tp_T rY_178 := ql_shut_ok rfl
def rY_179 : tc_Lm := ql_put 18 tS_18 100 [0, 0]
theorem rZ_179 {RO : am_O} : tc_lmt tp_G RO tp_T rY_179 := ql_put_ok rfl (by decide)
def rY_180 : tc_Lm := ql_miss 19 tS_19 100 [1, 0]
theorem rZ_180 {RO : am_O} : tc_lmt tp_G RO tp_T rY_180 := ql_miss_ok rfl (by decide) (by decide)
def rY_181 : tc_Lm := ql_miss 20 tS_20 100 [1, 0]
theorem rZ_181 {RO : am_O} : tc_lmt tp_G RO tp_T rY_181 := ql_miss_ok rfl (by decide) (by decide)
def rY_182 : tc_Lm := ql_open 38 tS_38
theorem rZ_182 {RO : am_O} : tc_lmt tp_G RO tp_T rY_182 := ql_open_ok rfl
def rY_183 : tc_Lm := ql_put 38 tS_38 23 [0]
theorem rZ_183 {RO : am_O} : tc_lmt tp_G RO tp_T rY_183 := ql_put_ok rfl (by decide)
def rY_184 : tc_Lm := ql_less 38 tS_38 false
theorem rZ_184 {RO : am_O} : tc_lmt tp_G RO tp_T rY_184 := ql_less_ok rfl
def rY_185 : tc_Lm := ql_miss 14 tS_14 106 [0, 1, 0]
theorem rZ_185 {RO : am_O} : tc_lmt tp_G RO tp_T rY_185 := ql_miss_ok rfl (by decide) (by decide)
def rY_186 : tc_Lm := ql_miss 15 tS_15 106 [0, 1, 0]
theorem rZ_186 {RO : am_O} : tc_lmt tp_G RO tp_T rY_186 := ql_miss_ok rfl (by decide) (by decide)
def rY_187 : tc_Lm := kx_put 2 tS_2 true
theorem rZ_187 {RO : am_O} : tc_lmt tp_G RO tp_T rY_187 := kx_put_ok rfl
def rY_188 : tc_Lm := ql_miss 39 tS_39 14 [1]
theorem rZ_188 {RO : am_O} : tc_lmt tp_G RO tp_T rY_188 := ql_miss_ok rfl (by decide) (by decide)
def rY_189 : tc_Lm := ql_open 39 tS_39
theorem rZ_189 {RO : am_O} : tc_lmt tp_G RO tp_T rY_189 := ql_open_ok rfl
def rY_190 : tc_Lm := ql_put 39 tS_39 14 [0]
theorem rZ_190 {RO : am_O} : tc_lmt tp_G RO tp_T rY_190 := ql_put_ok rfl (by decide)
def rY_191 : tc_Lm := ql_less 39 tS_39 false
theorem rZ_191 {RO : am_O} : tc_lmt tp_G RO tp_T rY_191 := ql_less_ok rfl
def tr_L : List tc_Lm := [rY_0, rY_1, rY_2, rY_3, rY_4, rY_5, rY_6, rY_7, rY_8, rY_9, rY_10, rY_11, rY_12, rY_13, rY_14, rY_15, rY_16, rY_17, rY_18, rY_19, rY_20, rY_21, rY_22, rY_23, rY_24, rY_25, rY_26, rY_27, rY_28, rY_29, rY_30, rY_31, rY_32, rY_33, rY_34, rY_35, rY_36, rY_37, rY_38, rY_39, rY_40, rY_41, rY_42, rY_43, rY_44, rY_45, rY_46, rY_47, rY_48, rY_49, rY_50, rY_51, rY_52, rY_53, rY_54, rY_55, rY_56, rY_57, rY_58, rY_59, rY_60, rY_61, rY_62, rY_63, rY_64, rY_65, rY_66, rY_67, rY_68, rY_69, rY_70, rY_71, rY_72, rY_73, rY_74, rY_75, rY_76, rY_77, rY_78, rY_79, rY_80, rY_81, rY_82, rY_83, rY_84, rY_85, rY_86, rY_87, rY_88, rY_89, rY_90, rY_91, rY_92, rY_93, rY_94, rY_95, rY_96, rY_97, rY_98, rY_99, rY_100, rY_101, rY_102, rY_103, rY_104, rY_105, rY_106, rY_107, rY_108, rY_109, rY_110, rY_111, rY_112, rY_113, rY_114, rY_115, rY_116, rY_117, rY_118, rY_119, rY_120, rY_121, rY_122, rY_123, rY_124, rY_125, rY_126, rY_127, rY_128, rY_129, rY_130, rY_131, rY_132, rY_133, rY_134, rY_135, rY_136, rY_137, rY_138, rY_139, rY_140, rY_141, rY_142, rY_143, rY_144, rY_145, rY_146, rY_147, rY_148, rY_149, rY_150, rY_151, rY_152, rY_153, rY_154, rY_155, rY_156, rY_157, rY_158, rY_159, rY_160, rY_161, rY_162, rY_163, rY_164, rY_165, rY_166, rY_167, rY_168, rY_169, rY_170, rY_171, rY_172, rY_173, rY_174, rY_175, rY_176, rY_177, rY_178, rY_179, rY_180, rY_181, rY_182, rY_183, rY_184, rY_185, rY_186, rY_187, rY_188, rY_189, rY_190, rY_191]
theorem tr_L_ok {RO : am_O} : ∀ c ∈ tr_L, tc_lmt tp_G RO tp_T c := by
  intro c h
  rcases List.mem_cons.mp h with rfl | h
  · exact rZ_0
  rcases List.mem_cons.mp h with rfl | h
  · exact rZ_1
  rcases List.mem_cons.mp h with rfl | h
  · exact rZ_2
  rcases List.mem_cons.mp h with rfl | h
  · exact rZ_3
  rcases List.mem_cons.mp h with rfl | h
  · exact rZ_4
  rcases List.mem_cons.mp h with rfl | h
  · exact rZ_5
  rcases List.mem_cons.mp h with rfl | h
  · exact rZ_6
  rcases List.mem_cons.mp h with rfl | h
  · exact rZ_7
  rcases List.mem_cons.mp h with rfl | h
  · exact rZ_8
  rcases List.mem_cons.mp h with rfl | h
  · exact rZ_9
  rcases List.mem_cons.mp h with rfl | h
  · exact rZ_10
  rcases List.mem_cons.mp h with rfl | h
  · exact rZ_11
  rcases List.mem_cons.mp h with rfl | h
  · exact rZ_12
  rcases List.mem_cons.mp h with rfl | h
  · exact rZ_13
  rcases List.mem_cons.mp h with rfl | h
  · exact rZ_14
  rcases List.mem_cons.mp h with rfl | h
  · exact rZ_15
  rcases List.mem_cons.mp h with rfl | h
  · exact rZ_16
  rcases List.mem_cons.mp h with rfl | h
  · exact rZ_17
  rcases List.mem_cons.mp h with rfl | h
  · exact rZ_18
  rcases List.mem_cons.mp h with rfl | h
  · exact rZ_19
  rcases List.mem_cons.mp h with rfl | h
  · exact rZ_20
  rcases List.mem_cons.mp h with rfl | h
  · exact rZ_21
  rcases List.mem_cons.mp h with rfl | h
  · exact rZ_22
  rcases List.mem_cons.mp h with rfl | h
  · exact rZ_23
  rcases List.mem_cons.mp h with rfl | h
  · exact rZ_24
  rcases List.mem_cons.mp h with rfl | h
  · exact rZ_25
  rcases List.mem_cons.mp h with rfl | h
  · exact rZ_26
  rcases List.mem_cons.mp h with rfl | h
  · exact rZ_27
  rcases List.mem_cons.mp h with rfl | h
  · exact rZ_28
  rcases List.mem_cons.mp h with rfl | h
  · exact rZ_29
  rcases List.mem_cons.mp h with rfl | h
  · exact rZ_30
  rcases List.mem_cons.mp h with rfl | h
  · exact rZ_31
  rcases List.mem_cons.mp h with rfl | h
  · exact rZ_32
  rcases List.mem_cons.mp h with rfl | h
  · exact rZ_33
  rcases List.mem_cons.mp h with rfl | h
  · exact rZ_34
  rcases List.mem_cons.mp h with rfl | h
  · exact rZ_35
  rcases List.mem_cons.mp h with rfl | h
  · exact rZ_36
  rcases List.mem_cons.mp h with rfl | h
  · exact rZ_37
  rcases List.mem_cons.mp h with rfl | h
  · exact rZ_38
  rcases List.mem_cons.mp h with rfl | h
  · exact rZ_39
  rcases List.mem_cons.mp h with rfl | h
  · exact rZ_40
  rcases List.mem_cons.mp h with rfl | h
  · exact rZ_41
  rcases List.mem_cons.mp h with rfl | h
  · exact rZ_42
  rcases List.mem_cons.mp h with rfl | h
  · exact rZ_43
  rcases List.mem_cons.mp h with rfl | h
  · exact rZ_44
  rcases List.mem_cons.mp h with rfl | h
  · exact rZ_45
  rcases List.mem_cons.mp h with rfl | h
  · exact rZ_46
  rcases List.mem_cons.mp h with rfl | h
  · exact rZ_47
  rcases List.mem_cons.mp h with rfl | h
  · exact rZ_48
  rcases List.mem_cons.mp h with rfl | h
  · exact rZ_49
  rcases List.mem_cons.mp h with rfl | h
  · exact rZ_50
  rcases List.mem_cons.mp h with rfl | h
  · exact rZ_51
  rcases List.mem_cons.mp h with rfl | h
  · exact rZ_52
  rcases List.mem_cons.mp h with rfl | h
  · exact rZ_53
  rcases List.mem_cons.mp h with rfl | h
  · exact rZ_54
  rcases List.mem_cons.mp h with rfl | h
  · exact rZ_55
  rcases List.mem_cons.mp h with rfl | h
  · exact rZ_56
  rcases List.mem_cons.mp h with rfl | h
  · exact rZ_57
  rcases List.mem_cons.mp h with rfl | h
  · exact rZ_58
  rcases List.mem_cons.mp h with rfl | h
  · exact rZ_59
  rcases List.mem_cons.mp h with rfl | h
  · exact rZ_60
  rcases List.mem_cons.mp h with rfl | h
  · exact rZ_61
  rcases List.mem_cons.mp h with rfl | h
  · exact rZ_62
  rcases List.mem_cons.mp h with rfl | h
  · exact rZ_63
  rcases List.mem_cons.mp h with rfl | h
  · exact rZ_64
  rcases List.mem_cons.mp h with rfl | h
  · exact rZ_65
  rcases List.mem_cons.mp h with rfl | h
  · exact rZ_66
  rcases List.mem_cons.mp h with rfl | h
  · exact rZ_67
  rcases List.mem_cons.mp h with rfl | h
  · exact rZ_68
  rcases List.mem_cons.mp h with rfl | h
  · exact rZ_69
  rcases List.mem_cons.mp h with rfl | h
  · exact rZ_70
  rcases List.mem_cons.mp h with rfl | h
  · exact rZ_71
  rcases List.mem_cons.mp h with rfl | h
  · exact rZ_72
  rcases List.mem_cons.mp h with rfl | h
  · exact rZ_73
  rcases List.mem_cons.mp h with rfl | h
  · exact rZ_74
  rcases List.mem_cons.mp h with rfl | h
  · exact rZ_75
  rcases List.mem_cons.mp h with rfl | h
  · exact rZ_76
  rcases List.mem_cons.mp h with rfl | h
  · exact rZ_77
  rcases List.mem_cons.mp h with rfl | h
  · exact rZ_78
  rcases List.mem_cons.mp h with rfl | h
  · exact rZ_79
  rcases List.mem_cons.mp h with rfl | h
  · exact rZ_80
  rcases List.mem_cons.mp h with rfl | h
  · exact rZ_81
  rcases List.mem_cons.mp h with rfl | h
  · exact rZ_82
  rcases List.mem_cons.mp h with rfl | h
  · exact rZ_83
  rcases List.mem_cons.mp h with rfl | h
  · exact rZ_84
  rcases List.mem_cons.mp h with rfl | h
  · exact rZ_85
  rcases List.mem_cons.mp h with rfl | h
  · exact rZ_86
  rcases List.mem_cons.mp h with rfl | h
  · exact rZ_87
  rcases List.mem_cons.mp h with rfl | h
  · exact rZ_88
  rcases List.mem_cons.mp h with rfl | h
  · exact rZ_89
  rcases List.mem_cons.mp h with rfl | h
  · exact rZ_90
  rcases List.mem_cons.mp h with rfl | h
  · exact rZ_91
  rcases List.mem_cons.mp h with rfl | h
  · exact rZ_92
  rcases List.mem_cons.mp h with rfl | h
  · exact rZ_93
  rcases List.mem_cons.mp h with rfl | h
  · exact rZ_94
  rcases List.mem_cons.mp h with rfl | h
  · exact rZ_95
  rcases List.mem_cons.mp h with rfl | h
  · exact rZ_96
  rcases List.mem_cons.mp h with rfl | h
  · exact rZ_97
  rcases List.mem_cons.mp h with rfl | h
  · exact rZ_98
  rcases List.mem_cons.mp h with rfl | h
  · exact rZ_99
  rcases List.mem_cons.mp h with rfl | h
  · exact rZ_100
  rcases List.mem_cons.mp h with rfl | h
  · exact rZ_101
  rcases List.mem_cons.mp h with rfl | h
  · exact rZ_102
  rcases List.mem_cons.mp h with rfl | h
  · exact rZ_103
  rcases List.mem_cons.mp h with rfl | h
  · exact rZ_104
  rcases List.mem_cons.mp h with rfl | h
  · exact rZ_105
  rcases List.mem_cons.mp h with rfl | h
  · exact rZ_106
  rcases List.mem_cons.mp h with rfl | h
  · exact rZ_107
  rcases List.mem_cons.mp h with rfl | h
  · exact rZ_108
  rcases List.mem_cons.mp h with rfl | h
  · exact rZ_109
  rcases List.mem_cons.mp h with rfl | h
  · exact rZ_110
  rcases List.mem_cons.mp h with rfl | h
  · exact rZ_111
  rcases List.mem_cons.mp h with rfl | h
  · exact rZ_112
  rcases List.mem_cons.mp h with rfl | h
  · exact rZ_113
  rcases List.mem_cons.mp h with rfl | h
  · exact rZ_114
  rcases List.mem_cons.mp h with rfl | h
  · exact rZ_115
  rcases List.mem_cons.mp h with rfl | h
  · exact rZ_116
  rcases List.mem_cons.mp h with rfl | h
  · exact rZ_117
  rcases List.mem_cons.mp h with rfl | h
  · exact rZ_118
  rcases List.mem_cons.mp h with rfl | h
  · exact rZ_119
  rcases List.mem_cons.mp h with rfl | h
  · exact rZ_120
  rcases List.mem_cons.mp h with rfl | h
  · exact rZ_121
  rcases List.mem_cons.mp h with rfl | h
  · exact rZ_122
  rcases List.mem_cons.mp h with rfl | h
  · exact rZ_123
  rcases List.mem_cons.mp h with rfl | h
  · exact rZ_124
  rcases List.mem_cons.mp h with rfl | h
  · exact rZ_125
  rcases List.mem_cons.mp h with rfl | h
  · exact rZ_126
  rcases List.mem_cons.mp h with rfl | h
  · exact rZ_127
  rcases List.mem_cons.mp h with rfl | h
  · exact rZ_128
  rcases List.mem_cons.mp h with rfl | h
  · exact rZ_129
  rcases List.mem_cons.mp h with rfl | h
  · exact rZ_130
  rcases List.mem_cons.mp h with rfl | h
  · exact rZ_131
  rcases List.mem_cons.mp h with rfl | h
  · exact rZ_132
  rcases List.mem_cons.mp h with rfl | h
  · exact rZ_133
  rcases List.mem_cons.mp h with rfl | h
  · exact rZ_134
  rcases List.mem_cons.mp h with rfl | h
  · exact rZ_135
  rcases List.mem_cons.mp h with rfl | h
  · exact rZ_136
  rcases List.mem_cons.mp h with rfl | h
  · exact rZ_137
  rcases List.mem_cons.mp h with rfl | h
  · exact rZ_138
  rcases List.mem_cons.mp h with rfl | h
  · exact rZ_139
  rcases List.mem_cons.mp h with rfl | h
  · exact rZ_140
  rcases List.mem_cons.mp h with rfl | h
  · exact rZ_141
  rcases List.mem_cons.mp h with rfl | h
  · exact rZ_142
  rcases List.mem_cons.mp h with rfl | h
  · exact rZ_143
  rcases List.mem_cons.mp h with rfl | h
  · exact rZ_144
  rcases List.mem_cons.mp h with rfl | h
  · exact rZ_145
  rcases List.mem_cons.mp h with rfl | h
  · exact rZ_146
  rcases List.mem_cons.mp h with rfl | h
  · exact rZ_147
  rcases List.mem_cons.mp h with rfl | h
  · exact rZ_148
  rcases List.mem_cons.mp h with rfl | h
  · exact rZ_149
  rcases List.mem_cons.mp h with rfl | h
  · exact rZ_150
  rcases List.mem_cons.mp h with rfl | h
  · exact rZ_151
  rcases List.mem_cons.mp h with rfl | h
  · exact rZ_152
  rcases List.mem_cons.mp h with rfl | h
  · exact rZ_153
  rcases List.mem_cons.mp h with rfl | h
  · exact rZ_154
  rcases List.mem_cons.mp h with rfl | h
  · exact rZ_155
  rcases List.mem_cons.mp h with rfl | h
  · exact rZ_156
  rcases List.mem_cons.mp h with rfl | h
  · exact rZ_157
  rcases List.mem_cons.mp h with rfl | h
  · exact rZ_158
  rcases List.mem_cons.mp h with rfl | h
  · exact rZ_159
  rcases List.mem_cons.mp h with rfl | h
  · exact rZ_160
  rcases List.mem_cons.mp h with rfl | h
  · exact rZ_161
  rcases List.mem_cons.mp h with rfl | h
  · exact rZ_162
  rcases List.mem_cons.mp h with rfl | h
  · exact rZ_163
  rcases List.mem_cons.mp h with rfl | h
  · exact rZ_164
  rcases List.mem_cons.mp h with rfl | h
  · exact rZ_165
  rcases List.mem_cons.mp h with rfl | h
  · exact rZ_166
  rcases List.mem_cons.mp h with rfl | h
  · exact rZ_167
  rcases List.mem_cons.mp h with rfl | h
  · exact rZ_168
  rcases List.mem_cons.mp h with rfl | h
  · exact rZ_169
  rcases List.mem_cons.mp h with rfl | h
  · exact rZ_170
  rcases List.mem_cons.mp h with rfl | h
  · exact rZ_171
  rcases List.mem_cons.mp h with rfl | h
  · exact rZ_172
  rcases List.mem_cons.mp h with rfl | h
  · exact rZ_173
  rcases List.mem_cons.mp h with rfl | h
  · exact rZ_174
  rcases List.mem_cons.mp h with rfl | h
  · exact rZ_175
  rcases List.mem_cons.mp h with rfl | h
  · exact rZ_176
  rcases List.mem_cons.mp h with rfl | h
  · exact rZ_177
  rcases List.mem_cons.mp h with rfl | h
  · exact rZ_178
  rcases List.mem_cons.mp h with rfl | h
  · exact rZ_179
  rcases List.mem_cons.mp h with rfl | h
  · exact rZ_180
  rcases List.mem_cons.mp h with rfl | h
  · exact rZ_181
  rcases List.mem_cons.mp h with rfl | h
  · exact rZ_182
  rcases List.mem_cons.mp h with rfl | h
  · exact rZ_183
  rcases List.mem_cons.mp h with rfl | h
  · exact rZ_184
  rcases List.mem_cons.mp h with rfl | h
  · exact rZ_185
  rcases List.mem_cons.mp h with rfl | h
  · exact rZ_186
  rcases List.mem_cons.mp h with rfl | h
  · exact rZ_187
  rcases List.mem_cons.mp h with rfl | h
  · exact rZ_188
  rcases List.mem_cons.mp h with rfl | h
  · exact rZ_189
  rcases List.mem_cons.mp h with rfl | h
  · exact rZ_190
  rcases List.mem_cons.mp h with rfl | h
  · exact rZ_191
  cases h
