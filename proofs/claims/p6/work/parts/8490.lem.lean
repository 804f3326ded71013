/-! lemmas -/
def sY_0 : tc_Lm := ql_nil 34 tS_34
theorem sZ_0 {RO : am_O} : tc_lmt tp_G RO tp_T sY_0 := ql_nil_ok rfl
def sY_1 : tc_Lm := ql_nil 35 tS_35
theorem sZ_1 {RO : am_O} : tc_lmt tp_G RO tp_T sY_1 := ql_nil_ok rfl
def sY_2 : tc_Lm := ql_open 35 tS_35
theorem sZ_2 {RO : am_O} : tc_lmt tp_G RO tp_T sY_2 := ql_open_ok rfl
def sY_3 : tc_Lm := ql_put 35 tS_35 9 [0]
theorem sZ_3 {RO : am_O} : tc_lmt tp_G RO tp_T sY_3 := ql_put_ok rfl (by decide)
def sY_4 : tc_Lm := ql_open 34 tS_34
theorem sZ_4 {RO : am_O} : tc_lmt tp_G RO tp_T sY_4 := ql_open_ok rfl
def sY_5 : tc_Lm := ql_less 35 tS_35 false
theorem sZ_5 {RO : am_O} : tc_lmt tp_G RO tp_T sY_5 := ql_less_ok rfl
def sY_6 : tc_Lm := sg_nil 24 tS_24
theorem sZ_6 {RO : am_O} : tc_lmt tp_G RO tp_T sY_6 := sg_nil_ok rfl
def sY_7 : tc_Lm := sg_nil 28 tS_28
theorem sZ_7 {RO : am_O} : tc_lmt tp_G RO tp_T sY_7 := sg_nil_ok rfl
def sY_8 : tc_Lm := ql_grow 35 tS_35
theorem sZ_8 {RO : am_O} : tc_lmt tp_G RO tp_T sY_8 := ql_grow_ok rfl
def sY_9 : tc_Lm := ql_shut 35 tS_35
theorem sZ_9 {RO : am_O} : tc_lmt tp_G RO tp_T sY_9 := ql_shut_ok rfl
def sY_10 : tc_Lm := ql_use 35 tS_35 false
theorem sZ_10 {RO : am_O} : tc_lmt tp_G RO tp_T sY_10 := ql_use_ok rfl
def sY_11 : tc_Lm := sg_snoc 24 tS_24 ([([(0, 1)], -161), ([(1, -1)], 127)], ([(1, 1)], 2)) [0, 1]
theorem sZ_11 {RO : am_O} : tc_lmt tp_G RO tp_T sY_11 := sg_snoc_ok rfl (by decide) (by decide)
def sY_12 : tc_Lm := sg_snoc 28 tS_28 ([([(1, -1)], 127)], ([(1, 1)], 2)) [1]
theorem sZ_12 {RO : am_O} : tc_lmt tp_G RO tp_T sY_12 := sg_snoc_ok rfl (by decide) (by decide)
def sY_13 : tc_Lm := sg_snoc 24 tS_24 ([([(0, 1)], -161), ([(1, 1)], -129), ([(1, -1)], 129)], ([(2, 1)], 3)) [0, 1, 2]
theorem sZ_13 {RO : am_O} : tc_lmt tp_G RO tp_T sY_13 := sg_snoc_ok rfl (by decide) (by decide)
def sY_14 : tc_Lm := sg_snoc 28 tS_28 ([([(1, 1)], -129), ([(1, -1)], 129)], ([(2, 1)], 3)) [1, 2]
theorem sZ_14 {RO : am_O} : tc_lmt tp_G RO tp_T sY_14 := sg_snoc_ok rfl (by decide) (by decide)
def sY_15 : tc_Lm := sg_snoc 24 tS_24 ([([(0, 1)], -161), ([(1, 1)], -130), ([(1, -1)], 130)], ([(2, 256), (3, 1)], 4)) [0, 1, 2, 3]
theorem sZ_15 {RO : am_O} : tc_lmt tp_G RO tp_T sY_15 := sg_snoc_ok rfl (by decide) (by decide)
def sY_16 : tc_Lm := sg_eq 24
theorem sZ_16 {RO : am_O} : tc_lmt tp_G RO tp_T sY_16 := sg_eq_ok (S := tS_24) rfl
def sY_17 : tc_Lm := sg_snoc 28 tS_28 ([([(1, 1)], -130), ([(1, -1)], 130)], ([(2, 256), (3, 1)], 4)) [1, 2, 3]
theorem sZ_17 {RO : am_O} : tc_lmt tp_G RO tp_T sY_17 := sg_snoc_ok rfl (by decide) (by decide)
def sY_18 : tc_Lm := sg_snoc 24 tS_24 ([([(0, 1)], -12), ([(0, -1)], 12), ([(1, -1)], 42)], ([(1, 1)], 2)) [0, 1]
theorem sZ_18 {RO : am_O} : tc_lmt tp_G RO tp_T sY_18 := sg_snoc_ok rfl (by decide) (by decide)
def sY_19 : tc_Lm := sg_snoc 24 tS_24 ([([(0, 1)], -2), ([(0, -1)], 2), ([(1, -1)], 4)], ([(1, 1)], 2)) [0, 1]
theorem sZ_19 {RO : am_O} : tc_lmt tp_G RO tp_T sY_19 := sg_snoc_ok rfl (by decide) (by decide)
def sY_20 : tc_Lm := sg_snoc 24 tS_24 ([([(0, 1)], -4), ([(0, -1)], 4), ([(1, -1)], 127)], ([(1, 1)], 2)) [0, 1]
theorem sZ_20 {RO : am_O} : tc_lmt tp_G RO tp_T sY_20 := sg_snoc_ok rfl (by decide) (by decide)
def sY_21 : tc_Lm := sg_snoc 24 tS_24 ([([(0, 1)], -4), ([(0, -1)], 4), ([(1, 1)], -129), ([(1, -1)], 129)], ([(2, 1)], 3)) [0, 1, 2]
theorem sZ_21 {RO : am_O} : tc_lmt tp_G RO tp_T sY_21 := sg_snoc_ok rfl (by decide) (by decide)
def sY_22 : tc_Lm := sg_snoc 24 tS_24 ([([(0, 1)], -4), ([(0, -1)], 4), ([(1, 1)], -130), ([(1, -1)], 130)], ([(2, 256), (3, 1)], 4)) [0, 1, 2, 3]
theorem sZ_22 {RO : am_O} : tc_lmt tp_G RO tp_T sY_22 := sg_snoc_ok rfl (by decide) (by decide)
def sY_23 : tc_Lm := ql_far 34 tS_34 9
theorem sZ_23 {RO : am_O} : tc_lmt tp_G RO tp_T sY_23 := ql_far_ok rfl
def sY_24 : tc_Lm := sg_snoc 24 tS_24 ([([(0, 1)], -48), ([(0, -1)], 48), ([(1, -1)], 127)], ([], 2)) [0, 1]
theorem sZ_24 {RO : am_O} : tc_lmt tp_G RO tp_T sY_24 := sg_snoc_ok rfl (by decide) (by decide)
def sY_25 : tc_Lm := ql_nil 36 tS_36
theorem sZ_25 {RO : am_O} : tc_lmt tp_G RO tp_T sY_25 := ql_nil_ok rfl
def sY_26 : tc_Lm := ql_open 36 tS_36
theorem sZ_26 {RO : am_O} : tc_lmt tp_G RO tp_T sY_26 := ql_open_ok rfl
def sY_27 : tc_Lm := ql_grow 36 tS_36
theorem sZ_27 {RO : am_O} : tc_lmt tp_G RO tp_T sY_27 := ql_grow_ok rfl
def sY_28 : tc_Lm := ql_shut 36 tS_36
theorem sZ_28 {RO : am_O} : tc_lmt tp_G RO tp_T sY_28 := ql_shut_ok rfl
def sY_29 : tc_Lm := ql_nil 37 tS_37
theorem sZ_29 {RO : am_O} : tc_lmt tp_G RO tp_T sY_29 := ql_nil_ok rfl
def sY_30 : tc_Lm := ql_open 37 tS_37
theorem sZ_30 {RO : am_O} : tc_lmt tp_G RO tp_T sY_30 := ql_open_ok rfl
def sY_31 : tc_Lm := ql_grow 37 tS_37
theorem sZ_31 {RO : am_O} : tc_lmt tp_G RO tp_T sY_31 := ql_grow_ok rfl
def sY_32 : tc_Lm := ql_shut 37 tS_37
theorem sZ_32 {RO : am_O} : tc_lmt tp_G RO tp_T sY_32 := ql_shut_ok rfl
def sY_33 : tc_Lm := ql_grow 34 tS_34
theorem sZ_33 {RO : am_O} : tc_lmt tp_G RO tp_T sY_33 := ql_grow_ok rfl
def sY_34 : tc_Lm := ql_shut 34 tS_34
theorem sZ_34 {RO : am_O} : tc_lmt tp_G RO tp_T sY_34 := ql_shut_ok rfl
def sY_35 : tc_Lm := sg_snoc 24 tS_24 ([([(0, 1)], -48), ([(0, -1)], 48), ([(1, 1)], -129), ([(1, -1)], 129)], ([], 3)) [0, 1]
theorem sZ_35 {RO : am_O} : tc_lmt tp_G RO tp_T sY_35 := sg_snoc_ok rfl (by decide) (by decide)
def sY_36 : tc_Lm := sg_snoc 24 tS_24 ([([(0, 1)], -48), ([(0, -1)], 48), ([(1, 1)], -130), ([(1, -1)], 130)], ([], 4)) [0, 1]
theorem sZ_36 {RO : am_O} : tc_lmt tp_G RO tp_T sY_36 := sg_snoc_ok rfl (by decide) (by decide)
def sY_37 : tc_Lm := sg_eq 28
theorem sZ_37 {RO : am_O} : tc_lmt tp_G RO tp_T sY_37 := sg_eq_ok (S := tS_28) rfl
def sY_38 : tc_Lm := ql_use 34 tS_34 false
theorem sZ_38 {RO : am_O} : tc_lmt tp_G RO tp_T sY_38 := ql_use_ok rfl
def sY_39 : tc_Lm := ql_use 37 tS_37 false
theorem sZ_39 {RO : am_O} : tc_lmt tp_G RO tp_T sY_39 := ql_use_ok rfl
def sY_40 : tc_Lm := ql_use 36 tS_36 false
theorem sZ_40 {RO : am_O} : tc_lmt tp_G RO tp_T sY_40 := ql_use_ok rfl
def sY_41 : tc_Lm := ql_far 36 tS_36 9
theorem sZ_41 {RO : am_O} : tc_lmt tp_G RO tp_T sY_41 := ql_far_ok rfl
def sY_42 : tc_Lm := ql_far 37 tS_37 9
theorem sZ_42 {RO : am_O} : tc_lmt tp_G RO tp_T sY_42 := ql_far_ok rfl
def sY_43 : tc_Lm := ql_less 34 tS_34 true
theorem sZ_43 {RO : am_O} : tc_lmt tp_G RO tp_T sY_43 := ql_less_ok rfl
def sY_44 : tc_Lm := ql_less 35 tS_35 true
theorem sZ_44 {RO : am_O} : tc_lmt tp_G RO tp_T sY_44 := ql_less_ok rfl
def sY_45 : tc_Lm := el_eq
theorem sZ_45 {RO : am_O} : tc_lmt tp_G RO tp_T sY_45 := el_eq_ok
def sY_46 : tc_Lm := cp_nil 31 tS_31
theorem sZ_46 {RO : am_O} : tc_lmt tp_G RO tp_T sY_46 := cp_nil_ok rfl
def sY_47 : tc_Lm := cp_put 31
theorem sZ_47 {RO : am_O} : tc_lmt tp_G RO tp_T sY_47 := cp_put_ok (S := tS_31) rfl (by decide)
def sY_48 : tc_Lm := cp_sg 31 24 25
theorem sZ_48 {RO : am_O} : tc_lmt tp_G RO tp_T sY_48 := cp_sg_ok (S := tS_31) (G := tS_24) (G' := tS_25) rfl rfl rfl rfl rfl
def sY_49 : tc_Lm := sg_min 25 tS_25 true
theorem sZ_49 {RO : am_O} : tc_lmt tp_G RO tp_T sY_49 := sg_min_ok rfl
def sY_50 : tc_Lm := sg_unc 25 tS_25 ([([(0, 1)], -48), ([(0, -1)], 48), ([(1, -1)], 127)], ([], 2)) [0, 1] [0, 2, 2, 1, 1, 1, 1, 1, 0, 0, 0, 1] true
theorem sZ_50 {RO : am_O} : tc_lmt tp_G RO tp_T sY_50 := sg_unc_ok rfl (by decide) (by decide)
def sY_51 : tc_Lm := sg_min 25 tS_25 false
theorem sZ_51 {RO : am_O} : tc_lmt tp_G RO tp_T sY_51 := sg_min_ok rfl
def sY_52 : tc_Lm := sg_unc 25 tS_25 ([([(0, 1)], -48), ([(0, -1)], 48), ([(1, -1)], 127)], ([], 2)) [0, 1] [0, 2, 2, 1, 1, 1, 1, 1, 0, 0, 0, 1] false
theorem sZ_52 {RO : am_O} : tc_lmt tp_G RO tp_T sY_52 := sg_unc_ok rfl (by decide) (by decide)
def sY_53 : tc_Lm := sg_unc 25 tS_25 ([([(0, 1)], -48), ([(0, -1)], 48), ([(1, 1)], -129), ([(1, -1)], 129)], ([], 3)) [0, 1] [2, 0, 2, 1, 1, 1, 1, 1, 0, 0, 0, 1] true
theorem sZ_53 {RO : am_O} : tc_lmt tp_G RO tp_T sY_53 := sg_unc_ok rfl (by decide) (by decide)
def sY_54 : tc_Lm := sg_unc 25 tS_25 ([([(0, 1)], -48), ([(0, -1)], 48), ([(1, 1)], -130), ([(1, -1)], 130)], ([], 4)) [0, 1] [2, 3, 0, 1, 1, 1, 1, 1, 0, 0, 0, 1] true
theorem sZ_54 {RO : am_O} : tc_lmt tp_G RO tp_T sY_54 := sg_unc_ok rfl (by decide) (by decide)
def sY_55 : tc_Lm := sg_unc 25 tS_25 ([([(0, 1)], -2), ([(0, -1)], 2), ([(1, -1)], 4)], ([(1, 1)], 2)) [0, 1] [0, 0, 0, 0, 0, 0, 0, 0, 0, 0, 0, 0] false
theorem sZ_55 {RO : am_O} : tc_lmt tp_G RO tp_T sY_55 := sg_unc_ok rfl (by decide) (by decide)
def sY_56 : tc_Lm := sg_unc 25 tS_25 ([([(0, 1)], -12), ([(0, -1)], 12), ([(1, -1)], 42)], ([(1, 1)], 2)) [0, 1] [0, 0, 0, 0, 1, 1, 1, 1, 0, 0, 0, 2] false
theorem sZ_56 {RO : am_O} : tc_lmt tp_G RO tp_T sY_56 := sg_unc_ok rfl (by decide) (by decide)
def sY_57 : tc_Lm := ql_miss 39 tS_39 14 [1]
theorem sZ_57 {RO : am_O} : tc_lmt tp_G RO tp_T sY_57 := ql_miss_ok rfl (by decide) (by decide)
def sY_58 : tc_Lm := ql_open 39 tS_39
theorem sZ_58 {RO : am_O} : tc_lmt tp_G RO tp_T sY_58 := ql_open_ok rfl
def sY_59 : tc_Lm := ql_put 39 tS_39 14 [0]
theorem sZ_59 {RO : am_O} : tc_lmt tp_G RO tp_T sY_59 := ql_put_ok rfl (by decide)
def sY_60 : tc_Lm := ql_less 39 tS_39 false
theorem sZ_60 {RO : am_O} : tc_lmt tp_G RO tp_T sY_60 := ql_less_ok rfl
def sY_61 : tc_Lm := sg_unc 25 tS_25 ([([(0, 1)], -48), ([(0, -1)], 48), ([(1, 1)], -129), ([(1, -1)], 129)], ([], 3)) [0, 1] [2, 0, 2, 1, 1, 1, 1, 1, 0, 0, 0, 1] false
theorem sZ_61 {RO : am_O} : tc_lmt tp_G RO tp_T sY_61 := sg_unc_ok rfl (by decide) (by decide)
def sY_62 : tc_Lm := sg_unc 25 tS_25 ([([(0, 1)], -48), ([(0, -1)], 48), ([(1, 1)], -130), ([(1, -1)], 130)], ([], 4)) [0, 1] [2, 3, 0, 1, 1, 1, 1, 1, 0, 0, 0, 1] false
theorem sZ_62 {RO : am_O} : tc_lmt tp_G RO tp_T sY_62 := sg_unc_ok rfl (by decide) (by decide)
def sY_63 : tc_Lm := sg_unc 25 tS_25 ([([(0, 1)], -4), ([(0, -1)], 4), ([(1, -1)], 127)], ([(1, 1)], 2)) [0, 1] [0, 0, 0, 0, 1, 0, 2, 2, 0, 0, 0, 0] false
theorem sZ_63 {RO : am_O} : tc_lmt tp_G RO tp_T sY_63 := sg_unc_ok rfl (by decide) (by decide)
def sY_64 : tc_Lm := sg_unc 25 tS_25 ([([(0, 1)], -4), ([(0, -1)], 4), ([(1, 1)], -129), ([(1, -1)], 129)], ([(2, 1)], 3)) [0, 1, 2] [0, 0, 0, 0, 1, 2, 0, 2, 0, 0, 0, 0] false
theorem sZ_64 {RO : am_O} : tc_lmt tp_G RO tp_T sY_64 := sg_unc_ok rfl (by decide) (by decide)
def sY_65 : tc_Lm := sg_unc 25 tS_25 ([([(0, 1)], -4), ([(0, -1)], 4), ([(1, 1)], -130), ([(1, -1)], 130)], ([(2, 256), (3, 1)], 4)) [0, 1, 2, 3] [0, 0, 0, 0, 1, 2, 3, 0, 0, 0, 0, 0] false
theorem sZ_65 {RO : am_O} : tc_lmt tp_G RO tp_T sY_65 := sg_unc_ok rfl (by decide) (by decide)
def sY_66 : tc_Lm := sg_eq 25
theorem sZ_66 {RO : am_O} : tc_lmt tp_G RO tp_T sY_66 := sg_eq_ok (S := tS_25) rfl
def sY_67 : tc_Lm := sg_unc 25 tS_25 ([([(0, 1)], -161), ([(1, -1)], 127)], ([(1, 1)], 2)) [0, 1] [1, 1, 1, 1, 1, 1, 1, 1, 0, 1, 1, 1] false
theorem sZ_67 {RO : am_O} : tc_lmt tp_G RO tp_T sY_67 := sg_unc_ok rfl (by decide) (by decide)
def sY_68 : tc_Lm := sg_unc 25 tS_25 ([([(0, 1)], -161), ([(1, 1)], -129), ([(1, -1)], 129)], ([(2, 1)], 3)) [0, 1, 2] [1, 1, 1, 1, 1, 1, 1, 1, 1, 0, 1, 1] false
theorem sZ_68 {RO : am_O} : tc_lmt tp_G RO tp_T sY_68 := sg_unc_ok rfl (by decide) (by decide)
def sY_69 : tc_Lm := sg_unc 25 tS_25 ([([(0, 1)], -161), ([(1, 1)], -130), ([(1, -1)], 130)], ([(2, 256), (3, 1)], 4)) [0, 1, 2, 3] [1, 1, 1, 1, 1, 1, 1, 1, 1, 2, 0, 1] false
theorem sZ_69 {RO : am_O} : tc_lmt tp_G RO tp_T sY_69 := sg_unc_ok rfl (by decide) (by decide)
def sY_70 : tc_Lm := cp_nil 33 tS_33
theorem sZ_70 {RO : am_O} : tc_lmt tp_G RO tp_T sY_70 := cp_nil_ok rfl
def sY_71 : tc_Lm := cp_slf 33 false
theorem sZ_71 {RO : am_O} : tc_lmt tp_G RO tp_T sY_71 := cp_slf_ok (S := tS_33) rfl
def sY_72 : tc_Lm := sg_put 25 false
theorem sZ_72 {RO : am_O} : tc_lmt tp_G RO tp_T sY_72 := sg_put_ok (S := tS_25) rfl
def sY_73 : tc_Lm := cp_sg 33 25 25
theorem sZ_73 {RO : am_O} : tc_lmt tp_G RO tp_T sY_73 := cp_sg_ok (S := tS_33) (G := tS_25) (G' := tS_25) rfl rfl rfl rfl rfl
def sY_74 : tc_Lm := ql_shut 39 tS_39
theorem sZ_74 {RO : am_O} : tc_lmt tp_G RO tp_T sY_74 := ql_shut_ok rfl
def sY_75 : tc_Lm := ql_open 38 tS_38
theorem sZ_75 {RO : am_O} : tc_lmt tp_G RO tp_T sY_75 := ql_open_ok rfl
def sY_76 : tc_Lm := ql_put 38 tS_38 23 [0]
theorem sZ_76 {RO : am_O} : tc_lmt tp_G RO tp_T sY_76 := ql_put_ok rfl (by decide)
def sY_77 : tc_Lm := ql_less 38 tS_38 false
theorem sZ_77 {RO : am_O} : tc_lmt tp_G RO tp_T sY_77 := ql_less_ok rfl
def sY_78 : tc_Lm := cp_nil 30 tS_30
theorem sZ_78 {RO : am_O} : tc_lmt tp_G RO tp_T sY_78 := cp_nil_ok rfl
def sY_79 : tc_Lm := cp_put 30
theorem sZ_79 {RO : am_O} : tc_lmt tp_G RO tp_T sY_79 := cp_put_ok (S := tS_30) rfl (by decide)
def sY_80 : tc_Lm := cp_sg 30 24 26
theorem sZ_80 {RO : am_O} : tc_lmt tp_G RO tp_T sY_80 := cp_sg_ok (S := tS_30) (G := tS_24) (G' := tS_26) rfl rfl rfl rfl rfl
def sY_81 : tc_Lm := cp_sg 30 28 29
theorem sZ_81 {RO : am_O} : tc_lmt tp_G RO tp_T sY_81 := cp_sg_ok (S := tS_30) (G := tS_28) (G' := tS_29) rfl rfl rfl rfl rfl
def sY_82 : tc_Lm := sg_min 26 tS_26 true
theorem sZ_82 {RO : am_O} : tc_lmt tp_G RO tp_T sY_82 := sg_min_ok rfl
def sY_83 : tc_Lm := sg_unc 26 tS_26 ([([(0, 1)], -48), ([(0, -1)], 48), ([(1, -1)], 127)], ([], 2)) [0, 1] [0, 2, 2, 1, 1, 1, 1, 1, 0, 0, 0, 1] true
theorem sZ_83 {RO : am_O} : tc_lmt tp_G RO tp_T sY_83 := sg_unc_ok rfl (by decide) (by decide)
def sY_84 : tc_Lm := sg_min 29 tS_29 true
theorem sZ_84 {RO : am_O} : tc_lmt tp_G RO tp_T sY_84 := sg_min_ok rfl
def sY_85 : tc_Lm := sg_unc 29 tS_29 ([([(1, -1)], 127)], ([(1, 1)], 2)) [1] [0, 0, 0] true
theorem sZ_85 {RO : am_O} : tc_lmt tp_G RO tp_T sY_85 := sg_unc_ok rfl (by decide) (by decide)
def sY_86 : tc_Lm := sg_zero 29 tS_29
theorem sZ_86 {RO : am_O} : tc_lmt tp_G RO tp_T sY_86 := sg_zero_ok rfl rfl
def sY_87 : tc_Lm := sg_min 26 tS_26 false
theorem sZ_87 {RO : am_O} : tc_lmt tp_G RO tp_T sY_87 := sg_min_ok rfl
def sY_88 : tc_Lm := sg_unc 26 tS_26 ([([(0, 1)], -48), ([(0, -1)], 48), ([(1, -1)], 127)], ([], 2)) [0, 1] [0, 2, 2, 1, 1, 1, 1, 1, 0, 0, 0, 1] false
theorem sZ_88 {RO : am_O} : tc_lmt tp_G RO tp_T sY_88 := sg_unc_ok rfl (by decide) (by decide)
def sY_89 : tc_Lm := sg_unc 26 tS_26 ([([(0, 1)], -48), ([(0, -1)], 48), ([(1, 1)], -129), ([(1, -1)], 129)], ([], 3)) [0, 1] [2, 0, 2, 1, 1, 1, 1, 1, 0, 0, 0, 1] true
theorem sZ_89 {RO : am_O} : tc_lmt tp_G RO tp_T sY_89 := sg_unc_ok rfl (by decide) (by decide)
def sY_90 : tc_Lm := sg_unc 29 tS_29 ([([(1, 1)], -129), ([(1, -1)], 129)], ([(2, 1)], 3)) [1, 2] [0, 0, 0] true
theorem sZ_90 {RO : am_O} : tc_lmt tp_G RO tp_T sY_90 := sg_unc_ok rfl (by decide) (by decide)
def sY_91 : tc_Lm := sg_unc 26 tS_26 ([([(0, 1)], -48), ([(0, -1)], 48), ([(1, 1)], -130), ([(1, -1)], 130)], ([], 4)) [0, 1] [2, 3, 0, 1, 1, 1, 1, 1, 0, 0, 0, 1] true
theorem sZ_91 {RO : am_O} : tc_lmt tp_G RO tp_T sY_91 := sg_unc_ok rfl (by decide) (by decide)
def sY_92 : tc_Lm := sg_unc 29 tS_29 ([([(1, 1)], -130), ([(1, -1)], 130)], ([(2, 256), (3, 1)], 4)) [1, 2, 3] [0, 1, 0] true
theorem sZ_92 {RO : am_O} : tc_lmt tp_G RO tp_T sY_92 := sg_unc_ok rfl (by decide) (by decide)
def sY_93 : tc_Lm := sg_eq 29
theorem sZ_93 {RO : am_O} : tc_lmt tp_G RO tp_T sY_93 := sg_eq_ok (S := tS_29) rfl
def sY_94 : tc_Lm := sg_unc 26 tS_26 ([([(0, 1)], -48), ([(0, -1)], 48), ([(1, 1)], -129), ([(1, -1)], 129)], ([], 3)) [0, 1] [2, 0, 2, 1, 1, 1, 1, 1, 0, 0, 0, 1] false
theorem sZ_94 {RO : am_O} : tc_lmt tp_G RO tp_T sY_94 := sg_unc_ok rfl (by decide) (by decide)
def sY_95 : tc_Lm := sg_unc 26 tS_26 ([([(0, 1)], -48), ([(0, -1)], 48), ([(1, 1)], -130), ([(1, -1)], 130)], ([], 4)) [0, 1] [2, 3, 0, 1, 1, 1, 1, 1, 0, 0, 0, 1] false
theorem sZ_95 {RO : am_O} : tc_lmt tp_G RO tp_T sY_95 := sg_unc_ok rfl (by decide) (by decide)
def sY_96 : tc_Lm := sg_unc 26 tS_26 ([([(0, 1)], -12), ([(0, -1)], 12), ([(1, -1)], 42)], ([(1, 1)], 2)) [0, 1] [0, 0, 0, 0, 1, 1, 1, 1, 0, 0, 0, 2] false
theorem sZ_96 {RO : am_O} : tc_lmt tp_G RO tp_T sY_96 := sg_unc_ok rfl (by decide) (by decide)
def sY_97 : tc_Lm := sg_unc 26 tS_26 ([([(0, 1)], -2), ([(0, -1)], 2), ([(1, -1)], 4)], ([(1, 1)], 2)) [0, 1] [0, 0, 0, 0, 0, 0, 0, 0, 0, 0, 0, 0] false
theorem sZ_97 {RO : am_O} : tc_lmt tp_G RO tp_T sY_97 := sg_unc_ok rfl (by decide) (by decide)
def sY_98 : tc_Lm := ql_shut 38 tS_38
theorem sZ_98 {RO : am_O} : tc_lmt tp_G RO tp_T sY_98 := ql_shut_ok rfl
def sY_99 : tc_Lm := ql_use 39 tS_39 false
theorem sZ_99 {RO : am_O} : tc_lmt tp_G RO tp_T sY_99 := ql_use_ok rfl
def sY_100 : tc_Lm := sh_nil 40 tS_40
theorem sZ_100 {RO : am_O} : tc_lmt tp_G RO tp_T sY_100 := sh_nil_ok rfl
def sY_101 : tc_Lm := sh_put 40
theorem sZ_101 {RO : am_O} : tc_lmt tp_G RO tp_T sY_101 := sh_put_ok (S := tS_40) rfl
def sY_102 : tc_Lm := sh_snoc 40 tS_40 ([([(0, 1)], -2), ([(0, -1)], 2), ([(1, -1)], 4)], ([(1, 1)], 2)) [0, 1]
theorem sZ_102 {RO : am_O} : tc_lmt tp_G RO tp_T sY_102 := sh_snoc_ok rfl (by decide) (by decide)
def sY_103 : tc_Lm := sh_eq 40
theorem sZ_103 {RO : am_O} : tc_lmt tp_G RO tp_T sY_103 := sh_eq_ok (S := tS_40) rfl
def sY_104 : tc_Lm := sh_snoc 40 tS_40 ([([(0, 1)], -12), ([(0, -1)], 12), ([(1, -1)], 42)], ([(1, 1)], 2)) [0, 1]
theorem sZ_104 {RO : am_O} : tc_lmt tp_G RO tp_T sY_104 := sh_snoc_ok rfl (by decide) (by decide)
def sY_105 : tc_Lm := sh_snoc 40 tS_40 ([([(0, 1)], -12), ([(0, -1)], 12), ([(1, 1)], -131)], ([], 2)) [0, 1]
theorem sZ_105 {RO : am_O} : tc_lmt tp_G RO tp_T sY_105 := sh_snoc_ok rfl (by decide) (by decide)
def sY_106 : tc_Lm := sh_sg 40 27
theorem sZ_106 {RO : am_O} : tc_lmt tp_G RO tp_T sY_106 := sh_sg_ok (S := tS_40) rfl rfl
def sY_107 : tc_Lm := sx_in 41 27
theorem sZ_107 {RO : am_O} : tc_lmt tp_G RO tp_T sY_107 := sx_in_ok (S := tS_41) rfl rfl
def sY_108 : tc_Lm := sx_put 41
theorem sZ_108 {RO : am_O} : tc_lmt tp_G RO tp_T sY_108 := sx_put_ok (S := tS_41) rfl
def sY_109 : tc_Lm := sx_out 41 27
theorem sZ_109 {RO : am_O} : tc_lmt tp_G RO tp_T sY_109 := sx_out_ok (S := tS_41) rfl rfl
def sY_110 : tc_Lm := sg_put 27 false
theorem sZ_110 {RO : am_O} : tc_lmt tp_G RO tp_T sY_110 := sg_put_ok (S := tS_27) rfl
def sY_111 : tc_Lm := sg_cons1 27 tS_27 ([([(0, 1)], -48), ([(0, -1)], 48), ([(1, -1)], 127)], ([], 2)) [0, 1]
theorem sZ_111 {RO : am_O} : tc_lmt tp_G RO tp_T sY_111 := sg_cons1_ok rfl (by decide) (by decide)
def sY_112 : tc_Lm := sg_sh 40 27
theorem sZ_112 {RO : am_O} : tc_lmt tp_G RO tp_T sY_112 := sg_sh_ok (S := tS_40) rfl rfl
def sY_113 : tc_Lm := sg_cons1 27 tS_27 ([([(0, 1)], -48), ([(0, -1)], 48), ([(1, 1)], -129), ([(1, -1)], 129)], ([], 3)) [0, 1]
theorem sZ_113 {RO : am_O} : tc_lmt tp_G RO tp_T sY_113 := sg_cons1_ok rfl (by decide) (by decide)
def sY_114 : tc_Lm := cp_nil 32 tS_32
theorem sZ_114 {RO : am_O} : tc_lmt tp_G RO tp_T sY_114 := cp_nil_ok rfl
def sY_115 : tc_Lm := cp_put 32
theorem sZ_115 {RO : am_O} : tc_lmt tp_G RO tp_T sY_115 := cp_put_ok (S := tS_32) rfl (by decide)
def sY_116 : tc_Lm := cp_sg 32 27 25
theorem sZ_116 {RO : am_O} : tc_lmt tp_G RO tp_T sY_116 := cp_sg_ok (S := tS_32) (G := tS_27) (G' := tS_25) rfl rfl rfl rfl rfl
def sY_117 : tc_Lm := sg_unc 25 tS_25 ([([(0, 1)], -2), ([(0, -1)], 2), ([(1, -1)], 4)], ([(1, 1)], 2)) [0, 1] [0, 0, 0, 0, 0, 0, 0, 0, 0, 0, 0, 0] true
theorem sZ_117 {RO : am_O} : tc_lmt tp_G RO tp_T sY_117 := sg_unc_ok rfl (by decide) (by decide)
def sY_118 : tc_Lm := sg_unc 25 tS_25 ([([(0, 1)], -12), ([(0, -1)], 12), ([(1, -1)], 42)], ([(1, 1)], 2)) [0, 1] [0, 0, 0, 0, 1, 1, 1, 1, 0, 0, 0, 2] true
theorem sZ_118 {RO : am_O} : tc_lmt tp_G RO tp_T sY_118 := sg_unc_ok rfl (by decide) (by decide)
def sY_119 : tc_Lm := sg_cons1 27 tS_27 ([([(0, 1)], -48), ([(0, -1)], 48), ([(1, 1)], -130), ([(1, -1)], 130)], ([], 4)) [0, 1]
theorem sZ_119 {RO : am_O} : tc_lmt tp_G RO tp_T sY_119 := sg_cons1_ok rfl (by decide) (by decide)
def ts_L : List tc_Lm := [sY_0, sY_1, sY_2, sY_3, sY_4, sY_5, sY_6, sY_7, sY_8, sY_9, sY_10, sY_11, sY_12, sY_13, sY_14, sY_15, sY_16, sY_17, sY_18, sY_19, sY_20, sY_21, sY_22, sY_23, sY_24, sY_25, sY_26, sY_27, sY_28, sY_29, sY_30, sY_31, sY_32, sY_33, sY_34, sY_35, sY_36, sY_37, sY_38, sY_39, sY_40, sY_41, sY_42, sY_43, sY_44, sY_45, sY_46, sY_47, sY_48, sY_49, sY_50, sY_51, sY_52, sY_53, sY_54, sY_55, sY_56, sY_57, sY_58, sY_59, sY_60, sY_61, sY_62, sY_63, sY_64, sY_65, sY_66, sY_67, sY_68, sY_69, sY_70, sY_71, sY_72, sY_73, sY_74, sY_75, sY_76, sY_77, sY_78, sY_79, sY_80, sY_81, sY_82, sY_83, sY_84, sY_85, sY_86, sY_87, sY_88, sY_89, sY_90, sY_91, sY_92, sY_93, sY_94, sY_95, sY_96, sY_97, sY_98, sY_99, sY_100, sY_101, sY_102, sY_103, sY_104, sY_105, sY_106, sY_107, sY_108, sY_109, sY_110, sY_111, sY_112, sY_113, sY_114, sY_115, sY_116, sY_117, sY_118, sY_119]
theorem ts_L_ok {RO : am_O} : ∀ c ∈ ts_L, tc_lmt tp_G RO tp_T c := by
  intro c h
  rcases List.mem_cons.mp h with rfl | h
  · exact sZ_0
  rcases List.mem_cons.mp h with rfl | h
  · exact sZ_1
  rcases List.mem_cons.mp h with rfl | h
  · exact sZ_2
  rcases List.mem_cons.mp h with rfl | h
  · exact sZ_3
  rcases List.mem_cons.mp h with rfl | h
  · exact sZ_4
  rcases List.mem_cons.mp h with rfl | h
  · exact sZ_5
  rcases List.mem_cons.mp h with rfl | h
  · exact sZ_6
  rcases List.mem_cons.mp h with rfl | h
  · exact sZ_7
  rcases List.mem_cons.mp h with rfl | h
  · exact sZ_8
  rcases List.mem_cons.mp h with rfl | h
  · exact sZ_9
  rcases List.mem_cons.mp h with rfl | h
  · exact sZ_10
  rcases List.mem_cons.mp h with rfl | h
  · exact sZ_11
  rcases List.mem_cons.mp h with rfl | h
  · exact sZ_12
  rcases List.mem_cons.mp h with rfl | h
  · exact sZ_13
  rcases List.mem_cons.mp h with rfl | h
  · exact sZ_14
  rcases List.mem_cons.mp h with rfl | h
  · exact sZ_15
  rcases List.mem_cons.mp h with rfl | h
  · exact sZ_16
  rcases List.mem_cons.mp h with rfl | h
  · exact sZ_17
  rcases List.mem_cons.mp h with rfl | h
  · exact sZ_18
  rcases List.mem_cons.mp h with rfl | h
  · exact sZ_19
  rcases List.mem_cons.mp h with rfl | h
  · exact sZ_20
  rcases List.mem_cons.mp h with rfl | h
  · exact sZ_21
  rcases List.mem_cons.mp h with rfl | h
  · exact sZ_22
  rcases List.mem_cons.mp h with rfl | h
  · exact sZ_23
  rcases List.mem_cons.mp h with rfl | h
  · exact sZ_24
  rcases List.mem_cons.mp h with rfl | h
  · exact sZ_25
  rcases List.mem_cons.mp h with rfl | h
  · exact sZ_26
  rcases List.mem_cons.mp h with rfl | h
  · exact sZ_27
  rcases List.mem_cons.mp h with rfl | h
  · exact sZ_28
  rcases List.mem_cons.mp h with rfl | h
  · exact sZ_29
  rcases List.mem_cons.mp h with rfl | h
  · exact sZ_30
  rcases List.mem_cons.mp h with rfl | h
  · exact sZ_31
  rcases List.mem_cons.mp h with rfl | h
  · exact sZ_32
  rcases List.mem_cons.mp h with rfl | h
  · exact sZ_33
  rcases List.mem_cons.mp h with rfl | h
  · exact sZ_34
  rcases List.mem_cons.mp h with rfl | h
  · exact sZ_35
  rcases List.mem_cons.mp h with rfl | h
  · exact sZ_36
  rcases List.mem_cons.mp h with rfl | h
  · exact sZ_37
  rcases List.mem_cons.mp h with rfl | h
  · exact sZ_38
  rcases List.mem_cons.mp h with rfl | h
  · exact sZ_39
  rcases List.mem_cons.mp h with rfl | h
  · exact sZ_40
  rcases List.mem_cons.mp h with rfl | h
  · exact sZ_41
  rcases List.mem_cons.mp h with rfl | h
  · exact sZ_42
  rcases List.mem_cons.mp h with rfl | h
  · exact sZ_43
  rcases List.mem_cons.mp h with rfl | h
  · exact sZ_44
  rcases List.mem_cons.mp h with rfl | h
  · exact sZ_45
  rcases List.mem_cons.mp h with rfl | h
  · exact sZ_46
  rcases List.mem_cons.mp h with rfl | h
  · exact sZ_47
  rcases List.mem_cons.mp h with rfl | h
  · exact sZ_48
  rcases List.mem_cons.mp h with rfl | h
  · exact sZ_49
  rcases List.mem_cons.mp h with rfl | h
  · exact sZ_50
  rcases List.mem_cons.mp h with rfl | h
  · exact sZ_51
  rcases List.mem_cons.mp h with rfl | h
  · exact sZ_52
  rcases List.mem_cons.mp h with rfl | h
  · exact sZ_53
  rcases List.mem_cons.mp h with rfl | h
  · exact sZ_54
  rcases List.mem_cons.mp h with rfl | h
  · exact sZ_55
  rcases List.mem_cons.mp h with rfl | h
  · exact sZ_56
  rcases List.mem_cons.mp h with rfl | h
  · exact sZ_57
  rcases List.mem_cons.mp h with rfl | h
  · exact sZ_58
  rcases List.mem_cons.mp h with rfl | h
  · exact sZ_59
  rcases List.mem_cons.mp h with rfl | h
  · exact sZ_60
  rcases List.mem_cons.mp h with rfl | h
  · exact sZ_61
  rcases List.mem_cons.mp h with rfl | h
  · exact sZ_62
  rcases List.mem_cons.mp h with rfl | h
  · exact sZ_63
  rcases List.mem_cons.mp h with rfl | h
  · exact sZ_64
  rcases List.mem_cons.mp h with rfl | h
  · exact sZ_65
  rcases List.mem_cons.mp h with rfl | h
  · exact sZ_66
  rcases List.mem_cons.mp h with rfl | h
  · exact sZ_67
  rcases List.mem_cons.mp h with rfl | h
  · exact sZ_68
  rcases List.mem_cons.mp h with rfl | h
  · exact sZ_69
  rcases List.mem_cons.mp h with rfl | h
  · exact sZ_70
  rcases List.mem_cons.mp h with rfl | h
  · exact sZ_71
  rcases List.mem_cons.mp h with rfl | h
  · exact sZ_72
  rcases List.mem_cons.mp h with rfl | h
  · exact sZ_73
  rcases List.mem_cons.mp h with rfl | h
  · exact sZ_74
  rcases List.mem_cons.mp h with rfl | h
  · exact sZ_75
  rcases List.mem_cons.mp h with rfl | h
  · exact sZ_76
  rcases List.mem_cons.mp h with rfl | h
  · exact sZ_77
  rcases List.mem_cons.mp h with rfl | h
  · exact sZ_78
  rcases List.mem_cons.mp h with rfl | h
  · exact sZ_79
  rcases List.mem_cons.mp h with rfl | h
  · exact sZ_80
  rcases List.mem_cons.mp h with rfl | h
  · exact sZ_81
  rcases List.mem_cons.mp h with rfl | h
  · exact sZ_82
  rcases List.mem_cons.mp h with rfl | h
  · exact sZ_83
  rcases List.mem_cons.mp h with rfl | h
  · exact sZ_84
  rcases List.mem_cons.mp h with rfl | h
  · exact sZ_85
  rcases List.mem_cons.mp h with rfl | h
  · exact sZ_86
  rcases List.mem_cons.mp h with rfl | h
  · exact sZ_87
  rcases List.mem_cons.mp h with rfl | h
  · exact sZ_88
  rcases List.mem_cons.mp h with rfl | h
  · exact sZ_89
  rcases List.mem_cons.mp h with rfl | h
  · exact sZ_90
  rcases List.mem_cons.mp h with rfl | h
  · exact sZ_91
  rcases List.mem_cons.mp h with rfl | h
  · exact sZ_92
  rcases List.mem_cons.mp h with rfl | h
  · exact sZ_93
  rcases List.mem_cons.mp h with rfl | h
  · exact sZ_94
  rcases List.mem_cons.mp h with rfl | h
  · exact sZ_95
  rcases List.mem_cons.mp h with rfl | h
  · exact sZ_96
  rcases List.mem_cons.mp h with rfl | h
  · exact sZ_97
  rcases List.mem_cons.mp h with rfl | h
  · exact sZ_98
  rcases List.mem_cons.mp h with rfl | h
  · exact sZ_99
  rcases List.mem_cons.mp h with rfl | h
  · exact sZ_100
  rcases List.mem_cons.mp h with rfl | h
  · exact sZ_101
  rcases List.mem_cons.mp h with rfl | h
  · exact sZ_102
  rcases List.mem_cons.mp h with rfl | h
  · exact sZ_103
  rcases List.mem_cons.mp h with rfl | h
  · exact sZ_104
  rcases List.mem_cons.mp h with rfl | h
  · exact sZ_105
  rcases List.mem_cons.mp h with rfl | h
  · exact sZ_106
  rcases List.mem_cons.mp h with rfl | h
  · exact sZ_107
  rcases List.mem_cons.mp h with rfl | h
  · exact sZ_108
  rcases List.mem_cons.mp h with rfl | h
  · exact sZ_109
  rcases List.mem_cons.mp h with rfl | h
  · exact sZ_110
  rcases List.mem_cons.mp h with rfl | h
  · exact sZ_111
  rcases List.mem_cons.mp h with rfl | h
  · exact sZ_112
  rcases List.mem_cons.mp h with rfl | h
  · exact sZ_113
  rcases List.mem_cons.mp h with rfl | h
  · exact sZ_114
  rcases List.mem_cons.mp h with rfl | h
  · exact sZ_115
  rcases List.mem_cons.mp h with rfl | h
  · exact sZ_116
  rcases List.mem_cons.mp h with rfl | h
  · exact sZ_117
  rcases List.mem_cons.mp h with rfl | h
  · exact sZ_118
  rcases List.mem_cons.mp h with rfl | h
  · exact sZ_119
  cases h
