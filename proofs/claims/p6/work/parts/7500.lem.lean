/-! lemmas -/
def tY_0 : tc_Lm := nn_use 60 46 212 175
theorem tZ_0 {RO : am_O} : tc_lmt tp_G RO tp_T tY_0 := nn_use_ok rfl rfl rfl rfl
def tY_1 : tc_Lm := ql_open 112 tS_112
theorem tZ_1 {RO : am_O} : tc_lmt tp_G RO tp_T tY_1 := ql_open_ok rfl
def tY_2 : tc_Lm := ql_put 112 tS_112 200 [0]
theorem tZ_2 {RO : am_O} : tc_lmt tp_G RO tp_T tY_2 := ql_put_ok rfl (by decide)
def tY_3 : tc_Lm := ql_less 112 tS_112 false
theorem tZ_3 {RO : am_O} : tc_lmt tp_G RO tp_T tY_3 := ql_less_ok rfl
def tY_4 : tc_Lm := ql_grow 112 tS_112
theorem tZ_4 {RO : am_O} : tc_lmt tp_G RO tp_T tY_4 := ql_grow_ok rfl
def tY_5 : tc_Lm := ql_shut 112 tS_112
theorem tZ_5 {RO : am_O} : tc_lmt tp_G RO tp_T tY_5 := ql_shut_ok rfl
def tY_6 : tc_Lm := ql_use 112 tS_112 false
theorem tZ_6 {RO : am_O} : tc_lmt tp_G RO tp_T tY_6 := ql_use_ok rfl
def tY_7 : tc_Lm := nk_nil 113 216
theorem tZ_7 {RO : am_O} : tc_lmt tp_G RO tp_T tY_7 := nk_nil_ok rfl rfl
def tY_8 : tc_Lm := nn_use 57 43 201 170
theorem tZ_8 {RO : am_O} : tc_lmt tp_G RO tp_T tY_8 := nn_use_ok rfl rfl rfl rfl
def tY_9 : tc_Lm := nk_nn 113 64
theorem tZ_9 {RO : am_O} : tc_lmt tp_G RO tp_T tY_9 := nk_nn_ok (k := 216) (K := 175) rfl rfl
def tY_10 : tc_Lm := nn_le 64
theorem tZ_10 {RO : am_O} : tc_lmt tp_G RO tp_T tY_10 := nn_le_ok (k := 216) rfl
def tY_11 : tc_Lm := ql_less 112 tS_112 true
theorem tZ_11 {RO : am_O} : tc_lmt tp_G RO tp_T tY_11 := ql_less_ok rfl
def tY_12 : tc_Lm := re_put 50 216
theorem tZ_12 {RO : am_O} : tc_lmt tp_G RO tp_T tY_12 := re_put_ok rfl
def tY_13 : tc_Lm := nk_put 113 2 175
theorem tZ_13 {RO : am_O} : tc_lmt tp_G RO tp_T tY_13 := nk_put_ok (k := 216) rfl (by decide)
def tY_14 : tc_Lm := nk_le 113
theorem tZ_14 {RO : am_O} : tc_lmt tp_G RO tp_T tY_14 := nk_le_ok (k := 216) rfl
def tY_15 : tc_Lm := nk_use 113 50 175
theorem tZ_15 {RO : am_O} : tc_lmt tp_G RO tp_T tY_15 := nk_use_ok (k := 216) rfl rfl
def tY_16 : tc_Lm := kn_use 95 94 tS_95 1
theorem tZ_16 {RO : am_O} : tc_lmt tp_G RO tp_T tY_16 := kn_use_ok (g := ql_a tS_94) rfl rfl
def tY_17 : tc_Lm := ql_use 94 tS_94 false
theorem tZ_17 {RO : am_O} : tc_lmt tp_G RO tp_T tY_17 := ql_use_ok rfl
def tY_18 : tc_Lm := kn_new 77 170 0
theorem tZ_18 {RO : am_O} : tc_lmt tp_G RO tp_T tY_18 := kn_new_ok (S := tS_77) (g := nn_a 219) rfl (nn_a_ok _) (by decide)
def tY_19 : tc_Lm := un_new 100 170
theorem tZ_19 {RO : am_O} : tc_lmt tp_G RO tp_T tY_19 := un_new_ok (j := 10) rfl
def tY_20 : tc_Lm := kn_new 72 170 0
theorem tZ_20 {RO : am_O} : tc_lmt tp_G RO tp_T tY_20 := kn_new_ok (S := tS_72) (g := nn_a 224) rfl (nn_a_ok _) (by decide)
def tY_21 : tc_Lm := kn_new 73 170 0
theorem tZ_21 {RO : am_O} : tc_lmt tp_G RO tp_T tY_21 := kn_new_ok (S := tS_73) (g := nn_a 225) rfl (nn_a_ok _) (by decide)
def tY_22 : tc_Lm := kn_new 79 170 1
theorem tZ_22 {RO : am_O} : tc_lmt tp_G RO tp_T tY_22 := kn_new_ok (S := tS_79) (g := ql_a tS_78) rfl (ql_a_ok _) (by decide)
def tY_23 : tc_Lm := kn_new 81 170 1
theorem tZ_23 {RO : am_O} : tc_lmt tp_G RO tp_T tY_23 := kn_new_ok (S := tS_81) (g := ql_a tS_80) rfl (ql_a_ok _) (by decide)
def tY_24 : tc_Lm := ij_new 101 170
theorem tZ_24 {RO : am_O} : tc_lmt tp_G RO tp_T tY_24 := ij_new_ok (j := 10) rfl
def tY_25 : tc_Lm := ij_shut 101 100 170 10
theorem tZ_25 {RO : am_O} : tc_lmt tp_G RO tp_T tY_25 := ij_shut_ok rfl rfl
def tY_26 : tc_Lm := ql_nil 80 tS_80
theorem tZ_26 {RO : am_O} : tc_lmt tp_G RO tp_T tY_26 := ql_nil_ok rfl
def tY_27 : tc_Lm := kn_shut 81 80 tS_81 1
theorem tZ_27 {RO : am_O} : tc_lmt tp_G RO tp_T tY_27 := kn_shut_ok (g := ql_a tS_80) rfl rfl rfl
def tY_28 : tc_Lm := ql_nil 78 tS_78
theorem tZ_28 {RO : am_O} : tc_lmt tp_G RO tp_T tY_28 := ql_nil_ok rfl
def tY_29 : tc_Lm := kn_shut 79 78 tS_79 1
theorem tZ_29 {RO : am_O} : tc_lmt tp_G RO tp_T tY_29 := kn_shut_ok (g := ql_a tS_78) rfl rfl rfl
def tY_30 : tc_Lm := nn_nil 66 225
theorem tZ_30 {RO : am_O} : tc_lmt tp_G RO tp_T tY_30 := nn_nil_ok rfl rfl
def tY_31 : tc_Lm := kn_shut 73 66 tS_73 0
theorem tZ_31 {RO : am_O} : tc_lmt tp_G RO tp_T tY_31 := kn_shut_ok (g := nn_a 225) rfl rfl rfl
def tY_32 : tc_Lm := nn_nil 65 224
theorem tZ_32 {RO : am_O} : tc_lmt tp_G RO tp_T tY_32 := nn_nil_ok rfl rfl
def tY_33 : tc_Lm := kn_shut 72 65 tS_72 0
theorem tZ_33 {RO : am_O} : tc_lmt tp_G RO tp_T tY_33 := kn_shut_ok (g := nn_a 224) rfl rfl rfl
def tY_34 : tc_Lm := kn_shut 77 56 tS_77 0
theorem tZ_34 {RO : am_O} : tc_lmt tp_G RO tp_T tY_34 := kn_shut_ok (g := nn_a 219) rfl rfl rfl
def tY_35 : tc_Lm := re_put 43 201
theorem tZ_35 {RO : am_O} : tc_lmt tp_G RO tp_T tY_35 := re_put_ok rfl
def tY_36 : tc_Lm := nn_put 57 2
theorem tZ_36 {RO : am_O} : tc_lmt tp_G RO tp_T tY_36 := nn_put_ok (k := 201) rfl (by decide)
def tY_37 : tc_Lm := kn_use 81 80 tS_81 1
theorem tZ_37 {RO : am_O} : tc_lmt tp_G RO tp_T tY_37 := kn_use_ok (g := ql_a tS_80) rfl rfl
def tY_38 : tc_Lm := kn_open 81 1
theorem tZ_38 {RO : am_O} : tc_lmt tp_G RO tp_T tY_38 := kn_open_ok (S := tS_81) (g := ql_a tS_80) rfl
def tY_39 : tc_Lm := kn_w2 81 7 1 170
theorem tZ_39 {RO : am_O} : tc_lmt tp_G RO tp_T tY_39 := kn_w2_ok (S := tS_81) (g := ql_a tS_80) rfl (ql_a_ok _) (by decide)
def tY_40 : tc_Lm := ql_open 80 tS_80
theorem tZ_40 {RO : am_O} : tc_lmt tp_G RO tp_T tY_40 := ql_open_ok rfl
def tY_41 : tc_Lm := ql_less 80 tS_80 true
theorem tZ_41 {RO : am_O} : tc_lmt tp_G RO tp_T tY_41 := ql_less_ok rfl
def tY_42 : tc_Lm := ql_put 80 tS_80 223 [0]
theorem tZ_42 {RO : am_O} : tc_lmt tp_G RO tp_T tY_42 := ql_put_ok rfl (by decide)
def tY_43 : tc_Lm := kn_wg 81 tS_80 (-1) true
theorem tZ_43 {RO : am_O} : tc_lmt tp_G RO tp_T tY_43 := kn_wg_ok (S := tS_81) rfl rfl rfl
def tY_44 : tc_Lm := ql_less 80 tS_80 false
theorem tZ_44 {RO : am_O} : tc_lmt tp_G RO tp_T tY_44 := ql_less_ok rfl
def tY_45 : tc_Lm := ql_shut 80 tS_80
theorem tZ_45 {RO : am_O} : tc_lmt tp_G RO tp_T tY_45 := ql_shut_ok rfl
def tY_46 : tc_Lm := ql_grow 80 tS_80
theorem tZ_46 {RO : am_O} : tc_lmt tp_G RO tp_T tY_46 := ql_grow_ok rfl
def tY_47 : tc_Lm := kn_use 72 65 tS_72 0
theorem tZ_47 {RO : am_O} : tc_lmt tp_G RO tp_T tY_47 := kn_use_ok (g := nn_a 224) rfl rfl
def tY_48 : tc_Lm := nn_use 65 51 224 169
theorem tZ_48 {RO : am_O} : tc_lmt tp_G RO tp_T tY_48 := nn_use_ok rfl rfl rfl rfl
def tY_49 : tc_Lm := un_new 108 173
theorem tZ_49 {RO : am_O} : tc_lmt tp_G RO tp_T tY_49 := un_new_ok (j := 9) rfl
def tY_50 : tc_Lm := kn_new 99 173 0
theorem tZ_50 {RO : am_O} : tc_lmt tp_G RO tp_T tY_50 := kn_new_ok (S := tS_99) (g := np_a 234 233) rfl (np_a_ok _ _) (by decide)
def tY_51 : tc_Lm := ij_new 109 173
theorem tZ_51 {RO : am_O} : tc_lmt tp_G RO tp_T tY_51 := ij_new_ok (j := 9) rfl
def tY_52 : tc_Lm := ij_shut 109 108 173 9
theorem tZ_52 {RO : am_O} : tc_lmt tp_G RO tp_T tY_52 := ij_shut_ok rfl rfl
def tY_53 : tc_Lm := np_nil 98 234 233
theorem tZ_53 {RO : am_O} : tc_lmt tp_G RO tp_T tY_53 := np_nil_ok rfl rfl
def tY_54 : tc_Lm := kn_shut 99 98 tS_99 0
theorem tZ_54 {RO : am_O} : tc_lmt tp_G RO tp_T tY_54 := kn_shut_ok (g := np_a 234 233) rfl rfl rfl
def tY_55 : tc_Lm := re_put 44 203
theorem tZ_55 {RO : am_O} : tc_lmt tp_G RO tp_T tY_55 := re_put_ok rfl
def tY_56 : tc_Lm := nn_put 58 2
theorem tZ_56 {RO : am_O} : tc_lmt tp_G RO tp_T tY_56 := nn_put_ok (k := 203) rfl (by decide)
def tY_57 : tc_Lm := nn_use 58 44 203 173
theorem tZ_57 {RO : am_O} : tc_lmt tp_G RO tp_T tY_57 := nn_use_ok rfl rfl rfl rfl
def tY_58 : tc_Lm := re_put 45 204
theorem tZ_58 {RO : am_O} : tc_lmt tp_G RO tp_T tY_58 := re_put_ok rfl
def tY_59 : tc_Lm := nn_put 59 2
theorem tZ_59 {RO : am_O} : tc_lmt tp_G RO tp_T tY_59 := nn_put_ok (k := 204) rfl (by decide)
def tY_60 : tc_Lm := kn_use 99 98 tS_99 0
theorem tZ_60 {RO : am_O} : tc_lmt tp_G RO tp_T tY_60 := kn_use_ok (g := np_a 234 233) rfl rfl
def tY_61 : tc_Lm := np_use 98 54 184
theorem tZ_61 {RO : am_O} : tc_lmt tp_G RO tp_T tY_61 := np_use_ok (k := 234) (kc := 233) rfl rfl rfl rfl
def tY_62 : tc_Lm := one_fd 71 166 0
theorem tZ_62 {RO : am_O} : tc_lmt tp_G RO tp_T tY_62 := one_fd_ok rfl
def tY_63 : tc_Lm := kn_use 139 138 tS_139 1
theorem tZ_63 {RO : am_O} : tc_lmt tp_G RO tp_T tY_63 := kn_use_ok (g := ql_a tS_138) rfl rfl
def tY_64 : tc_Lm := ql_use 138 tS_138 false
theorem tZ_64 {RO : am_O} : tc_lmt tp_G RO tp_T tY_64 := ql_use_ok rfl
def tY_65 : tc_Lm := kn_use 141 140 tS_141 1
theorem tZ_65 {RO : am_O} : tc_lmt tp_G RO tp_T tY_65 := kn_use_ok (g := ql_a tS_140) rfl rfl
def tY_66 : tc_Lm := ql_use 140 tS_140 false
theorem tZ_66 {RO : am_O} : tc_lmt tp_G RO tp_T tY_66 := ql_use_ok rfl
def tY_67 : tc_Lm := kn_mono 139 1 true
theorem tZ_67 {RO : am_O} : tc_lmt tp_G RO tp_T tY_67 := kn_mono2_ok (S := tS_139) (S1 := tS_138) rfl rfl rfl
def tY_68 : tc_Lm := sd_n1 128 226 0
theorem tZ_68 {RO : am_O} : tc_lmt tp_G RO tp_T tY_68 := sd_n1_ok (S := tS_128) rfl rfl
def tY_69 : tc_Lm := kn_mono 141 1 true
theorem tZ_69 {RO : am_O} : tc_lmt tp_G RO tp_T tY_69 := kn_mono2_ok (S := tS_141) (S1 := tS_140) rfl rfl rfl
def tY_70 : tc_Lm := sd_n1 137 227 0
theorem tZ_70 {RO : am_O} : tc_lmt tp_G RO tp_T tY_70 := sd_n1_ok (S := tS_137) rfl rfl
def tY_71 : tc_Lm := kn_new 76 172 0
theorem tZ_71 {RO : am_O} : tc_lmt tp_G RO tp_T tY_71 := kn_new_ok (S := tS_76) (g := nn_a 228) rfl (nn_a_ok _) (by decide)
def tY_72 : tc_Lm := sd_new 137 172
theorem tZ_72 {RO : am_O} : tc_lmt tp_G RO tp_T tY_72 := sd_new_ok (S := tS_137) rfl
def tY_73 : tc_Lm := un_new 131 172
theorem tZ_73 {RO : am_O} : tc_lmt tp_G RO tp_T tY_73 := un_new_ok (j := 3) rfl
def tY_74 : tc_Lm := un_new 133 172
theorem tZ_74 {RO : am_O} : tc_lmt tp_G RO tp_T tY_74 := un_new_ok (j := 4) rfl
def tY_75 : tc_Lm := un_new 129 172
theorem tZ_75 {RO : am_O} : tc_lmt tp_G RO tp_T tY_75 := un_new_ok (j := 6) rfl
def tY_76 : tc_Lm := ij_new 130 172
theorem tZ_76 {RO : am_O} : tc_lmt tp_G RO tp_T tY_76 := ij_new_ok (j := 6) rfl
def tY_77 : tc_Lm := ij_new 132 172
theorem tZ_77 {RO : am_O} : tc_lmt tp_G RO tp_T tY_77 := ij_new_ok (j := 3) rfl
def tY_78 : tc_Lm := ij_new 134 172
theorem tZ_78 {RO : am_O} : tc_lmt tp_G RO tp_T tY_78 := ij_new_ok (j := 4) rfl
def tY_79 : tc_Lm := ij_shut 134 133 172 4
theorem tZ_79 {RO : am_O} : tc_lmt tp_G RO tp_T tY_79 := ij_shut_ok rfl rfl
def tY_80 : tc_Lm := ij_shut 132 131 172 3
theorem tZ_80 {RO : am_O} : tc_lmt tp_G RO tp_T tY_80 := ij_shut_ok rfl rfl
def tY_81 : tc_Lm := ij_shut 130 129 172 6
theorem tZ_81 {RO : am_O} : tc_lmt tp_G RO tp_T tY_81 := ij_shut_ok rfl rfl
def tY_82 : tc_Lm := kn_shut 76 69 tS_76 0
theorem tZ_82 {RO : am_O} : tc_lmt tp_G RO tp_T tY_82 := kn_shut_ok (g := nn_a 228) rfl rfl rfl
def tY_83 : tc_Lm := sd_shut 137 1 tS_137
theorem tZ_83 {RO : am_O} : tc_lmt tp_G RO tp_T tY_83 := sd_shut_ok rfl (by decide) rfl
def tY_84 : tc_Lm := kn_new 75 171 0
theorem tZ_84 {RO : am_O} : tc_lmt tp_G RO tp_T tY_84 := kn_new_ok (S := tS_75) (g := nn_a 228) rfl (nn_a_ok _) (by decide)
def tY_85 : tc_Lm := sd_new 128 171
theorem tZ_85 {RO : am_O} : tc_lmt tp_G RO tp_T tY_85 := sd_new_ok (S := tS_128) rfl
def tY_86 : tc_Lm := un_new 122 171
theorem tZ_86 {RO : am_O} : tc_lmt tp_G RO tp_T tY_86 := un_new_ok (j := 3) rfl
def tY_87 : tc_Lm := un_new 124 171
theorem tZ_87 {RO : am_O} : tc_lmt tp_G RO tp_T tY_87 := un_new_ok (j := 4) rfl
def tY_88 : tc_Lm := un_new 120 171
theorem tZ_88 {RO : am_O} : tc_lmt tp_G RO tp_T tY_88 := un_new_ok (j := 6) rfl
def tY_89 : tc_Lm := kn_new 74 171 0
theorem tZ_89 {RO : am_O} : tc_lmt tp_G RO tp_T tY_89 := kn_new_ok (S := tS_74) (g := nn_a 229) rfl (nn_a_ok _) (by decide)
def tY_90 : tc_Lm := ij_new 121 171
theorem tZ_90 {RO : am_O} : tc_lmt tp_G RO tp_T tY_90 := ij_new_ok (j := 6) rfl
def tY_91 : tc_Lm := ij_new 123 171
theorem tZ_91 {RO : am_O} : tc_lmt tp_G RO tp_T tY_91 := ij_new_ok (j := 3) rfl
def tY_92 : tc_Lm := ij_new 125 171
theorem tZ_92 {RO : am_O} : tc_lmt tp_G RO tp_T tY_92 := ij_new_ok (j := 4) rfl
def tY_93 : tc_Lm := ij_shut 125 124 171 4
theorem tZ_93 {RO : am_O} : tc_lmt tp_G RO tp_T tY_93 := ij_shut_ok rfl rfl
def tY_94 : tc_Lm := ij_shut 123 122 171 3
theorem tZ_94 {RO : am_O} : tc_lmt tp_G RO tp_T tY_94 := ij_shut_ok rfl rfl
def tY_95 : tc_Lm := ij_shut 121 120 171 6
theorem tZ_95 {RO : am_O} : tc_lmt tp_G RO tp_T tY_95 := ij_shut_ok rfl rfl
def tY_96 : tc_Lm := nn_nil 67 229
theorem tZ_96 {RO : am_O} : tc_lmt tp_G RO tp_T tY_96 := nn_nil_ok rfl rfl
def tY_97 : tc_Lm := kn_shut 74 67 tS_74 0
theorem tZ_97 {RO : am_O} : tc_lmt tp_G RO tp_T tY_97 := kn_shut_ok (g := nn_a 229) rfl rfl rfl
def tY_98 : tc_Lm := kn_shut 75 69 tS_75 0
theorem tZ_98 {RO : am_O} : tc_lmt tp_G RO tp_T tY_98 := kn_shut_ok (g := nn_a 228) rfl rfl rfl
def tY_99 : tc_Lm := sd_shut 128 1 tS_128
theorem tZ_99 {RO : am_O} : tc_lmt tp_G RO tp_T tY_99 := sd_shut_ok rfl (by decide) rfl
def tY_100 : tc_Lm := rm_put 142 177 0 193 193
theorem tZ_100 {RO : am_O} : tc_lmt tp_G RO tp_T tY_100 := rm_put_ok (S := tS_142) (cap := 1600) rfl rfl rfl rfl
def tY_101 : tc_Lm := rm_le 142
theorem tZ_101 {RO : am_O} : tc_lmt tp_G RO tp_T tY_101 := rm_le_ok (S := tS_142) rfl
def tY_102 : tc_Lm := rm_put 142 178 0 193 193
theorem tZ_102 {RO : am_O} : tc_lmt tp_G RO tp_T tY_102 := rm_put_ok (S := tS_142) (cap := 2000) rfl rfl rfl rfl
def tY_103 : tc_Lm := ql_nil 114 tS_114
theorem tZ_103 {RO : am_O} : tc_lmt tp_G RO tp_T tY_103 := ql_nil_ok rfl
def tY_104 : tc_Lm := ql_far 114 tS_114 211
theorem tZ_104 {RO : am_O} : tc_lmt tp_G RO tp_T tY_104 := ql_far_ok rfl
def tY_105 : tc_Lm := ql_open 114 tS_114
theorem tZ_105 {RO : am_O} : tc_lmt tp_G RO tp_T tY_105 := ql_open_ok rfl
def tY_106 : tc_Lm := ql_grow 114 tS_114
theorem tZ_106 {RO : am_O} : tc_lmt tp_G RO tp_T tY_106 := ql_grow_ok rfl
def tY_107 : tc_Lm := ql_shut 114 tS_114
theorem tZ_107 {RO : am_O} : tc_lmt tp_G RO tp_T tY_107 := ql_shut_ok rfl
def tY_108 : tc_Lm := ql_use 114 tS_114 false
theorem tZ_108 {RO : am_O} : tc_lmt tp_G RO tp_T tY_108 := ql_use_ok rfl
def tY_109 : tc_Lm := ql_less 114 tS_114 true
theorem tZ_109 {RO : am_O} : tc_lmt tp_G RO tp_T tY_109 := ql_less_ok rfl
def tY_110 : tc_Lm := kn_new 85 175 0
theorem tZ_110 {RO : am_O} : tc_lmt tp_G RO tp_T tY_110 := kn_new_ok (S := tS_85) (g := ql_a tS_84) rfl (ql_a_ok _) (by decide)
def tY_111 : tc_Lm := kn_new 88 175 0
theorem tZ_111 {RO : am_O} : tc_lmt tp_G RO tp_T tY_111 := kn_new_ok (S := tS_88) (g := ql_a tS_86) rfl (ql_a_ok _) (by decide)
def tY_112 : tc_Lm := un_new 104 175
theorem tZ_112 {RO : am_O} : tc_lmt tp_G RO tp_T tY_112 := un_new_ok (j := 2) rfl
def tY_113 : tc_Lm := kn_new 95 175 1
theorem tZ_113 {RO : am_O} : tc_lmt tp_G RO tp_T tY_113 := kn_new_ok (S := tS_95) (g := ql_a tS_94) rfl (ql_a_ok _) (by decide)
def tY_114 : tc_Lm := ij_new 105 175
theorem tZ_114 {RO : am_O} : tc_lmt tp_G RO tp_T tY_114 := ij_new_ok (j := 2) rfl
def tY_115 : tc_Lm := ij_shut 105 104 175 2
theorem tZ_115 {RO : am_O} : tc_lmt tp_G RO tp_T tY_115 := ij_shut_ok rfl rfl
def tY_116 : tc_Lm := ql_nil 94 tS_94
theorem tZ_116 {RO : am_O} : tc_lmt tp_G RO tp_T tY_116 := ql_nil_ok rfl
def tY_117 : tc_Lm := ql_open 94 tS_94
theorem tZ_117 {RO : am_O} : tc_lmt tp_G RO tp_T tY_117 := ql_open_ok rfl
def tY_118 : tc_Lm := ql_grow 94 tS_94
theorem tZ_118 {RO : am_O} : tc_lmt tp_G RO tp_T tY_118 := ql_grow_ok rfl
def tY_119 : tc_Lm := kn_shut 88 86 tS_88 0
theorem tZ_119 {RO : am_O} : tc_lmt tp_G RO tp_T tY_119 := kn_shut_ok (g := ql_a tS_86) rfl rfl rfl
def tY_120 : tc_Lm := ql_mono 84 tS_84 1
theorem tZ_120 {RO : am_O} : tc_lmt tp_G RO tp_T tY_120 := ql_mono_ok rfl rfl
def tY_121 : tc_Lm := kn_shut 85 84 tS_85 0
theorem tZ_121 {RO : am_O} : tc_lmt tp_G RO tp_T tY_121 := kn_shut_ok (g := ql_a tS_84) rfl rfl rfl
def tY_122 : tc_Lm := re_put 46 212
theorem tZ_122 {RO : am_O} : tc_lmt tp_G RO tp_T tY_122 := re_put_ok rfl
def tY_123 : tc_Lm := nn_put 60 2
theorem tZ_123 {RO : am_O} : tc_lmt tp_G RO tp_T tY_123 := nn_put_ok (k := 212) rfl (by decide)
def tY_124 : tc_Lm := kn_mono 79 1 true
theorem tZ_124 {RO : am_O} : tc_lmt tp_G RO tp_T tY_124 := kn_mono_ok (S := tS_79) (S1 := tS_78) rfl rfl rfl
def tY_125 : tc_Lm := kn_mono 81 1 true
theorem tZ_125 {RO : am_O} : tc_lmt tp_G RO tp_T tY_125 := kn_mono_ok (S := tS_81) (S1 := tS_80) rfl rfl rfl
def tY_126 : tc_Lm := kn_mono 95 1 false
theorem tZ_126 {RO : am_O} : tc_lmt tp_G RO tp_T tY_126 := kn_mono2_ok (S := tS_95) (S1 := tS_94) rfl rfl rfl
def tY_127 : tc_Lm := ql_shut 94 tS_94
theorem tZ_127 {RO : am_O} : tc_lmt tp_G RO tp_T tY_127 := ql_shut_ok rfl
def tY_128 : tc_Lm := kn_shut 95 94 tS_95 1
theorem tZ_128 {RO : am_O} : tc_lmt tp_G RO tp_T tY_128 := kn_shut_ok (g := ql_a tS_94) rfl rfl rfl
def tY_129 : tc_Lm := kn_use 83 82 tS_83 0
theorem tZ_129 {RO : am_O} : tc_lmt tp_G RO tp_T tY_129 := kn_use_ok (g := ql_a tS_82) rfl rfl
def tY_130 : tc_Lm := ql_open 82 tS_82
theorem tZ_130 {RO : am_O} : tc_lmt tp_G RO tp_T tY_130 := ql_open_ok rfl
def tY_131 : tc_Lm := ql_put 82 tS_82 239 [2, 0]
theorem tZ_131 {RO : am_O} : tc_lmt tp_G RO tp_T tY_131 := ql_put_ok rfl (by decide)
def tY_132 : tc_Lm := kn_open 83 0
theorem tZ_132 {RO : am_O} : tc_lmt tp_G RO tp_T tY_132 := kn_open_ok (S := tS_83) (g := ql_a tS_82) rfl
def tY_133 : tc_Lm := ij_open 103 102 174 2
theorem tZ_133 {RO : am_O} : tc_lmt tp_G RO tp_T tY_133 := ij_open_ok rfl rfl
def tY_134 : tc_Lm := kn_w1 83 102 239 0
theorem tZ_134 {RO : am_O} : tc_lmt tp_G RO tp_T tY_134 := kn_w1_ok (S := tS_83) (g := ql_a tS_82) (j := 2) rfl rfl (ql_lc _) (by decide)
def tY_135 : tc_Lm := ij_shut 103 102 174 2
theorem tZ_135 {RO : am_O} : tc_lmt tp_G RO tp_T tY_135 := ij_shut_ok rfl rfl
def tY_136 : tc_Lm := ql_put 82 tS_82 239 [0, 1]
theorem tZ_136 {RO : am_O} : tc_lmt tp_G RO tp_T tY_136 := ql_put_ok rfl (by decide)
def tY_137 : tc_Lm := ql_shut 82 tS_82
theorem tZ_137 {RO : am_O} : tc_lmt tp_G RO tp_T tY_137 := ql_shut_ok rfl
def tY_138 : tc_Lm := kn_shut 83 82 tS_83 0
theorem tZ_138 {RO : am_O} : tc_lmt tp_G RO tp_T tY_138 := kn_shut_ok (g := ql_a tS_82) rfl rfl rfl
def tY_139 : tc_Lm := un_mk 104 240
theorem tZ_139 {RO : am_O} : tc_lmt tp_G RO tp_T tY_139 := un_mk_ok (K := 175) (j := 2) rfl (by decide) rfl
def tY_140 : tc_Lm := ql_mk 84 240 tS_84
theorem tZ_140 {RO : am_O} : tc_lmt tp_G RO tp_T tY_140 := ql_mk_ok rfl rfl
def tY_141 : tc_Lm := ql_mk 87 240 tS_87
theorem tZ_141 {RO : am_O} : tc_lmt tp_G RO tp_T tY_141 := ql_mk_ok rfl rfl
def tY_142 : tc_Lm := ql_two 84 87 86 16
theorem tZ_142 {RO : am_O} : tc_lmt tp_G RO tp_T tY_142 := ql_two_ok (k := 240) rfl rfl rfl
def tY_143 : tc_Lm := ql_open 84 tS_84
theorem tZ_143 {RO : am_O} : tc_lmt tp_G RO tp_T tY_143 := ql_open_ok rfl
def tY_144 : tc_Lm := ql_put 84 tS_84 240 [0]
theorem tZ_144 {RO : am_O} : tc_lmt tp_G RO tp_T tY_144 := ql_put_ok rfl (by decide)
def tY_145 : tc_Lm := ql_open 86 tS_86
theorem tZ_145 {RO : am_O} : tc_lmt tp_G RO tp_T tY_145 := ql_open_ok rfl
def tY_146 : tc_Lm := ql_put 86 tS_86 240 [2, 0]
theorem tZ_146 {RO : am_O} : tc_lmt tp_G RO tp_T tY_146 := ql_put_ok rfl (by decide)
def tY_147 : tc_Lm := kn_w1f 85 104 240 0
theorem tZ_147 {RO : am_O} : tc_lmt tp_G RO tp_T tY_147 := kn_w1f_ok (S := tS_85) (g := ql_a tS_84) (j := 2) rfl rfl (ql_lc _) (by decide)
def tY_148 : tc_Lm := kn_w1f 88 104 240 0
theorem tZ_148 {RO : am_O} : tc_lmt tp_G RO tp_T tY_148 := kn_w1f_ok (S := tS_88) (g := ql_a tS_86) (j := 2) rfl rfl (ql_lc _) (by decide)
def tY_149 : tc_Lm := ql_shut 84 tS_84
theorem tZ_149 {RO : am_O} : tc_lmt tp_G RO tp_T tY_149 := ql_shut_ok rfl
def tY_150 : tc_Lm := ql_put 86 tS_86 240 [0, 1]
theorem tZ_150 {RO : am_O} : tc_lmt tp_G RO tp_T tY_150 := ql_put_ok rfl (by decide)
def tY_151 : tc_Lm := ql_shut 86 tS_86
theorem tZ_151 {RO : am_O} : tc_lmt tp_G RO tp_T tY_151 := ql_shut_ok rfl
def tY_152 : tc_Lm := kn_new 90 176 0
theorem tZ_152 {RO : am_O} : tc_lmt tp_G RO tp_T tY_152 := kn_new_ok (S := tS_90) (g := ql_a tS_89) rfl (ql_a_ok _) (by decide)
def tY_153 : tc_Lm := kn_new 93 176 0
theorem tZ_153 {RO : am_O} : tc_lmt tp_G RO tp_T tY_153 := kn_new_ok (S := tS_93) (g := ql_a tS_91) rfl (ql_a_ok _) (by decide)
def tY_154 : tc_Lm := kn_new 118 176 0
theorem tZ_154 {RO : am_O} : tc_lmt tp_G RO tp_T tY_154 := kn_new_ok (S := tS_118) (g := m4_a 241) rfl (m4_a_ok _) (by decide)
def tY_155 : tc_Lm := un_new 106 176
theorem tZ_155 {RO : am_O} : tc_lmt tp_G RO tp_T tY_155 := un_new_ok (j := 2) rfl
def tY_156 : tc_Lm := ij_new 107 176
theorem tZ_156 {RO : am_O} : tc_lmt tp_G RO tp_T tY_156 := ij_new_ok (j := 2) rfl
def tY_157 : tc_Lm := ij_shut 107 106 176 2
theorem tZ_157 {RO : am_O} : tc_lmt tp_G RO tp_T tY_157 := ij_shut_ok rfl rfl
def tY_158 : tc_Lm := kn_shut 118 117 tS_118 0
theorem tZ_158 {RO : am_O} : tc_lmt tp_G RO tp_T tY_158 := kn_shut_ok (g := m4_a 241) rfl rfl rfl
def tY_159 : tc_Lm := kn_shut 93 91 tS_93 0
theorem tZ_159 {RO : am_O} : tc_lmt tp_G RO tp_T tY_159 := kn_shut_ok (g := ql_a tS_91) rfl rfl rfl
def tY_160 : tc_Lm := ql_mono 89 tS_89 1
theorem tZ_160 {RO : am_O} : tc_lmt tp_G RO tp_T tY_160 := ql_mono_ok rfl rfl
def tY_161 : tc_Lm := kn_shut 90 89 tS_90 0
theorem tZ_161 {RO : am_O} : tc_lmt tp_G RO tp_T tY_161 := kn_shut_ok (g := ql_a tS_89) rfl rfl rfl
def tY_162 : tc_Lm := re_put 47 213
theorem tZ_162 {RO : am_O} : tc_lmt tp_G RO tp_T tY_162 := re_put_ok rfl
def tY_163 : tc_Lm := nn_put 61 2
theorem tZ_163 {RO : am_O} : tc_lmt tp_G RO tp_T tY_163 := nn_put_ok (k := 213) rfl (by decide)
def tY_164 : tc_Lm := dv_q
theorem tZ_164 {RO : am_O} : tc_lmt tp_G RO tp_T tY_164 := dv_q_ok
def tY_165 : tc_Lm := dv_mk 116
theorem tZ_165 {RO : am_O} : tc_lmt tp_G RO tp_T tY_165 := dv_mk_ok rfl
def tY_166 : tc_Lm := dv_le 116
theorem tZ_166 {RO : am_O} : tc_lmt tp_G RO tp_T tY_166 := dv_le_ok rfl
def tY_167 : tc_Lm := dv_add 116
theorem tZ_167 {RO : am_O} : tc_lmt tp_G RO tp_T tY_167 := dv_add_ok rfl
def tY_168 : tc_Lm := un_mk 106 241
theorem tZ_168 {RO : am_O} : tc_lmt tp_G RO tp_T tY_168 := un_mk_ok (K := 176) (j := 2) rfl (by decide) rfl
def tY_169 : tc_Lm := m4_new 117 241
theorem tZ_169 {RO : am_O} : tc_lmt tp_G RO tp_T tY_169 := m4_new_ok rfl
def tY_170 : tc_Lm := ql_mk 89 241 tS_89
theorem tZ_170 {RO : am_O} : tc_lmt tp_G RO tp_T tY_170 := ql_mk_ok rfl rfl
def tY_171 : tc_Lm := ql_mk 92 241 tS_92
theorem tZ_171 {RO : am_O} : tc_lmt tp_G RO tp_T tY_171 := ql_mk_ok rfl rfl
def tY_172 : tc_Lm := ql_two 89 92 91 16
theorem tZ_172 {RO : am_O} : tc_lmt tp_G RO tp_T tY_172 := ql_two_ok (k := 241) rfl rfl rfl
def tY_173 : tc_Lm := ql_open 89 tS_89
theorem tZ_173 {RO : am_O} : tc_lmt tp_G RO tp_T tY_173 := ql_open_ok rfl
def tY_174 : tc_Lm := ql_put 89 tS_89 241 [0]
theorem tZ_174 {RO : am_O} : tc_lmt tp_G RO tp_T tY_174 := ql_put_ok rfl (by decide)
def tY_175 : tc_Lm := ql_open 91 tS_91
theorem tZ_175 {RO : am_O} : tc_lmt tp_G RO tp_T tY_175 := ql_open_ok rfl
def tY_176 : tc_Lm := ql_put 91 tS_91 241 [2, 0]
theorem tZ_176 {RO : am_O} : tc_lmt tp_G RO tp_T tY_176 := ql_put_ok rfl (by decide)
def tY_177 : tc_Lm := m4_w1 117 false
theorem tZ_177 {RO : am_O} : tc_lmt tp_G RO tp_T tY_177 := m4_w1_ok (k := 241) rfl
def tY_178 : tc_Lm := kn_w1f 90 106 241 0
theorem tZ_178 {RO : am_O} : tc_lmt tp_G RO tp_T tY_178 := kn_w1f_ok (S := tS_90) (g := ql_a tS_89) (j := 2) rfl rfl (ql_lc _) (by decide)
def tY_179 : tc_Lm := kn_w1f 93 106 241 0
theorem tZ_179 {RO : am_O} : tc_lmt tp_G RO tp_T tY_179 := kn_w1f_ok (S := tS_93) (g := ql_a tS_91) (j := 2) rfl rfl (ql_lc _) (by decide)
def tY_180 : tc_Lm := kn_w1f 118 106 241 0
theorem tZ_180 {RO : am_O} : tc_lmt tp_G RO tp_T tY_180 := kn_w1f_ok (S := tS_118) (g := m4_a 241) (j := 2) rfl rfl (m4_lc _) (by decide)
def tY_181 : tc_Lm := ql_shut 89 tS_89
theorem tZ_181 {RO : am_O} : tc_lmt tp_G RO tp_T tY_181 := ql_shut_ok rfl
def tY_182 : tc_Lm := ql_put 91 tS_91 241 [0, 1]
theorem tZ_182 {RO : am_O} : tc_lmt tp_G RO tp_T tY_182 := ql_put_ok rfl (by decide)
def tY_183 : tc_Lm := ql_shut 91 tS_91
theorem tZ_183 {RO : am_O} : tc_lmt tp_G RO tp_T tY_183 := ql_shut_ok rfl
def tY_184 : tc_Lm := m4_mk 117 116 241
theorem tZ_184 {RO : am_O} : tc_lmt tp_G RO tp_T tY_184 := m4_mk_ok rfl rfl
def tY_185 : tc_Lm := re_put 48 214
theorem tZ_185 {RO : am_O} : tc_lmt tp_G RO tp_T tY_185 := re_put_ok rfl
def tY_186 : tc_Lm := nn_put 62 2
theorem tZ_186 {RO : am_O} : tc_lmt tp_G RO tp_T tY_186 := nn_put_ok (k := 214) rfl (by decide)
def tY_187 : tc_Lm := rm_put 142 179 0 193 193
theorem tZ_187 {RO : am_O} : tc_lmt tp_G RO tp_T tY_187 := rm_put_ok (S := tS_142) (cap := 8192) rfl rfl rfl rfl
def tY_188 : tc_Lm := kn_use 85 84 tS_85 0
theorem tZ_188 {RO : am_O} : tc_lmt tp_G RO tp_T tY_188 := kn_use_ok (g := ql_a tS_84) rfl rfl
def tY_189 : tc_Lm := kn_use 88 86 tS_88 0
theorem tZ_189 {RO : am_O} : tc_lmt tp_G RO tp_T tY_189 := kn_use_ok (g := ql_a tS_86) rfl rfl
def tY_190 : tc_Lm := ql_use 86 tS_86 false
theorem tZ_190 {RO : am_O} : tc_lmt tp_G RO tp_T tY_190 := ql_use_ok rfl
def tY_191 : tc_Lm := ql_use 84 tS_84 false
theorem tZ_191 {RO : am_O} : tc_lmt tp_G RO tp_T tY_191 := ql_use_ok rfl
def tY_192 : tc_Lm := nn_use 62 48 214 176
theorem tZ_192 {RO : am_O} : tc_lmt tp_G RO tp_T tY_192 := nn_use_ok rfl rfl rfl rfl
def tY_193 : tc_Lm := nn_use 61 47 213 176
theorem tZ_193 {RO : am_O} : tc_lmt tp_G RO tp_T tY_193 := nn_use_ok rfl rfl rfl rfl
def tY_194 : tc_Lm := ql_use 82 tS_82 false
theorem tZ_194 {RO : am_O} : tc_lmt tp_G RO tp_T tY_194 := ql_use_ok rfl
def tY_195 : tc_Lm := kn_use 90 89 tS_90 0
theorem tZ_195 {RO : am_O} : tc_lmt tp_G RO tp_T tY_195 := kn_use_ok (g := ql_a tS_89) rfl rfl
def tY_196 : tc_Lm := kn_use 93 91 tS_93 0
theorem tZ_196 {RO : am_O} : tc_lmt tp_G RO tp_T tY_196 := kn_use_ok (g := ql_a tS_91) rfl rfl
def tY_197 : tc_Lm := kn_use 118 117 tS_118 0
theorem tZ_197 {RO : am_O} : tc_lmt tp_G RO tp_T tY_197 := kn_use_ok (g := m4_a 241) rfl rfl
def tY_198 : tc_Lm := ql_use 91 tS_91 false
theorem tZ_198 {RO : am_O} : tc_lmt tp_G RO tp_T tY_198 := ql_use_ok rfl
def tY_199 : tc_Lm := ql_use 89 tS_89 false
theorem tZ_199 {RO : am_O} : tc_lmt tp_G RO tp_T tY_199 := ql_use_ok rfl
def tY_200 : tc_Lm := m4_use 117 116
theorem tZ_200 {RO : am_O} : tc_lmt tp_G RO tp_T tY_200 := m4_use_ok (k := 241) rfl rfl
def tY_201 : tc_Lm := nn_ex 64 50
theorem tZ_201 {RO : am_O} : tc_lmt tp_G RO tp_T tY_201 := nn_ex_ok (k := 216) rfl rfl
def tY_202 : tc_Lm := kn_use 79 78 tS_79 1
theorem tZ_202 {RO : am_O} : tc_lmt tp_G RO tp_T tY_202 := kn_use_ok (g := ql_a tS_78) rfl rfl
def tY_203 : tc_Lm := ql_use 78 tS_78 false
theorem tZ_203 {RO : am_O} : tc_lmt tp_G RO tp_T tY_203 := ql_use_ok rfl
def tY_204 : tc_Lm := ql_nil 115 tS_115
theorem tZ_204 {RO : am_O} : tc_lmt tp_G RO tp_T tY_204 := ql_nil_ok rfl
def tY_205 : tc_Lm := ql_open 115 tS_115
theorem tZ_205 {RO : am_O} : tc_lmt tp_G RO tp_T tY_205 := ql_open_ok rfl
def tY_206 : tc_Lm := ql_grow 115 tS_115
theorem tZ_206 {RO : am_O} : tc_lmt tp_G RO tp_T tY_206 := ql_grow_ok rfl
def tY_207 : tc_Lm := ql_shut 115 tS_115
theorem tZ_207 {RO : am_O} : tc_lmt tp_G RO tp_T tY_207 := ql_shut_ok rfl
def tY_208 : tc_Lm := ql_use 115 tS_115 false
theorem tZ_208 {RO : am_O} : tc_lmt tp_G RO tp_T tY_208 := ql_use_ok rfl
def tY_209 : tc_Lm := ql_put 115 tS_115 211 [0]
theorem tZ_209 {RO : am_O} : tc_lmt tp_G RO tp_T tY_209 := ql_put_ok rfl (by decide)
def tY_210 : tc_Lm := nn_put 64 2
theorem tZ_210 {RO : am_O} : tc_lmt tp_G RO tp_T tY_210 := nn_put_ok (k := 216) rfl (by decide)
def tY_211 : tc_Lm := ql_far 115 tS_115 211
theorem tZ_211 {RO : am_O} : tc_lmt tp_G RO tp_T tY_211 := ql_far_ok rfl
def tY_212 : tc_Lm := ql_less 115 tS_115 false
theorem tZ_212 {RO : am_O} : tc_lmt tp_G RO tp_T tY_212 := ql_less_ok rfl
def tY_213 : tc_Lm := nn_nil 56 219
theorem tZ_213 {RO : am_O} : tc_lmt tp_G RO tp_T tY_213 := nn_nil_ok rfl rfl
def tY_214 : tc_Lm := re_put 42 219
theorem tZ_214 {RO : am_O} : tc_lmt tp_G RO tp_T tY_214 := re_put_ok rfl
def tY_215 : tc_Lm := nn_put 56 2
theorem tZ_215 {RO : am_O} : tc_lmt tp_G RO tp_T tY_215 := nn_put_ok (k := 219) rfl (by decide)
def tY_216 : tc_Lm := kn_w4 77 0 true
theorem tZ_216 {RO : am_O} : tc_lmt tp_G RO tp_T tY_216 := kn_w4_ok (S := tS_77) (g := nn_a 219) rfl (nn_g4 _)
def tY_217 : tc_Lm := rm_new 142 181 400
theorem tZ_217 {RO : am_O} : tc_lmt tp_G RO tp_T tY_217 := rm_new_ok (S := tS_142) (j := 0) rfl rfl
def tY_218 : tc_Lm := rm_drop 142
theorem tZ_218 {RO : am_O} : tc_lmt tp_G RO tp_T tY_218 := rm_drop_ok (S := tS_142) rfl
def tY_219 : tc_Lm := rm_new 142 182 80
theorem tZ_219 {RO : am_O} : tc_lmt tp_G RO tp_T tY_219 := rm_new_ok (S := tS_142) (j := 0) rfl rfl
def tY_220 : tc_Lm := un_mk 100 224
theorem tZ_220 {RO : am_O} : tc_lmt tp_G RO tp_T tY_220 := un_mk_ok (K := 170) (j := 10) rfl (by decide) rfl
def tY_221 : tc_Lm := rm_new 142 183 800
theorem tZ_221 {RO : am_O} : tc_lmt tp_G RO tp_T tY_221 := rm_new_ok (S := tS_142) (j := 0) rfl rfl
def tY_222 : tc_Lm := kn_use 77 56 tS_77 0
theorem tZ_222 {RO : am_O} : tc_lmt tp_G RO tp_T tY_222 := kn_use_ok (g := nn_a 219) rfl rfl
def tY_223 : tc_Lm := nn_use 56 42 219 220
theorem tZ_223 {RO : am_O} : tc_lmt tp_G RO tp_T tY_223 := nn_use_ok rfl rfl rfl rfl
def tY_224 : tc_Lm := rm_put 142 181 0 193 193
theorem tZ_224 {RO : am_O} : tc_lmt tp_G RO tp_T tY_224 := rm_put_ok (S := tS_142) (cap := 400) rfl rfl rfl rfl
def tY_225 : tc_Lm := ql_open 78 tS_78
theorem tZ_225 {RO : am_O} : tc_lmt tp_G RO tp_T tY_225 := ql_open_ok rfl
def tY_226 : tc_Lm := ql_put 78 tS_78 222 [0]
theorem tZ_226 {RO : am_O} : tc_lmt tp_G RO tp_T tY_226 := ql_put_ok rfl (by decide)
def tY_227 : tc_Lm := kn_wg 79 tS_78 (-1) true
theorem tZ_227 {RO : am_O} : tc_lmt tp_G RO tp_T tY_227 := kn_wg_ok (S := tS_79) rfl rfl rfl
def tY_228 : tc_Lm := ql_less 78 tS_78 false
theorem tZ_228 {RO : am_O} : tc_lmt tp_G RO tp_T tY_228 := ql_less_ok rfl
def tY_229 : tc_Lm := kn_open 79 1
theorem tZ_229 {RO : am_O} : tc_lmt tp_G RO tp_T tY_229 := kn_open_ok (S := tS_79) (g := ql_a tS_78) rfl
def tY_230 : tc_Lm := kn_w2 79 5 1 170
theorem tZ_230 {RO : am_O} : tc_lmt tp_G RO tp_T tY_230 := kn_w2_ok (S := tS_79) (g := ql_a tS_78) rfl (ql_a_ok _) (by decide)
def tY_231 : tc_Lm := ql_grow 78 tS_78
theorem tZ_231 {RO : am_O} : tc_lmt tp_G RO tp_T tY_231 := ql_grow_ok rfl
def tY_232 : tc_Lm := ql_shut 78 tS_78
theorem tZ_232 {RO : am_O} : tc_lmt tp_G RO tp_T tY_232 := ql_shut_ok rfl
def tY_233 : tc_Lm := rm_put 142 182 0 193 193
theorem tZ_233 {RO : am_O} : tc_lmt tp_G RO tp_T tY_233 := rm_put_ok (S := tS_142) (cap := 80) rfl rfl rfl rfl
def tY_234 : tc_Lm := re_put 51 224
theorem tZ_234 {RO : am_O} : tc_lmt tp_G RO tp_T tY_234 := re_put_ok rfl
def tY_235 : tc_Lm := nn_put 65 2
theorem tZ_235 {RO : am_O} : tc_lmt tp_G RO tp_T tY_235 := nn_put_ok (k := 224) rfl (by decide)
def tY_236 : tc_Lm := kn_w4 72 0 true
theorem tZ_236 {RO : am_O} : tc_lmt tp_G RO tp_T tY_236 := kn_w4_ok (S := tS_72) (g := nn_a 224) rfl (nn_g4 _)
def tY_237 : tc_Lm := kn_open 72 0
theorem tZ_237 {RO : am_O} : tc_lmt tp_G RO tp_T tY_237 := kn_open_ok (S := tS_72) (g := nn_a 224) rfl
def tY_238 : tc_Lm := ij_open 101 100 170 10
theorem tZ_238 {RO : am_O} : tc_lmt tp_G RO tp_T tY_238 := ij_open_ok rfl rfl
def tY_239 : tc_Lm := kn_w2 72 11 0 170
theorem tZ_239 {RO : am_O} : tc_lmt tp_G RO tp_T tY_239 := kn_w2_ok (S := tS_72) (g := nn_a 224) rfl (nn_a_ok _) (by decide)
def tY_240 : tc_Lm := kn_w6 72 100 224 0
theorem tZ_240 {RO : am_O} : tc_lmt tp_G RO tp_T tY_240 := kn_w6_ok (S := tS_72) (g := nn_a 224) (j := 10) rfl rfl (nn_lc _) (by decide)
def tY_241 : tc_Lm := nn_le 65
theorem tZ_241 {RO : am_O} : tc_lmt tp_G RO tp_T tY_241 := nn_le_ok (k := 224) rfl
def tY_242 : tc_Lm := nn_nul 65
theorem tZ_242 {RO : am_O} : tc_lmt tp_G RO tp_T tY_242 := nn_nul_ok (k := 224) rfl
def tY_243 : tc_Lm := nn_put 65 0
theorem tZ_243 {RO : am_O} : tc_lmt tp_G RO tp_T tY_243 := nn_put_ok (k := 224) rfl (by decide)
def tY_244 : tc_Lm := rm_put 142 183 0 193 193
theorem tZ_244 {RO : am_O} : tc_lmt tp_G RO tp_T tY_244 := rm_put_ok (S := tS_142) (cap := 800) rfl rfl rfl rfl
def tY_245 : tc_Lm := un_mk 108 233
theorem tZ_245 {RO : am_O} : tc_lmt tp_G RO tp_T tY_245 := un_mk_ok (K := 173) (j := 9) rfl (by decide) rfl
def tY_246 : tc_Lm := nn_nil 68 234
theorem tZ_246 {RO : am_O} : tc_lmt tp_G RO tp_T tY_246 := nn_nil_ok rfl rfl
def tY_247 : tc_Lm := re_put 54 234
theorem tZ_247 {RO : am_O} : tc_lmt tp_G RO tp_T tY_247 := re_put_ok rfl
def tY_248 : tc_Lm := g4_put 98 2 1
theorem tZ_248 {RO : am_O} : tc_lmt tp_G RO tp_T tY_248 := g4_put_ok rfl (np_g4 _ _)
def tY_249 : tc_Lm := nn_put 68 2
theorem tZ_249 {RO : am_O} : tc_lmt tp_G RO tp_T tY_249 := nn_put_ok (k := 234) rfl (by decide)
def tY_250 : tc_Lm := kn_w4 99 0 true
theorem tZ_250 {RO : am_O} : tc_lmt tp_G RO tp_T tY_250 := kn_w4_ok (S := tS_99) (g := np_a 234 233) rfl (np_g4 _ _)
def tY_251 : tc_Lm := kn_open 99 0
theorem tZ_251 {RO : am_O} : tc_lmt tp_G RO tp_T tY_251 := kn_open_ok (S := tS_99) (g := np_a 234 233) rfl
def tY_252 : tc_Lm := ij_open 109 108 173 9
theorem tZ_252 {RO : am_O} : tc_lmt tp_G RO tp_T tY_252 := ij_open_ok rfl rfl
def tY_253 : tc_Lm := kn_w1 99 108 233 0
theorem tZ_253 {RO : am_O} : tc_lmt tp_G RO tp_T tY_253 := kn_w1_ok (S := tS_99) (g := np_a 234 233) (j := 9) rfl rfl (np_lc _ _) (by decide)
def tY_254 : tc_Lm := np_w1 98
theorem tZ_254 {RO : am_O} : tc_lmt tp_G RO tp_T tY_254 := np_w1_ok (k := 234) (kc := 233) rfl
def tY_255 : tc_Lm := kn_w2 99 10 0 173
theorem tZ_255 {RO : am_O} : tc_lmt tp_G RO tp_T tY_255 := kn_w2_ok (S := tS_99) (g := np_a 234 233) rfl (np_a_ok _ _) (by decide)
def tY_256 : tc_Lm := np_grow 98 68
theorem tZ_256 {RO : am_O} : tc_lmt tp_G RO tp_T tY_256 := np_grow_ok (k := 234) (kc := 233) rfl rfl
def tY_257 : tc_Lm := nn_use 59 45 204 184
theorem tZ_257 {RO : am_O} : tc_lmt tp_G RO tp_T tY_257 := nn_use_ok rfl rfl rfl rfl
def tY_258 : tc_Lm := np_pos 98
theorem tZ_258 {RO : am_O} : tc_lmt tp_G RO tp_T tY_258 := np_pos_ok (k := 234) (kc := 233) rfl
def tY_259 : tc_Lm := rm_put 142 180 0 193 193
theorem tZ_259 {RO : am_O} : tc_lmt tp_G RO tp_T tY_259 := rm_put_ok (S := tS_142) (cap := 8192) rfl rfl rfl rfl
def tY_260 : tc_Lm := kn_new 141 188 1
theorem tZ_260 {RO : am_O} : tc_lmt tp_G RO tp_T tY_260 := kn_new_ok (S := tS_141) (g := ql_a tS_140) rfl (ql_a_ok _) (by decide)
def tY_261 : tc_Lm := rm_new 142 188 93912
theorem tZ_261 {RO : am_O} : tc_lmt tp_G RO tp_T tY_261 := rm_new_ok (S := tS_142) (j := 0) rfl rfl
def tY_262 : tc_Lm := ql_nil 140 tS_140
theorem tZ_262 {RO : am_O} : tc_lmt tp_G RO tp_T tY_262 := ql_nil_ok rfl
def tY_263 : tc_Lm := ql_open 140 tS_140
theorem tZ_263 {RO : am_O} : tc_lmt tp_G RO tp_T tY_263 := ql_open_ok rfl
def tY_264 : tc_Lm := ql_grow 140 tS_140
theorem tZ_264 {RO : am_O} : tc_lmt tp_G RO tp_T tY_264 := ql_grow_ok rfl
def tY_265 : tc_Lm := ql_shut 140 tS_140
theorem tZ_265 {RO : am_O} : tc_lmt tp_G RO tp_T tY_265 := ql_shut_ok rfl
def tY_266 : tc_Lm := kn_shut 141 140 tS_141 1
theorem tZ_266 {RO : am_O} : tc_lmt tp_G RO tp_T tY_266 := kn_shut_ok (g := ql_a tS_140) rfl rfl rfl
def tY_267 : tc_Lm := un_mk 131 190
theorem tZ_267 {RO : am_O} : tc_lmt tp_G RO tp_T tY_267 := un_mk_ok (K := 172) (j := 3) rfl (by decide) rfl
def tY_268 : tc_Lm := un_new 135 190
theorem tZ_268 {RO : am_O} : tc_lmt tp_G RO tp_T tY_268 := un_new_ok (j := 0) rfl
def tY_269 : tc_Lm := rm_new 142 190 640
theorem tZ_269 {RO : am_O} : tc_lmt tp_G RO tp_T tY_269 := rm_new_ok (S := tS_142) (j := 0) rfl rfl
def tY_270 : tc_Lm := ij_new 136 190
theorem tZ_270 {RO : am_O} : tc_lmt tp_G RO tp_T tY_270 := ij_new_ok (j := 0) rfl
def tY_271 : tc_Lm := ij_shut 136 135 190 0
theorem tZ_271 {RO : am_O} : tc_lmt tp_G RO tp_T tY_271 := ij_shut_ok rfl rfl
def tY_272 : tc_Lm := un_mk 133 192
theorem tZ_272 {RO : am_O} : tc_lmt tp_G RO tp_T tY_272 := un_mk_ok (K := 172) (j := 4) rfl (by decide) rfl
def tY_273 : tc_Lm := rm_new 142 192 6000
theorem tZ_273 {RO : am_O} : tc_lmt tp_G RO tp_T tY_273 := rm_new_ok (S := tS_142) (j := 0) rfl rfl
def tY_274 : tc_Lm := rm_new 142 186 4000
theorem tZ_274 {RO : am_O} : tc_lmt tp_G RO tp_T tY_274 := rm_new_ok (S := tS_142) (j := 0) rfl rfl
def tY_275 : tc_Lm := un_mk 129 227
theorem tZ_275 {RO : am_O} : tc_lmt tp_G RO tp_T tY_275 := un_mk_ok (K := 172) (j := 6) rfl (by decide) rfl
def tY_276 : tc_Lm := nn_nil 69 228
theorem tZ_276 {RO : am_O} : tc_lmt tp_G RO tp_T tY_276 := nn_nil_ok rfl rfl
def tY_277 : tc_Lm := re_put 55 228
theorem tZ_277 {RO : am_O} : tc_lmt tp_G RO tp_T tY_277 := re_put_ok rfl
def tY_278 : tc_Lm := nn_put 69 2
theorem tZ_278 {RO : am_O} : tc_lmt tp_G RO tp_T tY_278 := nn_put_ok (k := 228) rfl (by decide)
def tY_279 : tc_Lm := kn_w4 75 0 true
theorem tZ_279 {RO : am_O} : tc_lmt tp_G RO tp_T tY_279 := kn_w4_ok (S := tS_75) (g := nn_a 228) rfl (nn_g4 _)
def tY_280 : tc_Lm := kn_w4 76 0 true
theorem tZ_280 {RO : am_O} : tc_lmt tp_G RO tp_T tY_280 := kn_w4_ok (S := tS_76) (g := nn_a 228) rfl (nn_g4 _)
def tY_281 : tc_Lm := un_mk 135 195
theorem tZ_281 {RO : am_O} : tc_lmt tp_G RO tp_T tY_281 := un_mk_ok (K := 190) (j := 0) rfl (by decide) rfl
def tY_282 : tc_Lm := kn_new 139 187 1
theorem tZ_282 {RO : am_O} : tc_lmt tp_G RO tp_T tY_282 := kn_new_ok (S := tS_139) (g := ql_a tS_138) rfl (ql_a_ok _) (by decide)
def tY_283 : tc_Lm := rm_new 142 187 89312
theorem tZ_283 {RO : am_O} : tc_lmt tp_G RO tp_T tY_283 := rm_new_ok (S := tS_142) (j := 0) rfl rfl
def tY_284 : tc_Lm := ql_nil 138 tS_138
theorem tZ_284 {RO : am_O} : tc_lmt tp_G RO tp_T tY_284 := ql_nil_ok rfl
def tY_285 : tc_Lm := ql_open 138 tS_138
theorem tZ_285 {RO : am_O} : tc_lmt tp_G RO tp_T tY_285 := ql_open_ok rfl
def tY_286 : tc_Lm := ql_grow 138 tS_138
theorem tZ_286 {RO : am_O} : tc_lmt tp_G RO tp_T tY_286 := ql_grow_ok rfl
def tY_287 : tc_Lm := ql_shut 138 tS_138
theorem tZ_287 {RO : am_O} : tc_lmt tp_G RO tp_T tY_287 := ql_shut_ok rfl
def tY_288 : tc_Lm := kn_shut 139 138 tS_139 1
theorem tZ_288 {RO : am_O} : tc_lmt tp_G RO tp_T tY_288 := kn_shut_ok (g := ql_a tS_138) rfl rfl rfl
def tY_289 : tc_Lm := un_mk 122 189
theorem tZ_289 {RO : am_O} : tc_lmt tp_G RO tp_T tY_289 := un_mk_ok (K := 171) (j := 3) rfl (by decide) rfl
def tY_290 : tc_Lm := un_new 126 189
theorem tZ_290 {RO : am_O} : tc_lmt tp_G RO tp_T tY_290 := un_new_ok (j := 0) rfl
def tY_291 : tc_Lm := rm_new 142 189 640
theorem tZ_291 {RO : am_O} : tc_lmt tp_G RO tp_T tY_291 := rm_new_ok (S := tS_142) (j := 0) rfl rfl
def tY_292 : tc_Lm := ij_new 127 189
theorem tZ_292 {RO : am_O} : tc_lmt tp_G RO tp_T tY_292 := ij_new_ok (j := 0) rfl
def tY_293 : tc_Lm := ij_shut 127 126 189 0
theorem tZ_293 {RO : am_O} : tc_lmt tp_G RO tp_T tY_293 := ij_shut_ok rfl rfl
def tY_294 : tc_Lm := un_mk 124 191
theorem tZ_294 {RO : am_O} : tc_lmt tp_G RO tp_T tY_294 := un_mk_ok (K := 171) (j := 4) rfl (by decide) rfl
def tY_295 : tc_Lm := rm_new 142 191 6000
theorem tZ_295 {RO : am_O} : tc_lmt tp_G RO tp_T tY_295 := rm_new_ok (S := tS_142) (j := 0) rfl rfl
def tY_296 : tc_Lm := un_mk 120 226
theorem tZ_296 {RO : am_O} : tc_lmt tp_G RO tp_T tY_296 := un_mk_ok (K := 171) (j := 6) rfl (by decide) rfl
def tY_297 : tc_Lm := un_mk 126 194
theorem tZ_297 {RO : am_O} : tc_lmt tp_G RO tp_T tY_297 := un_mk_ok (K := 189) (j := 0) rfl (by decide) rfl
def tY_298 : tc_Lm := kn_use 74 67 tS_74 0
theorem tZ_298 {RO : am_O} : tc_lmt tp_G RO tp_T tY_298 := kn_use_ok (g := nn_a 229) rfl rfl
def tY_299 : tc_Lm := re_put 53 229
theorem tZ_299 {RO : am_O} : tc_lmt tp_G RO tp_T tY_299 := re_put_ok rfl
def tY_300 : tc_Lm := nn_put 67 2
theorem tZ_300 {RO : am_O} : tc_lmt tp_G RO tp_T tY_300 := nn_put_ok (k := 229) rfl (by decide)
def tY_301 : tc_Lm := kn_w4 74 0 true
theorem tZ_301 {RO : am_O} : tc_lmt tp_G RO tp_T tY_301 := kn_w4_ok (S := tS_74) (g := nn_a 229) rfl (nn_g4 _)
def tY_302 : tc_Lm := kn_open 74 0
theorem tZ_302 {RO : am_O} : tc_lmt tp_G RO tp_T tY_302 := kn_open_ok (S := tS_74) (g := nn_a 229) rfl
def tY_303 : tc_Lm := kn_w2 74 24 0 171
theorem tZ_303 {RO : am_O} : tc_lmt tp_G RO tp_T tY_303 := kn_w2_ok (S := tS_74) (g := nn_a 229) rfl (nn_a_ok _) (by decide)
def tY_304 : tc_Lm := nn_use 67 53 229 169
theorem tZ_304 {RO : am_O} : tc_lmt tp_G RO tp_T tY_304 := nn_use_ok rfl rfl rfl rfl
def tY_305 : tc_Lm := kn_use 75 69 tS_75 0
theorem tZ_305 {RO : am_O} : tc_lmt tp_G RO tp_T tY_305 := kn_use_ok (g := nn_a 228) rfl rfl
def tY_306 : tc_Lm := nn_use 69 55 228 167
theorem tZ_306 {RO : am_O} : tc_lmt tp_G RO tp_T tY_306 := nn_use_ok rfl rfl rfl rfl
def tY_307 : tc_Lm := kn_open 139 1
theorem tZ_307 {RO : am_O} : tc_lmt tp_G RO tp_T tY_307 := kn_open_ok (S := tS_139) (g := ql_a tS_138) rfl
def tY_308 : tc_Lm := kn_w2 139 1 1 187
theorem tZ_308 {RO : am_O} : tc_lmt tp_G RO tp_T tY_308 := kn_w2_ok (S := tS_139) (g := ql_a tS_138) rfl (ql_a_ok _) (by decide)
def tY_309 : tc_Lm := rm_put 142 187 0 193 193
theorem tZ_309 {RO : am_O} : tc_lmt tp_G RO tp_T tY_309 := rm_put_ok (S := tS_142) (cap := 89312) rfl rfl rfl rfl
def tY_310 : tc_Lm := kn_open 141 1
theorem tZ_310 {RO : am_O} : tc_lmt tp_G RO tp_T tY_310 := kn_open_ok (S := tS_141) (g := ql_a tS_140) rfl
def tY_311 : tc_Lm := kn_w2 141 1 1 188
theorem tZ_311 {RO : am_O} : tc_lmt tp_G RO tp_T tY_311 := kn_w2_ok (S := tS_141) (g := ql_a tS_140) rfl (ql_a_ok _) (by decide)
def tY_312 : tc_Lm := rm_put 142 188 0 193 193
theorem tZ_312 {RO : am_O} : tc_lmt tp_G RO tp_T tY_312 := rm_put_ok (S := tS_142) (cap := 93912) rfl rfl rfl rfl
def tY_313 : tc_Lm := kn_use 76 69 tS_76 0
theorem tZ_313 {RO : am_O} : tc_lmt tp_G RO tp_T tY_313 := kn_use_ok (g := nn_a 228) rfl rfl
def tY_314 : tc_Lm := sd_use 128 tS_128 true
theorem tZ_314 {RO : am_O} : tc_lmt tp_G RO tp_T tY_314 := sd_use_ok rfl
def tY_315 : tc_Lm := sd_open 128
theorem tZ_315 {RO : am_O} : tc_lmt tp_G RO tp_T tY_315 := sd_open_ok (S := tS_128) rfl
def tY_316 : tc_Lm := sd_to 128 2 tS_128
theorem tZ_316 {RO : am_O} : tc_lmt tp_G RO tp_T tY_316 := sd_to_ok rfl (by decide) rfl
def tY_317 : tc_Lm := ij_open 123 122 171 3
theorem tZ_317 {RO : am_O} : tc_lmt tp_G RO tp_T tY_317 := ij_open_ok rfl rfl
def tY_318 : tc_Lm := sd_fro 128 2 tS_128 120 122 124 126
theorem tZ_318 {RO : am_O} : tc_lmt tp_G RO tp_T tY_318 := sd_fro_ok rfl rfl rfl rfl rfl (by decide) rfl
def tY_319 : tc_Lm := sd_use 128 tS_128 false
theorem tZ_319 {RO : am_O} : tc_lmt tp_G RO tp_T tY_319 := sd_use_ok rfl
def tY_320 : tc_Lm := sd_to 128 1 tS_128
theorem tZ_320 {RO : am_O} : tc_lmt tp_G RO tp_T tY_320 := sd_to_ok rfl (by decide) rfl
def tY_321 : tc_Lm := sd_w1 128
theorem tZ_321 {RO : am_O} : tc_lmt tp_G RO tp_T tY_321 := sd_w1_ok (S := tS_128) rfl
def tY_322 : tc_Lm := ij_open 121 120 171 6
theorem tZ_322 {RO : am_O} : tc_lmt tp_G RO tp_T tY_322 := ij_open_ok rfl rfl
def tY_323 : tc_Lm := sd_fro 128 1 tS_128 120 122 124 126
theorem tZ_323 {RO : am_O} : tc_lmt tp_G RO tp_T tY_323 := sd_fro_ok rfl rfl rfl rfl rfl (by decide) rfl
def tY_324 : tc_Lm := sd_shut 128 0 tS_128
theorem tZ_324 {RO : am_O} : tc_lmt tp_G RO tp_T tY_324 := sd_shut_ok rfl (by decide) rfl
def tY_325 : tc_Lm := sd_shut 128 2 tS_128
theorem tZ_325 {RO : am_O} : tc_lmt tp_G RO tp_T tY_325 := sd_shut_ok rfl (by decide) rfl
def tY_326 : tc_Lm := sd_to 128 3 tS_128
theorem tZ_326 {RO : am_O} : tc_lmt tp_G RO tp_T tY_326 := sd_to_ok rfl (by decide) rfl
def tY_327 : tc_Lm := sd_fro 128 3 tS_128 120 122 124 126
theorem tZ_327 {RO : am_O} : tc_lmt tp_G RO tp_T tY_327 := sd_fro_ok rfl rfl rfl rfl rfl (by decide) rfl
def tY_328 : tc_Lm := sd_n1 128 226 1
theorem tZ_328 {RO : am_O} : tc_lmt tp_G RO tp_T tY_328 := sd_n1_ok (S := tS_128) rfl rfl
def tY_329 : tc_Lm := sd_rb 128 tS_128
theorem tZ_329 {RO : am_O} : tc_lmt tp_G RO tp_T tY_329 := sd_rb_ok rfl rfl
def tY_330 : tc_Lm := ij_open 127 126 189 0
theorem tZ_330 {RO : am_O} : tc_lmt tp_G RO tp_T tY_330 := ij_open_ok rfl rfl
def tY_331 : tc_Lm := sd_br 128 126 tS_128
theorem tZ_331 {RO : am_O} : tc_lmt tp_G RO tp_T tY_331 := sd_br_ok rfl rfl rfl
def tY_332 : tc_Lm := sd_w2 128
theorem tZ_332 {RO : am_O} : tc_lmt tp_G RO tp_T tY_332 := sd_w2_ok (S := tS_128) rfl
def tY_333 : tc_Lm := sd_w3 128 194
theorem tZ_333 {RO : am_O} : tc_lmt tp_G RO tp_T tY_333 := sd_w3_ok (S := tS_128) rfl
def tY_334 : tc_Lm := ij_w3 127 0
theorem tZ_334 {RO : am_O} : tc_lmt tp_G RO tp_T tY_334 := ij_w3_ok (K := 189) rfl
def tY_335 : tc_Lm := un_w3 126 0
theorem tZ_335 {RO : am_O} : tc_lmt tp_G RO tp_T tY_335 := un_w3_ok (K := 189) rfl
def tY_336 : tc_Lm := rm_put 142 189 0 194 194
theorem tZ_336 {RO : am_O} : tc_lmt tp_G RO tp_T tY_336 := rm_put_ok (S := tS_142) (cap := 640) rfl rfl rfl rfl
def tY_337 : tc_Lm := sd_wk 128
theorem tZ_337 {RO : am_O} : tc_lmt tp_G RO tp_T tY_337 := sd_wk_ok (S := tS_128) rfl
def tY_338 : tc_Lm := sd_un2 128 126 194
theorem tZ_338 {RO : am_O} : tc_lmt tp_G RO tp_T tY_338 := sd_un2_ok (S := tS_128) rfl rfl rfl
def tY_339 : tc_Lm := ij_open 125 124 171 4
theorem tZ_339 {RO : am_O} : tc_lmt tp_G RO tp_T tY_339 := ij_open_ok rfl rfl
def tY_340 : tc_Lm := rm_put 142 186 0 196 196
theorem tZ_340 {RO : am_O} : tc_lmt tp_G RO tp_T tY_340 := rm_put_ok (S := tS_142) (cap := 4000) rfl rfl rfl rfl
def tY_341 : tc_Lm := rm_put 142 191 0 193 193
theorem tZ_341 {RO : am_O} : tc_lmt tp_G RO tp_T tY_341 := rm_put_ok (S := tS_142) (cap := 6000) rfl rfl rfl rfl
def tY_342 : tc_Lm := ql_use 80 tS_80 false
theorem tZ_342 {RO : am_O} : tc_lmt tp_G RO tp_T tY_342 := ql_use_ok rfl
def tY_343 : tc_Lm := kn_use 97 96 tS_97 0
theorem tZ_343 {RO : am_O} : tc_lmt tp_G RO tp_T tY_343 := kn_use_ok (g := ql_a tS_96) rfl rfl
def tY_344 : tc_Lm := kn_open 97 0
theorem tZ_344 {RO : am_O} : tc_lmt tp_G RO tp_T tY_344 := kn_open_ok (S := tS_97) (g := ql_a tS_96) rfl
def tY_345 : tc_Lm := ij_open 111 110 168 2
theorem tZ_345 {RO : am_O} : tc_lmt tp_G RO tp_T tY_345 := ij_open_ok rfl rfl
def tY_346 : tc_Lm := kn_w3 97 0 0 168
theorem tZ_346 {RO : am_O} : tc_lmt tp_G RO tp_T tY_346 := kn_w3_ok (S := tS_97) (g := ql_a tS_96) rfl (ql_a_ok _) (by decide)
def tY_347 : tc_Lm := ij_shut 111 110 168 2
theorem tZ_347 {RO : am_O} : tc_lmt tp_G RO tp_T tY_347 := ij_shut_ok rfl rfl
def tY_348 : tc_Lm := kr_from 97 119 2 218 0
theorem tZ_348 {RO : am_O} : tc_lmt tp_G RO tp_T tY_348 := kr_from_ok (S := tS_97) (g := ql_a tS_96) rfl rfl
def tY_349 : tc_Lm := ql_mono 96 tS_96 1
theorem tZ_349 {RO : am_O} : tc_lmt tp_G RO tp_T tY_349 := ql_mono_ok rfl rfl
def tY_350 : tc_Lm := kr_to 97 119 110 0
theorem tZ_350 {RO : am_O} : tc_lmt tp_G RO tp_T tY_350 := kr_to_ok (S := tS_97) (g := ql_a tS_96) (j := 2) (k := 218) rfl rfl rfl
def tY_351 : tc_Lm := kn_shut 97 96 tS_97 0
theorem tZ_351 {RO : am_O} : tc_lmt tp_G RO tp_T tY_351 := kn_shut_ok (g := ql_a tS_96) rfl rfl rfl
def tY_352 : tc_Lm := kn_w1 97 110 218 0
theorem tZ_352 {RO : am_O} : tc_lmt tp_G RO tp_T tY_352 := kn_w1_ok (S := tS_97) (g := ql_a tS_96) (j := 2) rfl rfl (ql_lc _) (by decide)
def tY_353 : tc_Lm := ql_open 96 tS_96
theorem tZ_353 {RO : am_O} : tc_lmt tp_G RO tp_T tY_353 := ql_open_ok rfl
def tY_354 : tc_Lm := ql_put 96 tS_96 218 [0]
theorem tZ_354 {RO : am_O} : tc_lmt tp_G RO tp_T tY_354 := ql_put_ok rfl (by decide)
def tY_355 : tc_Lm := ql_shut 96 tS_96
theorem tZ_355 {RO : am_O} : tc_lmt tp_G RO tp_T tY_355 := ql_shut_ok rfl
def tY_356 : tc_Lm := kr_w1 119 218 0
theorem tZ_356 {RO : am_O} : tc_lmt tp_G RO tp_T tY_356 := kr_w1_ok (S := tS_97) (g := ql_a tS_96) (j := 2) rfl (ql_lc _) (by decide)
def tY_357 : tc_Lm := ql_nil 96 tS_96
theorem tZ_357 {RO : am_O} : tc_lmt tp_G RO tp_T tY_357 := ql_nil_ok rfl
def tY_358 : tc_Lm := ql_grow 96 tS_96
theorem tZ_358 {RO : am_O} : tc_lmt tp_G RO tp_T tY_358 := ql_grow_ok rfl
def tY_359 : tc_Lm := ql_use 96 tS_96 false
theorem tZ_359 {RO : am_O} : tc_lmt tp_G RO tp_T tY_359 := ql_use_ok rfl
def tY_360 : tc_Lm := nn_nil 64 216
theorem tZ_360 {RO : am_O} : tc_lmt tp_G RO tp_T tY_360 := nn_nil_ok rfl rfl
def tY_361 : tc_Lm := nn_use 63 49 215 174
theorem tZ_361 {RO : am_O} : tc_lmt tp_G RO tp_T tY_361 := nn_use_ok rfl rfl rfl rfl
def tY_362 : tc_Lm := nn_le 67
theorem tZ_362 {RO : am_O} : tc_lmt tp_G RO tp_T tY_362 := nn_le_ok (k := 229) rfl
def tY_363 : tc_Lm := nn_put 67 0
theorem tZ_363 {RO : am_O} : tc_lmt tp_G RO tp_T tY_363 := nn_put_ok (k := 229) rfl (by decide)
def tY_364 : tc_Lm := sd_use 137 tS_137 true
theorem tZ_364 {RO : am_O} : tc_lmt tp_G RO tp_T tY_364 := sd_use_ok rfl
def tY_365 : tc_Lm := sd_open 137
theorem tZ_365 {RO : am_O} : tc_lmt tp_G RO tp_T tY_365 := sd_open_ok (S := tS_137) rfl
def tY_366 : tc_Lm := sd_to 137 2 tS_137
theorem tZ_366 {RO : am_O} : tc_lmt tp_G RO tp_T tY_366 := sd_to_ok rfl (by decide) rfl
def tY_367 : tc_Lm := ij_open 132 131 172 3
theorem tZ_367 {RO : am_O} : tc_lmt tp_G RO tp_T tY_367 := ij_open_ok rfl rfl
def tY_368 : tc_Lm := sd_fro 137 2 tS_137 129 131 133 135
theorem tZ_368 {RO : am_O} : tc_lmt tp_G RO tp_T tY_368 := sd_fro_ok rfl rfl rfl rfl rfl (by decide) rfl
def tY_369 : tc_Lm := sd_use 137 tS_137 false
theorem tZ_369 {RO : am_O} : tc_lmt tp_G RO tp_T tY_369 := sd_use_ok rfl
def tY_370 : tc_Lm := sd_to 137 1 tS_137
theorem tZ_370 {RO : am_O} : tc_lmt tp_G RO tp_T tY_370 := sd_to_ok rfl (by decide) rfl
def tY_371 : tc_Lm := sd_w1 137
theorem tZ_371 {RO : am_O} : tc_lmt tp_G RO tp_T tY_371 := sd_w1_ok (S := tS_137) rfl
def tY_372 : tc_Lm := ij_open 130 129 172 6
theorem tZ_372 {RO : am_O} : tc_lmt tp_G RO tp_T tY_372 := ij_open_ok rfl rfl
def tY_373 : tc_Lm := sd_fro 137 1 tS_137 129 131 133 135
theorem tZ_373 {RO : am_O} : tc_lmt tp_G RO tp_T tY_373 := sd_fro_ok rfl rfl rfl rfl rfl (by decide) rfl
def tY_374 : tc_Lm := sd_shut 137 0 tS_137
theorem tZ_374 {RO : am_O} : tc_lmt tp_G RO tp_T tY_374 := sd_shut_ok rfl (by decide) rfl
def tY_375 : tc_Lm := sd_shut 137 2 tS_137
theorem tZ_375 {RO : am_O} : tc_lmt tp_G RO tp_T tY_375 := sd_shut_ok rfl (by decide) rfl
def tY_376 : tc_Lm := sd_to 137 3 tS_137
theorem tZ_376 {RO : am_O} : tc_lmt tp_G RO tp_T tY_376 := sd_to_ok rfl (by decide) rfl
def tY_377 : tc_Lm := sd_fro 137 3 tS_137 129 131 133 135
theorem tZ_377 {RO : am_O} : tc_lmt tp_G RO tp_T tY_377 := sd_fro_ok rfl rfl rfl rfl rfl (by decide) rfl
def tY_378 : tc_Lm := sd_n1 137 227 1
theorem tZ_378 {RO : am_O} : tc_lmt tp_G RO tp_T tY_378 := sd_n1_ok (S := tS_137) rfl rfl
def tY_379 : tc_Lm := sd_rb 137 tS_137
theorem tZ_379 {RO : am_O} : tc_lmt tp_G RO tp_T tY_379 := sd_rb_ok rfl rfl
def tY_380 : tc_Lm := ij_open 136 135 190 0
theorem tZ_380 {RO : am_O} : tc_lmt tp_G RO tp_T tY_380 := ij_open_ok rfl rfl
def tY_381 : tc_Lm := sd_br 137 135 tS_137
theorem tZ_381 {RO : am_O} : tc_lmt tp_G RO tp_T tY_381 := sd_br_ok rfl rfl rfl
def tY_382 : tc_Lm := sd_w2 137
theorem tZ_382 {RO : am_O} : tc_lmt tp_G RO tp_T tY_382 := sd_w2_ok (S := tS_137) rfl
def tY_383 : tc_Lm := sd_w3 137 195
theorem tZ_383 {RO : am_O} : tc_lmt tp_G RO tp_T tY_383 := sd_w3_ok (S := tS_137) rfl
def tY_384 : tc_Lm := ij_w3 136 0
theorem tZ_384 {RO : am_O} : tc_lmt tp_G RO tp_T tY_384 := ij_w3_ok (K := 190) rfl
def tY_385 : tc_Lm := un_w3 135 0
theorem tZ_385 {RO : am_O} : tc_lmt tp_G RO tp_T tY_385 := un_w3_ok (K := 190) rfl
def tY_386 : tc_Lm := rm_put 142 190 0 195 195
theorem tZ_386 {RO : am_O} : tc_lmt tp_G RO tp_T tY_386 := rm_put_ok (S := tS_142) (cap := 640) rfl rfl rfl rfl
def tY_387 : tc_Lm := sd_wk 137
theorem tZ_387 {RO : am_O} : tc_lmt tp_G RO tp_T tY_387 := sd_wk_ok (S := tS_137) rfl
def tY_388 : tc_Lm := sd_un2 137 135 195
theorem tZ_388 {RO : am_O} : tc_lmt tp_G RO tp_T tY_388 := sd_un2_ok (S := tS_137) rfl rfl rfl
def tY_389 : tc_Lm := ij_open 134 133 172 4
theorem tZ_389 {RO : am_O} : tc_lmt tp_G RO tp_T tY_389 := ij_open_ok rfl rfl
def tY_390 : tc_Lm := rm_put 142 192 0 193 193
theorem tZ_390 {RO : am_O} : tc_lmt tp_G RO tp_T tY_390 := rm_put_ok (S := tS_142) (cap := 6000) rfl rfl rfl rfl
def tY_391 : tc_Lm := kn_use 73 66 tS_73 0
theorem tZ_391 {RO : am_O} : tc_lmt tp_G RO tp_T tY_391 := kn_use_ok (g := nn_a 225) rfl rfl
def tY_392 : tc_Lm := kn_open 73 0
theorem tZ_392 {RO : am_O} : tc_lmt tp_G RO tp_T tY_392 := kn_open_ok (S := tS_73) (g := nn_a 225) rfl
def tY_393 : tc_Lm := kn_w2 73 14 0 170
theorem tZ_393 {RO : am_O} : tc_lmt tp_G RO tp_T tY_393 := kn_w2_ok (S := tS_73) (g := nn_a 225) rfl (nn_a_ok _) (by decide)
def tY_394 : tc_Lm := re_put 52 225
theorem tZ_394 {RO : am_O} : tc_lmt tp_G RO tp_T tY_394 := re_put_ok rfl
def tY_395 : tc_Lm := kn_w4 73 0 false
theorem tZ_395 {RO : am_O} : tc_lmt tp_G RO tp_T tY_395 := kn_w4_ok (S := tS_73) (g := nn_a 225) rfl (nn_g4 _)
def tY_396 : tc_Lm := nn_put 66 2
theorem tZ_396 {RO : am_O} : tc_lmt tp_G RO tp_T tY_396 := nn_put_ok (k := 225) rfl (by decide)
def tY_397 : tc_Lm := nn_put 66 0
theorem tZ_397 {RO : am_O} : tc_lmt tp_G RO tp_T tY_397 := nn_put_ok (k := 225) rfl (by decide)
def tY_398 : tc_Lm := nn_le 66
theorem tZ_398 {RO : am_O} : tc_lmt tp_G RO tp_T tY_398 := nn_le_ok (k := 225) rfl
def tY_399 : tc_Lm := nn_use 66 52 225 169
theorem tZ_399 {RO : am_O} : tc_lmt tp_G RO tp_T tY_399 := nn_use_ok rfl rfl rfl rfl
def tY_400 : tc_Lm := kn_w4 73 0 true
theorem tZ_400 {RO : am_O} : tc_lmt tp_G RO tp_T tY_400 := kn_w4_ok (S := tS_73) (g := nn_a 225) rfl (nn_g4 _)
def tp_L : List tc_Lm := [tY_0, tY_1, tY_2, tY_3, tY_4, tY_5, tY_6, tY_7, tY_8, tY_9, tY_10, tY_11, tY_12, tY_13, tY_14, tY_15, tY_16, tY_17, tY_18, tY_19, tY_20, tY_21, tY_22, tY_23, tY_24, tY_25, tY_26, tY_27, tY_28, tY_29, tY_30, tY_31, tY_32, tY_33, tY_34, tY_35, tY_36, tY_37, tY_38, tY_39, tY_40, tY_41, tY_42, tY_43, tY_44, tY_45, tY_46, tY_47, tY_48, tY_49, tY_50, tY_51, tY_52, tY_53, tY_54, tY_55, tY_56, tY_57, tY_58, tY_59, tY_60, tY_61, tY_62, tY_63, tY_64, tY_65, tY_66, tY_67, tY_68, tY_69, tY_70, tY_71, tY_72, tY_73, tY_74, tY_75, tY_76, tY_77, tY_78, tY_79, tY_80, tY_81, tY_82, tY_83, tY_84, tY_85, tY_86, tY_87, tY_88, tY_89, tY_90, tY_91, tY_92, tY_93, tY_94, tY_95, tY_96, tY_97, tY_98, tY_99, tY_100, tY_101, tY_102, tY_103, tY_104, tY_105, tY_106, tY_107, tY_108, tY_109, tY_110, tY_111, tY_112, tY_113, tY_114, tY_115, tY_116, tY_117, tY_118, tY_119, tY_120, tY_121, tY_122, tY_123, tY_124, tY_125, tY_126, tY_127, tY_128, tY_129, tY_130, tY_131, tY_132, tY_133, tY_134, tY_135, tY_136, tY_137, tY_138, tY_139, tY_140, tY_141, tY_142, tY_143, tY_144, tY_145, tY_146, tY_147, tY_148, tY_149, tY_150, tY_151, tY_152, tY_153, tY_154, tY_155, tY_156, tY_157, tY_158, tY_159, tY_160, tY_161, tY_162, tY_163, tY_164, tY_165, tY_166, tY_167, tY_168, tY_169, tY_170, tY_171, tY_172, tY_173, tY_174, tY_175, tY_176, tY_177, tY_178, tY_179, tY_180, tY_181, tY_182, tY_183, tY_184, tY_185, tY_186, tY_187, tY_188, tY_189, tY_190, tY_191, tY_192, tY_193, tY_194, tY_195, tY_196, tY_197, tY_198, tY_199, tY_200, tY_201, tY_202, tY_203, tY_204, tY_205, tY_206, tY_207, tY_208, tY_209, tY_210, tY_211, tY_212, tY_213, tY_214, tY_215, tY_216, tY_217, tY_218, tY_219, tY_220, tY_221, tY_222, tY_223, tY_224, tY_225, tY_226, tY_227, tY_228, tY_229, tY_230, tY_231, tY_232, tY_233, tY_234, tY_235, tY_236, tY_237, tY_238, tY_239, tY_240, tY_241, tY_242, tY_243, tY_244, tY_245, tY_246, tY_247, tY_248, tY_249, tY_250, tY_251, tY_252, tY_253, tY_254, tY_255, tY_256, tY_257, tY_258, tY_259, tY_260, tY_261, tY_262, tY_263, tY_264, tY_265, tY_266, tY_267, tY_268, tY_269, tY_270, tY_271, tY_272, tY_273, tY_274, tY_275, tY_276, tY_277, tY_278, tY_279, tY_280, tY_281, tY_282, tY_283, tY_284, tY_285, tY_286, tY_287, tY_288, tY_289, tY_290, tY_291, tY_292, tY_293, tY_294, tY_295, tY_296, tY_297, tY_298, tY_299, tY_300, tY_301, tY_302, tY_303, tY_304, tY_305, tY_306, tY_307, tY_308, tY_309, tY_310, tY_311, tY_312, tY_313, tY_314, tY_315, tY_316, tY_317, tY_318, tY_319, tY_320, tY_321, tY_322, tY_323, tY_324, tY_325, tY_326, tY_327, tY_328, tY_329, tY_330, tY_331, tY_332, tY_333, tY_334, tY_335, tY_336, tY_337, tY_338, tY_339, tY_340, tY_341, tY_342, tY_343, tY_344, tY_345, tY_346, tY_347, tY_348, tY_349, tY_350, tY_351, tY_352, tY_353, tY_354, tY_355, tY_356, tY_357, tY_358, tY_359, tY_360, tY_361, tY_362, tY_363, tY_364, tY_365, tY_366, tY_367, tY_368, tY_369, tY_370, tY_371, tY_372, tY_373, tY_374, tY_375, tY_376, tY_377, tY_378, tY_379, tY_380, tY_381, tY_382, tY_383, tY_384, tY_385, tY_386, tY_387, tY_388, tY_389, tY_390, tY_391, tY_392, tY_393, tY_394, tY_395, tY_396, tY_397, tY_398, tY_399, tY_400]
theorem tp_L_ok {RO : am_O} : ∀ c ∈ tp_L, tc_lmt tp_G RO tp_T c := by
  intro c h
  rcases List.mem_cons.mp h with rfl | h
  · exact tZ_0
  rcases List.mem_cons.mp h with rfl | h
  · exact tZ_1
  rcases List.mem_cons.mp h with rfl | h
  · exact tZ_2
  rcases List.mem_cons.mp h with rfl | h
  · exact tZ_3
  rcases List.mem_cons.mp h with rfl | h
  · exact tZ_4
  rcases List.mem_cons.mp h with rfl | h
  · exact tZ_5
  rcases List.mem_cons.mp h with rfl | h
  · exact tZ_6
  rcases List.mem_cons.mp h with rfl | h
  · exact tZ_7
  rcases List.mem_cons.mp h with rfl | h
  · exact tZ_8
  rcases List.mem_cons.mp h with rfl | h
  · exact tZ_9
  rcases List.mem_cons.mp h with rfl | h
  · exact tZ_10
  rcases List.mem_cons.mp h with rfl | h
  · exact tZ_11
  rcases List.mem_cons.mp h with rfl | h
  · exact tZ_12
  rcases List.mem_cons.mp h with rfl | h
  · exact tZ_13
  rcases List.mem_cons.mp h with rfl | h
  · exact tZ_14
  rcases List.mem_cons.mp h with rfl | h
  · exact tZ_15
  rcases List.mem_cons.mp h with rfl | h
  · exact tZ_16
  rcases List.mem_cons.mp h with rfl | h
  · exact tZ_17
  rcases List.mem_cons.mp h with rfl | h
  · exact tZ_18
  rcases List.mem_cons.mp h with rfl | h
  · exact tZ_19
  rcases List.mem_cons.mp h with rfl | h
  · exact tZ_20
  rcases List.mem_cons.mp h with rfl | h
  · exact tZ_21
  rcases List.mem_cons.mp h with rfl | h
  · exact tZ_22
  rcases List.mem_cons.mp h with rfl | h
  · exact tZ_23
  rcases List.mem_cons.mp h with rfl | h
  · exact tZ_24
  rcases List.mem_cons.mp h with rfl | h
  · exact tZ_25
  rcases List.mem_cons.mp h with rfl | h
  · exact tZ_26
  rcases List.mem_cons.mp h with rfl | h
  · exact tZ_27
  rcases List.mem_cons.mp h with rfl | h
  · exact tZ_28
  rcases List.mem_cons.mp h with rfl | h
  · exact tZ_29
  rcases List.mem_cons.mp h with rfl | h
  · exact tZ_30
  rcases List.mem_cons.mp h with rfl | h
  · exact tZ_31
  rcases List.mem_cons.mp h with rfl | h
  · exact tZ_32
  rcases List.mem_cons.mp h with rfl | h
  · exact tZ_33
  rcases List.mem_cons.mp h with rfl | h
  · exact tZ_34
  rcases List.mem_cons.mp h with rfl | h
  · exact tZ_35
  rcases List.mem_cons.mp h with rfl | h
  · exact tZ_36
  rcases List.mem_cons.mp h with rfl | h
  · exact tZ_37
  rcases List.mem_cons.mp h with rfl | h
  · exact tZ_38
  rcases List.mem_cons.mp h with rfl | h
  · exact tZ_39
  rcases List.mem_cons.mp h with rfl | h
  · exact tZ_40
  rcases List.mem_cons.mp h with rfl | h
  · exact tZ_41
  rcases List.mem_cons.mp h with rfl | h
  · exact tZ_42
  rcases List.mem_cons.mp h with rfl | h
  · exact tZ_43
  rcases List.mem_cons.mp h with rfl | h
  · exact tZ_44
  rcases List.mem_cons.mp h with rfl | h
  · exact tZ_45
  rcases List.mem_cons.mp h with rfl | h
  · exact tZ_46
  rcases List.mem_cons.mp h with rfl | h
  · exact tZ_47
  rcases List.mem_cons.mp h with rfl | h
  · exact tZ_48
  rcases List.mem_cons.mp h with rfl | h
  · exact tZ_49
  rcases List.mem_cons.mp h with rfl | h
  · exact tZ_50
  rcases List.mem_cons.mp h with rfl | h
  · exact tZ_51
  rcases List.mem_cons.mp h with rfl | h
  · exact tZ_52
  rcases List.mem_cons.mp h with rfl | h
  · exact tZ_53
  rcases List.mem_cons.mp h with rfl | h
  · exact tZ_54
  rcases List.mem_cons.mp h with rfl | h
  · exact tZ_55
  rcases List.mem_cons.mp h with rfl | h
  · exact tZ_56
  rcases List.mem_cons.mp h with rfl | h
  · exact tZ_57
  rcases List.mem_cons.mp h with rfl | h
  · exact tZ_58
  rcases List.mem_cons.mp h with rfl | h
  · exact tZ_59
  rcases List.mem_cons.mp h with rfl | h
  · exact tZ_60
  rcases List.mem_cons.mp h with rfl | h
  · exact tZ_61
  rcases List.mem_cons.mp h with rfl | h
  · exact tZ_62
  rcases List.mem_cons.mp h with rfl | h
  · exact tZ_63
  rcases List.mem_cons.mp h with rfl | h
  · exact tZ_64
  rcases List.mem_cons.mp h with rfl | h
  · exact tZ_65
  rcases List.mem_cons.mp h with rfl | h
  · exact tZ_66
  rcases List.mem_cons.mp h with rfl | h
  · exact tZ_67
  rcases List.mem_cons.mp h with rfl | h
  · exact tZ_68
  rcases List.mem_cons.mp h with rfl | h
  · exact tZ_69
  rcases List.mem_cons.mp h with rfl | h
  · exact tZ_70
  rcases List.mem_cons.mp h with rfl | h
  · exact tZ_71
  rcases List.mem_cons.mp h with rfl | h
  · exact tZ_72
  rcases List.mem_cons.mp h with rfl | h
  · exact tZ_73
  rcases List.mem_cons.mp h with rfl | h
  · exact tZ_74
  rcases List.mem_cons.mp h with rfl | h
  · exact tZ_75
  rcases List.mem_cons.mp h with rfl | h
  · exact tZ_76
  rcases List.mem_cons.mp h with rfl | h
  · exact tZ_77
  rcases List.mem_cons.mp h with rfl | h
  · exact tZ_78
  rcases List.mem_cons.mp h with rfl | h
  · exact tZ_79
  rcases List.mem_cons.mp h with rfl | h
  · exact tZ_80
  rcases List.mem_cons.mp h with rfl | h
  · exact tZ_81
  rcases List.mem_cons.mp h with rfl | h
  · exact tZ_82
  rcases List.mem_cons.mp h with rfl | h
  · exact tZ_83
  rcases List.mem_cons.mp h with rfl | h
  · exact tZ_84
  rcases List.mem_cons.mp h with rfl | h
  · exact tZ_85
  rcases List.mem_cons.mp h with rfl | h
  · exact tZ_86
  rcases List.mem_cons.mp h with rfl | h
  · exact tZ_87
  rcases List.mem_cons.mp h with rfl | h
  · exact tZ_88
  rcases List.mem_cons.mp h with rfl | h
  · exact tZ_89
  rcases List.mem_cons.mp h with rfl | h
  · exact tZ_90
  rcases List.mem_cons.mp h with rfl | h
  · exact tZ_91
  rcases List.mem_cons.mp h with rfl | h
  · exact tZ_92
  rcases List.mem_cons.mp h with rfl | h
  · exact tZ_93
  rcases List.mem_cons.mp h with rfl | h
  · exact tZ_94
  rcases List.mem_cons.mp h with rfl | h
  · exact tZ_95
  rcases List.mem_cons.mp h with rfl | h
  · exact tZ_96
  rcases List.mem_cons.mp h with rfl | h
  · exact tZ_97
  rcases List.mem_cons.mp h with rfl | h
  · exact tZ_98
  rcases List.mem_cons.mp h with rfl | h
  · exact tZ_99
  rcases List.mem_cons.mp h with rfl | h
  · exact tZ_100
  rcases List.mem_cons.mp h with rfl | h
  · exact tZ_101
  rcases List.mem_cons.mp h with rfl | h
  · exact tZ_102
  rcases List.mem_cons.mp h with rfl | h
  · exact tZ_103
  rcases List.mem_cons.mp h with rfl | h
  · exact tZ_104
  rcases List.mem_cons.mp h with rfl | h
  · exact tZ_105
  rcases List.mem_cons.mp h with rfl | h
  · exact tZ_106
  rcases List.mem_cons.mp h with rfl | h
  · exact tZ_107
  rcases List.mem_cons.mp h with rfl | h
  · exact tZ_108
  rcases List.mem_cons.mp h with rfl | h
  · exact tZ_109
  rcases List.mem_cons.mp h with rfl | h
  · exact tZ_110
  rcases List.mem_cons.mp h with rfl | h
  · exact tZ_111
  rcases List.mem_cons.mp h with rfl | h
  · exact tZ_112
  rcases List.mem_cons.mp h with rfl | h
  · exact tZ_113
  rcases List.mem_cons.mp h with rfl | h
  · exact tZ_114
  rcases List.mem_cons.mp h with rfl | h
  · exact tZ_115
  rcases List.mem_cons.mp h with rfl | h
  · exact tZ_116
  rcases List.mem_cons.mp h with rfl | h
  · exact tZ_117
  rcases List.mem_cons.mp h with rfl | h
  · exact tZ_118
  rcases List.mem_cons.mp h with rfl | h
  · exact tZ_119
  rcases List.mem_cons.mp h with rfl | h
  · exact tZ_120
  rcases List.mem_cons.mp h with rfl | h
  · exact tZ_121
  rcases List.mem_cons.mp h with rfl | h
  · exact tZ_122
  rcases List.mem_cons.mp h with rfl | h
  · exact tZ_123
  rcases List.mem_cons.mp h with rfl | h
  · exact tZ_124
  rcases List.mem_cons.mp h with rfl | h
  · exact tZ_125
  rcases List.mem_cons.mp h with rfl | h
  · exact tZ_126
  rcases List.mem_cons.mp h with rfl | h
  · exact tZ_127
  rcases List.mem_cons.mp h with rfl | h
  · exact tZ_128
  rcases List.mem_cons.mp h with rfl | h
  · exact tZ_129
  rcases List.mem_cons.mp h with rfl | h
  · exact tZ_130
  rcases List.mem_cons.mp h with rfl | h
  · exact tZ_131
  rcases List.mem_cons.mp h with rfl | h
  · exact tZ_132
  rcases List.mem_cons.mp h with rfl | h
  · exact tZ_133
  rcases List.mem_cons.mp h with rfl | h
  · exact tZ_134
  rcases List.mem_cons.mp h with rfl | h
  · exact tZ_135
  rcases List.mem_cons.mp h with rfl | h
  · exact tZ_136
  rcases List.mem_cons.mp h with rfl | h
  · exact tZ_137
  rcases List.mem_cons.mp h with rfl | h
  · exact tZ_138
  rcases List.mem_cons.mp h with rfl | h
  · exact tZ_139
  rcases List.mem_cons.mp h with rfl | h
  · exact tZ_140
  rcases List.mem_cons.mp h with rfl | h
  · exact tZ_141
  rcases List.mem_cons.mp h with rfl | h
  · exact tZ_142
  rcases List.mem_cons.mp h with rfl | h
  · exact tZ_143
  rcases List.mem_cons.mp h with rfl | h
  · exact tZ_144
  rcases List.mem_cons.mp h with rfl | h
  · exact tZ_145
  rcases List.mem_cons.mp h with rfl | h
  · exact tZ_146
  rcases List.mem_cons.mp h with rfl | h
  · exact tZ_147
  rcases List.mem_cons.mp h with rfl | h
  · exact tZ_148
  rcases List.mem_cons.mp h with rfl | h
  · exact tZ_149
  rcases List.mem_cons.mp h with rfl | h
  · exact tZ_150
  rcases List.mem_cons.mp h with rfl | h
  · exact tZ_151
  rcases List.mem_cons.mp h with rfl | h
  · exact tZ_152
  rcases List.mem_cons.mp h with rfl | h
  · exact tZ_153
  rcases List.mem_cons.mp h with rfl | h
  · exact tZ_154
  rcases List.mem_cons.mp h with rfl | h
  · exact tZ_155
  rcases List.mem_cons.mp h with rfl | h
  · exact tZ_156
  rcases List.mem_cons.mp h with rfl | h
  · exact tZ_157
  rcases List.mem_cons.mp h with rfl | h
  · exact tZ_158
  rcases List.mem_cons.mp h with rfl | h
  · exact tZ_159
  rcases List.mem_cons.mp h with rfl | h
  · exact tZ_160
  rcases List.mem_cons.mp h with rfl | h
  · exact tZ_161
  rcases List.mem_cons.mp h with rfl | h
  · exact tZ_162
  rcases List.mem_cons.mp h with rfl | h
  · exact tZ_163
  rcases List.mem_cons.mp h with rfl | h
  · exact tZ_164
  rcases List.mem_cons.mp h with rfl | h
  · exact tZ_165
  rcases List.mem_cons.mp h with rfl | h
  · exact tZ_166
  rcases List.mem_cons.mp h with rfl | h
  · exact tZ_167
  rcases List.mem_cons.mp h with rfl | h
  · exact tZ_168
  rcases List.mem_cons.mp h with rfl | h
  · exact tZ_169
  rcases List.mem_cons.mp h with rfl | h
  · exact tZ_170
  rcases List.mem_cons.mp h with rfl | h
  · exact tZ_171
  rcases List.mem_cons.mp h with rfl | h
  · exact tZ_172
  rcases List.mem_cons.mp h with rfl | h
  · exact tZ_173
  rcases List.mem_cons.mp h with rfl | h
  · exact tZ_174
  rcases List.mem_cons.mp h with rfl | h
  · exact tZ_175
  rcases List.mem_cons.mp h with rfl | h
  · exact tZ_176
  rcases List.mem_cons.mp h with rfl | h
  · exact tZ_177
  rcases List.mem_cons.mp h with rfl | h
  · exact tZ_178
  rcases List.mem_cons.mp h with rfl | h
  · exact tZ_179
  rcases List.mem_cons.mp h with rfl | h
  · exact tZ_180
  rcases List.mem_cons.mp h with rfl | h
  · exact tZ_181
  rcases List.mem_cons.mp h with rfl | h
  · exact tZ_182
  rcases List.mem_cons.mp h with rfl | h
  · exact tZ_183
  rcases List.mem_cons.mp h with rfl | h
  · exact tZ_184
  rcases List.mem_cons.mp h with rfl | h
  · exact tZ_185
  rcases List.mem_cons.mp h with rfl | h
  · exact tZ_186
  rcases List.mem_cons.mp h with rfl | h
  · exact tZ_187
  rcases List.mem_cons.mp h with rfl | h
  · exact tZ_188
  rcases List.mem_cons.mp h with rfl | h
  · exact tZ_189
  rcases List.mem_cons.mp h with rfl | h
  · exact tZ_190
  rcases List.mem_cons.mp h with rfl | h
  · exact tZ_191
  rcases List.mem_cons.mp h with rfl | h
  · exact tZ_192
  rcases List.mem_cons.mp h with rfl | h
  · exact tZ_193
  rcases List.mem_cons.mp h with rfl | h
  · exact tZ_194
  rcases List.mem_cons.mp h with rfl | h
  · exact tZ_195
  rcases List.mem_cons.mp h with rfl | h
  · exact tZ_196
  rcases List.mem_cons.mp h with rfl | h
  · exact tZ_197
  rcases List.mem_cons.mp h with rfl | h
  · exact tZ_198
  rcases List.mem_cons.mp h with rfl | h
  · exact tZ_199
  rcases List.mem_cons.mp h with rfl | h
  · exact tZ_200
  rcases List.mem_cons.mp h with rfl | h
  · exact tZ_201
  rcases List.mem_cons.mp h with rfl | h
  · exact tZ_202
  rcases List.mem_cons.mp h with rfl | h
  · exact tZ_203
  rcases List.mem_cons.mp h with rfl | h
  · exact tZ_204
  rcases List.mem_cons.mp h with rfl | h
  · exact tZ_205
  rcases List.mem_cons.mp h with rfl | h
  · exact tZ_206
  rcases List.mem_cons.mp h with rfl | h
  · exact tZ_207
  rcases List.mem_cons.mp h with rfl | h
  · exact tZ_208
  rcases List.mem_cons.mp h with rfl | h
  · exact tZ_209
  rcases List.mem_cons.mp h with rfl | h
  · exact tZ_210
  rcases List.mem_cons.mp h with rfl | h
  · exact tZ_211
  rcases List.mem_cons.mp h with rfl | h
  · exact tZ_212
  rcases List.mem_cons.mp h with rfl | h
  · exact tZ_213
  rcases List.mem_cons.mp h with rfl | h
  · exact tZ_214
  rcases List.mem_cons.mp h with rfl | h
  · exact tZ_215
  rcases List.mem_cons.mp h with rfl | h
  · exact tZ_216
  rcases List.mem_cons.mp h with rfl | h
  · exact tZ_217
  rcases List.mem_cons.mp h with rfl | h
  · exact tZ_218
  rcases List.mem_cons.mp h with rfl | h
  · exact tZ_219
  rcases List.mem_cons.mp h with rfl | h
  · exact tZ_220
  rcases List.mem_cons.mp h with rfl | h
  · exact tZ_221
  rcases List.mem_cons.mp h with rfl | h
  · exact tZ_222
  rcases List.mem_cons.mp h with rfl | h
  · exact tZ_223
  rcases List.mem_cons.mp h with rfl | h
  · exact tZ_224
  rcases List.mem_cons.mp h with rfl | h
  · exact tZ_225
  rcases List.mem_cons.mp h with rfl | h
  · exact tZ_226
  rcases List.mem_cons.mp h with rfl | h
  · exact tZ_227
  rcases List.mem_cons.mp h with rfl | h
  · exact tZ_228
  rcases List.mem_cons.mp h with rfl | h
  · exact tZ_229
  rcases List.mem_cons.mp h with rfl | h
  · exact tZ_230
  rcases List.mem_cons.mp h with rfl | h
  · exact tZ_231
  rcases List.mem_cons.mp h with rfl | h
  · exact tZ_232
  rcases List.mem_cons.mp h with rfl | h
  · exact tZ_233
  rcases List.mem_cons.mp h with rfl | h
  · exact tZ_234
  rcases List.mem_cons.mp h with rfl | h
  · exact tZ_235
  rcases List.mem_cons.mp h with rfl | h
  · exact tZ_236
  rcases List.mem_cons.mp h with rfl | h
  · exact tZ_237
  rcases List.mem_cons.mp h with rfl | h
  · exact tZ_238
  rcases List.mem_cons.mp h with rfl | h
  · exact tZ_239
  rcases List.mem_cons.mp h with rfl | h
  · exact tZ_240
  rcases List.mem_cons.mp h with rfl | h
  · exact tZ_241
  rcases List.mem_cons.mp h with rfl | h
  · exact tZ_242
  rcases List.mem_cons.mp h with rfl | h
  · exact tZ_243
  rcases List.mem_cons.mp h with rfl | h
  · exact tZ_244
  rcases List.mem_cons.mp h with rfl | h
  · exact tZ_245
  rcases List.mem_cons.mp h with rfl | h
  · exact tZ_246
  rcases List.mem_cons.mp h with rfl | h
  · exact tZ_247
  rcases List.mem_cons.mp h with rfl | h
  · exact tZ_248
  rcases List.mem_cons.mp h with rfl | h
  · exact tZ_249
  rcases List.mem_cons.mp h with rfl | h
  · exact tZ_250
  rcases List.mem_cons.mp h with rfl | h
  · exact tZ_251
  rcases List.mem_cons.mp h with rfl | h
  · exact tZ_252
  rcases List.mem_cons.mp h with rfl | h
  · exact tZ_253
  rcases List.mem_cons.mp h with rfl | h
  · exact tZ_254
  rcases List.mem_cons.mp h with rfl | h
  · exact tZ_255
  rcases List.mem_cons.mp h with rfl | h
  · exact tZ_256
  rcases List.mem_cons.mp h with rfl | h
  · exact tZ_257
  rcases List.mem_cons.mp h with rfl | h
  · exact tZ_258
  rcases List.mem_cons.mp h with rfl | h
  · exact tZ_259
  rcases List.mem_cons.mp h with rfl | h
  · exact tZ_260
  rcases List.mem_cons.mp h with rfl | h
  · exact tZ_261
  rcases List.mem_cons.mp h with rfl | h
  · exact tZ_262
  rcases List.mem_cons.mp h with rfl | h
  · exact tZ_263
  rcases List.mem_cons.mp h with rfl | h
  · exact tZ_264
  rcases List.mem_cons.mp h with rfl | h
  · exact tZ_265
  rcases List.mem_cons.mp h with rfl | h
  · exact tZ_266
  rcases List.mem_cons.mp h with rfl | h
  · exact tZ_267
  rcases List.mem_cons.mp h with rfl | h
  · exact tZ_268
  rcases List.mem_cons.mp h with rfl | h
  · exact tZ_269
  rcases List.mem_cons.mp h with rfl | h
  · exact tZ_270
  rcases List.mem_cons.mp h with rfl | h
  · exact tZ_271
  rcases List.mem_cons.mp h with rfl | h
  · exact tZ_272
  rcases List.mem_cons.mp h with rfl | h
  · exact tZ_273
  rcases List.mem_cons.mp h with rfl | h
  · exact tZ_274
  rcases List.mem_cons.mp h with rfl | h
  · exact tZ_275
  rcases List.mem_cons.mp h with rfl | h
  · exact tZ_276
  rcases List.mem_cons.mp h with rfl | h
  · exact tZ_277
  rcases List.mem_cons.mp h with rfl | h
  · exact tZ_278
  rcases List.mem_cons.mp h with rfl | h
  · exact tZ_279
  rcases List.mem_cons.mp h with rfl | h
  · exact tZ_280
  rcases List.mem_cons.mp h with rfl | h
  · exact tZ_281
  rcases List.mem_cons.mp h with rfl | h
  · exact tZ_282
  rcases List.mem_cons.mp h with rfl | h
  · exact tZ_283
  rcases List.mem_cons.mp h with rfl | h
  · exact tZ_284
  rcases List.mem_cons.mp h with rfl | h
  · exact tZ_285
  rcases List.mem_cons.mp h with rfl | h
  · exact tZ_286
  rcases List.mem_cons.mp h with rfl | h
  · exact tZ_287
  rcases List.mem_cons.mp h with rfl | h
  · exact tZ_288
  rcases List.mem_cons.mp h with rfl | h
  · exact tZ_289
  rcases List.mem_cons.mp h with rfl | h
  · exact tZ_290
  rcases List.mem_cons.mp h with rfl | h
  · exact tZ_291
  rcases List.mem_cons.mp h with rfl | h
  · exact tZ_292
  rcases List.mem_cons.mp h with rfl | h
  · exact tZ_293
  rcases List.mem_cons.mp h with rfl | h
  · exact tZ_294
  rcases List.mem_cons.mp h with rfl | h
  · exact tZ_295
  rcases List.mem_cons.mp h with rfl | h
  · exact tZ_296
  rcases List.mem_cons.mp h with rfl | h
  · exact tZ_297
  rcases List.mem_cons.mp h with rfl | h
  · exact tZ_298
  rcases List.mem_cons.mp h with rfl | h
  · exact tZ_299
  rcases List.mem_cons.mp h with rfl | h
  · exact tZ_300
  rcases List.mem_cons.mp h with rfl | h
  · exact tZ_301
  rcases List.mem_cons.mp h with rfl | h
  · exact tZ_302
  rcases List.mem_cons.mp h with rfl | h
  · exact tZ_303
  rcases List.mem_cons.mp h with rfl | h
  · exact tZ_304
  rcases List.mem_cons.mp h with rfl | h
  · exact tZ_305
  rcases List.mem_cons.mp h with rfl | h
  · exact tZ_306
  rcases List.mem_cons.mp h with rfl | h
  · exact tZ_307
  rcases List.mem_cons.mp h with rfl | h
  · exact tZ_308
  rcases List.mem_cons.mp h with rfl | h
  · exact tZ_309
  rcases List.mem_cons.mp h with rfl | h
  · exact tZ_310
  rcases List.mem_cons.mp h with rfl | h
  · exact tZ_311
  rcases List.mem_cons.mp h with rfl | h
  · exact tZ_312
  rcases List.mem_cons.mp h with rfl | h
  · exact tZ_313
  rcases List.mem_cons.mp h with rfl | h
  · exact tZ_314
  rcases List.mem_cons.mp h with rfl | h
  · exact tZ_315
  rcases List.mem_cons.mp h with rfl | h
  · exact tZ_316
  rcases List.mem_cons.mp h with rfl | h
  · exact tZ_317
  rcases List.mem_cons.mp h with rfl | h
  · exact tZ_318
  rcases List.mem_cons.mp h with rfl | h
  · exact tZ_319
  rcases List.mem_cons.mp h with rfl | h
  · exact tZ_320
  rcases List.mem_cons.mp h with rfl | h
  · exact tZ_321
  rcases List.mem_cons.mp h with rfl | h
  · exact tZ_322
  rcases List.mem_cons.mp h with rfl | h
  · exact tZ_323
  rcases List.mem_cons.mp h with rfl | h
  · exact tZ_324
  rcases List.mem_cons.mp h with rfl | h
  · exact tZ_325
  rcases List.mem_cons.mp h with rfl | h
  · exact tZ_326
  rcases List.mem_cons.mp h with rfl | h
  · exact tZ_327
  rcases List.mem_cons.mp h with rfl | h
  · exact tZ_328
  rcases List.mem_cons.mp h with rfl | h
  · exact tZ_329
  rcases List.mem_cons.mp h with rfl | h
  · exact tZ_330
  rcases List.mem_cons.mp h with rfl | h
  · exact tZ_331
  rcases List.mem_cons.mp h with rfl | h
  · exact tZ_332
  rcases List.mem_cons.mp h with rfl | h
  · exact tZ_333
  rcases List.mem_cons.mp h with rfl | h
  · exact tZ_334
  rcases List.mem_cons.mp h with rfl | h
  · exact tZ_335
  rcases List.mem_cons.mp h with rfl | h
  · exact tZ_336
  rcases List.mem_cons.mp h with rfl | h
  · exact tZ_337
  rcases List.mem_cons.mp h with rfl | h
  · exact tZ_338
  rcases List.mem_cons.mp h with rfl | h
  · exact tZ_339
  rcases List.mem_cons.mp h with rfl | h
  · exact tZ_340
  rcases List.mem_cons.mp h with rfl | h
  · exact tZ_341
  rcases List.mem_cons.mp h with rfl | h
  · exact tZ_342
  rcases List.mem_cons.mp h with rfl | h
  · exact tZ_343
  rcases List.mem_cons.mp h with rfl | h
  · exact tZ_344
  rcases List.mem_cons.mp h with rfl | h
  · exact tZ_345
  rcases List.mem_cons.mp h with rfl | h
  · exact tZ_346
  rcases List.mem_cons.mp h with rfl | h
  · exact tZ_347
  rcases List.mem_cons.mp h with rfl | h
  · exact tZ_348
  rcases List.mem_cons.mp h with rfl | h
  · exact tZ_349
  rcases List.mem_cons.mp h with rfl | h
  · exact tZ_350
  rcases List.mem_cons.mp h with rfl | h
  · exact tZ_351
  rcases List.mem_cons.mp h with rfl | h
  · exact tZ_352
  rcases List.mem_cons.mp h with rfl | h
  · exact tZ_353
  rcases List.mem_cons.mp h with rfl | h
  · exact tZ_354
  rcases List.mem_cons.mp h with rfl | h
  · exact tZ_355
  rcases List.mem_cons.mp h with rfl | h
  · exact tZ_356
  rcases List.mem_cons.mp h with rfl | h
  · exact tZ_357
  rcases List.mem_cons.mp h with rfl | h
  · exact tZ_358
  rcases List.mem_cons.mp h with rfl | h
  · exact tZ_359
  rcases List.mem_cons.mp h with rfl | h
  · exact tZ_360
  rcases List.mem_cons.mp h with rfl | h
  · exact tZ_361
  rcases List.mem_cons.mp h with rfl | h
  · exact tZ_362
  rcases List.mem_cons.mp h with rfl | h
  · exact tZ_363
  rcases List.mem_cons.mp h with rfl | h
  · exact tZ_364
  rcases List.mem_cons.mp h with rfl | h
  · exact tZ_365
  rcases List.mem_cons.mp h with rfl | h
  · exact tZ_366
  rcases List.mem_cons.mp h with rfl | h
  · exact tZ_367
  rcases List.mem_cons.mp h with rfl | h
  · exact tZ_368
  rcases List.mem_cons.mp h with rfl | h
  · exact tZ_369
  rcases List.mem_cons.mp h with rfl | h
  · exact tZ_370
  rcases List.mem_cons.mp h with rfl | h
  · exact tZ_371
  rcases List.mem_cons.mp h with rfl | h
  · exact tZ_372
  rcases List.mem_cons.mp h with rfl | h
  · exact tZ_373
  rcases List.mem_cons.mp h with rfl | h
  · exact tZ_374
  rcases List.mem_cons.mp h with rfl | h
  · exact tZ_375
  rcases List.mem_cons.mp h with rfl | h
  · exact tZ_376
  rcases List.mem_cons.mp h with rfl | h
  · exact tZ_377
  rcases List.mem_cons.mp h with rfl | h
  · exact tZ_378
  rcases List.mem_cons.mp h with rfl | h
  · exact tZ_379
  rcases List.mem_cons.mp h with rfl | h
  · exact tZ_380
  rcases List.mem_cons.mp h with rfl | h
  · exact tZ_381
  rcases List.mem_cons.mp h with rfl | h
  · exact tZ_382
  rcases List.mem_cons.mp h with rfl | h
  · exact tZ_383
  rcases List.mem_cons.mp h with rfl | h
  · exact tZ_384
  rcases List.mem_cons.mp h with rfl | h
  · exact tZ_385
  rcases List.mem_cons.mp h with rfl | h
  · exact tZ_386
  rcases List.mem_cons.mp h with rfl | h
  · exact tZ_387
  rcases List.mem_cons.mp h with rfl | h
  · exact tZ_388
  rcases List.mem_cons.mp h with rfl | h
  · exact tZ_389
  rcases List.mem_cons.mp h with rfl | h
  · exact tZ_390
  rcases List.mem_cons.mp h with rfl | h
  · exact tZ_391
  rcases List.mem_cons.mp h with rfl | h
  · exact tZ_392
  rcases List.mem_cons.mp h with rfl | h
  · exact tZ_393
  rcases List.mem_cons.mp h with rfl | h
  · exact tZ_394
  rcases List.mem_cons.mp h with rfl | h
  · exact tZ_395
  rcases List.mem_cons.mp h with rfl | h
  · exact tZ_396
  rcases List.mem_cons.mp h with rfl | h
  · exact tZ_397
  rcases List.mem_cons.mp h with rfl | h
  · exact tZ_398
  rcases List.mem_cons.mp h with rfl | h
  · exact tZ_399
  rcases List.mem_cons.mp h with rfl | h
  · exact tZ_400
  cases h
