/-! lemmas -/
def wY_0 : tc_Lm := rm_new 142 179 8192
theorem wZ_0 {RO : am_O} : tc_lmt tp_G RO tp_T wY_0 := rm_new_ok (S := tS_142) (j := 0) rfl rfl
def wY_1 : tc_Lm := rm_drop 142
theorem wZ_1 {RO : am_O} : tc_lmt tp_G RO tp_T wY_1 := rm_drop_ok (S := tS_142) rfl
def wY_2 : tc_Lm := rm_new 142 180 8192
theorem wZ_2 {RO : am_O} : tc_lmt tp_G RO tp_T wY_2 := rm_new_ok (S := tS_142) (j := 0) rfl rfl
def wY_3 : tc_Lm := un_mk 110 218
theorem wZ_3 {RO : am_O} : tc_lmt tp_G RO tp_T wY_3 := un_mk_ok (K := 168) (j := 2) rfl (by decide) rfl
def wY_4 : tc_Lm := ql_mk 96 218 tS_96
theorem wZ_4 {RO : am_O} : tc_lmt tp_G RO tp_T wY_4 := ql_mk_ok rfl rfl
def wY_5 : tc_Lm := un_new 110 168
theorem wZ_5 {RO : am_O} : tc_lmt tp_G RO tp_T wY_5 := un_new_ok (j := 2) rfl
def wY_6 : tc_Lm := kn_new 97 168 0
theorem wZ_6 {RO : am_O} : tc_lmt tp_G RO tp_T wY_6 := kn_new_ok (S := tS_97) (g := ql_a tS_96) rfl (ql_a_ok _) (by decide)
def wY_7 : tc_Lm := ij_new 111 168
theorem wZ_7 {RO : am_O} : tc_lmt tp_G RO tp_T wY_7 := ij_new_ok (j := 2) rfl
def wY_8 : tc_Lm := ij_shut 111 110 168 2
theorem wZ_8 {RO : am_O} : tc_lmt tp_G RO tp_T wY_8 := ij_shut_ok rfl rfl
def wY_9 : tc_Lm := kn_shut 97 96 tS_97 0
theorem wZ_9 {RO : am_O} : tc_lmt tp_G RO tp_T wY_9 := kn_shut_ok (g := ql_a tS_96) rfl rfl rfl
def wY_10 : tc_Lm := un_mk 102 239
theorem wZ_10 {RO : am_O} : tc_lmt tp_G RO tp_T wY_10 := un_mk_ok (K := 174) (j := 2) rfl (by decide) rfl
def wY_11 : tc_Lm := ql_mk 143 239 tS_143
theorem wZ_11 {RO : am_O} : tc_lmt tp_G RO tp_T wY_11 := ql_mk_ok rfl rfl
def wY_12 : tc_Lm := ql_mk 144 239 tS_144
theorem wZ_12 {RO : am_O} : tc_lmt tp_G RO tp_T wY_12 := ql_mk_ok rfl rfl
def wY_13 : tc_Lm := ql_two 143 144 82 16
theorem wZ_13 {RO : am_O} : tc_lmt tp_G RO tp_T wY_13 := ql_two_ok (k := 239) rfl rfl rfl
def wY_14 : tc_Lm := un_new 102 174
theorem wZ_14 {RO : am_O} : tc_lmt tp_G RO tp_T wY_14 := un_new_ok (j := 2) rfl
def wY_15 : tc_Lm := kn_new 83 174 0
theorem wZ_15 {RO : am_O} : tc_lmt tp_G RO tp_T wY_15 := kn_new_ok (S := tS_83) (g := ql_a tS_82) rfl (ql_a_ok _) (by decide)
def wY_16 : tc_Lm := ij_new 103 174
theorem wZ_16 {RO : am_O} : tc_lmt tp_G RO tp_T wY_16 := ij_new_ok (j := 2) rfl
def wY_17 : tc_Lm := ij_shut 103 102 174 2
theorem wZ_17 {RO : am_O} : tc_lmt tp_G RO tp_T wY_17 := ij_shut_ok rfl rfl
def wY_18 : tc_Lm := kn_shut 83 82 tS_83 0
theorem wZ_18 {RO : am_O} : tc_lmt tp_G RO tp_T wY_18 := kn_shut_ok (g := ql_a tS_82) rfl rfl rfl
def wY_19 : tc_Lm := nn_nil 63 215
theorem wZ_19 {RO : am_O} : tc_lmt tp_G RO tp_T wY_19 := nn_nil_ok rfl rfl
def wY_20 : tc_Lm := re_put 49 215
theorem wZ_20 {RO : am_O} : tc_lmt tp_G RO tp_T wY_20 := re_put_ok rfl
def wY_21 : tc_Lm := nn_put 63 2
theorem wZ_21 {RO : am_O} : tc_lmt tp_G RO tp_T wY_21 := nn_put_ok (k := 215) rfl (by decide)
def wY_22 : tc_Lm := one_new 70 71 166
theorem wZ_22 {RO : am_O} : tc_lmt tp_G RO tp_T wY_22 := one_new_ok rfl rfl
def wY_23 : tc_Lm := rm_new 142 177 1600
theorem wZ_23 {RO : am_O} : tc_lmt tp_G RO tp_T wY_23 := rm_new_ok (S := tS_142) (j := 0) rfl rfl
def wY_24 : tc_Lm := rm_new 142 178 2000
theorem wZ_24 {RO : am_O} : tc_lmt tp_G RO tp_T wY_24 := rm_new_ok (S := tS_142) (j := 0) rfl rfl
def wY_25 : tc_Lm := ql_mk 39 14 tS_39
theorem wZ_25 {RO : am_O} : tc_lmt tp_G RO tp_T wY_25 := ql_mk_ok rfl rfl
def wY_26 : tc_Lm := ql_mk 38 23 tS_38
theorem wZ_26 {RO : am_O} : tc_lmt tp_G RO tp_T wY_26 := ql_mk_ok rfl rfl
def wY_27 : tc_Lm := ql_mk 177 35 tS_177
theorem wZ_27 {RO : am_O} : tc_lmt tp_G RO tp_T wY_27 := ql_mk_ok rfl rfl
def wY_28 : tc_Lm := ql_mk 172 86 tS_172
theorem wZ_28 {RO : am_O} : tc_lmt tp_G RO tp_T wY_28 := ql_mk_ok rfl rfl
def wY_29 : tc_Lm := ql_mk 173 86 tS_173
theorem wZ_29 {RO : am_O} : tc_lmt tp_G RO tp_T wY_29 := ql_mk_ok rfl rfl
def wY_30 : tc_Lm := ql_mk 175 86 tS_175
theorem wZ_30 {RO : am_O} : tc_lmt tp_G RO tp_T wY_30 := ql_mk_ok rfl rfl
def wY_31 : tc_Lm := ql_mk 146 87 tS_146
theorem wZ_31 {RO : am_O} : tc_lmt tp_G RO tp_T wY_31 := ql_mk_ok rfl rfl
def wY_32 : tc_Lm := ql_mk 147 87 tS_147
theorem wZ_32 {RO : am_O} : tc_lmt tp_G RO tp_T wY_32 := ql_mk_ok rfl rfl
def wY_33 : tc_Lm := ql_mk 145 88 tS_145
theorem wZ_33 {RO : am_O} : tc_lmt tp_G RO tp_T wY_33 := ql_mk_ok rfl rfl
def wY_34 : tc_Lm := ql_mk 151 88 tS_151
theorem wZ_34 {RO : am_O} : tc_lmt tp_G RO tp_T wY_34 := ql_mk_ok rfl rfl
def wY_35 : tc_Lm := ql_mk 153 90 tS_153
theorem wZ_35 {RO : am_O} : tc_lmt tp_G RO tp_T wY_35 := ql_mk_ok rfl rfl
def wY_36 : tc_Lm := ql_mk 165 93 tS_165
theorem wZ_36 {RO : am_O} : tc_lmt tp_G RO tp_T wY_36 := ql_mk_ok rfl rfl
def wY_37 : tc_Lm := ql_mk 167 93 tS_167
theorem wZ_37 {RO : am_O} : tc_lmt tp_G RO tp_T wY_37 := ql_mk_ok rfl rfl
def wY_38 : tc_Lm := ql_mk 169 93 tS_169
theorem wZ_38 {RO : am_O} : tc_lmt tp_G RO tp_T wY_38 := ql_mk_ok rfl rfl
def wY_39 : tc_Lm := ql_mk 148 94 tS_148
theorem wZ_39 {RO : am_O} : tc_lmt tp_G RO tp_T wY_39 := ql_mk_ok rfl rfl
def wY_40 : tc_Lm := ql_mk 152 94 tS_152
theorem wZ_40 {RO : am_O} : tc_lmt tp_G RO tp_T wY_40 := ql_mk_ok rfl rfl
def wY_41 : tc_Lm := ql_mk 154 94 tS_154
theorem wZ_41 {RO : am_O} : tc_lmt tp_G RO tp_T wY_41 := ql_mk_ok rfl rfl
def wY_42 : tc_Lm := ql_mk 174 95 tS_174
theorem wZ_42 {RO : am_O} : tc_lmt tp_G RO tp_T wY_42 := ql_mk_ok rfl rfl
def wY_43 : tc_Lm := ql_mk 176 95 tS_176
theorem wZ_43 {RO : am_O} : tc_lmt tp_G RO tp_T wY_43 := ql_mk_ok rfl rfl
def wY_44 : tc_Lm := ql_mk 159 99 tS_159
theorem wZ_44 {RO : am_O} : tc_lmt tp_G RO tp_T wY_44 := ql_mk_ok rfl rfl
def wY_45 : tc_Lm := ql_mk 164 99 tS_164
theorem wZ_45 {RO : am_O} : tc_lmt tp_G RO tp_T wY_45 := ql_mk_ok rfl rfl
def wY_46 : tc_Lm := ql_mk 166 99 tS_166
theorem wZ_46 {RO : am_O} : tc_lmt tp_G RO tp_T wY_46 := ql_mk_ok rfl rfl
def wY_47 : tc_Lm := ql_mk 168 100 tS_168
theorem wZ_47 {RO : am_O} : tc_lmt tp_G RO tp_T wY_47 := ql_mk_ok rfl rfl
def wY_48 : tc_Lm := ql_mk 170 100 tS_170
theorem wZ_48 {RO : am_O} : tc_lmt tp_G RO tp_T wY_48 := ql_mk_ok rfl rfl
def wY_49 : tc_Lm := ql_mk 171 100 tS_171
theorem wZ_49 {RO : am_O} : tc_lmt tp_G RO tp_T wY_49 := ql_mk_ok rfl rfl
def wY_50 : tc_Lm := ql_mk 157 105 tS_157
theorem wZ_50 {RO : am_O} : tc_lmt tp_G RO tp_T wY_50 := ql_mk_ok rfl rfl
def wY_51 : tc_Lm := ql_mk 161 105 tS_161
theorem wZ_51 {RO : am_O} : tc_lmt tp_G RO tp_T wY_51 := ql_mk_ok rfl rfl
def wY_52 : tc_Lm := ql_mk 158 106 tS_158
theorem wZ_52 {RO : am_O} : tc_lmt tp_G RO tp_T wY_52 := ql_mk_ok rfl rfl
def wY_53 : tc_Lm := ql_mk 162 106 tS_162
theorem wZ_53 {RO : am_O} : tc_lmt tp_G RO tp_T wY_53 := ql_mk_ok rfl rfl
def wY_54 : tc_Lm := ky_new 181 182 147
theorem wZ_54 {RO : am_O} : tc_lmt tp_G RO tp_T wY_54 := ky_new_ok rfl rfl
def wY_55 : tc_Lm := ql_mk 178 151 tS_178
theorem wZ_55 {RO : am_O} : tc_lmt tp_G RO tp_T wY_55 := ql_mk_ok rfl rfl
def wY_56 : tc_Lm := ql_mk 155 159 tS_155
theorem wZ_56 {RO : am_O} : tc_lmt tp_G RO tp_T wY_56 := ql_mk_ok rfl rfl
def wY_57 : tc_Lm := ky_new 179 180 159
theorem wZ_57 {RO : am_O} : tc_lmt tp_G RO tp_T wY_57 := ky_new_ok rfl rfl
def wY_58 : tc_Lm := ql_mk 156 160 tS_156
theorem wZ_58 {RO : am_O} : tc_lmt tp_G RO tp_T wY_58 := ql_mk_ok rfl rfl
def wY_59 : tc_Lm := ky_kx 180 1
theorem wZ_59 {RO : am_O} : tc_lmt tp_G RO tp_T wY_59 := ky_kx_ok (S := tS_1) rfl rfl
def wY_60 : tc_Lm := ky_kx 182 2
theorem wZ_60 {RO : am_O} : tc_lmt tp_G RO tp_T wY_60 := ky_kx_ok (S := tS_2) rfl rfl
def wY_61 : tc_Lm := ql_add 145 146 149 1 1
theorem wZ_61 {RO : am_O} : tc_lmt tp_G RO tp_T wY_61 := ql_add_ok rfl rfl rfl rfl rfl rfl
def wY_62 : tc_Lm := ql_add 149 147 150 2 1
theorem wZ_62 {RO : am_O} : tc_lmt tp_G RO tp_T wY_62 := ql_add_ok rfl rfl rfl rfl rfl rfl
def wY_63 : tc_Lm := ql_add 150 148 3 3 1
theorem wZ_63 {RO : am_O} : tc_lmt tp_G RO tp_T wY_63 := ql_add_ok rfl rfl rfl rfl rfl rfl
def wY_64 : tc_Lm := ql_add 151 152 4 1 1
theorem wZ_64 {RO : am_O} : tc_lmt tp_G RO tp_T wY_64 := ql_add_ok rfl rfl rfl rfl rfl rfl
def wY_65 : tc_Lm := ql_add 153 154 5 1 1
theorem wZ_65 {RO : am_O} : tc_lmt tp_G RO tp_T wY_65 := ql_add_ok rfl rfl rfl rfl rfl rfl
def wY_66 : tc_Lm := ql_add 155 156 6 1 1
theorem wZ_66 {RO : am_O} : tc_lmt tp_G RO tp_T wY_66 := ql_add_ok rfl rfl rfl rfl rfl rfl
def wY_67 : tc_Lm := ql_add 157 158 160 1 1
theorem wZ_67 {RO : am_O} : tc_lmt tp_G RO tp_T wY_67 := ql_add_ok rfl rfl rfl rfl rfl rfl
def wY_68 : tc_Lm := ql_add 160 159 14 2 1
theorem wZ_68 {RO : am_O} : tc_lmt tp_G RO tp_T wY_68 := ql_add_ok rfl rfl rfl rfl rfl rfl
def wY_69 : tc_Lm := ql_add 161 162 163 1 1
theorem wZ_69 {RO : am_O} : tc_lmt tp_G RO tp_T wY_69 := ql_add_ok rfl rfl rfl rfl rfl rfl
def wY_70 : tc_Lm := ql_add 163 159 15 2 1
theorem wZ_70 {RO : am_O} : tc_lmt tp_G RO tp_T wY_70 := ql_add_ok rfl rfl rfl rfl rfl rfl
def wY_71 : tc_Lm := ql_add 164 165 16 1 1
theorem wZ_71 {RO : am_O} : tc_lmt tp_G RO tp_T wY_71 := ql_add_ok rfl rfl rfl rfl rfl rfl
def wY_72 : tc_Lm := ql_add 166 167 17 1 1
theorem wZ_72 {RO : am_O} : tc_lmt tp_G RO tp_T wY_72 := ql_add_ok rfl rfl rfl rfl rfl rfl
def wY_73 : tc_Lm := ql_add 168 169 18 1 1
theorem wZ_73 {RO : am_O} : tc_lmt tp_G RO tp_T wY_73 := ql_add_ok rfl rfl rfl rfl rfl rfl
def wY_74 : tc_Lm := ql_add 170 165 19 1 1
theorem wZ_74 {RO : am_O} : tc_lmt tp_G RO tp_T wY_74 := ql_add_ok rfl rfl rfl rfl rfl rfl
def wY_75 : tc_Lm := ql_add 171 167 20 1 1
theorem wZ_75 {RO : am_O} : tc_lmt tp_G RO tp_T wY_75 := ql_add_ok rfl rfl rfl rfl rfl rfl
def wY_76 : tc_Lm := ql_add 172 169 21 1 1
theorem wZ_76 {RO : am_O} : tc_lmt tp_G RO tp_T wY_76 := ql_add_ok rfl rfl rfl rfl rfl rfl
def wY_77 : tc_Lm := ql_add 173 174 22 1 1
theorem wZ_77 {RO : am_O} : tc_lmt tp_G RO tp_T wY_77 := ql_add_ok rfl rfl rfl rfl rfl rfl
def wY_78 : tc_Lm := ql_add 175 176 23 1 1
theorem wZ_78 {RO : am_O} : tc_lmt tp_G RO tp_T wY_78 := ql_add_ok rfl rfl rfl rfl rfl rfl
def wY_79 : tc_Lm := da_nil 8 177 34
theorem wZ_79 {RO : am_O} : tc_lmt tp_G RO tp_T wY_79 := da_nil_ok (S := tS_8) rfl rfl
def wY_80 : tc_Lm := fa_nil 13 178 150
theorem wZ_80 {RO : am_O} : tc_lmt tp_G RO tp_T wY_80 := fa_nil_ok (S := (tS_11, 151)) rfl rfl
def wY_81 : tc_Lm := nn_nil 60 212
theorem wZ_81 {RO : am_O} : tc_lmt tp_G RO tp_T wY_81 := nn_nil_ok rfl rfl
def wY_82 : tc_Lm := nn_nil 61 213
theorem wZ_82 {RO : am_O} : tc_lmt tp_G RO tp_T wY_82 := nn_nil_ok rfl rfl
def wY_83 : tc_Lm := nn_nil 62 214
theorem wZ_83 {RO : am_O} : tc_lmt tp_G RO tp_T wY_83 := nn_nil_ok rfl rfl
def wY_84 : tc_Lm := nn_nil 57 201
theorem wZ_84 {RO : am_O} : tc_lmt tp_G RO tp_T wY_84 := nn_nil_ok rfl rfl
def wY_85 : tc_Lm := nn_nil 58 203
theorem wZ_85 {RO : am_O} : tc_lmt tp_G RO tp_T wY_85 := nn_nil_ok rfl rfl
def wY_86 : tc_Lm := nn_nil 59 204
theorem wZ_86 {RO : am_O} : tc_lmt tp_G RO tp_T wY_86 := nn_nil_ok rfl rfl
def wY_87 : tc_Lm := ql_nil 112 tS_112
theorem wZ_87 {RO : am_O} : tc_lmt tp_G RO tp_T wY_87 := ql_nil_ok rfl
def wY_88 : tc_Lm := rm_pos 142
theorem wZ_88 {RO : am_O} : tc_lmt tp_G RO tp_T wY_88 := rm_pos_ok (S := tS_142) rfl (by decide +kernel)
def wY_89 : tc_Lm := ql_mono 112 tS_112 1
theorem wZ_89 {RO : am_O} : tc_lmt tp_G RO tp_T wY_89 := ql_mono_ok rfl rfl
def tw_L : List tc_Lm := [wY_0, wY_1, wY_2, wY_3, wY_4, wY_5, wY_6, wY_7, wY_8, wY_9, wY_10, wY_11, wY_12, wY_13, wY_14, wY_15, wY_16, wY_17, wY_18, wY_19, wY_20, wY_21, wY_22, wY_23, wY_24, wY_25, wY_26, wY_27, wY_28, wY_29, wY_30, wY_31, wY_32, wY_33, wY_34, wY_35, wY_36, wY_37, wY_38, wY_39, wY_40, wY_41, wY_42, wY_43, wY_44, wY_45, wY_46, wY_47, wY_48, wY_49, wY_50, wY_51, wY_52, wY_53, wY_54, wY_55, wY_56, wY_57, wY_58, wY_59, wY_60, wY_61, wY_62, wY_63, wY_64, wY_65, wY_66, wY_67, wY_68, wY_69, wY_70, wY_71, wY_72, wY_73, wY_74, wY_75, wY_76, wY_77, wY_78, wY_79, wY_80, wY_81, wY_82, wY_83, wY_84, wY_85, wY_86, wY_87, wY_88, wY_89]
theorem tw_L_ok {RO : am_O} : ∀ c ∈ tw_L, tc_lmt tp_G RO tp_T c := by
  intro c h
  rcases List.mem_cons.mp h with rfl | h
  · exact wZ_0
  rcases List.mem_cons.mp h with rfl | h
  · exact wZ_1
  rcases List.mem_cons.mp h with rfl | h
  · exact wZ_2
  rcases List.mem_cons.mp h with rfl | h
  · exact wZ_3
  rcases List.mem_cons.mp h with rfl | h
  · exact wZ_4
  rcases List.mem_cons.mp h with rfl | h
  · exact wZ_5
  rcases List.mem_cons.mp h with rfl | h
  · exact wZ_6
  rcases List.mem_cons.mp h with rfl | h
  · exact wZ_7
  rcases List.mem_cons.mp h with rfl | h
  · exact wZ_8
  rcases List.mem_cons.mp h with rfl | h
  · exact wZ_9
  rcases List.mem_cons.mp h with rfl | h
  · exact wZ_10
  rcases List.mem_cons.mp h with rfl | h
  · exact wZ_11
  rcases List.mem_cons.mp h with rfl | h
  · exact wZ_12
  rcases List.mem_cons.mp h with rfl | h
  · exact wZ_13
  rcases List.mem_cons.mp h with rfl | h
  · exact wZ_14
  rcases List.mem_cons.mp h with rfl | h
  · exact wZ_15
  rcases List.mem_cons.mp h with rfl | h
  · exact wZ_16
  rcases List.mem_cons.mp h with rfl | h
  · exact wZ_17
  rcases List.mem_cons.mp h with rfl | h
  · exact wZ_18
  rcases List.mem_cons.mp h with rfl | h
  · exact wZ_19
  rcases List.mem_cons.mp h with rfl | h
  · exact wZ_20
  rcases List.mem_cons.mp h with rfl | h
  · exact wZ_21
  rcases List.mem_cons.mp h with rfl | h
  · exact wZ_22
  rcases List.mem_cons.mp h with rfl | h
  · exact wZ_23
  rcases List.mem_cons.mp h with rfl | h
  · exact wZ_24
  rcases List.mem_cons.mp h with rfl | h
  · exact wZ_25
  rcases List.mem_cons.mp h with rfl | h
  · exact wZ_26
  rcases List.mem_cons.mp h with rfl | h
  · exact wZ_27
  rcases List.mem_cons.mp h with rfl | h
  · exact wZ_28
  rcases List.mem_cons.mp h with rfl | h
  · exact wZ_29
  rcases List.mem_cons.mp h with rfl | h
  · exact wZ_30
  rcases List.mem_cons.mp h with rfl | h
  · exact wZ_31
  rcases List.mem_cons.mp h with rfl | h
  · exact wZ_32
  rcases List.mem_cons.mp h with rfl | h
  · exact wZ_33
  rcases List.mem_cons.mp h with rfl | h
  · exact wZ_34
  rcases List.mem_cons.mp h with rfl | h
  · exact wZ_35
  rcases List.mem_cons.mp h with rfl | h
  · exact wZ_36
  rcases List.mem_cons.mp h with rfl | h
  · exact wZ_37
  rcases List.mem_cons.mp h with rfl | h
  · exact wZ_38
  rcases List.mem_cons.mp h with rfl | h
  · exact wZ_39
  rcases List.mem_cons.mp h with rfl | h
  · exact wZ_40
  rcases List.mem_cons.mp h with rfl | h
  · exact wZ_41
  rcases List.mem_cons.mp h with rfl | h
  · exact wZ_42
  rcases List.mem_cons.mp h with rfl | h
  · exact wZ_43
  rcases List.mem_cons.mp h with rfl | h
  · exact wZ_44
  rcases List.mem_cons.mp h with rfl | h
  · exact wZ_45
  rcases List.mem_cons.mp h with rfl | h
  · exact wZ_46
  rcases List.mem_cons.mp h with rfl | h
  · exact wZ_47
  rcases List.mem_cons.mp h with rfl | h
  · exact wZ_48
  rcases List.mem_cons.mp h with rfl | h
  · exact wZ_49
  rcases List.mem_cons.mp h with rfl | h
  · exact wZ_50
  rcases List.mem_cons.mp h with rfl | h
  · exact wZ_51
  rcases List.mem_cons.mp h with rfl | h
  · exact wZ_52
  rcases List.mem_cons.mp h with rfl | h
  · exact wZ_53
  rcases List.mem_cons.mp h with rfl | h
  · exact wZ_54
  rcases List.mem_cons.mp h with rfl | h
  · exact wZ_55
  rcases List.mem_cons.mp h with rfl | h
  · exact wZ_56
  rcases List.mem_cons.mp h with rfl | h
  · exact wZ_57
  rcases List.mem_cons.mp h with rfl | h
  · exact wZ_58
  rcases List.mem_cons.mp h with rfl | h
  · exact wZ_59
  rcases List.mem_cons.mp h with rfl | h
  · exact wZ_60
  rcases List.mem_cons.mp h with rfl | h
  · exact wZ_61
  rcases List.mem_cons.mp h with rfl | h
  · exact wZ_62
  rcases List.mem_cons.mp h with rfl | h
  · exact wZ_63
  rcases List.mem_cons.mp h with rfl | h
  · exact wZ_64
  rcases List.mem_cons.mp h with rfl | h
  · exact wZ_65
  rcases List.mem_cons.mp h with rfl | h
  · exact wZ_66
  rcases List.mem_cons.mp h with rfl | h
  · exact wZ_67
  rcases List.mem_cons.mp h with rfl | h
  · exact wZ_68
  rcases List.mem_cons.mp h with rfl | h
  · exact wZ_69
  rcases List.mem_cons.mp h with rfl | h
  · exact wZ_70
  rcases List.mem_cons.mp h with rfl | h
  · exact wZ_71
  rcases List.mem_cons.mp h with rfl | h
  · exact wZ_72
  rcases List.mem_cons.mp h with rfl | h
  · exact wZ_73
  rcases List.mem_cons.mp h with rfl | h
  · exact wZ_74
  rcases List.mem_cons.mp h with rfl | h
  · exact wZ_75
  rcases List.mem_cons.mp h with rfl | h
  · exact wZ_76
  rcases List.mem_cons.mp h with rfl | h
  · exact wZ_77
  rcases List.mem_cons.mp h with rfl | h
  · exact wZ_78
  rcases List.mem_cons.mp h with rfl | h
  · exact wZ_79
  rcases List.mem_cons.mp h with rfl | h
  · exact wZ_80
  rcases List.mem_cons.mp h with rfl | h
  · exact wZ_81
  rcases List.mem_cons.mp h with rfl | h
  · exact wZ_82
  rcases List.mem_cons.mp h with rfl | h
  · exact wZ_83
  rcases List.mem_cons.mp h with rfl | h
  · exact wZ_84
  rcases List.mem_cons.mp h with rfl | h
  · exact wZ_85
  rcases List.mem_cons.mp h with rfl | h
  · exact wZ_86
  rcases List.mem_cons.mp h with rfl | h
  · exact wZ_87
  rcases List.mem_cons.mp h with rfl | h
  · exact wZ_88
  rcases List.mem_cons.mp h with rfl | h
  · exact wZ_89
  cases h
theorem la_n {α : Type} {P : α → Prop} : ∀ c ∈ ([] : List α), P c := fun c h => by cases h
theorem la_c {α : Type} {P : α → Prop} {a : α} {l : List α} (h : P a) (t : ∀ c ∈ l, P c) : ∀ c ∈ a :: l, P c := fun c hc => by
  rcases List.mem_cons.mp hc with rfl | hc
  · exact h
  · exact t c hc
theorem la_m0 {P : am_P} : ∀ (z : Nat) (mz : am_Meth), (none : Option am_Meth) = some mz → am_meth P z = some mz := fun z mz h => by cases h
theorem la_m {P : am_P} {A : Nat} {m : am_Meth} {f : Nat → Option am_Meth} (h1 : am_meth P A = some m) (h2 : ∀ z mz, f z = some mz → am_meth P z = some mz) : ∀ z mz, (if z = A then some m else f z) = some mz → am_meth P z = some mz := fun z mz h => by
  rcases de_m h with ⟨rfl, rfl⟩ | h
  · exact h1
  · exact h2 _ _ h
