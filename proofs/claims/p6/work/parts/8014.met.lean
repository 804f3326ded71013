/-! contracts -/
noncomputable def tK_171 : tc_Ct := (104, (1, 3), [(2, ([], 0), 0), (2, ([], 0), 1), (2, ([], 0), 2)], ([([(0, -1)], 30), ([(0, 1)], 0)], [(0, 166), (1, 176), (2, 175)], [], [(0, 9, (0, ([(0, 1)], 0), 0))], [], [], [(664, [], []), (680, [], []), (704, [], []), (720, [], []), (744, [], []), (760, [], [([(0, 1)], 0)]), (824, [], []), (840, [], []), (856, [], []), (944, [], [])]), [(167, 0), (167, 1), (167, 2), (167, 3), (167, 4), (167, 5), (242, 0)], [((1, 3), ([([(0, -1)], 30), ([(0, 1)], -1)], [], [], [], [], [], []), some (0, ([], 0), 0), ([], 0), ([], 0)), ((1, 3), ([([(0, -1)], 30), ([(0, 1)], -1)], [], [], [], [], [], []), some (0, ([], 1), 0), ([], 0), ([], 0))])
noncomputable def tJ_171 : List tc_Pl := []
noncomputable def tC_171 : List tc_Ct := [tK_169, tK_170, tK_165]
def tM_171 (z : Nat) : Option am_Meth := if z = 93 then some aM_93.1 else if z = 92 then some aM_92.1 else if z = 54 then some aM_54.1 else none
set_option maxRecDepth 100000 in
theorem tMs_171 (sa : Nat → Nat) : ∀ z mz, tM_171 z = some mz → am_meth (aP sa) z = some mz := by
  intro z mz h
  unfold tM_171 at h
  rcases de_m h with ⟨rfl, rfl⟩ | h
  · exact (show am_meth (aP sa) 93 = some aM_93.1 from rfl)
  rcases de_m h with ⟨rfl, rfl⟩ | h
  · exact (show am_meth (aP sa) 92 = some aM_92.1 from rfl)
  rcases de_m h with ⟨rfl, rfl⟩ | h
  · exact (show am_meth (aP sa) 54 = some aM_54.1 from rfl)
  cases h
noncomputable def tV_171 : tc_Ev := (aQ, tp_T, tp_G.2, tp_Z, tM_171, tC_171, tp_L, tK_171.2.2.2.2.1, aM_104.1, aW_104, tK_171.2.1, tK_171.2.2.2.2.2, tJ_171)
theorem tE_171 : tK_171.2.2.2.2.2.all (tc_wex tK_171.2.1.1 tK_171.2.1.2) = true := by decide +kernel
theorem tSS_171 : tC_171.all (fun c => tw_mg tK_171.2.2.2.2.1 c.2.2.2.2.1) = true := by decide +kernel
theorem tHC_171 : ∀ c ∈ tC_171, c.2.2.2.2.1.all tK_171.2.2.2.2.1.contains = true ∧ c.2.2.2.2.2.all (tc_wex c.2.1.1 c.2.1.2) = true := tf_hc tSS_171 (by
  intro c hc
  have hc : c ∈ ([tK_169, tK_170, tK_165] : List tc_Ct) := hc
  rcases List.mem_cons.mp hc with rfl | hc
  · exact tE_169
  rcases List.mem_cons.mp hc with rfl | hc
  · exact tE_170
  rcases List.mem_cons.mp hc with rfl | hc
  · exact tE_165
  cases hc)
noncomputable def tH_171_0 : List tc_It := [de_it 0x2010000, de_it 0xa0402000f, de_it 0x80002000100020101000000000000050404040404bc060009, de_it 0x1000100010001000000000000000000000000000000000c0002000100020101000001000200000006be010009, de_it 0x2, de_it 0x4010000, de_it 0x2, de_it 0x8010000, de_it 0x10105010100000300000001, de_it 0x2010000, de_it 0x2, de_it 0x2010000, de_it 0x2, de_it 0x2010000, de_it 0x8010011, de_it 0x107010100010200000106010002, de_it 0x2010000, de_it 0x2, de_it 0x2010000, de_it 0xa010011, de_it 0x10d010100010200000108010002, de_it 0x2010000, de_it 0x2, de_it 0x2010000, de_it 0x2, de_it 0x4010000, de_it 0xc010011, de_it 0x80202000f, de_it 0x40202000f, de_it 0xe010011, de_it 0x117010100010208000800020e00020012, de_it 0x11b0101011c0101011301010114010101150101011601010001000100000000000000000000000000000001100002090100020601000207010400040e0c080200050006, de_it 0x4010000, de_it 0x11701010001020a000a00020e00020012, de_it 0x1280101012901010113010101140101011501010116010100010001000000000000000000000000000000011000020a0100020601000207010400040e0c080202050006, de_it 0x6452504a3836302e2c2a2826201e1c1a1412100e080604020019000d, de_it 0x118010101150101010d0101010e010101160101011701010113010101140101010b0101010c0101010701010108010100000000000000000000000000000006140002060100020a01000209010002050100020301050c0604030006, de_it 0x4010000, de_it 0x10125010100000300000001, de_it 0x2010000, de_it 0x1020104020101000101000000000000000000010001000100010a0000010007, de_it 0x5452504e4c4a48463836302e2c2a28262422201e1c1a1412100e0c0a080604020021000d, de_it 0x4010000, de_it 0x10121010100000300000001, de_it 0x2010000, de_it 0x1020104020101000101000000000000000000010001000100010a0002010007, de_it 0x4010000, de_it 0x105010202010300000001, de_it 0x4010000, de_it 0x2, de_it 0x2, de_it 0x1080106010303010300000001, de_it 0x8010000, de_it 0x10000010a01010300000001, de_it 0x2010000, de_it 0x2, de_it 0x2010000, de_it 0x10801010102010102000201010100010002, de_it 0x10c0101000000000300000001, de_it 0x2010000, de_it 0x2, de_it 0x2010000, de_it 0x2, de_it 0x2010000, de_it 0xa010011, de_it 0x110010100010200000106010002, de_it 0x2010000, de_it 0x2, de_it 0x2010000, de_it 0xc010011, de_it 0x116010100010200000108010002, de_it 0x2010000, de_it 0x2, de_it 0x2010000, de_it 0x2, de_it 0x4010000, de_it 0xe010011, de_it 0x80202000f, de_it 0x40202000f, de_it 0x10010011, de_it 0x120010100010208000800021000020012, de_it 0x124010101250101011c0101011d0101011e0101011f010100010001000000000000000000000000000000011000020b010002080100020901040004100e0a0200050006, de_it 0x5c4a4842403e3c3a3832302e2c262422201e18100e0c08060402001b000d, de_it 0x4010000, de_it 0x11601010001020a000a00021000020012, de_it 0x11d0101011e01010112010101130101011401010115010100010001000000000000000000000000000000011000020c010002080100020901040004100e0a0202050006, de_it 0x1270101011a01010112010101130101011d0101011e010101180101011901010110010101110101010c0101010d010100000000000000000000000000000006140002080100020c0100020b010002070100020501050e0804030006, de_it 0x4e3c3a3432302e2c2a28262422201e1c1a18161412100e0c0a08060402001e000d, de_it 0x4010000, de_it 0x10000011f01010300000001, de_it 0x2010000, de_it 0x2, de_it 0x4010000, de_it 0x1011f010100000300000001, de_it 0x2010000, de_it 0x10001010701010102010104000201010100010003, de_it 0x2010000, de_it 0x1040102020101000101000000000000000000010001000100010a0000010007, de_it 0x72706e6c6a68666456544e3c3a3432302e2c2a2826241e1c1a18161412100e0c0a080604020026000d, de_it 0x4010000, de_it 0x10000012701010300000001, de_it 0x2010000, de_it 0x2, de_it 0x4010000, de_it 0x10000012801010300000001, de_it 0x4010000, de_it 0x10001010701010102010104000201010100010003, de_it 0x2010000, de_it 0x1040102020101000101000000000000000000010001000100010a0002010007, de_it 0x2010000, de_it 0x2, de_it 0x2010000, de_it 0x1080101010201010200000002, de_it 0x2010000, de_it 0x10e0101000000000300000001, de_it 0x2010000, de_it 0x1040102020101000101000000000000000000010001000100010a0000010007, de_it 0x4010000, de_it 0x1040102020101000101000000000000000000010001000100010a0002010007]
set_option maxRecDepth 100000 in
theorem tR_171 : tf_go tV_171 tK_171.2.1.1 tK_171.2.1.2 none tH_171_0 [(tK_171.2.1, tK_171.2.2.2.1, 0, tc_args 0 tK_171.2.2.1, [], ([], 0), ([], 0))] = true := by decide +kernel
set_option maxRecDepth 100000 in
theorem tT_171 {RO : am_O} {sa : Nat → Nat} (h_165 : tc_true (aP sa) tp_G RO tp_T tp_Z tK_165) (h_169 : tc_true (aP sa) tp_G RO tp_T tp_Z tK_169) (h_170 : tc_true (aP sa) tp_G RO tp_T tp_Z tK_170) : tc_true (aP sa) tp_G RO tp_T tp_Z tK_171 := by
  have hC : ∀ c ∈ tC_171, tc_true (aP sa) tp_G RO tp_T tp_Z c := by
    intro c hc
    have hc : c ∈ ([tK_169, tK_170, tK_165] : List tc_Ct) := hc
    rcases List.mem_cons.mp hc with rfl | hc
    · exact h_169
    rcases List.mem_cons.mp hc with rfl | hc
    · exact h_170
    rcases List.mem_cons.mp hc with rfl | hc
    · exact h_165
    cases hc
  have hP : ∀ p ∈ tJ_171, ∃ hs, tc_plk (aP sa, tV_171.2) p hs = true := by
    intro p hp
    have hp : p ∈ ([] : List tc_Pl) := hp
    cases hp
  exact tc_main (mt := aM_104.1) (hs := tH_171_0) (PL := tJ_171) ⟨tp_G_ok, tMs_171 _, hC, tp_L_ok, tp_G_re⟩ (show am_meth (aP sa) 104 = some aM_104.1 from rfl) aX_104 (by decide +kernel) hP ((tc_go_sa (aP_sa sa _)).trans ((tf_go_s tHC_171).trans tR_171))
noncomputable def tK_172 : tc_Ct := (100, (4, 8), [(2, ([], 0), 0), (0, ([], 0), 0), (2, ([], 0), 1), (0, ([(0, 1)], 0), 0)], ([([(0, -1)], 1), ([(0, 1)], 0), ([(1, -1)], 400), ([(1, 1)], 0), ([(2, -1)], 800), ([(2, 1)], -400), ([(3, -1)], 800), ([(3, 1)], -1)], [(0, 174), (1, 175), (2, 198), (3, 239), (4, 238), (5, 198), (6, 240), (7, 238)], [(2, ([(2, 1)], 0)), (5, ([(3, 1)], 0))], [(0, 0, (2, ([], 0), 2)), (0, 1, (2, ([], 0), 4)), (0, 2, (2, ([], 0), 3)), (0, 4, (0, ([(1, 1)], 0), 0)), (1, 0, (2, ([], 0), 5)), (1, 1, (2, ([], 0), 7)), (1, 2, (2, ([], 0), 6))], [], [], [(664, [], []), (680, [], []), (704, [], []), (720, [], []), (744, [], []), (824, [], []), (840, [], []), (856, [], []), (944, [], [])]), [], [((4, 8), ([([(0, -1)], 1), ([(0, 1)], 0), ([(1, -1)], 400), ([(1, 1)], 0), ([(2, -1)], 800), ([(2, 1)], -400), ([(3, -1)], 800), ([(3, 1)], -1)], [], [(2, ([(2, 1)], 0)), (5, ([(3, 1)], 0))], [], [], [], [(688, [6, 6], [([], 0), ([], 16), ([], -1)]), (672, [6], [([], 0), ([], 32), ([], -1), ([(3, 1)], 0)]), (656, [3, 3], [([], 0), ([], 16), ([], -1)])]), some (0, ([], 0), 0), ([], 0), ([], 0)), ((4, 8), ([([(0, -1)], 1), ([(0, 1)], 0), ([(1, -1)], 400), ([(1, 1)], 0), ([(2, -1)], 800), ([(2, 1)], -400), ([(3, -1)], 800), ([(3, 1)], -1)], [], [(2, ([(2, 1)], 0)), (5, ([(3, 1)], 0))], [], [], [], [(688, [6, 6], [([], 0), ([], 16), ([], -1)]), (672, [6], [([], 0), ([], 32), ([], -1), ([(3, 1)], 0)]), (656, [3, 3], [([], 0), ([], 16), ([], -1)])]), some (0, ([], 1), 0), ([], 0), ([], 0))])
noncomputable def tJ_172 : List tc_Pl := []
noncomputable def tC_172 : List tc_Ct := [tK_166, tK_167, tK_161, tK_162, tK_117]
def tM_172 (z : Nat) : Option am_Meth := if z = 93 then some aM_93.1 else if z = 92 then some aM_92.1 else if z = 86 then some aM_86.1 else none
set_option maxRecDepth 100000 in
theorem tMs_172 (sa : Nat → Nat) : ∀ z mz, tM_172 z = some mz → am_meth (aP sa) z = some mz := by
  intro z mz h
  unfold tM_172 at h
  rcases de_m h with ⟨rfl, rfl⟩ | h
  · exact (show am_meth (aP sa) 93 = some aM_93.1 from rfl)
  rcases de_m h with ⟨rfl, rfl⟩ | h
  · exact (show am_meth (aP sa) 92 = some aM_92.1 from rfl)
  rcases de_m h with ⟨rfl, rfl⟩ | h
  · exact (show am_meth (aP sa) 86 = some aM_86.1 from rfl)
  cases h
noncomputable def tV_172 : tc_Ev := (aQ, tp_T, tp_G.2, tp_Z, tM_172, tC_172, tp_L, tK_172.2.2.2.2.1, aM_100.1, aW_100, tK_172.2.1, tK_172.2.2.2.2.2, tJ_172)
theorem tE_172 : tK_172.2.2.2.2.2.all (tc_wex tK_172.2.1.1 tK_172.2.1.2) = true := by decide +kernel
theorem tSS_172 : tC_172.all (fun c => tw_mg tK_172.2.2.2.2.1 c.2.2.2.2.1) = true := by decide +kernel
theorem tHC_172 : ∀ c ∈ tC_172, c.2.2.2.2.1.all tK_172.2.2.2.2.1.contains = true ∧ c.2.2.2.2.2.all (tc_wex c.2.1.1 c.2.1.2) = true := tf_hc tSS_172 (by
  intro c hc
  have hc : c ∈ ([tK_166, tK_167, tK_161, tK_162, tK_117] : List tc_Ct) := hc
  rcases List.mem_cons.mp hc with rfl | hc
  · exact tE_166
  rcases List.mem_cons.mp hc with rfl | hc
  · exact tE_167
  rcases List.mem_cons.mp hc with rfl | hc
  · exact tE_161
  rcases List.mem_cons.mp hc with rfl | hc
  · exact tE_162
  rcases List.mem_cons.mp hc with rfl | hc
  · exact tE_117
  cases hc)
noncomputable def tH_172_0 : List tc_It := [de_it 0x2010000, de_it 0x2, de_it 0x4010000, de_it 0x6010011, de_it 0x108010100010200000000020600020012, de_it 0x10c0101010d0101010501010104010101030101010201010001000100000000000000000000000000000001100002050100020201000201010000040604080000050006, de_it 0x4010000, de_it 0x108010100010202000200020600020012, de_it 0x118010101190101010501010104010101030101010201010001000100000000000000000000000000000001100002060100020201000201010000040604080002050006, de_it 0x2010000, de_it 0x2, de_it 0x4010000, de_it 0x80202000f, de_it 0xc010011, de_it 0x1240200020102010101020004000100040001020c00020012, de_it 0x128010101290101010701010106010101220101012301010101010101000101000000000000000000000000000000011000020901000203010002070100020001040c0a0e0204050006, de_it 0x6452504a48464432301a1812100e0c0a080604020015000d, de_it 0x4010000, de_it 0x1100200020102010101020204000102040001020c00020012, de_it 0x1170101011801010107010101060101010e0101010f01010101010101000101000000000000000000000000000000011000020a01000203010002070100020001040c0a0e0206050006, de_it 0x113010d01050301010b0121020101140101010b010502010107010101060101010501010104010101170101011801010112010101130101010c0101010d0101010a0101010b01010000000000000000000000000000000018000203010002020100020a01000209010002060100020501060a0408030006, de_it 0x62605c42302e28262422201e1c1a18161412100e0c0a08060402001b000d, de_it 0x10701010106010101050101010401010103010101020101010101010100010100000000000000000001000100010001100000010007, de_it 0x66645e5c42302e28262422201e1c1a18161412100e0c0a08060402001c000d, de_it 0x10701010106010101050101010401010103010101020101010101010100010100000000000000000001000100010001100002010007]
set_option maxRecDepth 100000 in
theorem tR_172 : tf_go tV_172 tK_172.2.1.1 tK_172.2.1.2 none tH_172_0 [(tK_172.2.1, tK_172.2.2.2.1, 0, tc_args 0 tK_172.2.2.1, [], ([], 0), ([], 0))] = true := by decide +kernel
set_option maxRecDepth 100000 in
theorem tT_172 {RO : am_O} {sa : Nat → Nat} (h_117 : tc_true (aP sa) tp_G RO tp_T tp_Z tK_117) (h_161 : tc_true (aP sa) tp_G RO tp_T tp_Z tK_161) (h_162 : tc_true (aP sa) tp_G RO tp_T tp_Z tK_162) (h_166 : tc_true (aP sa) tp_G RO tp_T tp_Z tK_166) (h_167 : tc_true (aP sa) tp_G RO tp_T tp_Z tK_167) : tc_true (aP sa) tp_G RO tp_T tp_Z tK_172 := by
  have hC : ∀ c ∈ tC_172, tc_true (aP sa) tp_G RO tp_T tp_Z c := by
    intro c hc
    have hc : c ∈ ([tK_166, tK_167, tK_161, tK_162, tK_117] : List tc_Ct) := hc
    rcases List.mem_cons.mp hc with rfl | hc
    · exact h_166
    rcases List.mem_cons.mp hc with rfl | hc
    · exact h_167
    rcases List.mem_cons.mp hc with rfl | hc
    · exact h_161
    rcases List.mem_cons.mp hc with rfl | hc
    · exact h_162
    rcases List.mem_cons.mp hc with rfl | hc
    · exact h_117
    cases hc
  have hP : ∀ p ∈ tJ_172, ∃ hs, tc_plk (aP sa, tV_172.2) p hs = true := by
    intro p hp
    have hp : p ∈ ([] : List tc_Pl) := hp
    cases hp
  exact tc_main (mt := aM_100.1) (hs := tH_172_0) (PL := tJ_172) ⟨tp_G_ok, tMs_172 _, hC, tp_L_ok, tp_G_re⟩ (show am_meth (aP sa) 100 = some aM_100.1 from rfl) aX_100 (by decide +kernel) hP ((tc_go_sa (aP_sa sa _)).trans ((tf_go_s tHC_172).trans tR_172))
noncomputable def tK_173 : tc_Ct := (109, (1, 2), [(2, ([], 0), 0), (2, ([], 0), 1), (0, ([(0, 1)], 0), 0)], ([([(0, -1)], 2147483647), ([(0, 1)], 2147483648)], [(0, 174), (1, 175)], [], [], [], [], [(664, [], []), (680, [], []), (704, [], []), (720, [], []), (744, [], []), (824, [], []), (840, [], []), (856, [], []), (944, [], [])]), [], [((1, 2), ([([(0, -1)], 2147483647), ([(0, 1)], 2147483648)], [], [], [], [], [], []), some (0, ([], 0), 0), ([], 0), ([], 0)), ((1, 2), ([([(0, -1)], 2147483647), ([(0, 1)], 2147483648)], [], [], [], [], [], []), some (0, ([], 1), 0), ([], 0), ([], 0))])
noncomputable def tJ_173 : List tc_Pl := []
noncomputable def tC_173 : List tc_Ct := [tK_172]
def tM_173 (z : Nat) : Option am_Meth := if z = 100 then some aM_100.1 else none
set_option maxRecDepth 100000 in
theorem tMs_173 (sa : Nat → Nat) : ∀ z mz, tM_173 z = some mz → am_meth (aP sa) z = some mz := by
  intro z mz h
  unfold tM_173 at h
  rcases de_m h with ⟨rfl, rfl⟩ | h
  · exact (show am_meth (aP sa) 100 = some aM_100.1 from rfl)
  cases h
noncomputable def tV_173 : tc_Ev := (aQ, tp_T, tp_G.2, tp_Z, tM_173, tC_173, tp_L, tK_173.2.2.2.2.1, aM_109.1, aW_109, tK_173.2.1, tK_173.2.2.2.2.2, tJ_173)
theorem tE_173 : tK_173.2.2.2.2.2.all (tc_wex tK_173.2.1.1 tK_173.2.1.2) = true := by decide +kernel
theorem tSS_173 : tC_173.all (fun c => tw_mg tK_173.2.2.2.2.1 c.2.2.2.2.1) = true := by decide +kernel
theorem tHC_173 : ∀ c ∈ tC_173, c.2.2.2.2.1.all tK_173.2.2.2.2.1.contains = true ∧ c.2.2.2.2.2.all (tc_wex c.2.1.1 c.2.1.2) = true := tf_hc tSS_173 (by
  intro c hc
  have hc : c ∈ ([tK_172] : List tc_Ct) := hc
  rcases List.mem_cons.mp hc with rfl | hc
  · exact tE_172
  cases hc)
noncomputable def tH_173_0 : List tc_It := [de_it 0x2010000, de_it 0x2, de_it 0x2010000, de_it 0x4010011, de_it 0x102010100010200000102010002, de_it 0x2010000, de_it 0x300000001, de_it 0x2010000, de_it 0x1010101010801050201000000000000000000010001000100010a0000010007, de_it 0x4010000, de_it 0x2, de_it 0x2010000, de_it 0x102010100010200000104010002, de_it 0x300000001, de_it 0x2010000, de_it 0x109010d020101000101000000000000000000010001000100010a0000010007, de_it 0x8010000, de_it 0x2000f, de_it 0x6010011, de_it 0x10010, de_it 0x80002000f, de_it 0x40002000f, de_it 0x202000f, de_it 0xa010011, de_it 0x40202000f, de_it 0x20202000f, de_it 0x11301010114010101100101010f010101110101011201010001000100000000000000000000000000000003100002060100020401000205010000040e0c0a040806020000090006, de_it 0x1011d010100000300000001, de_it 0x2010000, de_it 0x101010101000101000000000000000000010001000100010a0000010007, de_it 0x10000011e01010300000001, de_it 0x4010000, de_it 0x101010101000101000000000000000000010001000100010a0002010007]
set_option maxRecDepth 100000 in
theorem tR_173 : tf_go tV_173 tK_173.2.1.1 tK_173.2.1.2 none tH_173_0 [(tK_173.2.1, tK_173.2.2.2.1, 0, tc_args 0 tK_173.2.2.1, [], ([], 0), ([], 0))] = true := by decide +kernel
set_option maxRecDepth 100000 in
theorem tT_173 {RO : am_O} {sa : Nat → Nat} (h_172 : tc_true (aP sa) tp_G RO tp_T tp_Z tK_172) : tc_true (aP sa) tp_G RO tp_T tp_Z tK_173 := by
  have hC : ∀ c ∈ tC_173, tc_true (aP sa) tp_G RO tp_T tp_Z c := by
    intro c hc
    have hc : c ∈ ([tK_172] : List tc_Ct) := hc
    rcases List.mem_cons.mp hc with rfl | hc
    · exact h_172
    cases hc
  have hP : ∀ p ∈ tJ_173, ∃ hs, tc_plk (aP sa, tV_173.2) p hs = true := by
    intro p hp
    have hp : p ∈ ([] : List tc_Pl) := hp
    cases hp
  exact tc_main (mt := aM_109.1) (hs := tH_173_0) (PL := tJ_173) ⟨tp_G_ok, tMs_173 _, hC, tp_L_ok, tp_G_re⟩ (show am_meth (aP sa) 109 = some aM_109.1 from rfl) aX_109 (by decide +kernel) hP ((tc_go_sa (aP_sa sa _)).trans ((tf_go_s tHC_173).trans tR_173))
noncomputable def tK_174 : tc_Ct := (100, (3, 8), [(2, ([], 0), 0), (0, ([], 0), 0), (2, ([], 0), 1), (0, ([], 0), 0)], ([([(0, -1)], 400), ([(0, 1)], 0), ([(1, -1)], 800), ([(1, 1)], -1), ([(2, -1)], 800), ([(2, 1)], -1)], [(0, 176), (1, 175), (2, 238), (3, 198), (4, 241), (5, 238), (6, 198), (7, 240)], [(3, ([(1, 1)], 0)), (6, ([(2, 1)], 0))], [(0, 0, (2, ([], 0), 3)), (0, 1, (2, ([], 0), 2)), (0, 2, (2, ([], 0), 4)), (0, 4, (0, ([(0, 1)], 0), 0)), (1, 0, (2, ([], 0), 6)), (1, 1, (2, ([], 0), 5)), (1, 2, (2, ([], 0), 7))], [], [], [(664, [], []), (680, [], []), (704, [], []), (720, [], []), (744, [], []), (824, [], []), (840, [], []), (856, [], []), (944, [], [])]), [], [((3, 8), ([([(0, -1)], 400), ([(0, 1)], 0), ([(1, -1)], 800), ([(1, 1)], -1), ([(2, -1)], 800), ([(2, 1)], -1)], [], [(3, ([(1, 1)], 0)), (6, ([(2, 1)], 0))], [], [], [], [(688, [7, 7], [([], 0), ([], 16), ([], -1)]), (672, [7], [([], 0), ([], 32), ([], -1), ([(2, 1)], 0)]), (936, [4], []), (728, [4, 4], [([], 0), ([], 16), ([], -1)]), (712, [4], [([], 0), ([], 32), ([], -1), ([(1, 1)], 0)])]), some (0, ([], 0), 0), ([], 0), ([], 0)), ((3, 8), ([([(0, -1)], 400), ([(0, 1)], 0), ([(1, -1)], 800), ([(1, 1)], -1), ([(2, -1)], 800), ([(2, 1)], -1)], [], [(3, ([(1, 1)], 0)), (6, ([(2, 1)], 0))], [], [], [], [(688, [7, 7], [([], 0), ([], 16), ([], -1)]), (672, [7], [([], 0), ([], 32), ([], -1), ([(2, 1)], 0)]), (936, [4], []), (728, [4, 4], [([], 0), ([], 16), ([], -1)]), (712, [4], [([], 0), ([], 32), ([], -1), ([(1, 1)], 0)])]), some (0, ([], 1), 0), ([], 0), ([], 0))])
noncomputable def tJ_174 : List tc_Pl := []
noncomputable def tC_174 : List tc_Ct := [tK_169, tK_170, tK_161, tK_162, tK_117]
def tM_174 (z : Nat) : Option am_Meth := if z = 93 then some aM_93.1 else if z = 92 then some aM_92.1 else if z = 86 then some aM_86.1 else none
set_option maxRecDepth 100000 in
theorem tMs_174 (sa : Nat → Nat) : ∀ z mz, tM_174 z = some mz → am_meth (aP sa) z = some mz := by
  intro z mz h
  unfold tM_174 at h
  rcases de_m h with ⟨rfl, rfl⟩ | h
  · exact (show am_meth (aP sa) 93 = some aM_93.1 from rfl)
  rcases de_m h with ⟨rfl, rfl⟩ | h
  · exact (show am_meth (aP sa) 92 = some aM_92.1 from rfl)
  rcases de_m h with ⟨rfl, rfl⟩ | h
  · exact (show am_meth (aP sa) 86 = some aM_86.1 from rfl)
  cases h
noncomputable def tV_174 : tc_Ev := (aQ, tp_T, tp_G.2, tp_Z, tM_174, tC_174, tp_L, tK_174.2.2.2.2.1, aM_100.1, aW_100, tK_174.2.1, tK_174.2.2.2.2.2, tJ_174)
theorem tE_174 : tK_174.2.2.2.2.2.all (tc_wex tK_174.2.1.1 tK_174.2.1.2) = true := by decide +kernel
theorem tSS_174 : tC_174.all (fun c => tw_mg tK_174.2.2.2.2.1 c.2.2.2.2.1) = true := by decide +kernel
theorem tHC_174 : ∀ c ∈ tC_174, c.2.2.2.2.1.all tK_174.2.2.2.2.1.contains = true ∧ c.2.2.2.2.2.all (tc_wex c.2.1.1 c.2.1.2) = true := tf_hc tSS_174 (by
  intro c hc
  have hc : c ∈ ([tK_169, tK_170, tK_161, tK_162, tK_117] : List tc_Ct) := hc
  rcases List.mem_cons.mp hc with rfl | hc
  · exact tE_169
  rcases List.mem_cons.mp hc with rfl | hc
  · exact tE_170
  rcases List.mem_cons.mp hc with rfl | hc
  · exact tE_161
  rcases List.mem_cons.mp hc with rfl | hc
  · exact tE_162
  rcases List.mem_cons.mp hc with rfl | hc
  · exact tE_117
  cases hc)
noncomputable def tH_174_0 : List tc_It := [de_it 0x2010000, de_it 0x2, de_it 0x4010000, de_it 0x8010011, de_it 0x106010100010200000000020800020012, de_it 0x10a0101010b0101010301010102010101010101010001010001000100000000000000000000000000000001100002040100020101000200010000040806040000050006, de_it 0x4010000, de_it 0x106010100010202000200020800020012, de_it 0x117010101180101010301010102010101010101010001010001000100000000000000000000000000000001100002050100020101000200010000040806040002050006, de_it 0x2010000, de_it 0x2, de_it 0x4010000, de_it 0x80202000f, de_it 0xe010011, de_it 0x124010100010200000000020e00020012, de_it 0x128010101290101010501010104010101220101012301010001000100000000000000000000000000000001100002080100020201000206010000040e0c0a0204050006, de_it 0x6452504a48464442302e2816140e0c0a080604020015000d, de_it 0x4010000, de_it 0x110010100010202000200020e00020012, de_it 0x1170101011801010105010101040101010e0101010f01010001000100000000000000000000000000000001100002090100020201000206010000040e0c0a0206050006, de_it 0x113010d020101090121020101140101010a01010105010101040101010301010102010101170101011801010112010101130101010b0101010c010101080101010901010000000000000000000000000000000018000202010002010100020901000208010002050100020401060c0608030006, de_it 0x626042302e28262422201e1c1a18161412100e0c0a08060402001a000d, de_it 0x10501010104010101030101010201010101010101000101000000000000000000010001000100010e0000010007, de_it 0x666442302e28262422201e1c1a18161412100e0c0a08060402001a000d, de_it 0x10501010104010101030101010201010101010101000101000000000000000000010001000100010e0002010007]
set_option maxRecDepth 100000 in
theorem tR_174 : tf_go tV_174 tK_174.2.1.1 tK_174.2.1.2 none tH_174_0 [(tK_174.2.1, tK_174.2.2.2.1, 0, tc_args 0 tK_174.2.2.1, [], ([], 0), ([], 0))] = true := by decide +kernel
set_option maxRecDepth 100000 in
theorem tT_174 {RO : am_O} {sa : Nat → Nat} (h_117 : tc_true (aP sa) tp_G RO tp_T tp_Z tK_117) (h_161 : tc_true (aP sa) tp_G RO tp_T tp_Z tK_161) (h_162 : tc_true (aP sa) tp_G RO tp_T tp_Z tK_162) (h_169 : tc_true (aP sa) tp_G RO tp_T tp_Z tK_169) (h_170 : tc_true (aP sa) tp_G RO tp_T tp_Z tK_170) : tc_true (aP sa) tp_G RO tp_T tp_Z tK_174 := by
  have hC : ∀ c ∈ tC_174, tc_true (aP sa) tp_G RO tp_T tp_Z c := by
    intro c hc
    have hc : c ∈ ([tK_169, tK_170, tK_161, tK_162, tK_117] : List tc_Ct) := hc
    rcases List.mem_cons.mp hc with rfl | hc
    · exact h_169
    rcases List.mem_cons.mp hc with rfl | hc
    · exact h_170
    rcases List.mem_cons.mp hc with rfl | hc
    · exact h_161
    rcases List.mem_cons.mp hc with rfl | hc
    · exact h_162
    rcases List.mem_cons.mp hc with rfl | hc
    · exact h_117
    cases hc
  have hP : ∀ p ∈ tJ_174, ∃ hs, tc_plk (aP sa, tV_174.2) p hs = true := by
    intro p hp
    have hp : p ∈ ([] : List tc_Pl) := hp
    cases hp
  exact tc_main (mt := aM_100.1) (hs := tH_174_0) (PL := tJ_174) ⟨tp_G_ok, tMs_174 _, hC, tp_L_ok, tp_G_re⟩ (show am_meth (aP sa) 100 = some aM_100.1 from rfl) aX_100 (by decide +kernel) hP ((tc_go_sa (aP_sa sa _)).trans ((tf_go_s tHC_174).trans tR_174))
noncomputable def tK_175 : tc_Ct := (109, (1, 2), [(2, ([], 0), 0), (2, ([], 0), 1), (0, ([(0, 1)], 0), 0)], ([([(0, -1)], 2147483647), ([(0, 1)], 2147483648)], [(0, 176), (1, 175)], [], [], [], [], [(664, [], []), (680, [], []), (704, [], []), (720, [], []), (744, [], []), (824, [], []), (840, [], []), (856, [], []), (944, [], [])]), [], [((1, 2), ([([(0, -1)], 2147483647), ([(0, 1)], 2147483648)], [], [], [], [], [], []), some (0, ([], 0), 0), ([], 0), ([], 0)), ((1, 2), ([([(0, -1)], 2147483647), ([(0, 1)], 2147483648)], [], [], [], [], [], []), some (0, ([], 1), 0), ([], 0), ([], 0))])
noncomputable def tJ_175 : List tc_Pl := []
noncomputable def tC_175 : List tc_Ct := [tK_174]
def tM_175 (z : Nat) : Option am_Meth := if z = 100 then some aM_100.1 else none
set_option maxRecDepth 100000 in
theorem tMs_175 (sa : Nat → Nat) : ∀ z mz, tM_175 z = some mz → am_meth (aP sa) z = some mz := by
  intro z mz h
  unfold tM_175 at h
  rcases de_m h with ⟨rfl, rfl⟩ | h
  · exact (show am_meth (aP sa) 100 = some aM_100.1 from rfl)
  cases h
noncomputable def tV_175 : tc_Ev := (aQ, tp_T, tp_G.2, tp_Z, tM_175, tC_175, tp_L, tK_175.2.2.2.2.1, aM_109.1, aW_109, tK_175.2.1, tK_175.2.2.2.2.2, tJ_175)
theorem tE_175 : tK_175.2.2.2.2.2.all (tc_wex tK_175.2.1.1 tK_175.2.1.2) = true := by decide +kernel
theorem tSS_175 : tC_175.all (fun c => tw_mg tK_175.2.2.2.2.1 c.2.2.2.2.1) = true := by decide +kernel
theorem tHC_175 : ∀ c ∈ tC_175, c.2.2.2.2.1.all tK_175.2.2.2.2.1.contains = true ∧ c.2.2.2.2.2.all (tc_wex c.2.1.1 c.2.1.2) = true := tf_hc tSS_175 (by
  intro c hc
  have hc : c ∈ ([tK_174] : List tc_Ct) := hc
  rcases List.mem_cons.mp hc with rfl | hc
  · exact tE_174
  cases hc)
noncomputable def tH_175_0 : List tc_It := [de_it 0x2010000, de_it 0x2, de_it 0x2010000, de_it 0x4010011, de_it 0x102010100010200000102010002, de_it 0x2010000, de_it 0x300000001, de_it 0x2010000, de_it 0x1010101010801050201000000000000000000010001000100010a0000010007, de_it 0x4010000, de_it 0x2, de_it 0x2010000, de_it 0x102010100010200000104010002, de_it 0x300000001, de_it 0x2010000, de_it 0x109010d020101000101000000000000000000010001000100010a0000010007, de_it 0x8010000, de_it 0x2000f, de_it 0x6010011, de_it 0x80002000f, de_it 0x40002000f, de_it 0x202000f, de_it 0xa010011, de_it 0x40202000f, de_it 0x20202000f, de_it 0x112010101130101010e0101010f01010110010101110101000000000000000000000000000000030e000206010002040100020501030c0a0e080604020000090006, de_it 0x1011a010100000300000001, de_it 0x2010000, de_it 0x101010101000101000000000000000000010001000100010a0000010007, de_it 0x10000011b01010300000001, de_it 0x4010000, de_it 0x101010101000101000000000000000000010001000100010a0002010007]
set_option maxRecDepth 100000 in
theorem tR_175 : tf_go tV_175 tK_175.2.1.1 tK_175.2.1.2 none tH_175_0 [(tK_175.2.1, tK_175.2.2.2.1, 0, tc_args 0 tK_175.2.2.1, [], ([], 0), ([], 0))] = true := by decide +kernel
set_option maxRecDepth 100000 in
theorem tT_175 {RO : am_O} {sa : Nat → Nat} (h_174 : tc_true (aP sa) tp_G RO tp_T tp_Z tK_174) : tc_true (aP sa) tp_G RO tp_T tp_Z tK_175 := by
  have hC : ∀ c ∈ tC_175, tc_true (aP sa) tp_G RO tp_T tp_Z c := by
    intro c hc
    have hc : c ∈ ([tK_174] : List tc_Ct) := hc
    rcases List.mem_cons.mp hc with rfl | hc
    · exact h_174
    cases hc
  have hP : ∀ p ∈ tJ_175, ∃ hs, tc_plk (aP sa, tV_175.2) p hs = true := by
    intro p hp
    have hp : p ∈ ([] : List tc_Pl) := hp
    cases hp
  exact tc_main (mt := aM_109.1) (hs := tH_175_0) (PL := tJ_175) ⟨tp_G_ok, tMs_175 _, hC, tp_L_ok, tp_G_re⟩ (show am_meth (aP sa) 109 = some aM_109.1 from rfl) aX_109 (by decide +kernel) hP ((tc_go_sa (aP_sa sa _)).trans ((tf_go_s tHC_175).trans tR_175))
noncomputable def tK_176 : tc_Ct := (79, (3, 4), [(2, ([], 0), 0), (0, ([(0, 1)], 0), 0)], ([([(0, -1)], 396), ([(0, 1)], 0), ([(1, -1)], 400), ([(1, 1)], 0), ([(2, -1)], 800), ([(2, 1)], -4), ([(0, -1), (2, 1)], -4)], [(0, 176), (1, 198), (2, 238), (3, 241)], [(1, ([(2, 1)], 0))], [(0, 0, (2, ([], 0), 1)), (0, 1, (2, ([], 0), 2)), (0, 2, (2, ([], 0), 3)), (0, 4, (0, ([(1, 1)], 0), 0))], [], [], []), [], [((4, 4), ([([(0, -1)], 396), ([(0, 1)], 0), ([(1, -1)], 400), ([(1, 1)], 0), ([(2, -1)], 800), ([(2, 1)], -4), ([(3, -1)], 2147483647), ([(3, 1)], 2147483648), ([(0, -1), (2, 1)], -4)], [], [(1, ([(2, 1)], 0))], [], [], [], []), some (0, ([(3, 1)], 0), 0), ([], 0), ([], 0))])
noncomputable def tJ_176 : List tc_Pl := []
noncomputable def tC_176 : List tc_Ct := []
def tM_176 (z : Nat) : Option am_Meth := none
set_option maxRecDepth 100000 in
theorem tMs_176 (sa : Nat → Nat) : ∀ z mz, tM_176 z = some mz → am_meth (aP sa) z = some mz := fun z mz h => by cases h
noncomputable def tV_176 : tc_Ev := (aQ, tp_T, tp_G.2, tp_Z, tM_176, tC_176, tp_L, tK_176.2.2.2.2.1, aM_79.1, aW_79, tK_176.2.1, tK_176.2.2.2.2.2, tJ_176)
theorem tE_176 : tK_176.2.2.2.2.2.all (tc_wex tK_176.2.1.1 tK_176.2.1.2) = true := by decide +kernel
theorem tSS_176 : tC_176.all (fun c => tw_mg tK_176.2.2.2.2.1 c.2.2.2.2.1) = true := by decide +kernel
theorem tHC_176 : ∀ c ∈ tC_176, c.2.2.2.2.1.all tK_176.2.2.2.2.1.contains = true ∧ c.2.2.2.2.2.all (tc_wex c.2.1.1 c.2.1.2) = true := tf_hc tSS_176 (by
  intro c hc
  have hc : c ∈ ([] : List tc_Ct) := hc
  cases hc)
noncomputable def tH_176_0 : List tc_It := [de_it 0x2010000, de_it 0x2, de_it 0x2010000, de_it 0x10601010101010102000200010100010002, de_it 0x2010000, de_it 0x101, de_it 0x2010000, de_it 0x2, de_it 0x4010000, de_it 0x1000101010101010200000001, de_it 0x10601010101010102020200010100010002, de_it 0x2010000, de_it 0x10000ff1001010000000000010000ff0f01010200000001, de_it 0x101, de_it 0x2010000, de_it 0x2, de_it 0x4010000, de_it 0x1000101010101010200000001, de_it 0x10601010101010102040200010100010002, de_it 0x2010000, de_it 0x100ff1601010000000000000100ff1501010200000001, de_it 0x101, de_it 0x2010000, de_it 0x2, de_it 0x4010000, de_it 0x1000101010101010200000001, de_it 0x10601010101010102060200010100010002, de_it 0x101, de_it 0x1060101011d0101011e0101010501010104010101030101010201010101010101000101000000000000000000000000000100011100020a010100010007]
set_option maxRecDepth 100000 in
theorem tR_176 : tf_go tV_176 tK_176.2.1.1 tK_176.2.1.2 none tH_176_0 [(tK_176.2.1, tK_176.2.2.2.1, 0, tc_args 0 tK_176.2.2.1, [], ([], 0), ([], 0))] = true := by decide +kernel
set_option maxRecDepth 100000 in
theorem tT_176 {RO : am_O} {sa : Nat → Nat} : tc_true (aP sa) tp_G RO tp_T tp_Z tK_176 := by
  have hC : ∀ c ∈ tC_176, tc_true (aP sa) tp_G RO tp_T tp_Z c := by
    intro c hc
    have hc : c ∈ ([] : List tc_Ct) := hc
    cases hc
  have hP : ∀ p ∈ tJ_176, ∃ hs, tc_plk (aP sa, tV_176.2) p hs = true := by
    intro p hp
    have hp : p ∈ ([] : List tc_Pl) := hp
    cases hp
  exact tc_main (mt := aM_79.1) (hs := tH_176_0) (PL := tJ_176) ⟨tp_G_ok, tMs_176 _, hC, tp_L_ok, tp_G_re⟩ (show am_meth (aP sa) 79 = some aM_79.1 from rfl) aX_79 (by decide +kernel) hP ((tc_go_sa (aP_sa sa _)).trans ((tf_go_s tHC_176).trans tR_176))
noncomputable def tK_177 : tc_Ct := (110, (3, 4), [(2, ([], 0), 0), (0, ([(0, 1)], 0), 0)], ([([(0, -1)], 2147483647), ([(0, 1)], 2147483648), ([(1, -1)], 400), ([(1, 1)], 0), ([(2, -1)], 800), ([(2, 1)], -1)], [(0, 176), (1, 198), (2, 241), (3, 238)], [(1, ([(2, 1)], 0))], [(0, 0, (2, ([], 0), 1)), (0, 1, (2, ([], 0), 3)), (0, 2, (2, ([], 0), 2)), (0, 4, (0, ([(1, 1)], 0), 0))], [], [], [(664, [], []), (680, [], []), (704, [], []), (720, [], []), (744, [], []), (824, [], []), (840, [], []), (856, [], []), (944, [], [])]), [], [((3, 4), ([([(0, -1)], 2147483647), ([(0, 1)], 2147483648), ([(1, -1)], 400), ([(1, 1)], 0), ([(2, -1)], 800), ([(2, 1)], -1)], [], [(1, ([(2, 1)], 0))], [], [], [], [(936, [2], []), (728, [2, 2], [([], 0), ([], 16), ([], -1)]), (712, [2], [([], 0), ([], 32), ([], -1), ([(2, 1)], 0)])]), some (0, ([], 0), 0), ([], 0), ([], 0)), ((3, 4), ([([(0, -1)], 2147483647), ([(0, 1)], 2147483648), ([(1, -1)], 400), ([(1, 1)], 0), ([(2, -1)], 800), ([(2, 1)], -4)], [], [(1, ([(2, 1)], 0))], [], [], [], [(936, [2], []), (728, [2, 2], [([], 0), ([], 16), ([], -1)]), (712, [2], [([], 0), ([], 32), ([], -1), ([(2, 1)], 0)])]), some (0, ([], 1), 0), ([], 0), ([], 0))])
noncomputable def tL_177_0 : tc_Pl := de_pl 0x30d34ff000001030202020000000000030d34ff00030000000000000002030100020000020001000100000002000306000000000000000003b0ff00000000000000000358ff00000000000000000348ff00000000000000000338ff000000000000000002e8ff000000000000000002d0ff000000000000000002c0ff000000000000000002a8ff00000000000000000298ff0002020101004000000004020100000000000002c8ff0100200000000302020200000000000002d8ff00020100000000000003a8ff000205010302010000000000000003a0ff0d00000205010e0002000204010c000202000002010100040002000002020003000002010001000002000004000202010101ee03f102c601b00004000104020302000104020202000103020202000205010000000000000320ff010501000204010000000000000320ff010401000203010000000000000320ff010301010202010000000000000640ff010201000201010000000000000320ff0101010000000100000000ff02000100000000fffffffeff010001010202010000000000000640ff010201000201010000000000000320ff0101010000000100000000ff02000100000000fffffffeff010001150406
noncomputable def tJ_177 : List tc_Pl := [tL_177_0]
noncomputable def tC_177 : List tc_Ct := [tK_169, tK_170, tK_176]
def tM_177 (z : Nat) : Option am_Meth := if z = 93 then some aM_93.1 else if z = 92 then some aM_92.1 else if z = 79 then some aM_79.1 else none
set_option maxRecDepth 100000 in
theorem tMs_177 (sa : Nat → Nat) : ∀ z mz, tM_177 z = some mz → am_meth (aP sa) z = some mz := by
  intro z mz h
  unfold tM_177 at h
  rcases de_m h with ⟨rfl, rfl⟩ | h
  · exact (show am_meth (aP sa) 93 = some aM_93.1 from rfl)
  rcases de_m h with ⟨rfl, rfl⟩ | h
  · exact (show am_meth (aP sa) 92 = some aM_92.1 from rfl)
  rcases de_m h with ⟨rfl, rfl⟩ | h
  · exact (show am_meth (aP sa) 79 = some aM_79.1 from rfl)
  cases h
noncomputable def tV_177 : tc_Ev := (aQ, tp_T, tp_G.2, tp_Z, tM_177, tC_177, tp_L, tK_177.2.2.2.2.1, aM_110.1, aW_110, tK_177.2.1, tK_177.2.2.2.2.2, tJ_177)
theorem tE_177 : tK_177.2.2.2.2.2.all (tc_wex tK_177.2.1.1 tK_177.2.1.2) = true := by decide +kernel
theorem tSS_177 : tC_177.all (fun c => tw_mg tK_177.2.2.2.2.1 c.2.2.2.2.1) = true := by decide +kernel
theorem tHC_177 : ∀ c ∈ tC_177, c.2.2.2.2.1.all tK_177.2.2.2.2.1.contains = true ∧ c.2.2.2.2.2.all (tc_wex c.2.1.1 c.2.1.2) = true := tf_hc tSS_177 (by
  intro c hc
  have hc : c ∈ ([tK_169, tK_170, tK_176] : List tc_Ct) := hc
  rcases List.mem_cons.mp hc with rfl | hc
  · exact tE_169
  rcases List.mem_cons.mp hc with rfl | hc
  · exact tE_170
  rcases List.mem_cons.mp hc with rfl | hc
  · exact tE_176
  cases hc)
noncomputable def tH_177_0 : List tc_It := [de_it 0x4010000, de_it 0x4010011, de_it 0x10601010001020c000c00020400020012, de_it 0x10a0101010b0101010501010104010101030101010201010001000100000000000000000000000000000001100002040100020201000201010600040402060000050006, de_it 0x10601010001020e000e00020400020012, de_it 0x800020501000204010204ce020009, de_it 0x2010000, de_it 0x101140101011401010117010101180101010a0101010b0101010a0101010b0101010501010104010101030101010201010101010101000101010501010104010101030101010201010101010101000101000000000000000000000000000100011d0002050100020401000204010300010008]
set_option maxRecDepth 100000 in
theorem tR_177 : tf_go tV_177 tK_177.2.1.1 tK_177.2.1.2 none tH_177_0 [(tK_177.2.1, tK_177.2.2.2.1, 0, tc_args 0 tK_177.2.2.1, [], ([], 0), ([], 0))] = true := by decide +kernel
noncomputable def tH_177_1 : List tc_It := [de_it 0x6010000, de_it 0x4010011, de_it 0x111010101100101010501010104010101030101010201010001000100000000000000000000000000000001100002050100020201000201010600040402060002050006, de_it 0x300000001, de_it 0x2010000, de_it 0x10501010104010101030101010201010101010101000101000000000000000000010001000100010e0000010007, de_it 0x4010000, de_it 0x12001010000000000000000000000000000000009000205010302016e010009, de_it 0x121011f02010121010d011f0301010401010103010101020101010d0101012101100201000000000000000000000000000000010f000202010002010100020301030406020004050006, de_it 0x5452504e44423e2c2a282622201e1c1a080604020015000d, de_it 0x2010000, de_it 0x300000001, de_it 0x1100101010501010200000001, de_it 0x2010000, de_it 0x10001000000000000000000000000000000000a01000702050103020002050103020370010009, de_it 0x10b0101010f010b010e0301011401010105010f02010108010101070101010b0110020101050101011001010111010101040101010301010102010101010101010001010111010101040101010301010102010101010101010001010000000001140101000100000001000100011d0002050100020401080203010300010008, de_it 0x2010000, de_it 0x11101010104010101030101010201010101010101000101000000000000000000010001000100010e0002010007]
set_option maxRecDepth 100000 in
theorem tP_177_0 : tf_plk tV_177 tL_177_0 tH_177_1 = true := by decide +kernel
set_option maxRecDepth 100000 in
theorem tT_177 {RO : am_O} {sa : Nat → Nat} (h_169 : tc_true (aP sa) tp_G RO tp_T tp_Z tK_169) (h_170 : tc_true (aP sa) tp_G RO tp_T tp_Z tK_170) (h_176 : tc_true (aP sa) tp_G RO tp_T tp_Z tK_176) : tc_true (aP sa) tp_G RO tp_T tp_Z tK_177 := by
  have hC : ∀ c ∈ tC_177, tc_true (aP sa) tp_G RO tp_T tp_Z c := by
    intro c hc
    have hc : c ∈ ([tK_169, tK_170, tK_176] : List tc_Ct) := hc
    rcases List.mem_cons.mp hc with rfl | hc
    · exact h_169
    rcases List.mem_cons.mp hc with rfl | hc
    · exact h_170
    rcases List.mem_cons.mp hc with rfl | hc
    · exact h_176
    cases hc
  have hP : ∀ p ∈ tJ_177, ∃ hs, tc_plk (aP sa, tV_177.2) p hs = true := by
    intro p hp
    have hp : p ∈ ([tL_177_0] : List tc_Pl) := hp
    rcases List.mem_cons.mp hp with rfl | hp
    · exact ⟨_, (tc_plk_sa (aP_sa sa _)).trans ((tf_plk_s tHC_177).trans tP_177_0)⟩
    cases hp
  exact tc_main (mt := aM_110.1) (hs := tH_177_0) (PL := tJ_177) ⟨tp_G_ok, tMs_177 _, hC, tp_L_ok, tp_G_re⟩ (show am_meth (aP sa) 110 = some aM_110.1 from rfl) aX_110 (by decide +kernel) hP ((tc_go_sa (aP_sa sa _)).trans ((tf_go_s tHC_177).trans tR_177))
noncomputable def tK_178 : tc_Ct := (108, (4, 5), [(2, ([], 0), 0), (2, ([], 0), 1), (2, ([], 0), 2), (0, ([(0, 1)], 0), 0)], ([([(0, -1)], 2147483647), ([(0, 1)], 2147483648), ([(1, -1)], 30), ([(1, 1)], 0), ([(2, -1)], 12), ([(2, 1)], 0), ([(3, -1)], 12), ([(3, 1)], 0)], [(0, 166), (1, 175), (2, 175), (3, 213), (4, 214)], [], [(0, 9, (0, ([(1, 1)], 0), 0)), (0, 10, (2, ([], 0), 3)), (0, 11, (0, ([(2, 1)], 0), 0)), (0, 12, (2, ([], 0), 4)), (0, 13, (0, ([(3, 1)], 0), 0))], [], [], [(664, [], []), (680, [], []), (704, [], []), (720, [], []), (744, [], []), (760, [], [([(1, 1)], 0)]), (824, [], []), (840, [], []), (856, [], []), (944, [], []), (488, [3], [([], 0), ([(2, 1)], 0), ([], -1)]), (496, [4], [([], 0), ([(3, 1)], 0), ([], -1)])]), [(167, 0), (167, 1), (167, 2), (167, 3), (167, 4), (167, 5), (242, 0)], [((5, 5), ([([(0, -1)], 2147483647), ([(0, 1)], 2147483648), ([(1, -1)], 30), ([(1, 1)], 0), ([(2, -1)], 12), ([(2, 1)], 0), ([(3, -1)], 12), ([(3, 1)], 0), ([(4, -1)], 2147483647), ([(4, 1)], 2147483648)], [], [], [], [], [], []), some (0, ([(4, 1)], 0), 0), ([], 0), ([], 0))])
noncomputable def tL_178_0 : tc_Pl := de_pl 0x30bfaff000001050202020000000000030bfaff00030000000000000002050100060500000205000002040100040000020001000302000002020100000201000000020007a3010000020301000003040100000000000001f0ff010000020201000003030100000000000001e8ff000000000000000003b0ff00000000000000000358ff00000000000000000348ff00000000000000000338ff00020101010000000000000002f8ff000000000000000002e8ff000000000000000002d0ff000000000000000002c0ff000000000000000002a8ff00000000000000000298ff0c00000207010e0007000204010000060207000002010206000002010100000206010011000000020301000d00040000020c000000020201000b00030000020a0000000201010009000800ee07ee06b005d604d503af02af01a600080001050202020000000100000000ff02070100000000fffffffeff010701000206010201060101020501180105010000000100000000ff02040100000000fffffffeff01040100020301180103010102020118010201010201013c0101010000000100000000ff02000100000000fffffffeff01000100020301180103010002020118010201000201013c0101010000000100000000ff02000100000000fffffffeff010001190808
noncomputable def tL_178_1 : tc_Pl := de_pl 0x30bfaff000001050202020000000000030bfaff00030000000000000002050100060000000305000002040100040000020001000302000002020100000201000000020007a3010000020301000003040100000000000001f0ff010000020201000003030100000000000001e8ff000000000000000003b0ff00000000000000000358ff00000000000000000348ff00000000000000000338ff00020101010000000000000002f8ff000000000000000002e8ff000000000000000002d0ff000000000000000002c0ff000000000000000002a8ff00000000000000000298ff0c00000207010e0006000204010000050206000002010205000002010100000206010011000000020301000d00040000020c000000020201000b00030000020a0000000201010009000800ee06ee05d604d503af02af01a600070001050202020000000100000000ff02070100000000fffffffeff010701000206010201060100020501180105010000000100000000ff02040100000000fffffffeff01040100020301180103010002020118010201000201013c0101010000000100000000ff02000100000000fffffffeff01000100020301180103010002020118010201000201013c0101010000000100000000ff02000100000000fffffffeff010001190708
noncomputable def tL_178_2 : tc_Pl := de_pl 0x30c94ff000401060205020000000000030c94ff000300000000000000020501000500000204010004000002000100030200000202010000020100000002000656010000020301000003040100000000000001f0ff010000020201000003030100000000000001e8ff000000000000000003b0ff00000000000000000358ff00000000000000000348ff00000000000000000338ff00020101010000000000000002f8ff000000000000000002e8ff000000000000000002d0ff000000000000000002c0ff000000000000000002a8ff00000000000000000298ff0c00000207010e0006000204010000050206000002010205000002010100000206010011000000020301000d00040000020c000000020201000b00030000020a0000000201010009000800ee06ee05d604d503af02af01a600070101050203020000000100000000ff02070100000000fffffffeff010701000206010201060102020501160105010000000100000000ff02040100000000fffffffeff01040100020301180103010002020118010201000201013c0101010000000100000000ff02000100000000fffffffeff01000100020301180103010002020118010201000201013c0101010000000100000000ff02000100000000fffffffeff010001190708
noncomputable def tJ_178 : List tc_Pl := [tL_178_0, tL_178_1, tL_178_2]
noncomputable def tC_178 : List tc_Ct := [tK_173, tK_168, tK_177, tK_175, tK_171]
def tM_178 (z : Nat) : Option am_Meth := if z = 110 then some aM_110.1 else if z = 109 then some aM_109.1 else if z = 104 then some aM_104.1 else none
set_option maxRecDepth 100000 in
theorem tMs_178 (sa : Nat → Nat) : ∀ z mz, tM_178 z = some mz → am_meth (aP sa) z = some mz := by
  intro z mz h
  unfold tM_178 at h
  rcases de_m h with ⟨rfl, rfl⟩ | h
  · exact (show am_meth (aP sa) 110 = some aM_110.1 from rfl)
  rcases de_m h with ⟨rfl, rfl⟩ | h
  · exact (show am_meth (aP sa) 109 = some aM_109.1 from rfl)
  rcases de_m h with ⟨rfl, rfl⟩ | h
  · exact (show am_meth (aP sa) 104 = some aM_104.1 from rfl)
  cases h
noncomputable def tV_178 : tc_Ev := (aQ, tp_T, tp_G.2, tp_Z, tM_178, tC_178, tp_L, tK_178.2.2.2.2.1, aM_108.1, aW_108, tK_178.2.1, tK_178.2.2.2.2.2, tJ_178)
theorem tE_178 : tK_178.2.2.2.2.2.all (tc_wex tK_178.2.1.1 tK_178.2.1.2) = true := by decide +kernel
theorem tSS_178 : tC_178.all (fun c => tw_mg tK_178.2.2.2.2.1 c.2.2.2.2.1) = true := by decide +kernel
theorem tHC_178 : ∀ c ∈ tC_178, c.2.2.2.2.1.all tK_178.2.2.2.2.1.contains = true ∧ c.2.2.2.2.2.all (tc_wex c.2.1.1 c.2.1.2) = true := tf_hc tSS_178 (by
  intro c hc
  have hc : c ∈ ([tK_173, tK_168, tK_177, tK_175, tK_171] : List tc_Ct) := hc
  rcases List.mem_cons.mp hc with rfl | hc
  · exact tE_173
  rcases List.mem_cons.mp hc with rfl | hc
  · exact tE_168
  rcases List.mem_cons.mp hc with rfl | hc
  · exact tE_177
  rcases List.mem_cons.mp hc with rfl | hc
  · exact tE_175
  rcases List.mem_cons.mp hc with rfl | hc
  · exact tE_171
  cases hc)
noncomputable def tH_178_0 : List tc_It := [de_it 0x2010000, de_it 0x2, de_it 0x2010000, de_it 0xa010011, de_it 0x10801010001020000010e010002, de_it 0x4010000, de_it 0x10e0101000000000300000001, de_it 0x2010000, de_it 0x2, de_it 0x2010000, de_it 0xc010011, de_it 0x111010100010200000100010002, de_it 0x4010000, de_it 0x2, de_it 0x1170101000000000300000001, de_it 0x2010000, de_it 0x2, de_it 0x2010000, de_it 0x1060101010701010200000001, de_it 0x2010000, de_it 0x1010a0101010b010101170101011a01010107010101060101011301010114010101070101010601010105010101040101010301010102010101010101010001010107010101060101010501010104010101030101010201010101010101000101000000000000000000000000000100012100020501000209010102030100020801040a0c04030008, de_it 0x2010000, de_it 0x2, de_it 0x2, de_it 0x2010000, de_it 0x10010011, de_it 0x11a010100010200000100010002, de_it 0x2010000, de_it 0x300000001, de_it 0x2010000, de_it 0x2, de_it 0x2010000, de_it 0x1060101010701010200000001, de_it 0x2010000, de_it 0x1010a0101010b010101190101011801010107010101060101011301010114010101070101010601010105010101040101010301010102010101010101010001010107010101060101010501010104010101030101010201010101010101000101000000000000000000000000000100012100020501000209010102030100020801040a0c04030008, de_it 0x2010000, de_it 0x2, de_it 0x4010000, de_it 0x101010101000101000000000000000000000000000000000a0002000101020e00030006, de_it 0x10124010100000300000001, de_it 0x2010000, de_it 0x2, de_it 0x2010000, de_it 0x1060101010701010200000001, de_it 0x2010000, de_it 0x1010a0101010b010101190101011801010107010101060101011301010114010101070101010601010105010101040101010301010102010101010101010001010107010101060101010501010104010101030101010201010101010101000101000000000000000000000000000100012100020501000209010102030100020801040a0c04030008, de_it 0x10000012501010300000001, de_it 0x4010000, de_it 0x2, de_it 0x2010000, de_it 0x103010101020101000000000000000000000000000000020a0002010101040e0002040006, de_it 0x10127010100000300000001, de_it 0x2010000, de_it 0x2, de_it 0x2010000, de_it 0x1060101010701010200000001, de_it 0x2010000, de_it 0x1010a0101010b010101190101011801010107010101060101011301010114010101070101010601010105010101040101012601010102010101010101010001010107010101060101010501010104010101260101010201010101010101000101000000000000000000000000000100012100020501000209010102030100020801040a0c04030008, de_it 0x10000012801010300000001, de_it 0x2010000, de_it 0x2, de_it 0x2, de_it 0x2010000, de_it 0x11a01010001020000010a010002, de_it 0x1280101012901010107010101060101010501010104010101260101010201010101010101000101000000000000000000000000000100011200020c010100010007, de_it 0x2010000, de_it 0x100010107010101060101010501010104010101030101010201010101010101000101000000000000000000000000000100011204000100010007]
set_option maxRecDepth 100000 in
theorem tR_178 : tf_go tV_178 tK_178.2.1.1 tK_178.2.1.2 none tH_178_0 [(tK_178.2.1, tK_178.2.2.2.1, 0, tc_args 0 tK_178.2.2.1, [], ([], 0), ([], 0))] = true := by decide +kernel
noncomputable def tH_178_1 : List tc_It := [de_it 0x4010000, de_it 0x2, de_it 0x300000001, de_it 0x8010000, de_it 0xa02000f, de_it 0x10010011, de_it 0x80a02000f, de_it 0x40a02000f, de_it 0x20a02000f, de_it 0x11a0101011b0101011c0101011d01010111010101100101000000000000000000000000000000010e000208010002090100020401031412100a04050006, de_it 0x10124010100000300000001, de_it 0x2010000, de_it 0x100010107010101060101010d010101040101010b0101010201010101010101000101000000000000000000000000000100011200000100010007, de_it 0x10000012501010300000001, de_it 0x4010000, de_it 0x100010107010101060101010d010101040101010b0101010201010101010101000101000000000000000000000000000100011202000100010007, de_it 0x6010000, de_it 0x2, de_it 0x2010000, de_it 0x6010011, de_it 0x119011a0104030101130101011901010113010101130101000000000000000000000000000000000d000208010002050101000002020100000506cc020009, de_it 0x5e010015, de_it 0x2, de_it 0x2010000, de_it 0x12010011, de_it 0x11c010100010200000100010002, de_it 0x2010000, de_it 0x2, de_it 0x2010000, de_it 0x14010011, de_it 0x122010100010200000100010002, de_it 0x300000001, de_it 0x6010000, de_it 0x10129010100000300000001, de_it 0x11901040201011301010200000001, de_it 0x2010000, de_it 0x119010101170101011601010115010101140101011301010119010402010111010101100101010701010106010101130119020101040101010b0101010201010101010101000101010701010106010101130119020101040101010b01010102010101010101010001010000000001190101000100000001000100012100020701000206010202050100020401040e0c0a00040008, de_it 0x8010000, de_it 0x10000012a01010300000001, de_it 0x2010000, de_it 0x2, de_it 0x2010000, de_it 0x5e010015, de_it 0x4010000, de_it 0x101010101000101000000000000000000000000000000000a0002000101021006030006, de_it 0x504a4846443e3c3a383634322e2c2a28262422201a160e0c080402001c000d, de_it 0x1011c010100000300000001, de_it 0x11001030201010b01010200000001, de_it 0x2010000, de_it 0x1100101010f0101010e0101010d0101010c0101010b010101100103020101090101010801010105010101040101010b0110020101030101010601010102010101010101010001010105010101040101010b0110020101030101010601010102010101010101010001010000000001100101000100000001000100012100020701000206010202050100020401040e0c0a00040008, de_it 0x504a4846443e3c3a383634322e2c2a28262422201a160e0c080402001c000d, de_it 0x10000011d01010300000001, de_it 0x4010000, de_it 0x2, de_it 0x2010000, de_it 0x5e010015, de_it 0x2010000, de_it 0x106010101020101000000000000000000000000000000020a000201010104100008040006, de_it 0x1011f010100000300000001, de_it 0x11001030201010b01010200000001, de_it 0x2010000, de_it 0x1100101010f0101010e0101010d0101010c0101010b010101100103020101090101010801010105010101040101010b0110020101030101010601010102010101010101010001010105010101040101010b0110020101030101010601010102010101010101010001010000000001100101000100000001000100012100020701000206010202050100020401040e0c0a00040008, de_it 0x10000012001010300000001, de_it 0x2010000, de_it 0x2, de_it 0x2010000, de_it 0x5e010015, de_it 0x2010000, de_it 0x11001030201010b01010200000001, de_it 0x2010000, de_it 0x1100101010f0101010e0101010d0101010c0101010b010101100103020101090101010801010105010101040101010b0110020101030101010601010102010101010101010001010105010101040101010b0110020101030101010601010102010101010101010001010000000001100101000100000001000100012100020701000206010202050100020401040e0c1000040008]
set_option maxRecDepth 100000 in
theorem tP_178_0 : tf_plk tV_178 tL_178_0 tH_178_1 = true := by decide +kernel
noncomputable def tH_178_2 : List tc_It := [de_it 0x4010000, de_it 0x2, de_it 0x300000001, de_it 0x8010000, de_it 0x100010107010101060101010501010104010101030101010201010101010101000101000000000000000000000000000100011204000100010007, de_it 0xc010000, de_it 0x10000011b01010300000001, de_it 0x2010000, de_it 0x2, de_it 0x2010000, de_it 0x6010011, de_it 0x119011b0104030101130101011901010113010101130101000000000000000000000000000000000d000208010002050101000002020100000506cc020009, de_it 0x5e010015, de_it 0x4010000, de_it 0x101010101000101000000000000000000000000000000000a0002000101020e06030006, de_it 0x1011f010100000300000001, de_it 0x11901040201011301010200000001, de_it 0x2010000, de_it 0x11901010117010101160101011501010114010101130101011901040201011101010110010101070101010601010113011902010104010101030101010201010101010101000101010701010106010101130119020101040101010301010102010101010101010001010000000001190101000100000001000100012100020701000206010202050100020401040c0a02030008, de_it 0x10000012001010300000001, de_it 0x4010000, de_it 0x2, de_it 0x2010000, de_it 0x5e010015, de_it 0x2010000, de_it 0x103010101020101000000000000000000000000000000020a0002010101040e0008040006, de_it 0x10122010100000300000001, de_it 0x11901040201011301010200000001, de_it 0x2010000, de_it 0x11901010117010101160101011501010114010101130101011901040201011101010110010101070101010601010113011902010104010101210101010201010101010101000101010701010106010101130119020101040101012101010102010101010101010001010000000001190101000100000001000100012100020701000206010202050100020401040c0a02030008, de_it 0x10000012301010300000001, de_it 0x2010000, de_it 0x2, de_it 0x2010000, de_it 0x5e010015, de_it 0x2010000, de_it 0x11901040201011301010200000001, de_it 0x2010000, de_it 0x11901010117010101160101011501010114010101130101011901040201011101010110010101070101010601010113011902010104010101210101010201010101010101000101010701010106010101130119020101040101012101010102010101010101010001010000000001190101000100000001000100012100020701000206010202050100020401040c0a0e00040008]
set_option maxRecDepth 100000 in
theorem tP_178_1 : tf_plk tV_178 tL_178_1 tH_178_2 = true := by decide +kernel
noncomputable def tH_178_3 : List tc_It := [de_it 0x2010000, de_it 0x300000001, de_it 0x8010000, de_it 0x1050101011701010116010101150101011401010001000101110101011001010107010101060101010501010104010101030101010201010101010101000101010701010106010101050101010401010103010101020101010101010100010100000000000000000001000100010001210002070100020601000000020401040c0a02030008, de_it 0x2010000, de_it 0x2, de_it 0x2010000, de_it 0x8010011, de_it 0x11a0112020101190101011801010119010101190101000000000000000000000000000000000d000208010002050101000002030100000508c0020009, de_it 0x60010015, de_it 0x2, de_it 0x2010000, de_it 0x10010011, de_it 0x11c010100010200000100010002, de_it 0x2010000, de_it 0x300000001, de_it 0x1120101011901010200000001, de_it 0x2010000, de_it 0x11801010117010101160101011501010114010101190101011201010111010101100101011901180201010601010105010101040101010301010102010101010101010001010119011802010106010101050101010401010103010101020101010101010100010100000000011401190201000100000001000100012100020701000206010102050100020401040c0a04030008, de_it 0x2010000, de_it 0x2, de_it 0x2010000, de_it 0x60010015, de_it 0x4010000, de_it 0x101010101000101000000000000000000000000000000000a0002000101020e06030006, de_it 0x10126010100000300000001, de_it 0x1120101011901010200000001, de_it 0x2010000, de_it 0x11801010117010101160101011501010114010101190101011201010111010101100101011901180201010601010105010101040101010301010102010101010101010001010119011802010106010101050101010401010103010101020101010101010100010100000000011401190201000100000001000100012100020701000206010102050100020401040c0a04030008, de_it 0x10000012701010300000001, de_it 0x4010000, de_it 0x2, de_it 0x2010000, de_it 0x60010015, de_it 0x2010000, de_it 0x103010101020101000000000000000000000000000000020a0002010101040e0008040006, de_it 0x5046443e3c3a38363432302e2c2a282422200e0c0a0804020019000d, de_it 0x10119010100000300000001, de_it 0x1090101010f01010200000001, de_it 0x2010000, de_it 0x10e0101010d0101010c0101010b0101010a0101010f0101010901010108010101070101010f010e020101050101010401010103010101180101010201010101010101000101010f010e02010105010101040101010301010118010101020101010101010100010100000000010a010f0201000100000001000100012100020701000206010102050100020401040c0a04030008, de_it 0x5046443e3c3a38363432302e2c2a282422200e0c0a0804020019000d, de_it 0x10000011a01010300000001, de_it 0x2010000, de_it 0x2, de_it 0x2010000, de_it 0x60010015, de_it 0x2, de_it 0x2010000, de_it 0x11201010001020000010a010002, de_it 0x11a0101011b0101010f010e020101050101010401010103010101180101010201010101010101000101000000000000000000000000000100011200020b010100010007]
set_option maxRecDepth 100000 in
theorem tP_178_2 : tf_plk tV_178 tL_178_2 tH_178_3 = true := by decide +kernel
set_option maxRecDepth 100000 in
theorem tT_178 {RO : am_O} {sa : Nat → Nat} (h_168 : tc_true (aP sa) tp_G RO tp_T tp_Z tK_168) (h_171 : tc_true (aP sa) tp_G RO tp_T tp_Z tK_171) (h_173 : tc_true (aP sa) tp_G RO tp_T tp_Z tK_173) (h_175 : tc_true (aP sa) tp_G RO tp_T tp_Z tK_175) (h_177 : tc_true (aP sa) tp_G RO tp_T tp_Z tK_177) : tc_true (aP sa) tp_G RO tp_T tp_Z tK_178 := by
  have hC : ∀ c ∈ tC_178, tc_true (aP sa) tp_G RO tp_T tp_Z c := by
    intro c hc
    have hc : c ∈ ([tK_173, tK_168, tK_177, tK_175, tK_171] : List tc_Ct) := hc
    rcases List.mem_cons.mp hc with rfl | hc
    · exact h_173
    rcases List.mem_cons.mp hc with rfl | hc
    · exact h_168
    rcases List.mem_cons.mp hc with rfl | hc
    · exact h_177
    rcases List.mem_cons.mp hc with rfl | hc
    · exact h_175
    rcases List.mem_cons.mp hc with rfl | hc
    · exact h_171
    cases hc
  have hP : ∀ p ∈ tJ_178, ∃ hs, tc_plk (aP sa, tV_178.2) p hs = true := by
    intro p hp
    have hp : p ∈ ([tL_178_0, tL_178_1, tL_178_2] : List tc_Pl) := hp
    rcases List.mem_cons.mp hp with rfl | hp
    · exact ⟨_, (tc_plk_sa (aP_sa sa _)).trans ((tf_plk_s tHC_178).trans tP_178_0)⟩
    rcases List.mem_cons.mp hp with rfl | hp
    · exact ⟨_, (tc_plk_sa (aP_sa sa _)).trans ((tf_plk_s tHC_178).trans tP_178_1)⟩
    rcases List.mem_cons.mp hp with rfl | hp
    · exact ⟨_, (tc_plk_sa (aP_sa sa _)).trans ((tf_plk_s tHC_178).trans tP_178_2)⟩
    cases hp
  exact tc_main (mt := aM_108.1) (hs := tH_178_0) (PL := tJ_178) ⟨tp_G_ok, tMs_178 _, hC, tp_L_ok, tp_G_re⟩ (show am_meth (aP sa) 108 = some aM_108.1 from rfl) aX_108 (by decide +kernel) hP ((tc_go_sa (aP_sa sa _)).trans ((tf_go_s tHC_178).trans tR_178))
noncomputable def tK_179 : tc_Ct := (114, (6, 5), [(2, ([], 0), 0), (0, ([(0, 1)], 0), 0), (0, ([(1, 1)], 0), 0), (0, ([(2, 1)], 0), 0)], ([([(0, -1)], 2147483647), ([(0, 1)], 2147483648), ([(1, -1)], 2147483647), ([(1, 1)], 2147483648), ([(2, -1)], 2147483647), ([(2, 1)], 2147483648), ([(3, -1)], 30), ([(3, 1)], 0), ([(4, -1)], 12), ([(4, 1)], 0), ([(5, -1)], 12), ([(5, 1)], 0)], [(0, 165), (1, 166), (2, 212), (3, 213), (4, 214)], [], [(0, 0, (2, ([], 0), 1)), (1, 8, (2, ([], 0), 2)), (1, 9, (0, ([(3, 1)], 0), 0)), (1, 10, (2, ([], 0), 3)), (1, 11, (0, ([(4, 1)], 0), 0)), (1, 12, (2, ([], 0), 4)), (1, 13, (0, ([(5, 1)], 0), 0))], [], [], [(632, [], [([(3, 1)], 0)]), (648, [], [([(3, 1)], 0)]), (664, [], []), (680, [], []), (704, [], []), (720, [], []), (744, [], []), (760, [], [([(3, 1)], 0)]), (824, [], []), (840, [], []), (856, [], []), (944, [], []), (568, [1], []), (480, [2], [([], 0), ([(3, 1)], 0), ([], -1)]), (488, [3], [([], 0), ([(4, 1)], 0), ([], -1)]), (496, [4], [([], 0), ([(5, 1)], 0), ([], -1)])]), [(166, 17), (167, 0), (167, 1), (167, 2), (167, 3), (167, 4), (167, 5), (242, 0)], [((7, 5), ([([(0, -1)], 2147483647), ([(0, 1)], 2147483648), ([(1, -1)], 2147483647), ([(1, 1)], 2147483648), ([(2, -1)], 2147483647), ([(2, 1)], 2147483648), ([(3, -1)], 30), ([(3, 1)], 0), ([(4, -1)], 12), ([(4, 1)], 0), ([(5, -1)], 12), ([(5, 1)], 0), ([(6, -1)], 2147483647), ([(6, 1)], 2147483648)], [], [], [], [], [], []), some (0, ([(6, 1)], 0), 0), ([], 0), ([], 0))])
noncomputable def tJ_179 : List tc_Pl := []
noncomputable def tC_179 : List tc_Ct := [tK_158, tK_178]
def tM_179 (z : Nat) : Option am_Meth := if z = 108 then some aM_108.1 else if z = 90 then some aM_90.1 else none
set_option maxRecDepth 100000 in
theorem tMs_179 (sa : Nat → Nat) : ∀ z mz, tM_179 z = some mz → am_meth (aP sa) z = some mz := by
  intro z mz h
  unfold tM_179 at h
  rcases de_m h with ⟨rfl, rfl⟩ | h
  · exact (show am_meth (aP sa) 108 = some aM_108.1 from rfl)
  rcases de_m h with ⟨rfl, rfl⟩ | h
  · exact (show am_meth (aP sa) 90 = some aM_90.1 from rfl)
  cases h
noncomputable def tV_179 : tc_Ev := (aQ, tp_T, tp_G.2, tp_Z, tM_179, tC_179, tp_L, tK_179.2.2.2.2.1, aM_114.1, aW_114, tK_179.2.1, tK_179.2.2.2.2.2, tJ_179)
theorem tE_179 : tK_179.2.2.2.2.2.all (tc_wex tK_179.2.1.1 tK_179.2.1.2) = true := by decide +kernel
theorem tSS_179 : tC_179.all (fun c => tw_mg tK_179.2.2.2.2.1 c.2.2.2.2.1) = true := by decide +kernel
theorem tHC_179 : ∀ c ∈ tC_179, c.2.2.2.2.1.all tK_179.2.2.2.2.1.contains = true ∧ c.2.2.2.2.2.all (tc_wex c.2.1.1 c.2.1.2) = true := tf_hc tSS_179 (by
  intro c hc
  have hc : c ∈ ([tK_158, tK_178] : List tc_Ct) := hc
  rcases List.mem_cons.mp hc with rfl | hc
  · exact tE_158
  rcases List.mem_cons.mp hc with rfl | hc
  · exact tE_178
  cases hc)
noncomputable def tH_179_0 : List tc_It := [de_it 0x4010000, de_it 0x1070101010601010101010101000101000000000000000000000000000000010c00020301000200010204020000040006, de_it 0x10110010100000300000001, de_it 0x2010000, de_it 0x10001010b0101010a010101090101010801010107010101060101010501010104010101030101010201010101010101000101000000000000000000000000000100011601000100010007, de_it 0x10000011201010300000001, de_it 0x4010000, de_it 0x10f0101010601010103010101020101000000000000000000000000000000010c00020301000201010204020000040006, de_it 0x10000011601010300000001, de_it 0x2010000, de_it 0x10001010b0101010a01010109010101080101010f01010106010101050101010401010103010101020101010d0101010c0101000000000000000000000000000100011601000100010007, de_it 0x10118010100000300000001, de_it 0x2010000, de_it 0x2, de_it 0x2010000, de_it 0x10001000100010400000003, de_it 0x2010000, de_it 0x2, de_it 0x2010000, de_it 0x2, de_it 0x2, de_it 0x2010000, de_it 0x4010011, de_it 0x118010c0201010d010101100101010d0101010d0101000000000000000000000000000000000d00020601000200010100000203010000050468020009, de_it 0x5c010015, de_it 0x2010000, de_it 0x2, de_it 0x2, de_it 0x2010000, de_it 0x1180112020101130101011601010113010101130101000000000000000000000000000000000d00020601000201010100000203010000050468020009, de_it 0x5c010015, de_it 0x2010000, de_it 0x10b0101010a01010109010101080101010f01010106010101050101010401010000000000000000000000000000000310000205010002040100020301000202010408060c0a0202060006, de_it 0x123010101220101010b0101010a01010109010101080101010f01010106010101050101010401010113010101120101010d0101010c01010000000000000000000000000001000116000207010100010007]
set_option maxRecDepth 100000 in
theorem tR_179 : tf_go tV_179 tK_179.2.1.1 tK_179.2.1.2 none tH_179_0 [(tK_179.2.1, tK_179.2.2.2.1, 0, tc_args 0 tK_179.2.2.1, [], ([], 0), ([], 0))] = true := by decide +kernel
set_option maxRecDepth 100000 in
theorem tT_179 {RO : am_O} {sa : Nat → Nat} (h_158 : tc_true (aP sa) tp_G RO tp_T tp_Z tK_158) (h_178 : tc_true (aP sa) tp_G RO tp_T tp_Z tK_178) : tc_true (aP sa) tp_G RO tp_T tp_Z tK_179 := by
  have hC : ∀ c ∈ tC_179, tc_true (aP sa) tp_G RO tp_T tp_Z c := by
    intro c hc
    have hc : c ∈ ([tK_158, tK_178] : List tc_Ct) := hc
    rcases List.mem_cons.mp hc with rfl | hc
    · exact h_158
    rcases List.mem_cons.mp hc with rfl | hc
    · exact h_178
    cases hc
  have hP : ∀ p ∈ tJ_179, ∃ hs, tc_plk (aP sa, tV_179.2) p hs = true := by
    intro p hp
    have hp : p ∈ ([] : List tc_Pl) := hp
    cases hp
  exact tc_main (mt := aM_114.1) (hs := tH_179_0) (PL := tJ_179) ⟨tp_G_ok, tMs_179 _, hC, tp_L_ok, tp_G_re⟩ (show am_meth (aP sa) 114 = some aM_114.1 from rfl) aX_114 (by decide +kernel) hP ((tc_go_sa (aP_sa sa _)).trans ((tf_go_s tHC_179).trans tR_179))
noncomputable def tK_180 : tc_Ct := (94, (3, 4), [(2, ([], 0), 0), (0, ([(0, 1)], 0), 0)], ([([(0, -1)], 2147483647), ([(0, 1)], 2147483648), ([(1, -1)], 6), ([(1, 1)], 0), ([(2, -1)], 30), ([(2, 1)], 0)], [(0, 165), (1, 166), (2, 200), (3, 212)], [], [(0, 0, (2, ([], 0), 1)), (0, 3, (2, ([], 0), 2)), (0, 4, (0, ([(1, 1)], 0), 0)), (1, 8, (2, ([], 0), 3)), (1, 9, (0, ([(2, 1)], 0), 0))], [], [], [(632, [], [([(2, 1)], 0)]), (648, [], [([(2, 1)], 0)]), (760, [], [([(2, 1)], 0)]), (568, [1], []), (480, [3], [([], 0), ([(2, 1)], 0), ([], -1)]), (896, [2], [([], 0), ([(1, 1)], 0), ([], -1), ([(2, 1)], 0)])]), [(165, 4), (200, 0)], [((5, 4), ([([(0, -1)], 2147483647), ([(0, 1)], 2147483648), ([(1, -1)], 6), ([(1, 1)], 0), ([(2, -1)], 30), ([(2, 1)], 0), ([(3, -1)], 6), ([(3, 1)], 3), ([(4, -1)], 6), ([(4, 1)], 0), ([(1, -1), (3, -1)], 11), ([(1, -1), (4, 1)], 0), ([(1, 1), (3, -1)], 1), ([(1, 1), (3, 1)], 1), ([(1, 1), (4, -1)], 1), ([(2, 1), (3, -1)], 5), ([(2, 1), (3, 1)], 2), ([(3, -1), (4, 1)], 0), ([(1, -1), (2, 1), (3, -1)], 10)], [], [], [(0, 4, (0, ([(4, 1)], 0), 0))], [], [], [(632, [], [([(2, 1)], 0)]), (648, [], [([(2, 1)], 0)]), (760, [], [([(2, 1)], 0)]), (480, [3], [([], 0), ([(2, 1)], 0), ([], -1)]), (896, [2], [([], 0), ([(4, 1)], 0), ([], -1), ([(2, 1)], 0)])]), some (0, ([(3, 1)], 0), 0), ([], 0), ([], 0))])
noncomputable def tJ_180 : List tc_Pl := []
noncomputable def tC_180 : List tc_Ct := [tK_158]
def tM_180 (z : Nat) : Option am_Meth := if z = 90 then some aM_90.1 else none
set_option maxRecDepth 100000 in
theorem tMs_180 (sa : Nat → Nat) : ∀ z mz, tM_180 z = some mz → am_meth (aP sa) z = some mz := by
  intro z mz h
  unfold tM_180 at h
  rcases de_m h with ⟨rfl, rfl⟩ | h
  · exact (show am_meth (aP sa) 90 = some aM_90.1 from rfl)
  cases h
noncomputable def tV_180 : tc_Ev := (aQ, tp_T, tp_G.2, tp_Z, tM_180, tC_180, tp_L, tK_180.2.2.2.2.1, aM_94.1, aW_94, tK_180.2.1, tK_180.2.2.2.2.2, tJ_180)
theorem tE_180 : tK_180.2.2.2.2.2.all (tc_wex tK_180.2.1.1 tK_180.2.1.2) = true := by decide +kernel
theorem tSS_180 : tC_180.all (fun c => tw_mg tK_180.2.2.2.2.1 c.2.2.2.2.1) = true := by decide +kernel
theorem tHC_180 : ∀ c ∈ tC_180, c.2.2.2.2.1.all tK_180.2.2.2.2.1.contains = true ∧ c.2.2.2.2.2.all (tc_wex c.2.1.1 c.2.1.2) = true := tf_hc tSS_180 (by
  intro c hc
  have hc : c ∈ ([tK_158] : List tc_Ct) := hc
  rcases List.mem_cons.mp hc with rfl | hc
  · exact tE_158
  cases hc)
noncomputable def tH_180_0 : List tc_It := [de_it 0x4010000, de_it 0x1050101010401010101010101000101000000000000000000000000000000010c00020201000200010206020000040006, de_it 0x10000010a01010300000001, de_it 0x2010000, de_it 0x1050102020101030101010501010105010100010103010101030101000101020101010301010102010100010001010501010104010101030101010201010101010101000101000000000000000000000000000100011b0002010101000200010007, de_it 0x1010c010100000300000001, de_it 0x2010000, de_it 0x2, de_it 0x2010000, de_it 0x300000001, de_it 0x2010000, de_it 0x2, de_it 0x2010000, de_it 0x2, de_it 0x2010000, de_it 0x4010011, de_it 0x8000202010002010100000002010100000504d0020009, de_it 0x1000101030101000000000000000000000000000000000b000202010002000100020101000201010000000201010000070404d2030009, de_it 0x106010101070101010d010c02010103010104000201010100010003, de_it 0x100010001000000000000000000000000000000000b000202010002010100000000000201010002010100000704d4020009, de_it 0x4010000, de_it 0x2, de_it 0x2010000, de_it 0x10c0101010301010200000001, de_it 0x10c010101030101000000000400000003, de_it 0x2010000, de_it 0x2, de_it 0x8000202010002010100000002010100000504d0020009, de_it 0x1000100010001000000000000000000000000000000000c000202010202010100000002010100000002010100000704d6020009, de_it 0x10a010101030101000000000000000000000000000000000a00020201000200010002010100000202010100000604d8020009, de_it 0x109020c020100010109010302010109010c020100010203010100010001020c010101030101010c010101030101010c0101010901010104010101030101010c01010107010101060101000000000000000000000000000100011b02020101020201010200010007, de_it 0x2010000, de_it 0x10901020201010c010101090101010901010001010c0101010c0101000101020101010c010101020101000100010109010101040101010c0101010201010107010101060101000000000000000000000000000100011b0002010105000200010007]
set_option maxRecDepth 100000 in
theorem tR_180 : tf_go tV_180 tK_180.2.1.1 tK_180.2.1.2 none tH_180_0 [(tK_180.2.1, tK_180.2.2.2.1, 0, tc_args 0 tK_180.2.2.1, [], ([], 0), ([], 0))] = true := by decide +kernel
set_option maxRecDepth 100000 in
theorem tT_180 {RO : am_O} {sa : Nat → Nat} (h_158 : tc_true (aP sa) tp_G RO tp_T tp_Z tK_158) : tc_true (aP sa) tp_G RO tp_T tp_Z tK_180 := by
  have hC : ∀ c ∈ tC_180, tc_true (aP sa) tp_G RO tp_T tp_Z c := by
    intro c hc
    have hc : c ∈ ([tK_158] : List tc_Ct) := hc
    rcases List.mem_cons.mp hc with rfl | hc
    · exact h_158
    cases hc
  have hP : ∀ p ∈ tJ_180, ∃ hs, tc_plk (aP sa, tV_180.2) p hs = true := by
    intro p hp
    have hp : p ∈ ([] : List tc_Pl) := hp
    cases hp
  exact tc_main (mt := aM_94.1) (hs := tH_180_0) (PL := tJ_180) ⟨tp_G_ok, tMs_180 _, hC, tp_L_ok, tp_G_re⟩ (show am_meth (aP sa) 94 = some aM_94.1 from rfl) aX_94 (by decide +kernel) hP ((tc_go_sa (aP_sa sa _)).trans ((tf_go_s tHC_180).trans tR_180))
noncomputable def tK_181 : tc_Ct := (113, (3, 3), [(2, ([], 0), 0), (0, ([(0, 1)], 0), 0)], ([([(0, -1)], 2147483647), ([(0, 1)], 2147483648), ([(1, -1)], 6), ([(1, 1)], 0), ([(2, -1)], 30), ([(2, 1)], 0)], [(0, 165), (1, 200), (2, 166)], [], [(0, 0, (2, ([], 0), 2)), (0, 3, (2, ([], 0), 1)), (0, 4, (0, ([(1, 1)], 0), 0)), (2, 9, (0, ([(2, 1)], 0), 0))], [], [], [(896, [1], [([], 0), ([(1, 1)], 0), ([], -1), ([(2, 1)], 0)])]), [], [((4, 3), ([([(0, -1)], 2147483647), ([(0, 1)], 2147483648), ([(1, -1)], 6), ([(1, 1)], 0), ([(2, -1)], 30), ([(2, 1)], 0), ([(3, -1)], 29), ([(3, 1)], 1), ([(1, 1), (3, -1)], 28), ([(2, 1), (3, -1)], 6)], [], [], [], [], [], []), some (0, ([(3, 1)], 0), 0), ([], 0), ([], 0))])
noncomputable def tJ_181 : List tc_Pl := []
noncomputable def tC_181 : List tc_Ct := []
def tM_181 (z : Nat) : Option am_Meth := none
set_option maxRecDepth 100000 in
theorem tMs_181 (sa : Nat → Nat) : ∀ z mz, tM_181 z = some mz → am_meth (aP sa) z = some mz := fun z mz h => by cases h
noncomputable def tV_181 : tc_Ev := (aQ, tp_T, tp_G.2, tp_Z, tM_181, tC_181, tp_L, tK_181.2.2.2.2.1, aM_113.1, aW_113, tK_181.2.1, tK_181.2.2.2.2.2, tJ_181)
theorem tE_181 : tK_181.2.2.2.2.2.all (tc_wex tK_181.2.1.1 tK_181.2.1.2) = true := by decide +kernel
theorem tSS_181 : tC_181.all (fun c => tw_mg tK_181.2.2.2.2.1 c.2.2.2.2.1) = true := by decide +kernel
theorem tHC_181 : ∀ c ∈ tC_181, c.2.2.2.2.1.all tK_181.2.2.2.2.1.contains = true ∧ c.2.2.2.2.2.all (tc_wex c.2.1.1 c.2.1.2) = true := tf_hc tSS_181 (by
  intro c hc
  have hc : c ∈ ([] : List tc_Ct) := hc
  cases hc)
noncomputable def tH_181_0 : List tc_It := [de_it 0x4010000, de_it 0x300000001, de_it 0x2010000, de_it 0x10501010103010100010001010501010104010101030101010201010101010101060101000000000000000000000000000100011201000100010007, de_it 0x4010000, de_it 0x2, de_it 0x300000001, de_it 0x4010000, de_it 0x1060101000000000300000001, de_it 0x2010000, de_it 0x2, de_it 0x2010000, de_it 0x2010011, de_it 0x10701090102030101080101020002000100020001020200020012, de_it 0x1080101010701010108010101080101000000000000000000000000000000000c00020201000204010002000101000002010100000602da020009, de_it 0x107010901020301010801010200000002, de_it 0x10f01010108010e01070301010d0101010e0101010d010f02010104010101080107020101020101010801010107010202010000000000000000000000000001000112000204010100010007, de_it 0x2010000, de_it 0x2, de_it 0x2010000, de_it 0x10501020201000101030101010201010105010101040101010301010102010101060101010901010000000000000000000000000001000112000201010100010007, de_it 0x2010000, de_it 0x105010101030101000100010105010101040101010301010102010101030107020101000101000000000000000000000000000100011201000100010007]
set_option maxRecDepth 100000 in
theorem tR_181 : tf_go tV_181 tK_181.2.1.1 tK_181.2.1.2 none tH_181_0 [(tK_181.2.1, tK_181.2.2.2.1, 0, tc_args 0 tK_181.2.2.1, [], ([], 0), ([], 0))] = true := by decide +kernel
set_option maxRecDepth 100000 in
theorem tT_181 {RO : am_O} {sa : Nat → Nat} : tc_true (aP sa) tp_G RO tp_T tp_Z tK_181 := by
  have hC : ∀ c ∈ tC_181, tc_true (aP sa) tp_G RO tp_T tp_Z c := by
    intro c hc
    have hc : c ∈ ([] : List tc_Ct) := hc
    cases hc
  have hP : ∀ p ∈ tJ_181, ∃ hs, tc_plk (aP sa, tV_181.2) p hs = true := by
    intro p hp
    have hp : p ∈ ([] : List tc_Pl) := hp
    cases hp
  exact tc_main (mt := aM_113.1) (hs := tH_181_0) (PL := tJ_181) ⟨tp_G_ok, tMs_181 _, hC, tp_L_ok, tp_G_re⟩ (show am_meth (aP sa) 113 = some aM_113.1 from rfl) aX_113 (by decide +kernel) hP ((tc_go_sa (aP_sa sa _)).trans ((tf_go_s tHC_181).trans tR_181))
noncomputable def tK_182 : tc_Ct := (104, (1, 3), [(2, ([], 0), 0), (2, ([], 0), 1), (2, ([], 0), 2)], ([([(0, -1)], 30), ([(0, 1)], 0)], [(0, 166), (1, 174), (2, 174)], [], [(0, 9, (0, ([(0, 1)], 0), 0))], [], [], [(664, [], []), (680, [], []), (704, [], []), (720, [], []), (744, [], []), (760, [], [([(0, 1)], 0)]), (824, [], []), (840, [], []), (856, [], []), (944, [], [])]), [(167, 0), (167, 1), (167, 2), (167, 3), (167, 4), (167, 5)], [((1, 3), ([([(0, -1)], 30), ([(0, 1)], 0)], [], [], [], [], [], []), some (0, ([], 0), 0), ([], 0), ([], 0)), ((1, 3), ([([(0, -1)], 30), ([(0, 1)], 0)], [], [], [], [], [], []), some (0, ([], 1), 0), ([], 0), ([], 0))])
noncomputable def tJ_182 : List tc_Pl := []
noncomputable def tC_182 : List tc_Ct := [tK_166, tK_167, tK_165]
def tM_182 (z : Nat) : Option am_Meth := if z = 93 then some aM_93.1 else if z = 92 then some aM_92.1 else if z = 54 then some aM_54.1 else none
set_option maxRecDepth 100000 in
theorem tMs_182 (sa : Nat → Nat) : ∀ z mz, tM_182 z = some mz → am_meth (aP sa) z = some mz := by
  intro z mz h
  unfold tM_182 at h
  rcases de_m h with ⟨rfl, rfl⟩ | h
  · exact (show am_meth (aP sa) 93 = some aM_93.1 from rfl)
  rcases de_m h with ⟨rfl, rfl⟩ | h
  · exact (show am_meth (aP sa) 92 = some aM_92.1 from rfl)
  rcases de_m h with ⟨rfl, rfl⟩ | h
  · exact (show am_meth (aP sa) 54 = some aM_54.1 from rfl)
  cases h
noncomputable def tV_182 : tc_Ev := (aQ, tp_T, tp_G.2, tp_Z, tM_182, tC_182, tp_L, tK_182.2.2.2.2.1, aM_104.1, aW_104, tK_182.2.1, tK_182.2.2.2.2.2, tJ_182)
theorem tE_182 : tK_182.2.2.2.2.2.all (tc_wex tK_182.2.1.1 tK_182.2.1.2) = true := by decide +kernel
theorem tSS_182 : tC_182.all (fun c => tw_mg tK_182.2.2.2.2.1 c.2.2.2.2.1) = true := by decide +kernel
theorem tHC_182 : ∀ c ∈ tC_182, c.2.2.2.2.1.all tK_182.2.2.2.2.1.contains = true ∧ c.2.2.2.2.2.all (tc_wex c.2.1.1 c.2.1.2) = true := tf_hc tSS_182 (by
  intro c hc
  have hc : c ∈ ([tK_166, tK_167, tK_165] : List tc_Ct) := hc
  rcases List.mem_cons.mp hc with rfl | hc
  · exact tE_166
  rcases List.mem_cons.mp hc with rfl | hc
  · exact tE_167
  rcases List.mem_cons.mp hc with rfl | hc
  · exact tE_165
  cases hc)
noncomputable def tH_182_0 : List tc_It := [de_it 0x2010000, de_it 0x2, de_it 0x4010000, de_it 0x2, de_it 0x8010000, de_it 0x10104010100000300000001, de_it 0x2010000, de_it 0x2, de_it 0x2010000, de_it 0x2, de_it 0x2010000, de_it 0x8010011, de_it 0x106010100010200000106010002, de_it 0x2010000, de_it 0x2, de_it 0x2010000, de_it 0xa010011, de_it 0x10c010100010200000108010002, de_it 0x2010000, de_it 0x2, de_it 0x2010000, de_it 0x2, de_it 0xc010011, de_it 0x2010010, de_it 0x4010000, de_it 0x80202000f, de_it 0x40202000f, de_it 0xe010011, de_it 0x117010100010208000800020e00020012, de_it 0x11b0101011c0101011401010113010101150101011601010001000100000000000000000000000000000001100002090100020601000207010400040e0c080200050006, de_it 0x4010000, de_it 0x11701010001020a000a00020e00020012, de_it 0x1270101012801010114010101130101011501010116010100010001000000000000000000000000000000011000020a0100020601000207010400040e0c080202050006, de_it 0x504e3836302e2c2a28261e1c1a1812100e0c0604020016000d, de_it 0x115010d02010113010d0201010d0101010c010101140101011501010112010101130101010a0101010b0101010601010107010100000000000000000000000000000006140002060100020a01000209010002050100020301050c0604030006, de_it 0x4010000, de_it 0x10122010100000300000001, de_it 0x2010000, de_it 0x101010101000101000000000000000000010001000100010a0000010007, de_it 0x52504e4c4a484644424032302a28262422201e1c1a1812100e0c0a080604020020000d, de_it 0x4010000, de_it 0x10120010100000300000001, de_it 0x2010000, de_it 0x101010101000101000000000000000000010001000100010a0002010007, de_it 0x4010000, de_it 0x1040103020100000300000001, de_it 0x6010000, de_it 0x10105010100000300000001, de_it 0x2010000, de_it 0x2, de_it 0x2010000, de_it 0x2, de_it 0x2010000, de_it 0xa010011, de_it 0x107010100010200000106010002, de_it 0x2010000, de_it 0x2, de_it 0x2010000, de_it 0xc010011, de_it 0x10d010100010200000108010002, de_it 0x2010000, de_it 0x2, de_it 0x2010000, de_it 0x2, de_it 0xe010011, de_it 0x2010010, de_it 0x4010000, de_it 0x80202000f, de_it 0x40202000f, de_it 0x10010011, de_it 0x118010100010208000800021000020012, de_it 0x11c0101011d010101150101011401010116010101170101000100010000000000000000000000000000000110000209010002060100020701040004100e0a0200050006, de_it 0x4010000, de_it 0x11801010001020a000a00021000020012, de_it 0x1280101012901010115010101140101011601010117010100010001000000000000000000000000000000011000020a010002060100020701040004100e0a0202050006, de_it 0x52503a3832302e2c2a28201e1c1a1412100e0604020016000d, de_it 0x115010d02010113010d0201010d0101010c010101140101011501010112010101130101010a0101010b0101010601010107010100000000000000000000000000000006140002060100020a01000209010002050100020301050e0804030006, de_it 0x4010000, de_it 0x10122010100000300000001, de_it 0x2010000, de_it 0x101010101000101000000000000000000010001000100010a0000010007, de_it 0x52504e4c4a484644424032302a28262422201e1c1a1812100e0c0a080604020020000d, de_it 0x4010000, de_it 0x10120010100000300000001, de_it 0x2010000, de_it 0x101010101000101000000000000000000010001000100010a0002010007]
set_option maxRecDepth 100000 in
theorem tR_182 : tf_go tV_182 tK_182.2.1.1 tK_182.2.1.2 none tH_182_0 [(tK_182.2.1, tK_182.2.2.2.1, 0, tc_args 0 tK_182.2.2.1, [], ([], 0), ([], 0))] = true := by decide +kernel
set_option maxRecDepth 100000 in
theorem tT_182 {RO : am_O} {sa : Nat → Nat} (h_165 : tc_true (aP sa) tp_G RO tp_T tp_Z tK_165) (h_166 : tc_true (aP sa) tp_G RO tp_T tp_Z tK_166) (h_167 : tc_true (aP sa) tp_G RO tp_T tp_Z tK_167) : tc_true (aP sa) tp_G RO tp_T tp_Z tK_182 := by
  have hC : ∀ c ∈ tC_182, tc_true (aP sa) tp_G RO tp_T tp_Z c := by
    intro c hc
    have hc : c ∈ ([tK_166, tK_167, tK_165] : List tc_Ct) := hc
    rcases List.mem_cons.mp hc with rfl | hc
    · exact h_166
    rcases List.mem_cons.mp hc with rfl | hc
    · exact h_167
    rcases List.mem_cons.mp hc with rfl | hc
    · exact h_165
    cases hc
  have hP : ∀ p ∈ tJ_182, ∃ hs, tc_plk (aP sa, tV_182.2) p hs = true := by
    intro p hp
    have hp : p ∈ ([] : List tc_Pl) := hp
    cases hp
  exact tc_main (mt := aM_104.1) (hs := tH_182_0) (PL := tJ_182) ⟨tp_G_ok, tMs_182 _, hC, tp_L_ok, tp_G_re⟩ (show am_meth (aP sa) 104 = some aM_104.1 from rfl) aX_104 (by decide +kernel) hP ((tc_go_sa (aP_sa sa _)).trans ((tf_go_s tHC_182).trans tR_182))
noncomputable def tK_183 : tc_Ct := (103, (2, 3), [(2, ([], 0), 0), (2, ([], 0), 1), (2, ([], 0), 2), (0, ([(0, 1)], 0), 0)], ([([(0, -1)], 2147483647), ([(0, 1)], 2147483648), ([(1, -1)], 30), ([(1, 1)], 0)], [(0, 166), (1, 174), (2, 174)], [], [(0, 9, (0, ([(1, 1)], 0), 0))], [], [], [(664, [], []), (680, [], []), (704, [], []), (720, [], []), (744, [], []), (760, [], [([(1, 1)], 0)]), (824, [], []), (840, [], []), (856, [], []), (944, [], [])]), [(167, 0), (167, 1), (167, 2), (167, 3), (167, 4), (167, 5)], [((3, 3), ([([(0, -1)], 2147483647), ([(0, 1)], 2147483648), ([(1, -1)], 30), ([(1, 1)], 0), ([(2, -1)], 3), ([(2, 1)], 0)], [], [], [], [], [], []), some (0, ([(2, 1)], 0), 0), ([], 0), ([], 0))])
noncomputable def tJ_183 : List tc_Pl := []
noncomputable def tC_183 : List tc_Ct := [tK_182]
def tM_183 (z : Nat) : Option am_Meth := if z = 104 then some aM_104.1 else none
set_option maxRecDepth 100000 in
theorem tMs_183 (sa : Nat → Nat) : ∀ z mz, tM_183 z = some mz → am_meth (aP sa) z = some mz := by
  intro z mz h
  unfold tM_183 at h
  rcases de_m h with ⟨rfl, rfl⟩ | h
  · exact (show am_meth (aP sa) 104 = some aM_104.1 from rfl)
  cases h
noncomputable def tV_183 : tc_Ev := (aQ, tp_T, tp_G.2, tp_Z, tM_183, tC_183, tp_L, tK_183.2.2.2.2.1, aM_103.1, aW_103, tK_183.2.1, tK_183.2.2.2.2.2, tJ_183)
theorem tE_183 : tK_183.2.2.2.2.2.all (tc_wex tK_183.2.1.1 tK_183.2.1.2) = true := by decide +kernel
theorem tSS_183 : tC_183.all (fun c => tw_mg tK_183.2.2.2.2.1 c.2.2.2.2.1) = true := by decide +kernel
theorem tHC_183 : ∀ c ∈ tC_183, c.2.2.2.2.1.all tK_183.2.2.2.2.1.contains = true ∧ c.2.2.2.2.2.all (tc_wex c.2.1.1 c.2.1.2) = true := tf_hc tSS_183 (by
  intro c hc
  have hc : c ∈ ([tK_182] : List tc_Ct) := hc
  rcases List.mem_cons.mp hc with rfl | hc
  · exact tE_182
  cases hc)
noncomputable def tH_183_0 : List tc_It := [de_it 0x6010000, de_it 0x103010101020101000000000000000000000000000000020a000201010104020000040006, de_it 0x10000010601010300000001, de_it 0x4010000, de_it 0x1000101030101010201010101010101000101000000000000000000000000000100010e02000100010007, de_it 0x10107010100000300000001, de_it 0x4010000, de_it 0x2, de_it 0x2010000, de_it 0x6010011, de_it 0x107010100010200000102010002, de_it 0x300000001, de_it 0x4010000, de_it 0x2, de_it 0x2010000, de_it 0x107010100010200000104010002, de_it 0x300000001, de_it 0x2010000, de_it 0x1000101030101010201010101010101000101000000000000000000000000000100010e00000100010007, de_it 0x4010000, de_it 0x100010103010101020101010e0112020101000101000000000000000000000000000100010e06000100010007, de_it 0x4010000, de_it 0x10001010301010102010101010101010d010a0201000000000000000000000000000100010e04000100010007]
set_option maxRecDepth 100000 in
theorem tR_183 : tf_go tV_183 tK_183.2.1.1 tK_183.2.1.2 none tH_183_0 [(tK_183.2.1, tK_183.2.2.2.1, 0, tc_args 0 tK_183.2.2.1, [], ([], 0), ([], 0))] = true := by decide +kernel
set_option maxRecDepth 100000 in
theorem tT_183 {RO : am_O} {sa : Nat → Nat} (h_182 : tc_true (aP sa) tp_G RO tp_T tp_Z tK_182) : tc_true (aP sa) tp_G RO tp_T tp_Z tK_183 := by
  have hC : ∀ c ∈ tC_183, tc_true (aP sa) tp_G RO tp_T tp_Z c := by
    intro c hc
    have hc : c ∈ ([tK_182] : List tc_Ct) := hc
    rcases List.mem_cons.mp hc with rfl | hc
    · exact h_182
    cases hc
  have hP : ∀ p ∈ tJ_183, ∃ hs, tc_plk (aP sa, tV_183.2) p hs = true := by
    intro p hp
    have hp : p ∈ ([] : List tc_Pl) := hp
    cases hp
  exact tc_main (mt := aM_103.1) (hs := tH_183_0) (PL := tJ_183) ⟨tp_G_ok, tMs_183 _, hC, tp_L_ok, tp_G_re⟩ (show am_meth (aP sa) 103 = some aM_103.1 from rfl) aX_103 (by decide +kernel) hP ((tc_go_sa (aP_sa sa _)).trans ((tf_go_s tHC_183).trans tR_183))
noncomputable def tK_184 : tc_Ct := (103, (2, 3), [(2, ([], 0), 0), (2, ([], 0), 1), (2, ([], 0), 2), (0, ([(0, 1)], 0), 0)], ([([(0, -1)], 2147483647), ([(0, 1)], 2147483648), ([(1, -1)], 30), ([(1, 1)], 0)], [(0, 166), (1, 174), (2, 175)], [], [(0, 9, (0, ([(1, 1)], 0), 0))], [], [], [(664, [], []), (680, [], []), (704, [], []), (720, [], []), (744, [], []), (760, [], [([(1, 1)], 0)]), (824, [], []), (840, [], []), (856, [], []), (944, [], [])]), [(167, 0), (167, 1), (167, 2), (167, 3), (167, 4), (167, 5), (242, 0)], [((3, 3), ([([(0, -1)], 2147483647), ([(0, 1)], 2147483648), ([(1, -1)], 30), ([(1, 1)], -1), ([(2, -1)], 3), ([(2, 1)], 0)], [], [], [], [], [], []), some (0, ([(2, 1)], 0), 0), ([], 0), ([], 0))])
noncomputable def tJ_184 : List tc_Pl := []
noncomputable def tC_184 : List tc_Ct := [tK_168]
def tM_184 (z : Nat) : Option am_Meth := if z = 104 then some aM_104.1 else none
set_option maxRecDepth 100000 in
theorem tMs_184 (sa : Nat → Nat) : ∀ z mz, tM_184 z = some mz → am_meth (aP sa) z = some mz := by
  intro z mz h
  unfold tM_184 at h
  rcases de_m h with ⟨rfl, rfl⟩ | h
  · exact (show am_meth (aP sa) 104 = some aM_104.1 from rfl)
  cases h
noncomputable def tV_184 : tc_Ev := (aQ, tp_T, tp_G.2, tp_Z, tM_184, tC_184, tp_L, tK_184.2.2.2.2.1, aM_103.1, aW_103, tK_184.2.1, tK_184.2.2.2.2.2, tJ_184)
theorem tE_184 : tK_184.2.2.2.2.2.all (tc_wex tK_184.2.1.1 tK_184.2.1.2) = true := by decide +kernel
theorem tSS_184 : tC_184.all (fun c => tw_mg tK_184.2.2.2.2.1 c.2.2.2.2.1) = true := by decide +kernel
theorem tHC_184 : ∀ c ∈ tC_184, c.2.2.2.2.1.all tK_184.2.2.2.2.1.contains = true ∧ c.2.2.2.2.2.all (tc_wex c.2.1.1 c.2.1.2) = true := tf_hc tSS_184 (by
  intro c hc
  have hc : c ∈ ([tK_168] : List tc_Ct) := hc
  rcases List.mem_cons.mp hc with rfl | hc
  · exact tE_168
  cases hc)
noncomputable def tH_184_0 : List tc_It := [de_it 0x6010000, de_it 0x103010101020101000000000000000000000000000000020a000201010104020000040006, de_it 0x10000010601010300000001, de_it 0x4010000, de_it 0x1000101050101010201010101010101000101000000000000000000000000000100010e02000100010007, de_it 0x10107010100000300000001, de_it 0x4010000, de_it 0x2, de_it 0x2010000, de_it 0x6010011, de_it 0x107010100010200000102010002, de_it 0x300000001, de_it 0x4010000, de_it 0x2, de_it 0x2010000, de_it 0x107010100010200000104010002, de_it 0x300000001, de_it 0x2010000, de_it 0x1000101050101010201010101010101000101000000000000000000000000000100010e00000100010007, de_it 0x4010000, de_it 0x100010105010101020101010e0112020101000101000000000000000000000000000100010e06000100010007, de_it 0x4010000, de_it 0x10001010501010102010101010101010d010a0201000000000000000000000000000100010e04000100010007]
set_option maxRecDepth 100000 in
theorem tR_184 : tf_go tV_184 tK_184.2.1.1 tK_184.2.1.2 none tH_184_0 [(tK_184.2.1, tK_184.2.2.2.1, 0, tc_args 0 tK_184.2.2.1, [], ([], 0), ([], 0))] = true := by decide +kernel
set_option maxRecDepth 100000 in
theorem tT_184 {RO : am_O} {sa : Nat → Nat} (h_168 : tc_true (aP sa) tp_G RO tp_T tp_Z tK_168) : tc_true (aP sa) tp_G RO tp_T tp_Z tK_184 := by
  have hC : ∀ c ∈ tC_184, tc_true (aP sa) tp_G RO tp_T tp_Z c := by
    intro c hc
    have hc : c ∈ ([tK_168] : List tc_Ct) := hc
    rcases List.mem_cons.mp hc with rfl | hc
    · exact h_168
    cases hc
  have hP : ∀ p ∈ tJ_184, ∃ hs, tc_plk (aP sa, tV_184.2) p hs = true := by
    intro p hp
    have hp : p ∈ ([] : List tc_Pl) := hp
    cases hp
  exact tc_main (mt := aM_103.1) (hs := tH_184_0) (PL := tJ_184) ⟨tp_G_ok, tMs_184 _, hC, tp_L_ok, tp_G_re⟩ (show am_meth (aP sa) 103 = some aM_103.1 from rfl) aX_103 (by decide +kernel) hP ((tc_go_sa (aP_sa sa _)).trans ((tf_go_s tHC_184).trans tR_184))
noncomputable def tK_185 : tc_Ct := (104, (1, 3), [(2, ([], 0), 0), (2, ([], 0), 1), (2, ([], 0), 2)], ([([(0, -1)], 30), ([(0, 1)], 0)], [(0, 166), (1, 175), (2, 174)], [], [(0, 9, (0, ([(0, 1)], 0), 0))], [], [], [(664, [], []), (680, [], []), (704, [], []), (720, [], []), (744, [], []), (760, [], [([(0, 1)], 0)]), (824, [], []), (840, [], []), (856, [], []), (944, [], [])]), [(167, 0), (167, 1), (167, 2), (167, 3), (167, 4), (167, 5)], [((1, 3), ([([(0, -1)], 30), ([(0, 1)], 0)], [], [], [], [], [], []), some (0, ([], 0), 0), ([], 0), ([], 0)), ((1, 3), ([([(0, -1)], 30), ([(0, 1)], 0)], [], [], [], [], [], []), some (0, ([], 1), 0), ([], 0), ([], 0))])
noncomputable def tJ_185 : List tc_Pl := []
noncomputable def tC_185 : List tc_Ct := [tK_161, tK_162, tK_165]
def tM_185 (z : Nat) : Option am_Meth := if z = 93 then some aM_93.1 else if z = 92 then some aM_92.1 else if z = 54 then some aM_54.1 else none
set_option maxRecDepth 100000 in
theorem tMs_185 (sa : Nat → Nat) : ∀ z mz, tM_185 z = some mz → am_meth (aP sa) z = some mz := by
  intro z mz h
  unfold tM_185 at h
  rcases de_m h with ⟨rfl, rfl⟩ | h
  · exact (show am_meth (aP sa) 93 = some aM_93.1 from rfl)
  rcases de_m h with ⟨rfl, rfl⟩ | h
  · exact (show am_meth (aP sa) 92 = some aM_92.1 from rfl)
  rcases de_m h with ⟨rfl, rfl⟩ | h
  · exact (show am_meth (aP sa) 54 = some aM_54.1 from rfl)
  cases h
noncomputable def tV_185 : tc_Ev := (aQ, tp_T, tp_G.2, tp_Z, tM_185, tC_185, tp_L, tK_185.2.2.2.2.1, aM_104.1, aW_104, tK_185.2.1, tK_185.2.2.2.2.2, tJ_185)
theorem tE_185 : tK_185.2.2.2.2.2.all (tc_wex tK_185.2.1.1 tK_185.2.1.2) = true := by decide +kernel
theorem tSS_185 : tC_185.all (fun c => tw_mg tK_185.2.2.2.2.1 c.2.2.2.2.1) = true := by decide +kernel
theorem tHC_185 : ∀ c ∈ tC_185, c.2.2.2.2.1.all tK_185.2.2.2.2.1.contains = true ∧ c.2.2.2.2.2.all (tc_wex c.2.1.1 c.2.1.2) = true := tf_hc tSS_185 (by
  intro c hc
  have hc : c ∈ ([tK_161, tK_162, tK_165] : List tc_Ct) := hc
  rcases List.mem_cons.mp hc with rfl | hc
  · exact tE_161
  rcases List.mem_cons.mp hc with rfl | hc
  · exact tE_162
  rcases List.mem_cons.mp hc with rfl | hc
  · exact tE_165
  cases hc)
noncomputable def tH_185_0 : List tc_It := [de_it 0x2010000, de_it 0x2, de_it 0x4010000, de_it 0x2, de_it 0x8010000, de_it 0x10104010100000300000001, de_it 0x2010000, de_it 0x2, de_it 0x2010000, de_it 0x2, de_it 0x2010000, de_it 0x8010011, de_it 0x106010100010200000106010002, de_it 0x2010000, de_it 0x2, de_it 0x2010000, de_it 0xa010011, de_it 0x10c010100010200000108010002, de_it 0x2010000, de_it 0x2, de_it 0x2010000, de_it 0x2, de_it 0x4010000, de_it 0xc010011, de_it 0x80202000f, de_it 0x40202000f, de_it 0xe010011, de_it 0x116010100010208000800020e00020012, de_it 0x11a0101011b0101011201010113010101140101011501010001000100000000000000000000000000000001100002090100020601000207010400040e0c080200050006, de_it 0x4010000, de_it 0x11601010001020a000a00020e00020012, de_it 0x1270101012801010112010101130101011401010115010100010001000000000000000000000000000000011000020a0100020601000207010400040e0c080202050006, de_it 0x62504e4836342e2c2a2826241e1c1a1812100e0c0604020018000d, de_it 0x117010101140101010c0101010d010101150101011601010112010101130101010a0101010b0101010601010107010100000000000000000000000000000006140002060100020a01000209010002050100020301050c0604030006, de_it 0x4010000, de_it 0x10124010100000300000001, de_it 0x2010000, de_it 0x101010101000101000000000000000000010001000100010a0000010007, de_it 0x52504e4c4a48464436342e2c2a28262422201e1c1a1812100e0c0a080604020020000d, de_it 0x4010000, de_it 0x10120010100000300000001, de_it 0x2010000, de_it 0x101010101000101000000000000000000010001000100010a0002010007, de_it 0x4010000, de_it 0x1040103020100000300000001, de_it 0x6010000, de_it 0x10105010100000300000001, de_it 0x2010000, de_it 0x2, de_it 0x2010000, de_it 0x2, de_it 0x2010000, de_it 0xa010011, de_it 0x107010100010200000106010002, de_it 0x2010000, de_it 0x2, de_it 0x2010000, de_it 0xc010011, de_it 0x10d010100010200000108010002, de_it 0x2010000, de_it 0x2, de_it 0x2010000, de_it 0x2, de_it 0x4010000, de_it 0xe010011, de_it 0x80202000f, de_it 0x40202000f, de_it 0x10010011, de_it 0x117010100010208000800021000020012, de_it 0x11b0101011c010101130101011401010115010101160101000100010000000000000000000000000000000110000209010002060100020701040004100e0a0200050006, de_it 0x4010000, de_it 0x11701010001020a000a00021000020012, de_it 0x1280101012901010113010101140101011501010116010100010001000000000000000000000000000000011000020a010002060100020701040004100e0a0202050006, de_it 0x6452504a3836302e2c2a2826201e1c1a1412100e0604020018000d, de_it 0x117010101140101010c0101010d010101150101011601010112010101130101010a0101010b0101010601010107010100000000000000000000000000000006140002060100020a01000209010002050100020301050e0804030006, de_it 0x4010000, de_it 0x10124010100000300000001, de_it 0x2010000, de_it 0x101010101000101000000000000000000010001000100010a0000010007, de_it 0x52504e4c4a48464436342e2c2a28262422201e1c1a1812100e0c0a080604020020000d, de_it 0x4010000, de_it 0x10120010100000300000001, de_it 0x2010000, de_it 0x101010101000101000000000000000000010001000100010a0002010007]
set_option maxRecDepth 100000 in
theorem tR_185 : tf_go tV_185 tK_185.2.1.1 tK_185.2.1.2 none tH_185_0 [(tK_185.2.1, tK_185.2.2.2.1, 0, tc_args 0 tK_185.2.2.1, [], ([], 0), ([], 0))] = true := by decide +kernel
set_option maxRecDepth 100000 in
theorem tT_185 {RO : am_O} {sa : Nat → Nat} (h_161 : tc_true (aP sa) tp_G RO tp_T tp_Z tK_161) (h_162 : tc_true (aP sa) tp_G RO tp_T tp_Z tK_162) (h_165 : tc_true (aP sa) tp_G RO tp_T tp_Z tK_165) : tc_true (aP sa) tp_G RO tp_T tp_Z tK_185 := by
  have hC : ∀ c ∈ tC_185, tc_true (aP sa) tp_G RO tp_T tp_Z c := by
    intro c hc
    have hc : c ∈ ([tK_161, tK_162, tK_165] : List tc_Ct) := hc
    rcases List.mem_cons.mp hc with rfl | hc
    · exact h_161
    rcases List.mem_cons.mp hc with rfl | hc
    · exact h_162
    rcases List.mem_cons.mp hc with rfl | hc
    · exact h_165
    cases hc
  have hP : ∀ p ∈ tJ_185, ∃ hs, tc_plk (aP sa, tV_185.2) p hs = true := by
    intro p hp
    have hp : p ∈ ([] : List tc_Pl) := hp
    cases hp
  exact tc_main (mt := aM_104.1) (hs := tH_185_0) (PL := tJ_185) ⟨tp_G_ok, tMs_185 _, hC, tp_L_ok, tp_G_re⟩ (show am_meth (aP sa) 104 = some aM_104.1 from rfl) aX_104 (by decide +kernel) hP ((tc_go_sa (aP_sa sa _)).trans ((tf_go_s tHC_185).trans tR_185))
noncomputable def tK_186 : tc_Ct := (103, (2, 3), [(2, ([], 0), 0), (2, ([], 0), 1), (2, ([], 0), 2), (0, ([(0, 1)], 0), 0)], ([([(0, -1)], 2147483647), ([(0, 1)], 2147483648), ([(1, -1)], 30), ([(1, 1)], 0)], [(0, 166), (1, 175), (2, 174)], [], [(0, 9, (0, ([(1, 1)], 0), 0))], [], [], [(664, [], []), (680, [], []), (704, [], []), (720, [], []), (744, [], []), (760, [], [([(1, 1)], 0)]), (824, [], []), (840, [], []), (856, [], []), (944, [], [])]), [(167, 0), (167, 1), (167, 2), (167, 3), (167, 4), (167, 5)], [((3, 3), ([([(0, -1)], 2147483647), ([(0, 1)], 2147483648), ([(1, -1)], 30), ([(1, 1)], 0), ([(2, -1)], 3), ([(2, 1)], 0)], [], [], [], [], [], []), some (0, ([(2, 1)], 0), 0), ([], 0), ([], 0))])
noncomputable def tJ_186 : List tc_Pl := []
noncomputable def tC_186 : List tc_Ct := [tK_185]
def tM_186 (z : Nat) : Option am_Meth := if z = 104 then some aM_104.1 else none
set_option maxRecDepth 100000 in
theorem tMs_186 (sa : Nat → Nat) : ∀ z mz, tM_186 z = some mz → am_meth (aP sa) z = some mz := by
  intro z mz h
  unfold tM_186 at h
  rcases de_m h with ⟨rfl, rfl⟩ | h
  · exact (show am_meth (aP sa) 104 = some aM_104.1 from rfl)
  cases h
noncomputable def tV_186 : tc_Ev := (aQ, tp_T, tp_G.2, tp_Z, tM_186, tC_186, tp_L, tK_186.2.2.2.2.1, aM_103.1, aW_103, tK_186.2.1, tK_186.2.2.2.2.2, tJ_186)
theorem tE_186 : tK_186.2.2.2.2.2.all (tc_wex tK_186.2.1.1 tK_186.2.1.2) = true := by decide +kernel
theorem tSS_186 : tC_186.all (fun c => tw_mg tK_186.2.2.2.2.1 c.2.2.2.2.1) = true := by decide +kernel
theorem tHC_186 : ∀ c ∈ tC_186, c.2.2.2.2.1.all tK_186.2.2.2.2.1.contains = true ∧ c.2.2.2.2.2.all (tc_wex c.2.1.1 c.2.1.2) = true := tf_hc tSS_186 (by
  intro c hc
  have hc : c ∈ ([tK_185] : List tc_Ct) := hc
  rcases List.mem_cons.mp hc with rfl | hc
  · exact tE_185
  cases hc)
noncomputable def tH_186_0 : List tc_It := [de_it 0x6010000, de_it 0x103010101020101000000000000000000000000000000020a000201010104020000040006, de_it 0x10000010601010300000001, de_it 0x4010000, de_it 0x1000101030101010201010101010101000101000000000000000000000000000100010e02000100010007, de_it 0x10107010100000300000001, de_it 0x4010000, de_it 0x2, de_it 0x2010000, de_it 0x6010011, de_it 0x107010100010200000102010002, de_it 0x300000001, de_it 0x4010000, de_it 0x2, de_it 0x2010000, de_it 0x107010100010200000104010002, de_it 0x300000001, de_it 0x2010000, de_it 0x1000101030101010201010101010101000101000000000000000000000000000100010e00000100010007, de_it 0x4010000, de_it 0x100010103010101020101010e0112020101000101000000000000000000000000000100010e06000100010007, de_it 0x4010000, de_it 0x10001010301010102010101010101010d010a0201000000000000000000000000000100010e04000100010007]
set_option maxRecDepth 100000 in
theorem tR_186 : tf_go tV_186 tK_186.2.1.1 tK_186.2.1.2 none tH_186_0 [(tK_186.2.1, tK_186.2.2.2.1, 0, tc_args 0 tK_186.2.2.1, [], ([], 0), ([], 0))] = true := by decide +kernel
set_option maxRecDepth 100000 in
theorem tT_186 {RO : am_O} {sa : Nat → Nat} (h_185 : tc_true (aP sa) tp_G RO tp_T tp_Z tK_185) : tc_true (aP sa) tp_G RO tp_T tp_Z tK_186 := by
  have hC : ∀ c ∈ tC_186, tc_true (aP sa) tp_G RO tp_T tp_Z c := by
    intro c hc
    have hc : c ∈ ([tK_185] : List tc_Ct) := hc
    rcases List.mem_cons.mp hc with rfl | hc
    · exact h_185
    cases hc
  have hP : ∀ p ∈ tJ_186, ∃ hs, tc_plk (aP sa, tV_186.2) p hs = true := by
    intro p hp
    have hp : p ∈ ([] : List tc_Pl) := hp
    cases hp
  exact tc_main (mt := aM_103.1) (hs := tH_186_0) (PL := tJ_186) ⟨tp_G_ok, tMs_186 _, hC, tp_L_ok, tp_G_re⟩ (show am_meth (aP sa) 103 = some aM_103.1 from rfl) aX_103 (by decide +kernel) hP ((tc_go_sa (aP_sa sa _)).trans ((tf_go_s tHC_186).trans tR_186))
