/-! contracts -/
noncomputable def tK_575 : tc_Ct := (39, (3, 3), [(2, ([], 0), 0), (0, ([(0, 1)], 0), 0), (1, ([], 0), 0), (1, ([], 0), 0), (2, ([], 0), 1), (0, ([], 3), 0)], ([([(0, -1)], 2147483647), ([(0, 1)], 2147483648), ([(1, -1)], 303), ([(1, 1)], -8), ([(2, -1)], 640), ([(2, 1)], -8), ([(1, -1), (2, 1)], 0)], [(0, 167), (1, 190), (2, 195)], [(2, ([(2, 1)], 0))], [(1, 0, (2, ([], 0), 2)), (1, 1, (0, ([(1, 1)], 0), 0))], [], [], [(1096, [1], []), (1088, [], []), (1016, [], [])]), [(167, 0), (167, 1), (167, 2), (167, 3), (167, 4), (167, 5), (190, 1), (195, 0)], [((3, 3), ([([(0, -1)], 2147483647), ([(0, 1)], 2147483648), ([(1, -1)], 303), ([(1, 1)], -8), ([(2, -1)], 640), ([(2, 1)], -8), ([(1, -1), (2, 1)], 0)], [], [(2, ([(2, 1)], 0))], [(1, 1, (0, ([(1, 1)], 0), 0))], [], [], [(1096, [1], [])]), some (0, ([], 0), 0), ([], 0), ([], 0)), ((4, 3), ([([(0, -1)], 2147483647), ([(0, 1)], 2147483648), ([(1, -1)], 303), ([(1, 1)], -8), ([(2, -1)], 640), ([(2, 1)], -8), ([(3, -1)], 299), ([(3, 1)], -3), ([(1, -1), (2, 1)], 0), ([(1, -1), (3, 1)], 8), ([(1, 1), (3, -1)], -4)], [], [(2, ([(2, 1)], 0))], [(0, 5, (0, ([], 0), 0)), (1, 1, (0, ([(3, 1)], 0), 0))], [], [], [(1096, [1], []), (1080, [1, 2], [])]), some (0, ([], 1), 0), ([], 0), ([], 0))])
noncomputable def tL_575_0 : tc_Pl := de_pl 0x30cc0ff000001040203020000000000030cc0ff000300000000000000020401000d000000010b00000103020102000900000203010008000600000701000002060000000104000000010200000002000940000000000000000003f8ff00000000000000000440ff0001010000000000000448ff0300000000020101000101020000020001000000000500000002080100030000000207010002000000020601000100000002050100000007000202010201c302be01a700030001040203020501040201020501030201020002020101020000000100000000ff02080100000000fffffffeff0108010000000100000000ff02070100000000fffffffeff0107010000000100000000ff02060100000000fffffffeff0106010000000100000000ff02050100000000fffffffeff010501000204011001040107020301100103010f0202010000000000000500ff0102010f020101000000000000025eff0101010000000100000000ff02000100000000fffffffeff0100010002020101020f0202010000000000000500ff0102010f020101000000000000025eff0101010000000100000000ff02000100000000fffffffeff0100011d0309
noncomputable def tJ_575 : List tc_Pl := [tL_575_0]
noncomputable def tC_575 : List tc_Ct := [tK_31, tK_28, tK_24, tK_574, tK_572, tK_569]
def tM_575 (z : Nat) : Option am_Meth := if z = 36 then some aM_36.1 else if z = 35 then some aM_35.1 else if z = 34 then some aM_34.1 else if z = 33 then some aM_33.1 else if z = 29 then some aM_29.1 else if z = 11 then some aM_11.1 else none
set_option maxRecDepth 100000 in
theorem tMs_575 (sa : Nat → Nat) : ∀ z mz, tM_575 z = some mz → am_meth (aP sa) z = some mz := by
  intro z mz h
  unfold tM_575 at h
  rcases de_m h with ⟨rfl, rfl⟩ | h
  · exact (show am_meth (aP sa) 36 = some aM_36.1 from rfl)
  rcases de_m h with ⟨rfl, rfl⟩ | h
  · exact (show am_meth (aP sa) 35 = some aM_35.1 from rfl)
  rcases de_m h with ⟨rfl, rfl⟩ | h
  · exact (show am_meth (aP sa) 34 = some aM_34.1 from rfl)
  rcases de_m h with ⟨rfl, rfl⟩ | h
  · exact (show am_meth (aP sa) 33 = some aM_33.1 from rfl)
  rcases de_m h with ⟨rfl, rfl⟩ | h
  · exact (show am_meth (aP sa) 29 = some aM_29.1 from rfl)
  rcases de_m h with ⟨rfl, rfl⟩ | h
  · exact (show am_meth (aP sa) 11 = some aM_11.1 from rfl)
  cases h
noncomputable def tV_575 : tc_Ev := (aQ, tp_T, tp_G.2, tp_Z, tM_575, tC_575, tp_L, tK_575.2.2.2.2.1, aM_39.1, aW_39, tK_575.2.1, tK_575.2.2.2.2.2, tJ_575)
theorem tE_575 : tK_575.2.2.2.2.2.all (tc_wex tK_575.2.1.1 tK_575.2.1.2) = true := by decide +kernel
theorem tSS_575 : tC_575.all (fun c => tw_mg tK_575.2.2.2.2.1 c.2.2.2.2.1) = true := by decide +kernel
theorem tHC_575 : ∀ c ∈ tC_575, c.2.2.2.2.1.all tK_575.2.2.2.2.1.contains = true ∧ c.2.2.2.2.2.all (tc_wex c.2.1.1 c.2.1.2) = true := tf_hc tSS_575 (by
  intro c hc
  have hc : c ∈ ([tK_31, tK_28, tK_24, tK_574, tK_572, tK_569] : List tc_Ct) := hc
  rcases List.mem_cons.mp hc with rfl | hc
  · exact tE_31
  rcases List.mem_cons.mp hc with rfl | hc
  · exact tE_28
  rcases List.mem_cons.mp hc with rfl | hc
  · exact tE_24
  rcases List.mem_cons.mp hc with rfl | hc
  · exact tE_574
  rcases List.mem_cons.mp hc with rfl | hc
  · exact tE_572
  rcases List.mem_cons.mp hc with rfl | hc
  · exact tE_569
  cases hc)
noncomputable def tH_575_0 : List tc_It := [de_it 0x2010000, de_it 0x101010101000101000000000000000000000000000000000a000200010100010006, de_it 0x4010000, de_it 0x2, de_it 0x2010000, de_it 0x10a010202010109010302010200000001, de_it 0x4010000, de_it 0x10b01010300000001, de_it 0x4010000, de_it 0x300000001, de_it 0x2010000, de_it 0x101010101000101000000000000000000000000000000000a000200010102010006, de_it 0x10010000, de_it 0x1000101100101010f0101000000000000000000000000000000040ce80000020401020004020006, de_it 0x6010000, de_it 0x106010101090101010a01060201010a010101050101010401010103010101020101010c0101010a0102020101100101010f010100000000000000000000000000000005140002020100020101000103020102000204010404020006040006, de_it 0x5c58565452504e4c4a3e201e1814120c0a080604020016000d, de_it 0x6010000, de_it 0x10801010103010101090101010601010114010101130101011201010111010101100101010f0101010e0101010d010100010001010801010107010101050101010401010103010101020101010101010100010101060101010501010104010101030101010201010101010101000101000000000000000000000000000100012500020c0100020b0100020a01000209010000000203010600010008, de_it 0x2010000, de_it 0x1060101010501010104010101030101010c010902010101010101000101000000000000000000010001000100010f0000010007]
set_option maxRecDepth 100000 in
theorem tR_575 : tf_go tV_575 tK_575.2.1.1 tK_575.2.1.2 none tH_575_0 [(tK_575.2.1, tK_575.2.2.2.1, 0, tc_args 0 tK_575.2.2.1, [], ([], 0), ([], 0))] = true := by decide +kernel
noncomputable def tH_575_1 : List tc_It := [de_it 0x4010000, de_it 0x300000001, de_it 0x4010000, de_it 0x8000103020102010200000000000002ecff020009, de_it 0x105010101040101010e01060201010e01020201011a0101000000000700000003, de_it 0x8010000, de_it 0x2, de_it 0x4010000, de_it 0x800040200000000000002e6ff030009, de_it 0x10e010602010105010101040101011a0101010e01020201000000000000000000000000000000050d0002020100010302010202040008030006, de_it 0x2010000, de_it 0x800040200000000000002e8ff030009, de_it 0x800040200000000000002eaff030009, de_it 0x800040200000000000001d8ff030009, de_it 0x10e0101010d010101060101011a0101011e010101050101010401010103010101020101010101010100010100000000000000000001000100010001130001030201020102010007, de_it 0x6010000, de_it 0x11d010202010110011a02010200000001, de_it 0x1060101011d01060201011d0101010501010104010101030101010201010110011a0201011d010202010000000000000000000000000000000111000202010002010100020401030201030304020a030006, de_it 0x4e4a483e3c3a3634302e2c2a28262422201e1c1a0c0a08060402001b000d, de_it 0x8010000, de_it 0x80708150201080a01010200000001, de_it 0x80a01010807081502010200000001, de_it 0x2010000, de_it 0x101, de_it 0x4010000, de_it 0x300000001, de_it 0x10701150201010a01010200000001, de_it 0x2010000, de_it 0x11501010115011302010113010101060101011201010111010101100101010f0101010e0101010d0101010c0101010b0101010a0101010701150201010801010107010101050101010401010103010101020101010101010100010101060101010501010104010101030101010201010101010101000101000000000115010100010000000100010001250002080100020701000206010002050102020401000203010600010008, de_it 0x2010000, de_it 0x1060101010501010104010101030101010201010101010101000101000000000000000000010001000100010f0000010007]
set_option maxRecDepth 100000 in
theorem tP_575_0 : tf_plk tV_575 tL_575_0 tH_575_1 = true := by decide +kernel
set_option maxRecDepth 100000 in
theorem tT_575 {RO : am_O} {sa : Nat → Nat} (h_24 : tc_true (aP sa) tp_G RO tp_T tp_Z tK_24) (h_28 : tc_true (aP sa) tp_G RO tp_T tp_Z tK_28) (h_31 : tc_true (aP sa) tp_G RO tp_T tp_Z tK_31) (h_569 : tc_true (aP sa) tp_G RO tp_T tp_Z tK_569) (h_572 : tc_true (aP sa) tp_G RO tp_T tp_Z tK_572) (h_574 : tc_true (aP sa) tp_G RO tp_T tp_Z tK_574) : tc_true (aP sa) tp_G RO tp_T tp_Z tK_575 := by
  have hC : ∀ c ∈ tC_575, tc_true (aP sa) tp_G RO tp_T tp_Z c := by
    intro c hc
    have hc : c ∈ ([tK_31, tK_28, tK_24, tK_574, tK_572, tK_569] : List tc_Ct) := hc
    rcases List.mem_cons.mp hc with rfl | hc
    · exact h_31
    rcases List.mem_cons.mp hc with rfl | hc
    · exact h_28
    rcases List.mem_cons.mp hc with rfl | hc
    · exact h_24
    rcases List.mem_cons.mp hc with rfl | hc
    · exact h_574
    rcases List.mem_cons.mp hc with rfl | hc
    · exact h_572
    rcases List.mem_cons.mp hc with rfl | hc
    · exact h_569
    cases hc
  have hP : ∀ p ∈ tJ_575, ∃ hs, tc_plk (aP sa, tV_575.2) p hs = true := by
    intro p hp
    have hp : p ∈ ([tL_575_0] : List tc_Pl) := hp
    rcases List.mem_cons.mp hp with rfl | hp
    · exact ⟨_, (tc_plk_sa (aP_sa sa _)).trans ((tf_plk_s tHC_575).trans tP_575_0)⟩
    cases hp
  exact tc_main (mt := aM_39.1) (hs := tH_575_0) (PL := tJ_575) ⟨tp_G_ok, tMs_575 _, hC, tp_L_ok, tp_G_re⟩ (show am_meth (aP sa) 39 = some aM_39.1 from rfl) aX_39 (by decide +kernel) hP ((tc_go_sa (aP_sa sa _)).trans ((tf_go_s tHC_575).trans tR_575))
noncomputable def tK_576 : tc_Ct := (174, (2, 4), [(2, ([], 0), 0)], ([([(0, -1)], 303), ([(0, 1)], -4), ([(1, -1)], 640), ([(1, 1)], -8), ([(0, -1), (1, 1)], 0)], [(0, 172), (1, 166), (2, 190), (3, 195)], [(3, ([(1, 1)], 0))], [(0, 0, (2, ([], 0), 1)), (0, 3, (2, ([], 0), 2)), (2, 0, (2, ([], 0), 3)), (2, 1, (0, ([(0, 1)], 0), 0))], [], [], [(1096, [0], []), (1088, [], []), (1056, [], []), (1048, [0, 2], []), (968, [], []), (984, [], []), (1016, [], []), (1024, [], []), (1040, [], []), (568, [1], [])]), [(167, 0), (167, 1), (167, 2), (167, 3), (167, 4), (167, 5), (190, 1), (195, 0)], [((2, 4), ([([(0, -1)], 303), ([(0, 1)], -4), ([(1, -1)], 640), ([(1, 1)], -8), ([(0, -1), (1, 1)], 0)], [], [(3, ([(1, 1)], 0))], [(2, 1, (0, ([(0, 1)], 0), 0))], [], [], [(1096, [0], [])]), some (0, ([], 0), 0), ([], 0), ([], 0)), ((3, 4), ([([(0, -1)], 303), ([(0, 1)], -8), ([(1, -1)], 640), ([(1, 1)], -8), ([(2, -1)], 299), ([(2, 1)], -3), ([(0, -1), (1, 1)], 0), ([(0, -1), (2, 1)], 8), ([(0, 1), (2, -1)], -4)], [], [(3, ([(1, 1)], 0))], [(2, 1, (0, ([(2, 1)], 0), 0))], [], [], [(1096, [0], []), (1080, [2, 3], [])]), some (0, ([], 1), 0), ([], 0), ([], 0))])
noncomputable def tJ_576 : List tc_Pl := []
noncomputable def tC_576 : List tc_Ct := [tK_31, tK_575]
def tM_576 (z : Nat) : Option am_Meth := if z = 39 then some aM_39.1 else if z = 36 then some aM_36.1 else none
set_option maxRecDepth 100000 in
theorem tMs_576 (sa : Nat → Nat) : ∀ z mz, tM_576 z = some mz → am_meth (aP sa) z = some mz := by
  intro z mz h
  unfold tM_576 at h
  rcases de_m h with ⟨rfl, rfl⟩ | h
  · exact (show am_meth (aP sa) 39 = some aM_39.1 from rfl)
  rcases de_m h with ⟨rfl, rfl⟩ | h
  · exact (show am_meth (aP sa) 36 = some aM_36.1 from rfl)
  cases h
noncomputable def tV_576 : tc_Ev := (aQ, tp_T, tp_G.2, tp_Z, tM_576, tC_576, tp_L, tK_576.2.2.2.2.1, aM_174.1, aW_174, tK_576.2.1, tK_576.2.2.2.2.2, tJ_576)
theorem tE_576 : tK_576.2.2.2.2.2.all (tc_wex tK_576.2.1.1 tK_576.2.1.2) = true := by decide +kernel
theorem tSS_576 : tC_576.all (fun c => tw_mg tK_576.2.2.2.2.1 c.2.2.2.2.1) = true := by decide +kernel
theorem tHC_576 : ∀ c ∈ tC_576, c.2.2.2.2.1.all tK_576.2.2.2.2.1.contains = true ∧ c.2.2.2.2.2.all (tc_wex c.2.1.1 c.2.1.2) = true := tf_hc tSS_576 (by
  intro c hc
  have hc : c ∈ ([tK_31, tK_575] : List tc_Ct) := hc
  rcases List.mem_cons.mp hc with rfl | hc
  · exact tE_31
  rcases List.mem_cons.mp hc with rfl | hc
  · exact tE_575
  cases hc)
noncomputable def tH_576_0 : List tc_It := [de_it 0x2010000, de_it 0x2, de_it 0x2010000, de_it 0x8010011, de_it 0x105010100010200000102010002, de_it 0x4010000, de_it 0x2, de_it 0x2, de_it 0x2010000, de_it 0x1000101010101010200000001, de_it 0x2010000, de_it 0x107010101080101000000000000000000000000000000000a000203010100010006, de_it 0x300000001, de_it 0x2010000, de_it 0x1040101010301010102010101010101010f010d0201000000000000000000010001000100010d0000010007, de_it 0x2010000, de_it 0x2, de_it 0x2, de_it 0x4010000, de_it 0x2, de_it 0x2010000, de_it 0xc010011, de_it 0x110010100010200000002, de_it 0x2010000, de_it 0x2, de_it 0x2010000, de_it 0x105010100010200000116010002, de_it 0x4010000, de_it 0x2, de_it 0x2010000, de_it 0x80002000f, de_it 0x20e02000f, de_it 0x8000207010002000102060e04080000000000000002e0ff060009, de_it 0x10401010103010101020101010e010f0201010001010107010101080101000000000000000000000000000000050f0002010100020001000203010306040a02040006, de_it 0x1011f010100000300000001, de_it 0x2010000, de_it 0x800060e04080000000000000002e4ff060009, de_it 0x10401010103010101020101011b010101000101000000000000000000010001000100010d0000010007, de_it 0x10000012401010300000001, de_it 0x4010000, de_it 0x800060e04080000000000000002e4ff060009, de_it 0x12201010121010101040101011f0101011e01010103010101020101011b0101010001010000000000000000000100010001000111000208010102010007]
set_option maxRecDepth 100000 in
theorem tR_576 : tf_go tV_576 tK_576.2.1.1 tK_576.2.1.2 none tH_576_0 [(tK_576.2.1, tK_576.2.2.2.1, 0, tc_args 0 tK_576.2.2.1, [], ([], 0), ([], 0))] = true := by decide +kernel
set_option maxRecDepth 100000 in
theorem tT_576 {RO : am_O} {sa : Nat → Nat} (h_31 : tc_true (aP sa) tp_G RO tp_T tp_Z tK_31) (h_575 : tc_true (aP sa) tp_G RO tp_T tp_Z tK_575) : tc_true (aP sa) tp_G RO tp_T tp_Z tK_576 := by
  have hC : ∀ c ∈ tC_576, tc_true (aP sa) tp_G RO tp_T tp_Z c := by
    intro c hc
    have hc : c ∈ ([tK_31, tK_575] : List tc_Ct) := hc
    rcases List.mem_cons.mp hc with rfl | hc
    · exact h_31
    rcases List.mem_cons.mp hc with rfl | hc
    · exact h_575
    cases hc
  have hP : ∀ p ∈ tJ_576, ∃ hs, tc_plk (aP sa, tV_576.2) p hs = true := by
    intro p hp
    have hp : p ∈ ([] : List tc_Pl) := hp
    cases hp
  exact tc_main (mt := aM_174.1) (hs := tH_576_0) (PL := tJ_576) ⟨tp_G_ok, tMs_576 _, hC, tp_L_ok, tp_G_re⟩ (show am_meth (aP sa) 174 = some aM_174.1 from rfl) aX_174 (by decide +kernel) hP ((tc_go_sa (aP_sa sa _)).trans ((tf_go_s tHC_576).trans tR_576))
noncomputable def tK_577 : tc_Ct := (13, (5, 3), [(2, ([], 0), 0), (2, ([], 0), 1), (0, ([], 3), 0), (0, ([(0, 1)], 0), 0)], ([([(0, -1)], 303), ([(0, 1)], -2), ([(1, -1)], 2000), ([(1, 1)], 0), ([(2, -1)], 640), ([(2, 1)], -8), ([(3, -1)], 4000), ([(3, 1)], -8), ([(4, -1)], 8002492), ([(0, -1), (1, -1)], 2003), ([(0, -1), (2, 1)], 0), ([(0, -1), (1, -1), (3, 1)], 303)], [(0, 186), (1, 195), (2, 196)], [(1, ([(2, 1)], 0)), (2, ([(3, 1)], 0))], [(0, 0, (2, ([], 0), 2)), (0, 1, (0, ([(1, 1)], 0), 0))], [], [], [(1136, [], [([(4, 1)], 0)]), (1088, [], []), (1016, [], [])]), [(186, 0), (186, 1), (196, 0), (196, 1000)], [((9, 3), ([([(0, -1)], 303), ([(0, 1)], -2), ([(1, -1)], 2000), ([(1, 1)], 0), ([(2, -1)], 640), ([(2, 1)], -8), ([(3, -1)], 4000), ([(3, 1)], -8), ([(4, -1)], 8002492), ([(5, -1)], 2000), ([(5, 1)], 0), ([(6, -1)], 1), ([(6, 1)], 0), ([(7, -1)], 3998), ([(7, 1)], 0), ([(8, -1)], 8002492), ([(0, -1), (1, -1)], 2003), ([(0, -1), (2, 1)], 0), ([(0, -1), (5, 1)], 3), ([(1, -1), (3, 1)], 301), ([(1, -1), (5, 1)], 0), ([(1, 1), (5, -1)], 300), ([(3, 1), (5, -1)], 301), ([(6, -16), (7, 1)], 0), ([(0, -1), (1, -1), (3, 1)], 303), ([(0, -1), (1, -1), (5, 1)], 3), ([(0, 1), (1, 1), (5, -1)], -2), ([(4, 1), (7, -1), (8, -1)], 0)], [], [(1, ([(2, 1)], 0)), (2, ([(3, 1)], 0))], [(0, 1, (0, ([(5, 1)], 0), 0))], [], [], [(1136, [], [([(8, 1)], 0)])]), none, ([(6, 1)], 0), ([(7, 1)], 0))])
noncomputable def tJ_577 : List tc_Pl := []
noncomputable def tC_577 : List tc_Ct := [tK_400]
def tM_577 (z : Nat) : Option am_Meth := if z = 8 then some aM_8.1 else none
set_option maxRecDepth 100000 in
theorem tMs_577 (sa : Nat → Nat) : ∀ z mz, tM_577 z = some mz → am_meth (aP sa) z = some mz := by
  intro z mz h
  unfold tM_577 at h
  rcases de_m h with ⟨rfl, rfl⟩ | h
  · exact (show am_meth (aP sa) 8 = some aM_8.1 from rfl)
  cases h
noncomputable def tV_577 : tc_Ev := (aQ, tp_T, tp_G.2, tp_Z, tM_577, tC_577, tp_L, tK_577.2.2.2.2.1, aM_13.1, aW_13, tK_577.2.1, tK_577.2.2.2.2.2, tJ_577)
theorem tE_577 : tK_577.2.2.2.2.2.all (tc_wex tK_577.2.1.1 tK_577.2.1.2) = true := by decide +kernel
theorem tSS_577 : tC_577.all (fun c => tw_mg tK_577.2.2.2.2.1 c.2.2.2.2.1) = true := by decide +kernel
theorem tHC_577 : ∀ c ∈ tC_577, c.2.2.2.2.1.all tK_577.2.2.2.2.1.contains = true ∧ c.2.2.2.2.2.all (tc_wex c.2.1.1 c.2.1.2) = true := tf_hc tSS_577 (by
  intro c hc
  have hc : c ∈ ([tK_400] : List tc_Ct) := hc
  rcases List.mem_cons.mp hc with rfl | hc
  · exact tE_400
  cases hc)
noncomputable def tH_577_0 : List tc_It := [de_it 0x2010000, de_it 0x10c01010300000001, de_it 0x4010000, de_it 0x2, de_it 0x10d010a02010300000001, de_it 0x4010000, de_it 0x300000001, de_it 0x101010101010e0101010b010100010101010b0201000100010101010b02010103010e0201010e010502010109010101080101000100010001000101030101010201010108010101070101010601010105010101040101010301010102010101010101010e010100000000000000000000000000010001240002040100000000000201010400010007, de_it 0x2010000, de_it 0x2, de_it 0x10010, de_it 0x4010000, de_it 0x1000101010e01010200000001, de_it 0x10901010103010e02010200000001, de_it 0x2010000, de_it 0x1120109020100000300000001, de_it 0x2010000, de_it 0x2, de_it 0x2010000, de_it 0x10901010103010e02010200000001, de_it 0x2010000, de_it 0x10901010103010e02010200000001, de_it 0x2010000, de_it 0x2, de_it 0x2, de_it 0x300000001, de_it 0x6010000, de_it 0x2, de_it 0x2010000, de_it 0x2, de_it 0x4010000, de_it 0x1000101010e01010200000001, de_it 0x1130101010a0101000101030101010e01010500000005, de_it 0x4010000, de_it 0x2, de_it 0x4010000, de_it 0x1000101010e01010200000001, de_it 0x10901010103010e02010200000001, de_it 0x10701010106010101130101010901010103010e0201000000000700000003, de_it 0x1000100010113010100010113010101000101010e0101010e0113020101030101010a0101010901010108010100010001000100010103010e020101090101010801010107010101060101010501010104010101030101010e01090201010e010101000101000000000000000000000000000100012400020401000000000502010200020400010007, de_it 0x4010000, de_it 0x2, de_it 0x4010000, de_it 0x2, de_it 0x2, de_it 0x21302090201020701010200000001, de_it 0x2010000, de_it 0x2, de_it 0x2010000, de_it 0x10901010107011302010200000001, de_it 0x2010000, de_it 0x10901010107011302010200000001, de_it 0x200000005, de_it 0x11401070201010b0101010701010114010b0201020701140201020b01140201000000000000000000000000000000000e00020301050201020002020400020006, de_it 0x805020102000200020301000204010306040000000000000002a4ff040009, de_it 0x20701140201020b01140201010f01070114030100000000000000000700000003, de_it 0x6010000, de_it 0x2, de_it 0x2010000, de_it 0x2, de_it 0x4010000, de_it 0x1000101010f0107011403010200000001, de_it 0x1010a0101000101030101010f0107011403010500000005, de_it 0x4010000, de_it 0x2, de_it 0x4010000, de_it 0x1000101010f0107011403010200000001, de_it 0x20b011402010207011402010200000001, de_it 0x20701140201020b011402010001020b01140201020701140201000000000700000003, de_it 0x1140101000000000000000000000000000000000906020401010100030c0204040303010300040202010009, de_it 0x100010001010b0101020701140201010b010101000101010f010701140301010f010101030101010a0101020b011402010207010801140301020701140201020b0114020100010001020701140201020b0114020101080101010701010114010b0201010f010a0107011404010104010101030101010f0114010b0301010f010701140301010001010000000000000000000000000001000124060204010101000305020102000202000502010200020400010007, de_it 0x10701010113010902010107010101130109020102070101021302090201000000000000000000000000000000000e0002030100040301020400020006, de_it 0x80004030100020301000204010306040000000000000002a4ff040009, de_it 0x1160101011501010116020f020200000000000000000700000003, de_it 0x6010000, de_it 0x2, de_it 0x2010000, de_it 0x2, de_it 0x4010000, de_it 0x1000101010e01010200000001, de_it 0x1140101010a0101000101030101010e01010500000005, de_it 0x4010000, de_it 0x2, de_it 0x4010000, de_it 0x1000101010e01010200000001, de_it 0x10901010116021302020200000001, de_it 0x1160101011501010114010101090101011602130202000000000700000003, de_it 0x100010001010f0100020101160101010f0100020101000101010e0101010f010101030101010a01010109010101080116020101160101011501010001000101160213020201090101010801010116010201150102010501010104010101030101020f01150202010e01010100010100000000000000000000000000010001240002040303020004030102000502010200020400010007]
set_option maxRecDepth 100000 in
theorem tR_577 : tf_go tV_577 tK_577.2.1.1 tK_577.2.1.2 none tH_577_0 [(tK_577.2.1, tK_577.2.2.2.1, 0, tc_args 0 tK_577.2.2.1, [], ([], 0), ([], 0))] = true := by decide +kernel
set_option maxRecDepth 100000 in
theorem tT_577 {RO : am_O} {sa : Nat → Nat} (h_400 : tc_true (aP sa) tp_G RO tp_T tp_Z tK_400) : tc_true (aP sa) tp_G RO tp_T tp_Z tK_577 := by
  have hC : ∀ c ∈ tC_577, tc_true (aP sa) tp_G RO tp_T tp_Z c := by
    intro c hc
    have hc : c ∈ ([tK_400] : List tc_Ct) := hc
    rcases List.mem_cons.mp hc with rfl | hc
    · exact h_400
    cases hc
  have hP : ∀ p ∈ tJ_577, ∃ hs, tc_plk (aP sa, tV_577.2) p hs = true := by
    intro p hp
    have hp : p ∈ ([] : List tc_Pl) := hp
    cases hp
  exact tc_main (mt := aM_13.1) (hs := tH_577_0) (PL := tJ_577) ⟨tp_G_ok, tMs_577 _, hC, tp_L_ok, tp_G_re⟩ (show am_meth (aP sa) 13 = some aM_13.1 from rfl) aX_13 (by decide +kernel) hP ((tc_go_sa (aP_sa sa _)).trans ((tf_go_s tHC_577).trans tR_577))
noncomputable def tK_578 : tc_Ct := (177, (1, 1), [(2, ([], 0), 0), (0, ([(0, 1)], 0), 0)], ([([(0, -1)], 300), ([(0, 1)], 1)], [(0, 172)], [], [], [], [], []), [(172, 30)], [((1, 1), ([([(0, -1)], 300), ([(0, 1)], 1)], [], [], [], [], [], []), some (0, ([], 0), 0), ([], 0), ([], 0)), ((1, 1), ([([(0, -1)], 300), ([(0, 1)], 1)], [], [], [], [], [], []), some (0, ([], 1), 0), ([], 0), ([], 0))])
noncomputable def tJ_578 : List tc_Pl := []
noncomputable def tC_578 : List tc_Ct := []
def tM_578 (z : Nat) : Option am_Meth := none
set_option maxRecDepth 100000 in
theorem tMs_578 (sa : Nat → Nat) : ∀ z mz, tM_578 z = some mz → am_meth (aP sa) z = some mz := fun z mz h => by cases h
noncomputable def tV_578 : tc_Ev := (aQ, tp_T, tp_G.2, tp_Z, tM_578, tC_578, tp_L, tK_578.2.2.2.2.1, aM_177.1, aW_177, tK_578.2.1, tK_578.2.2.2.2.2, tJ_578)
theorem tE_578 : tK_578.2.2.2.2.2.all (tc_wex tK_578.2.1.1 tK_578.2.1.2) = true := by decide +kernel
theorem tSS_578 : tC_578.all (fun c => tw_mg tK_578.2.2.2.2.1 c.2.2.2.2.1) = true := by decide +kernel
theorem tHC_578 : ∀ c ∈ tC_578, c.2.2.2.2.1.all tK_578.2.2.2.2.1.contains = true ∧ c.2.2.2.2.2.all (tc_wex c.2.1.1 c.2.1.2) = true := tf_hc tSS_578 (by
  intro c hc
  have hc : c ∈ ([] : List tc_Ct) := hc
  cases hc)
noncomputable def tH_578_0 : List tc_It := [de_it 0x2010000, de_it 0x2, de_it 0x2010000, de_it 0x300000001, de_it 0x2010000, de_it 0x2, de_it 0x2010000, de_it 0x101, de_it 0x2010000, de_it 0x2, de_it 0x2, de_it 0x2010000, de_it 0x4010011, de_it 0x10a010100010200000108010002, de_it 0x300000001, de_it 0x4010000, de_it 0x2, de_it 0x2010000, de_it 0x101, de_it 0x120002000f, de_it 0x160002000f, de_it 0x10010, de_it 0x11801010113010502010112010101110101000000000600000003, de_it 0x2010000, de_it 0x101010101000101000000000000000000010001000100010a0002010007, de_it 0x2010000, de_it 0x101010101000101000000000000000000010001000100010a0000010007, de_it 0x2010000, de_it 0x2, de_it 0x2010000, de_it 0x1030101000000000300000001, de_it 0x2010000, de_it 0x101010101000101000000000000000000010001000100010a0000010007, de_it 0x4010000, de_it 0x101010101000101000000000000000000010001000100010a0002010007]
set_option maxRecDepth 100000 in
theorem tR_578 : tf_go tV_578 tK_578.2.1.1 tK_578.2.1.2 none tH_578_0 [(tK_578.2.1, tK_578.2.2.2.1, 0, tc_args 0 tK_578.2.2.1, [], ([], 0), ([], 0))] = true := by decide +kernel
set_option maxRecDepth 100000 in
theorem tT_578 {RO : am_O} {sa : Nat → Nat} : tc_true (aP sa) tp_G RO tp_T tp_Z tK_578 := by
  have hC : ∀ c ∈ tC_578, tc_true (aP sa) tp_G RO tp_T tp_Z c := by
    intro c hc
    have hc : c ∈ ([] : List tc_Ct) := hc
    cases hc
  have hP : ∀ p ∈ tJ_578, ∃ hs, tc_plk (aP sa, tV_578.2) p hs = true := by
    intro p hp
    have hp : p ∈ ([] : List tc_Pl) := hp
    cases hp
  exact tc_main (mt := aM_177.1) (hs := tH_578_0) (PL := tJ_578) ⟨tp_G_ok, tMs_578 _, hC, tp_L_ok, tp_G_re⟩ (show am_meth (aP sa) 177 = some aM_177.1 from rfl) aX_177 (by decide +kernel) hP ((tc_go_sa (aP_sa sa _)).trans ((tf_go_s tHC_578).trans tR_578))
noncomputable def tK_579 : tc_Ct := (175, (6, 5), [(2, ([], 0), 0), (0, ([(0, 1)], 0), 0)], ([([(0, -1)], 303), ([(0, 1)], -2), ([(1, -1)], 303), ([(1, 1)], -3), ([(2, -1)], 2000), ([(2, 1)], 0), ([(3, -1)], 640), ([(3, 1)], -8), ([(4, -1)], 4000), ([(4, 1)], -8), ([(5, -1)], 8002492), ([(0, -1), (1, 1)], 0), ([(0, -1), (3, 1)], 0), ([(0, 1), (1, -1)], 1), ([(1, -1), (3, 1)], 0), ([(2, -1), (4, 1)], 0)], [(0, 172), (1, 190), (2, 186), (3, 195), (4, 196)], [(3, ([(3, 1)], 0)), (4, ([(4, 1)], 0))], [(0, 3, (2, ([], 0), 1)), (0, 5, (2, ([], 0), 2)), (1, 0, (2, ([], 0), 3)), (1, 1, (0, ([(1, 1)], 0), 0)), (2, 0, (2, ([], 0), 4)), (2, 1, (0, ([(2, 1)], 0), 0))], [], [], [(1096, [0], []), (1136, [], [([(5, 1)], 0)]), (1088, [], []), (1056, [], []), (1048, [0, 1], []), (984, [], []), (1016, [], []), (1024, [], [])]), [(172, 30), (186, 0), (186, 1), (196, 0), (196, 1000)], [((10, 5), ([([(0, -1)], 303), ([(0, 1)], -2), ([(1, -1)], 303), ([(1, 1)], -3), ([(2, -1)], 2000), ([(2, 1)], 0), ([(3, -1)], 640), ([(3, 1)], -8), ([(4, -1)], 4000), ([(4, 1)], -8), ([(5, -1)], 8002492), ([(6, -1)], 2000), ([(6, 1)], 0), ([(7, -1)], 1), ([(7, 1)], 0), ([(8, -1)], 3998), ([(8, 1)], 0), ([(9, -1)], 8002492), ([(0, -1), (1, 1)], 0), ([(0, -1), (3, 1)], 0), ([(0, -1), (6, 1)], 3), ([(0, 1), (1, -1)], 1), ([(1, -1), (3, 1)], 0), ([(2, -1), (4, 1)], 0), ([(2, -1), (6, 1)], 0), ([(2, 1), (6, -1)], 300), ([(7, -16), (8, 1)], 0), ([(5, 1), (8, -1), (9, -1)], 0)], [], [(3, ([(3, 1)], 0)), (4, ([(4, 1)], 0))], [(2, 1, (0, ([(6, 1)], 0), 0))], [], [], [(1136, [], [([(9, 1)], 0)])]), some (0, ([], 0), 0), ([(7, 1)], 0), ([(8, 1)], 0)), ((6, 5), ([([(0, -1)], 303), ([(0, 1)], -2), ([(1, -1)], 303), ([(1, 1)], -3), ([(2, -1)], 2000), ([(2, 1)], 0), ([(3, -1)], 640), ([(3, 1)], -8), ([(4, -1)], 4000), ([(4, 1)], -8), ([(5, -1)], 8002492), ([(0, -1), (1, 1)], 0), ([(0, -1), (3, 1)], 0), ([(0, 1), (1, -1)], 1), ([(1, -1), (3, 1)], 0), ([(2, -1), (4, 1)], 0)], [], [(3, ([(3, 1)], 0)), (4, ([(4, 1)], 0))], [(2, 0, (2, ([], 0), 4)), (2, 1, (0, ([(2, 1)], 0), 0))], [], [], [(1136, [], [([(5, 1)], 0)])]), some (0, ([], 10), 0), ([], 0), ([], 0))])
noncomputable def tJ_579 : List tc_Pl := []
noncomputable def tC_579 : List tc_Ct := [tK_578, tK_577]
def tM_579 (z : Nat) : Option am_Meth := if z = 177 then some aM_177.1 else if z = 13 then some aM_13.1 else none
set_option maxRecDepth 100000 in
theorem tMs_579 (sa : Nat → Nat) : ∀ z mz, tM_579 z = some mz → am_meth (aP sa) z = some mz := by
  intro z mz h
  unfold tM_579 at h
  rcases de_m h with ⟨rfl, rfl⟩ | h
  · exact (show am_meth (aP sa) 177 = some aM_177.1 from rfl)
  rcases de_m h with ⟨rfl, rfl⟩ | h
  · exact (show am_meth (aP sa) 13 = some aM_13.1 from rfl)
  cases h
noncomputable def tV_579 : tc_Ev := (aQ, tp_T, tp_G.2, tp_Z, tM_579, tC_579, tp_L, tK_579.2.2.2.2.1, aM_175.1, aW_175, tK_579.2.1, tK_579.2.2.2.2.2, tJ_579)
theorem tE_579 : tK_579.2.2.2.2.2.all (tc_wex tK_579.2.1.1 tK_579.2.1.2) = true := by decide +kernel
theorem tSS_579 : tC_579.all (fun c => tw_mg tK_579.2.2.2.2.1 c.2.2.2.2.1) = true := by decide +kernel
theorem tHC_579 : ∀ c ∈ tC_579, c.2.2.2.2.1.all tK_579.2.2.2.2.1.contains = true ∧ c.2.2.2.2.2.all (tc_wex c.2.1.1 c.2.1.2) = true := tf_hc tSS_579 (by
  intro c hc
  have hc : c ∈ ([tK_578, tK_577] : List tc_Ct) := hc
  rcases List.mem_cons.mp hc with rfl | hc
  · exact tE_578
  rcases List.mem_cons.mp hc with rfl | hc
  · exact tE_577
  cases hc)
noncomputable def tH_579_0 : List tc_It := [de_it 0x6010000, de_it 0x1000101010101010200000001, de_it 0x101010101000101000000000000000000000000000000010a05020001010000020006, de_it 0x10000011201010300000001, de_it 0x2010000, de_it 0x10f0101010e0101010d0101010c0101010b0101010a01010109010101080101010701010106010101050101010401010103010101020101010101010100010100000000000000000000000000010001180002010007, de_it 0x10113010100000300000001, de_it 0x2010000, de_it 0x2, de_it 0x2010000, de_it 0x2, de_it 0x2, de_it 0x8010000, de_it 0x2, de_it 0x2, de_it 0x1050101010401010200000001, de_it 0x200000005, de_it 0x10f0113010003010113010c02010001010a0101010f01130100030101080101010701010106010101130100020101040101010401010113010002010000000000000000000000000000000314000205010002040100020301000202010000000000000fa6ff0102010508060402040006, de_it 0x5e5a58565452504c4a464442403e3a28261e1c1a181614100e0c08060402001f000d, de_it 0x2010000, de_it 0x11e0101011b01010110010e0100030101180101010d0101010c0101010b0101011d01000201010a0101010901010115010101140101011301010112010101110101011d01010110010101080101010d010e010003010107010101060101010501010100010e0201010401010109010e0104030101020101010e01040201010001010000000000000000000000000001000124000209010002080100020701000206010400010007, de_it 0x10f01000201010c010101130101010a01010109010101080101010701010106010101050101010401010101010101000101000000000000000000000000000000031400020501000204010002030100020201000200010508060402040006, de_it 0x5e5c5a58565452504c464442403e3c3a261e1c1a18161412100e0c0a080604020021000d, de_it 0x2010000, de_it 0x1200101011c0101011a010101190101010f0101010e0101010d010101180101010c0101010b010101170101011601010115010101140101011301010112010101110101010a0101010901010108010101070101010601010105010101040101010301010102010101010101010001010000000000000000000000000001000124000209010002080100020701000206010400010007]
set_option maxRecDepth 100000 in
theorem tR_579 : tf_go tV_579 tK_579.2.1.1 tK_579.2.1.2 none tH_579_0 [(tK_579.2.1, tK_579.2.2.2.1, 0, tc_args 0 tK_579.2.2.1, [], ([], 0), ([], 0))] = true := by decide +kernel
set_option maxRecDepth 100000 in
theorem tT_579 {RO : am_O} {sa : Nat → Nat} (h_577 : tc_true (aP sa) tp_G RO tp_T tp_Z tK_577) (h_578 : tc_true (aP sa) tp_G RO tp_T tp_Z tK_578) : tc_true (aP sa) tp_G RO tp_T tp_Z tK_579 := by
  have hC : ∀ c ∈ tC_579, tc_true (aP sa) tp_G RO tp_T tp_Z c := by
    intro c hc
    have hc : c ∈ ([tK_578, tK_577] : List tc_Ct) := hc
    rcases List.mem_cons.mp hc with rfl | hc
    · exact h_578
    rcases List.mem_cons.mp hc with rfl | hc
    · exact h_577
    cases hc
  have hP : ∀ p ∈ tJ_579, ∃ hs, tc_plk (aP sa, tV_579.2) p hs = true := by
    intro p hp
    have hp : p ∈ ([] : List tc_Pl) := hp
    cases hp
  exact tc_main (mt := aM_175.1) (hs := tH_579_0) (PL := tJ_579) ⟨tp_G_ok, tMs_579 _, hC, tp_L_ok, tp_G_re⟩ (show am_meth (aP sa) 175 = some aM_175.1 from rfl) aX_175 (by decide +kernel) hP ((tc_go_sa (aP_sa sa _)).trans ((tf_go_s tHC_579).trans tR_579))
noncomputable def tK_580 : tc_Ct := (178, (3, 3), [(2, ([], 0), 0), (0, ([(0, 1)], 0), 0)], ([([(0, -1)], 303), ([(0, 1)], -2), ([(1, -1)], 303), ([(1, 1)], -3), ([(2, -1)], 640), ([(2, 1)], -8), ([(0, -1), (1, 1)], 0), ([(0, -1), (2, 1)], 0), ([(0, 1), (1, -1)], 1), ([(1, -1), (2, 1)], 0)], [(0, 172), (1, 190), (2, 195)], [(2, ([(2, 1)], 0))], [(0, 3, (2, ([], 0), 1)), (1, 0, (2, ([], 0), 2)), (1, 1, (0, ([(1, 1)], 0), 0))], [], [], [(1096, [0], []), (1088, [], []), (1056, [], []), (1048, [0, 1], []), (968, [], []), (984, [], []), (1016, [], []), (1024, [], []), (1040, [], [])]), [(227, 0)], [((3, 3), ([([(0, -1)], 4), ([(0, 1)], -4), ([(1, -1)], 5), ([(1, 1)], -4), ([(2, -1)], 640), ([(2, 1)], -8)], [], [(2, ([(2, 1)], 0))], [], [], [], [(1096, [0], [])]), some (0, ([], 0), 0), ([], 0), ([], 0)), ((3, 3), ([([(0, -1)], 303), ([(0, 1)], -2), ([(1, -1)], 303), ([(1, 1)], -3), ([(2, -1)], 640), ([(2, 1)], -8), ([(0, -1), (1, 1)], 0), ([(0, -1), (2, 1)], 0), ([(0, 1), (1, -1)], 1), ([(1, -1), (2, 1)], 0)], [], [(2, ([(2, 1)], 0))], [], [], [], [(1096, [0], [])]), some (0, ([], 50), 0), ([], 0), ([], 0))])
noncomputable def tJ_580 : List tc_Pl := []
noncomputable def tC_580 : List tc_Ct := [tK_569]
def tM_580 (z : Nat) : Option am_Meth := if z = 11 then some aM_11.1 else none
set_option maxRecDepth 100000 in
theorem tMs_580 (sa : Nat → Nat) : ∀ z mz, tM_580 z = some mz → am_meth (aP sa) z = some mz := by
  intro z mz h
  unfold tM_580 at h
  rcases de_m h with ⟨rfl, rfl⟩ | h
  · exact (show am_meth (aP sa) 11 = some aM_11.1 from rfl)
  cases h
noncomputable def tV_580 : tc_Ev := (aQ, tp_T, tp_G.2, tp_Z, tM_580, tC_580, tp_L, tK_580.2.2.2.2.1, aM_178.1, aW_178, tK_580.2.1, tK_580.2.2.2.2.2, tJ_580)
theorem tE_580 : tK_580.2.2.2.2.2.all (tc_wex tK_580.2.1.1 tK_580.2.1.2) = true := by decide +kernel
theorem tSS_580 : tC_580.all (fun c => tw_mg tK_580.2.2.2.2.1 c.2.2.2.2.1) = true := by decide +kernel
theorem tHC_580 : ∀ c ∈ tC_580, c.2.2.2.2.1.all tK_580.2.2.2.2.1.contains = true ∧ c.2.2.2.2.2.all (tc_wex c.2.1.1 c.2.1.2) = true := tf_hc tSS_580 (by
  intro c hc
  have hc : c ∈ ([tK_569] : List tc_Ct) := hc
  rcases List.mem_cons.mp hc with rfl | hc
  · exact tE_569
  cases hc)
noncomputable def tH_580_0 : List tc_It := [de_it 0x4010000, de_it 0x300000001, de_it 0x2010000, de_it 0x2, de_it 0x4010000, de_it 0x2, de_it 0x2010000, de_it 0x80002000f, de_it 0x20802000f, de_it 0x8000203010002010102040802060000000000000002e0ff060009, de_it 0x1080105010b030101050101010a010602010105010101040101010a010602010108010b02010001000100000000000000000000000000000001110002020100020101060003040200030006, de_it 0x6010011, de_it 0x10000000000000000000000000000000009000204010e000206020000000000000300ff030009, de_it 0x114010101150101011901010001040000010e010003, de_it 0x800040802060000000000000002e4ff060009, de_it 0x2010000, de_it 0x2, de_it 0x2010000, de_it 0x119010100010200000002, de_it 0x1150101000000000300000001, de_it 0x2010000, de_it 0x2, de_it 0x4010000, de_it 0x800020301000201010204080206000000000000000302ff060009, de_it 0x80400000002060000000000000304ff020009, de_it 0x100010119010100010400000100010003, de_it 0x80006000000000000000306ff030009, de_it 0x80004080206000000000000000308ff060009, de_it 0x80006000000000000000202ff030009, de_it 0x2010000, de_it 0x105010101040101011601010108010b0201010a0101010b0101000000000000000000000000000100010e0000010007, de_it 0x2010000, de_it 0x2, de_it 0x4010000, de_it 0x10000000000000000000000000000000009020012000206000000000000000300ff030009, de_it 0x100010119010100010400000112010003, de_it 0x4010000, de_it 0x105010101040101011601010108010b0201010a0101010b0101000000000000000000000000000100010e0000010007, de_it 0x2010000, de_it 0x109010101080101010701010106010101050101010401010103010101020101010101010100010100000000000000000000000000010001120002010007]
set_option maxRecDepth 100000 in
theorem tR_580 : tf_go tV_580 tK_580.2.1.1 tK_580.2.1.2 none tH_580_0 [(tK_580.2.1, tK_580.2.2.2.1, 0, tc_args 0 tK_580.2.2.1, [], ([], 0), ([], 0))] = true := by decide +kernel
set_option maxRecDepth 100000 in
theorem tT_580 {RO : am_O} {sa : Nat → Nat} (h_569 : tc_true (aP sa) tp_G RO tp_T tp_Z tK_569) : tc_true (aP sa) tp_G RO tp_T tp_Z tK_580 := by
  have hC : ∀ c ∈ tC_580, tc_true (aP sa) tp_G RO tp_T tp_Z c := by
    intro c hc
    have hc : c ∈ ([tK_569] : List tc_Ct) := hc
    rcases List.mem_cons.mp hc with rfl | hc
    · exact h_569
    cases hc
  have hP : ∀ p ∈ tJ_580, ∃ hs, tc_plk (aP sa, tV_580.2) p hs = true := by
    intro p hp
    have hp : p ∈ ([] : List tc_Pl) := hp
    cases hp
  exact tc_main (mt := aM_178.1) (hs := tH_580_0) (PL := tJ_580) ⟨tp_G_ok, tMs_580 _, hC, tp_L_ok, tp_G_re⟩ (show am_meth (aP sa) 178 = some aM_178.1 from rfl) aX_178 (by decide +kernel) hP ((tc_go_sa (aP_sa sa _)).trans ((tf_go_s tHC_580).trans tR_580))
