/-! contracts -/
noncomputable def tK_34 : tc_Ct := (32, (3, 2), [(2, ([], 0), 0), (0, ([(0, 1)], 0), 0), (1, ([], 0), 0), (1, ([], 0), 0), (0, ([(1, 1)], 0), 0)], ([([(0, -1)], 2147483647), ([(0, 1)], 2147483648), ([(1, -1)], 2147483647), ([(1, 1)], 2147483648), ([(2, -1)], 8000000), ([(2, 1)], 0)], [(0, 165), (1, 166)], [], [(0, 0, (2, ([], 0), 1))], [], [], [(1016, [], []), (1024, [], []), (1088, [], []), (1096, [], []), (1136, [], [([(2, 1)], 0)]), (568, [1], [])]), [(167, 0), (167, 1), (167, 2), (167, 3), (167, 4), (167, 5), (177, 1), (178, 0), (178, 1), (193, 0), (193, 1000)], [((7, 2), ([([(0, -1)], 2147483647), ([(0, 1)], 2147483648), ([(1, -1)], 2147483647), ([(1, 1)], 2147483648), ([(2, -1)], 8000000), ([(2, 1)], 0), ([(3, -1)], 808), ([(3, 1)], 1), ([(4, 1)], 0), ([(5, 1)], 0), ([(6, -1)], 8000000), ([(4, -16), (5, 1)], 0), ([(2, 1), (5, -1), (6, -1)], 0)], [], [], [], [], [], [(1136, [], [([(6, 1)], 0)])]), some (0, ([(3, 1)], 0), 0), ([(4, 1)], 0), ([(5, 1)], 0))])
noncomputable def tJ_34 : List tc_Pl := []
noncomputable def tC_34 : List tc_Ct := [tK_28, tK_29, tK_24, tK_30, tK_27, tK_26, tK_31, tK_33, tK_16]
def tM_34 (z : Nat) : Option am_Meth := if z = 37 then some aM_37.1 else if z = 36 then some aM_36.1 else if z = 35 then some aM_35.1 else if z = 34 then some aM_34.1 else if z = 33 then some aM_33.1 else if z = 29 then some aM_29.1 else if z = 23 then some aM_23.1 else if z = 13 then some aM_13.1 else none
set_option maxRecDepth 100000 in
theorem tMs_34 (sa : Nat → Nat) : ∀ z mz, tM_34 z = some mz → am_meth (aP sa) z = some mz := by
  intro z mz h
  unfold tM_34 at h
  rcases de_m h with ⟨rfl, rfl⟩ | h
  · exact (show am_meth (aP sa) 37 = some aM_37.1 from rfl)
  rcases de_m h with ⟨rfl, rfl⟩ | h
  · exact (show am_meth (aP sa) 36 = some aM_36.1 from rfl)
  rcases de_m h with ⟨rfl, rfl⟩ | h
  · exact (show am_meth (aP sa) 35 = some aM_35.1 from rfl)
  rcases de_m h with ⟨rfl, rfl⟩ | h
  · exact (show am_meth (aP sa) 34 = some aM_34.1 from rfl)
  rcases de_m h with ⟨rfl, rfl⟩ | h
  · exact (show am_meth (aP sa) 33 = some aM_33.1 from rfl)
  rcases de_m h with ⟨rfl, rfl⟩ | h
  · exact (show am_meth (aP sa) 29 = some aM_29.1 from rfl)
  rcases de_m h with ⟨rfl, rfl⟩ | h
  · exact (show am_meth (aP sa) 23 = some aM_23.1 from rfl)
  rcases de_m h with ⟨rfl, rfl⟩ | h
  · exact (show am_meth (aP sa) 13 = some aM_13.1 from rfl)
  cases h
noncomputable def tV_34 : tc_Ev := (aQ, tp_T, tp_G.2, tp_Z, tM_34, tC_34, tp_L, tK_34.2.2.2.2.1, aM_32.1, aW_32, tK_34.2.1, tK_34.2.2.2.2.2, tJ_34)
theorem tE_34 : tK_34.2.2.2.2.2.all (tc_wex tK_34.2.1.1 tK_34.2.1.2) = true := by decide +kernel
theorem tSS_34 : tC_34.all (fun c => tw_mg tK_34.2.2.2.2.1 c.2.2.2.2.1) = true := by decide +kernel
theorem tHC_34 : ∀ c ∈ tC_34, c.2.2.2.2.1.all tK_34.2.2.2.2.1.contains = true ∧ c.2.2.2.2.2.all (tc_wex c.2.1.1 c.2.1.2) = true := tf_hc tSS_34 (by
  intro c hc
  have hc : c ∈ ([tK_28, tK_29, tK_24, tK_30, tK_27, tK_26, tK_31, tK_33, tK_16] : List tc_Ct) := hc
  rcases List.mem_cons.mp hc with rfl | hc
  · exact tE_28
  rcases List.mem_cons.mp hc with rfl | hc
  · exact tE_29
  rcases List.mem_cons.mp hc with rfl | hc
  · exact tE_24
  rcases List.mem_cons.mp hc with rfl | hc
  · exact tE_30
  rcases List.mem_cons.mp hc with rfl | hc
  · exact tE_27
  rcases List.mem_cons.mp hc with rfl | hc
  · exact tE_26
  rcases List.mem_cons.mp hc with rfl | hc
  · exact tE_31
  rcases List.mem_cons.mp hc with rfl | hc
  · exact tE_33
  rcases List.mem_cons.mp hc with rfl | hc
  · exact tE_16
  cases hc)
noncomputable def tH_34_0 : List tc_It := [de_it 0x4010000, de_it 0x300000001, de_it 0x2010000, de_it 0x100010104010100010001000100010105010101040101010301010102010101010101010601010000000000000000000000000001000115000202010000000001000400010007, de_it 0x4010000, de_it 0x300000001, de_it 0x2010000, de_it 0x100010104010100010001000100010105010101040101010301010102010101070101010001010000000000000000000000000001000115000202010000000001000400010007, de_it 0x2010000, de_it 0x300000001, de_it 0x2010000, de_it 0x100010104010100010001000100010105010101040101010301010108010101060101010701010000000000000000000000000001000115000202010000000001000400010007, de_it 0x4010000, de_it 0x2, de_it 0x2, de_it 0x300000001, de_it 0x2010000, de_it 0x106010101070101000000000000000000000000000000000a000200010100010006, de_it 0x4010000, de_it 0x2, de_it 0x2, de_it 0x6010000, de_it 0x2, de_it 0x2, de_it 0x8010011, de_it 0x4010010, de_it 0x4010000, de_it 0x2, de_it 0x2, de_it 0x113010a01080301011301090201011201010113010a0201011301080201010b01120201010b0113010a0301010b0101011401010113010101090101010a010101080101010b010a0201000000000000000000000000000000051600020501000203010002010103080602030006, de_it 0x2010000, de_it 0x2, de_it 0x2, de_it 0x4010000, de_it 0x2, de_it 0x2, de_it 0x8010000, de_it 0x10001010f0101010e0101000000000000000000000000000000040ce80000020401020604020006, de_it 0x5c5a58565452504e44423e3c3a382a2826241e1c161412100e0c0a081c000d, de_it 0x2010000, de_it 0x2, de_it 0x4010000, de_it 0x2, de_it 0x2, de_it 0x10a01010001010a01010001010f01010107010101070101010c0101010b01010105010101060101010501010106010101040101010d01010109010101080101000000000000000000000000000000051900020501000203010002030100020101000204010508040606040006, de_it 0x5a58565452504e4c262422201e1c1a18161412100e0c0a08060402001c000d, de_it 0x4010000, de_it 0x2, de_it 0xa02000f, de_it 0xc010011, de_it 0xa010010, de_it 0x20a02000f, de_it 0xa010010, de_it 0x1220101011f0101011e01010120010101210101000000000000000000000000000000000d00020e0100020f01020c0a08030006, de_it 0x4442403e3c363432302e2c2a28262422201e1c1a18161412100e0c0a080604020021000d, de_it 0x2010000, de_it 0x2, de_it 0x2010000, de_it 0x2, de_it 0x2, de_it 0x4010000, de_it 0x2, de_it 0x2, de_it 0x10a0101010f0101010b010d0201010701010101010101000101011d0101011c0101010c0101010b0101010501010106010101040101010d010100000000000000000000000000000003160002020100020e01000205010002030100020101050c080a0a040006, de_it 0x78767472706c6462605e5c5a5856403e3c3a38363432302e2c2a28262422201e1c1a18161412100e0c0a08060402002f000d, de_it 0x2010000, de_it 0x2, de_it 0x4010000, de_it 0x102010101030101000000000000000000000000000000000a00020001010c010006, de_it 0xa02000f, de_it 0xe010011, de_it 0xa010010, de_it 0x128010101270101013701010136010101220101012a012d012903010132010101310101000000000000000000000000000000021000021301000215010002100100021401040e0a0e030006, de_it 0x8e8c8a88868482806e6c6a64625c5a58565452504e4c4a48464442403e3c3a38363432302e2c2a28262422201e1c1a18161412100e0c0a08060402003c000d, de_it 0x2010000, de_it 0x2, de_it 0x10a0101010c0101010b01010105010101060101000000000000000000000000000000000d000205010002030102080410030006, de_it 0x2010000, de_it 0x2, de_it 0x2, de_it 0x13b012e02010139012b02010138010101370126020101360124020101350101012f012d012a013a01290501010101010100010101040101010d01010102010101030101000000000000000000000000000100011500021901000218021202000217021102000216010400010007, de_it 0x2010000, de_it 0x1000101040101000100010001000101050101010401010109010b02010102010101060101010701010000000000000000000000000001000115000202010000000001000400010007]
set_option maxRecDepth 100000 in
theorem tR_34 : tf_go tV_34 tK_34.2.1.1 tK_34.2.1.2 none tH_34_0 [(tK_34.2.1, tK_34.2.2.2.1, 0, tc_args 0 tK_34.2.2.1, [], ([], 0), ([], 0))] = true := by decide +kernel
set_option maxRecDepth 100000 in
theorem tT_34 {RO : am_O} {sa : Nat → Nat} (h_16 : tc_true (aP sa) tp_G RO tp_T tp_Z tK_16) (h_24 : tc_true (aP sa) tp_G RO tp_T tp_Z tK_24) (h_26 : tc_true (aP sa) tp_G RO tp_T tp_Z tK_26) (h_27 : tc_true (aP sa) tp_G RO tp_T tp_Z tK_27) (h_28 : tc_true (aP sa) tp_G RO tp_T tp_Z tK_28) (h_29 : tc_true (aP sa) tp_G RO tp_T tp_Z tK_29) (h_30 : tc_true (aP sa) tp_G RO tp_T tp_Z tK_30) (h_31 : tc_true (aP sa) tp_G RO tp_T tp_Z tK_31) (h_33 : tc_true (aP sa) tp_G RO tp_T tp_Z tK_33) : tc_true (aP sa) tp_G RO tp_T tp_Z tK_34 := by
  have hC : ∀ c ∈ tC_34, tc_true (aP sa) tp_G RO tp_T tp_Z c := by
    intro c hc
    have hc : c ∈ ([tK_28, tK_29, tK_24, tK_30, tK_27, tK_26, tK_31, tK_33, tK_16] : List tc_Ct) := hc
    rcases List.mem_cons.mp hc with rfl | hc
    · exact h_28
    rcases List.mem_cons.mp hc with rfl | hc
    · exact h_29
    rcases List.mem_cons.mp hc with rfl | hc
    · exact h_24
    rcases List.mem_cons.mp hc with rfl | hc
    · exact h_30
    rcases List.mem_cons.mp hc with rfl | hc
    · exact h_27
    rcases List.mem_cons.mp hc with rfl | hc
    · exact h_26
    rcases List.mem_cons.mp hc with rfl | hc
    · exact h_31
    rcases List.mem_cons.mp hc with rfl | hc
    · exact h_33
    rcases List.mem_cons.mp hc with rfl | hc
    · exact h_16
    cases hc
  have hP : ∀ p ∈ tJ_34, ∃ hs, tc_plk (aP sa, tV_34.2) p hs = true := by
    intro p hp
    have hp : p ∈ ([] : List tc_Pl) := hp
    cases hp
  exact tc_main (mt := aM_32.1) (hs := tH_34_0) (PL := tJ_34) ⟨tp_G_ok, tMs_34 _, hC, tp_L_ok, tp_G_re⟩ (show am_meth (aP sa) 32 = some aM_32.1 from rfl) aX_32 (by decide +kernel) hP ((tc_go_sa (aP_sa sa _)).trans ((tf_go_s tHC_34).trans tR_34))
noncomputable def tK_35 : tc_Ct := (11, (3, 2), [(2, ([], 0), 0), (0, ([(0, 1)], 0), 0)], ([([(0, -1)], 799), ([(0, 1)], 0), ([(1, -1)], 800), ([(1, 1)], 0), ([(2, -1)], 1600), ([(2, 1)], -64), ([(0, -1), (1, 1)], 62), ([(0, -1), (2, 1)], -1), ([(1, -1), (2, 1)], 0)], [(0, 177), (1, 193)], [(1, ([(2, 1)], 0))], [(0, 0, (2, ([], 0), 1)), (0, 1, (0, ([(1, 1)], 0), 0))], [], [], [(1016, [], []), (1088, [], [])]), [], [((4, 2), ([([(0, -1)], 799), ([(0, 1)], 0), ([(1, -1)], 800), ([(1, 1)], 0), ([(2, -1)], 1600), ([(2, 1)], -64), ([(3, -1)], 255), ([(3, 1)], 0), ([(0, -1), (1, 1)], 62), ([(0, -1), (2, 1)], -1), ([(1, -1), (2, 1)], 0), ([(1, 1), (3, -1)], 254), ([(0, -1), (1, 1), (3, -1)], 254)], [], [(1, ([(2, 1)], 0))], [], [], [], []), some (0, ([(3, 1)], 0), 0), ([], 0), ([], 0))])
noncomputable def tJ_35 : List tc_Pl := []
noncomputable def tC_35 : List tc_Ct := []
def tM_35 (z : Nat) : Option am_Meth := none
set_option maxRecDepth 100000 in
theorem tMs_35 (sa : Nat → Nat) : ∀ z mz, tM_35 z = some mz → am_meth (aP sa) z = some mz := fun z mz h => by cases h
noncomputable def tV_35 : tc_Ev := (aQ, tp_T, tp_G.2, tp_Z, tM_35, tC_35, tp_L, tK_35.2.2.2.2.1, aM_11.1, aW_11, tK_35.2.1, tK_35.2.2.2.2.2, tJ_35)
theorem tE_35 : tK_35.2.2.2.2.2.all (tc_wex tK_35.2.1.1 tK_35.2.1.2) = true := by decide +kernel
theorem tSS_35 : tC_35.all (fun c => tw_mg tK_35.2.2.2.2.1 c.2.2.2.2.1) = true := by decide +kernel
theorem tHC_35 : ∀ c ∈ tC_35, c.2.2.2.2.1.all tK_35.2.2.2.2.1.contains = true ∧ c.2.2.2.2.2.all (tc_wex c.2.1.1 c.2.1.2) = true := tf_hc tSS_35 (by
  intro c hc
  have hc : c ∈ ([] : List tc_Ct) := hc
  cases hc)
noncomputable def tH_35_0 : List tc_It := [de_it 0x2010000, de_it 0x109010102010300000001, de_it 0x4010000, de_it 0x2, de_it 0x300000001, de_it 0x2010000, de_it 0x106010101030101010a01070201010701010106010100010001010501010104010101030101010a010002010101010101000101000000000000000000000000000100011500000100010007, de_it 0x2010000, de_it 0x2, de_it 0x2010000, de_it 0x10701010101010102000200010100010002, de_it 0x2010000, de_it 0x10e010a02010101010e010a03010108010101070101010a0101010d0101010e010101050101010401010101010a02010102010101010101010001010000000000000000000000000001000115000203010100010007]
set_option maxRecDepth 100000 in
theorem tR_35 : tf_go tV_35 tK_35.2.1.1 tK_35.2.1.2 none tH_35_0 [(tK_35.2.1, tK_35.2.2.2.1, 0, tc_args 0 tK_35.2.2.1, [], ([], 0), ([], 0))] = true := by decide +kernel
set_option maxRecDepth 100000 in
theorem tT_35 {RO : am_O} {sa : Nat → Nat} : tc_true (aP sa) tp_G RO tp_T tp_Z tK_35 := by
  have hC : ∀ c ∈ tC_35, tc_true (aP sa) tp_G RO tp_T tp_Z c := by
    intro c hc
    have hc : c ∈ ([] : List tc_Ct) := hc
    cases hc
  have hP : ∀ p ∈ tJ_35, ∃ hs, tc_plk (aP sa, tV_35.2) p hs = true := by
    intro p hp
    have hp : p ∈ ([] : List tc_Pl) := hp
    cases hp
  exact tc_main (mt := aM_11.1) (hs := tH_35_0) (PL := tJ_35) ⟨tp_G_ok, tMs_35 _, hC, tp_L_ok, tp_G_re⟩ (show am_meth (aP sa) 11 = some aM_11.1 from rfl) aX_11 (by decide +kernel) hP ((tc_go_sa (aP_sa sa _)).trans ((tf_go_s tHC_35).trans tR_35))
noncomputable def tK_36 : tc_Ct := (39, (4, 3), [(2, ([], 0), 0), (0, ([(0, 1)], 0), 0), (1, ([], 0), 0), (1, ([], 0), 0), (2, ([], 0), 1), (0, ([(1, 1)], 0), 0)], ([([(0, -1)], 3), ([(0, 1)], -1), ([(1, -1)], 800), ([(1, 1)], 0), ([(2, -1)], 800), ([(2, 1)], 0), ([(3, -1)], 1600), ([(3, 1)], -64), ([(1, -1), (2, 1)], 0), ([(1, -1), (3, 1)], 0), ([(2, -1), (3, 1)], 0)], [(0, 167), (1, 177), (2, 193)], [(2, ([(3, 1)], 0))], [(1, 0, (2, ([], 0), 2)), (1, 1, (0, ([(2, 1)], 0), 0))], [], [], [(1016, [], []), (1088, [], [])]), [(167, 0), (167, 1), (167, 2), (167, 3), (167, 4), (167, 5), (177, 1), (193, 0)], [((4, 3), ([([(0, -1)], 3), ([(0, 1)], -1), ([(1, -1)], 800), ([(1, 1)], 0), ([(2, -1)], 800), ([(2, 1)], 0), ([(3, -1)], 1600), ([(3, 1)], -64), ([(1, -1), (2, 1)], 0), ([(1, -1), (3, 1)], 0), ([(2, -1), (3, 1)], 0)], [], [(2, ([(3, 1)], 0))], [(1, 1, (0, ([(2, 1)], 0), 0))], [], [], []), some (0, ([], 0), 0), ([], 0), ([], 0)), ((5, 3), ([([(0, -1)], 3), ([(0, 1)], -1), ([(1, -1)], 796), ([(1, 1)], 0), ([(2, -1)], 800), ([(2, 1)], -4), ([(3, -1)], 1600), ([(3, 1)], -64), ([(4, -1)], 796), ([(4, 1)], 0), ([(1, -1), (2, 1)], -4), ([(1, -1), (3, 1)], -4), ([(1, -1), (4, 1)], 0), ([(2, -1), (3, 1)], 0), ([(2, -1), (4, 1)], 8), ([(2, 1), (4, -1)], -4)], [], [(2, ([(3, 1)], 0))], [(0, 5, (0, ([], 0), 0)), (1, 1, (0, ([(4, 1)], 0), 0))], [], [], []), some (0, ([], 1), 0), ([], 0), ([], 0))])
noncomputable def tL_36_0 : tc_Pl := de_pl 0x30cc0ff000001050204020000000000030cc0ff000300000000000000020501000d000000010b00000104020202000900000204010008000002010100070100000206000000010400000001020000000200094000000000000000000440ff000000000000000003f8ff0200000000020201000101020000020001000000000500000002090100030000000208010002000000020701000100000002060100000007000203010201c102b101a7000300010402020101030001050204020001050202020001040202020002030102020000000000000640ff01050101020000000000000640ff01040101020702030101020702020101020000000100000000ff02090100000000fffffffeff0109010000000100000000ff02080100000000fffffffeff0108010000000100000000ff02070100000000fffffffeff0107010000000100000000ff02060100000000fffffffeff010601000205011001050107020401100104017f0203010000000000000c80ff010301070202010000000000000640ff010201000201010000000000000638ff01010101020001060100010002030102020002030101020002020101027f0203010000000000000c80ff010301000202010000000000000640ff010201000201010000000000000640ff010101010200010601000128030a
noncomputable def tJ_36 : List tc_Pl := [tL_36_0]
noncomputable def tC_36 : List tc_Ct := [tK_31, tK_28, tK_24, tK_30, tK_29, tK_35]
def tM_36 (z : Nat) : Option am_Meth := if z = 36 then some aM_36.1 else if z = 35 then some aM_35.1 else if z = 34 then some aM_34.1 else if z = 33 then some aM_33.1 else if z = 29 then some aM_29.1 else if z = 11 then some aM_11.1 else none
set_option maxRecDepth 100000 in
theorem tMs_36 (sa : Nat → Nat) : ∀ z mz, tM_36 z = some mz → am_meth (aP sa) z = some mz := by
  intro z mz h
  unfold tM_36 at h
  rcases de_m h with ⟨rfl, rfl⟩ | h
  · exact (show am_meth (aP sa) 36 = some aM_36.1 from rfl)
  rcases de_m h with ⟨rfl, rfl⟩ | h
  · exact (show am_meth (aP sa) 35 = some aM_35.1 from rfl)
  rcases de_m h with ⟨rfl, rfl⟩ | h
  · exact (show am_meth (aP sa) 34 = some aM_34.1 from rfl)
  rcases de_m h with ⟨rfl, rfl⟩ | h
  · exact (show am_meth (aP sa) 33 = some aM_33.1 from rfl)
  rcases de_m h with ⟨rfl, rfl⟩ | h
  · exact (show am_meth (aP sa) 29 = some aM_29.1 from rfl)
  rcases de_m h with ⟨rfl, rfl⟩ | h
  · exact (show am_meth (aP sa) 11 = some aM_11.1 from rfl)
  cases h
noncomputable def tV_36 : tc_Ev := (aQ, tp_T, tp_G.2, tp_Z, tM_36, tC_36, tp_L, tK_36.2.2.2.2.1, aM_39.1, aW_39, tK_36.2.1, tK_36.2.2.2.2.2, tJ_36)
theorem tE_36 : tK_36.2.2.2.2.2.all (tc_wex tK_36.2.1.1 tK_36.2.1.2) = true := by decide +kernel
theorem tSS_36 : tC_36.all (fun c => tw_mg tK_36.2.2.2.2.1 c.2.2.2.2.1) = true := by decide +kernel
theorem tHC_36 : ∀ c ∈ tC_36, c.2.2.2.2.1.all tK_36.2.2.2.2.1.contains = true ∧ c.2.2.2.2.2.all (tc_wex c.2.1.1 c.2.1.2) = true := tf_hc tSS_36 (by
  intro c hc
  have hc : c ∈ ([tK_31, tK_28, tK_24, tK_30, tK_29, tK_35] : List tc_Ct) := hc
  rcases List.mem_cons.mp hc with rfl | hc
  · exact tE_31
  rcases List.mem_cons.mp hc with rfl | hc
  · exact tE_28
  rcases List.mem_cons.mp hc with rfl | hc
  · exact tE_24
  rcases List.mem_cons.mp hc with rfl | hc
  · exact tE_30
  rcases List.mem_cons.mp hc with rfl | hc
  · exact tE_29
  rcases List.mem_cons.mp hc with rfl | hc
  · exact tE_35
  cases hc)
noncomputable def tH_36_0 : List tc_It := [de_it 0x2010000, de_it 0x101010101000101000000000000000000000000000000000a000200010100010006, de_it 0x4010000, de_it 0x2, de_it 0x2010000, de_it 0x10e01040201010d010502010200000001, de_it 0x4010000, de_it 0x10f010302010300000001, de_it 0x4010000, de_it 0x300000001, de_it 0x2010000, de_it 0x101010101000101000000000000000000000000000000000a000200010102010006, de_it 0x10010000, de_it 0x100010114010101130101000000000000000000000000000000040ce80000020501020004020006, de_it 0x6010000, de_it 0x10a0101010d0101010e010a0201010e0101010e0110010a0301010e01100201011001010107010101060101010e01030110030101040101010301100201010e0104020101030101010e01100104030101140101011301010000000000000000000000000000000519000203010002020100010402020200020101000205010504020006040006, de_it 0x6e6462605e5c5a58564c4a2826201c1a1412100e0c0a08060402001b000d, de_it 0x6010000, de_it 0x10d0101010c0101010c0103010d030101110101010a01010104010c010d0301010d01040201010a010c010d0301010c010d0201011901010118010101170101011601010115010101140101011301010112010100010001010c0101010b01010107010101060101010c0103010d030101040101010301010104010c010d03010101010101000101010a0101010a010c010d0301010c010d02010107010101060101010c0103010d030101040101010301010104010c010d03010101010101000101000000000000000000000000000100013000020d0100020c0100020b0100020a010000000204010600010008, de_it 0x2010000, de_it 0x10a01010109010101080101010701010106010101050101010401010103010101020101010101010100010100000000000000000001000100010001130000010007]
set_option maxRecDepth 100000 in
theorem tR_36 : tf_go tV_36 tK_36.2.1.1 tK_36.2.1.2 none tH_36_0 [(tK_36.2.1, tK_36.2.2.2.1, 0, tc_args 0 tK_36.2.2.1, [], ([], 0), ([], 0))] = true := by decide +kernel
noncomputable def tH_36_1 : List tc_It := [de_it 0x4010000, de_it 0x300000001, de_it 0x4010000, de_it 0x1070101010601010114010a020101140104020101240101000000000700000003, de_it 0x8010000, de_it 0x2, de_it 0x4010000, de_it 0x11401060104010304010106012402010114010a02010114010601040301010601030201012001010106010d02010127010101070101010601010124010101140104020101030101010d01010000000000000000000000000000000516000203010001040202020002010103040008030006, de_it 0x6c6a6866646056504e4c4a484442403e2c2a2826201a140e0c080602001d000d, de_it 0x2010000, de_it 0x10a0101010901010106010101140101010e0101010d0101011101010103010a0201010501010104010101080101010301010102010101070101010101010100010100000000000000000001000100010001180001040202020102010007, de_it 0x6010000, de_it 0x128010402010116012402010200000001, de_it 0x10a01010128010a020101280101010701010106010101100101010401010116012402010128010402010000000000000000000000000000000111000203010002020100020501040202030304020a030006, de_it 0x6a6864605e5452504e4a484442403e3c3a38363432302e2c2a2826201a140e0c0806020024000d, de_it 0x8010000, de_it 0x809081c0201080c01010200000001, de_it 0x80c01010809081c02010200000001, de_it 0x2010000, de_it 0x101, de_it 0x4010000, de_it 0x300000001, de_it 0x109011c0201010c01010200000001, de_it 0x2010000, de_it 0x11b0101011c0101011c011902010119010101060101011d011b02010117010101160101011501010114010101130101011201010111010101100101010f0101010e0101010d0101010c01010109011c0201010a0101010901010105010101040101010801010103010101020101010701010101010101000101010601010116010101150101010501010104010101080101010301010102010101070101010101010100010100000000011c010100010000000100010001300002090100020801000207010002060102020501000204010600010008, de_it 0x2010000, de_it 0x10601010116010101150101010501010104010101080101010301010102010101070101010101010100010100000000000000000001000100010001130000010007]
set_option maxRecDepth 100000 in
theorem tP_36_0 : tf_plk tV_36 tL_36_0 tH_36_1 = true := by decide +kernel
set_option maxRecDepth 100000 in
theorem tT_36 {RO : am_O} {sa : Nat → Nat} (h_24 : tc_true (aP sa) tp_G RO tp_T tp_Z tK_24) (h_28 : tc_true (aP sa) tp_G RO tp_T tp_Z tK_28) (h_29 : tc_true (aP sa) tp_G RO tp_T tp_Z tK_29) (h_30 : tc_true (aP sa) tp_G RO tp_T tp_Z tK_30) (h_31 : tc_true (aP sa) tp_G RO tp_T tp_Z tK_31) (h_35 : tc_true (aP sa) tp_G RO tp_T tp_Z tK_35) : tc_true (aP sa) tp_G RO tp_T tp_Z tK_36 := by
  have hC : ∀ c ∈ tC_36, tc_true (aP sa) tp_G RO tp_T tp_Z c := by
    intro c hc
    have hc : c ∈ ([tK_31, tK_28, tK_24, tK_30, tK_29, tK_35] : List tc_Ct) := hc
    rcases List.mem_cons.mp hc with rfl | hc
    · exact h_31
    rcases List.mem_cons.mp hc with rfl | hc
    · exact h_28
    rcases List.mem_cons.mp hc with rfl | hc
    · exact h_24
    rcases List.mem_cons.mp hc with rfl | hc
    · exact h_30
    rcases List.mem_cons.mp hc with rfl | hc
    · exact h_29
    rcases List.mem_cons.mp hc with rfl | hc
    · exact h_35
    cases hc
  have hP : ∀ p ∈ tJ_36, ∃ hs, tc_plk (aP sa, tV_36.2) p hs = true := by
    intro p hp
    have hp : p ∈ ([tL_36_0] : List tc_Pl) := hp
    rcases List.mem_cons.mp hp with rfl | hp
    · exact ⟨_, (tc_plk_sa (aP_sa sa _)).trans ((tf_plk_s tHC_36).trans tP_36_0)⟩
    cases hp
  exact tc_main (mt := aM_39.1) (hs := tH_36_0) (PL := tJ_36) ⟨tp_G_ok, tMs_36 _, hC, tp_L_ok, tp_G_re⟩ (show am_meth (aP sa) 39 = some aM_39.1 from rfl) aX_39 (by decide +kernel) hP ((tc_go_sa (aP_sa sa _)).trans ((tf_go_s tHC_36).trans tR_36))
noncomputable def tK_37 : tc_Ct := (38, (3, 2), [(2, ([], 0), 0), (0, ([(0, 1)], 0), 0), (1, ([], 0), 0), (1, ([], 0), 0), (0, ([(1, 1)], 0), 0)], ([([(0, -1)], 2147483647), ([(0, 1)], 2147483648), ([(1, -1)], 2147483647), ([(1, 1)], 2147483648), ([(2, -1)], 8000000), ([(2, 1)], 0)], [(0, 165), (1, 166)], [], [(0, 0, (2, ([], 0), 1))], [], [], [(1016, [], []), (1024, [], []), (1088, [], []), (1096, [], []), (1136, [], [([(2, 1)], 0)]), (568, [1], [])]), [(167, 0), (167, 1), (167, 2), (167, 3), (167, 4), (167, 5), (177, 1), (178, 0), (178, 1), (193, 0), (193, 1000)], [((7, 2), ([([(0, -1)], 2147483647), ([(0, 1)], 2147483648), ([(1, -1)], 2147483647), ([(1, 1)], 2147483648), ([(2, -1)], 8000000), ([(2, 1)], 0), ([(3, -1)], 1), ([(3, 1)], 1), ([(4, -1)], 1), ([(4, 1)], 0), ([(5, -1)], 1598), ([(5, 1)], 0), ([(6, -1)], 8000000), ([(6, 1)], 1598), ([(4, -16), (5, 1)], 0), ([(2, 1), (5, -1), (6, -1)], 0)], [], [], [], [], [], [(1136, [], [([(6, 1)], 0)])]), some (0, ([(3, 1)], 0), 0), ([(4, 1)], 0), ([(5, 1)], 0))])
noncomputable def tJ_37 : List tc_Pl := []
noncomputable def tC_37 : List tc_Ct := [tK_36, tK_16, tK_27, tK_26]
def tM_37 (z : Nat) : Option am_Meth := if z = 39 then some aM_39.1 else if z = 23 then some aM_23.1 else if z = 13 then some aM_13.1 else none
set_option maxRecDepth 100000 in
theorem tMs_37 (sa : Nat → Nat) : ∀ z mz, tM_37 z = some mz → am_meth (aP sa) z = some mz := by
  intro z mz h
  unfold tM_37 at h
  rcases de_m h with ⟨rfl, rfl⟩ | h
  · exact (show am_meth (aP sa) 39 = some aM_39.1 from rfl)
  rcases de_m h with ⟨rfl, rfl⟩ | h
  · exact (show am_meth (aP sa) 23 = some aM_23.1 from rfl)
  rcases de_m h with ⟨rfl, rfl⟩ | h
  · exact (show am_meth (aP sa) 13 = some aM_13.1 from rfl)
  cases h
noncomputable def tV_37 : tc_Ev := (aQ, tp_T, tp_G.2, tp_Z, tM_37, tC_37, tp_L, tK_37.2.2.2.2.1, aM_38.1, aW_38, tK_37.2.1, tK_37.2.2.2.2.2, tJ_37)
theorem tE_37 : tK_37.2.2.2.2.2.all (tc_wex tK_37.2.1.1 tK_37.2.1.2) = true := by decide +kernel
theorem tSS_37 : tC_37.all (fun c => tw_mg tK_37.2.2.2.2.1 c.2.2.2.2.1) = true := by decide +kernel
theorem tHC_37 : ∀ c ∈ tC_37, c.2.2.2.2.1.all tK_37.2.2.2.2.1.contains = true ∧ c.2.2.2.2.2.all (tc_wex c.2.1.1 c.2.1.2) = true := tf_hc tSS_37 (by
  intro c hc
  have hc : c ∈ ([tK_36, tK_16, tK_27, tK_26] : List tc_Ct) := hc
  rcases List.mem_cons.mp hc with rfl | hc
  · exact tE_36
  rcases List.mem_cons.mp hc with rfl | hc
  · exact tE_16
  rcases List.mem_cons.mp hc with rfl | hc
  · exact tE_27
  rcases List.mem_cons.mp hc with rfl | hc
  · exact tE_26
  cases hc)
noncomputable def tH_37_0 : List tc_It := [de_it 0x4010000, de_it 0x300000001, de_it 0x2010000, de_it 0x1000101050101010401010001000100010001000100010105010101040101010301010102010101010101010601010000000000000000000000000001000118000202010000000001000400010007, de_it 0x4010000, de_it 0x300000001, de_it 0x2010000, de_it 0x1000101050101010401010001000100010001000100010105010101040101010301010102010101070101010001010000000000000000000000000001000118000202010000000001000400010007, de_it 0x2010000, de_it 0x300000001, de_it 0x2010000, de_it 0x1000101050101010401010001000100010001000100010105010101040101010301010108010101060101010701010000000000000000000000000001000118000202010000000001000400010007, de_it 0x4010000, de_it 0x2, de_it 0x2, de_it 0x300000001, de_it 0x2010000, de_it 0x2, de_it 0x2, de_it 0x8010000, de_it 0x2, de_it 0x2010000, de_it 0x402000f, de_it 0x8010011, de_it 0x4010010, de_it 0x10e0101010b010e0201010b010101100101010f010101090101010a010101080101010b010a020101060101010701010000000000000000000000000000000513000204010002030100020101000200010408040600040006, de_it 0x4010000, de_it 0x1011c010100000300000001, de_it 0x2010000, de_it 0x2, de_it 0x10e010101100101010f010101090101010a0101000000000000000000000000000000000d000204010002030102080402030006, de_it 0x2010000, de_it 0x10123010100000300000001, de_it 0x2010000, de_it 0x1000101050101010401010001000100010001000100010105010101040101010801010113010101060101010701010000000000000000000000000001000118000202010000000000000400010007, de_it 0x4010000, de_it 0x10000012201010300000001, de_it 0x2010000, de_it 0x2, de_it 0xa02000f, de_it 0xc010011, de_it 0xa010010, de_it 0x20a02000f, de_it 0xa010010, de_it 0x128010101250101012401010126010101270101000000000000000000000000000000000d0002060100020701020c0a04030006, de_it 0x504e4c4a48403e3a383634322c26201e1c14100e0c0a0817000d, de_it 0x2010000, de_it 0x2, de_it 0x2010000, de_it 0x2, de_it 0x2, de_it 0x4010000, de_it 0x2, de_it 0x2, de_it 0x11101060201010e0101010701090201010f0101010101010100010101130101011201010108010101070101010c0101010b0101010401010109010100000000000000000000000000000003160002020100020601000204010002050100020101050c080a06040006, de_it 0x6462605e5c5a5854504e4c4a484644422c2a28262422201e1c1a18161412100e0c0a080604020027000d, de_it 0x2010000, de_it 0x2, de_it 0x111010602010108010101070101010c0101010b0101000000000000000000000000000000000d000204010002050102080402030006, de_it 0x2010000, de_it 0x10000012d01010300000001, de_it 0x4010000, de_it 0x126010101230101011e0101011d0101011c0101011b0101011a01010119010100010001010101010100010101040101010901010102010101030101000000000000000000000000000100011800020b0100020a010002090102000400010007, de_it 0x2010000, de_it 0x10001010501010104010100010001000100010001000101050101010401010109010b02010102010101060101010701010000000000000000000000000001000118000202010000000001000400010007]
set_option maxRecDepth 100000 in
theorem tR_37 : tf_go tV_37 tK_37.2.1.1 tK_37.2.1.2 none tH_37_0 [(tK_37.2.1, tK_37.2.2.2.1, 0, tc_args 0 tK_37.2.2.1, [], ([], 0), ([], 0))] = true := by decide +kernel
set_option maxRecDepth 100000 in
theorem tT_37 {RO : am_O} {sa : Nat → Nat} (h_16 : tc_true (aP sa) tp_G RO tp_T tp_Z tK_16) (h_26 : tc_true (aP sa) tp_G RO tp_T tp_Z tK_26) (h_27 : tc_true (aP sa) tp_G RO tp_T tp_Z tK_27) (h_36 : tc_true (aP sa) tp_G RO tp_T tp_Z tK_36) : tc_true (aP sa) tp_G RO tp_T tp_Z tK_37 := by
  have hC : ∀ c ∈ tC_37, tc_true (aP sa) tp_G RO tp_T tp_Z c := by
    intro c hc
    have hc : c ∈ ([tK_36, tK_16, tK_27, tK_26] : List tc_Ct) := hc
    rcases List.mem_cons.mp hc with rfl | hc
    · exact h_36
    rcases List.mem_cons.mp hc with rfl | hc
    · exact h_16
    rcases List.mem_cons.mp hc with rfl | hc
    · exact h_27
    rcases List.mem_cons.mp hc with rfl | hc
    · exact h_26
    cases hc
  have hP : ∀ p ∈ tJ_37, ∃ hs, tc_plk (aP sa, tV_37.2) p hs = true := by
    intro p hp
    have hp : p ∈ ([] : List tc_Pl) := hp
    cases hp
  exact tc_main (mt := aM_38.1) (hs := tH_37_0) (PL := tJ_37) ⟨tp_G_ok, tMs_37 _, hC, tp_L_ok, tp_G_re⟩ (show am_meth (aP sa) 38 = some aM_38.1 from rfl) aX_38 (by decide +kernel) hP ((tc_go_sa (aP_sa sa _)).trans ((tf_go_s tHC_37).trans tR_37))
noncomputable def tK_38 : tc_Ct := (42, (1, 0), [(0, ([(0, 1)], 0), 0)], ([([(0, -1)], 2147483647), ([(0, 1)], 2147483648)], [], [], [], [], [], []), [], [((1, 0), ([([(0, -1)], 2147483647), ([(0, 1)], 2147483648)], [], [], [], [], [], []), some (0, ([], 0), 0), ([], 0), ([], 0)), ((1, 0), ([([(0, -1)], 3), ([(0, 1)], -1)], [], [], [], [], [], []), some (0, ([], 1), 0), ([], 0), ([], 0))])
noncomputable def tJ_38 : List tc_Pl := []
noncomputable def tC_38 : List tc_Ct := []
def tM_38 (z : Nat) : Option am_Meth := none
set_option maxRecDepth 100000 in
theorem tMs_38 (sa : Nat → Nat) : ∀ z mz, tM_38 z = some mz → am_meth (aP sa) z = some mz := fun z mz h => by cases h
noncomputable def tV_38 : tc_Ev := (aQ, tp_T, tp_G.2, tp_Z, tM_38, tC_38, tp_L, tK_38.2.2.2.2.1, aM_42.1, aW_42, tK_38.2.1, tK_38.2.2.2.2.2, tJ_38)
theorem tE_38 : tK_38.2.2.2.2.2.all (tc_wex tK_38.2.1.1 tK_38.2.1.2) = true := by decide +kernel
theorem tSS_38 : tC_38.all (fun c => tw_mg tK_38.2.2.2.2.1 c.2.2.2.2.1) = true := by decide +kernel
theorem tHC_38 : ∀ c ∈ tC_38, c.2.2.2.2.1.all tK_38.2.2.2.2.1.contains = true ∧ c.2.2.2.2.2.all (tc_wex c.2.1.1 c.2.1.2) = true := tf_hc tSS_38 (by
  intro c hc
  have hc : c ∈ ([] : List tc_Ct) := hc
  cases hc)
noncomputable def tH_38_0 : List tc_It := [de_it 0x4010000, de_it 0x300000001, de_it 0x2010000, de_it 0x101010101020101000000000000000000010001000100010a0000010007, de_it 0x4010000, de_it 0x300000001, de_it 0x2010000, de_it 0x103010101000101000000000000000000010001000100010a0000010007, de_it 0x4010000, de_it 0x102010101030101000000000000000000010001000100010a0002010007]
set_option maxRecDepth 100000 in
theorem tR_38 : tf_go tV_38 tK_38.2.1.1 tK_38.2.1.2 none tH_38_0 [(tK_38.2.1, tK_38.2.2.2.1, 0, tc_args 0 tK_38.2.2.1, [], ([], 0), ([], 0))] = true := by decide +kernel
set_option maxRecDepth 100000 in
theorem tT_38 {RO : am_O} {sa : Nat → Nat} : tc_true (aP sa) tp_G RO tp_T tp_Z tK_38 := by
  have hC : ∀ c ∈ tC_38, tc_true (aP sa) tp_G RO tp_T tp_Z c := by
    intro c hc
    have hc : c ∈ ([] : List tc_Ct) := hc
    cases hc
  have hP : ∀ p ∈ tJ_38, ∃ hs, tc_plk (aP sa, tV_38.2) p hs = true := by
    intro p hp
    have hp : p ∈ ([] : List tc_Pl) := hp
    cases hp
  exact tc_main (mt := aM_42.1) (hs := tH_38_0) (PL := tJ_38) ⟨tp_G_ok, tMs_38 _, hC, tp_L_ok, tp_G_re⟩ (show am_meth (aP sa) 42 = some aM_42.1 from rfl) aX_42 (by decide +kernel) hP ((tc_go_sa (aP_sa sa _)).trans ((tf_go_s tHC_38).trans tR_38))
noncomputable def tK_39 : tc_Ct := (43, (2, 0), [(1, ([], 0), 0), (0, ([(0, 1)], 0), 0), (0, ([(1, 1)], 0), 0)], ([([(0, -1)], 2147483647), ([(0, 1)], 2147483648), ([(1, -1)], 2147483647), ([(1, 1)], -2147483579)], [], [], [], [], [], []), [], [((3, 0), ([([(0, -1)], 2147483647), ([(0, 1)], 2147483648), ([(1, -1)], 2147483647), ([(1, 1)], -2147483579), ([(2, -1)], 2147483647), ([(2, 1)], 2147483648)], [], [], [], [], [], []), some (0, ([(2, 1)], 0), 0), ([], 0), ([], 0))])
noncomputable def tL_39_0 : tc_Pl := de_pl 0x30d20ff000001020201020000000000030d20ff00030000000000000002020100090000000107000000010500000201010004000002000100020510000000000000000202013e01020100000000ffffff75ff02010100000000fffffffeff0101010000000100000000ff02000100000000fffffffeff01000100000000ffffff75ff02010100000000fffffffeff0101010000000100000000ff02000100000000fffffffeff0100010a0003
noncomputable def tJ_39 : List tc_Pl := [tL_39_0]
noncomputable def tC_39 : List tc_Ct := []
def tM_39 (z : Nat) : Option am_Meth := none
set_option maxRecDepth 100000 in
theorem tMs_39 (sa : Nat → Nat) : ∀ z mz, tM_39 z = some mz → am_meth (aP sa) z = some mz := fun z mz h => by cases h
noncomputable def tV_39 : tc_Ev := (aQ, tp_T, tp_G.2, tp_Z, tM_39, tC_39, tp_L, tK_39.2.2.2.2.1, aM_43.1, aW_43, tK_39.2.1, tK_39.2.2.2.2.2, tJ_39)
theorem tE_39 : tK_39.2.2.2.2.2.all (tc_wex tK_39.2.1.1 tK_39.2.1.2) = true := by decide +kernel
theorem tSS_39 : tC_39.all (fun c => tw_mg tK_39.2.2.2.2.1 c.2.2.2.2.1) = true := by decide +kernel
theorem tHC_39 : ∀ c ∈ tC_39, c.2.2.2.2.1.all tK_39.2.2.2.2.1.contains = true ∧ c.2.2.2.2.2.all (tc_wex c.2.1.1 c.2.1.2) = true := tf_hc tSS_39 (by
  intro c hc
  have hc : c ∈ ([] : List tc_Ct) := hc
  cases hc)
noncomputable def tH_39_0 : List tc_It := [de_it 0x4010000, de_it 0x104010302010200000005, de_it 0xe010000, de_it 0x100010103010101020101010101010100010101030101010201010101010101000101000000000000000000000000000100011200000100010008]
set_option maxRecDepth 100000 in
theorem tR_39 : tf_go tV_39 tK_39.2.1.1 tK_39.2.1.2 none tH_39_0 [(tK_39.2.1, tK_39.2.2.2.1, 0, tc_args 0 tK_39.2.2.1, [], ([], 0), ([], 0))] = true := by decide +kernel
noncomputable def tH_39_1 : List tc_It := [de_it 0x4010000, de_it 0x300000001, de_it 0x2010000, de_it 0x101, de_it 0x10b0101010c010101030101010201010101010101000101000000000000000000000000000100010e000203010100010007, de_it 0x4010000, de_it 0x101, de_it 0x300000001, de_it 0x2010000, de_it 0x101, de_it 0x10f01010110010101030101010201010101010101000101000000000000000000000000000100010e000204010100010007, de_it 0x4010000, de_it 0x101, de_it 0x6010000, de_it 0x1100101000000000300000001, de_it 0xa010000, de_it 0x10301010100000001, de_it 0x2010000, de_it 0x10a0101010901010200000001, de_it 0x2010000, de_it 0x1090101010a0101010301010102010101010101010001010103010101020101010101010100010100000000010a010302010001000000010001000112020202010100010008, de_it 0xa010000, de_it 0x10301010100000001, de_it 0xc010000, de_it 0x10301010100000001, de_it 0x2010000, de_it 0x10a0101010901010200000001, de_it 0x2010000, de_it 0x1090101010a0101010301010102010101010101010001010103010101020101010101010100010100000000010a010302010001000000010001000112020202010100010008]
set_option maxRecDepth 100000 in
theorem tP_39_0 : tf_plk tV_39 tL_39_0 tH_39_1 = true := by decide +kernel
set_option maxRecDepth 100000 in
theorem tT_39 {RO : am_O} {sa : Nat → Nat} : tc_true (aP sa) tp_G RO tp_T tp_Z tK_39 := by
  have hC : ∀ c ∈ tC_39, tc_true (aP sa) tp_G RO tp_T tp_Z c := by
    intro c hc
    have hc : c ∈ ([] : List tc_Ct) := hc
    cases hc
  have hP : ∀ p ∈ tJ_39, ∃ hs, tc_plk (aP sa, tV_39.2) p hs = true := by
    intro p hp
    have hp : p ∈ ([tL_39_0] : List tc_Pl) := hp
    rcases List.mem_cons.mp hp with rfl | hp
    · exact ⟨_, (tc_plk_sa (aP_sa sa _)).trans ((tf_plk_s tHC_39).trans tP_39_0)⟩
    cases hp
  exact tc_main (mt := aM_43.1) (hs := tH_39_0) (PL := tJ_39) ⟨tp_G_ok, tMs_39 _, hC, tp_L_ok, tp_G_re⟩ (show am_meth (aP sa) 43 = some aM_43.1 from rfl) aX_43 (by decide +kernel) hP ((tc_go_sa (aP_sa sa _)).trans ((tf_go_s tHC_39).trans tR_39))
noncomputable def tK_40 : tc_Ct := (41, (2, 1), [(2, ([], 0), 0), (0, ([(0, 1)], 0), 0), (0, ([(1, 1)], 0), 0)], ([([(0, -1)], 2147483647), ([(0, 1)], 2147483648), ([(1, -1)], 2147483647), ([(1, 1)], 2147483648)], [(0, 167)], [], [], [], [], []), [], [((3, 1), ([([(0, -1)], 2147483647), ([(0, 1)], 2147483648), ([(1, -1)], 2147483647), ([(1, 1)], 2147483648), ([(2, -1)], 2147483647), ([(2, 1)], 2147483648)], [], [], [], [], [], []), some (0, ([(2, 1)], 0), 0), ([], 0), ([], 0))])
noncomputable def tJ_40 : List tc_Pl := []
noncomputable def tC_40 : List tc_Ct := [tK_38, tK_39]
def tM_40 (z : Nat) : Option am_Meth := if z = 43 then some aM_43.1 else if z = 42 then some aM_42.1 else none
set_option maxRecDepth 100000 in
theorem tMs_40 (sa : Nat → Nat) : ∀ z mz, tM_40 z = some mz → am_meth (aP sa) z = some mz := by
  intro z mz h
  unfold tM_40 at h
  rcases de_m h with ⟨rfl, rfl⟩ | h
  · exact (show am_meth (aP sa) 43 = some aM_43.1 from rfl)
  rcases de_m h with ⟨rfl, rfl⟩ | h
  · exact (show am_meth (aP sa) 42 = some aM_42.1 from rfl)
  cases h
noncomputable def tV_40 : tc_Ev := (aQ, tp_T, tp_G.2, tp_Z, tM_40, tC_40, tp_L, tK_40.2.2.2.2.1, aM_41.1, aW_41, tK_40.2.1, tK_40.2.2.2.2.2, tJ_40)
theorem tE_40 : tK_40.2.2.2.2.2.all (tc_wex tK_40.2.1.1 tK_40.2.1.2) = true := by decide +kernel
theorem tSS_40 : tC_40.all (fun c => tw_mg tK_40.2.2.2.2.1 c.2.2.2.2.1) = true := by decide +kernel
theorem tHC_40 : ∀ c ∈ tC_40, c.2.2.2.2.1.all tK_40.2.2.2.2.1.contains = true ∧ c.2.2.2.2.2.all (tc_wex c.2.1.1 c.2.1.2) = true := tf_hc tSS_40 (by
  intro c hc
  have hc : c ∈ ([tK_38, tK_39] : List tc_Ct) := hc
  rcases List.mem_cons.mp hc with rfl | hc
  · exact tE_38
  rcases List.mem_cons.mp hc with rfl | hc
  · exact tE_39
  cases hc)
noncomputable def tH_40_0 : List tc_It := [de_it 0x2010000, de_it 0x101010101000101000000000000000000000000000000000a000200010100010006, de_it 0x10106010100000300000001, de_it 0x2010000, de_it 0x1000101030101010201010101010101000101000000000000000000000000000100010e00000100010007, de_it 0x10000010701010300000001, de_it 0x2, de_it 0x4010000, de_it 0x1040101010501010200000001, de_it 0x2010011, de_it 0x107010402010105010102010200010100010002, de_it 0x4010000, de_it 0x2, de_it 0x4010000, de_it 0x1040101010501010200000001, de_it 0x4010011, de_it 0x10d010402010105010102010200010100010002, de_it 0x1110101011001010103010101020101000000000000000000000000000000000c00020501000201010202010006, de_it 0x2010000, de_it 0x11801010117010101030101010201010105010101040101000000000000000000000000000100010e000206010100010007]
set_option maxRecDepth 100000 in
theorem tR_40 : tf_go tV_40 tK_40.2.1.1 tK_40.2.1.2 none tH_40_0 [(tK_40.2.1, tK_40.2.2.2.1, 0, tc_args 0 tK_40.2.2.1, [], ([], 0), ([], 0))] = true := by decide +kernel
set_option maxRecDepth 100000 in
theorem tT_40 {RO : am_O} {sa : Nat → Nat} (h_38 : tc_true (aP sa) tp_G RO tp_T tp_Z tK_38) (h_39 : tc_true (aP sa) tp_G RO tp_T tp_Z tK_39) : tc_true (aP sa) tp_G RO tp_T tp_Z tK_40 := by
  have hC : ∀ c ∈ tC_40, tc_true (aP sa) tp_G RO tp_T tp_Z c := by
    intro c hc
    have hc : c ∈ ([tK_38, tK_39] : List tc_Ct) := hc
    rcases List.mem_cons.mp hc with rfl | hc
    · exact h_38
    rcases List.mem_cons.mp hc with rfl | hc
    · exact h_39
    cases hc
  have hP : ∀ p ∈ tJ_40, ∃ hs, tc_plk (aP sa, tV_40.2) p hs = true := by
    intro p hp
    have hp : p ∈ ([] : List tc_Pl) := hp
    cases hp
  exact tc_main (mt := aM_41.1) (hs := tH_40_0) (PL := tJ_40) ⟨tp_G_ok, tMs_40 _, hC, tp_L_ok, tp_G_re⟩ (show am_meth (aP sa) 41 = some aM_41.1 from rfl) aX_41 (by decide +kernel) hP ((tc_go_sa (aP_sa sa _)).trans ((tf_go_s tHC_40).trans tR_40))
noncomputable def tK_41 : tc_Ct := (40, (2, 2), [(2, ([], 0), 0), (0, ([(0, 1)], 0), 0), (0, ([(1, 1)], 0), 0)], ([([(0, -1)], 2147483647), ([(0, 1)], 2147483648), ([(1, -1)], 2147483647), ([(1, 1)], 2147483648)], [(0, 165), (1, 166)], [], [(0, 0, (2, ([], 0), 1))], [], [], [(568, [1], [])]), [], [((3, 2), ([([(0, -1)], 2147483647), ([(0, 1)], 2147483648), ([(1, -1)], 2147483647), ([(1, 1)], 2147483648), ([(2, -1)], 2147483647), ([(2, 1)], 2147483648)], [], [], [], [], [], []), some (0, ([(2, 1)], 0), 0), ([], 0), ([], 0))])
noncomputable def tJ_41 : List tc_Pl := []
noncomputable def tC_41 : List tc_Ct := [tK_40]
def tM_41 (z : Nat) : Option am_Meth := if z = 41 then some aM_41.1 else none
set_option maxRecDepth 100000 in
theorem tMs_41 (sa : Nat → Nat) : ∀ z mz, tM_41 z = some mz → am_meth (aP sa) z = some mz := by
  intro z mz h
  unfold tM_41 at h
  rcases de_m h with ⟨rfl, rfl⟩ | h
  · exact (show am_meth (aP sa) 41 = some aM_41.1 from rfl)
  cases h
noncomputable def tV_41 : tc_Ev := (aQ, tp_T, tp_G.2, tp_Z, tM_41, tC_41, tp_L, tK_41.2.2.2.2.1, aM_40.1, aW_40, tK_41.2.1, tK_41.2.2.2.2.2, tJ_41)
theorem tE_41 : tK_41.2.2.2.2.2.all (tc_wex tK_41.2.1.1 tK_41.2.1.2) = true := by decide +kernel
theorem tSS_41 : tC_41.all (fun c => tw_mg tK_41.2.2.2.2.1 c.2.2.2.2.1) = true := by decide +kernel
theorem tHC_41 : ∀ c ∈ tC_41, c.2.2.2.2.1.all tK_41.2.2.2.2.1.contains = true ∧ c.2.2.2.2.2.all (tc_wex c.2.1.1 c.2.1.2) = true := tf_hc tSS_41 (by
  intro c hc
  have hc : c ∈ ([tK_40] : List tc_Ct) := hc
  rcases List.mem_cons.mp hc with rfl | hc
  · exact tE_40
  cases hc)
noncomputable def tH_41_0 : List tc_It := [de_it 0x4010000, de_it 0x300000001, de_it 0x2010000, de_it 0x1000101030101010201010101010101040101000000000000000000000000000100010e01000100010007, de_it 0x4010000, de_it 0x300000001, de_it 0x2010000, de_it 0x1000101030101010201010105010101000101000000000000000000000000000100010e01000100010007, de_it 0x2010000, de_it 0x300000001, de_it 0x2010000, de_it 0x2, de_it 0x2, de_it 0x4010000, de_it 0x1060101010201010104010101050101000000000000000000000000000000020c0002010100020001020400020006, de_it 0x10c0101010b010101060101010201010104010101050101000000000000000000000000000100010e000202010100010007, de_it 0x2010000, de_it 0x1000101030101010601010104010101050101000000000000000000000000000100010e01000100010007]
set_option maxRecDepth 100000 in
theorem tR_41 : tf_go tV_41 tK_41.2.1.1 tK_41.2.1.2 none tH_41_0 [(tK_41.2.1, tK_41.2.2.2.1, 0, tc_args 0 tK_41.2.2.1, [], ([], 0), ([], 0))] = true := by decide +kernel
set_option maxRecDepth 100000 in
theorem tT_41 {RO : am_O} {sa : Nat → Nat} (h_40 : tc_true (aP sa) tp_G RO tp_T tp_Z tK_40) : tc_true (aP sa) tp_G RO tp_T tp_Z tK_41 := by
  have hC : ∀ c ∈ tC_41, tc_true (aP sa) tp_G RO tp_T tp_Z c := by
    intro c hc
    have hc : c ∈ ([tK_40] : List tc_Ct) := hc
    rcases List.mem_cons.mp hc with rfl | hc
    · exact h_40
    cases hc
  have hP : ∀ p ∈ tJ_41, ∃ hs, tc_plk (aP sa, tV_41.2) p hs = true := by
    intro p hp
    have hp : p ∈ ([] : List tc_Pl) := hp
    cases hp
  exact tc_main (mt := aM_40.1) (hs := tH_41_0) (PL := tJ_41) ⟨tp_G_ok, tMs_41 _, hC, tp_L_ok, tp_G_re⟩ (show am_meth (aP sa) 40 = some aM_40.1 from rfl) aX_40 (by decide +kernel) hP ((tc_go_sa (aP_sa sa _)).trans ((tf_go_s tHC_41).trans tR_41))
noncomputable def tK_42 : tc_Ct := (45, (3, 1), [(2, ([], 0), 0), (0, ([(0, 1)], 0), 0), (0, ([(1, 1)], 0), 0), (0, ([(2, 1)], 0), 0)], ([([(0, -1)], 255), ([(0, 1)], 0), ([(1, -1)], 2147483647), ([(1, 1)], 2147483648), ([(2, -1)], 2147483647), ([(2, 1)], 2147483648)], [(0, 167)], [], [], [], [], []), [], [((3, 1), ([([(0, -1)], 255), ([(0, 1)], 0), ([(1, -1)], 2147483647), ([(1, 1)], 2147483648), ([(2, -1)], 2147483647), ([(2, 1)], 2147483648)], [], [], [], [], [], []), some (1, ([], 0), 0), ([], 0), ([], 0))])
noncomputable def tJ_42 : List tc_Pl := []
noncomputable def tC_42 : List tc_Ct := [tK_38, tK_39]
def tM_42 (z : Nat) : Option am_Meth := if z = 43 then some aM_43.1 else if z = 42 then some aM_42.1 else none
set_option maxRecDepth 100000 in
theorem tMs_42 (sa : Nat → Nat) : ∀ z mz, tM_42 z = some mz → am_meth (aP sa) z = some mz := by
  intro z mz h
  unfold tM_42 at h
  rcases de_m h with ⟨rfl, rfl⟩ | h
  · exact (show am_meth (aP sa) 43 = some aM_43.1 from rfl)
  rcases de_m h with ⟨rfl, rfl⟩ | h
  · exact (show am_meth (aP sa) 42 = some aM_42.1 from rfl)
  cases h
noncomputable def tV_42 : tc_Ev := (aQ, tp_T, tp_G.2, tp_Z, tM_42, tC_42, tp_L, tK_42.2.2.2.2.1, aM_45.1, aW_45, tK_42.2.1, tK_42.2.2.2.2.2, tJ_42)
theorem tE_42 : tK_42.2.2.2.2.2.all (tc_wex tK_42.2.1.1 tK_42.2.1.2) = true := by decide +kernel
theorem tSS_42 : tC_42.all (fun c => tw_mg tK_42.2.2.2.2.1 c.2.2.2.2.1) = true := by decide +kernel
theorem tHC_42 : ∀ c ∈ tC_42, c.2.2.2.2.1.all tK_42.2.2.2.2.1.contains = true ∧ c.2.2.2.2.2.all (tc_wex c.2.1.1 c.2.1.2) = true := tf_hc tSS_42 (by
  intro c hc
  have hc : c ∈ ([tK_38, tK_39] : List tc_Ct) := hc
  rcases List.mem_cons.mp hc with rfl | hc
  · exact tE_38
  rcases List.mem_cons.mp hc with rfl | hc
  · exact tE_39
  cases hc)
noncomputable def tH_42_0 : List tc_It := [de_it 0x2010000, de_it 0x101010101000101000000000000000000000000000000000a000200010100010006, de_it 0x10000010801010300000001, de_it 0x2010000, de_it 0x10501010104010101030101010201010101010101000101000000000000000000000000000100010e0000010007, de_it 0x10109010100000300000001, de_it 0x2, de_it 0x4010000, de_it 0x1060101010701010200000001, de_it 0x2010011, de_it 0x109010602010107010102010200010100010002, de_it 0x6010000, de_it 0x300000001, de_it 0x2010000, de_it 0x1050101010f010101030101010201010107010101060101000000000000000000000000000100010e0000010007, de_it 0x6010000, de_it 0x10c0101010d01010200000001, de_it 0x300000001, de_it 0x8010000, de_it 0x10d0101010c01010103010101020101000000000000000000000000000000000c00020401000201010202010006, de_it 0x6010000, de_it 0x300000001, de_it 0x4010000, de_it 0x10f01010110010c020101030101010201010107010101060101000000000000000000000000000100010e0000010007, de_it 0x6010000, de_it 0x10c0101010d01010200000001, de_it 0x300000001, de_it 0x4010000, de_it 0x10f01010110010c020101030101010201010107010101060101000000000000000000000000000100010e0000010007, de_it 0x4010000, de_it 0x10f01010110010c020101030101010201010107010101060101000000000000000000000000000100010e0000010007, de_it 0x2010000, de_it 0x10d011002010104010101030101010201010107010101060101000000000000000000000000000100010e0000010007]
set_option maxRecDepth 100000 in
theorem tR_42 : tf_go tV_42 tK_42.2.1.1 tK_42.2.1.2 none tH_42_0 [(tK_42.2.1, tK_42.2.2.2.1, 0, tc_args 0 tK_42.2.2.1, [], ([], 0), ([], 0))] = true := by decide +kernel
set_option maxRecDepth 100000 in
theorem tT_42 {RO : am_O} {sa : Nat → Nat} (h_38 : tc_true (aP sa) tp_G RO tp_T tp_Z tK_38) (h_39 : tc_true (aP sa) tp_G RO tp_T tp_Z tK_39) : tc_true (aP sa) tp_G RO tp_T tp_Z tK_42 := by
  have hC : ∀ c ∈ tC_42, tc_true (aP sa) tp_G RO tp_T tp_Z c := by
    intro c hc
    have hc : c ∈ ([tK_38, tK_39] : List tc_Ct) := hc
    rcases List.mem_cons.mp hc with rfl | hc
    · exact h_38
    rcases List.mem_cons.mp hc with rfl | hc
    · exact h_39
    cases hc
  have hP : ∀ p ∈ tJ_42, ∃ hs, tc_plk (aP sa, tV_42.2) p hs = true := by
    intro p hp
    have hp : p ∈ ([] : List tc_Pl) := hp
    cases hp
  exact tc_main (mt := aM_45.1) (hs := tH_42_0) (PL := tJ_42) ⟨tp_G_ok, tMs_42 _, hC, tp_L_ok, tp_G_re⟩ (show am_meth (aP sa) 45 = some aM_45.1 from rfl) aX_45 (by decide +kernel) hP ((tc_go_sa (aP_sa sa _)).trans ((tf_go_s tHC_42).trans tR_42))
noncomputable def tK_43 : tc_Ct := (44, (3, 2), [(2, ([], 0), 0), (0, ([(0, 1)], 0), 0), (0, ([(1, 1)], 0), 0), (0, ([(2, 1)], 0), 0)], ([([(0, -1)], 2147483647), ([(0, 1)], 2147483648), ([(1, -1)], 2147483647), ([(1, 1)], 2147483648), ([(2, -1)], 2147483647), ([(2, 1)], 2147483648)], [(0, 165), (1, 166)], [], [(0, 0, (2, ([], 0), 1))], [], [], [(568, [1], [])]), [], [((3, 2), ([([(0, -1)], 2147483647), ([(0, 1)], 2147483648), ([(1, -1)], 2147483647), ([(1, 1)], 2147483648), ([(2, -1)], 2147483647), ([(2, 1)], 2147483648)], [], [], [], [], [], []), some (1, ([], 0), 0), ([], 0), ([], 0))])
noncomputable def tJ_43 : List tc_Pl := []
noncomputable def tC_43 : List tc_Ct := [tK_42]
def tM_43 (z : Nat) : Option am_Meth := if z = 45 then some aM_45.1 else none
set_option maxRecDepth 100000 in
theorem tMs_43 (sa : Nat → Nat) : ∀ z mz, tM_43 z = some mz → am_meth (aP sa) z = some mz := by
  intro z mz h
  unfold tM_43 at h
  rcases de_m h with ⟨rfl, rfl⟩ | h
  · exact (show am_meth (aP sa) 45 = some aM_45.1 from rfl)
  cases h
noncomputable def tV_43 : tc_Ev := (aQ, tp_T, tp_G.2, tp_Z, tM_43, tC_43, tp_L, tK_43.2.2.2.2.1, aM_44.1, aW_44, tK_43.2.1, tK_43.2.2.2.2.2, tJ_43)
theorem tE_43 : tK_43.2.2.2.2.2.all (tc_wex tK_43.2.1.1 tK_43.2.1.2) = true := by decide +kernel
theorem tSS_43 : tC_43.all (fun c => tw_mg tK_43.2.2.2.2.1 c.2.2.2.2.1) = true := by decide +kernel
theorem tHC_43 : ∀ c ∈ tC_43, c.2.2.2.2.1.all tK_43.2.2.2.2.1.contains = true ∧ c.2.2.2.2.2.all (tc_wex c.2.1.1 c.2.1.2) = true := tf_hc tSS_43 (by
  intro c hc
  have hc : c ∈ ([tK_42] : List tc_Ct) := hc
  rcases List.mem_cons.mp hc with rfl | hc
  · exact tE_42
  cases hc)
noncomputable def tH_43_0 : List tc_It := [de_it 0x4010000, de_it 0x300000001, de_it 0x2010000, de_it 0x10501010104010101030101010201010101010101060101000000000000000000000000000100010e0000010007, de_it 0x4010000, de_it 0x300000001, de_it 0x2010000, de_it 0x10501010104010101030101010201010107010101000101000000000000000000000000000100010e0000010007, de_it 0x2010000, de_it 0x300000001, de_it 0x2010000, de_it 0x2, de_it 0x2, de_it 0x6010000, de_it 0x10501010104010101080101010201010106010101070101000000000000000000000000000000030e000202010002010100020001030400020006, de_it 0x10501010104010101080101010201010106010101070101000000000000000000000000000100010e0000010007, de_it 0x2010000, de_it 0x10501010104010101030101010801010106010101070101000000000000000000000000000100010e0000010007]
set_option maxRecDepth 100000 in
theorem tR_43 : tf_go tV_43 tK_43.2.1.1 tK_43.2.1.2 none tH_43_0 [(tK_43.2.1, tK_43.2.2.2.1, 0, tc_args 0 tK_43.2.2.1, [], ([], 0), ([], 0))] = true := by decide +kernel
set_option maxRecDepth 100000 in
theorem tT_43 {RO : am_O} {sa : Nat → Nat} (h_42 : tc_true (aP sa) tp_G RO tp_T tp_Z tK_42) : tc_true (aP sa) tp_G RO tp_T tp_Z tK_43 := by
  have hC : ∀ c ∈ tC_43, tc_true (aP sa) tp_G RO tp_T tp_Z c := by
    intro c hc
    have hc : c ∈ ([tK_42] : List tc_Ct) := hc
    rcases List.mem_cons.mp hc with rfl | hc
    · exact h_42
    cases hc
  have hP : ∀ p ∈ tJ_43, ∃ hs, tc_plk (aP sa, tV_43.2) p hs = true := by
    intro p hp
    have hp : p ∈ ([] : List tc_Pl) := hp
    cases hp
  exact tc_main (mt := aM_44.1) (hs := tH_43_0) (PL := tJ_43) ⟨tp_G_ok, tMs_43 _, hC, tp_L_ok, tp_G_re⟩ (show am_meth (aP sa) 44 = some aM_44.1 from rfl) aX_44 (by decide +kernel) hP ((tc_go_sa (aP_sa sa _)).trans ((tf_go_s tHC_43).trans tR_43))
noncomputable def tK_44 : tc_Ct := (47, (1, 0), [(0, ([(0, 1)], 0), 0)], ([([(0, -1)], 2147483647), ([(0, 1)], 2147483648)], [], [], [], [], [], []), [], [((1, 0), ([([(0, -1)], 2147483647), ([(0, 1)], 2147483648)], [], [], [], [], [], []), some (0, ([], 0), 0), ([], 0), ([], 0)), ((1, 0), ([([(0, -1)], 1073741788), ([(0, 1)], -1)], [], [], [], [], [], []), some (0, ([], 1), 0), ([], 0), ([], 0))])
noncomputable def tJ_44 : List tc_Pl := []
noncomputable def tC_44 : List tc_Ct := []
def tM_44 (z : Nat) : Option am_Meth := none
set_option maxRecDepth 100000 in
theorem tMs_44 (sa : Nat → Nat) : ∀ z mz, tM_44 z = some mz → am_meth (aP sa) z = some mz := fun z mz h => by cases h
noncomputable def tV_44 : tc_Ev := (aQ, tp_T, tp_G.2, tp_Z, tM_44, tC_44, tp_L, tK_44.2.2.2.2.1, aM_47.1, aW_47, tK_44.2.1, tK_44.2.2.2.2.2, tJ_44)
theorem tE_44 : tK_44.2.2.2.2.2.all (tc_wex tK_44.2.1.1 tK_44.2.1.2) = true := by decide +kernel
theorem tSS_44 : tC_44.all (fun c => tw_mg tK_44.2.2.2.2.1 c.2.2.2.2.1) = true := by decide +kernel
theorem tHC_44 : ∀ c ∈ tC_44, c.2.2.2.2.1.all tK_44.2.2.2.2.1.contains = true ∧ c.2.2.2.2.2.all (tc_wex c.2.1.1 c.2.1.2) = true := tf_hc tSS_44 (by
  intro c hc
  have hc : c ∈ ([] : List tc_Ct) := hc
  cases hc)
noncomputable def tH_44_0 : List tc_It := [de_it 0x4010000, de_it 0x300000001, de_it 0x2010000, de_it 0x101010101020101000000000000000000010001000100010a0000010007, de_it 0x4010000, de_it 0x300000001, de_it 0x2010000, de_it 0x103010101000101000000000000000000010001000100010a0000010007, de_it 0x4010000, de_it 0x102010101030101000000000000000000010001000100010a0002010007]
set_option maxRecDepth 100000 in
theorem tR_44 : tf_go tV_44 tK_44.2.1.1 tK_44.2.1.2 none tH_44_0 [(tK_44.2.1, tK_44.2.2.2.1, 0, tc_args 0 tK_44.2.2.1, [], ([], 0), ([], 0))] = true := by decide +kernel
set_option maxRecDepth 100000 in
theorem tT_44 {RO : am_O} {sa : Nat → Nat} : tc_true (aP sa) tp_G RO tp_T tp_Z tK_44 := by
  have hC : ∀ c ∈ tC_44, tc_true (aP sa) tp_G RO tp_T tp_Z c := by
    intro c hc
    have hc : c ∈ ([] : List tc_Ct) := hc
    cases hc
  have hP : ∀ p ∈ tJ_44, ∃ hs, tc_plk (aP sa, tV_44.2) p hs = true := by
    intro p hp
    have hp : p ∈ ([] : List tc_Pl) := hp
    cases hp
  exact tc_main (mt := aM_47.1) (hs := tH_44_0) (PL := tJ_44) ⟨tp_G_ok, tMs_44 _, hC, tp_L_ok, tp_G_re⟩ (show am_meth (aP sa) 47 = some aM_47.1 from rfl) aX_47 (by decide +kernel) hP ((tc_go_sa (aP_sa sa _)).trans ((tf_go_s tHC_44).trans tR_44))
noncomputable def tK_45 : tc_Ct := (48, (1, 1), [(2, ([], 0), 0), (0, ([(0, 1)], 0), 0)], ([([(0, -1)], 2147483647), ([(0, 1)], 2147483648)], [(0, 167)], [], [], [], [], []), [], [((2, 1), ([([(0, -1)], 2147483647), ([(0, 1)], 2147483648), ([(1, -1)], 2147483647), ([(1, 1)], 2147483648)], [], [], [], [], [], []), some (0, ([(1, 1)], 0), 0), ([], 0), ([], 0))])
noncomputable def tJ_45 : List tc_Pl := []
noncomputable def tC_45 : List tc_Ct := [tK_39]
def tM_45 (z : Nat) : Option am_Meth := if z = 43 then some aM_43.1 else none
set_option maxRecDepth 100000 in
theorem tMs_45 (sa : Nat → Nat) : ∀ z mz, tM_45 z = some mz → am_meth (aP sa) z = some mz := by
  intro z mz h
  unfold tM_45 at h
  rcases de_m h with ⟨rfl, rfl⟩ | h
  · exact (show am_meth (aP sa) 43 = some aM_43.1 from rfl)
  cases h
noncomputable def tV_45 : tc_Ev := (aQ, tp_T, tp_G.2, tp_Z, tM_45, tC_45, tp_L, tK_45.2.2.2.2.1, aM_48.1, aW_48, tK_45.2.1, tK_45.2.2.2.2.2, tJ_45)
theorem tE_45 : tK_45.2.2.2.2.2.all (tc_wex tK_45.2.1.1 tK_45.2.1.2) = true := by decide +kernel
theorem tSS_45 : tC_45.all (fun c => tw_mg tK_45.2.2.2.2.1 c.2.2.2.2.1) = true := by decide +kernel
theorem tHC_45 : ∀ c ∈ tC_45, c.2.2.2.2.1.all tK_45.2.2.2.2.1.contains = true ∧ c.2.2.2.2.2.all (tc_wex c.2.1.1 c.2.1.2) = true := tf_hc tSS_45 (by
  intro c hc
  have hc : c ∈ ([tK_39] : List tc_Ct) := hc
  rcases List.mem_cons.mp hc with rfl | hc
  · exact tE_39
  cases hc)
noncomputable def tH_45_0 : List tc_It := [de_it 0x6010000, de_it 0x100010101010101000101000000000000000000000000000000000c00000000ffffff76ff00000200010200010006, de_it 0x1070101010601010101010101000101000000000000000000000000000100010c000201010100010007]
set_option maxRecDepth 100000 in
theorem tR_45 : tf_go tV_45 tK_45.2.1.1 tK_45.2.1.2 none tH_45_0 [(tK_45.2.1, tK_45.2.2.2.1, 0, tc_args 0 tK_45.2.2.1, [], ([], 0), ([], 0))] = true := by decide +kernel
set_option maxRecDepth 100000 in
theorem tT_45 {RO : am_O} {sa : Nat → Nat} (h_39 : tc_true (aP sa) tp_G RO tp_T tp_Z tK_39) : tc_true (aP sa) tp_G RO tp_T tp_Z tK_45 := by
  have hC : ∀ c ∈ tC_45, tc_true (aP sa) tp_G RO tp_T tp_Z c := by
    intro c hc
    have hc : c ∈ ([tK_39] : List tc_Ct) := hc
    rcases List.mem_cons.mp hc with rfl | hc
    · exact h_39
    cases hc
  have hP : ∀ p ∈ tJ_45, ∃ hs, tc_plk (aP sa, tV_45.2) p hs = true := by
    intro p hp
    have hp : p ∈ ([] : List tc_Pl) := hp
    cases hp
  exact tc_main (mt := aM_48.1) (hs := tH_45_0) (PL := tJ_45) ⟨tp_G_ok, tMs_45 _, hC, tp_L_ok, tp_G_re⟩ (show am_meth (aP sa) 48 = some aM_48.1 from rfl) aX_48 (by decide +kernel) hP ((tc_go_sa (aP_sa sa _)).trans ((tf_go_s tHC_45).trans tR_45))
noncomputable def tK_46 : tc_Ct := (46, (1, 2), [(2, ([], 0), 0), (0, ([(0, 1)], 0), 0)], ([([(0, -1)], 2147483647), ([(0, 1)], 2147483648)], [(0, 165), (1, 166)], [], [(0, 0, (2, ([], 0), 1))], [], [], [(568, [1], [])]), [], [((2, 2), ([([(0, -1)], 2147483647), ([(0, 1)], 2147483648), ([(1, -1)], 2147483647), ([(1, 1)], 2147483648)], [], [], [], [], [], []), some (0, ([(1, 1)], 0), 0), ([], 0), ([], 0))])
noncomputable def tJ_46 : List tc_Pl := []
noncomputable def tC_46 : List tc_Ct := [tK_44, tK_45]
def tM_46 (z : Nat) : Option am_Meth := if z = 48 then some aM_48.1 else if z = 47 then some aM_47.1 else none
set_option maxRecDepth 100000 in
theorem tMs_46 (sa : Nat → Nat) : ∀ z mz, tM_46 z = some mz → am_meth (aP sa) z = some mz := by
  intro z mz h
  unfold tM_46 at h
  rcases de_m h with ⟨rfl, rfl⟩ | h
  · exact (show am_meth (aP sa) 48 = some aM_48.1 from rfl)
  rcases de_m h with ⟨rfl, rfl⟩ | h
  · exact (show am_meth (aP sa) 47 = some aM_47.1 from rfl)
  cases h
noncomputable def tV_46 : tc_Ev := (aQ, tp_T, tp_G.2, tp_Z, tM_46, tC_46, tp_L, tK_46.2.2.2.2.1, aM_46.1, aW_46, tK_46.2.1, tK_46.2.2.2.2.2, tJ_46)
theorem tE_46 : tK_46.2.2.2.2.2.all (tc_wex tK_46.2.1.1 tK_46.2.1.2) = true := by decide +kernel
theorem tSS_46 : tC_46.all (fun c => tw_mg tK_46.2.2.2.2.1 c.2.2.2.2.1) = true := by decide +kernel
theorem tHC_46 : ∀ c ∈ tC_46, c.2.2.2.2.1.all tK_46.2.2.2.2.1.contains = true ∧ c.2.2.2.2.2.all (tc_wex c.2.1.1 c.2.1.2) = true := tf_hc tSS_46 (by
  intro c hc
  have hc : c ∈ ([tK_44, tK_45] : List tc_Ct) := hc
  rcases List.mem_cons.mp hc with rfl | hc
  · exact tE_44
  rcases List.mem_cons.mp hc with rfl | hc
  · exact tE_45
  cases hc)
noncomputable def tH_46_0 : List tc_It := [de_it 0x2010000, de_it 0x101010101000101000000000000000000000000000000000a000200010100010006, de_it 0x10104010100000300000001, de_it 0x2010000, de_it 0x100010101010101000101000000000000000000000000000100010c01000100010007, de_it 0x10000010501010300000001, de_it 0x2010000, de_it 0x2, de_it 0x2, de_it 0x2010000, de_it 0x103010101020101000000000000000000000000000000010a00020001010402020006, de_it 0x2010000, de_it 0x1080101010701010103010101020101000000000000000000000000000100010c000201010100010007]
set_option maxRecDepth 100000 in
theorem tR_46 : tf_go tV_46 tK_46.2.1.1 tK_46.2.1.2 none tH_46_0 [(tK_46.2.1, tK_46.2.2.2.1, 0, tc_args 0 tK_46.2.2.1, [], ([], 0), ([], 0))] = true := by decide +kernel
set_option maxRecDepth 100000 in
theorem tT_46 {RO : am_O} {sa : Nat → Nat} (h_44 : tc_true (aP sa) tp_G RO tp_T tp_Z tK_44) (h_45 : tc_true (aP sa) tp_G RO tp_T tp_Z tK_45) : tc_true (aP sa) tp_G RO tp_T tp_Z tK_46 := by
  have hC : ∀ c ∈ tC_46, tc_true (aP sa) tp_G RO tp_T tp_Z c := by
    intro c hc
    have hc : c ∈ ([tK_44, tK_45] : List tc_Ct) := hc
    rcases List.mem_cons.mp hc with rfl | hc
    · exact h_44
    rcases List.mem_cons.mp hc with rfl | hc
    · exact h_45
    cases hc
  have hP : ∀ p ∈ tJ_46, ∃ hs, tc_plk (aP sa, tV_46.2) p hs = true := by
    intro p hp
    have hp : p ∈ ([] : List tc_Pl) := hp
    cases hp
  exact tc_main (mt := aM_46.1) (hs := tH_46_0) (PL := tJ_46) ⟨tp_G_ok, tMs_46 _, hC, tp_L_ok, tp_G_re⟩ (show am_meth (aP sa) 46 = some aM_46.1 from rfl) aX_46 (by decide +kernel) hP ((tc_go_sa (aP_sa sa _)).trans ((tf_go_s tHC_46).trans tR_46))
noncomputable def tK_47 : tc_Ct := (50, (1, 0), [(0, ([(0, 1)], 0), 0)], ([([(0, -1)], 2147483647), ([(0, 1)], 2147483648)], [], [], [], [], [], []), [], [((1, 0), ([([(0, -1)], 2147483647), ([(0, 1)], 2147483648)], [], [], [], [], [], []), some (0, ([], 0), 0), ([], 0), ([], 0)), ((1, 0), ([([(0, -1)], 2), ([(0, 1)], -1)], [], [], [], [], [], []), some (0, ([], 1), 0), ([], 0), ([], 0))])
noncomputable def tJ_47 : List tc_Pl := []
noncomputable def tC_47 : List tc_Ct := []
def tM_47 (z : Nat) : Option am_Meth := none
set_option maxRecDepth 100000 in
theorem tMs_47 (sa : Nat → Nat) : ∀ z mz, tM_47 z = some mz → am_meth (aP sa) z = some mz := fun z mz h => by cases h
noncomputable def tV_47 : tc_Ev := (aQ, tp_T, tp_G.2, tp_Z, tM_47, tC_47, tp_L, tK_47.2.2.2.2.1, aM_50.1, aW_50, tK_47.2.1, tK_47.2.2.2.2.2, tJ_47)
theorem tE_47 : tK_47.2.2.2.2.2.all (tc_wex tK_47.2.1.1 tK_47.2.1.2) = true := by decide +kernel
theorem tSS_47 : tC_47.all (fun c => tw_mg tK_47.2.2.2.2.1 c.2.2.2.2.1) = true := by decide +kernel
theorem tHC_47 : ∀ c ∈ tC_47, c.2.2.2.2.1.all tK_47.2.2.2.2.1.contains = true ∧ c.2.2.2.2.2.all (tc_wex c.2.1.1 c.2.1.2) = true := tf_hc tSS_47 (by
  intro c hc
  have hc : c ∈ ([] : List tc_Ct) := hc
  cases hc)
noncomputable def tH_47_0 : List tc_It := [de_it 0x4010000, de_it 0x300000001, de_it 0x4010000, de_it 0x102010101030101000000000000000000010001000100010a0002010007, de_it 0x4010000, de_it 0x300000001, de_it 0x2010000, de_it 0x101010101000101000000000000000000010001000100010a0000010007, de_it 0x4010000, de_it 0x102010101030101000000000000000000010001000100010a0002010007]
set_option maxRecDepth 100000 in
theorem tR_47 : tf_go tV_47 tK_47.2.1.1 tK_47.2.1.2 none tH_47_0 [(tK_47.2.1, tK_47.2.2.2.1, 0, tc_args 0 tK_47.2.2.1, [], ([], 0), ([], 0))] = true := by decide +kernel
set_option maxRecDepth 100000 in
theorem tT_47 {RO : am_O} {sa : Nat → Nat} : tc_true (aP sa) tp_G RO tp_T tp_Z tK_47 := by
  have hC : ∀ c ∈ tC_47, tc_true (aP sa) tp_G RO tp_T tp_Z c := by
    intro c hc
    have hc : c ∈ ([] : List tc_Ct) := hc
    cases hc
  have hP : ∀ p ∈ tJ_47, ∃ hs, tc_plk (aP sa, tV_47.2) p hs = true := by
    intro p hp
    have hp : p ∈ ([] : List tc_Pl) := hp
    cases hp
  exact tc_main (mt := aM_50.1) (hs := tH_47_0) (PL := tJ_47) ⟨tp_G_ok, tMs_47 _, hC, tp_L_ok, tp_G_re⟩ (show am_meth (aP sa) 50 = some aM_50.1 from rfl) aX_50 (by decide +kernel) hP ((tc_go_sa (aP_sa sa _)).trans ((tf_go_s tHC_47).trans tR_47))
noncomputable def tK_48 : tc_Ct := (52, (0, 0), [(1, ([], 0), 0)], ([], [], [], [], [], [], []), [], [((1, 0), ([([(0, -1)], 2147483647), ([(0, 1)], 0)], [], [], [], [], [], []), some (0, ([(0, 1)], 0), 0), ([], 0), ([], 0))])
noncomputable def tJ_48 : List tc_Pl := []
noncomputable def tC_48 : List tc_Ct := []
def tM_48 (z : Nat) : Option am_Meth := none
set_option maxRecDepth 100000 in
theorem tMs_48 (sa : Nat → Nat) : ∀ z mz, tM_48 z = some mz → am_meth (aP sa) z = some mz := fun z mz h => by cases h
noncomputable def tV_48 : tc_Ev := (aQ, tp_T, tp_G.2, tp_Z, tM_48, tC_48, tp_L, tK_48.2.2.2.2.1, aM_52.1, aW_52, tK_48.2.1, tK_48.2.2.2.2.2, tJ_48)
theorem tE_48 : tK_48.2.2.2.2.2.all (tc_wex tK_48.2.1.1 tK_48.2.1.2) = true := by decide +kernel
theorem tSS_48 : tC_48.all (fun c => tw_mg tK_48.2.2.2.2.1 c.2.2.2.2.1) = true := by decide +kernel
theorem tHC_48 : ∀ c ∈ tC_48, c.2.2.2.2.1.all tK_48.2.2.2.2.1.contains = true ∧ c.2.2.2.2.2.all (tc_wex c.2.1.1 c.2.1.2) = true := tf_hc tSS_48 (by
  intro c hc
  have hc : c ∈ ([] : List tc_Ct) := hc
  cases hc)
noncomputable def tH_48_0 : List tc_It := [de_it 0x6010000, de_it 0x101, de_it 0x4010000, de_it 0x102010101030101000000000000000000000000000100010a000201010100010007]
set_option maxRecDepth 100000 in
theorem tR_48 : tf_go tV_48 tK_48.2.1.1 tK_48.2.1.2 none tH_48_0 [(tK_48.2.1, tK_48.2.2.2.1, 0, tc_args 0 tK_48.2.2.1, [], ([], 0), ([], 0))] = true := by decide +kernel
set_option maxRecDepth 100000 in
theorem tT_48 {RO : am_O} {sa : Nat → Nat} : tc_true (aP sa) tp_G RO tp_T tp_Z tK_48 := by
  have hC : ∀ c ∈ tC_48, tc_true (aP sa) tp_G RO tp_T tp_Z c := by
    intro c hc
    have hc : c ∈ ([] : List tc_Ct) := hc
    cases hc
  have hP : ∀ p ∈ tJ_48, ∃ hs, tc_plk (aP sa, tV_48.2) p hs = true := by
    intro p hp
    have hp : p ∈ ([] : List tc_Pl) := hp
    cases hp
  exact tc_main (mt := aM_52.1) (hs := tH_48_0) (PL := tJ_48) ⟨tp_G_ok, tMs_48 _, hC, tp_L_ok, tp_G_re⟩ (show am_meth (aP sa) 52 = some aM_52.1 from rfl) aX_52 (by decide +kernel) hP ((tc_go_sa (aP_sa sa _)).trans ((tf_go_s tHC_48).trans tR_48))
noncomputable def tK_49 : tc_Ct := (51, (4, 2), [(2, ([], 0), 0), (0, ([(0, 1)], 0), 0), (0, ([(1, 1)], 0), 0), (2, ([], 0), 1), (0, ([], 0), 0), (0, ([(2, 1)], 0), 0)], ([([(0, -1)], 2147483647), ([(0, 1)], 2147483648), ([(1, -1)], 2147483647), ([(1, 1)], 2147483648), ([(2, -1)], 3661), ([(2, 1)], 0), ([(3, -1)], 8192), ([(3, 1)], -14), ([(2, -1), (3, 1)], 0), ([(2, 1), (3, -1)], 8183), ([(2, 1), (3, 1)], -28)], [(0, 167), (1, 193)], [(1, ([(3, 1)], 0))], [], [], [], []), [(167, 0), (167, 1), (167, 2), (167, 3), (167, 4), (167, 5)], [((8, 2), ([([(0, -1)], 2147483647), ([(0, 1)], 2147483648), ([(1, -1)], 2147483647), ([(1, 1)], 2147483648), ([(2, -1)], 3661), ([(2, 1)], 0), ([(3, -1)], 8192), ([(3, 1)], -14), ([(4, -1)], 2147483647), ([(4, 1)], 2147483648), ([(5, -1)], 2147483647), ([(5, 1)], 2147483648), ([(6, -1)], 2147483647), ([(6, 1)], 2147483648), ([(7, -1)], 2147483647), ([(7, 1)], 2147483648), ([(2, -1), (3, 1)], 0), ([(2, 1), (3, -1)], 8183), ([(2, 1), (3, 1)], -28)], [], [(1, ([(3, 1)], 0))], [(0, 0, (0, ([(4, 1)], 0), 0)), (0, 1, (0, ([(5, 1)], 0), 0)), (0, 2, (0, ([(6, 1)], 0), 0)), (0, 3, (0, ([(7, 1)], 0), 0))], [], [], []), some (1, ([], 0), 0), ([], 0), ([], 0))])
noncomputable def tJ_49 : List tc_Pl := []
noncomputable def tC_49 : List tc_Ct := [tK_20, tK_48, tK_10, tK_39, tK_45, tK_23, tK_12, tK_14]
def tM_49 (z : Nat) : Option am_Meth := if z = 52 then some aM_52.1 else if z = 48 then some aM_48.1 else if z = 43 then some aM_43.1 else if z = 31 then some aM_31.1 else if z = 25 then some aM_25.1 else if z = 21 then some aM_21.1 else if z = 19 then some aM_19.1 else if z = 18 then some aM_18.1 else none
set_option maxRecDepth 100000 in
theorem tMs_49 (sa : Nat → Nat) : ∀ z mz, tM_49 z = some mz → am_meth (aP sa) z = some mz := by
  intro z mz h
  unfold tM_49 at h
  rcases de_m h with ⟨rfl, rfl⟩ | h
  · exact (show am_meth (aP sa) 52 = some aM_52.1 from rfl)
  rcases de_m h with ⟨rfl, rfl⟩ | h
  · exact (show am_meth (aP sa) 48 = some aM_48.1 from rfl)
  rcases de_m h with ⟨rfl, rfl⟩ | h
  · exact (show am_meth (aP sa) 43 = some aM_43.1 from rfl)
  rcases de_m h with ⟨rfl, rfl⟩ | h
  · exact (show am_meth (aP sa) 31 = some aM_31.1 from rfl)
  rcases de_m h with ⟨rfl, rfl⟩ | h
  · exact (show am_meth (aP sa) 25 = some aM_25.1 from rfl)
  rcases de_m h with ⟨rfl, rfl⟩ | h
  · exact (show am_meth (aP sa) 21 = some aM_21.1 from rfl)
  rcases de_m h with ⟨rfl, rfl⟩ | h
  · exact (show am_meth (aP sa) 19 = some aM_19.1 from rfl)
  rcases de_m h with ⟨rfl, rfl⟩ | h
  · exact (show am_meth (aP sa) 18 = some aM_18.1 from rfl)
  cases h
noncomputable def tV_49 : tc_Ev := (aQ, tp_T, tp_G.2, tp_Z, tM_49, tC_49, tp_L, tK_49.2.2.2.2.1, aM_51.1, aW_51, tK_49.2.1, tK_49.2.2.2.2.2, tJ_49)
theorem tE_49 : tK_49.2.2.2.2.2.all (tc_wex tK_49.2.1.1 tK_49.2.1.2) = true := by decide +kernel
theorem tSS_49 : tC_49.all (fun c => tw_mg tK_49.2.2.2.2.1 c.2.2.2.2.1) = true := by decide +kernel
theorem tHC_49 : ∀ c ∈ tC_49, c.2.2.2.2.1.all tK_49.2.2.2.2.1.contains = true ∧ c.2.2.2.2.2.all (tc_wex c.2.1.1 c.2.1.2) = true := tf_hc tSS_49 (by
  intro c hc
  have hc : c ∈ ([tK_20, tK_48, tK_10, tK_39, tK_45, tK_23, tK_12, tK_14] : List tc_Ct) := hc
  rcases List.mem_cons.mp hc with rfl | hc
  · exact tE_20
  rcases List.mem_cons.mp hc with rfl | hc
  · exact tE_48
  rcases List.mem_cons.mp hc with rfl | hc
  · exact tE_10
  rcases List.mem_cons.mp hc with rfl | hc
  · exact tE_39
  rcases List.mem_cons.mp hc with rfl | hc
  · exact tE_45
  rcases List.mem_cons.mp hc with rfl | hc
  · exact tE_23
  rcases List.mem_cons.mp hc with rfl | hc
  · exact tE_12
  rcases List.mem_cons.mp hc with rfl | hc
  · exact tE_14
  cases hc)
noncomputable def tH_49_0 : List tc_It := [de_it 0x6010000, de_it 0x101, de_it 0xa010000, de_it 0x10a01010109010101080101010a01080202010601010105010101040101010b0101010c0101000000000000000000000000000000051100020301000202010002040103020000030006, de_it 0x80002010006, de_it 0x8010000, de_it 0x11f01010100000201, de_it 0x1210101012001010200000001, de_it 0x8010000, de_it 0x101, de_it 0x122010101230101000000000000000000000000000000010a00020b01010004020006, de_it 0x5a58565452504e4c42403e3c1412100e0c0a080604020017000d, de_it 0x8010000, de_it 0x10001010d0101010e0101000000000000000000000000000000000c00000000ffffff76ff0002000000007fffffb7ff0a0209020206010006, de_it 0xa010000, de_it 0x103010101020101000000000000000000000000000000010a00020101010008020006, de_it 0x4010000, de_it 0x10800000a020006, de_it 0x5452504e4c4a484644421c1a18161412100e0c0a080604020019000d, de_it 0x8010000, de_it 0x109010101080101010a01010109010101080101010601040201010a01080202010601010105010101040101010a01080202010601010105010101040101000100010000000000000000000000000000000318000203010002020100000302000c030006, de_it 0x461c1a18161412100e0c0a080604020010000d, de_it 0x2010000, de_it 0x800000e020006, de_it 0x80002010006, de_it 0x2010000, de_it 0x11901010100000201, de_it 0x10010000, de_it 0x101, de_it 0x12010000, de_it 0x10a010101090101010801010117010101160101011501010114010101130101011201010111010101100101010a0108020201060101010501010104010101030101010201010101010101000101000000000000000000000000000100011b00021a010002190100021801000217010400010007]
set_option maxRecDepth 100000 in
theorem tR_49 : tf_go tV_49 tK_49.2.1.1 tK_49.2.1.2 none tH_49_0 [(tK_49.2.1, tK_49.2.2.2.1, 0, tc_args 0 tK_49.2.2.1, [], ([], 0), ([], 0))] = true := by decide +kernel
set_option maxRecDepth 100000 in
theorem tT_49 {RO : am_O} {sa : Nat → Nat} (h_10 : tc_true (aP sa) tp_G RO tp_T tp_Z tK_10) (h_12 : tc_true (aP sa) tp_G RO tp_T tp_Z tK_12) (h_14 : tc_true (aP sa) tp_G RO tp_T tp_Z tK_14) (h_20 : tc_true (aP sa) tp_G RO tp_T tp_Z tK_20) (h_23 : tc_true (aP sa) tp_G RO tp_T tp_Z tK_23) (h_39 : tc_true (aP sa) tp_G RO tp_T tp_Z tK_39) (h_45 : tc_true (aP sa) tp_G RO tp_T tp_Z tK_45) (h_48 : tc_true (aP sa) tp_G RO tp_T tp_Z tK_48) : tc_true (aP sa) tp_G RO tp_T tp_Z tK_49 := by
  have hC : ∀ c ∈ tC_49, tc_true (aP sa) tp_G RO tp_T tp_Z c := by
    intro c hc
    have hc : c ∈ ([tK_20, tK_48, tK_10, tK_39, tK_45, tK_23, tK_12, tK_14] : List tc_Ct) := hc
    rcases List.mem_cons.mp hc with rfl | hc
    · exact h_20
    rcases List.mem_cons.mp hc with rfl | hc
    · exact h_48
    rcases List.mem_cons.mp hc with rfl | hc
    · exact h_10
    rcases List.mem_cons.mp hc with rfl | hc
    · exact h_39
    rcases List.mem_cons.mp hc with rfl | hc
    · exact h_45
    rcases List.mem_cons.mp hc with rfl | hc
    · exact h_23
    rcases List.mem_cons.mp hc with rfl | hc
    · exact h_12
    rcases List.mem_cons.mp hc with rfl | hc
    · exact h_14
    cases hc
  have hP : ∀ p ∈ tJ_49, ∃ hs, tc_plk (aP sa, tV_49.2) p hs = true := by
    intro p hp
    have hp : p ∈ ([] : List tc_Pl) := hp
    cases hp
  exact tc_main (mt := aM_51.1) (hs := tH_49_0) (PL := tJ_49) ⟨tp_G_ok, tMs_49 _, hC, tp_L_ok, tp_G_re⟩ (show am_meth (aP sa) 51 = some aM_51.1 from rfl) aX_51 (by decide +kernel) hP ((tc_go_sa (aP_sa sa _)).trans ((tf_go_s tHC_49).trans tR_49))
noncomputable def tK_50 : tc_Ct := (49, (2, 2), [(2, ([], 0), 0), (0, ([(0, 1)], 0), 0), (0, ([(1, 1)], 0), 0)], ([([(0, -1)], 2147483647), ([(0, 1)], 2147483648), ([(1, -1)], 2147483647), ([(1, 1)], 2147483648)], [(0, 165), (1, 166)], [], [(0, 0, (2, ([], 0), 1))], [], [], [(1016, [], []), (1024, [], []), (1088, [], []), (1096, [], []), (568, [1], [])]), [(167, 0), (167, 1), (167, 2), (167, 3), (167, 4), (167, 5), (177, 1)], [((2, 2), ([([(0, -1)], 2147483647), ([(0, 1)], 2147483648), ([(1, -1)], 2147483647), ([(1, 1)], 2147483648)], [], [], [], [], [], []), some (1, ([], 0), 0), ([], 0), ([], 0))])
noncomputable def tJ_50 : List tc_Pl := []
noncomputable def tC_50 : List tc_Ct := [tK_47, tK_44, tK_49, tK_16]
def tM_50 (z : Nat) : Option am_Meth := if z = 51 then some aM_51.1 else if z = 50 then some aM_50.1 else if z = 47 then some aM_47.1 else if z = 23 then some aM_23.1 else none
set_option maxRecDepth 100000 in
theorem tMs_50 (sa : Nat → Nat) : ∀ z mz, tM_50 z = some mz → am_meth (aP sa) z = some mz := by
  intro z mz h
  unfold tM_50 at h
  rcases de_m h with ⟨rfl, rfl⟩ | h
  · exact (show am_meth (aP sa) 51 = some aM_51.1 from rfl)
  rcases de_m h with ⟨rfl, rfl⟩ | h
  · exact (show am_meth (aP sa) 50 = some aM_50.1 from rfl)
  rcases de_m h with ⟨rfl, rfl⟩ | h
  · exact (show am_meth (aP sa) 47 = some aM_47.1 from rfl)
  rcases de_m h with ⟨rfl, rfl⟩ | h
  · exact (show am_meth (aP sa) 23 = some aM_23.1 from rfl)
  cases h
noncomputable def tV_50 : tc_Ev := (aQ, tp_T, tp_G.2, tp_Z, tM_50, tC_50, tp_L, tK_50.2.2.2.2.1, aM_49.1, aW_49, tK_50.2.1, tK_50.2.2.2.2.2, tJ_50)
theorem tE_50 : tK_50.2.2.2.2.2.all (tc_wex tK_50.2.1.1 tK_50.2.1.2) = true := by decide +kernel
theorem tSS_50 : tC_50.all (fun c => tw_mg tK_50.2.2.2.2.1 c.2.2.2.2.1) = true := by decide +kernel
theorem tHC_50 : ∀ c ∈ tC_50, c.2.2.2.2.1.all tK_50.2.2.2.2.1.contains = true ∧ c.2.2.2.2.2.all (tc_wex c.2.1.1 c.2.1.2) = true := tf_hc tSS_50 (by
  intro c hc
  have hc : c ∈ ([tK_47, tK_44, tK_49, tK_16] : List tc_Ct) := hc
  rcases List.mem_cons.mp hc with rfl | hc
  · exact tE_47
  rcases List.mem_cons.mp hc with rfl | hc
  · exact tE_44
  rcases List.mem_cons.mp hc with rfl | hc
  · exact tE_49
  rcases List.mem_cons.mp hc with rfl | hc
  · exact tE_16
  cases hc)
noncomputable def tH_50_0 : List tc_It := [de_it 0x2010000, de_it 0x101010101000101000000000000000000000000000000000a000200010100010006, de_it 0x10106010100000300000001, de_it 0x2010000, de_it 0x1030101010201010101010101000101000000000000000000000000000100010c0000010007, de_it 0x10000010701010300000001, de_it 0x2010000, de_it 0x103010101020101000000000000000000000000000000000a000201010102010006, de_it 0x10000010901010300000001, de_it 0x2010000, de_it 0x1030101010201010105010101040101000000000000000000000000000100010c0000010007, de_it 0x1010a010100000300000001, de_it 0x2010000, de_it 0x2, de_it 0x2, de_it 0x6010000, de_it 0x2, de_it 0x2, de_it 0x8010011, de_it 0x6010010, de_it 0x4010000, de_it 0x2, de_it 0x2, de_it 0x6010010, de_it 0x10e010d0201010e010c020101100101010d0101010c0101010e0101010f01010108010101070101010501010104010100000000000000000000000000000005130002020100020301000201010002000104080404030006, de_it 0x4010000, de_it 0x2, de_it 0x1100101010d0101010c0101010e0101010f0101000000000000000000000000000000000d000202010002030102080606030006, de_it 0x4a484442403e3c3a3836201e1c1a18100e0a0813000d, de_it 0x2010000, de_it 0x1030101010201010101010101000101000000000000000000000000000100010c0000010007]
set_option maxRecDepth 100000 in
theorem tR_50 : tf_go tV_50 tK_50.2.1.1 tK_50.2.1.2 none tH_50_0 [(tK_50.2.1, tK_50.2.2.2.1, 0, tc_args 0 tK_50.2.2.1, [], ([], 0), ([], 0))] = true := by decide +kernel
set_option maxRecDepth 100000 in
theorem tT_50 {RO : am_O} {sa : Nat → Nat} (h_16 : tc_true (aP sa) tp_G RO tp_T tp_Z tK_16) (h_44 : tc_true (aP sa) tp_G RO tp_T tp_Z tK_44) (h_47 : tc_true (aP sa) tp_G RO tp_T tp_Z tK_47) (h_49 : tc_true (aP sa) tp_G RO tp_T tp_Z tK_49) : tc_true (aP sa) tp_G RO tp_T tp_Z tK_50 := by
  have hC : ∀ c ∈ tC_50, tc_true (aP sa) tp_G RO tp_T tp_Z c := by
    intro c hc
    have hc : c ∈ ([tK_47, tK_44, tK_49, tK_16] : List tc_Ct) := hc
    rcases List.mem_cons.mp hc with rfl | hc
    · exact h_47
    rcases List.mem_cons.mp hc with rfl | hc
    · exact h_44
    rcases List.mem_cons.mp hc with rfl | hc
    · exact h_49
    rcases List.mem_cons.mp hc with rfl | hc
    · exact h_16
    cases hc
  have hP : ∀ p ∈ tJ_50, ∃ hs, tc_plk (aP sa, tV_50.2) p hs = true := by
    intro p hp
    have hp : p ∈ ([] : List tc_Pl) := hp
    cases hp
  exact tc_main (mt := aM_49.1) (hs := tH_50_0) (PL := tJ_50) ⟨tp_G_ok, tMs_50 _, hC, tp_L_ok, tp_G_re⟩ (show am_meth (aP sa) 49 = some aM_49.1 from rfl) aX_49 (by decide +kernel) hP ((tc_go_sa (aP_sa sa _)).trans ((tf_go_s tHC_50).trans tR_50))
noncomputable def tK_51 : tc_Ct := (54, (4, 2), [(2, ([], 0), 0), (0, ([(0, 1)], 0), 0), (0, ([(1, 1)], 0), 0), (1, ([], 0), 0), (2, ([], 0), 1), (0, ([], 0), 0), (0, ([(2, 1)], 0), 0)], ([([(0, -1)], 255), ([(0, 1)], -1), ([(1, -1)], 2147483647), ([(1, 1)], 2147483648), ([(2, -1)], 800), ([(2, 1)], 0), ([(3, -1)], 8192), ([(3, 1)], -64), ([(0, -1), (2, -1)], 802), ([(0, -1), (2, 1)], 246), ([(0, -1), (3, 1)], 55), ([(2, -1), (3, -1)], 8201), ([(2, -1), (3, 1)], 0), ([(2, 1), (3, -1)], 8183), ([(0, -1), (2, -1), (3, 1)], 64)], [(0, 167), (1, 193)], [(1, ([(3, 1)], 0))], [], [], [], []), [(167, 0), (167, 1), (167, 2), (167, 3), (167, 4), (167, 5)], [((4, 2), ([([(0, -1)], 255), ([(0, 1)], -1), ([(1, -1)], 2147483647), ([(1, 1)], 2147483648), ([(2, -1)], 800), ([(2, 1)], 0), ([(3, -1)], 8192), ([(3, 1)], -64), ([(0, -1), (2, -1)], 802), ([(0, -1), (2, 1)], 246), ([(0, -1), (3, 1)], 55), ([(2, -1), (3, -1)], 8201), ([(2, -1), (3, 1)], 0), ([(2, 1), (3, -1)], 8183), ([(0, -1), (2, -1), (3, 1)], 64)], [], [(1, ([(3, 1)], 0))], [], [], [], []), some (0, ([], 0), 0), ([], 0), ([], 0)), ((8, 2), ([([(0, -1)], 255), ([(0, 1)], -1), ([(1, -1)], 2147483577), ([(1, 1)], -2), ([(2, -1)], 800), ([(2, 1)], 0), ([(3, -1)], 8192), ([(3, 1)], -64), ([(4, -1)], 2147483647), ([(4, 1)], 2147483648), ([(5, -1)], 2147483647), ([(5, 1)], 2147483648), ([(6, -1)], 2147483647), ([(6, 1)], 2147483648), ([(7, -1)], 2147483647), ([(7, 1)], 2147483648), ([(0, -1), (2, -1)], 802), ([(0, -1), (2, 1)], 246), ([(0, -1), (3, 1)], 55), ([(2, -1), (3, -1)], 8201), ([(2, -1), (3, 1)], 0), ([(2, 1), (3, -1)], 8183), ([(0, -1), (2, -1), (3, 1)], 64)], [], [(1, ([(3, 1)], 0))], [(0, 0, (0, ([(4, 1)], 0), 0)), (0, 1, (0, ([(5, 1)], 0), 0)), (0, 2, (0, ([(6, 1)], 0), 0)), (0, 3, (0, ([(7, 1)], 0), 0))], [], [], []), some (0, ([], 1), 0), ([], 0), ([], 0))])
noncomputable def tJ_51 : List tc_Pl := []
noncomputable def tC_51 : List tc_Ct := [tK_39, tK_10, tK_23, tK_12, tK_14, tK_48]
def tM_51 (z : Nat) : Option am_Meth := if z = 52 then some aM_52.1 else if z = 43 then some aM_43.1 else if z = 31 then some aM_31.1 else if z = 21 then some aM_21.1 else if z = 19 then some aM_19.1 else if z = 18 then some aM_18.1 else none
set_option maxRecDepth 100000 in
theorem tMs_51 (sa : Nat → Nat) : ∀ z mz, tM_51 z = some mz → am_meth (aP sa) z = some mz := by
  intro z mz h
  unfold tM_51 at h
  rcases de_m h with ⟨rfl, rfl⟩ | h
  · exact (show am_meth (aP sa) 52 = some aM_52.1 from rfl)
  rcases de_m h with ⟨rfl, rfl⟩ | h
  · exact (show am_meth (aP sa) 43 = some aM_43.1 from rfl)
  rcases de_m h with ⟨rfl, rfl⟩ | h
  · exact (show am_meth (aP sa) 31 = some aM_31.1 from rfl)
  rcases de_m h with ⟨rfl, rfl⟩ | h
  · exact (show am_meth (aP sa) 21 = some aM_21.1 from rfl)
  rcases de_m h with ⟨rfl, rfl⟩ | h
  · exact (show am_meth (aP sa) 19 = some aM_19.1 from rfl)
  rcases de_m h with ⟨rfl, rfl⟩ | h
  · exact (show am_meth (aP sa) 18 = some aM_18.1 from rfl)
  cases h
noncomputable def tV_51 : tc_Ev := (aQ, tp_T, tp_G.2, tp_Z, tM_51, tC_51, tp_L, tK_51.2.2.2.2.1, aM_54.1, aW_54, tK_51.2.1, tK_51.2.2.2.2.2, tJ_51)
theorem tE_51 : tK_51.2.2.2.2.2.all (tc_wex tK_51.2.1.1 tK_51.2.1.2) = true := by decide +kernel
theorem tSS_51 : tC_51.all (fun c => tw_mg tK_51.2.2.2.2.1 c.2.2.2.2.1) = true := by decide +kernel
theorem tHC_51 : ∀ c ∈ tC_51, c.2.2.2.2.1.all tK_51.2.2.2.2.1.contains = true ∧ c.2.2.2.2.2.all (tc_wex c.2.1.1 c.2.1.2) = true := tf_hc tSS_51 (by
  intro c hc
  have hc : c ∈ ([tK_39, tK_10, tK_23, tK_12, tK_14, tK_48] : List tc_Ct) := hc
  rcases List.mem_cons.mp hc with rfl | hc
  · exact tE_39
  rcases List.mem_cons.mp hc with rfl | hc
  · exact tE_10
  rcases List.mem_cons.mp hc with rfl | hc
  · exact tE_23
  rcases List.mem_cons.mp hc with rfl | hc
  · exact tE_12
  rcases List.mem_cons.mp hc with rfl | hc
  · exact tE_14
  rcases List.mem_cons.mp hc with rfl | hc
  · exact tE_48
  cases hc)
noncomputable def tH_51_0 : List tc_It := [de_it 0x6010000, de_it 0x101, de_it 0x4010000, de_it 0x101, de_it 0x6010000, de_it 0x300000001, de_it 0x2010000, de_it 0x10e0101010d0101010c0101010b0101010a0101010901010108010101070101010d010b020201050101010401010103010101130101010101010100010100000000000000000001000100010001170000010007, de_it 0x4010000, de_it 0x300000001, de_it 0x2010000, de_it 0x10e0101010d0101010c0101010b0101010a0101010901010108010101070101010d010b020201050101010401010114010101020101010101010100010100000000000000000001000100010001170000010007, de_it 0x2010000, de_it 0x300000001, de_it 0x2010000, de_it 0x10e0101010d0101010c0101010b0101010a0101010901010108010101070101010d010b020201050101010401010113010101140101010101010100010100000000000000000001000100010001170000010007, de_it 0x4010000, de_it 0x300000001, de_it 0x2010000, de_it 0x10e0101010d0101010c0101010b0101010a0101010901010108010101070101010d010b020201050101010401010113010101140101010101010100010100000000000000000001000100010001170000010007, de_it 0x2010000, de_it 0x300000001, de_it 0x2010000, de_it 0x10e0101010d0101010c0101010b0101010a0101010901010108010101070101010d010b020201050101010401010113010101140101010101010100010100000000000000000001000100010001170000010007, de_it 0x4010000, de_it 0x300000001, de_it 0x2010000, de_it 0x10e0101010d0101010c0101010b0101010a0101010901010108010101070101010d010b020201050101010401010113010101140101010101010100010100000000000000000001000100010001170000010007, de_it 0x8010000, de_it 0x1000100010001000000000000000000000000000000000c00000000ffffff76ff00000000007fffffbaff000200010006, de_it 0x2010000, de_it 0x300000001, de_it 0x6010000, de_it 0x100010117010101180101000000000000000000000000000000000c00000000ffffff76ff00000205010200010006, de_it 0xa010000, de_it 0x1150101011601010200000001, de_it 0x2010000, de_it 0x100010116010101150101000000000000000000000000000000000c00000000ffffff76ff00000000007fffffbaff0104010200010006, de_it 0x58564c4a302e2c2a28261c1a18161412100e0c0a08020017000d, de_it 0x8010000, de_it 0x101, de_it 0x8010000, de_it 0x1000101010101010200000001, de_it 0x101010101000101000000000000000000000000000000010a01020001010002020006, de_it 0x10010000, de_it 0x108000004020006, de_it 0x58565452504e4c4a4846302e2422201e1c1a18161412100e0c0a08060402001f000d, de_it 0x8010000, de_it 0x10b0101010a0101010501030201010b0101010a01010109010101050101010b01090202010301010102010101050101010b0109020201030101010201010001000100000000000000000000000000000003180002030100020201000003020006030006, de_it 0x5828262422201e1c1a18161412100e0c0a080604020016000d, de_it 0x2010000, de_it 0x8000008020006, de_it 0x8000a010006, de_it 0x2010000, de_it 0x11f01010100000201, de_it 0x2010000, de_it 0x300000001, de_it 0x2010000, de_it 0x10c0101010b0101010a01010109010101080101010701010106010101050101010b010902020103010101020101010d0101010e0101010101010100010100000000000000000001000100010001170000010007, de_it 0x4010000, de_it 0x10c0101010b0101010a010101090101010801010107010101060101011d0101011c0101011b0101011a01010119010101180101011701010116010101050101010b010902020103010101020101010d0101010e01010101010101000101000000000000000000010001000100011f000216010002150100021401000213010402010007, de_it 0x2010000, de_it 0x10e0101010d0101010c0101010b0101010a0101010901010108010101070101010d010b020201050101010401010113010101140101010101010100010100000000000000000001000100010001170000010007]
set_option maxRecDepth 100000 in
theorem tR_51 : tf_go tV_51 tK_51.2.1.1 tK_51.2.1.2 none tH_51_0 [(tK_51.2.1, tK_51.2.2.2.1, 0, tc_args 0 tK_51.2.2.1, [], ([], 0), ([], 0))] = true := by decide +kernel
set_option maxRecDepth 100000 in
theorem tT_51 {RO : am_O} {sa : Nat → Nat} (h_10 : tc_true (aP sa) tp_G RO tp_T tp_Z tK_10) (h_12 : tc_true (aP sa) tp_G RO tp_T tp_Z tK_12) (h_14 : tc_true (aP sa) tp_G RO tp_T tp_Z tK_14) (h_23 : tc_true (aP sa) tp_G RO tp_T tp_Z tK_23) (h_39 : tc_true (aP sa) tp_G RO tp_T tp_Z tK_39) (h_48 : tc_true (aP sa) tp_G RO tp_T tp_Z tK_48) : tc_true (aP sa) tp_G RO tp_T tp_Z tK_51 := by
  have hC : ∀ c ∈ tC_51, tc_true (aP sa) tp_G RO tp_T tp_Z c := by
    intro c hc
    have hc : c ∈ ([tK_39, tK_10, tK_23, tK_12, tK_14, tK_48] : List tc_Ct) := hc
    rcases List.mem_cons.mp hc with rfl | hc
    · exact h_39
    rcases List.mem_cons.mp hc with rfl | hc
    · exact h_10
    rcases List.mem_cons.mp hc with rfl | hc
    · exact h_23
    rcases List.mem_cons.mp hc with rfl | hc
    · exact h_12
    rcases List.mem_cons.mp hc with rfl | hc
    · exact h_14
    rcases List.mem_cons.mp hc with rfl | hc
    · exact h_48
    cases hc
  have hP : ∀ p ∈ tJ_51, ∃ hs, tc_plk (aP sa, tV_51.2) p hs = true := by
    intro p hp
    have hp : p ∈ ([] : List tc_Pl) := hp
    cases hp
  exact tc_main (mt := aM_54.1) (hs := tH_51_0) (PL := tJ_51) ⟨tp_G_ok, tMs_51 _, hC, tp_L_ok, tp_G_re⟩ (show am_meth (aP sa) 54 = some aM_54.1 from rfl) aX_54 (by decide +kernel) hP ((tc_go_sa (aP_sa sa _)).trans ((tf_go_s tHC_51).trans tR_51))
noncomputable def tK_52 : tc_Ct := (53, (2, 2), [(2, ([], 0), 0), (0, ([(0, 1)], 0), 0), (0, ([(1, 1)], 0), 0), (1, ([], 0), 0)], ([([(0, -1)], 2147483647), ([(0, 1)], 2147483648), ([(1, -1)], 2147483647), ([(1, 1)], 2147483648)], [(0, 165), (1, 166)], [], [(0, 0, (2, ([], 0), 1))], [], [], [(1016, [], []), (1024, [], []), (1088, [], []), (1096, [], []), (568, [1], [])]), [(167, 0), (167, 1), (167, 2), (167, 3), (167, 4), (167, 5), (177, 1)], [((3, 2), ([([(0, -1)], 2147483647), ([(0, 1)], 2147483648), ([(1, -1)], 2147483647), ([(1, 1)], 2147483648), ([(2, -1)], 1), ([(2, 1)], 1)], [], [], [], [], [], []), some (0, ([(2, 1)], 0), 0), ([], 0), ([], 0))])
noncomputable def tJ_52 : List tc_Pl := []
noncomputable def tC_52 : List tc_Ct := [tK_47, tK_51, tK_16]
def tM_52 (z : Nat) : Option am_Meth := if z = 54 then some aM_54.1 else if z = 50 then some aM_50.1 else if z = 23 then some aM_23.1 else none
set_option maxRecDepth 100000 in
theorem tMs_52 (sa : Nat → Nat) : ∀ z mz, tM_52 z = some mz → am_meth (aP sa) z = some mz := by
  intro z mz h
  unfold tM_52 at h
  rcases de_m h with ⟨rfl, rfl⟩ | h
  · exact (show am_meth (aP sa) 54 = some aM_54.1 from rfl)
  rcases de_m h with ⟨rfl, rfl⟩ | h
  · exact (show am_meth (aP sa) 50 = some aM_50.1 from rfl)
  rcases de_m h with ⟨rfl, rfl⟩ | h
  · exact (show am_meth (aP sa) 23 = some aM_23.1 from rfl)
  cases h
noncomputable def tV_52 : tc_Ev := (aQ, tp_T, tp_G.2, tp_Z, tM_52, tC_52, tp_L, tK_52.2.2.2.2.1, aM_53.1, aW_53, tK_52.2.1, tK_52.2.2.2.2.2, tJ_52)
theorem tE_52 : tK_52.2.2.2.2.2.all (tc_wex tK_52.2.1.1 tK_52.2.1.2) = true := by decide +kernel
theorem tSS_52 : tC_52.all (fun c => tw_mg tK_52.2.2.2.2.1 c.2.2.2.2.1) = true := by decide +kernel
theorem tHC_52 : ∀ c ∈ tC_52, c.2.2.2.2.1.all tK_52.2.2.2.2.1.contains = true ∧ c.2.2.2.2.2.all (tc_wex c.2.1.1 c.2.1.2) = true := tf_hc tSS_52 (by
  intro c hc
  have hc : c ∈ ([tK_47, tK_51, tK_16] : List tc_Ct) := hc
  rcases List.mem_cons.mp hc with rfl | hc
  · exact tE_47
  rcases List.mem_cons.mp hc with rfl | hc
  · exact tE_51
  rcases List.mem_cons.mp hc with rfl | hc
  · exact tE_16
  cases hc)
noncomputable def tH_52_0 : List tc_It := [de_it 0x2010000, de_it 0x101010101000101000000000000000000000000000000000a000200010100010006, de_it 0x10000010601010300000001, de_it 0x2010000, de_it 0x1000101030101010201010101010101000101000000000000000000000000000100010e01000100010007, de_it 0x10107010100000300000001, de_it 0x2010000, de_it 0x2, de_it 0x2, de_it 0x8010000, de_it 0x2, de_it 0x2, de_it 0x8010011, de_it 0x6010010, de_it 0x4010000, de_it 0x2, de_it 0x2, de_it 0x6010010, de_it 0x10d01040201010b01090201010d0101010c01090201010a01040201010b01040201010c01040201010a010101090101010b0101010c01010103010101020101010501010104010100000000000000000000000000000006170002020100020301000201010002000104080402030006, de_it 0x4010000, de_it 0x2, de_it 0x10d0101010a010101090101010b0101010c0101000000000000000000000000000000000d000202010002030102080604030006, de_it 0x2010000, de_it 0x10124010100000300000001, de_it 0x2010000, de_it 0x1000101030101010201010105010101040101000000000000000000000000000100010e00000100010007, de_it 0x4010000, de_it 0x2, de_it 0x10d0101010a010101090101010b0101010c0101000000000000000000000000000000000d000202010002030102080604030006, de_it 0x4c4a464442403e3c3a383634323026241a181614120a0817000d, de_it 0x2010000, de_it 0x10000011801010300000001, de_it 0x4010000, de_it 0x1000101080101010701010101010101000101000000000000000000000000000100010e02000100010007]
set_option maxRecDepth 100000 in
theorem tR_52 : tf_go tV_52 tK_52.2.1.1 tK_52.2.1.2 none tH_52_0 [(tK_52.2.1, tK_52.2.2.2.1, 0, tc_args 0 tK_52.2.2.1, [], ([], 0), ([], 0))] = true := by decide +kernel
set_option maxRecDepth 100000 in
theorem tT_52 {RO : am_O} {sa : Nat → Nat} (h_16 : tc_true (aP sa) tp_G RO tp_T tp_Z tK_16) (h_47 : tc_true (aP sa) tp_G RO tp_T tp_Z tK_47) (h_51 : tc_true (aP sa) tp_G RO tp_T tp_Z tK_51) : tc_true (aP sa) tp_G RO tp_T tp_Z tK_52 := by
  have hC : ∀ c ∈ tC_52, tc_true (aP sa) tp_G RO tp_T tp_Z c := by
    intro c hc
    have hc : c ∈ ([tK_47, tK_51, tK_16] : List tc_Ct) := hc
    rcases List.mem_cons.mp hc with rfl | hc
    · exact h_47
    rcases List.mem_cons.mp hc with rfl | hc
    · exact h_51
    rcases List.mem_cons.mp hc with rfl | hc
    · exact h_16
    cases hc
  have hP : ∀ p ∈ tJ_52, ∃ hs, tc_plk (aP sa, tV_52.2) p hs = true := by
    intro p hp
    have hp : p ∈ ([] : List tc_Pl) := hp
    cases hp
  exact tc_main (mt := aM_53.1) (hs := tH_52_0) (PL := tJ_52) ⟨tp_G_ok, tMs_52 _, hC, tp_L_ok, tp_G_re⟩ (show am_meth (aP sa) 53 = some aM_53.1 from rfl) aX_53 (by decide +kernel) hP ((tc_go_sa (aP_sa sa _)).trans ((tf_go_s tHC_52).trans tR_52))
noncomputable def tK_53 : tc_Ct := (306, (0, 1), [(2, ([], 0), 0)], ([], [(0, 165)], [], [], [], [], []), [(165, 16)], [((2, 1), ([([(0, -1)], 3), ([(0, 1)], 3), ([(1, -1)], 4), ([(1, 1)], -1), ([(0, -1), (1, 1)], -1), ([(0, 1), (1, 1)], -1)], [], [], [(0, 16, (0, ([(1, 1)], 0), 0))], [], [], []), some (0, ([(0, 1)], 0), 0), ([], 0), ([], 0))])
noncomputable def tJ_53 : List tc_Pl := []
noncomputable def tC_53 : List tc_Ct := []
def tM_53 (z : Nat) : Option am_Meth := none
set_option maxRecDepth 100000 in
theorem tMs_53 (sa : Nat → Nat) : ∀ z mz, tM_53 z = some mz → am_meth (aP sa) z = some mz := fun z mz h => by cases h
noncomputable def tV_53 : tc_Ev := (aQ, tp_T, tp_G.2, tp_Z, tM_53, tC_53, tp_L, tK_53.2.2.2.2.1, aM_306.1, aW_306, tK_53.2.1, tK_53.2.2.2.2.2, tJ_53)
theorem tE_53 : tK_53.2.2.2.2.2.all (tc_wex tK_53.2.1.1 tK_53.2.1.2) = true := by decide +kernel
theorem tSS_53 : tC_53.all (fun c => tw_mg tK_53.2.2.2.2.1 c.2.2.2.2.1) = true := by decide +kernel
theorem tHC_53 : ∀ c ∈ tC_53, c.2.2.2.2.1.all tK_53.2.2.2.2.1.contains = true ∧ c.2.2.2.2.2.all (tc_wex c.2.1.1 c.2.1.2) = true := tf_hc tSS_53 (by
  intro c hc
  have hc : c ∈ ([] : List tc_Ct) := hc
  cases hc)
noncomputable def tH_53_0 : List tc_It := [de_it 0x2010000, de_it 0x2, de_it 0x2010000, de_it 0x300000001, de_it 0x4010000, de_it 0x2, de_it 0x2010000, de_it 0x1020101010001010200000001, de_it 0x102010101000101000000000400000003, de_it 0x2010000, de_it 0x2, de_it 0x2010000, de_it 0x1020101010001010200000001, de_it 0x2000101000101000101010201010100010101020101000000000000000000000000000100010e02020001000200010200010007, de_it 0x2010000, de_it 0x102010101020101010201010101010100010001000000000000000000000000000100010e0002000105000200010007]
set_option maxRecDepth 100000 in
theorem tR_53 : tf_go tV_53 tK_53.2.1.1 tK_53.2.1.2 none tH_53_0 [(tK_53.2.1, tK_53.2.2.2.1, 0, tc_args 0 tK_53.2.2.1, [], ([], 0), ([], 0))] = true := by decide +kernel
set_option maxRecDepth 100000 in
theorem tT_53 {RO : am_O} {sa : Nat → Nat} : tc_true (aP sa) tp_G RO tp_T tp_Z tK_53 := by
  have hC : ∀ c ∈ tC_53, tc_true (aP sa) tp_G RO tp_T tp_Z c := by
    intro c hc
    have hc : c ∈ ([] : List tc_Ct) := hc
    cases hc
  have hP : ∀ p ∈ tJ_53, ∃ hs, tc_plk (aP sa, tV_53.2) p hs = true := by
    intro p hp
    have hp : p ∈ ([] : List tc_Pl) := hp
    cases hp
  exact tc_main (mt := aM_306.1) (hs := tH_53_0) (PL := tJ_53) ⟨tp_G_ok, tMs_53 _, hC, tp_L_ok, tp_G_re⟩ (show am_meth (aP sa) 306 = some aM_306.1 from rfl) aX_306 (by decide +kernel) hP ((tc_go_sa (aP_sa sa _)).trans ((tf_go_s tHC_53).trans tR_53))
noncomputable def tK_54 : tc_Ct := (308, (1, 1), [(2, ([], 0), 0), (0, ([(0, 1)], 0), 0)], ([([(0, -1)], 2147483647), ([(0, 1)], 2147483648)], [(0, 165)], [], [], [], [], []), [], [((1, 1), ([([(0, -1)], 2147483647), ([(0, 1)], 2147483648)], [], [], [], [], [], []), some (0, ([], 0), 0), ([], 0), ([], 0)), ((1, 1), ([([(0, -1)], 3), ([(0, 1)], 0)], [], [], [], [], [], []), some (0, ([], 1), 0), ([], 0), ([], 0))])
noncomputable def tJ_54 : List tc_Pl := []
noncomputable def tC_54 : List tc_Ct := []
def tM_54 (z : Nat) : Option am_Meth := none
set_option maxRecDepth 100000 in
theorem tMs_54 (sa : Nat → Nat) : ∀ z mz, tM_54 z = some mz → am_meth (aP sa) z = some mz := fun z mz h => by cases h
noncomputable def tV_54 : tc_Ev := (aQ, tp_T, tp_G.2, tp_Z, tM_54, tC_54, tp_L, tK_54.2.2.2.2.1, aM_308.1, aW_308, tK_54.2.1, tK_54.2.2.2.2.2, tJ_54)
theorem tE_54 : tK_54.2.2.2.2.2.all (tc_wex tK_54.2.1.1 tK_54.2.1.2) = true := by decide +kernel
theorem tSS_54 : tC_54.all (fun c => tw_mg tK_54.2.2.2.2.1 c.2.2.2.2.1) = true := by decide +kernel
theorem tHC_54 : ∀ c ∈ tC_54, c.2.2.2.2.1.all tK_54.2.2.2.2.1.contains = true ∧ c.2.2.2.2.2.all (tc_wex c.2.1.1 c.2.1.2) = true := tf_hc tSS_54 (by
  intro c hc
  have hc : c ∈ ([] : List tc_Ct) := hc
  cases hc)
noncomputable def tH_54_0 : List tc_It := [de_it 0x2010000, de_it 0x300000001, de_it 0x2010000, de_it 0x101010101020101000000000000000000010001000100010a0000010007, de_it 0x4010000, de_it 0x2, de_it 0x300000001, de_it 0x2010000, de_it 0x102010101000101000000000000000000010001000100010a0000010007, de_it 0x4010000, de_it 0x1020101010501040201000000000000000000010001000100010a0002010007]
set_option maxRecDepth 100000 in
theorem tR_54 : tf_go tV_54 tK_54.2.1.1 tK_54.2.1.2 none tH_54_0 [(tK_54.2.1, tK_54.2.2.2.1, 0, tc_args 0 tK_54.2.2.1, [], ([], 0), ([], 0))] = true := by decide +kernel
set_option maxRecDepth 100000 in
theorem tT_54 {RO : am_O} {sa : Nat → Nat} : tc_true (aP sa) tp_G RO tp_T tp_Z tK_54 := by
  have hC : ∀ c ∈ tC_54, tc_true (aP sa) tp_G RO tp_T tp_Z c := by
    intro c hc
    have hc : c ∈ ([] : List tc_Ct) := hc
    cases hc
  have hP : ∀ p ∈ tJ_54, ∃ hs, tc_plk (aP sa, tV_54.2) p hs = true := by
    intro p hp
    have hp : p ∈ ([] : List tc_Pl) := hp
    cases hp
  exact tc_main (mt := aM_308.1) (hs := tH_54_0) (PL := tJ_54) ⟨tp_G_ok, tMs_54 _, hC, tp_L_ok, tp_G_re⟩ (show am_meth (aP sa) 308 = some aM_308.1 from rfl) aX_308 (by decide +kernel) hP ((tc_go_sa (aP_sa sa _)).trans ((tf_go_s tHC_54).trans tR_54))
noncomputable def tK_55 : tc_Ct := (307, (1, 1), [(2, ([], 0), 0), (0, ([(0, 1)], 0), 0), (1, ([], 0), 0)], ([([(0, -1)], 2147483647), ([(0, 1)], 2147483648)], [(0, 165)], [], [], [], [], []), [(208, 0), (210, 0)], [((2, 1), ([([(0, -1)], 2147483647), ([(0, 1)], 2147483648), ([(1, -1)], 64), ([(1, 1)], 3)], [], [], [], [], [], []), some (0, ([(1, 1)], 0), 0), ([], 0), ([], 0))])
noncomputable def tJ_55 : List tc_Pl := []
noncomputable def tC_55 : List tc_Ct := [tK_54]
def tM_55 (z : Nat) : Option am_Meth := if z = 308 then some aM_308.1 else none
set_option maxRecDepth 100000 in
theorem tMs_55 (sa : Nat → Nat) : ∀ z mz, tM_55 z = some mz → am_meth (aP sa) z = some mz := by
  intro z mz h
  unfold tM_55 at h
  rcases de_m h with ⟨rfl, rfl⟩ | h
  · exact (show am_meth (aP sa) 308 = some aM_308.1 from rfl)
  cases h
noncomputable def tV_55 : tc_Ev := (aQ, tp_T, tp_G.2, tp_Z, tM_55, tC_55, tp_L, tK_55.2.2.2.2.1, aM_307.1, aW_307, tK_55.2.1, tK_55.2.2.2.2.2, tJ_55)
theorem tE_55 : tK_55.2.2.2.2.2.all (tc_wex tK_55.2.1.1 tK_55.2.1.2) = true := by decide +kernel
theorem tSS_55 : tC_55.all (fun c => tw_mg tK_55.2.2.2.2.1 c.2.2.2.2.1) = true := by decide +kernel
theorem tHC_55 : ∀ c ∈ tC_55, c.2.2.2.2.1.all tK_55.2.2.2.2.1.contains = true ∧ c.2.2.2.2.2.all (tc_wex c.2.1.1 c.2.1.2) = true := tf_hc tSS_55 (by
  intro c hc
  have hc : c ∈ ([tK_54] : List tc_Ct) := hc
  rcases List.mem_cons.mp hc with rfl | hc
  · exact tE_54
  cases hc)
noncomputable def tH_55_0 : List tc_It := [de_it 0x4010000, de_it 0x101010101000101000000000000000000000000000000010a00020001010000020006, de_it 0x10000010401010300000001, de_it 0x2010000, de_it 0x100010101010101000101000000000000000000000000000100010c01000100010007, de_it 0x10105010100000300000001, de_it 0x2010000, de_it 0x2, de_it 0x2010000, de_it 0x2010011, de_it 0x105010202010103010102000200010100010002, de_it 0x2010000, de_it 0x300000001, de_it 0x2010000, de_it 0x2, de_it 0x2010000, de_it 0x4010011, de_it 0x10c01020201010301010200000002, de_it 0x2010000, de_it 0x2, de_it 0x2010000, de_it 0x10501020201010301010200000002, de_it 0x2010000, de_it 0x6010011, de_it 0x10e010b0201010901010200000003, de_it 0x2010000, de_it 0x2, de_it 0x4010000, de_it 0x10501020201010301010200000002, de_it 0x2010000, de_it 0x10b0101010901010200000001, de_it 0x10b0101010901010105010202010103010104000200010100010003, de_it 0x2010000, de_it 0x2, de_it 0x2010000, de_it 0x10501020201010301010200000002, de_it 0x1090101010b01010103010101020101000000000000000000000000000100010c020202010100010007, de_it 0x2010000, de_it 0x100010103010101020101000000000000000000000000000100010c05000100010007]
set_option maxRecDepth 100000 in
theorem tR_55 : tf_go tV_55 tK_55.2.1.1 tK_55.2.1.2 none tH_55_0 [(tK_55.2.1, tK_55.2.2.2.1, 0, tc_args 0 tK_55.2.2.1, [], ([], 0), ([], 0))] = true := by decide +kernel
set_option maxRecDepth 100000 in
theorem tT_55 {RO : am_O} {sa : Nat → Nat} (h_54 : tc_true (aP sa) tp_G RO tp_T tp_Z tK_54) : tc_true (aP sa) tp_G RO tp_T tp_Z tK_55 := by
  have hC : ∀ c ∈ tC_55, tc_true (aP sa) tp_G RO tp_T tp_Z c := by
    intro c hc
    have hc : c ∈ ([tK_54] : List tc_Ct) := hc
    rcases List.mem_cons.mp hc with rfl | hc
    · exact h_54
    cases hc
  have hP : ∀ p ∈ tJ_55, ∃ hs, tc_plk (aP sa, tV_55.2) p hs = true := by
    intro p hp
    have hp : p ∈ ([] : List tc_Pl) := hp
    cases hp
  exact tc_main (mt := aM_307.1) (hs := tH_55_0) (PL := tJ_55) ⟨tp_G_ok, tMs_55 _, hC, tp_L_ok, tp_G_re⟩ (show am_meth (aP sa) 307 = some aM_307.1 from rfl) aX_307 (by decide +kernel) hP ((tc_go_sa (aP_sa sa _)).trans ((tf_go_s tHC_55).trans tR_55))
noncomputable def tK_56 : tc_Ct := (311, (0, 2), [(2, ([], 0), 0), (1, ([], 0), 0)], ([], [(0, 165), (1, 166)], [], [(0, 0, (2, ([], 0), 1))], [], [], [(568, [1], [])]), [(167, 0), (167, 1), (167, 2), (167, 3), (167, 4), (167, 5)], [((0, 2), ([], [], [], [], [], [], []), some (1, ([], 0), 0), ([], 0), ([], 0))])
noncomputable def tJ_56 : List tc_Pl := []
noncomputable def tC_56 : List tc_Ct := [tK_10, tK_22, tK_23, tK_14]
def tM_56 (z : Nat) : Option am_Meth := if z = 31 then some aM_31.1 else if z = 30 then some aM_30.1 else if z = 21 then some aM_21.1 else if z = 18 then some aM_18.1 else none
set_option maxRecDepth 100000 in
theorem tMs_56 (sa : Nat → Nat) : ∀ z mz, tM_56 z = some mz → am_meth (aP sa) z = some mz := by
  intro z mz h
  unfold tM_56 at h
  rcases de_m h with ⟨rfl, rfl⟩ | h
  · exact (show am_meth (aP sa) 31 = some aM_31.1 from rfl)
  rcases de_m h with ⟨rfl, rfl⟩ | h
  · exact (show am_meth (aP sa) 30 = some aM_30.1 from rfl)
  rcases de_m h with ⟨rfl, rfl⟩ | h
  · exact (show am_meth (aP sa) 21 = some aM_21.1 from rfl)
  rcases de_m h with ⟨rfl, rfl⟩ | h
  · exact (show am_meth (aP sa) 18 = some aM_18.1 from rfl)
  cases h
noncomputable def tV_56 : tc_Ev := (aQ, tp_T, tp_G.2, tp_Z, tM_56, tC_56, tp_L, tK_56.2.2.2.2.1, aM_311.1, aW_311, tK_56.2.1, tK_56.2.2.2.2.2, tJ_56)
theorem tE_56 : tK_56.2.2.2.2.2.all (tc_wex tK_56.2.1.1 tK_56.2.1.2) = true := by decide +kernel
theorem tSS_56 : tC_56.all (fun c => tw_mg tK_56.2.2.2.2.1 c.2.2.2.2.1) = true := by decide +kernel
theorem tHC_56 : ∀ c ∈ tC_56, c.2.2.2.2.1.all tK_56.2.2.2.2.1.contains = true ∧ c.2.2.2.2.2.all (tc_wex c.2.1.1 c.2.1.2) = true := tf_hc tSS_56 (by
  intro c hc
  have hc : c ∈ ([tK_10, tK_22, tK_23, tK_14] : List tc_Ct) := hc
  rcases List.mem_cons.mp hc with rfl | hc
  · exact tE_10
  rcases List.mem_cons.mp hc with rfl | hc
  · exact tE_22
  rcases List.mem_cons.mp hc with rfl | hc
  · exact tE_23
  rcases List.mem_cons.mp hc with rfl | hc
  · exact tE_14
  cases hc)
noncomputable def tH_56_0 : List tc_It := [de_it 0x2010000, de_it 0x2, de_it 0x2, de_it 0x6010000, de_it 0x10001000000000000000000000000000000010a0000010400020006, de_it 0x4010000, de_it 0x10001000000000000000000000000000000010a0000010402020006, de_it 0x4010000, de_it 0x108000404020006, de_it 0x2010000, de_it 0x8000406020006, de_it 0x10001080000010007]
set_option maxRecDepth 100000 in
theorem tR_56 : tf_go tV_56 tK_56.2.1.1 tK_56.2.1.2 none tH_56_0 [(tK_56.2.1, tK_56.2.2.2.1, 0, tc_args 0 tK_56.2.2.1, [], ([], 0), ([], 0))] = true := by decide +kernel
set_option maxRecDepth 100000 in
theorem tT_56 {RO : am_O} {sa : Nat → Nat} (h_10 : tc_true (aP sa) tp_G RO tp_T tp_Z tK_10) (h_14 : tc_true (aP sa) tp_G RO tp_T tp_Z tK_14) (h_22 : tc_true (aP sa) tp_G RO tp_T tp_Z tK_22) (h_23 : tc_true (aP sa) tp_G RO tp_T tp_Z tK_23) : tc_true (aP sa) tp_G RO tp_T tp_Z tK_56 := by
  have hC : ∀ c ∈ tC_56, tc_true (aP sa) tp_G RO tp_T tp_Z c := by
    intro c hc
    have hc : c ∈ ([tK_10, tK_22, tK_23, tK_14] : List tc_Ct) := hc
    rcases List.mem_cons.mp hc with rfl | hc
    · exact h_10
    rcases List.mem_cons.mp hc with rfl | hc
    · exact h_22
    rcases List.mem_cons.mp hc with rfl | hc
    · exact h_23
    rcases List.mem_cons.mp hc with rfl | hc
    · exact h_14
    cases hc
  have hP : ∀ p ∈ tJ_56, ∃ hs, tc_plk (aP sa, tV_56.2) p hs = true := by
    intro p hp
    have hp : p ∈ ([] : List tc_Pl) := hp
    cases hp
  exact tc_main (mt := aM_311.1) (hs := tH_56_0) (PL := tJ_56) ⟨tp_G_ok, tMs_56 _, hC, tp_L_ok, tp_G_re⟩ (show am_meth (aP sa) 311 = some aM_311.1 from rfl) aX_311 (by decide +kernel) hP ((tc_go_sa (aP_sa sa _)).trans ((tf_go_s tHC_56).trans tR_56))
noncomputable def tK_57 : tc_Ct := (312, (0, 2), [(2, ([], 0), 0), (1, ([], 0), 0), (1, ([], 0), 0)], ([], [(0, 165), (1, 166)], [], [(0, 0, (2, ([], 0), 1))], [], [], [(568, [1], [])]), [(167, 0), (167, 1), (167, 2), (167, 3), (167, 4), (167, 5)], [((0, 2), ([], [], [], [], [], [], []), some (1, ([], 0), 0), ([], 0), ([], 0))])
noncomputable def tJ_57 : List tc_Pl := []
noncomputable def tC_57 : List tc_Ct := [tK_10, tK_22, tK_23, tK_14]
def tM_57 (z : Nat) : Option am_Meth := if z = 31 then some aM_31.1 else if z = 30 then some aM_30.1 else if z = 21 then some aM_21.1 else if z = 18 then some aM_18.1 else none
set_option maxRecDepth 100000 in
theorem tMs_57 (sa : Nat → Nat) : ∀ z mz, tM_57 z = some mz → am_meth (aP sa) z = some mz := by
  intro z mz h
  unfold tM_57 at h
  rcases de_m h with ⟨rfl, rfl⟩ | h
  · exact (show am_meth (aP sa) 31 = some aM_31.1 from rfl)
  rcases de_m h with ⟨rfl, rfl⟩ | h
  · exact (show am_meth (aP sa) 30 = some aM_30.1 from rfl)
  rcases de_m h with ⟨rfl, rfl⟩ | h
  · exact (show am_meth (aP sa) 21 = some aM_21.1 from rfl)
  rcases de_m h with ⟨rfl, rfl⟩ | h
  · exact (show am_meth (aP sa) 18 = some aM_18.1 from rfl)
  cases h
noncomputable def tV_57 : tc_Ev := (aQ, tp_T, tp_G.2, tp_Z, tM_57, tC_57, tp_L, tK_57.2.2.2.2.1, aM_312.1, aW_312, tK_57.2.1, tK_57.2.2.2.2.2, tJ_57)
theorem tE_57 : tK_57.2.2.2.2.2.all (tc_wex tK_57.2.1.1 tK_57.2.1.2) = true := by decide +kernel
theorem tSS_57 : tC_57.all (fun c => tw_mg tK_57.2.2.2.2.1 c.2.2.2.2.1) = true := by decide +kernel
theorem tHC_57 : ∀ c ∈ tC_57, c.2.2.2.2.1.all tK_57.2.2.2.2.1.contains = true ∧ c.2.2.2.2.2.all (tc_wex c.2.1.1 c.2.1.2) = true := tf_hc tSS_57 (by
  intro c hc
  have hc : c ∈ ([tK_10, tK_22, tK_23, tK_14] : List tc_Ct) := hc
  rcases List.mem_cons.mp hc with rfl | hc
  · exact tE_10
  rcases List.mem_cons.mp hc with rfl | hc
  · exact tE_22
  rcases List.mem_cons.mp hc with rfl | hc
  · exact tE_23
  rcases List.mem_cons.mp hc with rfl | hc
  · exact tE_14
  cases hc)
noncomputable def tH_57_0 : List tc_It := [de_it 0x2010000, de_it 0x2, de_it 0x2, de_it 0x6010000, de_it 0x10001000000000000000000000000000000010a0000010400020006, de_it 0x4010000, de_it 0x10001000000000000000000000000000000010a0200010402020006, de_it 0x4010000, de_it 0x108000404020006, de_it 0x4010000, de_it 0x108000404020006, de_it 0x2010000, de_it 0x8000406020006, de_it 0x52504e4c4a48464432300a000d, de_it 0x10001080000010007]
set_option maxRecDepth 100000 in
theorem tR_57 : tf_go tV_57 tK_57.2.1.1 tK_57.2.1.2 none tH_57_0 [(tK_57.2.1, tK_57.2.2.2.1, 0, tc_args 0 tK_57.2.2.1, [], ([], 0), ([], 0))] = true := by decide +kernel
set_option maxRecDepth 100000 in
theorem tT_57 {RO : am_O} {sa : Nat → Nat} (h_10 : tc_true (aP sa) tp_G RO tp_T tp_Z tK_10) (h_14 : tc_true (aP sa) tp_G RO tp_T tp_Z tK_14) (h_22 : tc_true (aP sa) tp_G RO tp_T tp_Z tK_22) (h_23 : tc_true (aP sa) tp_G RO tp_T tp_Z tK_23) : tc_true (aP sa) tp_G RO tp_T tp_Z tK_57 := by
  have hC : ∀ c ∈ tC_57, tc_true (aP sa) tp_G RO tp_T tp_Z c := by
    intro c hc
    have hc : c ∈ ([tK_10, tK_22, tK_23, tK_14] : List tc_Ct) := hc
    rcases List.mem_cons.mp hc with rfl | hc
    · exact h_10
    rcases List.mem_cons.mp hc with rfl | hc
    · exact h_22
    rcases List.mem_cons.mp hc with rfl | hc
    · exact h_23
    rcases List.mem_cons.mp hc with rfl | hc
    · exact h_14
    cases hc
  have hP : ∀ p ∈ tJ_57, ∃ hs, tc_plk (aP sa, tV_57.2) p hs = true := by
    intro p hp
    have hp : p ∈ ([] : List tc_Pl) := hp
    cases hp
  exact tc_main (mt := aM_312.1) (hs := tH_57_0) (PL := tJ_57) ⟨tp_G_ok, tMs_57 _, hC, tp_L_ok, tp_G_re⟩ (show am_meth (aP sa) 312 = some aM_312.1 from rfl) aX_312 (by decide +kernel) hP ((tc_go_sa (aP_sa sa _)).trans ((tf_go_s tHC_57).trans tR_57))
noncomputable def tK_58 : tc_Ct := (310, (2, 3), [(2, ([], 0), 0), (2, ([], 0), 1), (0, ([(0, 1)], 0), 0), (0, ([(1, 1)], 0), 0)], ([([(0, -1)], 63), ([(0, 1)], 0), ([(1, -1)], 64), ([(1, 1)], 0), ([(0, -1), (1, -1)], 64), ([(0, -1), (1, 1)], 62)], [(0, 165), (1, 208), (2, 166)], [], [(0, 0, (2, ([], 0), 2))], [], [], [(1016, [], []), (1024, [], []), (1088, [], []), (1096, [], []), (568, [2], [])]), [(167, 0), (167, 1), (167, 2), (167, 3), (167, 4), (167, 5), (205, 0)], [((2, 3), ([([(0, -1)], 63), ([(0, 1)], 0), ([(1, -1)], 64), ([(1, 1)], 0), ([(0, -1), (1, -1)], 64), ([(0, -1), (1, 1)], 62)], [], [], [], [], [], []), some (1, ([], 0), 0), ([], 0), ([], 0))])
noncomputable def tL_58_0 : tc_Pl := de_pl 0x30c62ff0000000000000000030c62ff0005000000000000020000040000000200026f0002010000000000000238ff00000000000000000448ff00000000000000000440ff00000000000000000400ff000000000000000003f8ff0500000300000211000200000200000200cd03a602d001a500048001010100020102010180010101000200017e0100017c02010100028001010100020002010180010101000200017e0100010b0402
noncomputable def tL_58_1 : tc_Pl := de_pl 0x30c62ff0002000000000000030c62ff0005000000000000040000040000000200026f0002010000000000000238ff00000000000000000448ff00000000000000000440ff00000000000000000400ff000000000000000003f8ff0500000300000211000200000200000200cd03a602d001a500048001010100020502010180010101000200017a0100017c02010100028001010100020002010180010101000200017e0100010b0402
noncomputable def tL_58_2 : tc_Pl := de_pl 0x30c62ff0004000000000000030c62ff0005000000000000060000040000000200026f0002010000000000000238ff00000000000000000448ff00000000000000000440ff00000000000000000400ff000000000000000003f8ff0500000300000211000200000200000200cd03a602d001a500048001010100020d0201018001010100020001720100017c02010100028001010100020002010180010101000200017e0100010b0402
noncomputable def tL_58_3 : tc_Pl := de_pl 0x30c62ff0006000000000000030c62ff0005000000000000080000040000000200026f0002010000000000000238ff00000000000000000448ff00000000000000000440ff00000000000000000400ff000000000000000003f8ff0500000300000211000200000200000200cd03a602d001a500048001010100021d0201017e01010100020001620100017c02010100028001010100020002010180010101000200017e0100010b0402
noncomputable def tL_58_4 : tc_Pl := de_pl 0x30c62ff0008000000000000030c62ff00050000000000000a0000040000000200026f0002010000000000000238ff00000000000000000448ff00000000000000000440ff00000000000000000400ff000000000000000003f8ff0500000300000211000200000200000200cd03a602d001a500048001010100023d0201017e01010100020001420100017c02010100028001010100020002010180010101000200017e0100010b0402
noncomputable def tL_58_5 : tc_Pl := de_pl 0x30c62ff000a000000000000030c62ff00050000000000000c0000040000000200026f0002010000000000000238ff00000000000000000448ff00000000000000000440ff00000000000000000400ff000000000000000003f8ff0500000300000211000200000200000200cd03a602d001a500047d0201017e01010100020001020100017c02010100028001010100020002010180010101000200017e0100010a0402
noncomputable def tL_58_6 : tc_Pl := de_pl 0x30d02ff00000201010000000000030d02ff0005000000000000000000050000000004000002010100030000020001000201000002010000000200061f0002010000000000000238ff00000000000000000448ff00000000000000000440ff00000000000000000400ff000000000000000003f8ff0500000200000200000100a602d001a500038001010100020102010180010101000200017e0100017c02010100028001010100020002010180010101000200017e0100010b0302
noncomputable def tL_58_7 : tc_Pl := de_pl 0x30d02ff00010201010000000000030d02ff0005000000000000020000050002000004000002010100030000020001000201000002010000000200061f0002010000000000000238ff00000000000000000448ff00000000000000000440ff00000000000000000400ff000000000000000003f8ff0500000300000211000200000200000200cd03a602d001a500048001010100020102010180010101000200017e0100017c02010100028001010100020002010180010101000200017e0100010b0402
noncomputable def tL_58_8 : tc_Pl := de_pl 0x30d02ff001f0201010000000000030d02ff0005000000000000200000050002000004000002010100030000020001000201000002010000000200061f0002010000000000000238ff00000000000000000448ff00000000000000000440ff00000000000000000400ff000000000000000003f8ff0500000300000211000200000200000200cd03a602d001a500048001010100021f0201018001010100020001600100017c02010100028001010100020002010180010101000200017e0100010b0402
noncomputable def tL_58_9 : tc_Pl := de_pl 0x30d02ff00030201010000000000030d02ff0005000000000000040000050002000004000002010100030000020001000201000002010000000200061f0002010000000000000238ff00000000000000000448ff00000000000000000440ff00000000000000000400ff000000000000000003f8ff0500000300000211000200000200000200cd03a602d001a500048001010100020302010180010101000200017c0100017c02010100028001010100020002010180010101000200017e0100010b0402
noncomputable def tL_58_10 : tc_Pl := de_pl 0x30d02ff003f0201010000000000030d02ff0005000000000000400000050002000004000002010100030000020001000201000002010000000200061f0002010000000000000238ff00000000000000000448ff00000000000000000440ff00000000000000000400ff000000000000000003f8ff0500000300000211000200000200000200cd03a602d001a500048001010100023f0201018001010100020001400100017c02010100028001010100020002010180010101000200017e0100010b0402
noncomputable def tL_58_11 : tc_Pl := de_pl 0x30d02ff00070201010000000000030d02ff0005000000000000080000050002000004000002010100030000020001000201000002010000000200061f0002010000000000000238ff00000000000000000448ff00000000000000000440ff00000000000000000400ff000000000000000003f8ff0500000300000211000200000200000200cd03a602d001a50004800101010002070201018001010100020001780100017c02010100028001010100020002010180010101000200017e0100010b0402
noncomputable def tL_58_12 : tc_Pl := de_pl 0x30d02ff007f0201010000000000030d02ff0005000000000000800000050002000004000002010100030000020001000201000002010000000200061f0002010000000000000238ff00000000000000000448ff00000000000000000440ff00000000000000000400ff000000000000000003f8ff0500000300000211000200000200000200cd03a602d001a500047f0201018001010100020001000100017c02010100028001010100020002010180010101000200017e0100010a0402
noncomputable def tL_58_13 : tc_Pl := de_pl 0x30d02ff000f0201010000000000030d02ff0005000000000000100000050002000004000002010100030000020001000201000002010000000200061f0002010000000000000238ff00000000000000000448ff00000000000000000440ff00000000000000000400ff000000000000000003f8ff0500000300000211000200000200000200cd03a602d001a500048001010100020f0201018001010100020001700100017c02010100028001010100020002010180010101000200017e0100010b0402
noncomputable def tL_58_14 : tc_Pl := de_pl 0x30d02ff00130201010000000000030d02ff0005000000000000140000050004000004000002010100030000020001000201000002010000000200061f0002010000000000000238ff00000000000000000448ff00000000000000000440ff00000000000000000400ff000000000000000003f8ff0500000300000211000200000200000200cd03a602d001a500048001010100021302010180010101000200016c0100017c02010100028001010100020002010180010101000200017e0100010b0402
noncomputable def tL_58_15 : tc_Pl := de_pl 0x30d02ff00170201010000000000030d02ff0005000000000000180000050004000004000002010100030000020001000201000002010000000200061f0002010000000000000238ff00000000000000000448ff00000000000000000440ff00000000000000000400ff000000000000000003f8ff0500000300000211000200000200000200cd03a602d001a50004800101010002170201018001010100020001680100017c02010100028001010100020002010180010101000200017e0100010b0402
noncomputable def tL_58_16 : tc_Pl := de_pl 0x30d02ff00210201010000000000030d02ff0005000000000000220000050004000004000002010100030000020001000201000002010000000200061f0002010000000000000238ff00000000000000000448ff00000000000000000440ff00000000000000000400ff000000000000000003f8ff0500000300000211000200000200000200cd03a602d001a500048001010100022102010180010101000200015e0100017c02010100028001010100020002010180010101000200017e0100010b0402
noncomputable def tL_58_17 : tc_Pl := de_pl 0x30d02ff00230201010000000000030d02ff0005000000000000240000050004000004000002010100030000020001000201000002010000000200061f0002010000000000000238ff00000000000000000448ff00000000000000000440ff00000000000000000400ff000000000000000003f8ff0500000300000211000200000200000200cd03a602d001a500048001010100022302010180010101000200015c0100017c02010100028001010100020002010180010101000200017e0100010b0402
noncomputable def tL_58_18 : tc_Pl := de_pl 0x30d02ff00270201010000000000030d02ff0005000000000000280000050004000004000002010100030000020001000201000002010000000200061f0002010000000000000238ff00000000000000000448ff00000000000000000440ff00000000000000000400ff000000000000000003f8ff0500000300000211000200000200000200cd03a602d001a50004800101010002270201018001010100020001580100017c02010100028001010100020002010180010101000200017e0100010b0402
noncomputable def tL_58_19 : tc_Pl := de_pl 0x30d02ff002f0201010000000000030d02ff0005000000000000300000050004000004000002010100030000020001000201000002010000000200061f0002010000000000000238ff00000000000000000448ff00000000000000000440ff00000000000000000400ff000000000000000003f8ff0500000300000211000200000200000200cd03a602d001a500048001010100022f0201018001010100020001500100017c02010100028001010100020002010180010101000200017e0100010b0402
noncomputable def tL_58_20 : tc_Pl := de_pl 0x30d02ff00050201010000000000030d02ff0005000000000000060000050004000004000002010100030000020001000201000002010000000200061f0002010000000000000238ff00000000000000000448ff00000000000000000440ff00000000000000000400ff000000000000000003f8ff0500000300000211000200000200000200cd03a602d001a500048001010100020502010180010101000200017a0100017c02010100028001010100020002010180010101000200017e0100010b0402
noncomputable def tL_58_21 : tc_Pl := de_pl 0x30d02ff00410201010000000000030d02ff0005000000000000420000050004000004000002010100030000020001000201000002010000000200061f0002010000000000000238ff00000000000000000448ff00000000000000000440ff00000000000000000400ff000000000000000003f8ff0500000300000211000200000200000200cd03a602d001a500048001010100024102010180010101000200013e0100017c02010100028001010100020002010180010101000200017e0100010b0402
noncomputable def tL_58_22 : tc_Pl := de_pl 0x30d02ff00430201010000000000030d02ff0005000000000000440000050004000004000002010100030000020001000201000002010000000200061f0002010000000000000238ff00000000000000000448ff00000000000000000440ff00000000000000000400ff000000000000000003f8ff0500000300000211000200000200000200cd03a602d001a500048001010100024302010180010101000200013c0100017c02010100028001010100020002010180010101000200017e0100010b0402
noncomputable def tL_58_23 : tc_Pl := de_pl 0x30d02ff00470201010000000000030d02ff0005000000000000480000050004000004000002010100030000020001000201000002010000000200061f0002010000000000000238ff00000000000000000448ff00000000000000000440ff00000000000000000400ff000000000000000003f8ff0500000300000211000200000200000200cd03a602d001a50004800101010002470201018001010100020001380100017c02010100028001010100020002010180010101000200017e0100010b0402
noncomputable def tL_58_24 : tc_Pl := de_pl 0x30d02ff004f0201010000000000030d02ff0005000000000000500000050004000004000002010100030000020001000201000002010000000200061f0002010000000000000238ff00000000000000000448ff00000000000000000440ff00000000000000000400ff000000000000000003f8ff0500000300000211000200000200000200cd03a602d001a500048001010100024f0201018001010100020001300100017c02010100028001010100020002010180010101000200017e0100010b0402
noncomputable def tL_58_25 : tc_Pl := de_pl 0x30d02ff005f0201010000000000030d02ff0005000000000000600000050004000004000002010100030000020001000201000002010000000200061f0002010000000000000238ff00000000000000000448ff00000000000000000440ff00000000000000000400ff000000000000000003f8ff0500000300000211000200000200000200cd03a602d001a500048001010100025f0201018001010100020001200100017c02010100028001010100020002010180010101000200017e0100010b0402
noncomputable def tL_58_26 : tc_Pl := de_pl 0x30d02ff00090201010000000000030d02ff00050000000000000a0000050004000004000002010100030000020001000201000002010000000200061f0002010000000000000238ff00000000000000000448ff00000000000000000440ff00000000000000000400ff000000000000000003f8ff0500000300000211000200000200000200cd03a602d001a50004800101010002090201018001010100020001760100017c02010100028001010100020002010180010101000200017e0100010b0402
noncomputable def tL_58_27 : tc_Pl := de_pl 0x30d02ff000b0201010000000000030d02ff00050000000000000c0000050004000004000002010100030000020001000201000002010000000200061f0002010000000000000238ff00000000000000000448ff00000000000000000440ff00000000000000000400ff000000000000000003f8ff0500000300000211000200000200000200cd03a602d001a500048001010100020b0201018001010100020001740100017c02010100028001010100020002010180010101000200017e0100010b0402
noncomputable def tL_58_28 : tc_Pl := de_pl 0x30d02ff00110201010000000000030d02ff0005000000000000120000050004000004000002010100030000020001000201000002010000000200061f0002010000000000000238ff00000000000000000448ff00000000000000000440ff00000000000000000400ff000000000000000003f8ff0500000300000211000200000200000200cd03a602d001a500048001010100021102010180010101000200016e0100017c02010100028001010100020002010180010101000200017e0100010b0402
noncomputable def tL_58_29 : tc_Pl := de_pl 0x30d02ff00150201010000000000030d02ff0005000000000000160000050006000004000002010100030000020001000201000002010000000200061f0002010000000000000238ff00000000000000000448ff00000000000000000440ff00000000000000000400ff000000000000000003f8ff0500000300000211000200000200000200cd03a602d001a500048001010100021502010180010101000200016a0100017c02010100028001010100020002010180010101000200017e0100010b0402
noncomputable def tL_58_30 : tc_Pl := de_pl 0x30d02ff00190201010000000000030d02ff00050000000000001a0000050006000004000002010100030000020001000201000002010000000200061f0002010000000000000238ff00000000000000000448ff00000000000000000440ff00000000000000000400ff000000000000000003f8ff0500000300000211000200000200000200cd03a602d001a50004800101010002190201018001010100020001660100017c02010100028001010100020002010180010101000200017e0100010b0402
noncomputable def tL_58_31 : tc_Pl := de_pl 0x30d02ff001b0201010000000000030d02ff00050000000000001c0000050006000004000002010100030000020001000201000002010000000200061f0002010000000000000238ff00000000000000000448ff00000000000000000440ff00000000000000000400ff000000000000000003f8ff0500000300000211000200000200000200cd03a602d001a500048001010100021b0201018001010100020001640100017c02010100028001010100020002010180010101000200017e0100010b0402
noncomputable def tL_58_32 : tc_Pl := de_pl 0x30d02ff00250201010000000000030d02ff0005000000000000260000050006000004000002010100030000020001000201000002010000000200061f0002010000000000000238ff00000000000000000448ff00000000000000000440ff00000000000000000400ff000000000000000003f8ff0500000300000211000200000200000200cd03a602d001a500048001010100022502010180010101000200015a0100017c02010100028001010100020002010180010101000200017e0100010b0402
noncomputable def tL_58_33 : tc_Pl := de_pl 0x30d02ff00290201010000000000030d02ff00050000000000002a0000050006000004000002010100030000020001000201000002010000000200061f0002010000000000000238ff00000000000000000448ff00000000000000000440ff00000000000000000400ff000000000000000003f8ff0500000300000211000200000200000200cd03a602d001a50004800101010002290201018001010100020001560100017c02010100028001010100020002010180010101000200017e0100010b0402
noncomputable def tL_58_34 : tc_Pl := de_pl 0x30d02ff002b0201010000000000030d02ff00050000000000002c0000050006000004000002010100030000020001000201000002010000000200061f0002010000000000000238ff00000000000000000448ff00000000000000000440ff00000000000000000400ff000000000000000003f8ff0500000300000211000200000200000200cd03a602d001a500048001010100022b0201018001010100020001540100017c02010100028001010100020002010180010101000200017e0100010b0402
noncomputable def tL_58_35 : tc_Pl := de_pl 0x30d02ff00310201010000000000030d02ff0005000000000000320000050006000004000002010100030000020001000201000002010000000200061f0002010000000000000238ff00000000000000000448ff00000000000000000440ff00000000000000000400ff000000000000000003f8ff0500000300000211000200000200000200cd03a602d001a500048001010100023102010180010101000200014e0100017c02010100028001010100020002010180010101000200017e0100010b0402
noncomputable def tL_58_36 : tc_Pl := de_pl 0x30d02ff00330201010000000000030d02ff0005000000000000340000050006000004000002010100030000020001000201000002010000000200061f0002010000000000000238ff00000000000000000448ff00000000000000000440ff00000000000000000400ff000000000000000003f8ff0500000300000211000200000200000200cd03a602d001a500048001010100023302010180010101000200014c0100017c02010100028001010100020002010180010101000200017e0100010b0402
noncomputable def tL_58_37 : tc_Pl := de_pl 0x30d02ff00370201010000000000030d02ff0005000000000000380000050006000004000002010100030000020001000201000002010000000200061f0002010000000000000238ff00000000000000000448ff00000000000000000440ff00000000000000000400ff000000000000000003f8ff0500000300000211000200000200000200cd03a602d001a50004800101010002370201018001010100020001480100017c02010100028001010100020002010180010101000200017e0100010b0402
noncomputable def tL_58_38 : tc_Pl := de_pl 0x30d02ff00450201010000000000030d02ff0005000000000000460000050006000004000002010100030000020001000201000002010000000200061f0002010000000000000238ff00000000000000000448ff00000000000000000440ff00000000000000000400ff000000000000000003f8ff0500000300000211000200000200000200cd03a602d001a500048001010100024502010180010101000200013a0100017c02010100028001010100020002010180010101000200017e0100010b0402
noncomputable def tL_58_39 : tc_Pl := de_pl 0x30d02ff00490201010000000000030d02ff00050000000000004a0000050006000004000002010100030000020001000201000002010000000200061f0002010000000000000238ff00000000000000000448ff00000000000000000440ff00000000000000000400ff000000000000000003f8ff0500000300000211000200000200000200cd03a602d001a50004800101010002490201018001010100020001360100017c02010100028001010100020002010180010101000200017e0100010b0402
noncomputable def tL_58_40 : tc_Pl := de_pl 0x30d02ff004b0201010000000000030d02ff00050000000000004c0000050006000004000002010100030000020001000201000002010000000200061f0002010000000000000238ff00000000000000000448ff00000000000000000440ff00000000000000000400ff000000000000000003f8ff0500000300000211000200000200000200cd03a602d001a500048001010100024b0201018001010100020001340100017c02010100028001010100020002010180010101000200017e0100010b0402
noncomputable def tL_58_41 : tc_Pl := de_pl 0x30d02ff00510201010000000000030d02ff0005000000000000520000050006000004000002010100030000020001000201000002010000000200061f0002010000000000000238ff00000000000000000448ff00000000000000000440ff00000000000000000400ff000000000000000003f8ff0500000300000211000200000200000200cd03a602d001a500048001010100025102010180010101000200012e0100017c02010100028001010100020002010180010101000200017e0100010b0402
noncomputable def tL_58_42 : tc_Pl := de_pl 0x30d02ff00530201010000000000030d02ff0005000000000000540000050006000004000002010100030000020001000201000002010000000200061f0002010000000000000238ff00000000000000000448ff00000000000000000440ff00000000000000000400ff000000000000000003f8ff0500000300000211000200000200000200cd03a602d001a500048001010100025302010180010101000200012c0100017c02010100028001010100020002010180010101000200017e0100010b0402
noncomputable def tL_58_43 : tc_Pl := de_pl 0x30d02ff00570201010000000000030d02ff0005000000000000580000050006000004000002010100030000020001000201000002010000000200061f0002010000000000000238ff00000000000000000448ff00000000000000000440ff00000000000000000400ff000000000000000003f8ff0500000300000211000200000200000200cd03a602d001a50004800101010002570201018001010100020001280100017c02010100028001010100020002010180010101000200017e0100010b0402
noncomputable def tL_58_44 : tc_Pl := de_pl 0x30d02ff00610201010000000000030d02ff0005000000000000620000050006000004000002010100030000020001000201000002010000000200061f0002010000000000000238ff00000000000000000448ff00000000000000000440ff00000000000000000400ff000000000000000003f8ff0500000300000211000200000200000200cd03a602d001a500048001010100026102010180010101000200011e0100017c02010100028001010100020002010180010101000200017e0100010b0402
noncomputable def tL_58_45 : tc_Pl := de_pl 0x30d02ff00630201010000000000030d02ff0005000000000000640000050006000004000002010100030000020001000201000002010000000200061f0002010000000000000238ff00000000000000000448ff00000000000000000440ff00000000000000000400ff000000000000000003f8ff0500000300000211000200000200000200cd03a602d001a500048001010100026302010180010101000200011c0100017c02010100028001010100020002010180010101000200017e0100010b0402
noncomputable def tL_58_46 : tc_Pl := de_pl 0x30d02ff00670201010000000000030d02ff0005000000000000680000050006000004000002010100030000020001000201000002010000000200061f0002010000000000000238ff00000000000000000448ff00000000000000000440ff00000000000000000400ff000000000000000003f8ff0500000300000211000200000200000200cd03a602d001a50004800101010002670201018001010100020001180100017c02010100028001010100020002010180010101000200017e0100010b0402
noncomputable def tL_58_47 : tc_Pl := de_pl 0x30d02ff006f0201010000000000030d02ff0005000000000000700000050006000004000002010100030000020001000201000002010000000200061f0002010000000000000238ff00000000000000000448ff00000000000000000440ff00000000000000000400ff000000000000000003f8ff0500000300000211000200000200000200cd03a602d001a500048001010100026f0201018001010100020001100100017c02010100028001010100020002010180010101000200017e0100010b0402
noncomputable def tL_58_48 : tc_Pl := de_pl 0x30d02ff000d0201010000000000030d02ff00050000000000000e0000050006000004000002010100030000020001000201000002010000000200061f0002010000000000000238ff00000000000000000448ff00000000000000000440ff00000000000000000400ff000000000000000003f8ff0500000300000211000200000200000200cd03a602d001a500048001010100020d0201018001010100020001720100017c02010100028001010100020002010180010101000200017e0100010b0402
noncomputable def tL_58_49 : tc_Pl := de_pl 0x30d02ff001d0201010000000000030d02ff00050000000000001e0000050008000004000002010100030000020001000201000002010000000200061f0002010000000000000238ff00000000000000000448ff00000000000000000440ff00000000000000000400ff000000000000000003f8ff0500000300000211000200000200000200cd03a602d001a500048001010100021d0201018001010100020001620100017c02010100028001010100020002010180010101000200017e0100010b0402
noncomputable def tL_58_50 : tc_Pl := de_pl 0x30d02ff002d0201010000000000030d02ff00050000000000002e0000050008000004000002010100030000020001000201000002010000000200061f0002010000000000000238ff00000000000000000448ff00000000000000000440ff00000000000000000400ff000000000000000003f8ff0500000300000211000200000200000200cd03a602d001a500048001010100022d0201018001010100020001520100017c02010100028001010100020002010180010101000200017e0100010b0402
noncomputable def tL_58_51 : tc_Pl := de_pl 0x30d02ff00350201010000000000030d02ff0005000000000000360000050008000004000002010100030000020001000201000002010000000200061f0002010000000000000238ff00000000000000000448ff00000000000000000440ff00000000000000000400ff000000000000000003f8ff0500000300000211000200000200000200cd03a602d001a500048001010100023502010180010101000200014a0100017c02010100028001010100020002010180010101000200017e0100010b0402
noncomputable def tL_58_52 : tc_Pl := de_pl 0x30d02ff00390201010000000000030d02ff00050000000000003a0000050008000004000002010100030000020001000201000002010000000200061f0002010000000000000238ff00000000000000000448ff00000000000000000440ff00000000000000000400ff000000000000000003f8ff0500000300000211000200000200000200cd03a602d001a50004800101010002390201018001010100020001460100017c02010100028001010100020002010180010101000200017e0100010b0402
noncomputable def tL_58_53 : tc_Pl := de_pl 0x30d02ff003b0201010000000000030d02ff00050000000000003c0000050008000004000002010100030000020001000201000002010000000200061f0002010000000000000238ff00000000000000000448ff00000000000000000440ff00000000000000000400ff000000000000000003f8ff0500000300000211000200000200000200cd03a602d001a500048001010100023b0201018001010100020001440100017c02010100028001010100020002010180010101000200017e0100010b0402
noncomputable def tL_58_54 : tc_Pl := de_pl 0x30d02ff004d0201010000000000030d02ff00050000000000004e0000050008000004000002010100030000020001000201000002010000000200061f0002010000000000000238ff00000000000000000448ff00000000000000000440ff00000000000000000400ff000000000000000003f8ff0500000300000211000200000200000200cd03a602d001a500048001010100024d0201018001010100020001320100017c02010100028001010100020002010180010101000200017e0100010b0402
noncomputable def tL_58_55 : tc_Pl := de_pl 0x30d02ff00550201010000000000030d02ff0005000000000000560000050008000004000002010100030000020001000201000002010000000200061f0002010000000000000238ff00000000000000000448ff00000000000000000440ff00000000000000000400ff000000000000000003f8ff0500000300000211000200000200000200cd03a602d001a500048001010100025502010180010101000200012a0100017c02010100028001010100020002010180010101000200017e0100010b0402
noncomputable def tL_58_56 : tc_Pl := de_pl 0x30d02ff00590201010000000000030d02ff00050000000000005a0000050008000004000002010100030000020001000201000002010000000200061f0002010000000000000238ff00000000000000000448ff00000000000000000440ff00000000000000000400ff000000000000000003f8ff0500000300000211000200000200000200cd03a602d001a50004800101010002590201018001010100020001260100017c02010100028001010100020002010180010101000200017e0100010b0402
noncomputable def tL_58_57 : tc_Pl := de_pl 0x30d02ff005b0201010000000000030d02ff00050000000000005c0000050008000004000002010100030000020001000201000002010000000200061f0002010000000000000238ff00000000000000000448ff00000000000000000440ff00000000000000000400ff000000000000000003f8ff0500000300000211000200000200000200cd03a602d001a500048001010100025b0201018001010100020001240100017c02010100028001010100020002010180010101000200017e0100010b0402
noncomputable def tL_58_58 : tc_Pl := de_pl 0x30d02ff00650201010000000000030d02ff0005000000000000660000050008000004000002010100030000020001000201000002010000000200061f0002010000000000000238ff00000000000000000448ff00000000000000000440ff00000000000000000400ff000000000000000003f8ff0500000300000211000200000200000200cd03a602d001a500048001010100026502010180010101000200011a0100017c02010100028001010100020002010180010101000200017e0100010b0402
noncomputable def tL_58_59 : tc_Pl := de_pl 0x30d02ff00690201010000000000030d02ff00050000000000006a0000050008000004000002010100030000020001000201000002010000000200061f0002010000000000000238ff00000000000000000448ff00000000000000000440ff00000000000000000400ff000000000000000003f8ff0500000300000211000200000200000200cd03a602d001a50004800101010002690201018001010100020001160100017c02010100028001010100020002010180010101000200017e0100010b0402
noncomputable def tL_58_60 : tc_Pl := de_pl 0x30d02ff006b0201010000000000030d02ff00050000000000006c0000050008000004000002010100030000020001000201000002010000000200061f0002010000000000000238ff00000000000000000448ff00000000000000000440ff00000000000000000400ff000000000000000003f8ff0500000300000211000200000200000200cd03a602d001a500048001010100026b0201018001010100020001140100017c02010100028001010100020002010180010101000200017e0100010b0402
noncomputable def tL_58_61 : tc_Pl := de_pl 0x30d02ff00710201010000000000030d02ff0005000000000000720000050008000004000002010100030000020001000201000002010000000200061f0002010000000000000238ff00000000000000000448ff00000000000000000440ff00000000000000000400ff000000000000000003f8ff0500000300000211000200000200000200cd03a602d001a500048001010100027102010180010101000200010e0100017c02010100028001010100020002010180010101000200017e0100010b0402
noncomputable def tL_58_62 : tc_Pl := de_pl 0x30d02ff00730201010000000000030d02ff0005000000000000740000050008000004000002010100030000020001000201000002010000000200061f0002010000000000000238ff00000000000000000448ff00000000000000000440ff00000000000000000400ff000000000000000003f8ff0500000300000211000200000200000200cd03a602d001a500048001010100027302010180010101000200010c0100017c02010100028001010100020002010180010101000200017e0100010b0402
noncomputable def tL_58_63 : tc_Pl := de_pl 0x30d02ff00770201010000000000030d02ff0005000000000000780000050008000004000002010100030000020001000201000002010000000200061f0002010000000000000238ff00000000000000000448ff00000000000000000440ff00000000000000000400ff000000000000000003f8ff0500000300000211000200000200000200cd03a602d001a50004800101010002770201018001010100020001080100017c02010100028001010100020002010180010101000200017e0100010b0402
noncomputable def tL_58_64 : tc_Pl := de_pl 0x30d02ff003d0201010000000000030d02ff00050000000000003e000005000a000004000002010100030000020001000201000002010000000200061f0002010000000000000238ff00000000000000000448ff00000000000000000440ff00000000000000000400ff000000000000000003f8ff0500000300000211000200000200000200cd03a602d001a500048001010100023d0201018001010100020001420100017c02010100028001010100020002010180010101000200017e0100010b0402
noncomputable def tL_58_65 : tc_Pl := de_pl 0x30d02ff005d0201010000000000030d02ff00050000000000005e000005000a000004000002010100030000020001000201000002010000000200061f0002010000000000000238ff00000000000000000448ff00000000000000000440ff00000000000000000400ff000000000000000003f8ff0500000300000211000200000200000200cd03a602d001a500048001010100025d0201018001010100020001220100017c02010100028001010100020002010180010101000200017e0100010b0402
noncomputable def tL_58_66 : tc_Pl := de_pl 0x30d02ff006d0201010000000000030d02ff00050000000000006e000005000a000004000002010100030000020001000201000002010000000200061f0002010000000000000238ff00000000000000000448ff00000000000000000440ff00000000000000000400ff000000000000000003f8ff0500000300000211000200000200000200cd03a602d001a500048001010100026d0201018001010100020001120100017c02010100028001010100020002010180010101000200017e0100010b0402
noncomputable def tL_58_67 : tc_Pl := de_pl 0x30d02ff00750201010000000000030d02ff000500000000000076000005000a000004000002010100030000020001000201000002010000000200061f0002010000000000000238ff00000000000000000448ff00000000000000000440ff00000000000000000400ff000000000000000003f8ff0500000300000211000200000200000200cd03a602d001a500048001010100027502010180010101000200010a0100017c02010100028001010100020002010180010101000200017e0100010b0402
noncomputable def tL_58_68 : tc_Pl := de_pl 0x30d02ff00790201010000000000030d02ff00050000000000007a000005000a000004000002010100030000020001000201000002010000000200061f0002010000000000000238ff00000000000000000448ff00000000000000000440ff00000000000000000400ff000000000000000003f8ff0500000300000211000200000200000200cd03a602d001a50004800101010002790201018001010100020001060100017c02010100028001010100020002010180010101000200017e0100010b0402
noncomputable def tL_58_69 : tc_Pl := de_pl 0x30d02ff007b0201010000000000030d02ff00050000000000007c000005000a000004000002010100030000020001000201000002010000000200061f0002010000000000000238ff00000000000000000448ff00000000000000000440ff00000000000000000400ff000000000000000003f8ff0500000300000211000200000200000200cd03a602d001a500048001010100027b0201018001010100020001040100017c02010100028001010100020002010180010101000200017e0100010b0402
noncomputable def tL_58_70 : tc_Pl := de_pl 0x30d02ff007d0201010000000000030d02ff00050000000000007e000005000c000004000002010100030000020001000201000002010000000200061f0002010000000000000238ff00000000000000000448ff00000000000000000440ff00000000000000000400ff000000000000000003f8ff0500000300000211000200000200000200cd03a602d001a500048001010100027d0201018001010100020001020100017c02010100028001010100020002010180010101000200017e0100010b0402
noncomputable def tL_58_71 : tc_Pl := de_pl 0x30cd6ff0000000000000000030cd6ff00000201010000000000030d02ff00050000000000000000000800000001060000000005000000000400000201010003000002000100020100000201000000020008350002010000000000000238ff00000000000000000448ff00000000000000000440ff00000000000000000400ff000000000000000003f8ff0500000200000200000100a602d001a500038001010100020102010180010101000200017e0100017c02010100028001010100020002010180010101000200017e0100010b0302
noncomputable def tL_58_72 : tc_Pl := de_pl 0x30cd6ff0000000000000000030cd6ff00010201010000000000030d02ff00050000000000000000000800000001060002000005000000000400000201010003000002000100020100000201000000020008350002010000000000000238ff00000000000000000448ff00000000000000000440ff00000000000000000400ff000000000000000003f8ff0500000300000211000200000200000200cd03a602d001a500048001010100020302010180010101000200017c0100017c02010100028001010100020002010180010101000200017e0100010b0402
noncomputable def tL_58_73 : tc_Pl := de_pl 0x30cd6ff0000000000000000030cd6ff001d0201010000000000030d02ff0005000000000000000000080000000106001e000005000000000400000201010003000002000100020100000201000000020008350002010000000000000238ff00000000000000000448ff00000000000000000440ff00000000000000000400ff000000000000000003f8ff0500000300000211000200000200000200cd03a602d001a500048001010100021f0201018001010100020001600100017c02010100028001010100020002010180010101000200017e0100010b0402
noncomputable def tL_58_74 : tc_Pl := de_pl 0x30cd6ff0000000000000000030cd6ff00050201010000000000030d02ff00050000000000000000000800000001060006000005000000000400000201010003000002000100020100000201000000020008350002010000000000000238ff00000000000000000448ff00000000000000000440ff00000000000000000400ff000000000000000003f8ff0500000300000211000200000200000200cd03a602d001a50004800101010002070201018001010100020001780100017c02010100028001010100020002010180010101000200017e0100010b0402
noncomputable def tL_58_75 : tc_Pl := de_pl 0x30cd6ff0000000000000000030cd6ff003d0201010000000000030d02ff0005000000000000000000080000000106003e000005000000000400000201010003000002000100020100000201000000020008350002010000000000000238ff00000000000000000448ff00000000000000000440ff00000000000000000400ff000000000000000003f8ff0500000300000211000200000200000200cd03a602d001a500048001010100023f0201018001010100020001400100017c02010100028001010100020002010180010101000200017e0100010b0402
noncomputable def tL_58_76 : tc_Pl := de_pl 0x30cd6ff0000000000000000030cd6ff007d0201010000000000030d02ff0005000000000000000000080000000106007e000005000000000400000201010003000002000100020100000201000000020008350002010000000000000238ff00000000000000000448ff00000000000000000440ff00000000000000000400ff000000000000000003f8ff0500000300000211000200000200000200cd03a602d001a500047f0201018001010100020001000100017c02010100028001010100020002010180010101000200017e0100010a0402
noncomputable def tL_58_77 : tc_Pl := de_pl 0x30cd6ff0000000000000000030cd6ff000d0201010000000000030d02ff0005000000000000000000080000000106000e000005000000000400000201010003000002000100020100000201000000020008350002010000000000000238ff00000000000000000448ff00000000000000000440ff00000000000000000400ff000000000000000003f8ff0500000300000211000200000200000200cd03a602d001a500048001010100020f0201018001010100020001700100017c02010100028001010100020002010180010101000200017e0100010b0402
noncomputable def tL_58_78 : tc_Pl := de_pl 0x30cd6ff0002000000000000030cd6ff00010201010000000000030d02ff00050000000000000200000800000001060002000005000200000400000201010003000002000100020100000201000000020008350002010000000000000238ff00000000000000000448ff00000000000000000440ff00000000000000000400ff000000000000000003f8ff0500000300000211000200000200000200cd03a602d001a500048001010100020302010180010101000200017c0100017c02010100028001010100020002010180010101000200017e0100010b0402
noncomputable def tL_58_79 : tc_Pl := de_pl 0x30cd6ff0002000000000000030cd6ff00150201010000000000030d02ff00050000000000000400000800000001060016000005000200000400000201010003000002000100020100000201000000020008350002010000000000000238ff00000000000000000448ff00000000000000000440ff00000000000000000400ff000000000000000003f8ff0500000300000211000200000200000200cd03a602d001a50004800101010002170201018001010100020001680100017c02010100028001010100020002010180010101000200017e0100010b0402
noncomputable def tL_58_80 : tc_Pl := de_pl 0x30cd6ff0002000000000000030cd6ff001d0201010000000000030d02ff0005000000000000020000080000000106001e000005000200000400000201010003000002000100020100000201000000020008350002010000000000000238ff00000000000000000448ff00000000000000000440ff00000000000000000400ff000000000000000003f8ff0500000300000211000200000200000200cd03a602d001a500048001010100021f0201018001010100020001600100017c02010100028001010100020002010180010101000200017e0100010b0402
noncomputable def tL_58_81 : tc_Pl := de_pl 0x30cd6ff0002000000000000030cd6ff001f0201010000000000030d02ff00050000000000002000000800000001060020000005000200000400000201010003000002000100020100000201000000020008350002010000000000000238ff00000000000000000448ff00000000000000000440ff00000000000000000400ff000000000000000003f8ff0500000300000211000200000200000200cd03a602d001a500048001010100022102010180010101000200015e0100017c02010100028001010100020002010180010101000200017e0100010b0402
noncomputable def tL_58_82 : tc_Pl := de_pl 0x30cd6ff0002000000000000030cd6ff00210201010000000000030d02ff00050000000000001000000800000001060022000005000200000400000201010003000002000100020100000201000000020008350002010000000000000238ff00000000000000000448ff00000000000000000440ff00000000000000000400ff000000000000000003f8ff0500000300000211000200000200000200cd03a602d001a500048001010100022302010180010101000200015c0100017c02010100028001010100020002010180010101000200017e0100010b0402
noncomputable def tL_58_83 : tc_Pl := de_pl 0x30cd6ff0002000000000000030cd6ff00250201010000000000030d02ff00050000000000000800000800000001060026000005000200000400000201010003000002000100020100000201000000020008350002010000000000000238ff00000000000000000448ff00000000000000000440ff00000000000000000400ff000000000000000003f8ff0500000300000211000200000200000200cd03a602d001a50004800101010002270201018001010100020001580100017c02010100028001010100020002010180010101000200017e0100010b0402
noncomputable def tL_58_84 : tc_Pl := de_pl 0x30cd6ff0002000000000000030cd6ff00030201010000000000030d02ff00050000000000000400000800000001060004000005000200000400000201010003000002000100020100000201000000020008350002010000000000000238ff00000000000000000448ff00000000000000000440ff00000000000000000400ff000000000000000003f8ff0500000300000211000200000200000200cd03a602d001a500048001010100020502010180010101000200017a0100017c02010100028001010100020002010180010101000200017e0100010b0402
noncomputable def tL_58_85 : tc_Pl := de_pl 0x30cd6ff0002000000000000030cd6ff002d0201010000000000030d02ff0005000000000000040000080000000106002e000005000200000400000201010003000002000100020100000201000000020008350002010000000000000238ff00000000000000000448ff00000000000000000440ff00000000000000000400ff000000000000000003f8ff0500000300000211000200000200000200cd03a602d001a500048001010100022f0201018001010100020001500100017c02010100028001010100020002010180010101000200017e0100010b0402
noncomputable def tL_58_86 : tc_Pl := de_pl 0x30cd6ff0002000000000000030cd6ff00050201010000000000030d02ff00050000000000000200000800000001060006000005000200000400000201010003000002000100020100000201000000020008350002010000000000000238ff00000000000000000448ff00000000000000000440ff00000000000000000400ff000000000000000003f8ff0500000300000211000200000200000200cd03a602d001a50004800101010002070201018001010100020001780100017c02010100028001010100020002010180010101000200017e0100010b0402
noncomputable def tL_58_87 : tc_Pl := de_pl 0x30cd6ff0002000000000000030cd6ff003d0201010000000000030d02ff0005000000000000020000080000000106003e000005000200000400000201010003000002000100020100000201000000020008350002010000000000000238ff00000000000000000448ff00000000000000000440ff00000000000000000400ff000000000000000003f8ff0500000300000211000200000200000200cd03a602d001a500048001010100023f0201018001010100020001400100017c02010100028001010100020002010180010101000200017e0100010b0402
noncomputable def tL_58_88 : tc_Pl := de_pl 0x30cd6ff0002000000000000030cd6ff003f0201010000000000030d02ff00050000000000004000000800000001060040000005000200000400000201010003000002000100020100000201000000020008350002010000000000000238ff00000000000000000448ff00000000000000000440ff00000000000000000400ff000000000000000003f8ff0500000300000211000200000200000200cd03a602d001a500048001010100024102010180010101000200013e0100017c02010100028001010100020002010180010101000200017e0100010b0402
noncomputable def tL_58_89 : tc_Pl := de_pl 0x30cd6ff0002000000000000030cd6ff00410201010000000000030d02ff00050000000000002000000800000001060042000005000200000400000201010003000002000100020100000201000000020008350002010000000000000238ff00000000000000000448ff00000000000000000440ff00000000000000000400ff000000000000000003f8ff0500000300000211000200000200000200cd03a602d001a500048001010100024302010180010101000200013c0100017c02010100028001010100020002010180010101000200017e0100010b0402
noncomputable def tL_58_90 : tc_Pl := de_pl 0x30cd6ff0002000000000000030cd6ff00450201010000000000030d02ff00050000000000001000000800000001060046000005000200000400000201010003000002000100020100000201000000020008350002010000000000000238ff00000000000000000448ff00000000000000000440ff00000000000000000400ff000000000000000003f8ff0500000300000211000200000200000200cd03a602d001a50004800101010002470201018001010100020001380100017c02010100028001010100020002010180010101000200017e0100010b0402
noncomputable def tL_58_91 : tc_Pl := de_pl 0x30cd6ff0002000000000000030cd6ff004d0201010000000000030d02ff0005000000000000080000080000000106004e000005000200000400000201010003000002000100020100000201000000020008350002010000000000000238ff00000000000000000448ff00000000000000000440ff00000000000000000400ff000000000000000003f8ff0500000300000211000200000200000200cd03a602d001a500048001010100024f0201018001010100020001300100017c02010100028001010100020002010180010101000200017e0100010b0402
noncomputable def tL_58_92 : tc_Pl := de_pl 0x30cd6ff0002000000000000030cd6ff00070201010000000000030d02ff00050000000000000800000800000001060008000005000200000400000201010003000002000100020100000201000000020008350002010000000000000238ff00000000000000000448ff00000000000000000440ff00000000000000000400ff000000000000000003f8ff0500000300000211000200000200000200cd03a602d001a50004800101010002090201018001010100020001760100017c02010100028001010100020002010180010101000200017e0100010b0402
noncomputable def tL_58_93 : tc_Pl := de_pl 0x30cd6ff0002000000000000030cd6ff005d0201010000000000030d02ff0005000000000000040000080000000106005e000005000200000400000201010003000002000100020100000201000000020008350002010000000000000238ff00000000000000000448ff00000000000000000440ff00000000000000000400ff000000000000000003f8ff0500000300000211000200000200000200cd03a602d001a500048001010100025f0201018001010100020001200100017c02010100028001010100020002010180010101000200017e0100010b0402
noncomputable def tL_58_94 : tc_Pl := de_pl 0x30cd6ff0002000000000000030cd6ff00090201010000000000030d02ff0005000000000000040000080000000106000a000005000200000400000201010003000002000100020100000201000000020008350002010000000000000238ff00000000000000000448ff00000000000000000440ff00000000000000000400ff000000000000000003f8ff0500000300000211000200000200000200cd03a602d001a500048001010100020b0201018001010100020001740100017c02010100028001010100020002010180010101000200017e0100010b0402
noncomputable def tL_58_95 : tc_Pl := de_pl 0x30cd6ff0002000000000000030cd6ff007d0201010000000000030d02ff0005000000000000020000080000000106007e000005000200000400000201010003000002000100020100000201000000020008350002010000000000000238ff00000000000000000448ff00000000000000000440ff00000000000000000400ff000000000000000003f8ff0500000300000211000200000200000200cd03a602d001a500047f0201018001010100020001000100017c02010100028001010100020002010180010101000200017e0100010a0402
noncomputable def tL_58_96 : tc_Pl := de_pl 0x30cd6ff0002000000000000030cd6ff000d0201010000000000030d02ff0005000000000000020000080000000106000e000005000200000400000201010003000002000100020100000201000000020008350002010000000000000238ff00000000000000000448ff00000000000000000440ff00000000000000000400ff000000000000000003f8ff0500000300000211000200000200000200cd03a602d001a500048001010100020f0201018001010100020001700100017c02010100028001010100020002010180010101000200017e0100010b0402
noncomputable def tL_58_97 : tc_Pl := de_pl 0x30cd6ff0002000000000000030cd6ff000f0201010000000000030d02ff00050000000000001000000800000001060010000005000200000400000201010003000002000100020100000201000000020008350002010000000000000238ff00000000000000000448ff00000000000000000440ff00000000000000000400ff000000000000000003f8ff0500000300000211000200000200000200cd03a602d001a500048001010100021102010180010101000200016e0100017c02010100028001010100020002010180010101000200017e0100010b0402
noncomputable def tL_58_98 : tc_Pl := de_pl 0x30cd6ff0002000000000000030cd6ff00110201010000000000030d02ff00050000000000000800000800000001060012000005000200000400000201010003000002000100020100000201000000020008350002010000000000000238ff00000000000000000448ff00000000000000000440ff00000000000000000400ff000000000000000003f8ff0500000300000211000200000200000200cd03a602d001a500048001010100021302010180010101000200016c0100017c02010100028001010100020002010180010101000200017e0100010b0402
noncomputable def tL_58_99 : tc_Pl := de_pl 0x30cd6ff0004000000000000030cd6ff00130201010000000000030d02ff00050000000000001400000800000001060014000005000400000400000201010003000002000100020100000201000000020008350002010000000000000238ff00000000000000000448ff00000000000000000440ff00000000000000000400ff000000000000000003f8ff0500000300000211000200000200000200cd03a602d001a500048001010100021502010180010101000200016a0100017c02010100028001010100020002010180010101000200017e0100010b0402
noncomputable def tL_58_100 : tc_Pl := de_pl 0x30cd6ff0004000000000000030cd6ff00150201010000000000030d02ff00050000000000000a00000800000001060016000005000400000400000201010003000002000100020100000201000000020008350002010000000000000238ff00000000000000000448ff00000000000000000440ff00000000000000000400ff000000000000000003f8ff0500000300000211000200000200000200cd03a602d001a50004800101010002170201018001010100020001680100017c02010100028001010100020002010180010101000200017e0100010b0402
noncomputable def tL_58_101 : tc_Pl := de_pl 0x30cd6ff0004000000000000030cd6ff00170201010000000000030d02ff00050000000000001800000800000001060018000005000400000400000201010003000002000100020100000201000000020008350002010000000000000238ff00000000000000000448ff00000000000000000440ff00000000000000000400ff000000000000000003f8ff0500000300000211000200000200000200cd03a602d001a50004800101010002190201018001010100020001660100017c02010100028001010100020002010180010101000200017e0100010b0402
noncomputable def tL_58_102 : tc_Pl := de_pl 0x30cd6ff0004000000000000030cd6ff00190201010000000000030d02ff00050000000000000c0000080000000106001a000005000400000400000201010003000002000100020100000201000000020008350002010000000000000238ff00000000000000000448ff00000000000000000440ff00000000000000000400ff000000000000000003f8ff0500000300000211000200000200000200cd03a602d001a500048001010100021b0201018001010100020001640100017c02010100028001010100020002010180010101000200017e0100010b0402
noncomputable def tL_58_103 : tc_Pl := de_pl 0x30cd6ff0004000000000000030cd6ff001d0201010000000000030d02ff0005000000000000060000080000000106001e000005000400000400000201010003000002000100020100000201000000020008350002010000000000000238ff00000000000000000448ff00000000000000000440ff00000000000000000400ff000000000000000003f8ff0500000300000211000200000200000200cd03a602d001a500048001010100021f0201018001010100020001600100017c02010100028001010100020002010180010101000200017e0100010b0402
noncomputable def tL_58_104 : tc_Pl := de_pl 0x30cd6ff0004000000000000030cd6ff00210201010000000000030d02ff00050000000000002200000800000001060022000005000400000400000201010003000002000100020100000201000000020008350002010000000000000238ff00000000000000000448ff00000000000000000440ff00000000000000000400ff000000000000000003f8ff0500000300000211000200000200000200cd03a602d001a500048001010100022302010180010101000200015c0100017c02010100028001010100020002010180010101000200017e0100010b0402
noncomputable def tL_58_105 : tc_Pl := de_pl 0x30cd6ff0004000000000000030cd6ff00230201010000000000030d02ff00050000000000002400000800000001060024000005000400000400000201010003000002000100020100000201000000020008350002010000000000000238ff00000000000000000448ff00000000000000000440ff00000000000000000400ff000000000000000003f8ff0500000300000211000200000200000200cd03a602d001a500048001010100022502010180010101000200015a0100017c02010100028001010100020002010180010101000200017e0100010b0402
noncomputable def tL_58_106 : tc_Pl := de_pl 0x30cd6ff0004000000000000030cd6ff00250201010000000000030d02ff00050000000000001200000800000001060026000005000400000400000201010003000002000100020100000201000000020008350002010000000000000238ff00000000000000000448ff00000000000000000440ff00000000000000000400ff000000000000000003f8ff0500000300000211000200000200000200cd03a602d001a50004800101010002270201018001010100020001580100017c02010100028001010100020002010180010101000200017e0100010b0402
noncomputable def tL_58_107 : tc_Pl := de_pl 0x30cd6ff0004000000000000030cd6ff00270201010000000000030d02ff00050000000000002800000800000001060028000005000400000400000201010003000002000100020100000201000000020008350002010000000000000238ff00000000000000000448ff00000000000000000440ff00000000000000000400ff000000000000000003f8ff0500000300000211000200000200000200cd03a602d001a50004800101010002290201018001010100020001560100017c02010100028001010100020002010180010101000200017e0100010b0402
noncomputable def tL_58_108 : tc_Pl := de_pl 0x30cd6ff0004000000000000030cd6ff00290201010000000000030d02ff0005000000000000140000080000000106002a000005000400000400000201010003000002000100020100000201000000020008350002010000000000000238ff00000000000000000448ff00000000000000000440ff00000000000000000400ff000000000000000003f8ff0500000300000211000200000200000200cd03a602d001a500048001010100022b0201018001010100020001540100017c02010100028001010100020002010180010101000200017e0100010b0402
noncomputable def tL_58_109 : tc_Pl := de_pl 0x30cd6ff0004000000000000030cd6ff002d0201010000000000030d02ff00050000000000000a0000080000000106002e000005000400000400000201010003000002000100020100000201000000020008350002010000000000000238ff00000000000000000448ff00000000000000000440ff00000000000000000400ff000000000000000003f8ff0500000300000211000200000200000200cd03a602d001a500048001010100022f0201018001010100020001500100017c02010100028001010100020002010180010101000200017e0100010b0402
noncomputable def tL_58_110 : tc_Pl := de_pl 0x30cd6ff0004000000000000030cd6ff002f0201010000000000030d02ff00050000000000003000000800000001060030000005000400000400000201010003000002000100020100000201000000020008350002010000000000000238ff00000000000000000448ff00000000000000000440ff00000000000000000400ff000000000000000003f8ff0500000300000211000200000200000200cd03a602d001a500048001010100023102010180010101000200014e0100017c02010100028001010100020002010180010101000200017e0100010b0402
noncomputable def tL_58_111 : tc_Pl := de_pl 0x30cd6ff0004000000000000030cd6ff00310201010000000000030d02ff00050000000000001800000800000001060032000005000400000400000201010003000002000100020100000201000000020008350002010000000000000238ff00000000000000000448ff00000000000000000440ff00000000000000000400ff000000000000000003f8ff0500000300000211000200000200000200cd03a602d001a500048001010100023302010180010101000200014c0100017c02010100028001010100020002010180010101000200017e0100010b0402
noncomputable def tL_58_112 : tc_Pl := de_pl 0x30cd6ff0004000000000000030cd6ff00350201010000000000030d02ff00050000000000000c00000800000001060036000005000400000400000201010003000002000100020100000201000000020008350002010000000000000238ff00000000000000000448ff00000000000000000440ff00000000000000000400ff000000000000000003f8ff0500000300000211000200000200000200cd03a602d001a50004800101010002370201018001010100020001480100017c02010100028001010100020002010180010101000200017e0100010b0402
noncomputable def tL_58_113 : tc_Pl := de_pl 0x30cd6ff0004000000000000030cd6ff00050201010000000000030d02ff00050000000000000600000800000001060006000005000400000400000201010003000002000100020100000201000000020008350002010000000000000238ff00000000000000000448ff00000000000000000440ff00000000000000000400ff000000000000000003f8ff0500000300000211000200000200000200cd03a602d001a50004800101010002070201018001010100020001780100017c02010100028001010100020002010180010101000200017e0100010b0402
noncomputable def tL_58_114 : tc_Pl := de_pl 0x30cd6ff0004000000000000030cd6ff003d0201010000000000030d02ff0005000000000000060000080000000106003e000005000400000400000201010003000002000100020100000201000000020008350002010000000000000238ff00000000000000000448ff00000000000000000440ff00000000000000000400ff000000000000000003f8ff0500000300000211000200000200000200cd03a602d001a500048001010100023f0201018001010100020001400100017c02010100028001010100020002010180010101000200017e0100010b0402
noncomputable def tL_58_115 : tc_Pl := de_pl 0x30cd6ff0004000000000000030cd6ff00410201010000000000030d02ff00050000000000004200000800000001060042000005000400000400000201010003000002000100020100000201000000020008350002010000000000000238ff00000000000000000448ff00000000000000000440ff00000000000000000400ff000000000000000003f8ff0500000300000211000200000200000200cd03a602d001a500048001010100024302010180010101000200013c0100017c02010100028001010100020002010180010101000200017e0100010b0402
noncomputable def tL_58_116 : tc_Pl := de_pl 0x30cd6ff0004000000000000030cd6ff00430201010000000000030d02ff00050000000000004400000800000001060044000005000400000400000201010003000002000100020100000201000000020008350002010000000000000238ff00000000000000000448ff00000000000000000440ff00000000000000000400ff000000000000000003f8ff0500000300000211000200000200000200cd03a602d001a500048001010100024502010180010101000200013a0100017c02010100028001010100020002010180010101000200017e0100010b0402
noncomputable def tL_58_117 : tc_Pl := de_pl 0x30cd6ff0004000000000000030cd6ff00450201010000000000030d02ff00050000000000002200000800000001060046000005000400000400000201010003000002000100020100000201000000020008350002010000000000000238ff00000000000000000448ff00000000000000000440ff00000000000000000400ff000000000000000003f8ff0500000300000211000200000200000200cd03a602d001a50004800101010002470201018001010100020001380100017c02010100028001010100020002010180010101000200017e0100010b0402
noncomputable def tL_58_118 : tc_Pl := de_pl 0x30cd6ff0004000000000000030cd6ff00470201010000000000030d02ff00050000000000004800000800000001060048000005000400000400000201010003000002000100020100000201000000020008350002010000000000000238ff00000000000000000448ff00000000000000000440ff00000000000000000400ff000000000000000003f8ff0500000300000211000200000200000200cd03a602d001a50004800101010002490201018001010100020001360100017c02010100028001010100020002010180010101000200017e0100010b0402
noncomputable def tL_58_119 : tc_Pl := de_pl 0x30cd6ff0004000000000000030cd6ff00490201010000000000030d02ff0005000000000000240000080000000106004a000005000400000400000201010003000002000100020100000201000000020008350002010000000000000238ff00000000000000000448ff00000000000000000440ff00000000000000000400ff000000000000000003f8ff0500000300000211000200000200000200cd03a602d001a500048001010100024b0201018001010100020001340100017c02010100028001010100020002010180010101000200017e0100010b0402
noncomputable def tL_58_120 : tc_Pl := de_pl 0x30cd6ff0004000000000000030cd6ff004d0201010000000000030d02ff0005000000000000120000080000000106004e000005000400000400000201010003000002000100020100000201000000020008350002010000000000000238ff00000000000000000448ff00000000000000000440ff00000000000000000400ff000000000000000003f8ff0500000300000211000200000200000200cd03a602d001a500048001010100024f0201018001010100020001300100017c02010100028001010100020002010180010101000200017e0100010b0402
noncomputable def tL_58_121 : tc_Pl := de_pl 0x30cd6ff0004000000000000030cd6ff004f0201010000000000030d02ff00050000000000005000000800000001060050000005000400000400000201010003000002000100020100000201000000020008350002010000000000000238ff00000000000000000448ff00000000000000000440ff00000000000000000400ff000000000000000003f8ff0500000300000211000200000200000200cd03a602d001a500048001010100025102010180010101000200012e0100017c02010100028001010100020002010180010101000200017e0100010b0402
noncomputable def tL_58_122 : tc_Pl := de_pl 0x30cd6ff0004000000000000030cd6ff00510201010000000000030d02ff00050000000000002800000800000001060052000005000400000400000201010003000002000100020100000201000000020008350002010000000000000238ff00000000000000000448ff00000000000000000440ff00000000000000000400ff000000000000000003f8ff0500000300000211000200000200000200cd03a602d001a500048001010100025302010180010101000200012c0100017c02010100028001010100020002010180010101000200017e0100010b0402
noncomputable def tL_58_123 : tc_Pl := de_pl 0x30cd6ff0004000000000000030cd6ff00550201010000000000030d02ff00050000000000001400000800000001060056000005000400000400000201010003000002000100020100000201000000020008350002010000000000000238ff00000000000000000448ff00000000000000000440ff00000000000000000400ff000000000000000003f8ff0500000300000211000200000200000200cd03a602d001a50004800101010002570201018001010100020001280100017c02010100028001010100020002010180010101000200017e0100010b0402
noncomputable def tL_58_124 : tc_Pl := de_pl 0x30cd6ff0004000000000000030cd6ff005d0201010000000000030d02ff00050000000000000a0000080000000106005e000005000400000400000201010003000002000100020100000201000000020008350002010000000000000238ff00000000000000000448ff00000000000000000440ff00000000000000000400ff000000000000000003f8ff0500000300000211000200000200000200cd03a602d001a500048001010100025f0201018001010100020001200100017c02010100028001010100020002010180010101000200017e0100010b0402
noncomputable def tL_58_125 : tc_Pl := de_pl 0x30cd6ff0004000000000000030cd6ff005f0201010000000000030d02ff00050000000000006000000800000001060060000005000400000400000201010003000002000100020100000201000000020008350002010000000000000238ff00000000000000000448ff00000000000000000440ff00000000000000000400ff000000000000000003f8ff0500000300000211000200000200000200cd03a602d001a500048001010100026102010180010101000200011e0100017c02010100028001010100020002010180010101000200017e0100010b0402
noncomputable def tL_58_126 : tc_Pl := de_pl 0x30cd6ff0004000000000000030cd6ff00610201010000000000030d02ff00050000000000003000000800000001060062000005000400000400000201010003000002000100020100000201000000020008350002010000000000000238ff00000000000000000448ff00000000000000000440ff00000000000000000400ff000000000000000003f8ff0500000300000211000200000200000200cd03a602d001a500048001010100026302010180010101000200011c0100017c02010100028001010100020002010180010101000200017e0100010b0402
noncomputable def tL_58_127 : tc_Pl := de_pl 0x30cd6ff0004000000000000030cd6ff00090201010000000000030d02ff00050000000000000a0000080000000106000a000005000400000400000201010003000002000100020100000201000000020008350002010000000000000238ff00000000000000000448ff00000000000000000440ff00000000000000000400ff000000000000000003f8ff0500000300000211000200000200000200cd03a602d001a500048001010100020b0201018001010100020001740100017c02010100028001010100020002010180010101000200017e0100010b0402
noncomputable def tL_58_128 : tc_Pl := de_pl 0x30cd6ff0004000000000000030cd6ff00650201010000000000030d02ff00050000000000001800000800000001060066000005000400000400000201010003000002000100020100000201000000020008350002010000000000000238ff00000000000000000448ff00000000000000000440ff00000000000000000400ff000000000000000003f8ff0500000300000211000200000200000200cd03a602d001a50004800101010002670201018001010100020001180100017c02010100028001010100020002010180010101000200017e0100010b0402
noncomputable def tL_58_129 : tc_Pl := de_pl 0x30cd6ff0004000000000000030cd6ff006d0201010000000000030d02ff00050000000000000c0000080000000106006e000005000400000400000201010003000002000100020100000201000000020008350002010000000000000238ff00000000000000000448ff00000000000000000440ff00000000000000000400ff000000000000000003f8ff0500000300000211000200000200000200cd03a602d001a500048001010100026f0201018001010100020001100100017c02010100028001010100020002010180010101000200017e0100010b0402
noncomputable def tL_58_130 : tc_Pl := de_pl 0x30cd6ff0004000000000000030cd6ff000b0201010000000000030d02ff00050000000000000c0000080000000106000c000005000400000400000201010003000002000100020100000201000000020008350002010000000000000238ff00000000000000000448ff00000000000000000440ff00000000000000000400ff000000000000000003f8ff0500000300000211000200000200000200cd03a602d001a500048001010100020d0201018001010100020001720100017c02010100028001010100020002010180010101000200017e0100010b0402
noncomputable def tL_58_131 : tc_Pl := de_pl 0x30cd6ff0004000000000000030cd6ff007d0201010000000000030d02ff0005000000000000060000080000000106007e000005000400000400000201010003000002000100020100000201000000020008350002010000000000000238ff00000000000000000448ff00000000000000000440ff00000000000000000400ff000000000000000003f8ff0500000300000211000200000200000200cd03a602d001a500047f0201018001010100020001000100017c02010100028001010100020002010180010101000200017e0100010a0402
noncomputable def tL_58_132 : tc_Pl := de_pl 0x30cd6ff0004000000000000030cd6ff000d0201010000000000030d02ff0005000000000000060000080000000106000e000005000400000400000201010003000002000100020100000201000000020008350002010000000000000238ff00000000000000000448ff00000000000000000440ff00000000000000000400ff000000000000000003f8ff0500000300000211000200000200000200cd03a602d001a500048001010100020f0201018001010100020001700100017c02010100028001010100020002010180010101000200017e0100010b0402
noncomputable def tL_58_133 : tc_Pl := de_pl 0x30cd6ff0004000000000000030cd6ff00110201010000000000030d02ff00050000000000001200000800000001060012000005000400000400000201010003000002000100020100000201000000020008350002010000000000000238ff00000000000000000448ff00000000000000000440ff00000000000000000400ff000000000000000003f8ff0500000300000211000200000200000200cd03a602d001a500048001010100021302010180010101000200016c0100017c02010100028001010100020002010180010101000200017e0100010b0402
noncomputable def tL_58_134 : tc_Pl := de_pl 0x30cd6ff0006000000000000030cd6ff00150201010000000000030d02ff00050000000000001600000800000001060016000005000600000400000201010003000002000100020100000201000000020008350002010000000000000238ff00000000000000000448ff00000000000000000440ff00000000000000000400ff000000000000000003f8ff0500000300000211000200000200000200cd03a602d001a50004800101010002170201018001010100020001680100017c02010100028001010100020002010180010101000200017e0100010b0402
noncomputable def tL_58_135 : tc_Pl := de_pl 0x30cd6ff0006000000000000030cd6ff00190201010000000000030d02ff00050000000000001a0000080000000106001a000005000600000400000201010003000002000100020100000201000000020008350002010000000000000238ff00000000000000000448ff00000000000000000440ff00000000000000000400ff000000000000000003f8ff0500000300000211000200000200000200cd03a602d001a500048001010100021b0201018001010100020001640100017c02010100028001010100020002010180010101000200017e0100010b0402
noncomputable def tL_58_136 : tc_Pl := de_pl 0x30cd6ff0006000000000000030cd6ff001b0201010000000000030d02ff00050000000000001c0000080000000106001c000005000600000400000201010003000002000100020100000201000000020008350002010000000000000238ff00000000000000000448ff00000000000000000440ff00000000000000000400ff000000000000000003f8ff0500000300000211000200000200000200cd03a602d001a500048001010100021d0201018001010100020001620100017c02010100028001010100020002010180010101000200017e0100010b0402
noncomputable def tL_58_137 : tc_Pl := de_pl 0x30cd6ff0006000000000000030cd6ff001d0201010000000000030d02ff00050000000000000e0000080000000106001e000005000600000400000201010003000002000100020100000201000000020008350002010000000000000238ff00000000000000000448ff00000000000000000440ff00000000000000000400ff000000000000000003f8ff0500000300000211000200000200000200cd03a602d001a500048001010100021f0201018001010100020001600100017c02010100028001010100020002010180010101000200017e0100010b0402
noncomputable def tL_58_138 : tc_Pl := de_pl 0x30cd6ff0006000000000000030cd6ff00250201010000000000030d02ff00050000000000002600000800000001060026000005000600000400000201010003000002000100020100000201000000020008350002010000000000000238ff00000000000000000448ff00000000000000000440ff00000000000000000400ff000000000000000003f8ff0500000300000211000200000200000200cd03a602d001a50004800101010002270201018001010100020001580100017c02010100028001010100020002010180010101000200017e0100010b0402
noncomputable def tL_58_139 : tc_Pl := de_pl 0x30cd6ff0006000000000000030cd6ff00290201010000000000030d02ff00050000000000002a0000080000000106002a000005000600000400000201010003000002000100020100000201000000020008350002010000000000000238ff00000000000000000448ff00000000000000000440ff00000000000000000400ff000000000000000003f8ff0500000300000211000200000200000200cd03a602d001a500048001010100022b0201018001010100020001540100017c02010100028001010100020002010180010101000200017e0100010b0402
noncomputable def tL_58_140 : tc_Pl := de_pl 0x30cd6ff0006000000000000030cd6ff002b0201010000000000030d02ff00050000000000002c0000080000000106002c000005000600000400000201010003000002000100020100000201000000020008350002010000000000000238ff00000000000000000448ff00000000000000000440ff00000000000000000400ff000000000000000003f8ff0500000300000211000200000200000200cd03a602d001a500048001010100022d0201018001010100020001520100017c02010100028001010100020002010180010101000200017e0100010b0402
noncomputable def tL_58_141 : tc_Pl := de_pl 0x30cd6ff0006000000000000030cd6ff002d0201010000000000030d02ff0005000000000000160000080000000106002e000005000600000400000201010003000002000100020100000201000000020008350002010000000000000238ff00000000000000000448ff00000000000000000440ff00000000000000000400ff000000000000000003f8ff0500000300000211000200000200000200cd03a602d001a500048001010100022f0201018001010100020001500100017c02010100028001010100020002010180010101000200017e0100010b0402
noncomputable def tL_58_142 : tc_Pl := de_pl 0x30cd6ff0006000000000000030cd6ff00310201010000000000030d02ff00050000000000003200000800000001060032000005000600000400000201010003000002000100020100000201000000020008350002010000000000000238ff00000000000000000448ff00000000000000000440ff00000000000000000400ff000000000000000003f8ff0500000300000211000200000200000200cd03a602d001a500048001010100023302010180010101000200014c0100017c02010100028001010100020002010180010101000200017e0100010b0402
noncomputable def tL_58_143 : tc_Pl := de_pl 0x30cd6ff0006000000000000030cd6ff00330201010000000000030d02ff00050000000000003400000800000001060034000005000600000400000201010003000002000100020100000201000000020008350002010000000000000238ff00000000000000000448ff00000000000000000440ff00000000000000000400ff000000000000000003f8ff0500000300000211000200000200000200cd03a602d001a500048001010100023502010180010101000200014a0100017c02010100028001010100020002010180010101000200017e0100010b0402
noncomputable def tL_58_144 : tc_Pl := de_pl 0x30cd6ff0006000000000000030cd6ff00350201010000000000030d02ff00050000000000001a00000800000001060036000005000600000400000201010003000002000100020100000201000000020008350002010000000000000238ff00000000000000000448ff00000000000000000440ff00000000000000000400ff000000000000000003f8ff0500000300000211000200000200000200cd03a602d001a50004800101010002370201018001010100020001480100017c02010100028001010100020002010180010101000200017e0100010b0402
noncomputable def tL_58_145 : tc_Pl := de_pl 0x30cd6ff0006000000000000030cd6ff00370201010000000000030d02ff00050000000000003800000800000001060038000005000600000400000201010003000002000100020100000201000000020008350002010000000000000238ff00000000000000000448ff00000000000000000440ff00000000000000000400ff000000000000000003f8ff0500000300000211000200000200000200cd03a602d001a50004800101010002390201018001010100020001460100017c02010100028001010100020002010180010101000200017e0100010b0402
noncomputable def tL_58_146 : tc_Pl := de_pl 0x30cd6ff0006000000000000030cd6ff00390201010000000000030d02ff00050000000000001c0000080000000106003a000005000600000400000201010003000002000100020100000201000000020008350002010000000000000238ff00000000000000000448ff00000000000000000440ff00000000000000000400ff000000000000000003f8ff0500000300000211000200000200000200cd03a602d001a500048001010100023b0201018001010100020001440100017c02010100028001010100020002010180010101000200017e0100010b0402
noncomputable def tL_58_147 : tc_Pl := de_pl 0x30cd6ff0006000000000000030cd6ff003d0201010000000000030d02ff00050000000000000e0000080000000106003e000005000600000400000201010003000002000100020100000201000000020008350002010000000000000238ff00000000000000000448ff00000000000000000440ff00000000000000000400ff000000000000000003f8ff0500000300000211000200000200000200cd03a602d001a500048001010100023f0201018001010100020001400100017c02010100028001010100020002010180010101000200017e0100010b0402
noncomputable def tL_58_148 : tc_Pl := de_pl 0x30cd6ff0006000000000000030cd6ff00450201010000000000030d02ff00050000000000004600000800000001060046000005000600000400000201010003000002000100020100000201000000020008350002010000000000000238ff00000000000000000448ff00000000000000000440ff00000000000000000400ff000000000000000003f8ff0500000300000211000200000200000200cd03a602d001a50004800101010002470201018001010100020001380100017c02010100028001010100020002010180010101000200017e0100010b0402
noncomputable def tL_58_149 : tc_Pl := de_pl 0x30cd6ff0006000000000000030cd6ff00490201010000000000030d02ff00050000000000004a0000080000000106004a000005000600000400000201010003000002000100020100000201000000020008350002010000000000000238ff00000000000000000448ff00000000000000000440ff00000000000000000400ff000000000000000003f8ff0500000300000211000200000200000200cd03a602d001a500048001010100024b0201018001010100020001340100017c02010100028001010100020002010180010101000200017e0100010b0402
noncomputable def tL_58_150 : tc_Pl := de_pl 0x30cd6ff0006000000000000030cd6ff004b0201010000000000030d02ff00050000000000004c0000080000000106004c000005000600000400000201010003000002000100020100000201000000020008350002010000000000000238ff00000000000000000448ff00000000000000000440ff00000000000000000400ff000000000000000003f8ff0500000300000211000200000200000200cd03a602d001a500048001010100024d0201018001010100020001320100017c02010100028001010100020002010180010101000200017e0100010b0402
noncomputable def tL_58_151 : tc_Pl := de_pl 0x30cd6ff0006000000000000030cd6ff004d0201010000000000030d02ff0005000000000000260000080000000106004e000005000600000400000201010003000002000100020100000201000000020008350002010000000000000238ff00000000000000000448ff00000000000000000440ff00000000000000000400ff000000000000000003f8ff0500000300000211000200000200000200cd03a602d001a500048001010100024f0201018001010100020001300100017c02010100028001010100020002010180010101000200017e0100010b0402
noncomputable def tL_58_152 : tc_Pl := de_pl 0x30cd6ff0006000000000000030cd6ff00510201010000000000030d02ff00050000000000005200000800000001060052000005000600000400000201010003000002000100020100000201000000020008350002010000000000000238ff00000000000000000448ff00000000000000000440ff00000000000000000400ff000000000000000003f8ff0500000300000211000200000200000200cd03a602d001a500048001010100025302010180010101000200012c0100017c02010100028001010100020002010180010101000200017e0100010b0402
noncomputable def tL_58_153 : tc_Pl := de_pl 0x30cd6ff0006000000000000030cd6ff00530201010000000000030d02ff00050000000000005400000800000001060054000005000600000400000201010003000002000100020100000201000000020008350002010000000000000238ff00000000000000000448ff00000000000000000440ff00000000000000000400ff000000000000000003f8ff0500000300000211000200000200000200cd03a602d001a500048001010100025502010180010101000200012a0100017c02010100028001010100020002010180010101000200017e0100010b0402
noncomputable def tL_58_154 : tc_Pl := de_pl 0x30cd6ff0006000000000000030cd6ff00550201010000000000030d02ff00050000000000002a00000800000001060056000005000600000400000201010003000002000100020100000201000000020008350002010000000000000238ff00000000000000000448ff00000000000000000440ff00000000000000000400ff000000000000000003f8ff0500000300000211000200000200000200cd03a602d001a50004800101010002570201018001010100020001280100017c02010100028001010100020002010180010101000200017e0100010b0402
noncomputable def tL_58_155 : tc_Pl := de_pl 0x30cd6ff0006000000000000030cd6ff00570201010000000000030d02ff00050000000000005800000800000001060058000005000600000400000201010003000002000100020100000201000000020008350002010000000000000238ff00000000000000000448ff00000000000000000440ff00000000000000000400ff000000000000000003f8ff0500000300000211000200000200000200cd03a602d001a50004800101010002590201018001010100020001260100017c02010100028001010100020002010180010101000200017e0100010b0402
noncomputable def tL_58_156 : tc_Pl := de_pl 0x30cd6ff0006000000000000030cd6ff00590201010000000000030d02ff00050000000000002c0000080000000106005a000005000600000400000201010003000002000100020100000201000000020008350002010000000000000238ff00000000000000000448ff00000000000000000440ff00000000000000000400ff000000000000000003f8ff0500000300000211000200000200000200cd03a602d001a500048001010100025b0201018001010100020001240100017c02010100028001010100020002010180010101000200017e0100010b0402
noncomputable def tL_58_157 : tc_Pl := de_pl 0x30cd6ff0006000000000000030cd6ff005d0201010000000000030d02ff0005000000000000160000080000000106005e000005000600000400000201010003000002000100020100000201000000020008350002010000000000000238ff00000000000000000448ff00000000000000000440ff00000000000000000400ff000000000000000003f8ff0500000300000211000200000200000200cd03a602d001a500048001010100025f0201018001010100020001200100017c02010100028001010100020002010180010101000200017e0100010b0402
noncomputable def tL_58_158 : tc_Pl := de_pl 0x30cd6ff0006000000000000030cd6ff00610201010000000000030d02ff00050000000000006200000800000001060062000005000600000400000201010003000002000100020100000201000000020008350002010000000000000238ff00000000000000000448ff00000000000000000440ff00000000000000000400ff000000000000000003f8ff0500000300000211000200000200000200cd03a602d001a500048001010100026302010180010101000200011c0100017c02010100028001010100020002010180010101000200017e0100010b0402
noncomputable def tL_58_159 : tc_Pl := de_pl 0x30cd6ff0006000000000000030cd6ff00630201010000000000030d02ff00050000000000006400000800000001060064000005000600000400000201010003000002000100020100000201000000020008350002010000000000000238ff00000000000000000448ff00000000000000000440ff00000000000000000400ff000000000000000003f8ff0500000300000211000200000200000200cd03a602d001a500048001010100026502010180010101000200011a0100017c02010100028001010100020002010180010101000200017e0100010b0402
noncomputable def tL_58_160 : tc_Pl := de_pl 0x30cd6ff0006000000000000030cd6ff00650201010000000000030d02ff00050000000000003200000800000001060066000005000600000400000201010003000002000100020100000201000000020008350002010000000000000238ff00000000000000000448ff00000000000000000440ff00000000000000000400ff000000000000000003f8ff0500000300000211000200000200000200cd03a602d001a50004800101010002670201018001010100020001180100017c02010100028001010100020002010180010101000200017e0100010b0402
noncomputable def tL_58_161 : tc_Pl := de_pl 0x30cd6ff0006000000000000030cd6ff00670201010000000000030d02ff00050000000000006800000800000001060068000005000600000400000201010003000002000100020100000201000000020008350002010000000000000238ff00000000000000000448ff00000000000000000440ff00000000000000000400ff000000000000000003f8ff0500000300000211000200000200000200cd03a602d001a50004800101010002690201018001010100020001160100017c02010100028001010100020002010180010101000200017e0100010b0402
noncomputable def tL_58_162 : tc_Pl := de_pl 0x30cd6ff0006000000000000030cd6ff00690201010000000000030d02ff0005000000000000340000080000000106006a000005000600000400000201010003000002000100020100000201000000020008350002010000000000000238ff00000000000000000448ff00000000000000000440ff00000000000000000400ff000000000000000003f8ff0500000300000211000200000200000200cd03a602d001a500048001010100026b0201018001010100020001140100017c02010100028001010100020002010180010101000200017e0100010b0402
noncomputable def tL_58_163 : tc_Pl := de_pl 0x30cd6ff0006000000000000030cd6ff006d0201010000000000030d02ff00050000000000001a0000080000000106006e000005000600000400000201010003000002000100020100000201000000020008350002010000000000000238ff00000000000000000448ff00000000000000000440ff00000000000000000400ff000000000000000003f8ff0500000300000211000200000200000200cd03a602d001a500048001010100026f0201018001010100020001100100017c02010100028001010100020002010180010101000200017e0100010b0402
noncomputable def tL_58_164 : tc_Pl := de_pl 0x30cd6ff0006000000000000030cd6ff006f0201010000000000030d02ff00050000000000007000000800000001060070000005000600000400000201010003000002000100020100000201000000020008350002010000000000000238ff00000000000000000448ff00000000000000000440ff00000000000000000400ff000000000000000003f8ff0500000300000211000200000200000200cd03a602d001a500048001010100027102010180010101000200010e0100017c02010100028001010100020002010180010101000200017e0100010b0402
noncomputable def tL_58_165 : tc_Pl := de_pl 0x30cd6ff0006000000000000030cd6ff00710201010000000000030d02ff00050000000000003800000800000001060072000005000600000400000201010003000002000100020100000201000000020008350002010000000000000238ff00000000000000000448ff00000000000000000440ff00000000000000000400ff000000000000000003f8ff0500000300000211000200000200000200cd03a602d001a500048001010100027302010180010101000200010c0100017c02010100028001010100020002010180010101000200017e0100010b0402
noncomputable def tL_58_166 : tc_Pl := de_pl 0x30cd6ff0006000000000000030cd6ff00750201010000000000030d02ff00050000000000001c00000800000001060076000005000600000400000201010003000002000100020100000201000000020008350002010000000000000238ff00000000000000000448ff00000000000000000440ff00000000000000000400ff000000000000000003f8ff0500000300000211000200000200000200cd03a602d001a50004800101010002770201018001010100020001080100017c02010100028001010100020002010180010101000200017e0100010b0402
noncomputable def tL_58_167 : tc_Pl := de_pl 0x30cd6ff0006000000000000030cd6ff007d0201010000000000030d02ff00050000000000000e0000080000000106007e000005000600000400000201010003000002000100020100000201000000020008350002010000000000000238ff00000000000000000448ff00000000000000000440ff00000000000000000400ff000000000000000003f8ff0500000300000211000200000200000200cd03a602d001a500047f0201018001010100020001000100017c02010100028001010100020002010180010101000200017e0100010a0402
noncomputable def tL_58_168 : tc_Pl := de_pl 0x30cd6ff0006000000000000030cd6ff000d0201010000000000030d02ff00050000000000000e0000080000000106000e000005000600000400000201010003000002000100020100000201000000020008350002010000000000000238ff00000000000000000448ff00000000000000000440ff00000000000000000400ff000000000000000003f8ff0500000300000211000200000200000200cd03a602d001a500048001010100020f0201018001010100020001700100017c02010100028001010100020002010180010101000200017e0100010b0402
noncomputable def tL_58_169 : tc_Pl := de_pl 0x30cd6ff0008000000000000030cd6ff001d0201010000000000030d02ff00050000000000001e0000080000000106001e000005000800000400000201010003000002000100020100000201000000020008350002010000000000000238ff00000000000000000448ff00000000000000000440ff00000000000000000400ff000000000000000003f8ff0500000300000211000200000200000200cd03a602d001a500048001010100021f0201018001010100020001600100017c02010100028001010100020002010180010101000200017e0100010b0402
noncomputable def tL_58_170 : tc_Pl := de_pl 0x30cd6ff0008000000000000030cd6ff002d0201010000000000030d02ff00050000000000002e0000080000000106002e000005000800000400000201010003000002000100020100000201000000020008350002010000000000000238ff00000000000000000448ff00000000000000000440ff00000000000000000400ff000000000000000003f8ff0500000300000211000200000200000200cd03a602d001a500048001010100022f0201018001010100020001500100017c02010100028001010100020002010180010101000200017e0100010b0402
noncomputable def tL_58_171 : tc_Pl := de_pl 0x30cd6ff0008000000000000030cd6ff00350201010000000000030d02ff00050000000000003600000800000001060036000005000800000400000201010003000002000100020100000201000000020008350002010000000000000238ff00000000000000000448ff00000000000000000440ff00000000000000000400ff000000000000000003f8ff0500000300000211000200000200000200cd03a602d001a50004800101010002370201018001010100020001480100017c02010100028001010100020002010180010101000200017e0100010b0402
noncomputable def tL_58_172 : tc_Pl := de_pl 0x30cd6ff0008000000000000030cd6ff00390201010000000000030d02ff00050000000000003a0000080000000106003a000005000800000400000201010003000002000100020100000201000000020008350002010000000000000238ff00000000000000000448ff00000000000000000440ff00000000000000000400ff000000000000000003f8ff0500000300000211000200000200000200cd03a602d001a500048001010100023b0201018001010100020001440100017c02010100028001010100020002010180010101000200017e0100010b0402
noncomputable def tL_58_173 : tc_Pl := de_pl 0x30cd6ff0008000000000000030cd6ff003b0201010000000000030d02ff00050000000000003c0000080000000106003c000005000800000400000201010003000002000100020100000201000000020008350002010000000000000238ff00000000000000000448ff00000000000000000440ff00000000000000000400ff000000000000000003f8ff0500000300000211000200000200000200cd03a602d001a500048001010100023d0201018001010100020001420100017c02010100028001010100020002010180010101000200017e0100010b0402
noncomputable def tL_58_174 : tc_Pl := de_pl 0x30cd6ff0008000000000000030cd6ff003d0201010000000000030d02ff00050000000000001e0000080000000106003e000005000800000400000201010003000002000100020100000201000000020008350002010000000000000238ff00000000000000000448ff00000000000000000440ff00000000000000000400ff000000000000000003f8ff0500000300000211000200000200000200cd03a602d001a500048001010100023f0201018001010100020001400100017c02010100028001010100020002010180010101000200017e0100010b0402
noncomputable def tL_58_175 : tc_Pl := de_pl 0x30cd6ff0008000000000000030cd6ff004d0201010000000000030d02ff00050000000000004e0000080000000106004e000005000800000400000201010003000002000100020100000201000000020008350002010000000000000238ff00000000000000000448ff00000000000000000440ff00000000000000000400ff000000000000000003f8ff0500000300000211000200000200000200cd03a602d001a500048001010100024f0201018001010100020001300100017c02010100028001010100020002010180010101000200017e0100010b0402
noncomputable def tL_58_176 : tc_Pl := de_pl 0x30cd6ff0008000000000000030cd6ff00550201010000000000030d02ff00050000000000005600000800000001060056000005000800000400000201010003000002000100020100000201000000020008350002010000000000000238ff00000000000000000448ff00000000000000000440ff00000000000000000400ff000000000000000003f8ff0500000300000211000200000200000200cd03a602d001a50004800101010002570201018001010100020001280100017c02010100028001010100020002010180010101000200017e0100010b0402
noncomputable def tL_58_177 : tc_Pl := de_pl 0x30cd6ff0008000000000000030cd6ff00590201010000000000030d02ff00050000000000005a0000080000000106005a000005000800000400000201010003000002000100020100000201000000020008350002010000000000000238ff00000000000000000448ff00000000000000000440ff00000000000000000400ff000000000000000003f8ff0500000300000211000200000200000200cd03a602d001a500048001010100025b0201018001010100020001240100017c02010100028001010100020002010180010101000200017e0100010b0402
noncomputable def tL_58_178 : tc_Pl := de_pl 0x30cd6ff0008000000000000030cd6ff005b0201010000000000030d02ff00050000000000005c0000080000000106005c000005000800000400000201010003000002000100020100000201000000020008350002010000000000000238ff00000000000000000448ff00000000000000000440ff00000000000000000400ff000000000000000003f8ff0500000300000211000200000200000200cd03a602d001a500048001010100025d0201018001010100020001220100017c02010100028001010100020002010180010101000200017e0100010b0402
noncomputable def tL_58_179 : tc_Pl := de_pl 0x30cd6ff0008000000000000030cd6ff005d0201010000000000030d02ff00050000000000002e0000080000000106005e000005000800000400000201010003000002000100020100000201000000020008350002010000000000000238ff00000000000000000448ff00000000000000000440ff00000000000000000400ff000000000000000003f8ff0500000300000211000200000200000200cd03a602d001a500048001010100025f0201018001010100020001200100017c02010100028001010100020002010180010101000200017e0100010b0402
noncomputable def tL_58_180 : tc_Pl := de_pl 0x30cd6ff0008000000000000030cd6ff00650201010000000000030d02ff00050000000000006600000800000001060066000005000800000400000201010003000002000100020100000201000000020008350002010000000000000238ff00000000000000000448ff00000000000000000440ff00000000000000000400ff000000000000000003f8ff0500000300000211000200000200000200cd03a602d001a50004800101010002670201018001010100020001180100017c02010100028001010100020002010180010101000200017e0100010b0402
noncomputable def tL_58_181 : tc_Pl := de_pl 0x30cd6ff0008000000000000030cd6ff00690201010000000000030d02ff00050000000000006a0000080000000106006a000005000800000400000201010003000002000100020100000201000000020008350002010000000000000238ff00000000000000000448ff00000000000000000440ff00000000000000000400ff000000000000000003f8ff0500000300000211000200000200000200cd03a602d001a500048001010100026b0201018001010100020001140100017c02010100028001010100020002010180010101000200017e0100010b0402
noncomputable def tL_58_182 : tc_Pl := de_pl 0x30cd6ff0008000000000000030cd6ff006b0201010000000000030d02ff00050000000000006c0000080000000106006c000005000800000400000201010003000002000100020100000201000000020008350002010000000000000238ff00000000000000000448ff00000000000000000440ff00000000000000000400ff000000000000000003f8ff0500000300000211000200000200000200cd03a602d001a500048001010100026d0201018001010100020001120100017c02010100028001010100020002010180010101000200017e0100010b0402
noncomputable def tL_58_183 : tc_Pl := de_pl 0x30cd6ff0008000000000000030cd6ff006d0201010000000000030d02ff0005000000000000360000080000000106006e000005000800000400000201010003000002000100020100000201000000020008350002010000000000000238ff00000000000000000448ff00000000000000000440ff00000000000000000400ff000000000000000003f8ff0500000300000211000200000200000200cd03a602d001a500048001010100026f0201018001010100020001100100017c02010100028001010100020002010180010101000200017e0100010b0402
noncomputable def tL_58_184 : tc_Pl := de_pl 0x30cd6ff0008000000000000030cd6ff00710201010000000000030d02ff00050000000000007200000800000001060072000005000800000400000201010003000002000100020100000201000000020008350002010000000000000238ff00000000000000000448ff00000000000000000440ff00000000000000000400ff000000000000000003f8ff0500000300000211000200000200000200cd03a602d001a500048001010100027302010180010101000200010c0100017c02010100028001010100020002010180010101000200017e0100010b0402
noncomputable def tL_58_185 : tc_Pl := de_pl 0x30cd6ff0008000000000000030cd6ff00730201010000000000030d02ff00050000000000007400000800000001060074000005000800000400000201010003000002000100020100000201000000020008350002010000000000000238ff00000000000000000448ff00000000000000000440ff00000000000000000400ff000000000000000003f8ff0500000300000211000200000200000200cd03a602d001a500048001010100027502010180010101000200010a0100017c02010100028001010100020002010180010101000200017e0100010b0402
noncomputable def tL_58_186 : tc_Pl := de_pl 0x30cd6ff0008000000000000030cd6ff00750201010000000000030d02ff00050000000000003a00000800000001060076000005000800000400000201010003000002000100020100000201000000020008350002010000000000000238ff00000000000000000448ff00000000000000000440ff00000000000000000400ff000000000000000003f8ff0500000300000211000200000200000200cd03a602d001a50004800101010002770201018001010100020001080100017c02010100028001010100020002010180010101000200017e0100010b0402
noncomputable def tL_58_187 : tc_Pl := de_pl 0x30cd6ff0008000000000000030cd6ff00770201010000000000030d02ff00050000000000007800000800000001060078000005000800000400000201010003000002000100020100000201000000020008350002010000000000000238ff00000000000000000448ff00000000000000000440ff00000000000000000400ff000000000000000003f8ff0500000300000211000200000200000200cd03a602d001a50004800101010002790201018001010100020001060100017c02010100028001010100020002010180010101000200017e0100010b0402
noncomputable def tL_58_188 : tc_Pl := de_pl 0x30cd6ff0008000000000000030cd6ff00790201010000000000030d02ff00050000000000003c0000080000000106007a000005000800000400000201010003000002000100020100000201000000020008350002010000000000000238ff00000000000000000448ff00000000000000000440ff00000000000000000400ff000000000000000003f8ff0500000300000211000200000200000200cd03a602d001a500048001010100027b0201018001010100020001040100017c02010100028001010100020002010180010101000200017e0100010b0402
noncomputable def tL_58_189 : tc_Pl := de_pl 0x30cd6ff0008000000000000030cd6ff007d0201010000000000030d02ff00050000000000001e0000080000000106007e000005000800000400000201010003000002000100020100000201000000020008350002010000000000000238ff00000000000000000448ff00000000000000000440ff00000000000000000400ff000000000000000003f8ff0500000300000211000200000200000200cd03a602d001a500047f0201018001010100020001000100017c02010100028001010100020002010180010101000200017e0100010a0402
noncomputable def tL_58_190 : tc_Pl := de_pl 0x30cd6ff000a000000000000030cd6ff003d0201010000000000030d02ff00050000000000003e0000080000000106003e000005000a00000400000201010003000002000100020100000201000000020008350002010000000000000238ff00000000000000000448ff00000000000000000440ff00000000000000000400ff000000000000000003f8ff0500000300000211000200000200000200cd03a602d001a500048001010100023f0201018001010100020001400100017c02010100028001010100020002010180010101000200017e0100010b0402
noncomputable def tL_58_191 : tc_Pl := de_pl 0x30cd6ff000a000000000000030cd6ff005d0201010000000000030d02ff00050000000000005e0000080000000106005e000005000a00000400000201010003000002000100020100000201000000020008350002010000000000000238ff00000000000000000448ff00000000000000000440ff00000000000000000400ff000000000000000003f8ff0500000300000211000200000200000200cd03a602d001a500048001010100025f0201018001010100020001200100017c02010100028001010100020002010180010101000200017e0100010b0402
noncomputable def tL_58_192 : tc_Pl := de_pl 0x30cd6ff000a000000000000030cd6ff006d0201010000000000030d02ff00050000000000006e0000080000000106006e000005000a00000400000201010003000002000100020100000201000000020008350002010000000000000238ff00000000000000000448ff00000000000000000440ff00000000000000000400ff000000000000000003f8ff0500000300000211000200000200000200cd03a602d001a500048001010100026f0201018001010100020001100100017c02010100028001010100020002010180010101000200017e0100010b0402
noncomputable def tL_58_193 : tc_Pl := de_pl 0x30cd6ff000a000000000000030cd6ff00750201010000000000030d02ff00050000000000007600000800000001060076000005000a00000400000201010003000002000100020100000201000000020008350002010000000000000238ff00000000000000000448ff00000000000000000440ff00000000000000000400ff000000000000000003f8ff0500000300000211000200000200000200cd03a602d001a50004800101010002770201018001010100020001080100017c02010100028001010100020002010180010101000200017e0100010b0402
noncomputable def tL_58_194 : tc_Pl := de_pl 0x30cd6ff000a000000000000030cd6ff00790201010000000000030d02ff00050000000000007a0000080000000106007a000005000a00000400000201010003000002000100020100000201000000020008350002010000000000000238ff00000000000000000448ff00000000000000000440ff00000000000000000400ff000000000000000003f8ff0500000300000211000200000200000200cd03a602d001a500048001010100027b0201018001010100020001040100017c02010100028001010100020002010180010101000200017e0100010b0402
noncomputable def tL_58_195 : tc_Pl := de_pl 0x30cd6ff000a000000000000030cd6ff007b0201010000000000030d02ff00050000000000007c0000080000000106007c000005000a00000400000201010003000002000100020100000201000000020008350002010000000000000238ff00000000000000000448ff00000000000000000440ff00000000000000000400ff000000000000000003f8ff0500000300000211000200000200000200cd03a602d001a500048001010100027d0201018001010100020001020100017c02010100028001010100020002010180010101000200017e0100010b0402
noncomputable def tL_58_196 : tc_Pl := de_pl 0x30cd6ff000a000000000000030cd6ff007d0201010000000000030d02ff00050000000000003e0000080000000106007e000005000a00000400000201010003000002000100020100000201000000020008350002010000000000000238ff00000000000000000448ff00000000000000000440ff00000000000000000400ff000000000000000003f8ff0500000300000211000200000200000200cd03a602d001a500047f0201018001010100020001000100017c02010100028001010100020002010180010101000200017e0100010a0402
noncomputable def tL_58_197 : tc_Pl := de_pl 0x30cd6ff000c000000000000030cd6ff007d0201010000000000030d02ff00050000000000007e0000080000000106007e000005000c00000400000201010003000002000100020100000201000000020008350002010000000000000238ff00000000000000000448ff00000000000000000440ff00000000000000000400ff000000000000000003f8ff0500000300000211000200000200000200cd03a602d001a500047f0201018001010100020001000100017c02010100028001010100020002010180010101000200017e0100010a0402
noncomputable def tJ_58_0 : List tc_Pl := [tL_58_0, tL_58_1, tL_58_2, tL_58_3, tL_58_4, tL_58_5, tL_58_6, tL_58_7, tL_58_8, tL_58_9, tL_58_10, tL_58_11, tL_58_12, tL_58_13, tL_58_14, tL_58_15, tL_58_16, tL_58_17, tL_58_18, tL_58_19, tL_58_20, tL_58_21, tL_58_22, tL_58_23, tL_58_24, tL_58_25, tL_58_26, tL_58_27, tL_58_28, tL_58_29, tL_58_30, tL_58_31, tL_58_32, tL_58_33, tL_58_34, tL_58_35, tL_58_36, tL_58_37, tL_58_38, tL_58_39]
noncomputable def tJ_58_1 : List tc_Pl := [tL_58_40, tL_58_41, tL_58_42, tL_58_43, tL_58_44, tL_58_45, tL_58_46, tL_58_47, tL_58_48, tL_58_49, tL_58_50, tL_58_51, tL_58_52, tL_58_53, tL_58_54, tL_58_55, tL_58_56, tL_58_57, tL_58_58, tL_58_59, tL_58_60, tL_58_61, tL_58_62, tL_58_63, tL_58_64, tL_58_65, tL_58_66, tL_58_67, tL_58_68, tL_58_69, tL_58_70, tL_58_71, tL_58_72, tL_58_73, tL_58_74, tL_58_75, tL_58_76, tL_58_77, tL_58_78, tL_58_79]
noncomputable def tJ_58_2 : List tc_Pl := [tL_58_80, tL_58_81, tL_58_82, tL_58_83, tL_58_84, tL_58_85, tL_58_86, tL_58_87, tL_58_88, tL_58_89, tL_58_90, tL_58_91, tL_58_92, tL_58_93, tL_58_94, tL_58_95, tL_58_96, tL_58_97, tL_58_98, tL_58_99, tL_58_100, tL_58_101, tL_58_102, tL_58_103, tL_58_104, tL_58_105, tL_58_106, tL_58_107, tL_58_108, tL_58_109, tL_58_110, tL_58_111, tL_58_112, tL_58_113, tL_58_114, tL_58_115, tL_58_116, tL_58_117, tL_58_118, tL_58_119]
noncomputable def tJ_58_3 : List tc_Pl := [tL_58_120, tL_58_121, tL_58_122, tL_58_123, tL_58_124, tL_58_125, tL_58_126, tL_58_127, tL_58_128, tL_58_129, tL_58_130, tL_58_131, tL_58_132, tL_58_133, tL_58_134, tL_58_135, tL_58_136, tL_58_137, tL_58_138, tL_58_139, tL_58_140, tL_58_141, tL_58_142, tL_58_143, tL_58_144, tL_58_145, tL_58_146, tL_58_147, tL_58_148, tL_58_149, tL_58_150, tL_58_151, tL_58_152, tL_58_153, tL_58_154, tL_58_155, tL_58_156, tL_58_157, tL_58_158, tL_58_159]
noncomputable def tJ_58_4 : List tc_Pl := [tL_58_160, tL_58_161, tL_58_162, tL_58_163, tL_58_164, tL_58_165, tL_58_166, tL_58_167, tL_58_168, tL_58_169, tL_58_170, tL_58_171, tL_58_172, tL_58_173, tL_58_174, tL_58_175, tL_58_176, tL_58_177, tL_58_178, tL_58_179, tL_58_180, tL_58_181, tL_58_182, tL_58_183, tL_58_184, tL_58_185, tL_58_186, tL_58_187, tL_58_188, tL_58_189, tL_58_190, tL_58_191, tL_58_192, tL_58_193, tL_58_194, tL_58_195, tL_58_196, tL_58_197]
noncomputable def tJ_58 : List tc_Pl := tJ_58_0 ++ (tJ_58_1 ++ (tJ_58_2 ++ (tJ_58_3 ++ (tJ_58_4))))
noncomputable def tC_58 : List tc_Ct := [tK_15, tK_57, tK_56]
def tM_58 (z : Nat) : Option am_Meth := if z = 312 then some aM_312.1 else if z = 311 then some aM_311.1 else if z = 17 then some aM_17.1 else none
set_option maxRecDepth 100000 in
theorem tMs_58 (sa : Nat → Nat) : ∀ z mz, tM_58 z = some mz → am_meth (aP sa) z = some mz := by
  intro z mz h
  unfold tM_58 at h
  rcases de_m h with ⟨rfl, rfl⟩ | h
  · exact (show am_meth (aP sa) 312 = some aM_312.1 from rfl)
  rcases de_m h with ⟨rfl, rfl⟩ | h
  · exact (show am_meth (aP sa) 311 = some aM_311.1 from rfl)
  rcases de_m h with ⟨rfl, rfl⟩ | h
  · exact (show am_meth (aP sa) 17 = some aM_17.1 from rfl)
  cases h
noncomputable def tV_58 : tc_Ev := (aQ, tp_T, tp_G.2, tp_Z, tM_58, tC_58, tp_L, tK_58.2.2.2.2.1, aM_310.1, aW_310, tK_58.2.1, tK_58.2.2.2.2.2, tJ_58)
theorem tE_58 : tK_58.2.2.2.2.2.all (tc_wex tK_58.2.1.1 tK_58.2.1.2) = true := by decide +kernel
theorem tSS_58 : tC_58.all (fun c => tw_mg tK_58.2.2.2.2.1 c.2.2.2.2.1) = true := by decide +kernel
theorem tHC_58 : ∀ c ∈ tC_58, c.2.2.2.2.1.all tK_58.2.2.2.2.1.contains = true ∧ c.2.2.2.2.2.all (tc_wex c.2.1.1 c.2.1.2) = true := tf_hc tSS_58 (by
  intro c hc
  have hc : c ∈ ([tK_15, tK_57, tK_56] : List tc_Ct) := hc
  rcases List.mem_cons.mp hc with rfl | hc
  · exact tE_15
  rcases List.mem_cons.mp hc with rfl | hc
  · exact tE_57
  rcases List.mem_cons.mp hc with rfl | hc
  · exact tE_56
  cases hc)
noncomputable def tH_58_0 : List tc_It := [de_it 0x2010000, de_it 0x300000001, de_it 0x8010000, de_it 0x1040101010601010102010101010101010501040202010501010104010101060101010201010101010101050104020200000000000000000000000000000000000000000001000117000c010008, de_it 0x2010000, de_it 0x2, de_it 0x2, de_it 0x4010000, de_it 0x2, de_it 0x2, de_it 0xa010011, de_it 0x8010010, de_it 0x4010000, de_it 0x1090101010901010001010a010101090101010a0101010a01010109010100010001010a01010109010100010001010a010101090101000100010001000100010001000000000000000000000000000000041e00020201000000000000040a0600030006, de_it 0x3432302e2c2a282614120c0a0806020010000d, de_it 0x1040101020501040201010201010105010101010101010401050201000000000000000000000000000100010e0000010007]
set_option maxRecDepth 100000 in
theorem tR_58 : tf_go tV_58 tK_58.2.1.1 tK_58.2.1.2 none tH_58_0 [(tK_58.2.1, tK_58.2.2.2.1, 0, tc_args 0 tK_58.2.2.1, [], ([], 0), ([], 0))] = true := by decide +kernel
noncomputable def tH_58_1 : List tc_It := [de_it 0x4010000, de_it 0x10b010100000300000001, de_it 0x2010000, de_it 0x2, de_it 0x2010000, de_it 0x6010011, de_it 0x10c010100010200000002, de_it 0x105010101040101010901010102010101010101010501040202000000000000000000000000000100010e0000010007]
set_option maxRecDepth 100000 in
theorem tP_58_0 : tf_plk tV_58 tL_58_0 tH_58_1 = true := by decide +kernel
noncomputable def tH_58_2 : List tc_It := [de_it 0x4010000, de_it 0x10b01010300000001, de_it 0x2010000, de_it 0x2, de_it 0xa010000, de_it 0x2, de_it 0x6010000, de_it 0x6010011, de_it 0x10c010100010200000002, de_it 0x2010000, de_it 0x2, de_it 0x6010000, de_it 0x10c010100010200000002, de_it 0x20800040002030006, de_it 0x10c010100010200000003, de_it 0x4010000, de_it 0x104010101090101010201010101010101060101020901040201010401010109010101020101010101010106010100000000000000000000000000010001000000010001000117000600020008]
set_option maxRecDepth 100000 in
theorem tP_58_1 : tf_plk tV_58 tL_58_1 tH_58_2 = true := by decide +kernel
noncomputable def tH_58_3 : List tc_It := [de_it 0x4010000, de_it 0x10b01010300000001, de_it 0x2010000, de_it 0x2, de_it 0xa010000, de_it 0x2, de_it 0x6010000, de_it 0x6010011, de_it 0x10c010100010200000002, de_it 0x2010000, de_it 0x2, de_it 0x6010000, de_it 0x10c010100010200000002, de_it 0x20800040002030006, de_it 0x10c010100010200000003, de_it 0x4010000, de_it 0x104010101090101010201010101010101060101020901040201010401010109010101020101010101010106010100000000000000000000000000010001000000010001000117000602020008]
set_option maxRecDepth 100000 in
theorem tP_58_2 : tf_plk tV_58 tL_58_2 tH_58_3 = true := by decide +kernel
noncomputable def tH_58_4 : List tc_It := [de_it 0x4010000, de_it 0x10b01010300000001, de_it 0x2010000, de_it 0x2, de_it 0xa010000, de_it 0x2, de_it 0x6010000, de_it 0x6010011, de_it 0x10c010100010200000002, de_it 0x2010000, de_it 0x2, de_it 0x6010000, de_it 0x10c010100010200000002, de_it 0x20800040002030006, de_it 0x10c010100010200000003, de_it 0x4010000, de_it 0x104010101090101010801010101010101060101020901040201010401010109010101080101010101010106010100000000000000000000000000010001000000010001000117000604020008]
set_option maxRecDepth 100000 in
theorem tP_58_3 : tf_plk tV_58 tL_58_3 tH_58_4 = true := by decide +kernel
noncomputable def tH_58_5 : List tc_It := [de_it 0x4010000, de_it 0x10b01010300000001, de_it 0x2010000, de_it 0x2, de_it 0xa010000, de_it 0x2, de_it 0x6010000, de_it 0x6010011, de_it 0x10c010100010200000002, de_it 0x2010000, de_it 0x2, de_it 0x6010000, de_it 0x10c010100010200000002, de_it 0x20800040002030006, de_it 0x10c010100010200000003, de_it 0x4010000, de_it 0x104010101090101010801010101010101060101020901040201010401010109010101080101010101010106010100000000000000000000000000010001000000010001000117000606020008]
set_option maxRecDepth 100000 in
theorem tP_58_4 : tf_plk tV_58 tL_58_4 tH_58_5 = true := by decide +kernel
noncomputable def tH_58_6 : List tc_It := [de_it 0x4010000, de_it 0x10a01010300000001, de_it 0x2010000, de_it 0x2, de_it 0xa010000, de_it 0x2, de_it 0x6010000, de_it 0x6010011, de_it 0x10b010100010200000002, de_it 0x2010000, de_it 0x2, de_it 0x6010000, de_it 0x10b010100010200000002, de_it 0x20800040002030006, de_it 0x10b010100010200000003, de_it 0x4010000, de_it 0x104010101090101010801010101010101060101020901040201010401010109010101080101010101010106010100000000000000000000000000010001000000010001000117000608020008]
set_option maxRecDepth 100000 in
theorem tP_58_5 : tf_plk tV_58 tL_58_5 tH_58_6 = true := by decide +kernel
noncomputable def tH_58_7 : List tc_It := [de_it 0x4010000, de_it 0x10b010902010300000001, de_it 0x8010000, de_it 0x10501040202010101010200000001, de_it 0x2010011, de_it 0x105020c01040302010101010200000002, de_it 0x10800040004030006, de_it 0x6010000, de_it 0x1040101010901010102010101010101010501040202010501010104010101090101010201010101010101050104020200000000000000000001000100000001000000010001000117008e010008]
set_option maxRecDepth 100000 in
theorem tP_58_6 : tf_plk tV_58 tL_58_6 tH_58_7 = true := by decide +kernel
noncomputable def tH_58_8 : List tc_It := [de_it 0x4010000, de_it 0x300000001, de_it 0x104010101090101010b010101010101010501040202010501010104010101090101010b01010101010101050104020200000000000000000000000000000000000100010001000117000600020008, de_it 0x8010000, de_it 0x10b01040201010101010200000001, de_it 0x2010011, de_it 0x10b010c01040301010101010200000002, de_it 0x10800040004030006, de_it 0x6010000, de_it 0x1040101010b01010102010101010101010b01040201020b0104020101040101010b01010102010101010101010b010402010000000000000000000100010000000100000001000100011700069c020008]
set_option maxRecDepth 100000 in
theorem tP_58_7 : tf_plk tV_58 tL_58_7 tH_58_8 = true := by decide +kernel
noncomputable def tH_58_9 : List tc_It := [de_it 0x4010000, de_it 0x300000001, de_it 0x104010101090101010b010101010101010601010209010402010104010101090101010b0101010101010106010100000000000000000000000000000000000100010001000117000600020008, de_it 0x8010000, de_it 0x10b01040201010101010200000001, de_it 0x2010011, de_it 0x10b010c01040301010101010200000002, de_it 0x10800040004030006, de_it 0x6010000, de_it 0x1040101010b01010102010101010101010b01040201020b0104020101040101010b01010102010101010101010b01040201000000000000000000010001000000010000000100010001170006a2020008]
set_option maxRecDepth 100000 in
theorem tP_58_8 : tf_plk tV_58 tL_58_8 tH_58_9 = true := by decide +kernel
noncomputable def tH_58_10 : List tc_It := [de_it 0x4010000, de_it 0x300000001, de_it 0x104010101090101010b010101010101010601010209010402010104010101090101010b0101010101010106010100000000000000000000000000000000000100010001000117000600020008, de_it 0x8010000, de_it 0x10b01040201010101010200000001, de_it 0x2010011, de_it 0x10b010c01040301010101010200000002, de_it 0x10800040004030006, de_it 0x6010000, de_it 0x1040101010b01010102010101010101010b01040201020b0104020101040101010b01010102010101010101010b01040201000000000000000000010001000000010000000100010001170006a8020008]
set_option maxRecDepth 100000 in
theorem tP_58_9 : tf_plk tV_58 tL_58_9 tH_58_10 = true := by decide +kernel
noncomputable def tH_58_11 : List tc_It := [de_it 0x4010000, de_it 0x300000001, de_it 0x104010101090101010b010101010101010601010209010402010104010101090101010b0101010101010106010100000000000000000000000000000000000100010001000117000600020008, de_it 0x8010000, de_it 0x10b01040201010101010200000001, de_it 0x2010011, de_it 0x10b010c01040301010101010200000002, de_it 0x10800040004030006, de_it 0x6010000, de_it 0x1040101010b01010102010101010101010b01040201020b0104020101040101010b01010102010101010101010b01040201000000000000000000010001000000010000000100010001170006b0020008]
set_option maxRecDepth 100000 in
theorem tP_58_10 : tf_plk tV_58 tL_58_10 tH_58_11 = true := by decide +kernel
noncomputable def tH_58_12 : List tc_It := [de_it 0x4010000, de_it 0x300000001, de_it 0x104010101090101010b010101010101010601010209010402010104010101090101010b0101010101010106010100000000000000000000000000000000000100010001000117000600020008, de_it 0x8010000, de_it 0x10b01040201010101010200000001, de_it 0x2010011, de_it 0x10b010c01040301010101010200000002, de_it 0x10800040004030006, de_it 0x6010000, de_it 0x1040101010b01010102010101010101010b01040201020b0104020101040101010b01010102010101010101010b01040201000000000000000000010001000000010000000100010001170006b8020008]
set_option maxRecDepth 100000 in
theorem tP_58_11 : tf_plk tV_58 tL_58_11 tH_58_12 = true := by decide +kernel
noncomputable def tH_58_13 : List tc_It := [de_it 0x4010000, de_it 0x10a0102020100000300000001, de_it 0x104010101090101010201010101010101060101020901040201010401010109010101020101010101010106010100000000000000000000000000000000000100010001000117000600020008]
set_option maxRecDepth 100000 in
theorem tP_58_12 : tf_plk tV_58 tL_58_12 tH_58_13 = true := by decide +kernel
noncomputable def tH_58_14 : List tc_It := [de_it 0x4010000, de_it 0x300000001, de_it 0x104010101090101010b010101010101010601010209010402010104010101090101010b0101010101010106010100000000000000000000000000000000000100010001000117000600020008, de_it 0x8010000, de_it 0x10b01040201010101010200000001, de_it 0x2010011, de_it 0x10b010c01040301010101010200000002, de_it 0x10800040004030006, de_it 0x6010000, de_it 0x1040101010b01010102010101010101010b01040201020b0104020101040101010b01010102010101010101010b01040201000000000000000000010001000000010000000100010001170006c2020008]
set_option maxRecDepth 100000 in
theorem tP_58_13 : tf_plk tV_58 tL_58_13 tH_58_14 = true := by decide +kernel
noncomputable def tH_58_15 : List tc_It := [de_it 0x4010000, de_it 0x300000001, de_it 0x104010101090101010b010101010101010601010209010402010104010101090101010b0101010101010106010100000000000000000000000000000000000100010001000117000602020008, de_it 0x8010000, de_it 0x10b01040201010101010200000001, de_it 0x2010011, de_it 0x10b010c01040301010101010200000002, de_it 0x10800040004030006, de_it 0x6010000, de_it 0x1040101010b01010102010101010101010b01040201020b0104020101040101010b01010102010101010101010b01040201000000000000000000010001000000010000000100010001170006c6020008]
set_option maxRecDepth 100000 in
theorem tP_58_14 : tf_plk tV_58 tL_58_14 tH_58_15 = true := by decide +kernel
noncomputable def tH_58_16 : List tc_It := [de_it 0x4010000, de_it 0x300000001, de_it 0x104010101090101010b010101010101010601010209010402010104010101090101010b0101010101010106010100000000000000000000000000000000000100010001000117000602020008, de_it 0x8010000, de_it 0x10b01040201010101010200000001, de_it 0x2010011, de_it 0x10b010c01040301010101010200000002, de_it 0x10800040004030006, de_it 0x6010000, de_it 0x1040101010b01010102010101010101010b01040201020b0104020101040101010b01010102010101010101010b01040201000000000000000000010001000000010000000100010001170006ca020008]
set_option maxRecDepth 100000 in
theorem tP_58_15 : tf_plk tV_58 tL_58_15 tH_58_16 = true := by decide +kernel
noncomputable def tH_58_17 : List tc_It := [de_it 0x4010000, de_it 0x300000001, de_it 0x104010101090101010b010101010101010601010209010402010104010101090101010b0101010101010106010100000000000000000000000000000000000100010001000117000602020008, de_it 0x8010000, de_it 0x10b01040201010101010200000001, de_it 0x2010011, de_it 0x10b010c01040301010101010200000002, de_it 0x10800040004030006, de_it 0x6010000, de_it 0x1040101010b01010102010101010101010b01040201020b0104020101040101010b01010102010101010101010b01040201000000000000000000010001000000010000000100010001170006d0020008]
set_option maxRecDepth 100000 in
theorem tP_58_16 : tf_plk tV_58 tL_58_16 tH_58_17 = true := by decide +kernel
noncomputable def tH_58_18 : List tc_It := [de_it 0x4010000, de_it 0x300000001, de_it 0x104010101090101010b010101010101010601010209010402010104010101090101010b0101010101010106010100000000000000000000000000000000000100010001000117000602020008, de_it 0x8010000, de_it 0x10b01040201010101010200000001, de_it 0x2010011, de_it 0x10b010c01040301010101010200000002, de_it 0x10800040004030006, de_it 0x6010000, de_it 0x1040101010b01010102010101010101010b01040201020b0104020101040101010b01010102010101010101010b01040201000000000000000000010001000000010000000100010001170006d2020008]
set_option maxRecDepth 100000 in
theorem tP_58_17 : tf_plk tV_58 tL_58_17 tH_58_18 = true := by decide +kernel
noncomputable def tH_58_19 : List tc_It := [de_it 0x4010000, de_it 0x300000001, de_it 0x104010101090101010b010101010101010601010209010402010104010101090101010b0101010101010106010100000000000000000000000000000000000100010001000117000602020008, de_it 0x8010000, de_it 0x10b01040201010101010200000001, de_it 0x2010011, de_it 0x10b010c01040301010101010200000002, de_it 0x10800040004030006, de_it 0x6010000, de_it 0x1040101010b01010102010101010101010b01040201020b0104020101040101010b01010102010101010101010b01040201000000000000000000010001000000010000000100010001170006d6020008]
set_option maxRecDepth 100000 in
theorem tP_58_18 : tf_plk tV_58 tL_58_18 tH_58_19 = true := by decide +kernel
noncomputable def tH_58_20 : List tc_It := [de_it 0x4010000, de_it 0x300000001, de_it 0x104010101090101010b010101010101010601010209010402010104010101090101010b0101010101010106010100000000000000000000000000000000000100010001000117000602020008, de_it 0x8010000, de_it 0x10b01040201010101010200000001, de_it 0x2010011, de_it 0x10b010c01040301010101010200000002, de_it 0x10800040004030006, de_it 0x6010000, de_it 0x1040101010b01010102010101010101010b01040201020b0104020101040101010b01010102010101010101010b01040201000000000000000000010001000000010000000100010001170006dc020008]
set_option maxRecDepth 100000 in
theorem tP_58_19 : tf_plk tV_58 tL_58_19 tH_58_20 = true := by decide +kernel
noncomputable def tH_58_21 : List tc_It := [de_it 0x4010000, de_it 0x300000001, de_it 0x104010101090101010b010101010101010601010209010402010104010101090101010b0101010101010106010100000000000000000000000000000000000100010001000117000602020008, de_it 0x8010000, de_it 0x10b01040201010101010200000001, de_it 0x2010011, de_it 0x10b010c01040301010101010200000002, de_it 0x10800040004030006, de_it 0x6010000, de_it 0x1040101010b01010102010101010101010b01040201020b0104020101040101010b01010102010101010101010b01040201000000000000000000010001000000010000000100010001170006e2020008]
set_option maxRecDepth 100000 in
theorem tP_58_20 : tf_plk tV_58 tL_58_20 tH_58_21 = true := by decide +kernel
noncomputable def tH_58_22 : List tc_It := [de_it 0x4010000, de_it 0x300000001, de_it 0x104010101090101010b010101010101010601010209010402010104010101090101010b0101010101010106010100000000000000000000000000000000000100010001000117000602020008, de_it 0x8010000, de_it 0x10b01040201010101010200000001, de_it 0x2010011, de_it 0x10b010c01040301010101010200000002, de_it 0x10800040004030006, de_it 0x6010000, de_it 0x1040101010b01010102010101010101010b01040201020b0104020101040101010b01010102010101010101010b01040201000000000000000000010001000000010000000100010001170006e6020008]
set_option maxRecDepth 100000 in
theorem tP_58_21 : tf_plk tV_58 tL_58_21 tH_58_22 = true := by decide +kernel
