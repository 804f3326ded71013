/-! contracts -/
noncomputable def tK_358 : tc_Ct := (163, (2, 2), [(2, ([], 0), 0), (0, ([(0, 1)], 0), 0), (2, ([], 0), 1), (0, ([], 4), 0)], ([([(0, -1)], 255), ([(0, 1)], 0), ([(1, -1)], 8192), ([(1, 1)], -200)], [(0, 172), (1, 193)], [(1, ([(1, 1)], 0))], [], [], [], [(600, [], []), (608, [], []), (968, [], []), (1016, [], []), (1024, [], []), (1040, [], []), (1088, [], []), (1096, [], [])]), [(167, 0), (167, 1), (167, 2), (167, 3), (167, 4), (167, 5)], [((2, 2), ([([(0, -1)], 255), ([(0, 1)], 0), ([(1, -1)], 8192), ([(1, 1)], -200)], [], [(1, ([(1, 1)], 0))], [], [], [], []), none, ([], 0), ([], 0))])
noncomputable def tL_358_0 : tc_Pl := de_pl 0x30d3aff000401020200020000000000030d3aff000300000000000000020201000400080000030100000202000002000100010000000200050300000000000000000448ff00000000000000000440ff00000000000000000410ff00000000000000000400ff000000000000000003f8ff000000000000000003c8ff00000000000000000260ff00000000000000000258ff08000000000201010101c101ac000200000000000001feff01020100020002020104010201000000000000018fff0201010000000000004000ff0101010002000100000000000001feff010001000000000000018fff0201010000000000004000ff0101010002000100000000000001feff0100010b0203
noncomputable def tJ_358 : List tc_Pl := [tL_358_0]
noncomputable def tC_358 : List tc_Ct := [tK_12, tK_28]
def tM_358 (z : Nat) : Option am_Meth := if z = 33 then some aM_33.1 else if z = 19 then some aM_19.1 else none
set_option maxRecDepth 100000 in
theorem tMs_358 (sa : Nat → Nat) : ∀ z mz, tM_358 z = some mz → am_meth (aP sa) z = some mz := by
  intro z mz h
  unfold tM_358 at h
  rcases de_m h with ⟨rfl, rfl⟩ | h
  · exact (show am_meth (aP sa) 33 = some aM_33.1 from rfl)
  rcases de_m h with ⟨rfl, rfl⟩ | h
  · exact (show am_meth (aP sa) 19 = some aM_19.1 from rfl)
  cases h
noncomputable def tV_358 : tc_Ev := (aQ, tp_T, tp_G.2, tp_Z, tM_358, tC_358, tp_L, tK_358.2.2.2.2.1, aM_163.1, aW_163, tK_358.2.1, tK_358.2.2.2.2.2, tJ_358)
theorem tE_358 : tK_358.2.2.2.2.2.all (tc_wex tK_358.2.1.1 tK_358.2.1.2) = true := by decide +kernel
theorem tSS_358 : tC_358.all (fun c => tw_mg tK_358.2.2.2.2.1 c.2.2.2.2.1) = true := by decide +kernel
theorem tHC_358 : ∀ c ∈ tC_358, c.2.2.2.2.1.all tK_358.2.2.2.2.1.contains = true ∧ c.2.2.2.2.2.all (tc_wex c.2.1.1 c.2.1.2) = true := tf_hc tSS_358 (by
  intro c hc
  have hc : c ∈ ([tK_12, tK_28] : List tc_Ct) := hc
  rcases List.mem_cons.mp hc with rfl | hc
  · exact tE_12
  rcases List.mem_cons.mp hc with rfl | hc
  · exact tE_28
  cases hc)
noncomputable def tH_358_0 : List tc_It := [de_it 0x4010000, de_it 0x1000101000100010103010101020101010101010100010101030101010201010101010101000101000000000000000000000000000100011300000100010008]
set_option maxRecDepth 100000 in
theorem tR_358 : tf_go tV_358 tK_358.2.1.1 tK_358.2.1.2 none tH_358_0 [(tK_358.2.1, tK_358.2.2.2.1, 0, tc_args 0 tK_358.2.2.1, [], ([], 0), ([], 0))] = true := by decide +kernel
noncomputable def tH_358_1 : List tc_It := [de_it 0x4010000, de_it 0x300000001, de_it 0x10301010102010101010101010b010a0201000000000000000000000000000100010c0000010007, de_it 0x4010000, de_it 0x300000001, de_it 0x103010101020101010c010101000101000000000000000000000000000100010c0000010007, de_it 0x4010000, de_it 0x300000001, de_it 0x103010101020101010d0101010e0101000000000000000000000000000100010c0000010007, de_it 0x2010000, de_it 0x2, de_it 0x2010000, de_it 0x4010011, de_it 0x10d010100010200000102010002, de_it 0x300000001, de_it 0x2010000, de_it 0x2, de_it 0x2010000, de_it 0x6010011, de_it 0x80000000000000300000006000000000000000274ff060009, de_it 0x115010b020101090101010b01010109010101090101000000000000000000000000000000000d00020501000202010100040000000506000000000000025aff020009, de_it 0x6e010015, de_it 0x6010000, de_it 0x10201010103010101030101010201010103010101020101010301010102010100010001010301010102010100010001000100010000000000000000000000000000000318000201010800000003020800030006, de_it 0x10b0101010901010200000001, de_it 0x2010000, de_it 0x10b010c020101090101010b0101010301010102010101010101010c0101010301010102010101010101010c010100000000010b010102010001000000010001000113020202010100010008, de_it 0x2010000, de_it 0x2, de_it 0x2010000, de_it 0x10d010100010200000002, de_it 0x10f010101100101000000000000000000000000000000000a000204010102010006, de_it 0x2010000, de_it 0x300000001, de_it 0x10b0101010901010200000001, de_it 0x2010000, de_it 0x10b010c020101090101010b0101010301010102010101010101010c0101010301010102010101010101010c010100000000010b010102010001000000010001000113020202010100010008, de_it 0x2010000, de_it 0x2, de_it 0x2010000, de_it 0x6010011, de_it 0x80000000000000300000006000000000000000274ff060009, de_it 0x119010b020101090101010b01010109010101090101000000000000000000000000000000000d00020601000202010100040000000506000000000000025aff020009, de_it 0x6e010015, de_it 0x6010000, de_it 0x10201010103010101030101010201010103010101020101010301010102010100010001010301010102010100010001000100010000000000000000000000000000000318000201010800000003020800030006, de_it 0x3432302e2c2a201e1c1a1816141206040211000d, de_it 0x1050101010301010200000001, de_it 0x2010000, de_it 0x1060105020101030101010501010102010101010101010001010106010101020101010101010100010101060101000000000105010002010001000000010001000113020202010100010008]
set_option maxRecDepth 100000 in
theorem tP_358_0 : tf_plk tV_358 tL_358_0 tH_358_1 = true := by decide +kernel
set_option maxRecDepth 100000 in
theorem tT_358 {RO : am_O} {sa : Nat → Nat} (h_12 : tc_true (aP sa) tp_G RO tp_T tp_Z tK_12) (h_28 : tc_true (aP sa) tp_G RO tp_T tp_Z tK_28) : tc_true (aP sa) tp_G RO tp_T tp_Z tK_358 := by
  have hC : ∀ c ∈ tC_358, tc_true (aP sa) tp_G RO tp_T tp_Z c := by
    intro c hc
    have hc : c ∈ ([tK_12, tK_28] : List tc_Ct) := hc
    rcases List.mem_cons.mp hc with rfl | hc
    · exact h_12
    rcases List.mem_cons.mp hc with rfl | hc
    · exact h_28
    cases hc
  have hP : ∀ p ∈ tJ_358, ∃ hs, tc_plk (aP sa, tV_358.2) p hs = true := by
    intro p hp
    have hp : p ∈ ([tL_358_0] : List tc_Pl) := hp
    rcases List.mem_cons.mp hp with rfl | hp
    · exact ⟨_, (tc_plk_sa (aP_sa sa _)).trans ((tf_plk_s tHC_358).trans tP_358_0)⟩
    cases hp
  exact tc_main (mt := aM_163.1) (hs := tH_358_0) (PL := tJ_358) ⟨tp_G_ok, tMs_358 _, hC, tp_L_ok, tp_G_re⟩ (show am_meth (aP sa) 163 = some aM_163.1 from rfl) aX_163 (by decide +kernel) hP ((tc_go_sa (aP_sa sa _)).trans ((tf_go_s tHC_358).trans tR_358))
noncomputable def tK_359 : tc_Ct := (162, (9, 8), [(2, ([], 0), 0)], ([([(0, -1)], 5), ([(0, 1)], 0), ([(1, -1)], 1), ([(1, 1)], 0), ([(2, -1)], 2000), ([(2, 1)], 0), ([(3, -1)], 4096), ([(3, 1)], 0), ([(4, -1)], 93912), ([(4, 1)], -8), ([(5, -1)], 8192), ([(5, 1)], -200), ([(6, -1)], 8192), ([(6, 1)], -200), ([(7, -1)], 8000000), ([(8, -1)], 46943), ([(8, 1)], -40300), ([(2, -50)], 100000)], [(0, 172), (1, 166), (2, 188), (3, 179), (4, 179), (5, 193), (6, 193), (7, 193)], [(5, ([(4, 1)], 0)), (6, ([(5, 1)], 0)), (7, ([(6, 1)], 0))], [(0, 0, (2, ([], 0), 1)), (0, 2, (2, ([], 0), 2)), (0, 11, (0, ([(1, 1)], 0), 0)), (0, 13, (0, ([(0, 1)], 0), 0)), (1, 2, (2, ([], 0), 3)), (1, 3, (2, ([], 0), 4)), (2, 0, (2, ([], 0), 5)), (2, 1, (0, ([(2, 1)], 0), 0)), (3, 0, (2, ([], 0), 6)), (3, 1, (0, ([], 4), 0)), (4, 0, (2, ([], 0), 7)), (4, 1, (0, ([(3, 1)], 0), 0))], [], [], [(1136, [], [([(7, 1)], 0)]), (600, [], []), (608, [], []), (968, [], []), (1016, [], []), (1024, [], []), (1040, [], []), (1088, [], []), (1096, [], []), (1128, [], [([(8, 1)], 0)]), (568, [1], [])]), [(167, 0), (167, 1), (167, 2), (167, 3), (167, 4), (167, 5), (179, 0), (179, 1), (188, 0), (188, 1), (193, 0), (193, 1000), (227, 0)], [((15, 9), ([([(0, -1)], 5), ([(0, 1)], 0), ([(1, -1)], 1), ([(1, 1)], 0), ([(2, -1)], 2000), ([(2, 1)], 0), ([(3, -1)], 4096), ([(3, 1)], 0), ([(4, -1)], 93912), ([(4, 1)], -8), ([(5, -1)], 8192), ([(5, 1)], -200), ([(6, -1)], 8192), ([(6, 1)], -200), ([(7, -1)], 8000000), ([(8, -1)], 46943), ([(8, 1)], -40300), ([(9, -1)], 2016), ([(9, 1)], 0), ([(10, -1)], 4096), ([(10, 1)], 0), ([(11, -1)], 8192), ([(11, 1)], -200), ([(12, 1)], 0), ([(13, 1)], 0), ([(14, -1)], 8000000), ([(2, -50)], 100000), ([(12, -16), (13, 1)], 0), ([(2, 50), (9, -50)], 809), ([(7, 1), (13, -1), (14, -1)], 0)], [(8, 193)], [(5, ([(4, 1)], 0)), (6, ([(5, 1)], 0)), (7, ([(6, 1)], 0)), (8, ([(11, 1)], 0))], [(2, 1, (0, ([(9, 1)], 0), 0)), (4, 0, (2, ([], 0), 8)), (4, 1, (0, ([(10, 1)], 0), 0))], [], [], [(1096, [], []), (1128, [], [([(8, 1)], 0)]), (1136, [], [([(14, 1)], 0)])]), none, ([(12, 1)], 0), ([(13, 1)], 0))])
noncomputable def tJ_359 : List tc_Pl := []
noncomputable def tC_359 : List tc_Ct := [tK_355, tK_354, tK_358, tK_342]
def tM_359 (z : Nat) : Option am_Meth := if z = 164 then some aM_164.1 else if z = 163 then some aM_163.1 else if z = 158 then some aM_158.1 else if z = 11 then some aM_11.1 else none
set_option maxRecDepth 100000 in
theorem tMs_359 (sa : Nat → Nat) : ∀ z mz, tM_359 z = some mz → am_meth (aP sa) z = some mz := by
  intro z mz h
  unfold tM_359 at h
  rcases de_m h with ⟨rfl, rfl⟩ | h
  · exact (show am_meth (aP sa) 164 = some aM_164.1 from rfl)
  rcases de_m h with ⟨rfl, rfl⟩ | h
  · exact (show am_meth (aP sa) 163 = some aM_163.1 from rfl)
  rcases de_m h with ⟨rfl, rfl⟩ | h
  · exact (show am_meth (aP sa) 158 = some aM_158.1 from rfl)
  rcases de_m h with ⟨rfl, rfl⟩ | h
  · exact (show am_meth (aP sa) 11 = some aM_11.1 from rfl)
  cases h
noncomputable def tV_359 : tc_Ev := (aQ, tp_T, tp_G.2, tp_Z, tM_359, tC_359, tp_L, tK_359.2.2.2.2.1, aM_162.1, aW_162, tK_359.2.1, tK_359.2.2.2.2.2, tJ_359)
theorem tE_359 : tK_359.2.2.2.2.2.all (tc_wex tK_359.2.1.1 tK_359.2.1.2) = true := by decide +kernel
theorem tSS_359 : tC_359.all (fun c => tw_mg tK_359.2.2.2.2.1 c.2.2.2.2.1) = true := by decide +kernel
theorem tHC_359 : ∀ c ∈ tC_359, c.2.2.2.2.1.all tK_359.2.2.2.2.1.contains = true ∧ c.2.2.2.2.2.all (tc_wex c.2.1.1 c.2.1.2) = true := tf_hc tSS_359 (by
  intro c hc
  have hc : c ∈ ([tK_355, tK_354, tK_358, tK_342] : List tc_Ct) := hc
  rcases List.mem_cons.mp hc with rfl | hc
  · exact tE_355
  rcases List.mem_cons.mp hc with rfl | hc
  · exact tE_354
  rcases List.mem_cons.mp hc with rfl | hc
  · exact tE_358
  rcases List.mem_cons.mp hc with rfl | hc
  · exact tE_342
  cases hc)
noncomputable def tH_359_0 : List tc_It := [de_it 0x2010000, de_it 0x2, de_it 0x10010, de_it 0x2, de_it 0x6010000, de_it 0x10b010100010001010b0101010a0101000100010001000100000000000000000000000000000000110002050108000000030c0600030006, de_it 0x6010000, de_it 0x10b0101010b0101010a010100010001000000000000000000000000000000010d000205010800020c0602030006, de_it 0x2010000, de_it 0x2, de_it 0x2010000, de_it 0x2, de_it 0x10b0101010a01010121010101200101000000000000000000000000000000030c0002050100020901020c0004030006, de_it 0x6010000, de_it 0x2, de_it 0x4010000, de_it 0x2, de_it 0x8010010, de_it 0x4010010, de_it 0x321001110201010a0101010a010101110101010a0101010b0101010a0101010b010100010001010a0101010e010101100101010f0101010d0101010c0101010901010108010101070101010601010105010101110132010b0101010a0101010301010102010101010101010001010001000100010001000000000000000000000000000000042800020701000208010002060100020401000203010002020100020501000201010002000108002c000b0e0a0804020c0006080006, de_it 0xaeaca6a49492908e8c8a888684544e2422201e1c1a18161412100e0c0a080604020022000d, de_it 0x120010101210101011f010101110101011d0101011c0101011b0101011a01010119010101180101011701010116010101210111023201100101010f0101010e0101010d0101010c0101010b0101010a010101090101010801010107010101060101010501010111013201030101010201010101010101000101000000000000000000000000000100012600020f0100020e0100020d0100020c0100020b0100020a01061000020007]
set_option maxRecDepth 100000 in
theorem tR_359 : tf_go tV_359 tK_359.2.1.1 tK_359.2.1.2 none tH_359_0 [(tK_359.2.1, tK_359.2.2.2.1, 0, tc_args 0 tK_359.2.2.1, [], ([], 0), ([], 0))] = true := by decide +kernel
set_option maxRecDepth 100000 in
theorem tT_359 {RO : am_O} {sa : Nat → Nat} (h_342 : tc_true (aP sa) tp_G RO tp_T tp_Z tK_342) (h_354 : tc_true (aP sa) tp_G RO tp_T tp_Z tK_354) (h_355 : tc_true (aP sa) tp_G RO tp_T tp_Z tK_355) (h_358 : tc_true (aP sa) tp_G RO tp_T tp_Z tK_358) : tc_true (aP sa) tp_G RO tp_T tp_Z tK_359 := by
  have hC : ∀ c ∈ tC_359, tc_true (aP sa) tp_G RO tp_T tp_Z c := by
    intro c hc
    have hc : c ∈ ([tK_355, tK_354, tK_358, tK_342] : List tc_Ct) := hc
    rcases List.mem_cons.mp hc with rfl | hc
    · exact h_355
    rcases List.mem_cons.mp hc with rfl | hc
    · exact h_354
    rcases List.mem_cons.mp hc with rfl | hc
    · exact h_358
    rcases List.mem_cons.mp hc with rfl | hc
    · exact h_342
    cases hc
  have hP : ∀ p ∈ tJ_359, ∃ hs, tc_plk (aP sa, tV_359.2) p hs = true := by
    intro p hp
    have hp : p ∈ ([] : List tc_Pl) := hp
    cases hp
  exact tc_main (mt := aM_162.1) (hs := tH_359_0) (PL := tJ_359) ⟨tp_G_ok, tMs_359 _, hC, tp_L_ok, tp_G_re⟩ (show am_meth (aP sa) 162 = some aM_162.1 from rfl) aX_162 (by decide +kernel) hP ((tc_go_sa (aP_sa sa _)).trans ((tf_go_s tHC_359).trans tR_359))
noncomputable def tK_360 : tc_Ct := (148, (4, 4), [(2, ([], 0), 0), (0, ([(0, 1)], 0), 0)], ([([(0, -1)], 24), ([(0, 1)], -1), ([(1, -1)], 4096), ([(1, 1)], 0), ([(2, -1)], 8192), ([(2, 1)], -200), ([(3, -1)], 8409008), ([(3, 1)], 0), ([(1, -1), (2, 1)], 0)], [(0, 171), (1, 166), (2, 179), (3, 193)], [(3, ([(2, 1)], 0))], [(0, 0, (2, ([], 0), 1)), (1, 2, (2, ([], 0), 2)), (2, 0, (2, ([], 0), 3)), (2, 1, (0, ([(1, 1)], 0), 0))], [], [], [(1024, [], []), (1136, [], [([(3, 1)], 0)]), (1016, [], []), (1088, [], []), (1096, [], []), (568, [1], [])]), [(179, 0), (179, 1), (193, 0), (193, 1000)], [((7, 4), ([([(0, -1)], 24), ([(0, 1)], -1), ([(1, -1)], 4096), ([(1, 1)], 0), ([(2, -1)], 8192), ([(2, 1)], -200), ([(3, -1)], 8409008), ([(3, 1)], 0), ([(4, -1)], 3), ([(4, 1)], 0), ([(5, -1)], 24570), ([(5, 1)], 0), ([(6, -1)], 8409008), ([(1, -1), (2, 1)], 0), ([(4, -16), (5, 1)], 0), ([(3, 1), (5, -1), (6, -1)], 0)], [], [(3, ([(2, 1)], 0))], [(2, 1, (0, ([], 3), 0))], [], [], [(1136, [], [([(6, 1)], 0)])]), some (2, ([], 0), 2), ([(4, 1)], 0), ([(5, 1)], 0))])
noncomputable def tJ_360 : List tc_Pl := []
noncomputable def tC_360 : List tc_Ct := [tK_151, tK_152, tK_332]
def tM_360 (z : Nat) : Option am_Meth := if z = 149 then some aM_149.1 else if z = 23 then some aM_23.1 else if z = 7 then some aM_7.1 else none
set_option maxRecDepth 100000 in
theorem tMs_360 (sa : Nat → Nat) : ∀ z mz, tM_360 z = some mz → am_meth (aP sa) z = some mz := by
  intro z mz h
  unfold tM_360 at h
  rcases de_m h with ⟨rfl, rfl⟩ | h
  · exact (show am_meth (aP sa) 149 = some aM_149.1 from rfl)
  rcases de_m h with ⟨rfl, rfl⟩ | h
  · exact (show am_meth (aP sa) 23 = some aM_23.1 from rfl)
  rcases de_m h with ⟨rfl, rfl⟩ | h
  · exact (show am_meth (aP sa) 7 = some aM_7.1 from rfl)
  cases h
noncomputable def tV_360 : tc_Ev := (aQ, tp_T, tp_G.2, tp_Z, tM_360, tC_360, tp_L, tK_360.2.2.2.2.1, aM_148.1, aW_148, tK_360.2.1, tK_360.2.2.2.2.2, tJ_360)
theorem tE_360 : tK_360.2.2.2.2.2.all (tc_wex tK_360.2.1.1 tK_360.2.1.2) = true := by decide +kernel
theorem tSS_360 : tC_360.all (fun c => tw_mg tK_360.2.2.2.2.1 c.2.2.2.2.1) = true := by decide +kernel
theorem tHC_360 : ∀ c ∈ tC_360, c.2.2.2.2.1.all tK_360.2.2.2.2.1.contains = true ∧ c.2.2.2.2.2.all (tc_wex c.2.1.1 c.2.1.2) = true := tf_hc tSS_360 (by
  intro c hc
  have hc : c ∈ ([tK_151, tK_152, tK_332] : List tc_Ct) := hc
  rcases List.mem_cons.mp hc with rfl | hc
  · exact tE_151
  rcases List.mem_cons.mp hc with rfl | hc
  · exact tE_152
  rcases List.mem_cons.mp hc with rfl | hc
  · exact tE_332
  cases hc)
noncomputable def tH_360_0 : List tc_It := [de_it 0x2010000, de_it 0x2, de_it 0x2, de_it 0x108010101050101010401010103010101020101000000000000000000000000000000000d000202010002010102060400030006, de_it 0x2010000, de_it 0x2, de_it 0x2, de_it 0x2010000, de_it 0x10601010105010101040101000100010101010101000101000000000000000000000000000000010f000203010002020100000002000104060402030006, de_it 0x2010000, de_it 0x2, de_it 0x2, de_it 0x2010000, de_it 0x402000f, de_it 0x8010011, de_it 0x4010010, de_it 0x119010101210101012001010001000100010001000000000000000000000000000000010f00020601000207010200000004080404030006, de_it 0x605e5a585654524240383632302e2c2a100e0c0a080604020019000d, de_it 0x2010000, de_it 0x2, de_it 0x2, de_it 0x118010f02010117010e020101080101011601010115010c02010114010b02010113010a02010112010902010107010101060101010501010104010101030101010201010101010101000101000000000000000000000000000100011800020a010002090205020002080204020300010007]
set_option maxRecDepth 100000 in
theorem tR_360 : tf_go tV_360 tK_360.2.1.1 tK_360.2.1.2 none tH_360_0 [(tK_360.2.1, tK_360.2.2.2.1, 0, tc_args 0 tK_360.2.2.1, [], ([], 0), ([], 0))] = true := by decide +kernel
set_option maxRecDepth 100000 in
theorem tT_360 {RO : am_O} {sa : Nat → Nat} (h_151 : tc_true (aP sa) tp_G RO tp_T tp_Z tK_151) (h_152 : tc_true (aP sa) tp_G RO tp_T tp_Z tK_152) (h_332 : tc_true (aP sa) tp_G RO tp_T tp_Z tK_332) : tc_true (aP sa) tp_G RO tp_T tp_Z tK_360 := by
  have hC : ∀ c ∈ tC_360, tc_true (aP sa) tp_G RO tp_T tp_Z c := by
    intro c hc
    have hc : c ∈ ([tK_151, tK_152, tK_332] : List tc_Ct) := hc
    rcases List.mem_cons.mp hc with rfl | hc
    · exact h_151
    rcases List.mem_cons.mp hc with rfl | hc
    · exact h_152
    rcases List.mem_cons.mp hc with rfl | hc
    · exact h_332
    cases hc
  have hP : ∀ p ∈ tJ_360, ∃ hs, tc_plk (aP sa, tV_360.2) p hs = true := by
    intro p hp
    have hp : p ∈ ([] : List tc_Pl) := hp
    cases hp
  exact tc_main (mt := aM_148.1) (hs := tH_360_0) (PL := tJ_360) ⟨tp_G_ok, tMs_360 _, hC, tp_L_ok, tp_G_re⟩ (show am_meth (aP sa) 148 = some aM_148.1 from rfl) aX_148 (by decide +kernel) hP ((tc_go_sa (aP_sa sa _)).trans ((tf_go_s tHC_360).trans tR_360))
noncomputable def tK_361 : tc_Ct := (239, (4, 4), [(2, ([], 0), 0), (0, ([(0, 1)], 0), 0)], ([([(0, -1)], 1), ([(0, 1)], 0), ([(1, -1)], 4096), ([(1, 1)], 0), ([(2, -1)], 8192), ([(2, 1)], -200), ([(3, -1)], 8000000), ([(3, 1)], 0), ([(1, -1), (2, 1)], 0)], [(0, 171), (1, 166), (2, 179), (3, 193)], [(3, ([(2, 1)], 0))], [(0, 0, (2, ([], 0), 1)), (1, 2, (2, ([], 0), 2)), (2, 0, (2, ([], 0), 3)), (2, 1, (0, ([(1, 1)], 0), 0))], [], [], [(1016, [], []), (1024, [], []), (1088, [], []), (1096, [], []), (1136, [], [([(3, 1)], 0)]), (568, [1], [])]), [(179, 0), (179, 1), (193, 0), (193, 1000)], [((7, 4), ([([(0, -1)], 1), ([(0, 1)], 0), ([(1, -1)], 4096), ([(1, 1)], 0), ([(2, -1)], 8192), ([(2, 1)], -200), ([(3, -1)], 8000000), ([(3, 1)], 0), ([(4, -1)], 4), ([(4, 1)], 0), ([(5, -1)], 32760), ([(5, 1)], 0), ([(6, -1)], 8000000), ([(1, -1), (2, 1)], 0), ([(4, -16), (5, 1)], 0), ([(3, 1), (5, -1), (6, -1)], 0)], [], [(3, ([(2, 1)], 0))], [(2, 1, (0, ([], 4), 0))], [], [], [(1136, [], [([(6, 1)], 0)])]), none, ([(4, 1)], 0), ([(5, 1)], 0))])
noncomputable def tJ_361 : List tc_Pl := []
noncomputable def tC_361 : List tc_Ct := [tK_360, tK_152]
def tM_361 (z : Nat) : Option am_Meth := if z = 148 then some aM_148.1 else if z = 7 then some aM_7.1 else none
set_option maxRecDepth 100000 in
theorem tMs_361 (sa : Nat → Nat) : ∀ z mz, tM_361 z = some mz → am_meth (aP sa) z = some mz := by
  intro z mz h
  unfold tM_361 at h
  rcases de_m h with ⟨rfl, rfl⟩ | h
  · exact (show am_meth (aP sa) 148 = some aM_148.1 from rfl)
  rcases de_m h with ⟨rfl, rfl⟩ | h
  · exact (show am_meth (aP sa) 7 = some aM_7.1 from rfl)
  cases h
noncomputable def tV_361 : tc_Ev := (aQ, tp_T, tp_G.2, tp_Z, tM_361, tC_361, tp_L, tK_361.2.2.2.2.1, aM_239.1, aW_239, tK_361.2.1, tK_361.2.2.2.2.2, tJ_361)
theorem tE_361 : tK_361.2.2.2.2.2.all (tc_wex tK_361.2.1.1 tK_361.2.1.2) = true := by decide +kernel
theorem tSS_361 : tC_361.all (fun c => tw_mg tK_361.2.2.2.2.1 c.2.2.2.2.1) = true := by decide +kernel
theorem tHC_361 : ∀ c ∈ tC_361, c.2.2.2.2.1.all tK_361.2.2.2.2.1.contains = true ∧ c.2.2.2.2.2.all (tc_wex c.2.1.1 c.2.1.2) = true := tf_hc tSS_361 (by
  intro c hc
  have hc : c ∈ ([tK_360, tK_152] : List tc_Ct) := hc
  rcases List.mem_cons.mp hc with rfl | hc
  · exact tE_360
  rcases List.mem_cons.mp hc with rfl | hc
  · exact tE_152
  cases hc)
noncomputable def tH_361_0 : List tc_It := [de_it 0x4010000, de_it 0x10801010107010101060101010501010104010101030101010201010001000100000000000000000000000000000001110002030100020201000201013000040604020000050006, de_it 0x2010000, de_it 0x402000f, de_it 0x8010011, de_it 0x4010010, de_it 0x114011801060301011d0101011c0101000100010101010101000101000000000000000000000000000000010f000206010002070106000002000104080402030006, de_it 0x585652504e4c4a3a38302e2a28262422100e0c0a080604020019000d, de_it 0x118010f02010117010e020101080101010c010f01150118010605010115010c02010114010b02010113010a02010112010902010107010101060101010501010104010101030101010201010101010101000101000000000000000000000000000100011800020a010002090205020002080204020300010007]
set_option maxRecDepth 100000 in
theorem tR_361 : tf_go tV_361 tK_361.2.1.1 tK_361.2.1.2 none tH_361_0 [(tK_361.2.1, tK_361.2.2.2.1, 0, tc_args 0 tK_361.2.2.1, [], ([], 0), ([], 0))] = true := by decide +kernel
set_option maxRecDepth 100000 in
theorem tT_361 {RO : am_O} {sa : Nat → Nat} (h_152 : tc_true (aP sa) tp_G RO tp_T tp_Z tK_152) (h_360 : tc_true (aP sa) tp_G RO tp_T tp_Z tK_360) : tc_true (aP sa) tp_G RO tp_T tp_Z tK_361 := by
  have hC : ∀ c ∈ tC_361, tc_true (aP sa) tp_G RO tp_T tp_Z c := by
    intro c hc
    have hc : c ∈ ([tK_360, tK_152] : List tc_Ct) := hc
    rcases List.mem_cons.mp hc with rfl | hc
    · exact h_360
    rcases List.mem_cons.mp hc with rfl | hc
    · exact h_152
    cases hc
  have hP : ∀ p ∈ tJ_361, ∃ hs, tc_plk (aP sa, tV_361.2) p hs = true := by
    intro p hp
    have hp : p ∈ ([] : List tc_Pl) := hp
    cases hp
  exact tc_main (mt := aM_239.1) (hs := tH_361_0) (PL := tJ_361) ⟨tp_G_ok, tMs_361 _, hC, tp_L_ok, tp_G_re⟩ (show am_meth (aP sa) 239 = some aM_239.1 from rfl) aX_239 (by decide +kernel) hP ((tc_go_sa (aP_sa sa _)).trans ((tf_go_s tHC_361).trans tR_361))
noncomputable def tK_362 : tc_Ct := (148, (3, 4), [(2, ([], 0), 0), (0, ([], 24), 0)], ([([(0, -1)], 4096), ([(0, 1)], 0), ([(1, -1)], 8192), ([(1, 1)], -200), ([(2, -1)], 8000000), ([(2, 1)], 0), ([(0, -1), (1, 1)], 0)], [(0, 172), (1, 166), (2, 179), (3, 193)], [(3, ([(1, 1)], 0))], [(0, 0, (2, ([], 0), 1)), (1, 2, (2, ([], 0), 2)), (2, 0, (2, ([], 0), 3)), (2, 1, (0, ([(0, 1)], 0), 0))], [], [], [(1016, [], []), (1024, [], []), (1088, [], []), (1096, [], []), (1136, [], [([(2, 1)], 0)]), (568, [1], [])]), [(179, 0), (179, 1), (193, 0), (193, 1000)], [((6, 4), ([([(0, -1)], 4096), ([(0, 1)], 0), ([(1, -1)], 8192), ([(1, 1)], -200), ([(2, -1)], 8000000), ([(2, 1)], 0), ([(3, -1)], 3), ([(3, 1)], 0), ([(4, -1)], 24570), ([(4, 1)], 0), ([(5, -1)], 8000000), ([(0, -1), (1, 1)], 0), ([(3, -16), (4, 1)], 0), ([(2, 1), (4, -1), (5, -1)], 0)], [], [(3, ([(1, 1)], 0))], [(2, 1, (0, ([], 3), 0))], [], [], [(1136, [], [([(5, 1)], 0)])]), some (2, ([], 0), 2), ([(3, 1)], 0), ([(4, 1)], 0))])
noncomputable def tJ_362 : List tc_Pl := []
noncomputable def tC_362 : List tc_Ct := [tK_151, tK_152, tK_332]
def tM_362 (z : Nat) : Option am_Meth := if z = 149 then some aM_149.1 else if z = 23 then some aM_23.1 else if z = 7 then some aM_7.1 else none
set_option maxRecDepth 100000 in
theorem tMs_362 (sa : Nat → Nat) : ∀ z mz, tM_362 z = some mz → am_meth (aP sa) z = some mz := by
  intro z mz h
  unfold tM_362 at h
  rcases de_m h with ⟨rfl, rfl⟩ | h
  · exact (show am_meth (aP sa) 149 = some aM_149.1 from rfl)
  rcases de_m h with ⟨rfl, rfl⟩ | h
  · exact (show am_meth (aP sa) 23 = some aM_23.1 from rfl)
  rcases de_m h with ⟨rfl, rfl⟩ | h
  · exact (show am_meth (aP sa) 7 = some aM_7.1 from rfl)
  cases h
noncomputable def tV_362 : tc_Ev := (aQ, tp_T, tp_G.2, tp_Z, tM_362, tC_362, tp_L, tK_362.2.2.2.2.1, aM_148.1, aW_148, tK_362.2.1, tK_362.2.2.2.2.2, tJ_362)
theorem tE_362 : tK_362.2.2.2.2.2.all (tc_wex tK_362.2.1.1 tK_362.2.1.2) = true := by decide +kernel
theorem tSS_362 : tC_362.all (fun c => tw_mg tK_362.2.2.2.2.1 c.2.2.2.2.1) = true := by decide +kernel
theorem tHC_362 : ∀ c ∈ tC_362, c.2.2.2.2.1.all tK_362.2.2.2.2.1.contains = true ∧ c.2.2.2.2.2.all (tc_wex c.2.1.1 c.2.1.2) = true := tf_hc tSS_362 (by
  intro c hc
  have hc : c ∈ ([tK_151, tK_152, tK_332] : List tc_Ct) := hc
  rcases List.mem_cons.mp hc with rfl | hc
  · exact tE_151
  rcases List.mem_cons.mp hc with rfl | hc
  · exact tE_152
  rcases List.mem_cons.mp hc with rfl | hc
  · exact tE_332
  cases hc)
noncomputable def tH_362_0 : List tc_It := [de_it 0x2010000, de_it 0x2, de_it 0x2, de_it 0x106010101030101010201010101010101000101000000000000000000000000000000000d000201010002000102060400030006, de_it 0x2010000, de_it 0x2, de_it 0x2, de_it 0x2010000, de_it 0x104010101030101010201010001000100010001000000000000000000000000000000010f00020201000201010000300004060402030006, de_it 0x2010000, de_it 0x2, de_it 0x2, de_it 0x2010000, de_it 0x402000f, de_it 0x8010011, de_it 0x4010010, de_it 0x116011a01040301011f0101011e01010001000100010001000000000000000000000000000000010f00020501000206010200000004080404030006, de_it 0x5c5a565452504e3e3c34322e2c2a28260c0a080604020017000d, de_it 0x2010000, de_it 0x2, de_it 0x2, de_it 0x116010d02010115010c020101060101010a010d01130116010405010113010a02010112010902010111010802010110010702010105010101040101010301010102010101010101010001010000000000000000000000000001000116000209010002080204020002070203020300010007]
set_option maxRecDepth 100000 in
theorem tR_362 : tf_go tV_362 tK_362.2.1.1 tK_362.2.1.2 none tH_362_0 [(tK_362.2.1, tK_362.2.2.2.1, 0, tc_args 0 tK_362.2.2.1, [], ([], 0), ([], 0))] = true := by decide +kernel
set_option maxRecDepth 100000 in
theorem tT_362 {RO : am_O} {sa : Nat → Nat} (h_151 : tc_true (aP sa) tp_G RO tp_T tp_Z tK_151) (h_152 : tc_true (aP sa) tp_G RO tp_T tp_Z tK_152) (h_332 : tc_true (aP sa) tp_G RO tp_T tp_Z tK_332) : tc_true (aP sa) tp_G RO tp_T tp_Z tK_362 := by
  have hC : ∀ c ∈ tC_362, tc_true (aP sa) tp_G RO tp_T tp_Z c := by
    intro c hc
    have hc : c ∈ ([tK_151, tK_152, tK_332] : List tc_Ct) := hc
    rcases List.mem_cons.mp hc with rfl | hc
    · exact h_151
    rcases List.mem_cons.mp hc with rfl | hc
    · exact h_152
    rcases List.mem_cons.mp hc with rfl | hc
    · exact h_332
    cases hc
  have hP : ∀ p ∈ tJ_362, ∃ hs, tc_plk (aP sa, tV_362.2) p hs = true := by
    intro p hp
    have hp : p ∈ ([] : List tc_Pl) := hp
    cases hp
  exact tc_main (mt := aM_148.1) (hs := tH_362_0) (PL := tJ_362) ⟨tp_G_ok, tMs_362 _, hC, tp_L_ok, tp_G_re⟩ (show am_meth (aP sa) 148 = some aM_148.1 from rfl) aX_148 (by decide +kernel) hP ((tc_go_sa (aP_sa sa _)).trans ((tf_go_s tHC_362).trans tR_362))
noncomputable def tK_363 : tc_Ct := (239, (4, 4), [(2, ([], 0), 0), (0, ([(0, 1)], 0), 0)], ([([(0, -1)], 1), ([(0, 1)], 0), ([(1, -1)], 4096), ([(1, 1)], 0), ([(2, -1)], 8192), ([(2, 1)], -200), ([(3, -1)], 8000000), ([(3, 1)], 0), ([(1, -1), (2, 1)], 0)], [(0, 172), (1, 166), (2, 179), (3, 193)], [(3, ([(2, 1)], 0))], [(0, 0, (2, ([], 0), 1)), (1, 2, (2, ([], 0), 2)), (2, 0, (2, ([], 0), 3)), (2, 1, (0, ([(1, 1)], 0), 0))], [], [], [(1016, [], []), (1024, [], []), (1088, [], []), (1096, [], []), (1136, [], [([(3, 1)], 0)]), (568, [1], [])]), [(179, 0), (179, 1), (193, 0), (193, 1000)], [((7, 4), ([([(0, -1)], 1), ([(0, 1)], 0), ([(1, -1)], 4096), ([(1, 1)], 0), ([(2, -1)], 8192), ([(2, 1)], -200), ([(3, -1)], 8000000), ([(3, 1)], 0), ([(4, -1)], 4), ([(4, 1)], 0), ([(5, -1)], 32760), ([(5, 1)], 0), ([(6, -1)], 8000000), ([(1, -1), (2, 1)], 0), ([(4, -16), (5, 1)], 0), ([(3, 1), (5, -1), (6, -1)], 0)], [], [(3, ([(2, 1)], 0))], [(2, 1, (0, ([], 4), 0))], [], [], [(1136, [], [([(6, 1)], 0)])]), none, ([(4, 1)], 0), ([(5, 1)], 0))])
noncomputable def tJ_363 : List tc_Pl := []
noncomputable def tC_363 : List tc_Ct := [tK_362, tK_152]
def tM_363 (z : Nat) : Option am_Meth := if z = 148 then some aM_148.1 else if z = 7 then some aM_7.1 else none
set_option maxRecDepth 100000 in
theorem tMs_363 (sa : Nat → Nat) : ∀ z mz, tM_363 z = some mz → am_meth (aP sa) z = some mz := by
  intro z mz h
  unfold tM_363 at h
  rcases de_m h with ⟨rfl, rfl⟩ | h
  · exact (show am_meth (aP sa) 148 = some aM_148.1 from rfl)
  rcases de_m h with ⟨rfl, rfl⟩ | h
  · exact (show am_meth (aP sa) 7 = some aM_7.1 from rfl)
  cases h
noncomputable def tV_363 : tc_Ev := (aQ, tp_T, tp_G.2, tp_Z, tM_363, tC_363, tp_L, tK_363.2.2.2.2.1, aM_239.1, aW_239, tK_363.2.1, tK_363.2.2.2.2.2, tJ_363)
theorem tE_363 : tK_363.2.2.2.2.2.all (tc_wex tK_363.2.1.1 tK_363.2.1.2) = true := by decide +kernel
theorem tSS_363 : tC_363.all (fun c => tw_mg tK_363.2.2.2.2.1 c.2.2.2.2.1) = true := by decide +kernel
theorem tHC_363 : ∀ c ∈ tC_363, c.2.2.2.2.1.all tK_363.2.2.2.2.1.contains = true ∧ c.2.2.2.2.2.all (tc_wex c.2.1.1 c.2.1.2) = true := tf_hc tSS_363 (by
  intro c hc
  have hc : c ∈ ([tK_362, tK_152] : List tc_Ct) := hc
  rcases List.mem_cons.mp hc with rfl | hc
  · exact tE_362
  rcases List.mem_cons.mp hc with rfl | hc
  · exact tE_152
  cases hc)
noncomputable def tH_363_0 : List tc_It := [de_it 0x4010000, de_it 0x1080101010701010106010101050101010401010103010101020101000000000000000000000000000000010f000203010002020100020101030604020000050006, de_it 0x2010000, de_it 0x402000f, de_it 0x8010011, de_it 0x4010010, de_it 0x1130101011b0101011a0101000100010101010101000101000000000000000000000000000000010f000206010002070106000002000104080402030006, de_it 0x54524e4c4a484636342c2a262422201e100e0c0a080604020019000d, de_it 0x118010f02010117010e02010108010101150118010d03010115010c02010114010b02010113010a02010112010902010107010101060101010501010104010101030101010201010101010101000101000000000000000000000000000100011800020a010002090205020002080204020300010007]
set_option maxRecDepth 100000 in
theorem tR_363 : tf_go tV_363 tK_363.2.1.1 tK_363.2.1.2 none tH_363_0 [(tK_363.2.1, tK_363.2.2.2.1, 0, tc_args 0 tK_363.2.2.1, [], ([], 0), ([], 0))] = true := by decide +kernel
set_option maxRecDepth 100000 in
theorem tT_363 {RO : am_O} {sa : Nat → Nat} (h_152 : tc_true (aP sa) tp_G RO tp_T tp_Z tK_152) (h_362 : tc_true (aP sa) tp_G RO tp_T tp_Z tK_362) : tc_true (aP sa) tp_G RO tp_T tp_Z tK_363 := by
  have hC : ∀ c ∈ tC_363, tc_true (aP sa) tp_G RO tp_T tp_Z c := by
    intro c hc
    have hc : c ∈ ([tK_362, tK_152] : List tc_Ct) := hc
    rcases List.mem_cons.mp hc with rfl | hc
    · exact h_362
    rcases List.mem_cons.mp hc with rfl | hc
    · exact h_152
    cases hc
  have hP : ∀ p ∈ tJ_363, ∃ hs, tc_plk (aP sa, tV_363.2) p hs = true := by
    intro p hp
    have hp : p ∈ ([] : List tc_Pl) := hp
    cases hp
  exact tc_main (mt := aM_239.1) (hs := tH_363_0) (PL := tJ_363) ⟨tp_G_ok, tMs_363 _, hC, tp_L_ok, tp_G_re⟩ (show am_meth (aP sa) 239 = some aM_239.1 from rfl) aX_239 (by decide +kernel) hP ((tc_go_sa (aP_sa sa _)).trans ((tf_go_s tHC_363).trans tR_363))
noncomputable def tK_364 : tc_Ct := (166, (1, 1), [(2, ([], 0), 0), (1, ([], 0), 0), (0, ([(0, 1)], 0), 0)], ([([(0, -1)], 2147483647), ([(0, 1)], 2147483648)], [(0, 171)], [], [], [], [], [(1024, [], []), (968, [], []), (1016, [], []), (1040, [], []), (1088, [], []), (1096, [], [])]), [(171, 8), (171, 10), (206, 0), (226, 0)], [((1, 1), ([([(0, -1)], 2147483647), ([(0, 1)], 2147483648)], [], [], [(0, 8, (0, ([], 1), 0)), (0, 10, (0, ([(0, 1)], 0), 0))], [], [], [(1024, [], [])]), none, ([], 0), ([], 0))])
noncomputable def tJ_364 : List tc_Pl := []
noncomputable def tC_364 : List tc_Ct := []
def tM_364 (z : Nat) : Option am_Meth := none
set_option maxRecDepth 100000 in
theorem tMs_364 (sa : Nat → Nat) : ∀ z mz, tM_364 z = some mz → am_meth (aP sa) z = some mz := fun z mz h => by cases h
noncomputable def tV_364 : tc_Ev := (aQ, tp_T, tp_G.2, tp_Z, tM_364, tC_364, tp_L, tK_364.2.2.2.2.1, aM_166.1, aW_166, tK_364.2.1, tK_364.2.2.2.2.2, tJ_364)
theorem tE_364 : tK_364.2.2.2.2.2.all (tc_wex tK_364.2.1.1 tK_364.2.1.2) = true := by decide +kernel
theorem tSS_364 : tC_364.all (fun c => tw_mg tK_364.2.2.2.2.1 c.2.2.2.2.1) = true := by decide +kernel
theorem tHC_364 : ∀ c ∈ tC_364, c.2.2.2.2.1.all tK_364.2.2.2.2.1.contains = true ∧ c.2.2.2.2.2.all (tc_wex c.2.1.1 c.2.1.2) = true := tf_hc tSS_364 (by
  intro c hc
  have hc : c ∈ ([] : List tc_Ct) := hc
  cases hc)
noncomputable def tH_364_0 : List tc_It := [de_it 0x2010000, de_it 0x2, de_it 0x4010000, de_it 0x2010011, de_it 0x102010100010200000003, de_it 0x4010000, de_it 0x120002000f, de_it 0x1a0002000f, de_it 0x10010, de_it 0x10801010100010101010101000000000500000003, de_it 0x4010000, de_it 0x108010100010001000100010500000003, de_it 0x2010000, de_it 0x2, de_it 0x4010000, de_it 0x4010011, de_it 0x100000000000000000000000000000000090000140002040000000000000228ff020009, de_it 0x100010109010100010400000114010003, de_it 0x101010101000101000000000000000000000000000100010a0000010007]
set_option maxRecDepth 100000 in
theorem tR_364 : tf_go tV_364 tK_364.2.1.1 tK_364.2.1.2 none tH_364_0 [(tK_364.2.1, tK_364.2.2.2.1, 0, tc_args 0 tK_364.2.2.1, [], ([], 0), ([], 0))] = true := by decide +kernel
set_option maxRecDepth 100000 in
theorem tT_364 {RO : am_O} {sa : Nat → Nat} : tc_true (aP sa) tp_G RO tp_T tp_Z tK_364 := by
  have hC : ∀ c ∈ tC_364, tc_true (aP sa) tp_G RO tp_T tp_Z c := by
    intro c hc
    have hc : c ∈ ([] : List tc_Ct) := hc
    cases hc
  have hP : ∀ p ∈ tJ_364, ∃ hs, tc_plk (aP sa, tV_364.2) p hs = true := by
    intro p hp
    have hp : p ∈ ([] : List tc_Pl) := hp
    cases hp
  exact tc_main (mt := aM_166.1) (hs := tH_364_0) (PL := tJ_364) ⟨tp_G_ok, tMs_364 _, hC, tp_L_ok, tp_G_re⟩ (show am_meth (aP sa) 166 = some aM_166.1 from rfl) aX_166 (by decide +kernel) hP ((tc_go_sa (aP_sa sa _)).trans ((tf_go_s tHC_364).trans tR_364))
noncomputable def tK_365 : tc_Ct := (193, (0, 1), [(2, ([], 0), 0)], ([], [(0, 171)], [], [], [], [], [(1024, [], []), (968, [], []), (1016, [], []), (1040, [], []), (1088, [], []), (1096, [], [])]), [], [((1, 1), ([([(0, -1)], 1), ([(0, 1)], 0)], [], [], [], [], [], []), some (0, ([(0, 1)], 0), 0), ([], 0), ([], 0))])
noncomputable def tJ_365 : List tc_Pl := []
noncomputable def tC_365 : List tc_Ct := [tK_28]
def tM_365 (z : Nat) : Option am_Meth := if z = 33 then some aM_33.1 else none
set_option maxRecDepth 100000 in
theorem tMs_365 (sa : Nat → Nat) : ∀ z mz, tM_365 z = some mz → am_meth (aP sa) z = some mz := by
  intro z mz h
  unfold tM_365 at h
  rcases de_m h with ⟨rfl, rfl⟩ | h
  · exact (show am_meth (aP sa) 33 = some aM_33.1 from rfl)
  cases h
noncomputable def tV_365 : tc_Ev := (aQ, tp_T, tp_G.2, tp_Z, tM_365, tC_365, tp_L, tK_365.2.2.2.2.1, aM_193.1, aW_193, tK_365.2.1, tK_365.2.2.2.2.2, tJ_365)
theorem tE_365 : tK_365.2.2.2.2.2.all (tc_wex tK_365.2.1.1 tK_365.2.1.2) = true := by decide +kernel
theorem tSS_365 : tC_365.all (fun c => tw_mg tK_365.2.2.2.2.1 c.2.2.2.2.1) = true := by decide +kernel
theorem tHC_365 : ∀ c ∈ tC_365, c.2.2.2.2.1.all tK_365.2.2.2.2.1.contains = true ∧ c.2.2.2.2.2.all (tc_wex c.2.1.1 c.2.1.2) = true := tf_hc tSS_365 (by
  intro c hc
  have hc : c ∈ ([tK_28] : List tc_Ct) := hc
  rcases List.mem_cons.mp hc with rfl | hc
  · exact tE_28
  cases hc)
noncomputable def tH_365_0 : List tc_It := [de_it 0x2010000, de_it 0x2, de_it 0x2010000, de_it 0x2010011, de_it 0x100010100010200000102010002, de_it 0x102010101030101000000000000000000000000000000000a000201010100010006, de_it 0x109010101080101000000000000000000000000000100010a000202010100010007]
set_option maxRecDepth 100000 in
theorem tR_365 : tf_go tV_365 tK_365.2.1.1 tK_365.2.1.2 none tH_365_0 [(tK_365.2.1, tK_365.2.2.2.1, 0, tc_args 0 tK_365.2.2.1, [], ([], 0), ([], 0))] = true := by decide +kernel
set_option maxRecDepth 100000 in
theorem tT_365 {RO : am_O} {sa : Nat → Nat} (h_28 : tc_true (aP sa) tp_G RO tp_T tp_Z tK_28) : tc_true (aP sa) tp_G RO tp_T tp_Z tK_365 := by
  have hC : ∀ c ∈ tC_365, tc_true (aP sa) tp_G RO tp_T tp_Z c := by
    intro c hc
    have hc : c ∈ ([tK_28] : List tc_Ct) := hc
    rcases List.mem_cons.mp hc with rfl | hc
    · exact h_28
    cases hc
  have hP : ∀ p ∈ tJ_365, ∃ hs, tc_plk (aP sa, tV_365.2) p hs = true := by
    intro p hp
    have hp : p ∈ ([] : List tc_Pl) := hp
    cases hp
  exact tc_main (mt := aM_193.1) (hs := tH_365_0) (PL := tJ_365) ⟨tp_G_ok, tMs_365 _, hC, tp_L_ok, tp_G_re⟩ (show am_meth (aP sa) 193 = some aM_193.1 from rfl) aX_193 (by decide +kernel) hP ((tc_go_sa (aP_sa sa _)).trans ((tf_go_s tHC_365).trans tR_365))
noncomputable def tK_366 : tc_Ct := (224, (0, 2), [(2, ([], 0), 0), (1, ([], 0), 0), (0, ([], 117), 0), (1, ([], 0), 0)], ([], [(0, 171), (1, 166)], [], [(0, 0, (2, ([], 0), 1))], [], [], [(1024, [], []), (968, [], []), (1016, [], []), (1040, [], []), (1088, [], []), (1096, [], []), (568, [1], [])]), [(167, 0), (167, 1), (167, 2), (167, 3), (167, 4), (167, 5)], [((0, 2), ([], [], [], [], [], [], []), some (1, ([], 0), 0), ([], 0), ([], 0))])
noncomputable def tJ_366 : List tc_Pl := []
noncomputable def tC_366 : List tc_Ct := [tK_365, tK_24]
def tM_366 (z : Nat) : Option am_Meth := if z = 193 then some aM_193.1 else if z = 29 then some aM_29.1 else none
set_option maxRecDepth 100000 in
theorem tMs_366 (sa : Nat → Nat) : ∀ z mz, tM_366 z = some mz → am_meth (aP sa) z = some mz := by
  intro z mz h
  unfold tM_366 at h
  rcases de_m h with ⟨rfl, rfl⟩ | h
  · exact (show am_meth (aP sa) 193 = some aM_193.1 from rfl)
  rcases de_m h with ⟨rfl, rfl⟩ | h
  · exact (show am_meth (aP sa) 29 = some aM_29.1 from rfl)
  cases h
noncomputable def tV_366 : tc_Ev := (aQ, tp_T, tp_G.2, tp_Z, tM_366, tC_366, tp_L, tK_366.2.2.2.2.1, aM_224.1, aW_224, tK_366.2.1, tK_366.2.2.2.2.2, tJ_366)
theorem tE_366 : tK_366.2.2.2.2.2.all (tc_wex tK_366.2.1.1 tK_366.2.1.2) = true := by decide +kernel
theorem tSS_366 : tC_366.all (fun c => tw_mg tK_366.2.2.2.2.1 c.2.2.2.2.1) = true := by decide +kernel
theorem tHC_366 : ∀ c ∈ tC_366, c.2.2.2.2.1.all tK_366.2.2.2.2.1.contains = true ∧ c.2.2.2.2.2.all (tc_wex c.2.1.1 c.2.1.2) = true := tf_hc tSS_366 (by
  intro c hc
  have hc : c ∈ ([tK_365, tK_24] : List tc_Ct) := hc
  rcases List.mem_cons.mp hc with rfl | hc
  · exact tE_365
  rcases List.mem_cons.mp hc with rfl | hc
  · exact tE_24
  cases hc)
noncomputable def tH_366_0 : List tc_It := [de_it 0x2010000, de_it 0x2, de_it 0x2, de_it 0x2010000, de_it 0x8000000020006, de_it 0x6010000, de_it 0x100010101010101000101000000000000000000000000000000040cea0000020001020402020006, de_it 0x10001080000010007]
set_option maxRecDepth 100000 in
theorem tR_366 : tf_go tV_366 tK_366.2.1.1 tK_366.2.1.2 none tH_366_0 [(tK_366.2.1, tK_366.2.2.2.1, 0, tc_args 0 tK_366.2.2.1, [], ([], 0), ([], 0))] = true := by decide +kernel
set_option maxRecDepth 100000 in
theorem tT_366 {RO : am_O} {sa : Nat → Nat} (h_24 : tc_true (aP sa) tp_G RO tp_T tp_Z tK_24) (h_365 : tc_true (aP sa) tp_G RO tp_T tp_Z tK_365) : tc_true (aP sa) tp_G RO tp_T tp_Z tK_366 := by
  have hC : ∀ c ∈ tC_366, tc_true (aP sa) tp_G RO tp_T tp_Z c := by
    intro c hc
    have hc : c ∈ ([tK_365, tK_24] : List tc_Ct) := hc
    rcases List.mem_cons.mp hc with rfl | hc
    · exact h_365
    rcases List.mem_cons.mp hc with rfl | hc
    · exact h_24
    cases hc
  have hP : ∀ p ∈ tJ_366, ∃ hs, tc_plk (aP sa, tV_366.2) p hs = true := by
    intro p hp
    have hp : p ∈ ([] : List tc_Pl) := hp
    cases hp
  exact tc_main (mt := aM_224.1) (hs := tH_366_0) (PL := tJ_366) ⟨tp_G_ok, tMs_366 _, hC, tp_L_ok, tp_G_re⟩ (show am_meth (aP sa) 224 = some aM_224.1 from rfl) aX_224 (by decide +kernel) hP ((tc_go_sa (aP_sa sa _)).trans ((tf_go_s tHC_366).trans tR_366))
noncomputable def tK_367 : tc_Ct := (240, (0, 2), [(2, ([], 0), 0)], ([], [(0, 171), (1, 166)], [], [(0, 0, (2, ([], 0), 1))], [], [], [(1024, [], []), (968, [], []), (1016, [], []), (1040, [], []), (1088, [], []), (1096, [], []), (568, [1], [])]), [(167, 0), (167, 1), (167, 2), (167, 3), (167, 4), (167, 5), (171, 8), (171, 10), (206, 0), (226, 0)], [((1, 2), ([([(0, -1)], 2147483647), ([(0, 1)], 2147483648)], [], [], [(0, 8, (0, ([], 1), 0)), (0, 10, (0, ([(0, 1)], 0), 0))], [], [], [(1024, [], [])]), none, ([], 0), ([], 0))])
noncomputable def tJ_367 : List tc_Pl := []
noncomputable def tC_367 : List tc_Ct := [tK_366, tK_364]
def tM_367 (z : Nat) : Option am_Meth := if z = 224 then some aM_224.1 else if z = 166 then some aM_166.1 else none
set_option maxRecDepth 100000 in
theorem tMs_367 (sa : Nat → Nat) : ∀ z mz, tM_367 z = some mz → am_meth (aP sa) z = some mz := by
  intro z mz h
  unfold tM_367 at h
  rcases de_m h with ⟨rfl, rfl⟩ | h
  · exact (show am_meth (aP sa) 224 = some aM_224.1 from rfl)
  rcases de_m h with ⟨rfl, rfl⟩ | h
  · exact (show am_meth (aP sa) 166 = some aM_166.1 from rfl)
  cases h
noncomputable def tV_367 : tc_Ev := (aQ, tp_T, tp_G.2, tp_Z, tM_367, tC_367, tp_L, tK_367.2.2.2.2.1, aM_240.1, aW_240, tK_367.2.1, tK_367.2.2.2.2.2, tJ_367)
theorem tE_367 : tK_367.2.2.2.2.2.all (tc_wex tK_367.2.1.1 tK_367.2.1.2) = true := by decide +kernel
theorem tSS_367 : tC_367.all (fun c => tw_mg tK_367.2.2.2.2.1 c.2.2.2.2.1) = true := by decide +kernel
theorem tHC_367 : ∀ c ∈ tC_367, c.2.2.2.2.1.all tK_367.2.2.2.2.1.contains = true ∧ c.2.2.2.2.2.all (tc_wex c.2.1.1 c.2.1.2) = true := tf_hc tSS_367 (by
  intro c hc
  have hc : c ∈ ([tK_366, tK_364] : List tc_Ct) := hc
  rcases List.mem_cons.mp hc with rfl | hc
  · exact tE_366
  rcases List.mem_cons.mp hc with rfl | hc
  · exact tE_364
  cases hc)
noncomputable def tH_367_0 : List tc_It := [de_it 0x6010000, de_it 0x2, de_it 0x2010000, de_it 0x4010011, de_it 0x100010100010200000002, de_it 0x4010000, de_it 0x30800020000030006, de_it 0x2010000, de_it 0x2, de_it 0x102010101030101000000000000000000000000000000020a00020101010002020006, de_it 0x102010101030101000000000000000000000000000100010a000201010100010007]
set_option maxRecDepth 100000 in
theorem tR_367 : tf_go tV_367 tK_367.2.1.1 tK_367.2.1.2 none tH_367_0 [(tK_367.2.1, tK_367.2.2.2.1, 0, tc_args 0 tK_367.2.2.1, [], ([], 0), ([], 0))] = true := by decide +kernel
set_option maxRecDepth 100000 in
theorem tT_367 {RO : am_O} {sa : Nat → Nat} (h_364 : tc_true (aP sa) tp_G RO tp_T tp_Z tK_364) (h_366 : tc_true (aP sa) tp_G RO tp_T tp_Z tK_366) : tc_true (aP sa) tp_G RO tp_T tp_Z tK_367 := by
  have hC : ∀ c ∈ tC_367, tc_true (aP sa) tp_G RO tp_T tp_Z c := by
    intro c hc
    have hc : c ∈ ([tK_366, tK_364] : List tc_Ct) := hc
    rcases List.mem_cons.mp hc with rfl | hc
    · exact h_366
    rcases List.mem_cons.mp hc with rfl | hc
    · exact h_364
    cases hc
  have hP : ∀ p ∈ tJ_367, ∃ hs, tc_plk (aP sa, tV_367.2) p hs = true := by
    intro p hp
    have hp : p ∈ ([] : List tc_Pl) := hp
    cases hp
  exact tc_main (mt := aM_240.1) (hs := tH_367_0) (PL := tJ_367) ⟨tp_G_ok, tMs_367 _, hC, tp_L_ok, tp_G_re⟩ (show am_meth (aP sa) 240 = some aM_240.1 from rfl) aX_240 (by decide +kernel) hP ((tc_go_sa (aP_sa sa _)).trans ((tf_go_s tHC_367).trans tR_367))
noncomputable def tK_368 : tc_Ct := (166, (1, 1), [(2, ([], 0), 0), (1, ([], 0), 0), (0, ([(0, 1)], 0), 0)], ([([(0, -1)], 2147483647), ([(0, 1)], 2147483648)], [(0, 172)], [], [], [], [], [(1096, [], []), (968, [], []), (1016, [], []), (1024, [], []), (1040, [], []), (1088, [], [])]), [(172, 8), (172, 10), (206, 0), (227, 0)], [((1, 1), ([([(0, -1)], 2147483647), ([(0, 1)], 2147483648)], [], [], [(0, 8, (0, ([], 1), 0)), (0, 10, (0, ([(0, 1)], 0), 0))], [], [], [(1096, [], [])]), none, ([], 0), ([], 0))])
noncomputable def tJ_368 : List tc_Pl := []
noncomputable def tC_368 : List tc_Ct := []
def tM_368 (z : Nat) : Option am_Meth := none
set_option maxRecDepth 100000 in
theorem tMs_368 (sa : Nat → Nat) : ∀ z mz, tM_368 z = some mz → am_meth (aP sa) z = some mz := fun z mz h => by cases h
noncomputable def tV_368 : tc_Ev := (aQ, tp_T, tp_G.2, tp_Z, tM_368, tC_368, tp_L, tK_368.2.2.2.2.1, aM_166.1, aW_166, tK_368.2.1, tK_368.2.2.2.2.2, tJ_368)
theorem tE_368 : tK_368.2.2.2.2.2.all (tc_wex tK_368.2.1.1 tK_368.2.1.2) = true := by decide +kernel
theorem tSS_368 : tC_368.all (fun c => tw_mg tK_368.2.2.2.2.1 c.2.2.2.2.1) = true := by decide +kernel
theorem tHC_368 : ∀ c ∈ tC_368, c.2.2.2.2.1.all tK_368.2.2.2.2.1.contains = true ∧ c.2.2.2.2.2.all (tc_wex c.2.1.1 c.2.1.2) = true := tf_hc tSS_368 (by
  intro c hc
  have hc : c ∈ ([] : List tc_Ct) := hc
  cases hc)
noncomputable def tH_368_0 : List tc_It := [de_it 0x2010000, de_it 0x2, de_it 0x4010000, de_it 0x2010011, de_it 0x102010100010200000003, de_it 0x4010000, de_it 0x120002000f, de_it 0x1a0002000f, de_it 0x160002000f, de_it 0x10010, de_it 0x10b0101010a01010100010101010101000000000600000003, de_it 0x4010000, de_it 0x10b0101010a010100010001000100010600000003, de_it 0x2010000, de_it 0x2, de_it 0x4010000, de_it 0x4010011, de_it 0x1000000000000000000000000000000000900001400020400000000000001e2ff020009, de_it 0x10001010c010100010400000114010003, de_it 0x101010101000101000000000000000000000000000100010a0000010007]
set_option maxRecDepth 100000 in
theorem tR_368 : tf_go tV_368 tK_368.2.1.1 tK_368.2.1.2 none tH_368_0 [(tK_368.2.1, tK_368.2.2.2.1, 0, tc_args 0 tK_368.2.2.1, [], ([], 0), ([], 0))] = true := by decide +kernel
set_option maxRecDepth 100000 in
theorem tT_368 {RO : am_O} {sa : Nat → Nat} : tc_true (aP sa) tp_G RO tp_T tp_Z tK_368 := by
  have hC : ∀ c ∈ tC_368, tc_true (aP sa) tp_G RO tp_T tp_Z c := by
    intro c hc
    have hc : c ∈ ([] : List tc_Ct) := hc
    cases hc
  have hP : ∀ p ∈ tJ_368, ∃ hs, tc_plk (aP sa, tV_368.2) p hs = true := by
    intro p hp
    have hp : p ∈ ([] : List tc_Pl) := hp
    cases hp
  exact tc_main (mt := aM_166.1) (hs := tH_368_0) (PL := tJ_368) ⟨tp_G_ok, tMs_368 _, hC, tp_L_ok, tp_G_re⟩ (show am_meth (aP sa) 166 = some aM_166.1 from rfl) aX_166 (by decide +kernel) hP ((tc_go_sa (aP_sa sa _)).trans ((tf_go_s tHC_368).trans tR_368))
noncomputable def tK_369 : tc_Ct := (193, (0, 1), [(2, ([], 0), 0)], ([], [(0, 172)], [], [], [], [], [(1096, [], []), (968, [], []), (1016, [], []), (1024, [], []), (1040, [], []), (1088, [], [])]), [], [((1, 1), ([([(0, -1)], 1), ([(0, 1)], 0)], [], [], [], [], [], []), some (0, ([(0, 1)], 0), 0), ([], 0), ([], 0))])
noncomputable def tJ_369 : List tc_Pl := []
noncomputable def tC_369 : List tc_Ct := [tK_28]
def tM_369 (z : Nat) : Option am_Meth := if z = 33 then some aM_33.1 else none
set_option maxRecDepth 100000 in
theorem tMs_369 (sa : Nat → Nat) : ∀ z mz, tM_369 z = some mz → am_meth (aP sa) z = some mz := by
  intro z mz h
  unfold tM_369 at h
  rcases de_m h with ⟨rfl, rfl⟩ | h
  · exact (show am_meth (aP sa) 33 = some aM_33.1 from rfl)
  cases h
noncomputable def tV_369 : tc_Ev := (aQ, tp_T, tp_G.2, tp_Z, tM_369, tC_369, tp_L, tK_369.2.2.2.2.1, aM_193.1, aW_193, tK_369.2.1, tK_369.2.2.2.2.2, tJ_369)
theorem tE_369 : tK_369.2.2.2.2.2.all (tc_wex tK_369.2.1.1 tK_369.2.1.2) = true := by decide +kernel
theorem tSS_369 : tC_369.all (fun c => tw_mg tK_369.2.2.2.2.1 c.2.2.2.2.1) = true := by decide +kernel
theorem tHC_369 : ∀ c ∈ tC_369, c.2.2.2.2.1.all tK_369.2.2.2.2.1.contains = true ∧ c.2.2.2.2.2.all (tc_wex c.2.1.1 c.2.1.2) = true := tf_hc tSS_369 (by
  intro c hc
  have hc : c ∈ ([tK_28] : List tc_Ct) := hc
  rcases List.mem_cons.mp hc with rfl | hc
  · exact tE_28
  cases hc)
noncomputable def tH_369_0 : List tc_It := [de_it 0x2010000, de_it 0x2, de_it 0x2010000, de_it 0x2010011, de_it 0x100010100010200000102010002, de_it 0x102010101030101000000000000000000000000000000000a000201010100010006, de_it 0x109010101080101000000000000000000000000000100010a000202010100010007]
set_option maxRecDepth 100000 in
theorem tR_369 : tf_go tV_369 tK_369.2.1.1 tK_369.2.1.2 none tH_369_0 [(tK_369.2.1, tK_369.2.2.2.1, 0, tc_args 0 tK_369.2.2.1, [], ([], 0), ([], 0))] = true := by decide +kernel
set_option maxRecDepth 100000 in
theorem tT_369 {RO : am_O} {sa : Nat → Nat} (h_28 : tc_true (aP sa) tp_G RO tp_T tp_Z tK_28) : tc_true (aP sa) tp_G RO tp_T tp_Z tK_369 := by
  have hC : ∀ c ∈ tC_369, tc_true (aP sa) tp_G RO tp_T tp_Z c := by
    intro c hc
    have hc : c ∈ ([tK_28] : List tc_Ct) := hc
    rcases List.mem_cons.mp hc with rfl | hc
    · exact h_28
    cases hc
  have hP : ∀ p ∈ tJ_369, ∃ hs, tc_plk (aP sa, tV_369.2) p hs = true := by
    intro p hp
    have hp : p ∈ ([] : List tc_Pl) := hp
    cases hp
  exact tc_main (mt := aM_193.1) (hs := tH_369_0) (PL := tJ_369) ⟨tp_G_ok, tMs_369 _, hC, tp_L_ok, tp_G_re⟩ (show am_meth (aP sa) 193 = some aM_193.1 from rfl) aX_193 (by decide +kernel) hP ((tc_go_sa (aP_sa sa _)).trans ((tf_go_s tHC_369).trans tR_369))
noncomputable def tK_370 : tc_Ct := (224, (0, 2), [(2, ([], 0), 0), (1, ([], 0), 0), (0, ([], 117), 0), (1, ([], 0), 0)], ([], [(0, 172), (1, 166)], [], [(0, 0, (2, ([], 0), 1))], [], [], [(1096, [], []), (968, [], []), (1016, [], []), (1024, [], []), (1040, [], []), (1088, [], []), (568, [1], [])]), [(167, 0), (167, 1), (167, 2), (167, 3), (167, 4), (167, 5)], [((0, 2), ([], [], [], [], [], [], []), some (1, ([], 0), 0), ([], 0), ([], 0))])
noncomputable def tJ_370 : List tc_Pl := []
noncomputable def tC_370 : List tc_Ct := [tK_369, tK_24]
def tM_370 (z : Nat) : Option am_Meth := if z = 193 then some aM_193.1 else if z = 29 then some aM_29.1 else none
set_option maxRecDepth 100000 in
theorem tMs_370 (sa : Nat → Nat) : ∀ z mz, tM_370 z = some mz → am_meth (aP sa) z = some mz := by
  intro z mz h
  unfold tM_370 at h
  rcases de_m h with ⟨rfl, rfl⟩ | h
  · exact (show am_meth (aP sa) 193 = some aM_193.1 from rfl)
  rcases de_m h with ⟨rfl, rfl⟩ | h
  · exact (show am_meth (aP sa) 29 = some aM_29.1 from rfl)
  cases h
noncomputable def tV_370 : tc_Ev := (aQ, tp_T, tp_G.2, tp_Z, tM_370, tC_370, tp_L, tK_370.2.2.2.2.1, aM_224.1, aW_224, tK_370.2.1, tK_370.2.2.2.2.2, tJ_370)
theorem tE_370 : tK_370.2.2.2.2.2.all (tc_wex tK_370.2.1.1 tK_370.2.1.2) = true := by decide +kernel
theorem tSS_370 : tC_370.all (fun c => tw_mg tK_370.2.2.2.2.1 c.2.2.2.2.1) = true := by decide +kernel
theorem tHC_370 : ∀ c ∈ tC_370, c.2.2.2.2.1.all tK_370.2.2.2.2.1.contains = true ∧ c.2.2.2.2.2.all (tc_wex c.2.1.1 c.2.1.2) = true := tf_hc tSS_370 (by
  intro c hc
  have hc : c ∈ ([tK_369, tK_24] : List tc_Ct) := hc
  rcases List.mem_cons.mp hc with rfl | hc
  · exact tE_369
  rcases List.mem_cons.mp hc with rfl | hc
  · exact tE_24
  cases hc)
noncomputable def tH_370_0 : List tc_It := [de_it 0x2010000, de_it 0x2, de_it 0x2, de_it 0x2010000, de_it 0x8000000020006, de_it 0x6010000, de_it 0x100010101010101000101000000000000000000000000000000040cea0000020001020402020006, de_it 0x10001080000010007]
set_option maxRecDepth 100000 in
theorem tR_370 : tf_go tV_370 tK_370.2.1.1 tK_370.2.1.2 none tH_370_0 [(tK_370.2.1, tK_370.2.2.2.1, 0, tc_args 0 tK_370.2.2.1, [], ([], 0), ([], 0))] = true := by decide +kernel
set_option maxRecDepth 100000 in
theorem tT_370 {RO : am_O} {sa : Nat → Nat} (h_24 : tc_true (aP sa) tp_G RO tp_T tp_Z tK_24) (h_369 : tc_true (aP sa) tp_G RO tp_T tp_Z tK_369) : tc_true (aP sa) tp_G RO tp_T tp_Z tK_370 := by
  have hC : ∀ c ∈ tC_370, tc_true (aP sa) tp_G RO tp_T tp_Z c := by
    intro c hc
    have hc : c ∈ ([tK_369, tK_24] : List tc_Ct) := hc
    rcases List.mem_cons.mp hc with rfl | hc
    · exact h_369
    rcases List.mem_cons.mp hc with rfl | hc
    · exact h_24
    cases hc
  have hP : ∀ p ∈ tJ_370, ∃ hs, tc_plk (aP sa, tV_370.2) p hs = true := by
    intro p hp
    have hp : p ∈ ([] : List tc_Pl) := hp
    cases hp
  exact tc_main (mt := aM_224.1) (hs := tH_370_0) (PL := tJ_370) ⟨tp_G_ok, tMs_370 _, hC, tp_L_ok, tp_G_re⟩ (show am_meth (aP sa) 224 = some aM_224.1 from rfl) aX_224 (by decide +kernel) hP ((tc_go_sa (aP_sa sa _)).trans ((tf_go_s tHC_370).trans tR_370))
noncomputable def tK_371 : tc_Ct := (240, (0, 2), [(2, ([], 0), 0)], ([], [(0, 172), (1, 166)], [], [(0, 0, (2, ([], 0), 1))], [], [], [(1096, [], []), (968, [], []), (1016, [], []), (1024, [], []), (1040, [], []), (1088, [], []), (568, [1], [])]), [(167, 0), (167, 1), (167, 2), (167, 3), (167, 4), (167, 5), (172, 8), (172, 10), (206, 0), (227, 0)], [((1, 2), ([([(0, -1)], 2147483647), ([(0, 1)], 2147483648)], [], [], [(0, 8, (0, ([], 1), 0)), (0, 10, (0, ([(0, 1)], 0), 0))], [], [], [(1096, [], [])]), none, ([], 0), ([], 0))])
noncomputable def tJ_371 : List tc_Pl := []
noncomputable def tC_371 : List tc_Ct := [tK_370, tK_368]
def tM_371 (z : Nat) : Option am_Meth := if z = 224 then some aM_224.1 else if z = 166 then some aM_166.1 else none
set_option maxRecDepth 100000 in
theorem tMs_371 (sa : Nat → Nat) : ∀ z mz, tM_371 z = some mz → am_meth (aP sa) z = some mz := by
  intro z mz h
  unfold tM_371 at h
  rcases de_m h with ⟨rfl, rfl⟩ | h
  · exact (show am_meth (aP sa) 224 = some aM_224.1 from rfl)
  rcases de_m h with ⟨rfl, rfl⟩ | h
  · exact (show am_meth (aP sa) 166 = some aM_166.1 from rfl)
  cases h
noncomputable def tV_371 : tc_Ev := (aQ, tp_T, tp_G.2, tp_Z, tM_371, tC_371, tp_L, tK_371.2.2.2.2.1, aM_240.1, aW_240, tK_371.2.1, tK_371.2.2.2.2.2, tJ_371)
theorem tE_371 : tK_371.2.2.2.2.2.all (tc_wex tK_371.2.1.1 tK_371.2.1.2) = true := by decide +kernel
theorem tSS_371 : tC_371.all (fun c => tw_mg tK_371.2.2.2.2.1 c.2.2.2.2.1) = true := by decide +kernel
theorem tHC_371 : ∀ c ∈ tC_371, c.2.2.2.2.1.all tK_371.2.2.2.2.1.contains = true ∧ c.2.2.2.2.2.all (tc_wex c.2.1.1 c.2.1.2) = true := tf_hc tSS_371 (by
  intro c hc
  have hc : c ∈ ([tK_370, tK_368] : List tc_Ct) := hc
  rcases List.mem_cons.mp hc with rfl | hc
  · exact tE_370
  rcases List.mem_cons.mp hc with rfl | hc
  · exact tE_368
  cases hc)
noncomputable def tH_371_0 : List tc_It := [de_it 0x6010000, de_it 0x2, de_it 0x2010000, de_it 0x4010011, de_it 0x100010100010200000002, de_it 0x4010000, de_it 0x30800020000030006, de_it 0x2010000, de_it 0x2, de_it 0x102010101030101000000000000000000000000000000020a00020101010002020006, de_it 0x102010101030101000000000000000000000000000100010a000201010100010007]
set_option maxRecDepth 100000 in
theorem tR_371 : tf_go tV_371 tK_371.2.1.1 tK_371.2.1.2 none tH_371_0 [(tK_371.2.1, tK_371.2.2.2.1, 0, tc_args 0 tK_371.2.2.1, [], ([], 0), ([], 0))] = true := by decide +kernel
set_option maxRecDepth 100000 in
theorem tT_371 {RO : am_O} {sa : Nat → Nat} (h_368 : tc_true (aP sa) tp_G RO tp_T tp_Z tK_368) (h_370 : tc_true (aP sa) tp_G RO tp_T tp_Z tK_370) : tc_true (aP sa) tp_G RO tp_T tp_Z tK_371 := by
  have hC : ∀ c ∈ tC_371, tc_true (aP sa) tp_G RO tp_T tp_Z c := by
    intro c hc
    have hc : c ∈ ([tK_370, tK_368] : List tc_Ct) := hc
    rcases List.mem_cons.mp hc with rfl | hc
    · exact h_370
    rcases List.mem_cons.mp hc with rfl | hc
    · exact h_368
    cases hc
  have hP : ∀ p ∈ tJ_371, ∃ hs, tc_plk (aP sa, tV_371.2) p hs = true := by
    intro p hp
    have hp : p ∈ ([] : List tc_Pl) := hp
    cases hp
  exact tc_main (mt := aM_240.1) (hs := tH_371_0) (PL := tJ_371) ⟨tp_G_ok, tMs_371 _, hC, tp_L_ok, tp_G_re⟩ (show am_meth (aP sa) 240 = some aM_240.1 from rfl) aX_240 (by decide +kernel) hP ((tc_go_sa (aP_sa sa _)).trans ((tf_go_s tHC_371).trans tR_371))
noncomputable def tK_372 : tc_Ct := (266, (10, 6), [(2, ([], 0), 0), (0, ([(0, 1)], 0), 0), (0, ([(1, 1)], 0), 0), (0, ([(2, 1)], 0), 0)], ([([(0, -1)], 2147483647), ([(0, 1)], 2147483648), ([(1, -1)], 2147483647), ([(1, 1)], 2147483648), ([(2, -1)], 2147483647), ([(2, 1)], 2147483648), ([(3, -1)], 4096), ([(3, 1)], 0), ([(4, -1)], 4096), ([(4, 1)], 0), ([(5, -1)], 8192), ([(5, 1)], -200), ([(6, -1)], 8192), ([(6, 1)], -200), ([(7, -1)], 44643), ([(7, 1)], -38000), ([(8, -1)], 46943), ([(8, 1)], -40300), ([(9, -1)], 8000000), ([(9, 1)], 0), ([(3, -1), (5, 1)], 0), ([(4, -1), (6, 1)], 0)], [(0, 165), (1, 166), (2, 179), (3, 179), (4, 193), (5, 193)], [(4, ([(5, 1)], 0)), (5, ([(6, 1)], 0))], [(0, 0, (2, ([], 0), 1)), (1, 2, (2, ([], 0), 2)), (1, 3, (2, ([], 0), 3)), (2, 0, (2, ([], 0), 4)), (2, 1, (0, ([(3, 1)], 0), 0)), (3, 0, (2, ([], 0), 5)), (3, 1, (0, ([(4, 1)], 0), 0))], [], [], [(600, [], []), (608, [], []), (968, [], []), (1016, [], []), (1024, [], []), (1040, [], []), (1088, [], []), (1096, [], []), (1112, [], [([(7, 1)], 0)]), (1128, [], [([(8, 1)], 0)]), (1136, [], [([(9, 1)], 0)]), (568, [1], [])]), [(167, 0), (167, 1), (167, 2), (167, 3), (167, 4), (167, 5), (171, 8), (171, 10), (172, 8), (172, 10), (179, 0), (179, 1), (187, 0), (187, 1), (188, 0), (188, 1), (193, 0), (193, 1000), (206, 0), (226, 0), (227, 0)], [((15, 6), ([([(0, -1)], 2147483647), ([(0, 1)], 2147483648), ([(1, -1)], 2147483647), ([(1, 1)], 2147483648), ([(2, -1)], 2147483647), ([(2, 1)], 2147483648), ([(3, -1)], 4096), ([(3, 1)], 0), ([(4, -1)], 4096), ([(4, 1)], 0), ([(5, -1)], 8192), ([(5, 1)], -200), ([(6, -1)], 8192), ([(6, 1)], -200), ([(7, -1)], 44643), ([(7, 1)], -38000), ([(8, -1)], 46943), ([(8, 1)], -40300), ([(9, -1)], 8000000), ([(9, 1)], 0), ([(10, -1)], 1), ([(10, 1)], 3), ([(11, -1)], 4096), ([(11, 1)], 0), ([(12, 1)], 0), ([(13, 1)], 0), ([(14, -1)], 8000000), ([(3, -1), (5, 1)], 0), ([(4, -1), (6, 1)], 0), ([(12, -16), (13, 1)], 0), ([(9, 1), (13, -1), (14, -1)], 0)], [], [(4, ([(5, 1)], 0)), (5, ([(6, 1)], 0))], [(3, 1, (0, ([(11, 1)], 0), 0))], [], [], [(1024, [], []), (1096, [], []), (1112, [], [([(7, 1)], 0)]), (1128, [], [([(8, 1)], 0)]), (1136, [], [([(14, 1)], 0)])]), some (0, ([(10, 1)], 0), 0), ([(12, 1)], 0), ([(13, 1)], 0))])
noncomputable def tJ_372 : List tc_Pl := []
noncomputable def tC_372 : List tc_Ct := [tK_327, tK_328, tK_343, tK_361, tK_357, tK_367, tK_344, tK_363, tK_359, tK_371]
def tM_372 (z : Nat) : Option am_Meth := if z = 262 then some aM_262.1 else if z = 240 then some aM_240.1 else if z = 239 then some aM_239.1 else if z = 169 then some aM_169.1 else if z = 168 then some aM_168.1 else if z = 162 then some aM_162.1 else none
set_option maxRecDepth 100000 in
theorem tMs_372 (sa : Nat → Nat) : ∀ z mz, tM_372 z = some mz → am_meth (aP sa) z = some mz := by
  intro z mz h
  unfold tM_372 at h
  rcases de_m h with ⟨rfl, rfl⟩ | h
  · exact (show am_meth (aP sa) 262 = some aM_262.1 from rfl)
  rcases de_m h with ⟨rfl, rfl⟩ | h
  · exact (show am_meth (aP sa) 240 = some aM_240.1 from rfl)
  rcases de_m h with ⟨rfl, rfl⟩ | h
  · exact (show am_meth (aP sa) 239 = some aM_239.1 from rfl)
  rcases de_m h with ⟨rfl, rfl⟩ | h
  · exact (show am_meth (aP sa) 169 = some aM_169.1 from rfl)
  rcases de_m h with ⟨rfl, rfl⟩ | h
  · exact (show am_meth (aP sa) 168 = some aM_168.1 from rfl)
  rcases de_m h with ⟨rfl, rfl⟩ | h
  · exact (show am_meth (aP sa) 162 = some aM_162.1 from rfl)
  cases h
noncomputable def tV_372 : tc_Ev := (aQ, tp_T, tp_G.2, tp_Z, tM_372, tC_372, tp_L, tK_372.2.2.2.2.1, aM_266.1, aW_266, tK_372.2.1, tK_372.2.2.2.2.2, tJ_372)
theorem tE_372 : tK_372.2.2.2.2.2.all (tc_wex tK_372.2.1.1 tK_372.2.1.2) = true := by decide +kernel
theorem tSS_372 : tC_372.all (fun c => tw_mg tK_372.2.2.2.2.1 c.2.2.2.2.1) = true := by decide +kernel
theorem tHC_372 : ∀ c ∈ tC_372, c.2.2.2.2.1.all tK_372.2.2.2.2.1.contains = true ∧ c.2.2.2.2.2.all (tc_wex c.2.1.1 c.2.1.2) = true := tf_hc tSS_372 (by
  intro c hc
  have hc : c ∈ ([tK_327, tK_328, tK_343, tK_361, tK_357, tK_367, tK_344, tK_363, tK_359, tK_371] : List tc_Ct) := hc
  rcases List.mem_cons.mp hc with rfl | hc
  · exact tE_327
  rcases List.mem_cons.mp hc with rfl | hc
  · exact tE_328
  rcases List.mem_cons.mp hc with rfl | hc
  · exact tE_343
  rcases List.mem_cons.mp hc with rfl | hc
  · exact tE_361
  rcases List.mem_cons.mp hc with rfl | hc
  · exact tE_357
  rcases List.mem_cons.mp hc with rfl | hc
  · exact tE_367
  rcases List.mem_cons.mp hc with rfl | hc
  · exact tE_344
  rcases List.mem_cons.mp hc with rfl | hc
  · exact tE_363
  rcases List.mem_cons.mp hc with rfl | hc
  · exact tE_359
  rcases List.mem_cons.mp hc with rfl | hc
  · exact tE_371
  cases hc)
noncomputable def tH_372_0 : List tc_It := [de_it 0x6010000, de_it 0x1030101010201010101010101000101000000000000000000000000000000020c0002010100020001020000020006, de_it 0x1011a010100000300000001, de_it 0x2010000, de_it 0x100010115010101140101011201010001000101090101010801010001000101130101011201010111010101100101010f0101010e0101010d0101010c0101010b0101010a010101090101010801010107010101060101010501010104010101030101010201010101010101000101000000000000000000000000000100012700020901000000000002040101000500010007, de_it 0x10000011b01010300000001, de_it 0x2010000, de_it 0x300000001, de_it 0x6010000, de_it 0x1190101011801010117010101160101000000000000000000000000000000020c0002010100020001020002020006, de_it 0x383632302e2c2a28262422201e1c1a18161412100e0c16000d, de_it 0x8010000, de_it 0x10001010f0101010e0101010c010100010001010301010102010100010001010d0101010c0101010b0101010a010101090101010801010107010101060101010501010104010101030101010201010101010101000101011401010115010101130101011201010111010101100101000000000000000000000000000100012700020901000000000002040103000500010007, de_it 0x383632302e2c2a28262422201e1c1a18161412100e0c16000d, de_it 0x8010000, de_it 0x8000c04020006, de_it 0x10000011601010300000001, de_it 0x2010000, de_it 0x10001010f0101010e0101010c010100010001010301010102010100010001010d0101010c0101010b0101010a010101090101010801010107010101060101010501010104010101030101010201010101010101000101011401010115010101130101011201010111010101100101000000000000000000000000000100012700020901000000000002040103000500010007, de_it 0x10117010100000300000001, de_it 0x2010000, de_it 0x2, de_it 0x20e02000f, de_it 0x80002070100020a01000000000000050e0e0e0e0e000000000000025cff060009, de_it 0x1000100010001000000000000000000000000000000000c0002070100020a010000010002000000060000000000000264ff010009, de_it 0x2, de_it 0x2010000, de_it 0x300000001, de_it 0x4010000, de_it 0xc02000f, de_it 0x8000c100200000000000001baff040009, de_it 0x10e0101010d0101010c0101010501010104010101010101010001010114010101150101000000000000000000000000000000011100020901000205010002030100020201040804020c06050006, de_it 0x54524e4c48342e2a28262422201e1c1a18161412100e0c0a08060402001d000d, de_it 0x2010000, de_it 0x402000f, de_it 0x12010011, de_it 0x4010010, de_it 0x20602000f, de_it 0x602000f, de_it 0x14010011, de_it 0x6010010, de_it 0xe02000f, de_it 0x16010011, de_it 0xe010010, de_it 0x1a0c02000f, de_it 0x160c02000f, de_it 0x340c02000f, de_it 0x321701010109010101080101011a010101280101012701010121010101200101012d0101012c010101220101012301010001000101160101011701010132010101330101012e0101012f01010130010101310101000000000000000000000000000000001e0002070100020d010002100100020e010002110100020f01080000020a010002140100021201000213010b14121606040e020c08090006, de_it 0xa6a4a09e989638363432302a28262422201e1c1a18161412100e0c0a080604020021000d, de_it 0x2010000, de_it 0x800020c0a030006, de_it 0x2010000, de_it 0x120011a0201011f01190201010f0101010e0101011e012001180301011e01170201011d01160201011c0101011b010100010001010d0101010c0101010b0101010a010101090101010801010107010101060101010501010104010101030101010201010101010101000101011401010115010101130101011201010111010101100101000000000000000000000000000100012700021a01000219020c02000218020b020002160102000500010007, de_it 0x2010000, de_it 0x10001010f0101010e0101010c010100010001010301010102010100010001010d0101010c0101010b0101010a010101090101010801010107010101060101010501010104010101030101010201010101010101000101011401010115010101130101011201010111010101100101000000000000000000000000000100012700020901000000000002040105000500010007, de_it 0x383632302e2c2a28262422201e1c1a18161412100e0c16000d, de_it 0x8010000, de_it 0x8000c0c020006, de_it 0x10000011601010300000001, de_it 0x2010000, de_it 0x10001010f0101010e0101010c010100010001010301010102010100010001010d0101010c0101010b0101010a010101090101010801010107010101060101010501010104010101030101010201010101010101000101011401010115010101130101011201010111010101100101000000000000000000000000000100012700020901000000000002040103000500010007, de_it 0x10117010100000300000001, de_it 0x2010000, de_it 0x2, de_it 0x20e02000f, de_it 0x80002080100020a01000000000000050e0e0e0e0e0000000000000266ff060009, de_it 0x1000100010001000000000000000000000000000000000c0002080100020a010000010002000000060000000000000268ff010009, de_it 0x2, de_it 0x2010000, de_it 0x300000001, de_it 0x4010000, de_it 0xc02000f, de_it 0x8000c100200000000000001baff040009, de_it 0x10e0101010d0101010c0101010501010104010101010101010001010114010101150101000000000000000000000000000000011100020901000205010002030100020201040804020c0e050006, de_it 0x54524e4c48342e2a28262422201e1c1a18161412100e0c0a08060402001d000d, de_it 0x2010000, de_it 0x402000f, de_it 0x12010011, de_it 0x4010010, de_it 0x20602000f, de_it 0x602000f, de_it 0x14010011, de_it 0x6010010, de_it 0xe02000f, de_it 0x16010011, de_it 0xe010010, de_it 0x1a0c02000f, de_it 0x160c02000f, de_it 0xc010010, de_it 0x32170101010b0101010a0101011a010101280101012701010121010101200101012d0101012c0101012201010123010101160101011701010130010101310101012e0101012f0101000000000000000000000000000000001a0002080100020d010002100100020e010002110100020f0100020a0100021301000212010914121606040e020c10090006, de_it 0xa09c9896948e8c383632302a28262422201e1c1a18161412100e0c0a080604020021000d, de_it 0x2010000, de_it 0xc010010, de_it 0x800020c12030006, de_it 0x2010000, de_it 0x12001190201011f01180201010f0101010e0101011e0101011d01170201011c01160201011b0101011a010100010001010d0101010c0101010b0101010a010101090101010801010107010101060101010501010104010101030101010201010101010101000101011401010115010101130101011201010111010101100101000000000000000000000000000100012700021901000218020c02000217020b020002150102000500010007, de_it 0x2010000, de_it 0x10001010f0101010e0101010c010100010001010301010102010100010001010d0101010c0101010b0101010a010101090101010801010107010101060101010501010104010101030101010201010101010101000101011401010115010101130101011201010111010101100101000000000000000000000000000100012700020901000000000002040105000500010007, de_it 0x4010000, de_it 0x300000001, de_it 0x6010000, de_it 0x1190101011801010117010101160101000000000000000000000000000000020c0002010100020001020002020006, de_it 0x383632302e2c2a28262422201e1c1a18161412100e0c16000d, de_it 0x8010000, de_it 0x10001010f0101010e0101010c010100010001010301010102010100010001010d0101010c0101010b0101010a010101090101010801010107010101060101010501010104010101030101010201010101010101000101011401010115010101130101011201010111010101100101000000000000000000000000000100012700020901000000000002040103000500010007, de_it 0x383632302e2c2a28262422201e1c1a18161412100e0c16000d, de_it 0x8010000, de_it 0x8000c04020006, de_it 0x10000011601010300000001, de_it 0x2010000, de_it 0x10001010f0101010e0101010c010100010001010301010102010100010001010d0101010c0101010b0101010a010101090101010801010107010101060101010501010104010101030101010201010101010101000101011401010115010101130101011201010111010101100101000000000000000000000000000100012700020901000000000002040103000500010007, de_it 0x10117010100000300000001, de_it 0x2010000, de_it 0x2, de_it 0x20e02000f, de_it 0x80002070100020a01000000000000050e0e0e0e0e000000000000025cff060009, de_it 0x1000100010001000000000000000000000000000000000c0002070100020a010000010002000000060000000000000264ff010009, de_it 0x2, de_it 0x2010000, de_it 0x300000001, de_it 0x4010000, de_it 0xc02000f, de_it 0x8000c100200000000000001baff040009, de_it 0x10e0101010d0101010c0101010501010104010101010101010001010114010101150101000000000000000000000000000000011100020901000205010002030100020201040804020c06050006, de_it 0x54524e4c48342e2a28262422201e1c1a18161412100e0c0a08060402001d000d, de_it 0x2010000, de_it 0x402000f, de_it 0x12010011, de_it 0x4010010, de_it 0x20602000f, de_it 0x602000f, de_it 0x14010011, de_it 0x6010010, de_it 0xe02000f, de_it 0x16010011, de_it 0xe010010, de_it 0x1a0c02000f, de_it 0x160c02000f, de_it 0x340c02000f, de_it 0x321701010109010101080101011a010101280101012701010121010101200101012d0101012c010101220101012301010001000101160101011701010132010101330101012e0101012f01010130010101310101000000000000000000000000000000001e0002070100020d010002100100020e010002110100020f01080000020a010002140100021201000213010b14121606040e020c08090006, de_it 0xa6a4a09e989638363432302a28262422201e1c1a18161412100e0c0a080604020021000d, de_it 0x2010000, de_it 0x800020c0a030006, de_it 0x2010000, de_it 0x120011a0201011f01190201010f0101010e0101011e012001180301011e01170201011d01160201011c0101011b010100010001010d0101010c0101010b0101010a010101090101010801010107010101060101010501010104010101030101010201010101010101000101011401010115010101130101011201010111010101100101000000000000000000000000000100012700021a01000219020c02000218020b020002160102000500010007, de_it 0x2010000, de_it 0x10001010f0101010e0101010c010100010001010301010102010100010001010d0101010c0101010b0101010a010101090101010801010107010101060101010501010104010101030101010201010101010101000101011401010115010101130101011201010111010101100101000000000000000000000000000100012700020901000000000002040105000500010007, de_it 0x383632302e2c2a28262422201e1c1a18161412100e0c16000d, de_it 0x8010000, de_it 0x8000c0c020006, de_it 0x10000011601010300000001, de_it 0x2010000, de_it 0x10001010f0101010e0101010c010100010001010301010102010100010001010d0101010c0101010b0101010a010101090101010801010107010101060101010501010104010101030101010201010101010101000101011401010115010101130101011201010111010101100101000000000000000000000000000100012700020901000000000002040103000500010007, de_it 0x10117010100000300000001, de_it 0x2010000, de_it 0x2, de_it 0x20e02000f, de_it 0x80002080100020a01000000000000050e0e0e0e0e0000000000000266ff060009, de_it 0x1000100010001000000000000000000000000000000000c0002080100020a010000010002000000060000000000000268ff010009, de_it 0x2, de_it 0x2010000, de_it 0x300000001, de_it 0x4010000, de_it 0xc02000f, de_it 0x8000c100200000000000001baff040009, de_it 0x10e0101010d0101010c0101010501010104010101010101010001010114010101150101000000000000000000000000000000011100020901000205010002030100020201040804020c0e050006, de_it 0x54524e4c48342e2a28262422201e1c1a18161412100e0c0a08060402001d000d, de_it 0x2010000, de_it 0x402000f, de_it 0x12010011, de_it 0x4010010, de_it 0x20602000f, de_it 0x602000f, de_it 0x14010011, de_it 0x6010010, de_it 0xe02000f, de_it 0x16010011, de_it 0xe010010, de_it 0x1a0c02000f, de_it 0x160c02000f, de_it 0xc010010, de_it 0x32170101010b0101010a0101011a010101280101012701010121010101200101012d0101012c0101012201010123010101160101011701010130010101310101012e0101012f0101000000000000000000000000000000001a0002080100020d010002100100020e010002110100020f0100020a0100021301000212010914121606040e020c10090006, de_it 0xa09c9896948e8c383632302a28262422201e1c1a18161412100e0c0a080604020021000d, de_it 0x2010000, de_it 0xc010010, de_it 0x800020c12030006, de_it 0x2010000, de_it 0x12001190201011f01180201010f0101010e0101011e0101011d01170201011c01160201011b0101011a010100010001010d0101010c0101010b0101010a010101090101010801010107010101060101010501010104010101030101010201010101010101000101011401010115010101130101011201010111010101100101000000000000000000000000000100012700021901000218020c02000217020b020002150102000500010007, de_it 0x2010000, de_it 0x10001010f0101010e0101010c010100010001010301010102010100010001010d0101010c0101010b0101010a010101090101010801010107010101060101010501010104010101030101010201010101010101000101011401010115010101130101011201010111010101100101000000000000000000000000000100012700020901000000000002040105000500010007, de_it 0x2010000, de_it 0x100010115010101140101011201010001000101090101010801010001000101130101011201010111010101100101010f0101010e0101010d0101010c0101010b0101010a010101090101010801010107010101060101010501010104010101190101011801010117010101160101000000000000000000000000000100012700020901000000000002040101000500010007]
set_option maxRecDepth 100000 in
theorem tR_372 : tf_go tV_372 tK_372.2.1.1 tK_372.2.1.2 none tH_372_0 [(tK_372.2.1, tK_372.2.2.2.1, 0, tc_args 0 tK_372.2.2.1, [], ([], 0), ([], 0))] = true := by decide +kernel
set_option maxRecDepth 100000 in
theorem tT_372 {RO : am_O} {sa : Nat → Nat} (h_327 : tc_true (aP sa) tp_G RO tp_T tp_Z tK_327) (h_328 : tc_true (aP sa) tp_G RO tp_T tp_Z tK_328) (h_343 : tc_true (aP sa) tp_G RO tp_T tp_Z tK_343) (h_344 : tc_true (aP sa) tp_G RO tp_T tp_Z tK_344) (h_357 : tc_true (aP sa) tp_G RO tp_T tp_Z tK_357) (h_359 : tc_true (aP sa) tp_G RO tp_T tp_Z tK_359) (h_361 : tc_true (aP sa) tp_G RO tp_T tp_Z tK_361) (h_363 : tc_true (aP sa) tp_G RO tp_T tp_Z tK_363) (h_367 : tc_true (aP sa) tp_G RO tp_T tp_Z tK_367) (h_371 : tc_true (aP sa) tp_G RO tp_T tp_Z tK_371) : tc_true (aP sa) tp_G RO tp_T tp_Z tK_372 := by
  have hC : ∀ c ∈ tC_372, tc_true (aP sa) tp_G RO tp_T tp_Z c := by
    intro c hc
    have hc : c ∈ ([tK_327, tK_328, tK_343, tK_361, tK_357, tK_367, tK_344, tK_363, tK_359, tK_371] : List tc_Ct) := hc
    rcases List.mem_cons.mp hc with rfl | hc
    · exact h_327
    rcases List.mem_cons.mp hc with rfl | hc
    · exact h_328
    rcases List.mem_cons.mp hc with rfl | hc
    · exact h_343
    rcases List.mem_cons.mp hc with rfl | hc
    · exact h_361
    rcases List.mem_cons.mp hc with rfl | hc
    · exact h_357
    rcases List.mem_cons.mp hc with rfl | hc
    · exact h_367
    rcases List.mem_cons.mp hc with rfl | hc
    · exact h_344
    rcases List.mem_cons.mp hc with rfl | hc
    · exact h_363
    rcases List.mem_cons.mp hc with rfl | hc
    · exact h_359
    rcases List.mem_cons.mp hc with rfl | hc
    · exact h_371
    cases hc
  have hP : ∀ p ∈ tJ_372, ∃ hs, tc_plk (aP sa, tV_372.2) p hs = true := by
    intro p hp
    have hp : p ∈ ([] : List tc_Pl) := hp
    cases hp
  exact tc_main (mt := aM_266.1) (hs := tH_372_0) (PL := tJ_372) ⟨tp_G_ok, tMs_372 _, hC, tp_L_ok, tp_G_re⟩ (show am_meth (aP sa) 266 = some aM_266.1 from rfl) aX_266 (by decide +kernel) hP ((tc_go_sa (aP_sa sa _)).trans ((tf_go_s tHC_372).trans tR_372))
noncomputable def tK_373 : tc_Ct := (267, (3, 1), [(2, ([], 0), 0), (0, ([(0, 1)], 0), 0), (0, ([(1, 1)], 0), 0), (0, ([(2, 1)], 0), 0)], ([([(0, -1)], 2147483647), ([(0, 1)], 2147483648), ([(1, -1)], 2147483647), ([(1, 1)], 2147483648), ([(2, -1)], 2147483647), ([(2, 1)], 2147483648)], [(0, 165)], [], [], [], [], [(968, [], []), (1016, [], []), (1024, [], []), (1040, [], []), (1088, [], []), (1096, [], [])]), [], [((4, 1), ([([(0, -1)], 2147483647), ([(0, 1)], 2147483648), ([(1, -1)], 2147483647), ([(1, 1)], 2147483648), ([(2, -1)], 2147483647), ([(2, 1)], 2147483648), ([(3, -1)], 2147483647), ([(3, 1)], 2147483648)], [], [], [], [], [], []), some (0, ([(3, 1)], 0), 0), ([], 0), ([], 0))])
noncomputable def tJ_373 : List tc_Pl := []
noncomputable def tC_373 : List tc_Ct := [tK_328]
def tM_373 (z : Nat) : Option am_Meth := if z = 169 then some aM_169.1 else none
set_option maxRecDepth 100000 in
theorem tMs_373 (sa : Nat → Nat) : ∀ z mz, tM_373 z = some mz → am_meth (aP sa) z = some mz := by
  intro z mz h
  unfold tM_373 at h
  rcases de_m h with ⟨rfl, rfl⟩ | h
  · exact (show am_meth (aP sa) 169 = some aM_169.1 from rfl)
  cases h
noncomputable def tV_373 : tc_Ev := (aQ, tp_T, tp_G.2, tp_Z, tM_373, tC_373, tp_L, tK_373.2.2.2.2.1, aM_267.1, aW_267, tK_373.2.1, tK_373.2.2.2.2.2, tJ_373)
theorem tE_373 : tK_373.2.2.2.2.2.all (tc_wex tK_373.2.1.1 tK_373.2.1.2) = true := by decide +kernel
theorem tSS_373 : tC_373.all (fun c => tw_mg tK_373.2.2.2.2.1 c.2.2.2.2.1) = true := by decide +kernel
theorem tHC_373 : ∀ c ∈ tC_373, c.2.2.2.2.1.all tK_373.2.2.2.2.1.contains = true ∧ c.2.2.2.2.2.all (tc_wex c.2.1.1 c.2.1.2) = true := tf_hc tSS_373 (by
  intro c hc
  have hc : c ∈ ([tK_328] : List tc_Ct) := hc
  rcases List.mem_cons.mp hc with rfl | hc
  · exact tE_328
  cases hc)
noncomputable def tH_373_0 : List tc_It := [de_it 0x6010000, de_it 0x1030101010201010101010101000101000000000000000000000000000000020c0002010100020001020000020006, de_it 0x8010000, de_it 0x10001010501010104010101030101010201010101010101000101000000000000000000000000000100011001000100010007, de_it 0x8010000, de_it 0x300000001, de_it 0x2010000, de_it 0x1000101050101010a010101090101010801010107010101060101000000000000000000000000000100011001000100010007, de_it 0x4010000, de_it 0x2, de_it 0x2, de_it 0x300000001, de_it 0x2010000, de_it 0x2, de_it 0x2010000, de_it 0x10d0101010a01010200000002, de_it 0x10e0101010f0101010a0101010d010c0201010901010108010101070101010601010000000000000000000000000001000110000204010100010007, de_it 0x2010000, de_it 0x10001010b010d02010104010101090101010801010107010101060101000000000000000000000000000100011001000100010007, de_it 0x8010000, de_it 0x300000001, de_it 0x2010000, de_it 0x1000101050101010a010101090101010801010107010101060101000000000000000000000000000100011001000100010007, de_it 0x4010000, de_it 0x2, de_it 0x2, de_it 0x300000001, de_it 0x2010000, de_it 0x2, de_it 0x2010000, de_it 0x10d0101010a01010200000002, de_it 0x10e0101010f0101010a0101010d010c0201010901010108010101070101010601010000000000000000000000000001000110000204010100010007, de_it 0x2010000, de_it 0x10001010b010d02010104010101090101010801010107010101060101000000000000000000000000000100011001000100010007]
set_option maxRecDepth 100000 in
theorem tR_373 : tf_go tV_373 tK_373.2.1.1 tK_373.2.1.2 none tH_373_0 [(tK_373.2.1, tK_373.2.2.2.1, 0, tc_args 0 tK_373.2.2.1, [], ([], 0), ([], 0))] = true := by decide +kernel
set_option maxRecDepth 100000 in
theorem tT_373 {RO : am_O} {sa : Nat → Nat} (h_328 : tc_true (aP sa) tp_G RO tp_T tp_Z tK_328) : tc_true (aP sa) tp_G RO tp_T tp_Z tK_373 := by
  have hC : ∀ c ∈ tC_373, tc_true (aP sa) tp_G RO tp_T tp_Z c := by
    intro c hc
    have hc : c ∈ ([tK_328] : List tc_Ct) := hc
    rcases List.mem_cons.mp hc with rfl | hc
    · exact h_328
    cases hc
  have hP : ∀ p ∈ tJ_373, ∃ hs, tc_plk (aP sa, tV_373.2) p hs = true := by
    intro p hp
    have hp : p ∈ ([] : List tc_Pl) := hp
    cases hp
  exact tc_main (mt := aM_267.1) (hs := tH_373_0) (PL := tJ_373) ⟨tp_G_ok, tMs_373 _, hC, tp_L_ok, tp_G_re⟩ (show am_meth (aP sa) 267 = some aM_267.1 from rfl) aX_267 (by decide +kernel) hP ((tc_go_sa (aP_sa sa _)).trans ((tf_go_s tHC_373).trans tR_373))
noncomputable def tK_374 : tc_Ct := (161, (0, 2), [(2, ([], 0), 0), (2, ([], 0), 1)], ([], [(0, 167), (1, 167)], [], [], [], [], []), [(167, 0), (167, 1), (167, 2), (167, 3), (167, 4), (167, 5)], [((5, 2), ([([(0, -1)], 2147483647), ([(0, 1)], 2147483648), ([(1, -1)], 2147483647), ([(1, 1)], 2147483648), ([(2, -1)], 2147483647), ([(2, 1)], 2147483648), ([(3, -1)], 2147483647), ([(3, 1)], 2147483648), ([(4, -1)], 2147483647), ([(4, 1)], 2147483648)], [], [], [(0, 0, (0, ([(4, 1)], 0), 0)), (0, 1, (0, ([(3, 1)], 0), 0)), (0, 2, (0, ([(2, 1)], 0), 0)), (0, 3, (0, ([(1, 1)], 0), 0)), (0, 4, (1, ([], 0), 0)), (0, 5, (0, ([(0, 1)], 0), 0))], [], [], []), none, ([], 0), ([], 0))])
noncomputable def tJ_374 : List tc_Pl := []
noncomputable def tC_374 : List tc_Ct := []
def tM_374 (z : Nat) : Option am_Meth := none
set_option maxRecDepth 100000 in
theorem tMs_374 (sa : Nat → Nat) : ∀ z mz, tM_374 z = some mz → am_meth (aP sa) z = some mz := fun z mz h => by cases h
noncomputable def tV_374 : tc_Ev := (aQ, tp_T, tp_G.2, tp_Z, tM_374, tC_374, tp_L, tK_374.2.2.2.2.1, aM_161.1, aW_161, tK_374.2.1, tK_374.2.2.2.2.2, tJ_374)
theorem tE_374 : tK_374.2.2.2.2.2.all (tc_wex tK_374.2.1.1 tK_374.2.1.2) = true := by decide +kernel
theorem tSS_374 : tC_374.all (fun c => tw_mg tK_374.2.2.2.2.1 c.2.2.2.2.1) = true := by decide +kernel
theorem tHC_374 : ∀ c ∈ tC_374, c.2.2.2.2.1.all tK_374.2.2.2.2.1.contains = true ∧ c.2.2.2.2.2.all (tc_wex c.2.1.1 c.2.1.2) = true := tf_hc tSS_374 (by
  intro c hc
  have hc : c ∈ ([] : List tc_Ct) := hc
  cases hc)
noncomputable def tH_374_0 : List tc_It := [de_it 0x4010000, de_it 0x2, de_it 0x101010101000101000000000400000003, de_it 0x4010000, de_it 0x2, de_it 0x103010101020101000000000400000003, de_it 0x4010000, de_it 0x2, de_it 0x105010101040101000000000400000003, de_it 0x4010000, de_it 0x2, de_it 0x107010101060101000000000400000003, de_it 0x4010000, de_it 0x2, de_it 0x400000003, de_it 0x4010000, de_it 0x2, de_it 0x109010101080101000000000400000003, de_it 0x1000101010101010102010101030101010401010105010101060101010701010108010101090101000000000000000000000000000100011200020001000201010002020100020301000204010500010007]
set_option maxRecDepth 100000 in
theorem tR_374 : tf_go tV_374 tK_374.2.1.1 tK_374.2.1.2 none tH_374_0 [(tK_374.2.1, tK_374.2.2.2.1, 0, tc_args 0 tK_374.2.2.1, [], ([], 0), ([], 0))] = true := by decide +kernel
set_option maxRecDepth 100000 in
theorem tT_374 {RO : am_O} {sa : Nat → Nat} : tc_true (aP sa) tp_G RO tp_T tp_Z tK_374 := by
  have hC : ∀ c ∈ tC_374, tc_true (aP sa) tp_G RO tp_T tp_Z c := by
    intro c hc
    have hc : c ∈ ([] : List tc_Ct) := hc
    cases hc
  have hP : ∀ p ∈ tJ_374, ∃ hs, tc_plk (aP sa, tV_374.2) p hs = true := by
    intro p hp
    have hp : p ∈ ([] : List tc_Pl) := hp
    cases hp
  exact tc_main (mt := aM_161.1) (hs := tH_374_0) (PL := tJ_374) ⟨tp_G_ok, tMs_374 _, hC, tp_L_ok, tp_G_re⟩ (show am_meth (aP sa) 161 = some aM_161.1 from rfl) aX_161 (by decide +kernel) hP ((tc_go_sa (aP_sa sa _)).trans ((tf_go_s tHC_374).trans tR_374))
noncomputable def tK_375 : tc_Ct := (165, (1, 2), [(2, ([], 0), 0), (0, ([(0, 1)], 0), 0)], ([([(0, -1)], 1), ([(0, 1)], 0)], [(0, 171), (1, 166)], [], [(0, 0, (2, ([], 0), 1))], [], [], [(600, [], []), (608, [], []), (568, [1], [])]), [(167, 0), (167, 1), (167, 2), (167, 3), (167, 4), (167, 5)], [((1, 2), ([([(0, -1)], 1), ([(0, 1)], 0)], [], [], [], [], [], []), some (1, ([], 0), 0), ([], 0), ([], 0))])
noncomputable def tJ_375 : List tc_Pl := []
noncomputable def tC_375 : List tc_Ct := [tK_374, tK_14]
def tM_375 (z : Nat) : Option am_Meth := if z = 161 then some aM_161.1 else if z = 21 then some aM_21.1 else none
set_option maxRecDepth 100000 in
theorem tMs_375 (sa : Nat → Nat) : ∀ z mz, tM_375 z = some mz → am_meth (aP sa) z = some mz := by
  intro z mz h
  unfold tM_375 at h
  rcases de_m h with ⟨rfl, rfl⟩ | h
  · exact (show am_meth (aP sa) 161 = some aM_161.1 from rfl)
  rcases de_m h with ⟨rfl, rfl⟩ | h
  · exact (show am_meth (aP sa) 21 = some aM_21.1 from rfl)
  cases h
noncomputable def tV_375 : tc_Ev := (aQ, tp_T, tp_G.2, tp_Z, tM_375, tC_375, tp_L, tK_375.2.2.2.2.1, aM_165.1, aW_165, tK_375.2.1, tK_375.2.2.2.2.2, tJ_375)
theorem tE_375 : tK_375.2.2.2.2.2.all (tc_wex tK_375.2.1.1 tK_375.2.1.2) = true := by decide +kernel
theorem tSS_375 : tC_375.all (fun c => tw_mg tK_375.2.2.2.2.1 c.2.2.2.2.1) = true := by decide +kernel
theorem tHC_375 : ∀ c ∈ tC_375, c.2.2.2.2.1.all tK_375.2.2.2.2.1.contains = true ∧ c.2.2.2.2.2.all (tc_wex c.2.1.1 c.2.1.2) = true := tf_hc tSS_375 (by
  intro c hc
  have hc : c ∈ ([tK_374, tK_14] : List tc_Ct) := hc
  rcases List.mem_cons.mp hc with rfl | hc
  · exact tE_374
  rcases List.mem_cons.mp hc with rfl | hc
  · exact tE_14
  cases hc)
noncomputable def tH_375_0 : List tc_It := [de_it 0x2010000, de_it 0x2, de_it 0x2, de_it 0x2010000, de_it 0x2, de_it 0x2010000, de_it 0x6010011, de_it 0x80000000000000300000006000000000000000258ff060009, de_it 0x1020100020101010101010001010101010101010101000000000000000000000000000000000d00020101000200010100040000000506000000000000025aff020009, de_it 0x6e010015, de_it 0x10800080400030006, de_it 0x2010000, de_it 0x2, de_it 0x2, de_it 0x8000402020006, de_it 0x101010101000101000000000000000000000000000100010a0000010007]
set_option maxRecDepth 100000 in
theorem tR_375 : tf_go tV_375 tK_375.2.1.1 tK_375.2.1.2 none tH_375_0 [(tK_375.2.1, tK_375.2.2.2.1, 0, tc_args 0 tK_375.2.2.1, [], ([], 0), ([], 0))] = true := by decide +kernel
set_option maxRecDepth 100000 in
theorem tT_375 {RO : am_O} {sa : Nat → Nat} (h_14 : tc_true (aP sa) tp_G RO tp_T tp_Z tK_14) (h_374 : tc_true (aP sa) tp_G RO tp_T tp_Z tK_374) : tc_true (aP sa) tp_G RO tp_T tp_Z tK_375 := by
  have hC : ∀ c ∈ tC_375, tc_true (aP sa) tp_G RO tp_T tp_Z c := by
    intro c hc
    have hc : c ∈ ([tK_374, tK_14] : List tc_Ct) := hc
    rcases List.mem_cons.mp hc with rfl | hc
    · exact h_374
    rcases List.mem_cons.mp hc with rfl | hc
    · exact h_14
    cases hc
  have hP : ∀ p ∈ tJ_375, ∃ hs, tc_plk (aP sa, tV_375.2) p hs = true := by
    intro p hp
    have hp : p ∈ ([] : List tc_Pl) := hp
    cases hp
  exact tc_main (mt := aM_165.1) (hs := tH_375_0) (PL := tJ_375) ⟨tp_G_ok, tMs_375 _, hC, tp_L_ok, tp_G_re⟩ (show am_meth (aP sa) 165 = some aM_165.1 from rfl) aX_165 (by decide +kernel) hP ((tc_go_sa (aP_sa sa _)).trans ((tf_go_s tHC_375).trans tR_375))
noncomputable def tK_376 : tc_Ct := (192, (0, 2), [(2, ([], 0), 0)], ([], [(0, 171), (1, 166)], [], [(0, 0, (2, ([], 0), 1))], [], [], [(600, [], []), (608, [], []), (968, [], []), (1016, [], []), (1024, [], []), (1040, [], []), (1088, [], []), (1096, [], []), (568, [1], [])]), [(167, 0), (167, 1), (167, 2), (167, 3), (167, 4), (167, 5)], [((0, 2), ([], [], [], [], [], [], []), some (1, ([], 0), 0), ([], 0), ([], 0))])
noncomputable def tJ_376 : List tc_Pl := []
noncomputable def tC_376 : List tc_Ct := [tK_365, tK_375]
def tM_376 (z : Nat) : Option am_Meth := if z = 193 then some aM_193.1 else if z = 165 then some aM_165.1 else none
set_option maxRecDepth 100000 in
theorem tMs_376 (sa : Nat → Nat) : ∀ z mz, tM_376 z = some mz → am_meth (aP sa) z = some mz := by
  intro z mz h
  unfold tM_376 at h
  rcases de_m h with ⟨rfl, rfl⟩ | h
  · exact (show am_meth (aP sa) 193 = some aM_193.1 from rfl)
  rcases de_m h with ⟨rfl, rfl⟩ | h
  · exact (show am_meth (aP sa) 165 = some aM_165.1 from rfl)
  cases h
noncomputable def tV_376 : tc_Ev := (aQ, tp_T, tp_G.2, tp_Z, tM_376, tC_376, tp_L, tK_376.2.2.2.2.1, aM_192.1, aW_192, tK_376.2.1, tK_376.2.2.2.2.2, tJ_376)
theorem tE_376 : tK_376.2.2.2.2.2.all (tc_wex tK_376.2.1.1 tK_376.2.1.2) = true := by decide +kernel
theorem tSS_376 : tC_376.all (fun c => tw_mg tK_376.2.2.2.2.1 c.2.2.2.2.1) = true := by decide +kernel
theorem tHC_376 : ∀ c ∈ tC_376, c.2.2.2.2.1.all tK_376.2.2.2.2.1.contains = true ∧ c.2.2.2.2.2.all (tc_wex c.2.1.1 c.2.1.2) = true := tf_hc tSS_376 (by
  intro c hc
  have hc : c ∈ ([tK_365, tK_375] : List tc_Ct) := hc
  rcases List.mem_cons.mp hc with rfl | hc
  · exact tE_365
  rcases List.mem_cons.mp hc with rfl | hc
  · exact tE_375
  cases hc)
noncomputable def tH_376_0 : List tc_It := [de_it 0x2010000, de_it 0x2, de_it 0x2010000, de_it 0x4010011, de_it 0x100010100010200000102010002, de_it 0x300000001, de_it 0x4010000, de_it 0x8000000020006, de_it 0x107010101060101000000000000000000000000000000010a0002020101020002030006, de_it 0x10001080000010007, de_it 0x4010000, de_it 0x10001080000010007]
set_option maxRecDepth 100000 in
theorem tR_376 : tf_go tV_376 tK_376.2.1.1 tK_376.2.1.2 none tH_376_0 [(tK_376.2.1, tK_376.2.2.2.1, 0, tc_args 0 tK_376.2.2.1, [], ([], 0), ([], 0))] = true := by decide +kernel
set_option maxRecDepth 100000 in
theorem tT_376 {RO : am_O} {sa : Nat → Nat} (h_365 : tc_true (aP sa) tp_G RO tp_T tp_Z tK_365) (h_375 : tc_true (aP sa) tp_G RO tp_T tp_Z tK_375) : tc_true (aP sa) tp_G RO tp_T tp_Z tK_376 := by
  have hC : ∀ c ∈ tC_376, tc_true (aP sa) tp_G RO tp_T tp_Z c := by
    intro c hc
    have hc : c ∈ ([tK_365, tK_375] : List tc_Ct) := hc
    rcases List.mem_cons.mp hc with rfl | hc
    · exact h_365
    rcases List.mem_cons.mp hc with rfl | hc
    · exact h_375
    cases hc
  have hP : ∀ p ∈ tJ_376, ∃ hs, tc_plk (aP sa, tV_376.2) p hs = true := by
    intro p hp
    have hp : p ∈ ([] : List tc_Pl) := hp
    cases hp
  exact tc_main (mt := aM_192.1) (hs := tH_376_0) (PL := tJ_376) ⟨tp_G_ok, tMs_376 _, hC, tp_L_ok, tp_G_re⟩ (show am_meth (aP sa) 192 = some aM_192.1 from rfl) aX_192 (by decide +kernel) hP ((tc_go_sa (aP_sa sa _)).trans ((tf_go_s tHC_376).trans tR_376))
noncomputable def tK_377 : tc_Ct := (165, (1, 2), [(2, ([], 0), 0), (0, ([(0, 1)], 0), 0)], ([([(0, -1)], 1), ([(0, 1)], 0)], [(0, 172), (1, 166)], [], [(0, 0, (2, ([], 0), 1))], [], [], [(600, [], []), (608, [], []), (568, [1], [])]), [(167, 0), (167, 1), (167, 2), (167, 3), (167, 4), (167, 5)], [((1, 2), ([([(0, -1)], 1), ([(0, 1)], 0)], [], [], [], [], [], []), some (1, ([], 0), 0), ([], 0), ([], 0))])
noncomputable def tJ_377 : List tc_Pl := []
noncomputable def tC_377 : List tc_Ct := [tK_374, tK_14]
def tM_377 (z : Nat) : Option am_Meth := if z = 161 then some aM_161.1 else if z = 21 then some aM_21.1 else none
set_option maxRecDepth 100000 in
theorem tMs_377 (sa : Nat → Nat) : ∀ z mz, tM_377 z = some mz → am_meth (aP sa) z = some mz := by
  intro z mz h
  unfold tM_377 at h
  rcases de_m h with ⟨rfl, rfl⟩ | h
  · exact (show am_meth (aP sa) 161 = some aM_161.1 from rfl)
  rcases de_m h with ⟨rfl, rfl⟩ | h
  · exact (show am_meth (aP sa) 21 = some aM_21.1 from rfl)
  cases h
noncomputable def tV_377 : tc_Ev := (aQ, tp_T, tp_G.2, tp_Z, tM_377, tC_377, tp_L, tK_377.2.2.2.2.1, aM_165.1, aW_165, tK_377.2.1, tK_377.2.2.2.2.2, tJ_377)
theorem tE_377 : tK_377.2.2.2.2.2.all (tc_wex tK_377.2.1.1 tK_377.2.1.2) = true := by decide +kernel
theorem tSS_377 : tC_377.all (fun c => tw_mg tK_377.2.2.2.2.1 c.2.2.2.2.1) = true := by decide +kernel
theorem tHC_377 : ∀ c ∈ tC_377, c.2.2.2.2.1.all tK_377.2.2.2.2.1.contains = true ∧ c.2.2.2.2.2.all (tc_wex c.2.1.1 c.2.1.2) = true := tf_hc tSS_377 (by
  intro c hc
  have hc : c ∈ ([tK_374, tK_14] : List tc_Ct) := hc
  rcases List.mem_cons.mp hc with rfl | hc
  · exact tE_374
  rcases List.mem_cons.mp hc with rfl | hc
  · exact tE_14
  cases hc)
noncomputable def tH_377_0 : List tc_It := [de_it 0x2010000, de_it 0x2, de_it 0x2, de_it 0x2010000, de_it 0x2, de_it 0x2010000, de_it 0x6010011, de_it 0x80000000000000300000006000000000000000274ff060009, de_it 0x1020100020101010101010001010101010101010101000000000000000000000000000000000d00020101000200010100040000000506000000000000025aff020009, de_it 0x6e010015, de_it 0x10800080400030006, de_it 0x2010000, de_it 0x2, de_it 0x2, de_it 0x8000402020006, de_it 0x101010101000101000000000000000000000000000100010a0000010007]
set_option maxRecDepth 100000 in
theorem tR_377 : tf_go tV_377 tK_377.2.1.1 tK_377.2.1.2 none tH_377_0 [(tK_377.2.1, tK_377.2.2.2.1, 0, tc_args 0 tK_377.2.2.1, [], ([], 0), ([], 0))] = true := by decide +kernel
set_option maxRecDepth 100000 in
theorem tT_377 {RO : am_O} {sa : Nat → Nat} (h_14 : tc_true (aP sa) tp_G RO tp_T tp_Z tK_14) (h_374 : tc_true (aP sa) tp_G RO tp_T tp_Z tK_374) : tc_true (aP sa) tp_G RO tp_T tp_Z tK_377 := by
  have hC : ∀ c ∈ tC_377, tc_true (aP sa) tp_G RO tp_T tp_Z c := by
    intro c hc
    have hc : c ∈ ([tK_374, tK_14] : List tc_Ct) := hc
    rcases List.mem_cons.mp hc with rfl | hc
    · exact h_374
    rcases List.mem_cons.mp hc with rfl | hc
    · exact h_14
    cases hc
  have hP : ∀ p ∈ tJ_377, ∃ hs, tc_plk (aP sa, tV_377.2) p hs = true := by
    intro p hp
    have hp : p ∈ ([] : List tc_Pl) := hp
    cases hp
  exact tc_main (mt := aM_165.1) (hs := tH_377_0) (PL := tJ_377) ⟨tp_G_ok, tMs_377 _, hC, tp_L_ok, tp_G_re⟩ (show am_meth (aP sa) 165 = some aM_165.1 from rfl) aX_165 (by decide +kernel) hP ((tc_go_sa (aP_sa sa _)).trans ((tf_go_s tHC_377).trans tR_377))
noncomputable def tK_378 : tc_Ct := (192, (0, 2), [(2, ([], 0), 0)], ([], [(0, 172), (1, 166)], [], [(0, 0, (2, ([], 0), 1))], [], [], [(600, [], []), (608, [], []), (968, [], []), (1016, [], []), (1024, [], []), (1040, [], []), (1088, [], []), (1096, [], []), (568, [1], [])]), [(167, 0), (167, 1), (167, 2), (167, 3), (167, 4), (167, 5)], [((0, 2), ([], [], [], [], [], [], []), some (1, ([], 0), 0), ([], 0), ([], 0))])
noncomputable def tJ_378 : List tc_Pl := []
noncomputable def tC_378 : List tc_Ct := [tK_369, tK_377]
def tM_378 (z : Nat) : Option am_Meth := if z = 193 then some aM_193.1 else if z = 165 then some aM_165.1 else none
set_option maxRecDepth 100000 in
theorem tMs_378 (sa : Nat → Nat) : ∀ z mz, tM_378 z = some mz → am_meth (aP sa) z = some mz := by
  intro z mz h
  unfold tM_378 at h
  rcases de_m h with ⟨rfl, rfl⟩ | h
  · exact (show am_meth (aP sa) 193 = some aM_193.1 from rfl)
  rcases de_m h with ⟨rfl, rfl⟩ | h
  · exact (show am_meth (aP sa) 165 = some aM_165.1 from rfl)
  cases h
noncomputable def tV_378 : tc_Ev := (aQ, tp_T, tp_G.2, tp_Z, tM_378, tC_378, tp_L, tK_378.2.2.2.2.1, aM_192.1, aW_192, tK_378.2.1, tK_378.2.2.2.2.2, tJ_378)
theorem tE_378 : tK_378.2.2.2.2.2.all (tc_wex tK_378.2.1.1 tK_378.2.1.2) = true := by decide +kernel
theorem tSS_378 : tC_378.all (fun c => tw_mg tK_378.2.2.2.2.1 c.2.2.2.2.1) = true := by decide +kernel
theorem tHC_378 : ∀ c ∈ tC_378, c.2.2.2.2.1.all tK_378.2.2.2.2.1.contains = true ∧ c.2.2.2.2.2.all (tc_wex c.2.1.1 c.2.1.2) = true := tf_hc tSS_378 (by
  intro c hc
  have hc : c ∈ ([tK_369, tK_377] : List tc_Ct) := hc
  rcases List.mem_cons.mp hc with rfl | hc
  · exact tE_369
  rcases List.mem_cons.mp hc with rfl | hc
  · exact tE_377
  cases hc)
noncomputable def tH_378_0 : List tc_It := [de_it 0x2010000, de_it 0x2, de_it 0x2010000, de_it 0x4010011, de_it 0x100010100010200000102010002, de_it 0x300000001, de_it 0x4010000, de_it 0x8000000020006, de_it 0x107010101060101000000000000000000000000000000010a0002020101020002030006, de_it 0x10001080000010007, de_it 0x4010000, de_it 0x10001080000010007]
set_option maxRecDepth 100000 in
theorem tR_378 : tf_go tV_378 tK_378.2.1.1 tK_378.2.1.2 none tH_378_0 [(tK_378.2.1, tK_378.2.2.2.1, 0, tc_args 0 tK_378.2.2.1, [], ([], 0), ([], 0))] = true := by decide +kernel
set_option maxRecDepth 100000 in
theorem tT_378 {RO : am_O} {sa : Nat → Nat} (h_369 : tc_true (aP sa) tp_G RO tp_T tp_Z tK_369) (h_377 : tc_true (aP sa) tp_G RO tp_T tp_Z tK_377) : tc_true (aP sa) tp_G RO tp_T tp_Z tK_378 := by
  have hC : ∀ c ∈ tC_378, tc_true (aP sa) tp_G RO tp_T tp_Z c := by
    intro c hc
    have hc : c ∈ ([tK_369, tK_377] : List tc_Ct) := hc
    rcases List.mem_cons.mp hc with rfl | hc
    · exact h_369
    rcases List.mem_cons.mp hc with rfl | hc
    · exact h_377
    cases hc
  have hP : ∀ p ∈ tJ_378, ∃ hs, tc_plk (aP sa, tV_378.2) p hs = true := by
    intro p hp
    have hp : p ∈ ([] : List tc_Pl) := hp
    cases hp
  exact tc_main (mt := aM_192.1) (hs := tH_378_0) (PL := tJ_378) ⟨tp_G_ok, tMs_378 _, hC, tp_L_ok, tp_G_re⟩ (show am_meth (aP sa) 192 = some aM_192.1 from rfl) aX_192 (by decide +kernel) hP ((tc_go_sa (aP_sa sa _)).trans ((tf_go_s tHC_378).trans tR_378))
noncomputable def tK_379 : tc_Ct := (268, (3, 2), [(2, ([], 0), 0), (0, ([(0, 1)], 0), 0), (0, ([(1, 1)], 0), 0), (0, ([(2, 1)], 0), 0)], ([([(0, -1)], 2147483647), ([(0, 1)], 2147483648), ([(1, -1)], 2147483647), ([(1, 1)], 2147483648), ([(2, -1)], 2147483647), ([(2, 1)], 2147483648)], [(0, 165), (1, 166)], [], [(0, 0, (2, ([], 0), 1))], [], [], [(600, [], []), (608, [], []), (968, [], []), (1016, [], []), (1024, [], []), (1040, [], []), (1088, [], []), (1096, [], []), (568, [1], [])]), [(167, 0), (167, 1), (167, 2), (167, 3), (167, 4), (167, 5)], [((3, 2), ([([(0, -1)], 2147483647), ([(0, 1)], 2147483648), ([(1, -1)], 2147483647), ([(1, 1)], 2147483648), ([(2, -1)], 2147483647), ([(2, 1)], 2147483648)], [], [], [], [], [], []), some (1, ([], 0), 0), ([], 0), ([], 0))])
noncomputable def tJ_379 : List tc_Pl := []
noncomputable def tC_379 : List tc_Ct := [tK_328, tK_376, tK_378]
def tM_379 (z : Nat) : Option am_Meth := if z = 192 then some aM_192.1 else if z = 169 then some aM_169.1 else none
set_option maxRecDepth 100000 in
theorem tMs_379 (sa : Nat → Nat) : ∀ z mz, tM_379 z = some mz → am_meth (aP sa) z = some mz := by
  intro z mz h
  unfold tM_379 at h
  rcases de_m h with ⟨rfl, rfl⟩ | h
  · exact (show am_meth (aP sa) 192 = some aM_192.1 from rfl)
  rcases de_m h with ⟨rfl, rfl⟩ | h
  · exact (show am_meth (aP sa) 169 = some aM_169.1 from rfl)
  cases h
noncomputable def tV_379 : tc_Ev := (aQ, tp_T, tp_G.2, tp_Z, tM_379, tC_379, tp_L, tK_379.2.2.2.2.1, aM_268.1, aW_268, tK_379.2.1, tK_379.2.2.2.2.2, tJ_379)
theorem tE_379 : tK_379.2.2.2.2.2.all (tc_wex tK_379.2.1.1 tK_379.2.1.2) = true := by decide +kernel
theorem tSS_379 : tC_379.all (fun c => tw_mg tK_379.2.2.2.2.1 c.2.2.2.2.1) = true := by decide +kernel
theorem tHC_379 : ∀ c ∈ tC_379, c.2.2.2.2.1.all tK_379.2.2.2.2.1.contains = true ∧ c.2.2.2.2.2.all (tc_wex c.2.1.1 c.2.1.2) = true := tf_hc tSS_379 (by
  intro c hc
  have hc : c ∈ ([tK_328, tK_376, tK_378] : List tc_Ct) := hc
  rcases List.mem_cons.mp hc with rfl | hc
  · exact tE_328
  rcases List.mem_cons.mp hc with rfl | hc
  · exact tE_376
  rcases List.mem_cons.mp hc with rfl | hc
  · exact tE_378
  cases hc)
noncomputable def tH_379_0 : List tc_It := [de_it 0x6010000, de_it 0x1030101010201010101010101000101000000000000000000000000000000020c0002010100020001020000020006, de_it 0x8010000, de_it 0x10501010104010101030101010201010101010101000101000000000000000000000000000100010e0000010007, de_it 0x8010000, de_it 0x300000001, de_it 0x2010000, de_it 0x1050101010a010101090101010801010107010101060101000000000000000000000000000100010e0000010007, de_it 0x4010000, de_it 0x300000001, de_it 0x4010000, de_it 0x10b0101000000000300000001, de_it 0x2010000, de_it 0x2, de_it 0x2010000, de_it 0x6010011, de_it 0x10d010c0201010a01010200000002, de_it 0x10a0101010c010101090101010801010107010101060101000000000000000000000000000100010e0000010007, de_it 0x2010000, de_it 0x402000f, de_it 0x80004060200000000000001baff040009, de_it 0x800020402030006, de_it 0x2010000, de_it 0x10c0101010b010101090101010801010107010101060101000000000000000000000000000100010e0000010007, de_it 0x2010000, de_it 0x10b01010104010101090101010801010107010101060101000000000000000000000000000100010e0000010007, de_it 0x8010000, de_it 0x300000001, de_it 0x2010000, de_it 0x1050101010a010101090101010801010107010101060101000000000000000000000000000100010e0000010007, de_it 0x4010000, de_it 0x300000001, de_it 0x4010000, de_it 0x10b0101000000000300000001, de_it 0x2010000, de_it 0x2, de_it 0x2010000, de_it 0x6010011, de_it 0x10d010c0201010a01010200000002, de_it 0x10a0101010c010101090101010801010107010101060101000000000000000000000000000100010e0000010007, de_it 0x2010000, de_it 0x402000f, de_it 0x80004060200000000000001baff040009, de_it 0x800020404030006, de_it 0x2010000, de_it 0x10c0101010b010101090101010801010107010101060101000000000000000000000000000100010e0000010007, de_it 0x2010000, de_it 0x10b01010104010101090101010801010107010101060101000000000000000000000000000100010e0000010007]
set_option maxRecDepth 100000 in
theorem tR_379 : tf_go tV_379 tK_379.2.1.1 tK_379.2.1.2 none tH_379_0 [(tK_379.2.1, tK_379.2.2.2.1, 0, tc_args 0 tK_379.2.2.1, [], ([], 0), ([], 0))] = true := by decide +kernel
set_option maxRecDepth 100000 in
theorem tT_379 {RO : am_O} {sa : Nat → Nat} (h_328 : tc_true (aP sa) tp_G RO tp_T tp_Z tK_328) (h_376 : tc_true (aP sa) tp_G RO tp_T tp_Z tK_376) (h_378 : tc_true (aP sa) tp_G RO tp_T tp_Z tK_378) : tc_true (aP sa) tp_G RO tp_T tp_Z tK_379 := by
  have hC : ∀ c ∈ tC_379, tc_true (aP sa) tp_G RO tp_T tp_Z c := by
    intro c hc
    have hc : c ∈ ([tK_328, tK_376, tK_378] : List tc_Ct) := hc
    rcases List.mem_cons.mp hc with rfl | hc
    · exact h_328
    rcases List.mem_cons.mp hc with rfl | hc
    · exact h_376
    rcases List.mem_cons.mp hc with rfl | hc
    · exact h_378
    cases hc
  have hP : ∀ p ∈ tJ_379, ∃ hs, tc_plk (aP sa, tV_379.2) p hs = true := by
    intro p hp
    have hp : p ∈ ([] : List tc_Pl) := hp
    cases hp
  exact tc_main (mt := aM_268.1) (hs := tH_379_0) (PL := tJ_379) ⟨tp_G_ok, tMs_379 _, hC, tp_L_ok, tp_G_re⟩ (show am_meth (aP sa) 268 = some aM_268.1 from rfl) aX_268 (by decide +kernel) hP ((tc_go_sa (aP_sa sa _)).trans ((tf_go_s tHC_379).trans tR_379))
noncomputable def tK_380 : tc_Ct := (269, (2, 2), [(2, ([], 0), 0), (0, ([(0, 1)], 0), 0), (0, ([(1, 1)], 0), 0)], ([([(0, -1)], 2147483647), ([(0, 1)], 2147483648), ([(1, -1)], 2147483647), ([(1, 1)], 2147483648)], [(0, 165), (1, 166)], [], [(0, 0, (2, ([], 0), 1))], [], [], [(968, [], []), (1016, [], []), (1024, [], []), (1040, [], []), (1088, [], []), (1096, [], []), (568, [1], [])]), [(167, 0), (167, 1), (167, 2), (167, 3), (167, 4), (167, 5), (177, 1)], [((2, 2), ([([(0, -1)], 2147483647), ([(0, 1)], 2147483648), ([(1, -1)], 2147483647), ([(1, 1)], 2147483648)], [], [], [], [], [], []), some (1, ([], 0), 0), ([], 0), ([], 0))])
noncomputable def tJ_380 : List tc_Pl := []
noncomputable def tC_380 : List tc_Ct := [tK_328, tK_16, tK_28, tK_15, tK_24]
def tM_380 (z : Nat) : Option am_Meth := if z = 169 then some aM_169.1 else if z = 33 then some aM_33.1 else if z = 29 then some aM_29.1 else if z = 23 then some aM_23.1 else if z = 17 then some aM_17.1 else none
set_option maxRecDepth 100000 in
theorem tMs_380 (sa : Nat → Nat) : ∀ z mz, tM_380 z = some mz → am_meth (aP sa) z = some mz := by
  intro z mz h
  unfold tM_380 at h
  rcases de_m h with ⟨rfl, rfl⟩ | h
  · exact (show am_meth (aP sa) 169 = some aM_169.1 from rfl)
  rcases de_m h with ⟨rfl, rfl⟩ | h
  · exact (show am_meth (aP sa) 33 = some aM_33.1 from rfl)
  rcases de_m h with ⟨rfl, rfl⟩ | h
  · exact (show am_meth (aP sa) 29 = some aM_29.1 from rfl)
  rcases de_m h with ⟨rfl, rfl⟩ | h
  · exact (show am_meth (aP sa) 23 = some aM_23.1 from rfl)
  rcases de_m h with ⟨rfl, rfl⟩ | h
  · exact (show am_meth (aP sa) 17 = some aM_17.1 from rfl)
  cases h
noncomputable def tV_380 : tc_Ev := (aQ, tp_T, tp_G.2, tp_Z, tM_380, tC_380, tp_L, tK_380.2.2.2.2.1, aM_269.1, aW_269, tK_380.2.1, tK_380.2.2.2.2.2, tJ_380)
theorem tE_380 : tK_380.2.2.2.2.2.all (tc_wex tK_380.2.1.1 tK_380.2.1.2) = true := by decide +kernel
theorem tSS_380 : tC_380.all (fun c => tw_mg tK_380.2.2.2.2.1 c.2.2.2.2.1) = true := by decide +kernel
theorem tHC_380 : ∀ c ∈ tC_380, c.2.2.2.2.1.all tK_380.2.2.2.2.1.contains = true ∧ c.2.2.2.2.2.all (tc_wex c.2.1.1 c.2.1.2) = true := tf_hc tSS_380 (by
  intro c hc
  have hc : c ∈ ([tK_328, tK_16, tK_28, tK_15, tK_24] : List tc_Ct) := hc
  rcases List.mem_cons.mp hc with rfl | hc
  · exact tE_328
  rcases List.mem_cons.mp hc with rfl | hc
  · exact tE_16
  rcases List.mem_cons.mp hc with rfl | hc
  · exact tE_28
  rcases List.mem_cons.mp hc with rfl | hc
  · exact tE_15
  rcases List.mem_cons.mp hc with rfl | hc
  · exact tE_24
  cases hc)
noncomputable def tH_380_0 : List tc_It := [de_it 0x6010000, de_it 0x1030101010201010101010101000101000000000000000000000000000000020c0002010100020001020000020006, de_it 0x8010000, de_it 0x1030101010201010101010101000101000000000000000000000000000100010c0000010007, de_it 0xc010000, de_it 0x2, de_it 0x1080101000000000300000001, de_it 0x2010000, de_it 0x2, de_it 0x602000f, de_it 0x8010011, de_it 0x6010010, de_it 0x20602000f, de_it 0x6010010, de_it 0x1120101010f0101010e01010110010101110101000000000000000000000000000000000d000203010002040102080602030006, de_it 0x2010000, de_it 0x1070101010601010105010101040101000000000000000000000000000100010c0000010007, de_it 0x2010000, de_it 0x2, de_it 0x2010000, de_it 0x6010011, de_it 0x10b010100010200000102010002, de_it 0x10d0101010e0101000000000000000000000000000000000a000204010104010006, de_it 0x4010000, de_it 0x2, de_it 0x2, de_it 0x4010000, de_it 0x2, de_it 0x2, de_it 0xc010011, de_it 0xa010010, de_it 0x4010000, de_it 0x2, de_it 0x2, de_it 0xa010010, de_it 0x119011701130301011701130201011a01130201011901180201011901170201011b01010118010101170101011a010101190101011801130201011701130201011a0113020101130101011801010117010101190101011a0101000100010114010101130101000000000000000000000000000000041e0002060100020701000000020501040c0806030006, de_it 0x767472706e625a58565452504e4c363432302e28261c1a181614120e0c0a081f000d, de_it 0x4010000, de_it 0x2, de_it 0x2, de_it 0x4010000, de_it 0x2, de_it 0x2010000, de_it 0xe010011, de_it 0x11f010100010200000002, de_it 0x4010000, de_it 0x10001010b0101010a0101000000000000000000000000000000040cf20000020501020808020006, de_it 0x58565452504e4c4a403e3c3a38363432201e1c1a18161412100e0c0a080604020021000d, de_it 0x4010000, de_it 0x2, de_it 0x1100101010d0101010c0101010e0101010f0101000000000000000000000000000000000d0002060100020701020c0a02030006, de_it 0x2010000, de_it 0x1030101010201010101010101000101000000000000000000000000000100010c0000010007, de_it 0xc010000, de_it 0x2, de_it 0x1080101000000000300000001, de_it 0x2010000, de_it 0x2, de_it 0x602000f, de_it 0x8010011, de_it 0x6010010, de_it 0x20602000f, de_it 0x6010010, de_it 0x1120101010f0101010e01010110010101110101000000000000000000000000000000000d000203010002040102080602030006, de_it 0x2010000, de_it 0x1070101010601010105010101040101000000000000000000000000000100010c0000010007, de_it 0x2010000, de_it 0x2, de_it 0x2010000, de_it 0x6010011, de_it 0x10b010100010200000102010002, de_it 0x10d0101010e0101000000000000000000000000000000000a000204010104010006, de_it 0x4010000, de_it 0x2, de_it 0x2, de_it 0x4010000, de_it 0x2, de_it 0x2, de_it 0xc010011, de_it 0xa010010, de_it 0x4010000, de_it 0x2, de_it 0x2, de_it 0xa010010, de_it 0x119011701130301011701130201011a01130201011901180201011901170201011b01010118010101170101011a010101190101011801130201011701130201011a0113020101130101011801010117010101190101011a0101000100010114010101130101000000000000000000000000000000041e0002060100020701000000020501040c0806030006, de_it 0x767472706e625a58565452504e4c363432302e28261c1a181614120e0c0a081f000d, de_it 0x4010000, de_it 0x2, de_it 0x2, de_it 0x4010000, de_it 0x2, de_it 0x2010000, de_it 0xe010011, de_it 0x11f010100010200000002, de_it 0x4010000, de_it 0x10001010b0101010a0101000000000000000000000000000000040cf20000020501020808020006, de_it 0x58565452504e4c4a403e3c3a38363432201e1c1a18161412100e0c0a080604020021000d, de_it 0x4010000, de_it 0x2, de_it 0x1100101010d0101010c0101010e0101010f0101000000000000000000000000000000000d0002060100020701020c0a02030006, de_it 0x2010000, de_it 0x1030101010201010101010101000101000000000000000000000000000100010c0000010007]
set_option maxRecDepth 100000 in
theorem tR_380 : tf_go tV_380 tK_380.2.1.1 tK_380.2.1.2 none tH_380_0 [(tK_380.2.1, tK_380.2.2.2.1, 0, tc_args 0 tK_380.2.2.1, [], ([], 0), ([], 0))] = true := by decide +kernel
set_option maxRecDepth 100000 in
theorem tT_380 {RO : am_O} {sa : Nat → Nat} (h_15 : tc_true (aP sa) tp_G RO tp_T tp_Z tK_15) (h_16 : tc_true (aP sa) tp_G RO tp_T tp_Z tK_16) (h_24 : tc_true (aP sa) tp_G RO tp_T tp_Z tK_24) (h_28 : tc_true (aP sa) tp_G RO tp_T tp_Z tK_28) (h_328 : tc_true (aP sa) tp_G RO tp_T tp_Z tK_328) : tc_true (aP sa) tp_G RO tp_T tp_Z tK_380 := by
  have hC : ∀ c ∈ tC_380, tc_true (aP sa) tp_G RO tp_T tp_Z c := by
    intro c hc
    have hc : c ∈ ([tK_328, tK_16, tK_28, tK_15, tK_24] : List tc_Ct) := hc
    rcases List.mem_cons.mp hc with rfl | hc
    · exact h_328
    rcases List.mem_cons.mp hc with rfl | hc
    · exact h_16
    rcases List.mem_cons.mp hc with rfl | hc
    · exact h_28
    rcases List.mem_cons.mp hc with rfl | hc
    · exact h_15
    rcases List.mem_cons.mp hc with rfl | hc
    · exact h_24
    cases hc
  have hP : ∀ p ∈ tJ_380, ∃ hs, tc_plk (aP sa, tV_380.2) p hs = true := by
    intro p hp
    have hp : p ∈ ([] : List tc_Pl) := hp
    cases hp
  exact tc_main (mt := aM_269.1) (hs := tH_380_0) (PL := tJ_380) ⟨tp_G_ok, tMs_380 _, hC, tp_L_ok, tp_G_re⟩ (show am_meth (aP sa) 269 = some aM_269.1 from rfl) aX_269 (by decide +kernel) hP ((tc_go_sa (aP_sa sa _)).trans ((tf_go_s tHC_380).trans tR_380))
noncomputable def tK_381 : tc_Ct := (11, (3, 2), [(2, ([], 0), 0), (0, ([], 0), 0)], ([([(0, -1)], 2802), ([(0, 1)], -3), ([(1, -1)], 6000), ([(1, 1)], -8), ([(2, -1)], 255), ([(2, 1)], 0), ([(0, -1), (1, 1)], 0)], [(0, 191), (1, 193)], [(1, ([(1, 1)], 0))], [(0, 0, (2, ([], 0), 1)), (0, 1, (0, ([(0, 1)], 0), 0))], [(1, ([], 0), ([(2, 1)], 0))], [], [(1024, [0], []), (1016, [], []), (1088, [], [])]), [], [((3, 2), ([([(0, -1)], 2802), ([(0, 1)], -3), ([(1, -1)], 6000), ([(1, 1)], -8), ([(2, -1)], 255), ([(2, 1)], 0), ([(0, -1), (1, 1)], 0)], [], [(1, ([(1, 1)], 0))], [], [], [], []), some (0, ([(2, 1)], 0), 0), ([], 0), ([], 0))])
noncomputable def tJ_381 : List tc_Pl := []
noncomputable def tC_381 : List tc_Ct := []
def tM_381 (z : Nat) : Option am_Meth := none
set_option maxRecDepth 100000 in
theorem tMs_381 (sa : Nat → Nat) : ∀ z mz, tM_381 z = some mz → am_meth (aP sa) z = some mz := fun z mz h => by cases h
noncomputable def tV_381 : tc_Ev := (aQ, tp_T, tp_G.2, tp_Z, tM_381, tC_381, tp_L, tK_381.2.2.2.2.1, aM_11.1, aW_11, tK_381.2.1, tK_381.2.2.2.2.2, tJ_381)
theorem tE_381 : tK_381.2.2.2.2.2.all (tc_wex tK_381.2.1.1 tK_381.2.1.2) = true := by decide +kernel
theorem tSS_381 : tC_381.all (fun c => tw_mg tK_381.2.2.2.2.1 c.2.2.2.2.1) = true := by decide +kernel
theorem tHC_381 : ∀ c ∈ tC_381, c.2.2.2.2.1.all tK_381.2.2.2.2.1.contains = true ∧ c.2.2.2.2.2.all (tc_wex c.2.1.1 c.2.1.2) = true := tf_hc tSS_381 (by
  intro c hc
  have hc : c ∈ ([] : List tc_Ct) := hc
  cases hc)
noncomputable def tH_381_0 : List tc_It := [de_it 0x2010000, de_it 0x10701010300000001, de_it 0x4010000, de_it 0x2, de_it 0x108010102010300000001, de_it 0x2010000, de_it 0x2, de_it 0x2010000, de_it 0x103010100010200000002, de_it 0x2010000, de_it 0x1060101010501010104010101030101010201010101010101000101000000000000000000000000000100010f0000010007]
set_option maxRecDepth 100000 in
theorem tR_381 : tf_go tV_381 tK_381.2.1.1 tK_381.2.1.2 none tH_381_0 [(tK_381.2.1, tK_381.2.2.2.1, 0, tc_args 0 tK_381.2.2.1, [], ([], 0), ([], 0))] = true := by decide +kernel
set_option maxRecDepth 100000 in
theorem tT_381 {RO : am_O} {sa : Nat → Nat} : tc_true (aP sa) tp_G RO tp_T tp_Z tK_381 := by
  have hC : ∀ c ∈ tC_381, tc_true (aP sa) tp_G RO tp_T tp_Z c := by
    intro c hc
    have hc : c ∈ ([] : List tc_Ct) := hc
    cases hc
  have hP : ∀ p ∈ tJ_381, ∃ hs, tc_plk (aP sa, tV_381.2) p hs = true := by
    intro p hp
    have hp : p ∈ ([] : List tc_Pl) := hp
    cases hp
  exact tc_main (mt := aM_11.1) (hs := tH_381_0) (PL := tJ_381) ⟨tp_G_ok, tMs_381 _, hC, tp_L_ok, tp_G_re⟩ (show am_meth (aP sa) 11 = some aM_11.1 from rfl) aX_11 (by decide +kernel) hP ((tc_go_sa (aP_sa sa _)).trans ((tf_go_s tHC_381).trans tR_381))
noncomputable def tK_382 : tc_Ct := (13, (6, 3), [(2, ([], 0), 0), (2, ([], 0), 1), (0, ([(0, 1)], 0), 0), (0, ([(1, 1)], 0), 0)], ([([(0, -1)], 7999), ([(0, 1)], 0), ([(1, -1)], 8000), ([(1, 1)], -1), ([(2, -1)], 2), ([(2, 1)], 0), ([(3, -1)], 93912), ([(3, 1)], -8), ([(4, -1)], 640), ([(4, 1)], -8), ([(5, -1)], 8000000), ([(0, -1), (1, 1)], -1), ([(0, -1), (3, 1)], -1), ([(0, 1), (1, -1)], 3), ([(1, -1), (3, 1)], 0), ([(0, 1), (1, -1), (2, -1)], 3)], [(0, 189), (1, 193), (2, 194)], [(1, ([(3, 1)], 0)), (2, ([(4, 1)], 0))], [(0, 0, (2, ([], 0), 2)), (0, 1, (0, ([(2, 1)], 0), 0))], [], [], [(1024, [0], []), (1136, [], [([(5, 1)], 0)]), (1016, [], []), (1088, [], [])]), [(189, 1), (194, 0)], [((6, 3), ([([(0, -1)], 7999), ([(0, 1)], 0), ([(1, -1)], 8000), ([(1, 1)], -1), ([(2, -1)], 2), ([(2, 1)], 0), ([(3, -1)], 93912), ([(3, 1)], -8), ([(4, -1)], 640), ([(4, 1)], -8), ([(5, -1)], 8000000), ([(0, -1), (1, 1)], -1), ([(0, -1), (3, 1)], -1), ([(0, 1), (1, -1)], 3), ([(1, -1), (3, 1)], 0), ([(0, 1), (1, -1), (2, -1)], 3)], [], [(1, ([(3, 1)], 0)), (2, ([(4, 1)], 0))], [(0, 1, (0, ([(0, -1), (1, 1), (2, 1)], 0), 0))], [], [], [(1024, [0], []), (1008, [0, 2], [])]), none, ([], 0), ([], 0))])
noncomputable def tJ_382 : List tc_Pl := []
noncomputable def tC_382 : List tc_Ct := []
def tM_382 (z : Nat) : Option am_Meth := none
set_option maxRecDepth 100000 in
theorem tMs_382 (sa : Nat → Nat) : ∀ z mz, tM_382 z = some mz → am_meth (aP sa) z = some mz := fun z mz h => by cases h
noncomputable def tV_382 : tc_Ev := (aQ, tp_T, tp_G.2, tp_Z, tM_382, tC_382, tp_L, tK_382.2.2.2.2.1, aM_13.1, aW_13, tK_382.2.1, tK_382.2.2.2.2.2, tJ_382)
theorem tE_382 : tK_382.2.2.2.2.2.all (tc_wex tK_382.2.1.1 tK_382.2.1.2) = true := by decide +kernel
theorem tSS_382 : tC_382.all (fun c => tw_mg tK_382.2.2.2.2.1 c.2.2.2.2.1) = true := by decide +kernel
theorem tHC_382 : ∀ c ∈ tC_382, c.2.2.2.2.1.all tK_382.2.2.2.2.1.contains = true ∧ c.2.2.2.2.2.all (tc_wex c.2.1.1 c.2.1.2) = true := tf_hc tSS_382 (by
  intro c hc
  have hc : c ∈ ([] : List tc_Ct) := hc
  cases hc)
noncomputable def tH_382_0 : List tc_It := [de_it 0x2010000, de_it 0x110010102010300000001, de_it 0x4010000, de_it 0x2, de_it 0x111010e02010300000001, de_it 0x4010000, de_it 0x112010b02010300000001, de_it 0x2010000, de_it 0x2, de_it 0x4010000, de_it 0x10d0101010b01010200000001, de_it 0x10f01010105010b02010200000001, de_it 0x2010000, de_it 0x113010f020100000300000001, de_it 0x2010000, de_it 0x2, de_it 0x2010000, de_it 0x10f010002010105010302010200000001, de_it 0x2010000, de_it 0x10f01010105010b02010200000001, de_it 0x2010000, de_it 0x2, de_it 0x2, de_it 0x114010f0109030100000300000001, de_it 0x6010000, de_it 0x2, de_it 0x2010000, de_it 0x2, de_it 0x4010000, de_it 0x10d0101010b01010200000001, de_it 0x80004000000000000000280ff030009, de_it 0x109010f0201010e01010101010101050101010b01010500000005, de_it 0x4010000, de_it 0x2, de_it 0x4010000, de_it 0x10d0101010b01010200000001, de_it 0x10f01010105010b02010200000001, de_it 0x80004000000000000000282ff030009, de_it 0x80004000000000000000284ff030009, de_it 0x8000202020101000301000000000000000286ff020009, de_it 0x1090101010801010109010f0201010f01010105010b0201000000000700000003, de_it 0x80004000000000000000220ff030009, de_it 0x10f0101010e0101010d0101010c0101010b0101010a01010109010101080101010701010106010101050101010401010103010101020101010101010100010100000000000000000000000000010001180000010007]
set_option maxRecDepth 100000 in
theorem tR_382 : tf_go tV_382 tK_382.2.1.1 tK_382.2.1.2 none tH_382_0 [(tK_382.2.1, tK_382.2.2.2.1, 0, tc_args 0 tK_382.2.2.1, [], ([], 0), ([], 0))] = true := by decide +kernel
set_option maxRecDepth 100000 in
theorem tT_382 {RO : am_O} {sa : Nat → Nat} : tc_true (aP sa) tp_G RO tp_T tp_Z tK_382 := by
  have hC : ∀ c ∈ tC_382, tc_true (aP sa) tp_G RO tp_T tp_Z c := by
    intro c hc
    have hc : c ∈ ([] : List tc_Ct) := hc
    cases hc
  have hP : ∀ p ∈ tJ_382, ∃ hs, tc_plk (aP sa, tV_382.2) p hs = true := by
    intro p hp
    have hp : p ∈ ([] : List tc_Pl) := hp
    cases hp
  exact tc_main (mt := aM_13.1) (hs := tH_382_0) (PL := tJ_382) ⟨tp_G_ok, tMs_382 _, hC, tp_L_ok, tp_G_re⟩ (show am_meth (aP sa) 13 = some aM_13.1 from rfl) aX_13 (by decide +kernel) hP ((tc_go_sa (aP_sa sa _)).trans ((tf_go_s tHC_382).trans tR_382))
noncomputable def tK_383 : tc_Ct := (13, (6, 3), [(2, ([], 0), 0), (2, ([], 0), 1), (0, ([(0, 1)], 0), 0), (0, ([(1, 1)], 0), 0)], ([([(0, -1)], 7999), ([(0, 1)], 0), ([(1, -1)], 7998), ([(1, 1)], 300), ([(2, -1)], 303), ([(2, 1)], -4), ([(3, -1)], 93912), ([(3, 1)], -8), ([(4, -1)], 640), ([(4, 1)], -8), ([(5, -1)], 8000000), ([(0, -1), (1, 1)], 300), ([(0, -1), (3, 1)], -1), ([(0, 1), (1, -1)], -1), ([(1, 1), (4, 1)], -3), ([(0, 1), (1, -1), (2, -1), (4, 1)], -1)], [(0, 189), (1, 193), (2, 194)], [(1, ([(3, 1)], 0)), (2, ([(4, 1)], 0))], [(0, 0, (2, ([], 0), 2)), (0, 1, (0, ([(2, 1)], 0), 0))], [], [], [(1024, [0], []), (1136, [], [([(5, 1)], 0)]), (1016, [], []), (1088, [], [])]), [], [((6, 3), ([([(0, -1)], 7999), ([(0, 1)], 0), ([(1, -1)], 7998), ([(1, 1)], 300), ([(2, -1)], 303), ([(2, 1)], -4), ([(3, -1)], 93912), ([(3, 1)], -8), ([(4, -1)], 640), ([(4, 1)], -8), ([(5, -1)], 8000000), ([(0, -1), (1, 1)], 300), ([(0, -1), (3, 1)], -1), ([(0, 1), (1, -1)], -1), ([(1, 1), (4, 1)], -3), ([(0, 1), (1, -1), (2, -1), (4, 1)], -1)], [], [(1, ([(3, 1)], 0)), (2, ([(4, 1)], 0))], [], [], [], []), none, ([], 0), ([], 0))])
noncomputable def tJ_383 : List tc_Pl := []
noncomputable def tC_383 : List tc_Ct := []
def tM_383 (z : Nat) : Option am_Meth := none
set_option maxRecDepth 100000 in
theorem tMs_383 (sa : Nat → Nat) : ∀ z mz, tM_383 z = some mz → am_meth (aP sa) z = some mz := fun z mz h => by cases h
noncomputable def tV_383 : tc_Ev := (aQ, tp_T, tp_G.2, tp_Z, tM_383, tC_383, tp_L, tK_383.2.2.2.2.1, aM_13.1, aW_13, tK_383.2.1, tK_383.2.2.2.2.2, tJ_383)
theorem tE_383 : tK_383.2.2.2.2.2.all (tc_wex tK_383.2.1.1 tK_383.2.1.2) = true := by decide +kernel
theorem tSS_383 : tC_383.all (fun c => tw_mg tK_383.2.2.2.2.1 c.2.2.2.2.1) = true := by decide +kernel
theorem tHC_383 : ∀ c ∈ tC_383, c.2.2.2.2.1.all tK_383.2.2.2.2.1.contains = true ∧ c.2.2.2.2.2.all (tc_wex c.2.1.1 c.2.1.2) = true := tf_hc tSS_383 (by
  intro c hc
  have hc : c ∈ ([] : List tc_Ct) := hc
  cases hc)
noncomputable def tH_383_0 : List tc_It := [de_it 0x2010000, de_it 0x110010102010300000001, de_it 0x4010000, de_it 0x2, de_it 0x111010d010c03010300000001, de_it 0x4010000, de_it 0x112010d020100000300000001, de_it 0x10f0101010e0101010d0101010c0101010b0101010a01010109010101080101010701010106010101050101010401010103010101020101010101010100010100000000000000000000000000010001180000010007]
set_option maxRecDepth 100000 in
theorem tR_383 : tf_go tV_383 tK_383.2.1.1 tK_383.2.1.2 none tH_383_0 [(tK_383.2.1, tK_383.2.2.2.1, 0, tc_args 0 tK_383.2.2.1, [], ([], 0), ([], 0))] = true := by decide +kernel
set_option maxRecDepth 100000 in
theorem tT_383 {RO : am_O} {sa : Nat → Nat} : tc_true (aP sa) tp_G RO tp_T tp_Z tK_383 := by
  have hC : ∀ c ∈ tC_383, tc_true (aP sa) tp_G RO tp_T tp_Z c := by
    intro c hc
    have hc : c ∈ ([] : List tc_Ct) := hc
    cases hc
  have hP : ∀ p ∈ tJ_383, ∃ hs, tc_plk (aP sa, tV_383.2) p hs = true := by
    intro p hp
    have hp : p ∈ ([] : List tc_Pl) := hp
    cases hp
  exact tc_main (mt := aM_13.1) (hs := tH_383_0) (PL := tJ_383) ⟨tp_G_ok, tMs_383 _, hC, tp_L_ok, tp_G_re⟩ (show am_meth (aP sa) 13 = some aM_13.1 from rfl) aX_13 (by decide +kernel) hP ((tc_go_sa (aP_sa sa _)).trans ((tf_go_s tHC_383).trans tR_383))
noncomputable def tK_384 : tc_Ct := (8, (2, 1), [(2, ([], 0), 0), (0, ([(0, 1)], 0), 0)], ([([(0, -1)], 604), ([(0, 1)], -16), ([(1, -1)], 302), ([(1, 1)], -8), ([(0, -1), (1, 1)], 302), ([(0, 1), (1, -1)], -8)], [(0, 194)], [(0, ([(1, 1)], 0))], [], [], [], [(1024, [0], []), (1016, [], []), (1088, [], [])]), [(194, 0), (194, 1000)], [((2, 2), ([([(0, -1)], 604), ([(0, 1)], -16), ([(1, -1)], 302), ([(1, 1)], -8), ([(0, -1), (1, 1)], 302), ([(0, 1), (1, -1)], -8)], [(1, 194)], [(0, ([(1, 1)], 0)), (1, ([(0, 1)], 0))], [], [], [], [(1024, [0], []), (1008, [1], [])]), some (2, ([], 0), 1), ([], 1), ([(0, 1)], 0))])
noncomputable def tJ_384 : List tc_Pl := []
noncomputable def tC_384 : List tc_Ct := []
def tM_384 (z : Nat) : Option am_Meth := none
set_option maxRecDepth 100000 in
theorem tMs_384 (sa : Nat → Nat) : ∀ z mz, tM_384 z = some mz → am_meth (aP sa) z = some mz := fun z mz h => by cases h
noncomputable def tV_384 : tc_Ev := (aQ, tp_T, tp_G.2, tp_Z, tM_384, tC_384, tp_L, tK_384.2.2.2.2.1, aM_8.1, aW_8, tK_384.2.1, tK_384.2.2.2.2.2, tJ_384)
theorem tE_384 : tK_384.2.2.2.2.2.all (tc_wex tK_384.2.1.1 tK_384.2.1.2) = true := by decide +kernel
theorem tSS_384 : tC_384.all (fun c => tw_mg tK_384.2.2.2.2.1 c.2.2.2.2.1) = true := by decide +kernel
theorem tHC_384 : ∀ c ∈ tC_384, c.2.2.2.2.1.all tK_384.2.2.2.2.1.contains = true ∧ c.2.2.2.2.2.all (tc_wex c.2.1.1 c.2.1.2) = true := tf_hc tSS_384 (by
  intro c hc
  have hc : c ∈ ([] : List tc_Ct) := hc
  cases hc)
noncomputable def tH_384_0 : List tc_It := [de_it 0x4010000, de_it 0x2, de_it 0x105010101070105020100000300000001, de_it 0x2010000, de_it 0x8000000000000000216ff010009, de_it 0x100010101010101010001010101010104000000000000000184ff010004, de_it 0xc010000, de_it 0x2, de_it 0x2010000, de_it 0x107010502010200000005, de_it 0x80002000000000000000288ff030009, de_it 0x1050101000100010001010301010500000005, de_it 0x2010000, de_it 0x8000200000000000000028aff030009, de_it 0x10501010104010101030101010201010101010101000101000000000000000000000000000100010e000200020007]
set_option maxRecDepth 100000 in
theorem tR_384 : tf_go tV_384 tK_384.2.1.1 tK_384.2.1.2 none tH_384_0 [(tK_384.2.1, tK_384.2.2.2.1, 0, tc_args 0 tK_384.2.2.1, [], ([], 0), ([], 0))] = true := by decide +kernel
set_option maxRecDepth 100000 in
theorem tT_384 {RO : am_O} {sa : Nat → Nat} : tc_true (aP sa) tp_G RO tp_T tp_Z tK_384 := by
  have hC : ∀ c ∈ tC_384, tc_true (aP sa) tp_G RO tp_T tp_Z c := by
    intro c hc
    have hc : c ∈ ([] : List tc_Ct) := hc
    cases hc
  have hP : ∀ p ∈ tJ_384, ∃ hs, tc_plk (aP sa, tV_384.2) p hs = true := by
    intro p hp
    have hp : p ∈ ([] : List tc_Pl) := hp
    cases hp
  exact tc_main (mt := aM_8.1) (hs := tH_384_0) (PL := tJ_384) ⟨tp_G_ok, tMs_384 _, hC, tp_L_ok, tp_G_re⟩ (show am_meth (aP sa) 8 = some aM_8.1 from rfl) aX_8 (by decide +kernel) hP ((tc_go_sa (aP_sa sa _)).trans ((tf_go_s tHC_384).trans tR_384))
noncomputable def tK_385 : tc_Ct := (13, (6, 3), [(2, ([], 0), 0), (2, ([], 0), 1), (0, ([(0, 1)], 0), 0), (0, ([(1, 1)], 0), 0)], ([([(0, -1)], 7999), ([(0, 1)], 0), ([(1, -1)], 8000), ([(1, 1)], 0), ([(2, -1)], 303), ([(2, 1)], -3), ([(3, -1)], 93912), ([(3, 1)], -8), ([(4, -1)], 640), ([(4, 1)], -8), ([(5, -1)], 8000000), ([(0, -1), (1, 1)], 0), ([(0, -1), (3, 1)], -1), ([(0, 1), (1, -1)], 300), ([(1, -1), (3, 1)], 0), ([(0, 1), (1, -1), (2, -1)], 303)], [(0, 189), (1, 193), (2, 194)], [(1, ([(3, 1)], 0)), (2, ([(4, 1)], 0))], [(0, 0, (2, ([], 0), 2)), (0, 1, (0, ([(2, 1)], 0), 0))], [], [], [(1024, [0], []), (1136, [], [([(5, 1)], 0)]), (1016, [], []), (1088, [], [])]), [(189, 0), (189, 1), (194, 0), (194, 1000)], [((10, 3), ([([(0, -1)], 7999), ([(0, 1)], 0), ([(1, -1)], 8000), ([(1, 1)], 0), ([(2, -1)], 303), ([(2, 1)], -3), ([(3, -1)], 93912), ([(3, 1)], -8), ([(4, -1)], 640), ([(4, 1)], -8), ([(5, -1)], 8000000), ([(6, -1)], 303), ([(6, 1)], -3), ([(7, -1)], 1), ([(7, 1)], 0), ([(8, -1)], 604), ([(8, 1)], 0), ([(9, -1)], 8000000), ([(0, -1), (1, 1)], 0), ([(0, -1), (3, 1)], -1), ([(0, 1), (1, -1)], 300), ([(1, -1), (3, 1)], 0), ([(1, -1), (6, 1)], 7996), ([(2, -1), (6, 1)], 0), ([(7, -16), (8, 1)], 0), ([(0, -1), (2, 1), (6, -1)], 8000), ([(0, 1), (1, -1), (2, -1)], 303), ([(1, -1), (2, -1), (6, 1)], 7999), ([(5, 1), (8, -1), (9, -1)], 0), ([(0, -1), (1, 1), (2, 1), (6, -1)], 0), ([(0, 1), (1, -1), (2, -1), (6, 1)], 0)], [], [(1, ([(3, 1)], 0)), (2, ([(4, 1)], 0))], [(0, 1, (0, ([(6, 1)], 0), 0))], [], [], [(1024, [0], []), (1136, [], [([(9, 1)], 0)]), (1016, [], [])]), none, ([(7, 1)], 0), ([(8, 1)], 0))])
noncomputable def tJ_385 : List tc_Pl := []
noncomputable def tC_385 : List tc_Ct := [tK_384]
def tM_385 (z : Nat) : Option am_Meth := if z = 8 then some aM_8.1 else none
set_option maxRecDepth 100000 in
theorem tMs_385 (sa : Nat → Nat) : ∀ z mz, tM_385 z = some mz → am_meth (aP sa) z = some mz := by
  intro z mz h
  unfold tM_385 at h
  rcases de_m h with ⟨rfl, rfl⟩ | h
  · exact (show am_meth (aP sa) 8 = some aM_8.1 from rfl)
  cases h
noncomputable def tV_385 : tc_Ev := (aQ, tp_T, tp_G.2, tp_Z, tM_385, tC_385, tp_L, tK_385.2.2.2.2.1, aM_13.1, aW_13, tK_385.2.1, tK_385.2.2.2.2.2, tJ_385)
theorem tE_385 : tK_385.2.2.2.2.2.all (tc_wex tK_385.2.1.1 tK_385.2.1.2) = true := by decide +kernel
theorem tSS_385 : tC_385.all (fun c => tw_mg tK_385.2.2.2.2.1 c.2.2.2.2.1) = true := by decide +kernel
theorem tHC_385 : ∀ c ∈ tC_385, c.2.2.2.2.1.all tK_385.2.2.2.2.1.contains = true ∧ c.2.2.2.2.2.all (tc_wex c.2.1.1 c.2.1.2) = true := tf_hc tSS_385 (by
  intro c hc
  have hc : c ∈ ([tK_384] : List tc_Ct) := hc
  rcases List.mem_cons.mp hc with rfl | hc
  · exact tE_384
  cases hc)
noncomputable def tH_385_0 : List tc_It := [de_it 0x2010000, de_it 0x110010102010300000001, de_it 0x4010000, de_it 0x2, de_it 0x111010e02010300000001, de_it 0x4010000, de_it 0x300000001, de_it 0x1120101010b01010001011201000201010f0101010001010001000101120105010003010112010c020101120101010c0101010b0101010a010100010001000100010105010101040101010a010101090101010801010107010101060101010501010104010101030101011201000201010101010100010100000000000000000000000000010001270002050100000000000202010400010007, de_it 0x2010000, de_it 0x2, de_it 0x10010, de_it 0x4010000, de_it 0x10d0101011201010200000001, de_it 0x10f01010105011202010200000001, de_it 0x2010000, de_it 0x116010f020100000300000001, de_it 0x2010000, de_it 0x2, de_it 0x2010000, de_it 0x10f0100020101010105011203010200000001, de_it 0x2010000, de_it 0x10f01010105011202010200000001, de_it 0x2010000, de_it 0x2, de_it 0x2, de_it 0x300000001, de_it 0x6010000, de_it 0x2, de_it 0x2010000, de_it 0x2, de_it 0x4010000, de_it 0x10d0101011201010200000001, de_it 0x80004000000000000000280ff030009, de_it 0x1170101010e01010101010101050101011201010500000005, de_it 0x4010000, de_it 0x2, de_it 0x4010000, de_it 0x10d0101011201010200000001, de_it 0x10f01010105011202010200000001, de_it 0x80004000000000000000282ff030009, de_it 0x80004000000000000000284ff030009, de_it 0x8000202020101000301000000000000000286ff020009, de_it 0x10901010108010101170101010f0101010501120201000000000700000003, de_it 0x80004000000000000000220ff030009, de_it 0x10001000101000101010f010101020101000101120101010501000201010e0101010d0101010c010101120101010a01010001000100010001010501120201010f0101010a010101090101010801010107010101060101010501010112010f02010101011202010102010101010101010001010000000000000000000000000001000127000205010000000000020202010100030400010007, de_it 0x4010000, de_it 0x2, de_it 0x4010000, de_it 0x2, de_it 0x2, de_it 0x217020f0201020901010200000001, de_it 0x2010000, de_it 0x2, de_it 0x2010000, de_it 0x10f0100020101090101011703010200000001, de_it 0x2010000, de_it 0x10f01010109011702010200000001, de_it 0x200000005, de_it 0x80004000000000000000280ff030009, de_it 0x118010902010109010f0201010901010118010f0202020901180201010f0101000000000000000000000000000000000e000204010002020201010003020400020006, de_it 0x80004000000000000000282ff030009, de_it 0x80004000000000000000284ff030009, de_it 0x8000600000000000000028cff030009, de_it 0x8000600000000000000028eff030009, de_it 0x80006000000000000000290ff030009, de_it 0x800020202010100030002040100020501030604000000000000000292ff040009, de_it 0x20901180201010f0101011301090118030100000000000000000700000003, de_it 0x6010000, de_it 0x2, de_it 0x2010000, de_it 0x2, de_it 0x4010000, de_it 0x10d010101130109011803010200000001, de_it 0x80006000000000000000280ff030009, de_it 0x1010e0101010101010105010101130109011803010500000005, de_it 0x4010000, de_it 0x2, de_it 0x4010000, de_it 0x10d010101130109011803010200000001, de_it 0x10f01010209011802010200000001, de_it 0x80006000000000000000284ff030009, de_it 0x8000202020101000301000000000000000286ff020009, de_it 0x20901180201010f01010001010f0101020901180201000000000700000003, de_it 0x80006000000000000000220ff030009, de_it 0x11801010000000000000000000000000000000009000205010201010200040002050404030203010400050202010009, de_it 0x10001000101130102010901180401010f01010102010102090118020101130109011803010209011801020301010e0101010d01010113010e01090118040101130109011803010209010a01180301020901180201010f010100010001020901180201010f0101010a0101010901010118010f02020113010e0109010101180501010601010105010102130118010f0302011301090101011804010102010101010101011301020109011804010000000000000000000000000001000127000205010201010200040002020201010003020000020202010100030400010007, de_it 0x80004000000000000000280ff030009, de_it 0x10901010117010f0201010901010117010f0201020901010217020f0201000000000000000000000000000000000e0002040100040401020400020006, de_it 0x80004000000000000000282ff030009, de_it 0x80004000000000000000284ff030009, de_it 0x8000600000000000000028cff030009, de_it 0x8000600000000000000028eff030009, de_it 0x80006000000000000000290ff030009, de_it 0x8000404010002040100020501030604000000000000000292ff040009, de_it 0x11a0101011901010213011a020200000000000000000700000003, de_it 0x6010000, de_it 0x2, de_it 0x2010000, de_it 0x2, de_it 0x4010000, de_it 0x10d0101011201010200000001, de_it 0x80006000000000000000280ff030009, de_it 0x1180101010e01010101010101050101011201010500000005, de_it 0x4010000, de_it 0x2, de_it 0x4010000, de_it 0x10d0101011201010200000001, de_it 0x10f0101011a021702020200000001, de_it 0x80006000000000000000284ff030009, de_it 0x8000202020101000301000000000000000286ff020009, de_it 0x11a01010119010101180101010f0101011a02170202000000000700000003, de_it 0x80006000000000000000220ff030009, de_it 0x10001000101000101010f010101020101011a010101120101011a021702020302010e0101010d0101010c010101120101010a011a0201011a01010119010100010001011a02170202010f0101010a0101011a010201190102010701010106010101050101021301190202010101120201010201010101010101000101000000000000000000000000000100012700020503040200040401020000020202010100030400010007]
set_option maxRecDepth 100000 in
theorem tR_385 : tf_go tV_385 tK_385.2.1.1 tK_385.2.1.2 none tH_385_0 [(tK_385.2.1, tK_385.2.2.2.1, 0, tc_args 0 tK_385.2.2.1, [], ([], 0), ([], 0))] = true := by decide +kernel
set_option maxRecDepth 100000 in
theorem tT_385 {RO : am_O} {sa : Nat → Nat} (h_384 : tc_true (aP sa) tp_G RO tp_T tp_Z tK_384) : tc_true (aP sa) tp_G RO tp_T tp_Z tK_385 := by
  have hC : ∀ c ∈ tC_385, tc_true (aP sa) tp_G RO tp_T tp_Z c := by
    intro c hc
    have hc : c ∈ ([tK_384] : List tc_Ct) := hc
    rcases List.mem_cons.mp hc with rfl | hc
    · exact h_384
    cases hc
  have hP : ∀ p ∈ tJ_385, ∃ hs, tc_plk (aP sa, tV_385.2) p hs = true := by
    intro p hp
    have hp : p ∈ ([] : List tc_Pl) := hp
    cases hp
  exact tc_main (mt := aM_13.1) (hs := tH_385_0) (PL := tJ_385) ⟨tp_G_ok, tMs_385 _, hC, tp_L_ok, tp_G_re⟩ (show am_meth (aP sa) 13 = some aM_13.1 from rfl) aX_13 (by decide +kernel) hP ((tc_go_sa (aP_sa sa _)).trans ((tf_go_s tHC_385).trans tR_385))
noncomputable def tK_386 : tc_Ct := (144, (3, 2), [(2, ([], 0), 0), (0, ([(0, 1)], 0), 0)], ([([(0, -1)], 2503), ([(0, 1)], -3), ([(1, -1)], 2802), ([(1, 1)], -3), ([(2, -1)], 6000), ([(2, 1)], -8), ([(0, -1), (1, 1)], 0), ([(0, -1), (2, 1)], 0), ([(1, -1), (2, 1)], 0)], [(0, 191), (1, 193)], [(1, ([(2, 1)], 0))], [(0, 0, (2, ([], 0), 1)), (0, 1, (0, ([(1, 1)], 0), 0))], [], [], [(1024, [0], []), (1016, [], []), (1088, [], [])]), [(191, 1), (193, 0)], [((3, 2), ([([(0, -1)], 2503), ([(0, 1)], -3), ([(1, -1)], 2802), ([(1, 1)], -3), ([(2, -1)], 6000), ([(2, 1)], -8), ([(0, -1), (1, 1)], 0), ([(0, -1), (2, 1)], 0), ([(1, -1), (2, 1)], 0)], [], [(1, ([(2, 1)], 0))], [(0, 1, (0, ([(0, -1), (1, 1)], 0), 0))], [], [], [(1024, [0], [])]), none, ([], 0), ([], 0))])
noncomputable def tJ_386 : List tc_Pl := []
noncomputable def tC_386 : List tc_Ct := []
def tM_386 (z : Nat) : Option am_Meth := none
set_option maxRecDepth 100000 in
theorem tMs_386 (sa : Nat → Nat) : ∀ z mz, tM_386 z = some mz → am_meth (aP sa) z = some mz := fun z mz h => by cases h
noncomputable def tV_386 : tc_Ev := (aQ, tp_T, tp_G.2, tp_Z, tM_386, tC_386, tp_L, tK_386.2.2.2.2.1, aM_144.1, aW_144, tK_386.2.1, tK_386.2.2.2.2.2, tJ_386)
theorem tE_386 : tK_386.2.2.2.2.2.all (tc_wex tK_386.2.1.1 tK_386.2.1.2) = true := by decide +kernel
theorem tSS_386 : tC_386.all (fun c => tw_mg tK_386.2.2.2.2.1 c.2.2.2.2.1) = true := by decide +kernel
theorem tHC_386 : ∀ c ∈ tC_386, c.2.2.2.2.1.all tK_386.2.2.2.2.1.contains = true ∧ c.2.2.2.2.2.all (tc_wex c.2.1.1 c.2.1.2) = true := tf_hc tSS_386 (by
  intro c hc
  have hc : c ∈ ([] : List tc_Ct) := hc
  cases hc)
noncomputable def tH_386_0 : List tc_It := [de_it 0x6010000, de_it 0x2, de_it 0x109010602010200000005, de_it 0x10a0101020100000200000005, de_it 0x4010000, de_it 0x2, de_it 0x4010000, de_it 0x2, de_it 0x4010000, de_it 0x2, de_it 0x2010000, de_it 0x10201010201010601010200000001, de_it 0x1080101020101080101010101010001010601010500000005, de_it 0x4010000, de_it 0x2, de_it 0x2010000, de_it 0x10201010201010601010200000001, de_it 0x800020101000201000000000000000286ff020009, de_it 0x10501010104010101080101020101020101020101060101000000000700000003, de_it 0x1080101010701010106010101050101010401010103010101020101010101010100010100000000000000000000000000010001110000010007]
set_option maxRecDepth 100000 in
theorem tR_386 : tf_go tV_386 tK_386.2.1.1 tK_386.2.1.2 none tH_386_0 [(tK_386.2.1, tK_386.2.2.2.1, 0, tc_args 0 tK_386.2.2.1, [], ([], 0), ([], 0))] = true := by decide +kernel
set_option maxRecDepth 100000 in
theorem tT_386 {RO : am_O} {sa : Nat → Nat} : tc_true (aP sa) tp_G RO tp_T tp_Z tK_386 := by
  have hC : ∀ c ∈ tC_386, tc_true (aP sa) tp_G RO tp_T tp_Z c := by
    intro c hc
    have hc : c ∈ ([] : List tc_Ct) := hc
    cases hc
  have hP : ∀ p ∈ tJ_386, ∃ hs, tc_plk (aP sa, tV_386.2) p hs = true := by
    intro p hp
    have hp : p ∈ ([] : List tc_Pl) := hp
    cases hp
  exact tc_main (mt := aM_144.1) (hs := tH_386_0) (PL := tJ_386) ⟨tp_G_ok, tMs_386 _, hC, tp_L_ok, tp_G_re⟩ (show am_meth (aP sa) 144 = some aM_144.1 from rfl) aX_144 (by decide +kernel) hP ((tc_go_sa (aP_sa sa _)).trans ((tf_go_s tHC_386).trans tR_386))
noncomputable def tK_387 : tc_Ct := (11, (3, 2), [(2, ([], 0), 0), (0, ([], 1), 0)], ([([(0, -1)], 303), ([(0, 1)], -3), ([(1, -1)], 640), ([(1, 1)], -8), ([(2, -1)], 255), ([(2, 1)], 0), ([(0, -1), (1, 1)], 0)], [(0, 189), (1, 194)], [(1, ([(1, 1)], 0))], [(0, 0, (2, ([], 0), 1)), (0, 1, (0, ([(0, 1)], 0), 0))], [(1, ([], 1), ([(2, 1)], 0))], [], [(1024, [0], []), (1016, [], []), (1088, [], [])]), [], [((3, 2), ([([(0, -1)], 303), ([(0, 1)], -3), ([(1, -1)], 640), ([(1, 1)], -8), ([(2, -1)], 255), ([(2, 1)], 0), ([(0, -1), (1, 1)], 0)], [], [(1, ([(1, 1)], 0))], [], [], [], []), some (0, ([(2, 1)], 0), 0), ([], 0), ([], 0))])
noncomputable def tJ_387 : List tc_Pl := []
noncomputable def tC_387 : List tc_Ct := []
def tM_387 (z : Nat) : Option am_Meth := none
set_option maxRecDepth 100000 in
theorem tMs_387 (sa : Nat → Nat) : ∀ z mz, tM_387 z = some mz → am_meth (aP sa) z = some mz := fun z mz h => by cases h
noncomputable def tV_387 : tc_Ev := (aQ, tp_T, tp_G.2, tp_Z, tM_387, tC_387, tp_L, tK_387.2.2.2.2.1, aM_11.1, aW_11, tK_387.2.1, tK_387.2.2.2.2.2, tJ_387)
theorem tE_387 : tK_387.2.2.2.2.2.all (tc_wex tK_387.2.1.1 tK_387.2.1.2) = true := by decide +kernel
theorem tSS_387 : tC_387.all (fun c => tw_mg tK_387.2.2.2.2.1 c.2.2.2.2.1) = true := by decide +kernel
theorem tHC_387 : ∀ c ∈ tC_387, c.2.2.2.2.1.all tK_387.2.2.2.2.1.contains = true ∧ c.2.2.2.2.2.all (tc_wex c.2.1.1 c.2.1.2) = true := tf_hc tSS_387 (by
  intro c hc
  have hc : c ∈ ([] : List tc_Ct) := hc
  cases hc)
noncomputable def tH_387_0 : List tc_It := [de_it 0x2010000, de_it 0x10701010300000001, de_it 0x4010000, de_it 0x2, de_it 0x108010102010300000001, de_it 0x2010000, de_it 0x2, de_it 0x2010000, de_it 0x103010100010200000002, de_it 0x2010000, de_it 0x1060101010501010104010101030101010201010101010101000101000000000000000000000000000100010f0000010007]
set_option maxRecDepth 100000 in
theorem tR_387 : tf_go tV_387 tK_387.2.1.1 tK_387.2.1.2 none tH_387_0 [(tK_387.2.1, tK_387.2.2.2.1, 0, tc_args 0 tK_387.2.2.1, [], ([], 0), ([], 0))] = true := by decide +kernel
set_option maxRecDepth 100000 in
theorem tT_387 {RO : am_O} {sa : Nat → Nat} : tc_true (aP sa) tp_G RO tp_T tp_Z tK_387 := by
  have hC : ∀ c ∈ tC_387, tc_true (aP sa) tp_G RO tp_T tp_Z c := by
    intro c hc
    have hc : c ∈ ([] : List tc_Ct) := hc
    cases hc
  have hP : ∀ p ∈ tJ_387, ∃ hs, tc_plk (aP sa, tV_387.2) p hs = true := by
    intro p hp
    have hp : p ∈ ([] : List tc_Pl) := hp
    cases hp
  exact tc_main (mt := aM_11.1) (hs := tH_387_0) (PL := tJ_387) ⟨tp_G_ok, tMs_387 _, hC, tp_L_ok, tp_G_re⟩ (show am_meth (aP sa) 11 = some aM_11.1 from rfl) aX_11 (by decide +kernel) hP ((tc_go_sa (aP_sa sa _)).trans ((tf_go_s tHC_387).trans tR_387))
