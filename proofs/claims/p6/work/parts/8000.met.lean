/-! contracts -/
noncomputable def tK_0 : tc_Ct := (8, (2, 1), [(2, ([], 0), 0), (0, ([(0, 1)], 0), 0)], ([([(0, -1)], 93910), ([(0, 1)], -16), ([(1, -1)], 46955), ([(1, 1)], -8), ([(0, -1), (1, 1)], 46955), ([(0, 1), (1, -1)], -8)], [(0, 193)], [(0, ([(1, 1)], 0))], [], [], [], [(1016, [], []), (1088, [], [])]), [(193, 0), (193, 1000)], [((2, 2), ([([(0, -1)], 93910), ([(0, 1)], -16), ([(1, -1)], 46955), ([(1, 1)], -8), ([(0, -1), (1, 1)], 46955), ([(0, 1), (1, -1)], -8)], [(1, 193)], [(0, ([(1, 1)], 0)), (1, ([(0, 1)], 0))], [], [], [], []), some (2, ([], 0), 1), ([], 1), ([(0, 1)], 0))])
noncomputable def tJ_0 : List tc_Pl := []
noncomputable def tC_0 : List tc_Ct := []
def tM_0 (z : Nat) : Option am_Meth := none
set_option maxRecDepth 100000 in
theorem tMs_0 (sa : Nat → Nat) : ∀ z mz, tM_0 z = some mz → am_meth (aP sa) z = some mz := fun z mz h => by cases h
noncomputable def tV_0 : tc_Ev := (aQ, tp_T, tp_G.2, tp_Z, tM_0, tC_0, tp_L, tK_0.2.2.2.2.1, aM_8.1, aW_8, tK_0.2.1, tK_0.2.2.2.2.2, tJ_0)
theorem tE_0 : tK_0.2.2.2.2.2.all (tc_wex tK_0.2.1.1 tK_0.2.1.2) = true := by decide +kernel
theorem tSS_0 : tC_0.all (fun c => tw_mg tK_0.2.2.2.2.1 c.2.2.2.2.1) = true := by decide +kernel
theorem tHC_0 : ∀ c ∈ tC_0, c.2.2.2.2.1.all tK_0.2.2.2.2.1.contains = true ∧ c.2.2.2.2.2.all (tc_wex c.2.1.1 c.2.1.2) = true := tf_hc tSS_0 (by
  intro c hc
  have hc : c ∈ ([] : List tc_Ct) := hc
  cases hc)
noncomputable def tH_0_0 : List tc_It := [de_it 0x4010000, de_it 0x2, de_it 0x105010101070105020100000300000001, de_it 0x2010000, de_it 0x100010101010101010001010101010104000000000000000182ff010004, de_it 0xc010000, de_it 0x2, de_it 0x2010000, de_it 0x107010502010200000005, de_it 0x1050101000100010001010301010500000005, de_it 0x2010000, de_it 0x10501010104010101030101010201010101010101000101000000000000000000000000000100010e000200020007]
set_option maxRecDepth 100000 in
theorem tR_0 : tf_go tV_0 tK_0.2.1.1 tK_0.2.1.2 none tH_0_0 [(tK_0.2.1, tK_0.2.2.2.1, 0, tc_args 0 tK_0.2.2.1, [], ([], 0), ([], 0))] = true := by decide +kernel
set_option maxRecDepth 100000 in
theorem tT_0 {RO : am_O} {sa : Nat → Nat} : tc_true (aP sa) tp_G RO tp_T tp_Z tK_0 := by
  have hC : ∀ c ∈ tC_0, tc_true (aP sa) tp_G RO tp_T tp_Z c := by
    intro c hc
    have hc : c ∈ ([] : List tc_Ct) := hc
    cases hc
  have hP : ∀ p ∈ tJ_0, ∃ hs, tc_plk (aP sa, tV_0.2) p hs = true := by
    intro p hp
    have hp : p ∈ ([] : List tc_Pl) := hp
    cases hp
  exact tc_main (mt := aM_8.1) (hs := tH_0_0) (PL := tJ_0) ⟨tp_G_ok, tMs_0 _, hC, tp_L_ok, tp_G_re⟩ (show am_meth (aP sa) 8 = some aM_8.1 from rfl) aX_8 (by decide +kernel) hP ((tc_go_sa (aP_sa sa _)).trans ((tf_go_s tHC_0).trans tR_0))
noncomputable def tK_1 : tc_Ct := (7, (4, 2), [(2, ([], 0), 0), (0, ([(0, 1)], 0), 0)], ([([(0, -1)], 2147483647), ([(0, 1)], 2147483648), ([(1, -1)], 799), ([(1, 1)], 0), ([(2, -1)], 1600), ([(2, 1)], -64), ([(3, -1)], 8000000)], [(0, 177), (1, 193)], [(1, ([(2, 1)], 0))], [(0, 0, (2, ([], 0), 1)), (0, 1, (0, ([(1, 1)], 0), 0))], [], [], [(1016, [], []), (1088, [], []), (1136, [], [([(3, 1)], 0)])]), [(177, 0), (177, 1), (193, 0), (193, 1000)], [((7, 2), ([([(0, -1)], 2147483647), ([(0, 1)], 2147483648), ([(1, -1)], 799), ([(1, 1)], 0), ([(2, -1)], 1600), ([(2, 1)], -64), ([(3, -1)], 8000000), ([(4, -1)], 1), ([(4, 1)], 0), ([(5, -1)], 1598), ([(5, 1)], 0), ([(6, -1)], 8000000), ([(1, -1), (2, 1)], 0), ([(4, -16), (5, 1)], 0), ([(3, 1), (5, -1), (6, -1)], 0)], [], [(1, ([(2, 1)], 0))], [(0, 1, (0, ([(1, 1)], 1), 0))], [], [], [(1136, [], [([(6, 1)], 0)])]), none, ([(4, 1)], 0), ([(5, 1)], 0))])
noncomputable def tJ_1 : List tc_Pl := []
noncomputable def tC_1 : List tc_Ct := [tK_0]
def tM_1 (z : Nat) : Option am_Meth := if z = 8 then some aM_8.1 else none
set_option maxRecDepth 100000 in
theorem tMs_1 (sa : Nat → Nat) : ∀ z mz, tM_1 z = some mz → am_meth (aP sa) z = some mz := by
  intro z mz h
  unfold tM_1 at h
  rcases de_m h with ⟨rfl, rfl⟩ | h
  · exact (show am_meth (aP sa) 8 = some aM_8.1 from rfl)
  cases h
noncomputable def tV_1 : tc_Ev := (aQ, tp_T, tp_G.2, tp_Z, tM_1, tC_1, tp_L, tK_1.2.2.2.2.1, aM_7.1, aW_7, tK_1.2.1, tK_1.2.2.2.2.2, tJ_1)
theorem tE_1 : tK_1.2.2.2.2.2.all (tc_wex tK_1.2.1.1 tK_1.2.1.2) = true := by decide +kernel
theorem tSS_1 : tC_1.all (fun c => tw_mg tK_1.2.2.2.2.1 c.2.2.2.2.1) = true := by decide +kernel
theorem tHC_1 : ∀ c ∈ tC_1, c.2.2.2.2.1.all tK_1.2.2.2.2.1.contains = true ∧ c.2.2.2.2.2.all (tc_wex c.2.1.1 c.2.1.2) = true := tf_hc tSS_1 (by
  intro c hc
  have hc : c ∈ ([tK_0] : List tc_Ct) := hc
  rcases List.mem_cons.mp hc with rfl | hc
  · exact tE_0
  cases hc)
noncomputable def tH_1_0 : List tc_It := [de_it 0x2010000, de_it 0x2, de_it 0x10010, de_it 0x2010000, de_it 0x10a0102020100000300000001, de_it 0x2010000, de_it 0x2, de_it 0x2010000, de_it 0x2, de_it 0x2, de_it 0x300000001, de_it 0x2010000, de_it 0x2, de_it 0x2010000, de_it 0x2, de_it 0x6010000, de_it 0x10d0101010c0101010b01010103010104000201010100010003, de_it 0x4010000, de_it 0x2, de_it 0x2010000, de_it 0x1020101010301010200000001, de_it 0x105010101040101010b01010102010101030101000000000700000003, de_it 0x10001010b010101060101000100010001000101060101010501010104010101030101010201010101010101000101000000000000000000000000000100011700020301000000000300010007, de_it 0x4010000, de_it 0x2, de_it 0x4010000, de_it 0x2, de_it 0x2, de_it 0x20b02020201020501010200000001, de_it 0x1050101010b0102020101050101010b0102020102050101020b02020201000000000000000000000000000000000e0002020100040201020200020006, de_it 0x80004020100020201000203010304020000040009, de_it 0x2050101020b0202020101050107020100000000000000000700000003, de_it 0x2010000, de_it 0x2, de_it 0x2010000, de_it 0x2, de_it 0x6010000, de_it 0x1130101011201010105010702010105010b020104000201010100010003, de_it 0x4010000, de_it 0x2, de_it 0x2010000, de_it 0x10201010105010b02010200000001, de_it 0x2050101020b02020201010501070201010201010105010b0201000000000700000003, de_it 0x1020501010107010101060205020102050101020b02020201000100010106010101050101010b010202010105010b020101020101010101010100010100000000000000000000000000010001170002030302020004020102000300010007]
set_option maxRecDepth 100000 in
theorem tR_1 : tf_go tV_1 tK_1.2.1.1 tK_1.2.1.2 none tH_1_0 [(tK_1.2.1, tK_1.2.2.2.1, 0, tc_args 0 tK_1.2.2.1, [], ([], 0), ([], 0))] = true := by decide +kernel
set_option maxRecDepth 100000 in
theorem tT_1 {RO : am_O} {sa : Nat → Nat} (h_0 : tc_true (aP sa) tp_G RO tp_T tp_Z tK_0) : tc_true (aP sa) tp_G RO tp_T tp_Z tK_1 := by
  have hC : ∀ c ∈ tC_1, tc_true (aP sa) tp_G RO tp_T tp_Z c := by
    intro c hc
    have hc : c ∈ ([tK_0] : List tc_Ct) := hc
    rcases List.mem_cons.mp hc with rfl | hc
    · exact h_0
    cases hc
  have hP : ∀ p ∈ tJ_1, ∃ hs, tc_plk (aP sa, tV_1.2) p hs = true := by
    intro p hp
    have hp : p ∈ ([] : List tc_Pl) := hp
    cases hp
  exact tc_main (mt := aM_7.1) (hs := tH_1_0) (PL := tJ_1) ⟨tp_G_ok, tMs_1 _, hC, tp_L_ok, tp_G_re⟩ (show am_meth (aP sa) 7 = some aM_7.1 from rfl) aX_7 (by decide +kernel) hP ((tc_go_sa (aP_sa sa _)).trans ((tf_go_s tHC_1).trans tR_1))
noncomputable def tK_2 : tc_Ct := (6, (2, 1), [(2, ([], 0), 0), (0, ([(0, 1)], 0), 0), (1, ([], 0), 0)], ([([(0, -1)], 2147483647), ([(0, 1)], 2147483648), ([(1, -1)], 8000000), ([(1, 1)], 0)], [(0, 165)], [], [], [], [], [(1016, [], []), (1024, [], []), (1088, [], []), (1096, [], []), (1136, [], [([(1, 1)], 0)])]), [(177, 0), (177, 1), (193, 0), (193, 1000)], [((6, 1), ([([(0, -1)], 2147483647), ([(0, 1)], 2147483648), ([(1, -1)], 8000000), ([(1, 1)], 0), ([(2, -1)], 800), ([(2, 1)], 3), ([(3, 1)], 0), ([(4, 1)], 0), ([(5, -1)], 8000000), ([(3, -16), (4, 1)], 0), ([(1, 1), (4, -1), (5, -1)], 0)], [], [], [], [], [], [(1136, [], [([(5, 1)], 0)])]), some (0, ([(2, 1)], 0), 0), ([(3, 1)], 0), ([(4, 1)], 0))])
noncomputable def tL_2_0 : tc_Pl := de_pl 0x30cf8ff00020202010000000000030cf8ff0003000205010002040100000002020100040000000102000000020003240002060101000000000000000470ff00000000000000000448ff00000000000000000440ff00000000000000000400ff000000000000000003f8ff05000000000203010001010100000201000200b101a5000200010601050201030002051f0402000203020202000000000000063eff01030102020101020200020000000000f42400ff0106010002050100020401000203010000000000000640ff010301020202010e010201000201010000000000f42400ff0101010102000110010001000201010000000000f42400ff0101010000000100000000ff02000100000000fffffffeff010001140207
noncomputable def tJ_2 : List tc_Pl := [tL_2_0]
noncomputable def tC_2 : List tc_Ct := [tK_1]
def tM_2 (z : Nat) : Option am_Meth := if z = 7 then some aM_7.1 else none
set_option maxRecDepth 100000 in
theorem tMs_2 (sa : Nat → Nat) : ∀ z mz, tM_2 z = some mz → am_meth (aP sa) z = some mz := by
  intro z mz h
  unfold tM_2 at h
  rcases de_m h with ⟨rfl, rfl⟩ | h
  · exact (show am_meth (aP sa) 7 = some aM_7.1 from rfl)
  cases h
noncomputable def tV_2 : tc_Ev := (aQ, tp_T, tp_G.2, tp_Z, tM_2, tC_2, tp_L, tK_2.2.2.2.2.1, aM_6.1, aW_6, tK_2.2.1, tK_2.2.2.2.2.2, tJ_2)
theorem tE_2 : tK_2.2.2.2.2.2.all (tc_wex tK_2.2.1.1 tK_2.2.1.2) = true := by decide +kernel
theorem tSS_2 : tC_2.all (fun c => tw_mg tK_2.2.2.2.2.1 c.2.2.2.2.1) = true := by decide +kernel
theorem tHC_2 : ∀ c ∈ tC_2, c.2.2.2.2.1.all tK_2.2.2.2.2.1.contains = true ∧ c.2.2.2.2.2.all (tc_wex c.2.1.1 c.2.1.2) = true := tf_hc tSS_2 (by
  intro c hc
  have hc : c ∈ ([tK_1] : List tc_Ct) := hc
  rcases List.mem_cons.mp hc with rfl | hc
  · exact tE_1
  cases hc)
noncomputable def tH_2_0 : List tc_It := [de_it 0x4010000, de_it 0x300000001, de_it 0x2010000, de_it 0x10001010201010001000100010001010301010102010101010101010401010000000000000000000000000001000113000201010000000001000400010007, de_it 0x4010000, de_it 0x300000001, de_it 0x2010000, de_it 0x2, de_it 0x2, de_it 0x2010000, de_it 0x107010502010106010402010200000001, de_it 0x2010000, de_it 0x300000001, de_it 0x4010000, de_it 0x1050101010401010200000001, de_it 0x2010000, de_it 0x1000101060104020101080101000101020101000100010106010101040108020101040101010501010103010101020101010401010105010101030101010201010104010101050101000000000000000000000000000100011c00020101000000000002020101020001050200020008, de_it 0x2010000, de_it 0x10001010201010001000100010001010301010102010101040101010501010000000000000000000000000001000113000201010000000005000400010007, de_it 0x2010000, de_it 0x10001010201010001000100010001010301010102010101050101010001010000000000000000000000000001000113000201010000000001000400010007]
set_option maxRecDepth 100000 in
theorem tR_2 : tf_go tV_2 tK_2.2.1.1 tK_2.2.1.2 none tH_2_0 [(tK_2.2.1, tK_2.2.2.2.1, 0, tc_args 0 tK_2.2.2.1, [], ([], 0), ([], 0))] = true := by decide +kernel
noncomputable def tH_2_1 : List tc_It := [de_it 0x2010000, de_it 0x300000001, de_it 0x2010000, de_it 0x2, de_it 0x2, de_it 0x113010101120101010e0101010d0101010c0101011101140201010a0101010301010102010101050101010401010000000000000000000000000001000113000206010002050100020401000203010400010007, de_it 0x2010000, de_it 0x2, de_it 0x6010000, de_it 0x8080101081401010200000001, de_it 0x2010000, de_it 0x101, de_it 0x202000f, de_it 0x4010011, de_it 0x2010010, de_it 0x10e0101011b0101011a0101010b01010114011002010115010101160101000000000000000000000000000000010f0002060100020801000203010002070104040200030006, de_it 0x54524e4c4a48463c36343228262422201e1c1a1816100a0806041a000d, de_it 0x1040101010e01010200000001, de_it 0x2010000, de_it 0x119010d02010118010c0201010b0101010a010101090101011701010116010702010114010602010105010101120101010e010101040101010101010100010101030101010201010101010101000101010301010102010100000000010e0101000100000001000100011c00020b0100020a0205020002090204020202030101020201050200020008]
set_option maxRecDepth 100000 in
theorem tP_2_0 : tf_plk tV_2 tL_2_0 tH_2_1 = true := by decide +kernel
set_option maxRecDepth 100000 in
theorem tT_2 {RO : am_O} {sa : Nat → Nat} (h_1 : tc_true (aP sa) tp_G RO tp_T tp_Z tK_1) : tc_true (aP sa) tp_G RO tp_T tp_Z tK_2 := by
  have hC : ∀ c ∈ tC_2, tc_true (aP sa) tp_G RO tp_T tp_Z c := by
    intro c hc
    have hc : c ∈ ([tK_1] : List tc_Ct) := hc
    rcases List.mem_cons.mp hc with rfl | hc
    · exact h_1
    cases hc
  have hP : ∀ p ∈ tJ_2, ∃ hs, tc_plk (aP sa, tV_2.2) p hs = true := by
    intro p hp
    have hp : p ∈ ([tL_2_0] : List tc_Pl) := hp
    rcases List.mem_cons.mp hp with rfl | hp
    · exact ⟨_, (tc_plk_sa (aP_sa sa _)).trans ((tf_plk_s tHC_2).trans tP_2_0)⟩
    cases hp
  exact tc_main (mt := aM_6.1) (hs := tH_2_0) (PL := tJ_2) ⟨tp_G_ok, tMs_2 _, hC, tp_L_ok, tp_G_re⟩ (show am_meth (aP sa) 6 = some aM_6.1 from rfl) aX_6 (by decide +kernel) hP ((tc_go_sa (aP_sa sa _)).trans ((tf_go_s tHC_2).trans tR_2))
noncomputable def tK_3 : tc_Ct := (9, (1, 1), [(2, ([], 0), 0), (0, ([(0, 1)], 0), 0)], ([([(0, -1)], 2147483647), ([(0, 1)], 2147483648)], [(0, 165)], [], [], [], [], [(1016, [], []), (1024, [], []), (1088, [], []), (1096, [], [])]), [(177, 1)], [((2, 1), ([([(0, -1)], 2147483647), ([(0, 1)], 2147483648), ([(1, -1)], 800), ([(1, 1)], 1)], [], [], [], [], [], []), some (0, ([(1, 1)], 0), 0), ([], 0), ([], 0))])
noncomputable def tJ_3 : List tc_Pl := []
noncomputable def tC_3 : List tc_Ct := []
def tM_3 (z : Nat) : Option am_Meth := none
set_option maxRecDepth 100000 in
theorem tMs_3 (sa : Nat → Nat) : ∀ z mz, tM_3 z = some mz → am_meth (aP sa) z = some mz := fun z mz h => by cases h
noncomputable def tV_3 : tc_Ev := (aQ, tp_T, tp_G.2, tp_Z, tM_3, tC_3, tp_L, tK_3.2.2.2.2.1, aM_9.1, aW_9, tK_3.2.1, tK_3.2.2.2.2.2, tJ_3)
theorem tE_3 : tK_3.2.2.2.2.2.all (tc_wex tK_3.2.1.1 tK_3.2.1.2) = true := by decide +kernel
theorem tSS_3 : tC_3.all (fun c => tw_mg tK_3.2.2.2.2.1 c.2.2.2.2.1) = true := by decide +kernel
theorem tHC_3 : ∀ c ∈ tC_3, c.2.2.2.2.1.all tK_3.2.2.2.2.1.contains = true ∧ c.2.2.2.2.2.all (tc_wex c.2.1.1 c.2.1.2) = true := tf_hc tSS_3 (by
  intro c hc
  have hc : c ∈ ([] : List tc_Ct) := hc
  cases hc)
noncomputable def tH_3_0 : List tc_It := [de_it 0x2010000, de_it 0x300000001, de_it 0x2010000, de_it 0x100010101010101020101000000000000000000000000000100010c01000100010007, de_it 0x4010000, de_it 0x2, de_it 0x2, de_it 0x300000001, de_it 0x2010000, de_it 0x2, de_it 0x2, de_it 0x2010000, de_it 0x10401020201010501010200000001, de_it 0x4010000, de_it 0x2, de_it 0x2010000, de_it 0x202000f, de_it 0x4010011, de_it 0x2010010, de_it 0x10a01010109010101050108020101050104020101020101000000000700000003, de_it 0x2010000, de_it 0x105010101040102020101020101010501040201000000000000000000000000000100010c0002010100020100010007, de_it 0x2010000, de_it 0x1000101030105020101000101000000000000000000000000000100010c01000100010007]
set_option maxRecDepth 100000 in
theorem tR_3 : tf_go tV_3 tK_3.2.1.1 tK_3.2.1.2 none tH_3_0 [(tK_3.2.1, tK_3.2.2.2.1, 0, tc_args 0 tK_3.2.2.1, [], ([], 0), ([], 0))] = true := by decide +kernel
set_option maxRecDepth 100000 in
theorem tT_3 {RO : am_O} {sa : Nat → Nat} : tc_true (aP sa) tp_G RO tp_T tp_Z tK_3 := by
  have hC : ∀ c ∈ tC_3, tc_true (aP sa) tp_G RO tp_T tp_Z c := by
    intro c hc
    have hc : c ∈ ([] : List tc_Ct) := hc
    cases hc
  have hP : ∀ p ∈ tJ_3, ∃ hs, tc_plk (aP sa, tV_3.2) p hs = true := by
    intro p hp
    have hp : p ∈ ([] : List tc_Pl) := hp
    cases hp
  exact tc_main (mt := aM_9.1) (hs := tH_3_0) (PL := tJ_3) ⟨tp_G_ok, tMs_3 _, hC, tp_L_ok, tp_G_re⟩ (show am_meth (aP sa) 9 = some aM_9.1 from rfl) aX_9 (by decide +kernel) hP ((tc_go_sa (aP_sa sa _)).trans ((tf_go_s tHC_3).trans tR_3))
noncomputable def tK_4 : tc_Ct := (11, (3, 2), [(2, ([], 0), 0), (0, ([(0, 1)], 0), 0)], ([([(0, -1)], 999), ([(0, 1)], 0), ([(1, -1)], 1000), ([(1, 1)], -1), ([(2, -1)], 2000), ([(2, 1)], -8), ([(0, -1), (1, 1)], -1), ([(0, -1), (2, 1)], -1), ([(1, -1), (2, 1)], 0)], [(0, 178), (1, 193)], [(1, ([(2, 1)], 0))], [(0, 0, (2, ([], 0), 1)), (0, 1, (0, ([(1, 1)], 0), 0))], [], [], [(1016, [], []), (1088, [], [])]), [], [((4, 2), ([([(0, -1)], 999), ([(0, 1)], 0), ([(1, -1)], 1000), ([(1, 1)], -1), ([(2, -1)], 2000), ([(2, 1)], -8), ([(3, -1)], 255), ([(3, 1)], 0), ([(0, -1), (1, 1)], -1), ([(0, -1), (2, 1)], -1), ([(1, -1), (2, 1)], 0)], [], [(1, ([(2, 1)], 0))], [], [], [], []), some (0, ([(3, 1)], 0), 0), ([], 0), ([], 0))])
noncomputable def tJ_4 : List tc_Pl := []
noncomputable def tC_4 : List tc_Ct := []
def tM_4 (z : Nat) : Option am_Meth := none
set_option maxRecDepth 100000 in
theorem tMs_4 (sa : Nat → Nat) : ∀ z mz, tM_4 z = some mz → am_meth (aP sa) z = some mz := fun z mz h => by cases h
noncomputable def tV_4 : tc_Ev := (aQ, tp_T, tp_G.2, tp_Z, tM_4, tC_4, tp_L, tK_4.2.2.2.2.1, aM_11.1, aW_11, tK_4.2.1, tK_4.2.2.2.2.2, tJ_4)
theorem tE_4 : tK_4.2.2.2.2.2.all (tc_wex tK_4.2.1.1 tK_4.2.1.2) = true := by decide +kernel
theorem tSS_4 : tC_4.all (fun c => tw_mg tK_4.2.2.2.2.1 c.2.2.2.2.1) = true := by decide +kernel
theorem tHC_4 : ∀ c ∈ tC_4, c.2.2.2.2.1.all tK_4.2.2.2.2.1.contains = true ∧ c.2.2.2.2.2.all (tc_wex c.2.1.1 c.2.1.2) = true := tf_hc tSS_4 (by
  intro c hc
  have hc : c ∈ ([] : List tc_Ct) := hc
  cases hc)
noncomputable def tH_4_0 : List tc_It := [de_it 0x2010000, de_it 0x109010102010300000001, de_it 0x4010000, de_it 0x2, de_it 0x10a010602010300000001, de_it 0x2010000, de_it 0x2, de_it 0x2010000, de_it 0x10701010101010102000200010100010002, de_it 0x2010000, de_it 0x10801010107010101060101010d0101010e01010105010101040101010301010102010101010101010001010000000000000000000000000001000113000203010100010007]
set_option maxRecDepth 100000 in
theorem tR_4 : tf_go tV_4 tK_4.2.1.1 tK_4.2.1.2 none tH_4_0 [(tK_4.2.1, tK_4.2.2.2.1, 0, tc_args 0 tK_4.2.2.1, [], ([], 0), ([], 0))] = true := by decide +kernel
set_option maxRecDepth 100000 in
theorem tT_4 {RO : am_O} {sa : Nat → Nat} : tc_true (aP sa) tp_G RO tp_T tp_Z tK_4 := by
  have hC : ∀ c ∈ tC_4, tc_true (aP sa) tp_G RO tp_T tp_Z c := by
    intro c hc
    have hc : c ∈ ([] : List tc_Ct) := hc
    cases hc
  have hP : ∀ p ∈ tJ_4, ∃ hs, tc_plk (aP sa, tV_4.2) p hs = true := by
    intro p hp
    have hp : p ∈ ([] : List tc_Pl) := hp
    cases hp
  exact tc_main (mt := aM_11.1) (hs := tH_4_0) (PL := tJ_4) ⟨tp_G_ok, tMs_4 _, hC, tp_L_ok, tp_G_re⟩ (show am_meth (aP sa) 11 = some aM_11.1 from rfl) aX_11 (by decide +kernel) hP ((tc_go_sa (aP_sa sa _)).trans ((tf_go_s tHC_4).trans tR_4))
noncomputable def tK_5 : tc_Ct := (10, (1, 1), [(2, ([], 0), 0), (0, ([(0, 1)], 0), 0)], ([([(0, -1)], 2147483647), ([(0, 1)], 2147483648)], [(0, 165)], [], [], [], [], [(1016, [], []), (1024, [], []), (1088, [], []), (1096, [], [])]), [], [((2, 1), ([([(0, -1)], 2147483647), ([(0, 1)], 2147483648), ([(1, -1)], 1000), ([(1, 1)], 1)], [], [], [], [], [], []), some (0, ([(1, 1)], 0), 0), ([], 0), ([], 0))])
noncomputable def tJ_5 : List tc_Pl := []
noncomputable def tC_5 : List tc_Ct := [tK_4]
def tM_5 (z : Nat) : Option am_Meth := if z = 11 then some aM_11.1 else none
set_option maxRecDepth 100000 in
theorem tMs_5 (sa : Nat → Nat) : ∀ z mz, tM_5 z = some mz → am_meth (aP sa) z = some mz := by
  intro z mz h
  unfold tM_5 at h
  rcases de_m h with ⟨rfl, rfl⟩ | h
  · exact (show am_meth (aP sa) 11 = some aM_11.1 from rfl)
  cases h
noncomputable def tV_5 : tc_Ev := (aQ, tp_T, tp_G.2, tp_Z, tM_5, tC_5, tp_L, tK_5.2.2.2.2.1, aM_10.1, aW_10, tK_5.2.1, tK_5.2.2.2.2.2, tJ_5)
theorem tE_5 : tK_5.2.2.2.2.2.all (tc_wex tK_5.2.1.1 tK_5.2.1.2) = true := by decide +kernel
theorem tSS_5 : tC_5.all (fun c => tw_mg tK_5.2.2.2.2.1 c.2.2.2.2.1) = true := by decide +kernel
theorem tHC_5 : ∀ c ∈ tC_5, c.2.2.2.2.1.all tK_5.2.2.2.2.1.contains = true ∧ c.2.2.2.2.2.all (tc_wex c.2.1.1 c.2.1.2) = true := tf_hc tSS_5 (by
  intro c hc
  have hc : c ∈ ([tK_4] : List tc_Ct) := hc
  rcases List.mem_cons.mp hc with rfl | hc
  · exact tE_4
  cases hc)
noncomputable def tH_5_0 : List tc_It := [de_it 0x4010000, de_it 0x300000001, de_it 0x2010000, de_it 0x100010101010101020101000000000000000000000000000100010c01000100010007, de_it 0x4010000, de_it 0x2, de_it 0x2, de_it 0x300000001, de_it 0x4010000, de_it 0x1020101000000000300000001, de_it 0x2010000, de_it 0x2, de_it 0x2010000, de_it 0x202000f, de_it 0x4010011, de_it 0x2010010, de_it 0x109010101050109020101050101010b0101010a01010106010502010104010101060101010501040201000000000000000000000000000000011100020201000201010002000103040200030006, de_it 0x11301010112010101060101010c0101000000000000000000000000000100010c000203010100010007, de_it 0x2010000, de_it 0x2, de_it 0x2, de_it 0x2010000, de_it 0x1030101010401010102010101070101000000000000000000000000000100010c000201010100010007, de_it 0x2010000, de_it 0x1000101030105020101000101000000000000000000000000000100010c01000100010007]
set_option maxRecDepth 100000 in
theorem tR_5 : tf_go tV_5 tK_5.2.1.1 tK_5.2.1.2 none tH_5_0 [(tK_5.2.1, tK_5.2.2.2.1, 0, tc_args 0 tK_5.2.2.1, [], ([], 0), ([], 0))] = true := by decide +kernel
set_option maxRecDepth 100000 in
theorem tT_5 {RO : am_O} {sa : Nat → Nat} (h_4 : tc_true (aP sa) tp_G RO tp_T tp_Z tK_4) : tc_true (aP sa) tp_G RO tp_T tp_Z tK_5 := by
  have hC : ∀ c ∈ tC_5, tc_true (aP sa) tp_G RO tp_T tp_Z c := by
    intro c hc
    have hc : c ∈ ([tK_4] : List tc_Ct) := hc
    rcases List.mem_cons.mp hc with rfl | hc
    · exact h_4
    cases hc
  have hP : ∀ p ∈ tJ_5, ∃ hs, tc_plk (aP sa, tV_5.2) p hs = true := by
    intro p hp
    have hp : p ∈ ([] : List tc_Pl) := hp
    cases hp
  exact tc_main (mt := aM_10.1) (hs := tH_5_0) (PL := tJ_5) ⟨tp_G_ok, tMs_5 _, hC, tp_L_ok, tp_G_re⟩ (show am_meth (aP sa) 10 = some aM_10.1 from rfl) aX_10 (by decide +kernel) hP ((tc_go_sa (aP_sa sa _)).trans ((tf_go_s tHC_5).trans tR_5))
noncomputable def tK_6 : tc_Ct := (13, (5, 3), [(2, ([], 0), 0), (2, ([], 0), 1), (0, ([], 0), 0), (0, ([(0, 1)], 0), 0)], ([([(0, -1)], 800), ([(0, 1)], 0), ([(1, -1)], 800), ([(1, 1)], 0), ([(2, -1)], 8192), ([(2, 1)], -8), ([(3, -1)], 1600), ([(3, 1)], -64), ([(4, -1)], 8000000), ([(0, -1), (1, -1)], 800), ([(0, -1), (2, 1)], 0), ([(0, 1), (2, -1)], 8180), ([(0, -1), (2, -1), (3, 1)], 8206)], [(0, 177), (1, 193), (2, 193)], [(1, ([(2, 1)], 0)), (2, ([(3, 1)], 0))], [(0, 0, (2, ([], 0), 2)), (0, 1, (0, ([(1, 1)], 0), 0))], [], [], [(1016, [], []), (1088, [], []), (1136, [], [([(4, 1)], 0)])]), [(177, 0), (177, 1), (193, 0), (193, 1000)], [((9, 3), ([([(0, -1)], 800), ([(0, 1)], 0), ([(1, -1)], 800), ([(1, 1)], 0), ([(2, -1)], 8192), ([(2, 1)], -8), ([(3, -1)], 1600), ([(3, 1)], -64), ([(4, -1)], 8000000), ([(5, -1)], 800), ([(5, 1)], 0), ([(6, -1)], 1), ([(6, 1)], 0), ([(7, -1)], 1598), ([(7, 1)], 0), ([(8, -1)], 8000000), ([(0, -1), (1, -1)], 800), ([(0, -1), (2, 1)], 0), ([(0, -1), (5, 1)], 0), ([(0, 1), (2, -1)], 8180), ([(1, -1), (5, 1)], 0), ([(6, -16), (7, 1)], 0), ([(0, -1), (1, -1), (5, 1)], 0), ([(0, -1), (2, -1), (3, 1)], 8206), ([(0, 1), (1, 1), (5, -1)], 0), ([(2, -1), (3, 1), (5, -1)], 8916), ([(4, 1), (7, -1), (8, -1)], 0)], [], [(1, ([(2, 1)], 0)), (2, ([(3, 1)], 0))], [(0, 1, (0, ([(5, 1)], 0), 0))], [], [], [(1136, [], [([(8, 1)], 0)])]), none, ([(6, 1)], 0), ([(7, 1)], 0))])
noncomputable def tJ_6 : List tc_Pl := []
noncomputable def tC_6 : List tc_Ct := [tK_0]
def tM_6 (z : Nat) : Option am_Meth := if z = 8 then some aM_8.1 else none
set_option maxRecDepth 100000 in
theorem tMs_6 (sa : Nat → Nat) : ∀ z mz, tM_6 z = some mz → am_meth (aP sa) z = some mz := by
  intro z mz h
  unfold tM_6 at h
  rcases de_m h with ⟨rfl, rfl⟩ | h
  · exact (show am_meth (aP sa) 8 = some aM_8.1 from rfl)
  cases h
noncomputable def tV_6 : tc_Ev := (aQ, tp_T, tp_G.2, tp_Z, tM_6, tC_6, tp_L, tK_6.2.2.2.2.1, aM_13.1, aW_13, tK_6.2.1, tK_6.2.2.2.2.2, tJ_6)
theorem tE_6 : tK_6.2.2.2.2.2.all (tc_wex tK_6.2.1.1 tK_6.2.1.2) = true := by decide +kernel
theorem tSS_6 : tC_6.all (fun c => tw_mg tK_6.2.2.2.2.1 c.2.2.2.2.1) = true := by decide +kernel
theorem tHC_6 : ∀ c ∈ tC_6, c.2.2.2.2.1.all tK_6.2.2.2.2.1.contains = true ∧ c.2.2.2.2.2.all (tc_wex c.2.1.1 c.2.1.2) = true := tf_hc tSS_6 (by
  intro c hc
  have hc : c ∈ ([tK_0] : List tc_Ct) := hc
  rcases List.mem_cons.mp hc with rfl | hc
  · exact tE_0
  cases hc)
noncomputable def tH_6_0 : List tc_It := [de_it 0x2010000, de_it 0x10d01010300000001, de_it 0x4010000, de_it 0x2, de_it 0x10e010a02010300000001, de_it 0x4010000, de_it 0x300000001, de_it 0x1010b010701090301010101010107010b020f0301010f010100010001010b0101010f01030201010f0105020101090101010801010001000100010001010301010102010101080101010701010106010101050101010f010b0201010301010102010101010101010f010100000000000000000000000000010001230002040100000000000201010400010007, de_it 0x2010000, de_it 0x2, de_it 0x10010, de_it 0x4010000, de_it 0x1000101010f01010200000001, de_it 0x10901010103010f02010200000001, de_it 0x2010000, de_it 0x1130109020100000300000001, de_it 0x2010000, de_it 0x2, de_it 0x2010000, de_it 0x10901010103010f02010200000001, de_it 0x2010000, de_it 0x10901010103010f02010200000001, de_it 0x2010000, de_it 0x2, de_it 0x2, de_it 0x300000001, de_it 0x6010000, de_it 0x2, de_it 0x2010000, de_it 0x2, de_it 0x4010000, de_it 0x1000101010f01010200000001, de_it 0x1140101010a0101000101030101010f01010500000005, de_it 0x4010000, de_it 0x2, de_it 0x4010000, de_it 0x1000101010f01010200000001, de_it 0x10901010103010f02010200000001, de_it 0x10701010106010101140101010901010103010f0201000000000700000003, de_it 0x10114010402010001010301040114030100010001010f0101010b010101030101010a0101010901010108010100010001000100010103010f020101090101010801010107010101060101010501010104010101030101010f01090201010f010101000101000000000000000000000000000100012300020401000000000002010200020400010007, de_it 0x4010000, de_it 0x2, de_it 0x4010000, de_it 0x2, de_it 0x2, de_it 0x21402090201020701010200000001, de_it 0x2010000, de_it 0x2, de_it 0x2010000, de_it 0x10901010107011402010200000001, de_it 0x2010000, de_it 0x10901010107011402010200000001, de_it 0x200000005, de_it 0x115010702010107010902010107010101150109020202070115020101090101000000000000000000000000000000000e00020301000201020002020400020006, de_it 0x800020102000200020301000204010306040000040009, de_it 0x2070115020101090101011001070115030100000000000000000700000003, de_it 0x6010000, de_it 0x2, de_it 0x2010000, de_it 0x2, de_it 0x4010000, de_it 0x100010101100107011503010200000001, de_it 0x1010a010100010103010101100107011503010500000005, de_it 0x4010000, de_it 0x2, de_it 0x4010000, de_it 0x100010101100107011503010200000001, de_it 0x10901010207011502010200000001, de_it 0x2070115020101090101000101090101020701150201000000000700000003, de_it 0x115010100000000000000000000000000000000090002040101010003000204040303010300040202010009, de_it 0x1011001040109010c04020001010c0101000102070115020101100107011503010110011501070104040101030101010a01010109010101080207011503010207011502010109010100010001020701150201010901010108010101070101011501090202010a0110010701150401010401010103010102100115010903020110010701150301010001010000000000000000000000000001000123000204010101000300020102000202000002010200020400010007, de_it 0x10701010114010902010107010101140109020102070101021402090201000000000000000000000000000000000e0002030100040301020400020006, de_it 0x80004030100020301000204010306040000040009, de_it 0x207010102140209020101070110020100000000000000000700000003, de_it 0x6010000, de_it 0x2, de_it 0x2010000, de_it 0x2, de_it 0x4010000, de_it 0x1000101010f01010200000001, de_it 0x1150101010a0101000101030101010f01010500000005, de_it 0x4010000, de_it 0x2, de_it 0x4010000, de_it 0x1000101010f01010200000001, de_it 0x10901010107011402010200000001, de_it 0x20701010214020902010115010101090101010701140201000000000700000003, de_it 0x101150204010903020001010c0101000102070101010f0101010b010101030101010a01010109010101080207020102070101021402090201000100010107011402010109010101080101010701010114010902010105010101040101010301010110011401090301010f01010100010100000000000000000000000000010001230002040303020004030102000002010200020400010007]
set_option maxRecDepth 100000 in
theorem tR_6 : tf_go tV_6 tK_6.2.1.1 tK_6.2.1.2 none tH_6_0 [(tK_6.2.1, tK_6.2.2.2.1, 0, tc_args 0 tK_6.2.2.1, [], ([], 0), ([], 0))] = true := by decide +kernel
set_option maxRecDepth 100000 in
theorem tT_6 {RO : am_O} {sa : Nat → Nat} (h_0 : tc_true (aP sa) tp_G RO tp_T tp_Z tK_0) : tc_true (aP sa) tp_G RO tp_T tp_Z tK_6 := by
  have hC : ∀ c ∈ tC_6, tc_true (aP sa) tp_G RO tp_T tp_Z c := by
    intro c hc
    have hc : c ∈ ([tK_0] : List tc_Ct) := hc
    rcases List.mem_cons.mp hc with rfl | hc
    · exact h_0
    cases hc
  have hP : ∀ p ∈ tJ_6, ∃ hs, tc_plk (aP sa, tV_6.2) p hs = true := by
    intro p hp
    have hp : p ∈ ([] : List tc_Pl) := hp
    cases hp
  exact tc_main (mt := aM_13.1) (hs := tH_6_0) (PL := tJ_6) ⟨tp_G_ok, tMs_6 _, hC, tp_L_ok, tp_G_re⟩ (show am_meth (aP sa) 13 = some aM_13.1 from rfl) aX_13 (by decide +kernel) hP ((tc_go_sa (aP_sa sa _)).trans ((tf_go_s tHC_6).trans tR_6))
noncomputable def tK_7 : tc_Ct := (12, (1, 1), [(2, ([], 0), 0)], ([([(0, -1)], 8000000), ([(0, 1)], 0)], [(0, 165)], [], [], [], [], [(1016, [], []), (1024, [], []), (1088, [], []), (1096, [], []), (1136, [], [([(0, 1)], 0)])]), [(177, 0), (177, 1), (193, 0), (193, 1000)], [((5, 1), ([([(0, -1)], 8000000), ([(0, 1)], 0), ([(1, -1)], 800), ([(1, 1)], 3), ([(2, -1)], 1), ([(2, 1)], 0), ([(3, -1)], 1598), ([(3, 1)], 0), ([(4, -1)], 8000000), ([(2, -16), (3, 1)], 0), ([(0, 1), (3, -1), (4, -1)], 0)], [], [], [], [], [], [(1136, [], [([(4, 1)], 0)])]), some (0, ([(1, 1)], 0), 0), ([(2, 1)], 0), ([(3, 1)], 0))])
noncomputable def tJ_7 : List tc_Pl := []
noncomputable def tC_7 : List tc_Ct := [tK_6]
def tM_7 (z : Nat) : Option am_Meth := if z = 13 then some aM_13.1 else none
set_option maxRecDepth 100000 in
theorem tMs_7 (sa : Nat → Nat) : ∀ z mz, tM_7 z = some mz → am_meth (aP sa) z = some mz := by
  intro z mz h
  unfold tM_7 at h
  rcases de_m h with ⟨rfl, rfl⟩ | h
  · exact (show am_meth (aP sa) 13 = some aM_13.1 from rfl)
  cases h
noncomputable def tV_7 : tc_Ev := (aQ, tp_T, tp_G.2, tp_Z, tM_7, tC_7, tp_L, tK_7.2.2.2.2.1, aM_12.1, aW_12, tK_7.2.1, tK_7.2.2.2.2.2, tJ_7)
theorem tE_7 : tK_7.2.2.2.2.2.all (tc_wex tK_7.2.1.1 tK_7.2.1.2) = true := by decide +kernel
theorem tSS_7 : tC_7.all (fun c => tw_mg tK_7.2.2.2.2.1 c.2.2.2.2.1) = true := by decide +kernel
theorem tHC_7 : ∀ c ∈ tC_7, c.2.2.2.2.1.all tK_7.2.2.2.2.1.contains = true ∧ c.2.2.2.2.2.all (tc_wex c.2.1.1 c.2.1.2) = true := tf_hc tSS_7 (by
  intro c hc
  have hc : c ∈ ([tK_6] : List tc_Ct) := hc
  rcases List.mem_cons.mp hc with rfl | hc
  · exact tE_6
  cases hc)
noncomputable def tH_7_0 : List tc_It := [de_it 0x2010000, de_it 0x2, de_it 0x2, de_it 0x2010000, de_it 0x2, de_it 0x2, de_it 0x105010302010104010202010200000001, de_it 0x2010000, de_it 0x300000001, de_it 0x2010000, de_it 0x2, de_it 0x2010000, de_it 0x2, de_it 0x2, de_it 0x6010011, de_it 0x4010010, de_it 0x4010000, de_it 0x2, de_it 0x2, de_it 0x202000f, de_it 0x8010011, de_it 0x2010010, de_it 0x1020110010a01060401010a0104020101090101010601010100010101100101010f0101010b0101010a0101010201010103010101040101010201060201000000000000000000000000000000031500020001000204010002030100020101000202010508060200040006, de_it 0x565452504e4c4a4846403e3c3a38363422201e1c1614120c08060402001d000d, de_it 0x2010000, de_it 0x2, de_it 0x2, de_it 0x11c01010117010101130101011201010111010101100101010f0101010e0101010d010101010101010001010000000000000000000000000001000113000208010002070100020601000205010400010007, de_it 0x2010000, de_it 0x100010100010100010001000100010001000101010101010001010000000000000000000000000001000113000200010000000005000400010007]
set_option maxRecDepth 100000 in
theorem tR_7 : tf_go tV_7 tK_7.2.1.1 tK_7.2.1.2 none tH_7_0 [(tK_7.2.1, tK_7.2.2.2.1, 0, tc_args 0 tK_7.2.2.1, [], ([], 0), ([], 0))] = true := by decide +kernel
set_option maxRecDepth 100000 in
theorem tT_7 {RO : am_O} {sa : Nat → Nat} (h_6 : tc_true (aP sa) tp_G RO tp_T tp_Z tK_6) : tc_true (aP sa) tp_G RO tp_T tp_Z tK_7 := by
  have hC : ∀ c ∈ tC_7, tc_true (aP sa) tp_G RO tp_T tp_Z c := by
    intro c hc
    have hc : c ∈ ([tK_6] : List tc_Ct) := hc
    rcases List.mem_cons.mp hc with rfl | hc
    · exact h_6
    cases hc
  have hP : ∀ p ∈ tJ_7, ∃ hs, tc_plk (aP sa, tV_7.2) p hs = true := by
    intro p hp
    have hp : p ∈ ([] : List tc_Pl) := hp
    cases hp
  exact tc_main (mt := aM_12.1) (hs := tH_7_0) (PL := tJ_7) ⟨tp_G_ok, tMs_7 _, hC, tp_L_ok, tp_G_re⟩ (show am_meth (aP sa) 12 = some aM_12.1 from rfl) aX_12 (by decide +kernel) hP ((tc_go_sa (aP_sa sa _)).trans ((tf_go_s tHC_7).trans tR_7))
noncomputable def tK_8 : tc_Ct := (14, (2, 2), [(2, ([], 0), 0), (0, ([(0, 1)], 0), 0)], ([([(0, -1)], 2147483647), ([(0, 1)], 2147483648), ([(1, -1)], 2000000000), ([(1, 1)], 0)], [(0, 165), (1, 166)], [], [(0, 0, (2, ([], 0), 1)), (1, 0, (0, ([(1, 1)], 0), 0))], [], [], [(568, [1], [])]), [(166, 0)], [((2, 2), ([([(0, -1)], 2147483647), ([(0, 1)], 2147483648), ([(1, -1)], 2000000000), ([(1, 1)], 0)], [], [], [(1, 0, (0, ([(1, 1)], 0), 0))], [], [], []), some (0, ([], -1), 0), ([], 0), ([], 0)), ((2, 2), ([([(0, -1)], 1000000), ([(0, 1)], 0), ([(1, -1)], 2000000000), ([(1, 1)], -1999000001), ([(0, 1), (1, 1)], -2000000001)], [], [], [(1, 0, (0, ([(1, 1)], 0), 0))], [], [], []), some (0, ([], -2), 0), ([], 0), ([], 0)), ((2, 2), ([([(0, -1)], 1000000), ([(0, 1)], 0), ([(1, -1)], 2000000000), ([(1, 1)], 0), ([(0, -1), (1, -1)], 2000000000)], [], [], [(1, 0, (0, ([(0, 1), (1, 1)], 0), 0))], [], [], []), some (0, ([(0, 1), (1, 1)], 0), 0), ([], 0), ([], 0))])
noncomputable def tJ_8 : List tc_Pl := []
noncomputable def tC_8 : List tc_Ct := []
def tM_8 (z : Nat) : Option am_Meth := none
set_option maxRecDepth 100000 in
theorem tMs_8 (sa : Nat → Nat) : ∀ z mz, tM_8 z = some mz → am_meth (aP sa) z = some mz := fun z mz h => by cases h
noncomputable def tV_8 : tc_Ev := (aQ, tp_T, tp_G.2, tp_Z, tM_8, tC_8, tp_L, tK_8.2.2.2.2.1, aM_14.1, aW_14, tK_8.2.1, tK_8.2.2.2.2.2, tJ_8)
theorem tE_8 : tK_8.2.2.2.2.2.all (tc_wex tK_8.2.1.1 tK_8.2.1.2) = true := by decide +kernel
theorem tSS_8 : tC_8.all (fun c => tw_mg tK_8.2.2.2.2.1 c.2.2.2.2.1) = true := by decide +kernel
theorem tHC_8 : ∀ c ∈ tC_8, c.2.2.2.2.1.all tK_8.2.2.2.2.1.contains = true ∧ c.2.2.2.2.2.all (tc_wex c.2.1.1 c.2.1.2) = true := tf_hc tSS_8 (by
  intro c hc
  have hc : c ∈ ([] : List tc_Ct) := hc
  cases hc)
noncomputable def tH_8_0 : List tc_It := [de_it 0x2010000, de_it 0x300000001, de_it 0x2010000, de_it 0x1030101010201010101010101040101000000000000000000000000000100010c0000010007, de_it 0x4010000, de_it 0x300000001, de_it 0x2010000, de_it 0x2, de_it 0x2, de_it 0x4010000, de_it 0x1040101010501010200000001, de_it 0x300000001, de_it 0x2010000, de_it 0x2, de_it 0x2010000, de_it 0x2, de_it 0x2010000, de_it 0x10601010103010402010200000001, de_it 0x1060101010301040201000000000400000003, de_it 0x2010000, de_it 0x2, de_it 0x2, de_it 0x106010101030101010201010104010101050101000000000000000000000000000100010d0004010007, de_it 0x2010000, de_it 0x1060101010601050201010201010104010101050101000000000000000000000000000100010d0002010007, de_it 0x2010000, de_it 0x1030101010201010105010101000101000000000000000000000000000100010c0000010007]
set_option maxRecDepth 100000 in
theorem tR_8 : tf_go tV_8 tK_8.2.1.1 tK_8.2.1.2 none tH_8_0 [(tK_8.2.1, tK_8.2.2.2.1, 0, tc_args 0 tK_8.2.2.1, [], ([], 0), ([], 0))] = true := by decide +kernel
set_option maxRecDepth 100000 in
theorem tT_8 {RO : am_O} {sa : Nat → Nat} : tc_true (aP sa) tp_G RO tp_T tp_Z tK_8 := by
  have hC : ∀ c ∈ tC_8, tc_true (aP sa) tp_G RO tp_T tp_Z c := by
    intro c hc
    have hc : c ∈ ([] : List tc_Ct) := hc
    cases hc
  have hP : ∀ p ∈ tJ_8, ∃ hs, tc_plk (aP sa, tV_8.2) p hs = true := by
    intro p hp
    have hp : p ∈ ([] : List tc_Pl) := hp
    cases hp
  exact tc_main (mt := aM_14.1) (hs := tH_8_0) (PL := tJ_8) ⟨tp_G_ok, tMs_8 _, hC, tp_L_ok, tp_G_re⟩ (show am_meth (aP sa) 14 = some aM_14.1 from rfl) aX_14 (by decide +kernel) hP ((tc_go_sa (aP_sa sa _)).trans ((tf_go_s tHC_8).trans tR_8))
noncomputable def tK_9 : tc_Ct := (16, (1, 0), [(0, ([(0, 1)], 0), 0)], ([([(0, -1)], 2147483647), ([(0, 1)], 2147483648)], [], [], [], [], [], []), [], [((1, 0), ([([(0, -1)], 2147483647), ([(0, 1)], 2147483648)], [], [], [], [], [], []), some (0, ([], 0), 0), ([], 0), ([], 0)), ((1, 0), ([([(0, -1)], 1), ([(0, 1)], 0)], [], [], [], [], [], []), some (0, ([], 1), 0), ([], 0), ([], 0))])
noncomputable def tJ_9 : List tc_Pl := []
noncomputable def tC_9 : List tc_Ct := []
def tM_9 (z : Nat) : Option am_Meth := none
set_option maxRecDepth 100000 in
theorem tMs_9 (sa : Nat → Nat) : ∀ z mz, tM_9 z = some mz → am_meth (aP sa) z = some mz := fun z mz h => by cases h
noncomputable def tV_9 : tc_Ev := (aQ, tp_T, tp_G.2, tp_Z, tM_9, tC_9, tp_L, tK_9.2.2.2.2.1, aM_16.1, aW_16, tK_9.2.1, tK_9.2.2.2.2.2, tJ_9)
theorem tE_9 : tK_9.2.2.2.2.2.all (tc_wex tK_9.2.1.1 tK_9.2.1.2) = true := by decide +kernel
theorem tSS_9 : tC_9.all (fun c => tw_mg tK_9.2.2.2.2.1 c.2.2.2.2.1) = true := by decide +kernel
theorem tHC_9 : ∀ c ∈ tC_9, c.2.2.2.2.1.all tK_9.2.2.2.2.1.contains = true ∧ c.2.2.2.2.2.all (tc_wex c.2.1.1 c.2.1.2) = true := tf_hc tSS_9 (by
  intro c hc
  have hc : c ∈ ([] : List tc_Ct) := hc
  cases hc)
noncomputable def tH_9_0 : List tc_It := [de_it 0x2010000, de_it 0x300000001, de_it 0x4010000, de_it 0x102010101030101000000000000000000010001000100010a0002010007, de_it 0x4010000, de_it 0x300000001, de_it 0x2010000, de_it 0x101010101000101000000000000000000010001000100010a0000010007, de_it 0x4010000, de_it 0x102010101030101000000000000000000010001000100010a0002010007]
set_option maxRecDepth 100000 in
theorem tR_9 : tf_go tV_9 tK_9.2.1.1 tK_9.2.1.2 none tH_9_0 [(tK_9.2.1, tK_9.2.2.2.1, 0, tc_args 0 tK_9.2.2.1, [], ([], 0), ([], 0))] = true := by decide +kernel
set_option maxRecDepth 100000 in
theorem tT_9 {RO : am_O} {sa : Nat → Nat} : tc_true (aP sa) tp_G RO tp_T tp_Z tK_9 := by
  have hC : ∀ c ∈ tC_9, tc_true (aP sa) tp_G RO tp_T tp_Z c := by
    intro c hc
    have hc : c ∈ ([] : List tc_Ct) := hc
    cases hc
  have hP : ∀ p ∈ tJ_9, ∃ hs, tc_plk (aP sa, tV_9.2) p hs = true := by
    intro p hp
    have hp : p ∈ ([] : List tc_Pl) := hp
    cases hp
  exact tc_main (mt := aM_16.1) (hs := tH_9_0) (PL := tJ_9) ⟨tp_G_ok, tMs_9 _, hC, tp_L_ok, tp_G_re⟩ (show am_meth (aP sa) 16 = some aM_16.1 from rfl) aX_16 (by decide +kernel) hP ((tc_go_sa (aP_sa sa _)).trans ((tf_go_s tHC_9).trans tR_9))
noncomputable def tK_10 : tc_Ct := (18, (1, 1), [(2, ([], 0), 0), (0, ([(0, 1)], 0), 0)], ([([(0, -1)], 2147483647), ([(0, 1)], 2147483648)], [(0, 167)], [], [], [], [], []), [(167, 0), (167, 1), (167, 2), (167, 3), (167, 5)], [((5, 1), ([([(0, -1)], 2147483647), ([(0, 1)], 2147483648), ([(1, -1)], 2147483647), ([(1, 1)], 2147483648), ([(2, -1)], 2147483647), ([(2, 1)], 2147483648), ([(3, -1)], 2147483647), ([(3, 1)], 2147483648), ([(4, -1)], 2147483647), ([(4, 1)], 2147483648)], [], [], [(0, 0, (0, ([(4, 1)], 0), 0)), (0, 1, (0, ([(3, 1)], 0), 0)), (0, 2, (0, ([(2, 1)], 0), 0)), (0, 3, (0, ([(1, 1)], 0), 0)), (0, 5, (0, ([], 0), 0))], [], [], []), none, ([], 0), ([], 0))])
noncomputable def tJ_10 : List tc_Pl := []
noncomputable def tC_10 : List tc_Ct := []
def tM_10 (z : Nat) : Option am_Meth := none
set_option maxRecDepth 100000 in
theorem tMs_10 (sa : Nat → Nat) : ∀ z mz, tM_10 z = some mz → am_meth (aP sa) z = some mz := fun z mz h => by cases h
noncomputable def tV_10 : tc_Ev := (aQ, tp_T, tp_G.2, tp_Z, tM_10, tC_10, tp_L, tK_10.2.2.2.2.1, aM_18.1, aW_18, tK_10.2.1, tK_10.2.2.2.2.2, tJ_10)
theorem tE_10 : tK_10.2.2.2.2.2.all (tc_wex tK_10.2.1.1 tK_10.2.1.2) = true := by decide +kernel
theorem tSS_10 : tC_10.all (fun c => tw_mg tK_10.2.2.2.2.1 c.2.2.2.2.1) = true := by decide +kernel
theorem tHC_10 : ∀ c ∈ tC_10, c.2.2.2.2.1.all tK_10.2.2.2.2.1.contains = true ∧ c.2.2.2.2.2.all (tc_wex c.2.1.1 c.2.1.2) = true := tf_hc tSS_10 (by
  intro c hc
  have hc : c ∈ ([] : List tc_Ct) := hc
  cases hc)
noncomputable def tH_10_0 : List tc_It := [de_it 0x6010000, de_it 0x101, de_it 0x103010101020101000000000400000003, de_it 0x6010000, de_it 0x101, de_it 0x105010101040101000000000400000003, de_it 0x6010000, de_it 0x101, de_it 0x107010101060101000000000400000003, de_it 0x6010000, de_it 0x101, de_it 0x109010101080101000000000400000003, de_it 0x4010000, de_it 0x10001000000000400000003, de_it 0x10201010103010101040101010501010106010101070101010801010109010101010101010001010000000000000000000000000001000112000201010002020100020301000204010400010007]
set_option maxRecDepth 100000 in
theorem tR_10 : tf_go tV_10 tK_10.2.1.1 tK_10.2.1.2 none tH_10_0 [(tK_10.2.1, tK_10.2.2.2.1, 0, tc_args 0 tK_10.2.2.1, [], ([], 0), ([], 0))] = true := by decide +kernel
set_option maxRecDepth 100000 in
theorem tT_10 {RO : am_O} {sa : Nat → Nat} : tc_true (aP sa) tp_G RO tp_T tp_Z tK_10 := by
  have hC : ∀ c ∈ tC_10, tc_true (aP sa) tp_G RO tp_T tp_Z c := by
    intro c hc
    have hc : c ∈ ([] : List tc_Ct) := hc
    cases hc
  have hP : ∀ p ∈ tJ_10, ∃ hs, tc_plk (aP sa, tV_10.2) p hs = true := by
    intro p hp
    have hp : p ∈ ([] : List tc_Pl) := hp
    cases hp
  exact tc_main (mt := aM_18.1) (hs := tH_10_0) (PL := tJ_10) ⟨tp_G_ok, tMs_10 _, hC, tp_L_ok, tp_G_re⟩ (show am_meth (aP sa) 18 = some aM_18.1 from rfl) aX_18 (by decide +kernel) hP ((tc_go_sa (aP_sa sa _)).trans ((tf_go_s tHC_10).trans tR_10))
noncomputable def tK_11 : tc_Ct := (20, (0, 1), [(2, ([], 0), 0), (1, ([], 0), 0)], ([], [(0, 167)], [], [], [], [], []), [(167, 0), (167, 1), (167, 2), (167, 3)], [((4, 1), ([([(0, -1)], 2147483647), ([(0, 1)], 2147483648), ([(1, -1)], 2147483647), ([(1, 1)], 2147483648), ([(2, -1)], 2147483647), ([(2, 1)], 2147483648), ([(3, -1)], 2147483647), ([(3, 1)], 2147483648)], [], [], [(0, 0, (0, ([(3, 1)], 0), 0)), (0, 1, (0, ([(2, 1)], 0), 0)), (0, 2, (0, ([(1, 1)], 0), 0)), (0, 3, (0, ([(0, 1)], 0), 0))], [], [], []), none, ([], 0), ([], 0))])
noncomputable def tL_11_0 : tc_Pl := de_pl 0x30cfaff00120104010000000000030cfaff0003000000000000000204010007000002030100060000020201000500000201010004000002000100030000000200062300000000000208010003000000020701000200000002060100010000000205010000000400a700010000000100000000ff02080100000000fffffffeff0108010000000100000000ff02070100000000fffffffeff0107010000000100000000ff02060100000000fffffffeff0106010000000100000000ff02050100000000fffffffeff01050101020401120104010000000100000000ff02030100000000fffffffeff0103010000000100000000ff02020100000000fffffffeff0102010000000100000000ff02010100000000fffffffeff0101010000000100000000ff02000100000000fffffffeff010001120109
noncomputable def tJ_11 : List tc_Pl := [tL_11_0]
noncomputable def tC_11 : List tc_Ct := []
def tM_11 (z : Nat) : Option am_Meth := none
set_option maxRecDepth 100000 in
theorem tMs_11 (sa : Nat → Nat) : ∀ z mz, tM_11 z = some mz → am_meth (aP sa) z = some mz := fun z mz h => by cases h
noncomputable def tV_11 : tc_Ev := (aQ, tp_T, tp_G.2, tp_Z, tM_11, tC_11, tp_L, tK_11.2.2.2.2.1, aM_20.1, aW_20, tK_11.2.1, tK_11.2.2.2.2.2, tJ_11)
theorem tE_11 : tK_11.2.2.2.2.2.all (tc_wex tK_11.2.1.1 tK_11.2.1.2) = true := by decide +kernel
theorem tSS_11 : tC_11.all (fun c => tw_mg tK_11.2.2.2.2.1 c.2.2.2.2.1) = true := by decide +kernel
theorem tHC_11 : ∀ c ∈ tC_11, c.2.2.2.2.1.all tK_11.2.2.2.2.1.contains = true ∧ c.2.2.2.2.2.all (tc_wex c.2.1.1 c.2.1.2) = true := tf_hc tSS_11 (by
  intro c hc
  have hc : c ∈ ([] : List tc_Ct) := hc
  cases hc)
noncomputable def tH_11_0 : List tc_It := [de_it 0x2010000, de_it 0x2, de_it 0x6010000, de_it 0x101, de_it 0x101, de_it 0x4010000, de_it 0x2, de_it 0x2010000, de_it 0x101, de_it 0x101, de_it 0x4010000, de_it 0x2, de_it 0x4010000, de_it 0x2, de_it 0x6010000, de_it 0x10e0101010f0101010c0101010d01010106010101070101010001010101010100010001010e0101010f0101010c0101010d0101010a0101010b01010104010101050101000000000000000000000000000100011a000207010002060100020301000200010200000207010002060100020501000202010900010008]
set_option maxRecDepth 100000 in
theorem tR_11 : tf_go tV_11 tK_11.2.1.1 tK_11.2.1.2 none tH_11_0 [(tK_11.2.1, tK_11.2.2.2.1, 0, tc_args 0 tK_11.2.2.1, [], ([], 0), ([], 0))] = true := by decide +kernel
noncomputable def tH_11_1 : List tc_It := [de_it 0x4010000, de_it 0x300000001, de_it 0x4010000, de_it 0x100010101010101000000000400000003, de_it 0x4010000, de_it 0x102010101030101000000000400000003, de_it 0x4010000, de_it 0x104010101050101000000000400000003, de_it 0x4010000, de_it 0x106010101070101000000000400000003, de_it 0x1010101010001010103010101020101010501010104010101070101010601010000000000000000000000000001000110000200010002010100020201000203010400010007, de_it 0x4010000, de_it 0x101, de_it 0x6010000, de_it 0x101, de_it 0x6010000, de_it 0x101, de_it 0x4010000, de_it 0x201, de_it 0x101, de_it 0x6010000, de_it 0x101, de_it 0x6010000, de_it 0x101, de_it 0x6010000, de_it 0x101, de_it 0x4010000, de_it 0x201, de_it 0x101, de_it 0x6010000, de_it 0x101, de_it 0x6010000, de_it 0x101, de_it 0x6010000, de_it 0x101, de_it 0x4010000, de_it 0x201, de_it 0x101, de_it 0x6010000, de_it 0x101, de_it 0x6010000, de_it 0x101, de_it 0x6010000, de_it 0x101, de_it 0x4010000, de_it 0x201, de_it 0x101, de_it 0x6010000, de_it 0x101, de_it 0x2010000, de_it 0x1120101010901010200000001, de_it 0x2010000, de_it 0x111010101100101010f0101010e0101010d0101010c0101010b0101010a01010109010101120101012f010101300101013101010132010101390101013a0101013b0101013c01010000000001120101000100000001000100011a0002080100020701000206010002050102020401000217010002180100021c0100021d010900010008]
set_option maxRecDepth 100000 in
theorem tP_11_0 : tf_plk tV_11 tL_11_0 tH_11_1 = true := by decide +kernel
set_option maxRecDepth 100000 in
theorem tT_11 {RO : am_O} {sa : Nat → Nat} : tc_true (aP sa) tp_G RO tp_T tp_Z tK_11 := by
  have hC : ∀ c ∈ tC_11, tc_true (aP sa) tp_G RO tp_T tp_Z c := by
    intro c hc
    have hc : c ∈ ([] : List tc_Ct) := hc
    cases hc
  have hP : ∀ p ∈ tJ_11, ∃ hs, tc_plk (aP sa, tV_11.2) p hs = true := by
    intro p hp
    have hp : p ∈ ([tL_11_0] : List tc_Pl) := hp
    rcases List.mem_cons.mp hp with rfl | hp
    · exact ⟨_, (tc_plk_sa (aP_sa sa _)).trans ((tf_plk_s tHC_11).trans tP_11_0)⟩
    cases hp
  exact tc_main (mt := aM_20.1) (hs := tH_11_0) (PL := tJ_11) ⟨tp_G_ok, tMs_11 _, hC, tp_L_ok, tp_G_re⟩ (show am_meth (aP sa) 20 = some aM_20.1 from rfl) aX_20 (by decide +kernel) hP ((tc_go_sa (aP_sa sa _)).trans ((tf_go_s tHC_11).trans tR_11))
noncomputable def tK_12 : tc_Ct := (19, (3, 2), [(2, ([], 0), 0), (2, ([], 0), 1), (0, ([(0, 1)], 0), 0), (0, ([(1, 1)], 0), 0)], ([([(0, -1)], 3), ([(0, 1)], 0), ([(1, -1)], 4130), ([(1, 1)], 0), ([(2, -1)], 8192), ([(2, 1)], -8), ([(0, -1), (1, -1)], 4130), ([(0, -1), (1, 1)], 0), ([(0, -1), (2, -1)], 8192), ([(0, -1), (2, 1)], -8), ([(1, -1), (2, -1)], 11853), ([(1, -1), (2, 1)], 4119), ([(1, 1), (2, -1)], 8189), ([(1, 1), (2, 1)], -11), ([(0, -1), (1, -1), (2, 1)], 4119), ([(0, -1), (1, 1), (2, -1)], 8189)], [(0, 167), (1, 193)], [(1, ([(2, 1)], 0))], [], [], [], []), [(167, 0), (167, 1), (167, 2), (167, 3), (167, 4), (167, 5)], [((3, 2), ([([(0, -1)], 3), ([(0, 1)], 0), ([(1, -1)], 4130), ([(1, 1)], 0), ([(2, -1)], 8192), ([(2, 1)], -8), ([(0, -1), (1, -1)], 4130), ([(0, -1), (1, 1)], 0), ([(0, -1), (2, -1)], 8192), ([(0, -1), (2, 1)], -8), ([(1, -1), (2, -1)], 11853), ([(1, -1), (2, 1)], 4119), ([(1, 1), (2, -1)], 8189), ([(1, 1), (2, 1)], -11), ([(0, -1), (1, -1), (2, 1)], 4119), ([(0, -1), (1, 1), (2, -1)], 8189)], [], [(1, ([(2, 1)], 0))], [], [], [], []), none, ([], 0), ([], 0))])
noncomputable def tL_12_0 : tc_Pl := de_pl 0x30d24ff000001030201020000000000030d24ff00030000000000000002030100040000020101000301000002010000000200040e00000000000202010101c101a700020000000000003ffaff010202010100030001030201021502020201020000000000003ffaff01020201020002020101020000000000005c9aff01020101020002030100020000000000002044ff01030100020f02020100020000000000004000ff01020100020002010100020000000000002044ff0101010002000203010000000000002044ff0103010f0202010000000000004000ff010201000201010000000000002044ff01010100020001060100010000000000003ffaff01020201010003000000000000202eff020201010100031502020201020000000000003ffaff0102020102000000000000202eff02020101020000000000005c9aff01020101020f02020100020000000000004000ff01020100020002010100020000000000002044ff01010100020f0202010000000000004000ff010201000201010000000000002044ff0101010002000106010001240204
noncomputable def tJ_12 : List tc_Pl := [tL_12_0]
noncomputable def tC_12 : List tc_Ct := [tK_11]
def tM_12 (z : Nat) : Option am_Meth := if z = 20 then some aM_20.1 else none
set_option maxRecDepth 100000 in
theorem tMs_12 (sa : Nat → Nat) : ∀ z mz, tM_12 z = some mz → am_meth (aP sa) z = some mz := by
  intro z mz h
  unfold tM_12 at h
  rcases de_m h with ⟨rfl, rfl⟩ | h
  · exact (show am_meth (aP sa) 20 = some aM_20.1 from rfl)
  cases h
noncomputable def tV_12 : tc_Ev := (aQ, tp_T, tp_G.2, tp_Z, tM_12, tC_12, tp_L, tK_12.2.2.2.2.1, aM_19.1, aW_19, tK_12.2.1, tK_12.2.2.2.2.2, tJ_12)
theorem tE_12 : tK_12.2.2.2.2.2.all (tc_wex tK_12.2.1.1 tK_12.2.1.2) = true := by decide +kernel
theorem tSS_12 : tC_12.all (fun c => tw_mg tK_12.2.2.2.2.1 c.2.2.2.2.1) = true := by decide +kernel
theorem tHC_12 : ∀ c ∈ tC_12, c.2.2.2.2.1.all tK_12.2.2.2.2.1.contains = true ∧ c.2.2.2.2.2.all (tc_wex c.2.1.1 c.2.1.2) = true := tf_hc tSS_12 (by
  intro c hc
  have hc : c ∈ ([tK_11] : List tc_Ct) := hc
  rcases List.mem_cons.mp hc with rfl | hc
  · exact tE_11
  cases hc)
noncomputable def tH_12_0 : List tc_It := [de_it 0x2010000, de_it 0x110010102010300000001, de_it 0x4010000, de_it 0x2, de_it 0x300000001, de_it 0x4010000, de_it 0x10f010101070101010d0101010c010101110101010a0101000102000101010901010108010101070101010601010101010101000101010501010104010101030101010201010101010101000101010f0101011101000201010d0101010c010101110101010a010101090101010801010107010101060101010501010104010101030101010201010101010101000101000000000000000000000000000100012c000200010100010008, de_it 0x10001110201010e010102050111020101110101010b01010111020202010109010101110106020101090111020101060101010501010111010101060301010901010111030101020101010101010100010100000000000000000000000000010001180000010007]
set_option maxRecDepth 100000 in
theorem tR_12 : tf_go tV_12 tK_12.2.1.1 tK_12.2.1.2 none tH_12_0 [(tK_12.2.1, tK_12.2.2.2.1, 0, tc_args 0 tK_12.2.2.1, [], ([], 0), ([], 0))] = true := by decide +kernel
noncomputable def tH_12_1 : List tc_It := [de_it 0x4010000, de_it 0x300000001, de_it 0x10f0101011f01000201010d0101010c0101011f0101010a01010109010101080101010701010106010101050101010401010103010101020101010101010100010100000000000000000000000000010001180000010007, de_it 0x4010000, de_it 0x2, de_it 0x8010000, de_it 0x124011f02010117010102000203010100010002, de_it 0x4010000, de_it 0x400000003, de_it 0x4010000, de_it 0x2, de_it 0x2010000, de_it 0x101, de_it 0x12c0101012b0101000000000400000003, de_it 0x2010000, de_it 0x2, de_it 0x4010000, de_it 0x12d0101000000000300000001, de_it 0x124010101060301011701010200000001, de_it 0x2010000, de_it 0x10f010101240101010d0101010c0101011f0101010a0101011d01010106012402010109010101080101011d01240201010601010117010101240101010603010105010101040101011d010101240301010201010101010101000101010f0101011f01000201010d0101010c0101011f0101010a01010109010101080101011d01240201010601010105010101040101011d0101012403010102010101010101010001010000000001240101000100000001000100012c020203010100010008, de_it 0x4010000, de_it 0x2, de_it 0x108000000020006, de_it 0x706e6c6a686664625856504e483e3a382e2c1e1c1a181412100e0c0a080604020021000d, de_it 0x114010101060301011001010200000001, de_it 0x2010000, de_it 0x10e010101140101010c0101010b010101130101010a01010112010101060114020101090101010801010112011402010106010101100101011401010106030101050101010401010112010101140301010201010101010101000101010e0101011301000201010c0101010b010101130101010a0101010901010108010101120114020101060101010501010104010101120101011403010102010101010101010001010000000001140101000100000001000100012c020203010100010008]
set_option maxRecDepth 100000 in
theorem tP_12_0 : tf_plk tV_12 tL_12_0 tH_12_1 = true := by decide +kernel
set_option maxRecDepth 100000 in
theorem tT_12 {RO : am_O} {sa : Nat → Nat} (h_11 : tc_true (aP sa) tp_G RO tp_T tp_Z tK_11) : tc_true (aP sa) tp_G RO tp_T tp_Z tK_12 := by
  have hC : ∀ c ∈ tC_12, tc_true (aP sa) tp_G RO tp_T tp_Z c := by
    intro c hc
    have hc : c ∈ ([tK_11] : List tc_Ct) := hc
    rcases List.mem_cons.mp hc with rfl | hc
    · exact h_11
    cases hc
  have hP : ∀ p ∈ tJ_12, ∃ hs, tc_plk (aP sa, tV_12.2) p hs = true := by
    intro p hp
    have hp : p ∈ ([tL_12_0] : List tc_Pl) := hp
    rcases List.mem_cons.mp hp with rfl | hp
    · exact ⟨_, (tc_plk_sa (aP_sa sa _)).trans ((tf_plk_s tHC_12).trans tP_12_0)⟩
    cases hp
  exact tc_main (mt := aM_19.1) (hs := tH_12_0) (PL := tJ_12) ⟨tp_G_ok, tMs_12 _, hC, tp_L_ok, tp_G_re⟩ (show am_meth (aP sa) 19 = some aM_19.1 from rfl) aX_19 (by decide +kernel) hP ((tc_go_sa (aP_sa sa _)).trans ((tf_go_s tHC_12).trans tR_12))
noncomputable def tK_13 : tc_Ct := (22, (0, 1), [(2, ([], 0), 0)], ([], [(0, 167)], [], [], [], [], []), [], [((0, 1), ([], [], [], [], [], [], []), some (1, ([], 0), 0), ([], 0), ([], 0))])
noncomputable def tJ_13 : List tc_Pl := []
noncomputable def tC_13 : List tc_Ct := []
def tM_13 (z : Nat) : Option am_Meth := none
set_option maxRecDepth 100000 in
theorem tMs_13 (sa : Nat → Nat) : ∀ z mz, tM_13 z = some mz → am_meth (aP sa) z = some mz := fun z mz h => by cases h
noncomputable def tV_13 : tc_Ev := (aQ, tp_T, tp_G.2, tp_Z, tM_13, tC_13, tp_L, tK_13.2.2.2.2.1, aM_22.1, aW_22, tK_13.2.1, tK_13.2.2.2.2.2, tJ_13)
theorem tE_13 : tK_13.2.2.2.2.2.all (tc_wex tK_13.2.1.1 tK_13.2.1.2) = true := by decide +kernel
theorem tSS_13 : tC_13.all (fun c => tw_mg tK_13.2.2.2.2.1 c.2.2.2.2.1) = true := by decide +kernel
theorem tHC_13 : ∀ c ∈ tC_13, c.2.2.2.2.1.all tK_13.2.2.2.2.1.contains = true ∧ c.2.2.2.2.2.all (tc_wex c.2.1.1 c.2.1.2) = true := tf_hc tSS_13 (by
  intro c hc
  have hc : c ∈ ([] : List tc_Ct) := hc
  cases hc)
noncomputable def tH_13_0 : List tc_It := [de_it 0x2010000, de_it 0x2, de_it 0x2010000, de_it 0x2, de_it 0x101, de_it 0x8010000, de_it 0x2, de_it 0x2010000, de_it 0x2, de_it 0x101, de_it 0x8010000, de_it 0x10001080000010007]
set_option maxRecDepth 100000 in
theorem tR_13 : tf_go tV_13 tK_13.2.1.1 tK_13.2.1.2 none tH_13_0 [(tK_13.2.1, tK_13.2.2.2.1, 0, tc_args 0 tK_13.2.2.1, [], ([], 0), ([], 0))] = true := by decide +kernel
set_option maxRecDepth 100000 in
theorem tT_13 {RO : am_O} {sa : Nat → Nat} : tc_true (aP sa) tp_G RO tp_T tp_Z tK_13 := by
  have hC : ∀ c ∈ tC_13, tc_true (aP sa) tp_G RO tp_T tp_Z c := by
    intro c hc
    have hc : c ∈ ([] : List tc_Ct) := hc
    cases hc
  have hP : ∀ p ∈ tJ_13, ∃ hs, tc_plk (aP sa, tV_13.2) p hs = true := by
    intro p hp
    have hp : p ∈ ([] : List tc_Pl) := hp
    cases hp
  exact tc_main (mt := aM_22.1) (hs := tH_13_0) (PL := tJ_13) ⟨tp_G_ok, tMs_13 _, hC, tp_L_ok, tp_G_re⟩ (show am_meth (aP sa) 22 = some aM_22.1 from rfl) aX_22 (by decide +kernel) hP ((tc_go_sa (aP_sa sa _)).trans ((tf_go_s tHC_13).trans tR_13))
noncomputable def tK_14 : tc_Ct := (21, (0, 1), [(2, ([], 0), 0)], ([], [(0, 167)], [], [], [], [], []), [(167, 0), (167, 1), (167, 2), (167, 3)], [((4, 1), ([([(0, -1)], 2147483647), ([(0, 1)], 2147483648), ([(1, -1)], 2147483647), ([(1, 1)], 2147483648), ([(2, -1)], 2147483647), ([(2, 1)], 2147483648), ([(3, -1)], 2147483647), ([(3, 1)], 2147483648)], [], [], [(0, 0, (0, ([(0, 1)], 0), 0)), (0, 1, (0, ([(1, 1)], 0), 0)), (0, 2, (0, ([(2, 1)], 0), 0)), (0, 3, (0, ([(3, 1)], 0), 0))], [], [], []), some (1, ([], 0), 0), ([], 0), ([], 0))])
noncomputable def tJ_14 : List tc_Pl := []
noncomputable def tC_14 : List tc_Ct := [tK_11, tK_13]
def tM_14 (z : Nat) : Option am_Meth := if z = 22 then some aM_22.1 else if z = 20 then some aM_20.1 else none
set_option maxRecDepth 100000 in
theorem tMs_14 (sa : Nat → Nat) : ∀ z mz, tM_14 z = some mz → am_meth (aP sa) z = some mz := by
  intro z mz h
  unfold tM_14 at h
  rcases de_m h with ⟨rfl, rfl⟩ | h
  · exact (show am_meth (aP sa) 22 = some aM_22.1 from rfl)
  rcases de_m h with ⟨rfl, rfl⟩ | h
  · exact (show am_meth (aP sa) 20 = some aM_20.1 from rfl)
  cases h
noncomputable def tV_14 : tc_Ev := (aQ, tp_T, tp_G.2, tp_Z, tM_14, tC_14, tp_L, tK_14.2.2.2.2.1, aM_21.1, aW_21, tK_14.2.1, tK_14.2.2.2.2.2, tJ_14)
theorem tE_14 : tK_14.2.2.2.2.2.all (tc_wex tK_14.2.1.1 tK_14.2.1.2) = true := by decide +kernel
theorem tSS_14 : tC_14.all (fun c => tw_mg tK_14.2.2.2.2.1 c.2.2.2.2.1) = true := by decide +kernel
theorem tHC_14 : ∀ c ∈ tC_14, c.2.2.2.2.1.all tK_14.2.2.2.2.1.contains = true ∧ c.2.2.2.2.2.all (tc_wex c.2.1.1 c.2.1.2) = true := tf_hc tSS_14 (by
  intro c hc
  have hc : c ∈ ([tK_11, tK_13] : List tc_Ct) := hc
  rcases List.mem_cons.mp hc with rfl | hc
  · exact tE_11
  rcases List.mem_cons.mp hc with rfl | hc
  · exact tE_13
  cases hc)
noncomputable def tH_14_0 : List tc_It := [de_it 0x4010000, de_it 0x2, de_it 0xe010000, de_it 0x2, de_it 0x4010000, de_it 0x1020101010301010200000001, de_it 0x8020101080301010200000001, de_it 0x2010000, de_it 0x108000000020006, de_it 0x4010000, de_it 0x2, de_it 0x2010000, de_it 0x2, de_it 0x101, de_it 0x10d0101010c0101000000000400000003, de_it 0x4010000, de_it 0x108000000020006, de_it 0x2010000, de_it 0x8000002020006, de_it 0x10f0101010e0101011101010110010101130101011201010115010101140101000000000000000000000000000100011000020701000208010002090100020a010400010007]
set_option maxRecDepth 100000 in
theorem tR_14 : tf_go tV_14 tK_14.2.1.1 tK_14.2.1.2 none tH_14_0 [(tK_14.2.1, tK_14.2.2.2.1, 0, tc_args 0 tK_14.2.2.1, [], ([], 0), ([], 0))] = true := by decide +kernel
set_option maxRecDepth 100000 in
theorem tT_14 {RO : am_O} {sa : Nat → Nat} (h_11 : tc_true (aP sa) tp_G RO tp_T tp_Z tK_11) (h_13 : tc_true (aP sa) tp_G RO tp_T tp_Z tK_13) : tc_true (aP sa) tp_G RO tp_T tp_Z tK_14 := by
  have hC : ∀ c ∈ tC_14, tc_true (aP sa) tp_G RO tp_T tp_Z c := by
    intro c hc
    have hc : c ∈ ([tK_11, tK_13] : List tc_Ct) := hc
    rcases List.mem_cons.mp hc with rfl | hc
    · exact h_11
    rcases List.mem_cons.mp hc with rfl | hc
    · exact h_13
    cases hc
  have hP : ∀ p ∈ tJ_14, ∃ hs, tc_plk (aP sa, tV_14.2) p hs = true := by
    intro p hp
    have hp : p ∈ ([] : List tc_Pl) := hp
    cases hp
  exact tc_main (mt := aM_21.1) (hs := tH_14_0) (PL := tJ_14) ⟨tp_G_ok, tMs_14 _, hC, tp_L_ok, tp_G_re⟩ (show am_meth (aP sa) 21 = some aM_21.1 from rfl) aX_21 (by decide +kernel) hP ((tc_go_sa (aP_sa sa _)).trans ((tf_go_s tHC_14).trans tR_14))
noncomputable def tK_15 : tc_Ct := (17, (4, 2), [(2, ([], 0), 0), (0, ([(0, 1)], 0), 0), (2, ([], 0), 1), (0, ([(1, 1)], 0), 0), (0, ([(2, 1)], 0), 0)], ([([(0, -1)], 1), ([(0, 1)], 0), ([(1, -1)], 3), ([(1, 1)], 0), ([(2, -1)], 2503), ([(2, 1)], 0), ([(3, -1)], 6000), ([(3, 1)], -11), ([(0, -1), (1, -1)], 3), ([(0, -1), (2, -1)], 2503), ([(0, -1), (3, -1)], 6000), ([(0, -1), (3, 1)], -11), ([(1, -1), (2, 1)], 0), ([(1, 1), (2, -1)], 2500), ([(1, 1), (3, -1)], 5997), ([(1, 1), (3, 1)], -14), ([(2, -1), (3, 1)], 0), ([(2, 1), (3, -1)], 5989), ([(2, 1), (3, 1)], -22), ([(0, -1), (1, 1), (2, -1)], 2500), ([(0, -1), (1, 1), (3, -1)], 5997), ([(0, -1), (2, 1), (3, -1)], 5989)], [(0, 167), (1, 193)], [(1, ([(3, 1)], 0))], [], [], [], []), [(167, 0), (167, 1), (167, 2), (167, 3), (167, 4), (167, 5)], [((8, 2), ([([(0, -1)], 1), ([(0, 1)], 0), ([(1, -1)], 3), ([(1, 1)], 0), ([(2, -1)], 2503), ([(2, 1)], 0), ([(3, -1)], 6000), ([(3, 1)], -11), ([(4, -1)], 2147483647), ([(4, 1)], 2147483648), ([(5, -1)], 2147483647), ([(5, 1)], 2147483648), ([(6, -1)], 2147483647), ([(6, 1)], 2147483648), ([(7, -1)], 2147483647), ([(7, 1)], 2147483648), ([(0, -1), (1, -1)], 3), ([(0, -1), (2, -1)], 2503), ([(0, -1), (3, -1)], 6000), ([(0, -1), (3, 1)], -11), ([(1, -1), (2, 1)], 0), ([(1, 1), (2, -1)], 2500), ([(1, 1), (3, -1)], 5997), ([(1, 1), (3, 1)], -14), ([(2, -1), (3, 1)], 0), ([(2, 1), (3, -1)], 5989), ([(2, 1), (3, 1)], -22), ([(0, -1), (1, 1), (2, -1)], 2500), ([(0, -1), (1, 1), (3, -1)], 5997), ([(0, -1), (2, 1), (3, -1)], 5989)], [], [(1, ([(3, 1)], 0))], [(0, 0, (0, ([(4, 1)], 0), 0)), (0, 1, (0, ([(5, 1)], 0), 0)), (0, 2, (0, ([(6, 1)], 0), 0)), (0, 3, (0, ([(7, 1)], 0), 0))], [], [], []), some (1, ([], 0), 0), ([], 0), ([], 0))])
noncomputable def tJ_15 : List tc_Pl := []
noncomputable def tC_15 : List tc_Ct := [tK_10, tK_12, tK_14]
def tM_15 (z : Nat) : Option am_Meth := if z = 21 then some aM_21.1 else if z = 19 then some aM_19.1 else if z = 18 then some aM_18.1 else none
set_option maxRecDepth 100000 in
theorem tMs_15 (sa : Nat → Nat) : ∀ z mz, tM_15 z = some mz → am_meth (aP sa) z = some mz := by
  intro z mz h
  unfold tM_15 at h
  rcases de_m h with ⟨rfl, rfl⟩ | h
  · exact (show am_meth (aP sa) 21 = some aM_21.1 from rfl)
  rcases de_m h with ⟨rfl, rfl⟩ | h
  · exact (show am_meth (aP sa) 19 = some aM_19.1 from rfl)
  rcases de_m h with ⟨rfl, rfl⟩ | h
  · exact (show am_meth (aP sa) 18 = some aM_18.1 from rfl)
  cases h
noncomputable def tV_15 : tc_Ev := (aQ, tp_T, tp_G.2, tp_Z, tM_15, tC_15, tp_L, tK_15.2.2.2.2.1, aM_17.1, aW_17, tK_15.2.1, tK_15.2.2.2.2.2, tJ_15)
theorem tE_15 : tK_15.2.2.2.2.2.all (tc_wex tK_15.2.1.1 tK_15.2.1.2) = true := by decide +kernel
theorem tSS_15 : tC_15.all (fun c => tw_mg tK_15.2.2.2.2.1 c.2.2.2.2.1) = true := by decide +kernel
theorem tHC_15 : ∀ c ∈ tC_15, c.2.2.2.2.1.all tK_15.2.2.2.2.1.contains = true ∧ c.2.2.2.2.2.all (tc_wex c.2.1.1 c.2.1.2) = true := tf_hc tSS_15 (by
  intro c hc
  have hc : c ∈ ([tK_10, tK_12, tK_14] : List tc_Ct) := hc
  rcases List.mem_cons.mp hc with rfl | hc
  · exact tE_10
  rcases List.mem_cons.mp hc with rfl | hc
  · exact tE_12
  rcases List.mem_cons.mp hc with rfl | hc
  · exact tE_14
  cases hc)
noncomputable def tH_15_0 : List tc_It := [de_it 0x4010000, de_it 0x101010101000101000000000000000000000000000000010a00020001010000020006, de_it 0x8010000, de_it 0x102011102010110010202010112010101110101011001010106010402010202011201100302010e02020201010c0101010d020202010112011002020106010101050101010401010103010101020101000000000000000000000000000000031800020301000202010002010103020002030006, de_it 0x5e5c5452504c2a28262422201e1c1a18161412100e0c0a08060402001c000d, de_it 0x2010000, de_it 0x8000004020006, de_it 0x11501010114010101130101011201010111010101100101010f0101010e0101010d0101010c0101010b0101010601140108030201040113010803020108010101230101012201010121010101200101011f0101011e0101011d0101011c010101120110020201060101010501010104010101030101010201010101010101000101000000000000000000000000000100012600020b0100020a0100020901000208010400010007]
set_option maxRecDepth 100000 in
theorem tR_15 : tf_go tV_15 tK_15.2.1.1 tK_15.2.1.2 none tH_15_0 [(tK_15.2.1, tK_15.2.2.2.1, 0, tc_args 0 tK_15.2.2.1, [], ([], 0), ([], 0))] = true := by decide +kernel
set_option maxRecDepth 100000 in
theorem tT_15 {RO : am_O} {sa : Nat → Nat} (h_10 : tc_true (aP sa) tp_G RO tp_T tp_Z tK_10) (h_12 : tc_true (aP sa) tp_G RO tp_T tp_Z tK_12) (h_14 : tc_true (aP sa) tp_G RO tp_T tp_Z tK_14) : tc_true (aP sa) tp_G RO tp_T tp_Z tK_15 := by
  have hC : ∀ c ∈ tC_15, tc_true (aP sa) tp_G RO tp_T tp_Z c := by
    intro c hc
    have hc : c ∈ ([tK_10, tK_12, tK_14] : List tc_Ct) := hc
    rcases List.mem_cons.mp hc with rfl | hc
    · exact h_10
    rcases List.mem_cons.mp hc with rfl | hc
    · exact h_12
    rcases List.mem_cons.mp hc with rfl | hc
    · exact h_14
    cases hc
  have hP : ∀ p ∈ tJ_15, ∃ hs, tc_plk (aP sa, tV_15.2) p hs = true := by
    intro p hp
    have hp : p ∈ ([] : List tc_Pl) := hp
    cases hp
  exact tc_main (mt := aM_17.1) (hs := tH_15_0) (PL := tJ_15) ⟨tp_G_ok, tMs_15 _, hC, tp_L_ok, tp_G_re⟩ (show am_meth (aP sa) 17 = some aM_17.1 from rfl) aX_17 (by decide +kernel) hP ((tc_go_sa (aP_sa sa _)).trans ((tf_go_s tHC_15).trans tR_15))
noncomputable def tK_16 : tc_Ct := (23, (2, 2), [(2, ([], 0), 0)], ([([(0, -1)], 800), ([(0, 1)], 0), ([(1, -1)], 1600), ([(1, 1)], -64), ([(0, -1), (1, 1)], 0)], [(0, 177), (1, 193)], [(1, ([(1, 1)], 0))], [(0, 0, (2, ([], 0), 1)), (0, 1, (0, ([(0, 1)], 0), 0))], [], [], [(1016, [], []), (1088, [], [])]), [(177, 1)], [((2, 2), ([([(0, -1)], 800), ([(0, 1)], 0), ([(1, -1)], 1600), ([(1, 1)], -64), ([(0, -1), (1, 1)], 0)], [], [(1, ([(1, 1)], 0))], [(0, 1, (0, ([], 0), 0))], [], [], []), none, ([], 0), ([], 0))])
noncomputable def tJ_16 : List tc_Pl := []
noncomputable def tC_16 : List tc_Ct := []
def tM_16 (z : Nat) : Option am_Meth := none
set_option maxRecDepth 100000 in
theorem tMs_16 (sa : Nat → Nat) : ∀ z mz, tM_16 z = some mz → am_meth (aP sa) z = some mz := fun z mz h => by cases h
noncomputable def tV_16 : tc_Ev := (aQ, tp_T, tp_G.2, tp_Z, tM_16, tC_16, tp_L, tK_16.2.2.2.2.1, aM_23.1, aW_23, tK_16.2.1, tK_16.2.2.2.2.2, tJ_16)
theorem tE_16 : tK_16.2.2.2.2.2.all (tc_wex tK_16.2.1.1 tK_16.2.1.2) = true := by decide +kernel
theorem tSS_16 : tC_16.all (fun c => tw_mg tK_16.2.2.2.2.1 c.2.2.2.2.1) = true := by decide +kernel
theorem tHC_16 : ∀ c ∈ tC_16, c.2.2.2.2.1.all tK_16.2.2.2.2.1.contains = true ∧ c.2.2.2.2.2.all (tc_wex c.2.1.1 c.2.1.2) = true := tf_hc tSS_16 (by
  intro c hc
  have hc : c ∈ ([] : List tc_Ct) := hc
  cases hc)
noncomputable def tH_16_0 : List tc_It := [de_it 0x4010000, de_it 0x1030101010201010103010100010001000000000700000003, de_it 0x104010101030101010201010101010101000101000000000000000000000000000100010d0000010007]
set_option maxRecDepth 100000 in
theorem tR_16 : tf_go tV_16 tK_16.2.1.1 tK_16.2.1.2 none tH_16_0 [(tK_16.2.1, tK_16.2.2.2.1, 0, tc_args 0 tK_16.2.2.1, [], ([], 0), ([], 0))] = true := by decide +kernel
set_option maxRecDepth 100000 in
theorem tT_16 {RO : am_O} {sa : Nat → Nat} : tc_true (aP sa) tp_G RO tp_T tp_Z tK_16 := by
  have hC : ∀ c ∈ tC_16, tc_true (aP sa) tp_G RO tp_T tp_Z c := by
    intro c hc
    have hc : c ∈ ([] : List tc_Ct) := hc
    cases hc
  have hP : ∀ p ∈ tJ_16, ∃ hs, tc_plk (aP sa, tV_16.2) p hs = true := by
    intro p hp
    have hp : p ∈ ([] : List tc_Pl) := hp
    cases hp
  exact tc_main (mt := aM_23.1) (hs := tH_16_0) (PL := tJ_16) ⟨tp_G_ok, tMs_16 _, hC, tp_L_ok, tp_G_re⟩ (show am_meth (aP sa) 23 = some aM_23.1 from rfl) aX_23 (by decide +kernel) hP ((tc_go_sa (aP_sa sa _)).trans ((tf_go_s tHC_16).trans tR_16))
noncomputable def tK_17 : tc_Ct := (15, (1, 2), [(2, ([], 0), 0), (0, ([(0, 1)], 0), 0)], ([([(0, -1)], 2147483647), ([(0, 1)], 2147483648)], [(0, 165), (1, 166)], [], [(0, 0, (2, ([], 0), 1))], [], [], [(1016, [], []), (1024, [], []), (1088, [], []), (1096, [], []), (568, [1], [])]), [(167, 0), (167, 1), (167, 2), (167, 3), (167, 4), (167, 5), (177, 1)], [((1, 2), ([([(0, -1)], 2147483647), ([(0, 1)], 2147483648)], [], [], [], [], [], []), some (1, ([], 0), 0), ([], 0), ([], 0))])
noncomputable def tJ_17 : List tc_Pl := []
noncomputable def tC_17 : List tc_Ct := [tK_9, tK_15, tK_16]
def tM_17 (z : Nat) : Option am_Meth := if z = 23 then some aM_23.1 else if z = 17 then some aM_17.1 else if z = 16 then some aM_16.1 else none
set_option maxRecDepth 100000 in
theorem tMs_17 (sa : Nat → Nat) : ∀ z mz, tM_17 z = some mz → am_meth (aP sa) z = some mz := by
  intro z mz h
  unfold tM_17 at h
  rcases de_m h with ⟨rfl, rfl⟩ | h
  · exact (show am_meth (aP sa) 23 = some aM_23.1 from rfl)
  rcases de_m h with ⟨rfl, rfl⟩ | h
  · exact (show am_meth (aP sa) 17 = some aM_17.1 from rfl)
  rcases de_m h with ⟨rfl, rfl⟩ | h
  · exact (show am_meth (aP sa) 16 = some aM_16.1 from rfl)
  cases h
noncomputable def tV_17 : tc_Ev := (aQ, tp_T, tp_G.2, tp_Z, tM_17, tC_17, tp_L, tK_17.2.2.2.2.1, aM_15.1, aW_15, tK_17.2.1, tK_17.2.2.2.2.2, tJ_17)
theorem tE_17 : tK_17.2.2.2.2.2.all (tc_wex tK_17.2.1.1 tK_17.2.1.2) = true := by decide +kernel
theorem tSS_17 : tC_17.all (fun c => tw_mg tK_17.2.2.2.2.1 c.2.2.2.2.1) = true := by decide +kernel
theorem tHC_17 : ∀ c ∈ tC_17, c.2.2.2.2.1.all tK_17.2.2.2.2.1.contains = true ∧ c.2.2.2.2.2.all (tc_wex c.2.1.1 c.2.1.2) = true := tf_hc tSS_17 (by
  intro c hc
  have hc : c ∈ ([tK_9, tK_15, tK_16] : List tc_Ct) := hc
  rcases List.mem_cons.mp hc with rfl | hc
  · exact tE_9
  rcases List.mem_cons.mp hc with rfl | hc
  · exact tE_15
  rcases List.mem_cons.mp hc with rfl | hc
  · exact tE_16
  cases hc)
noncomputable def tH_17_0 : List tc_It := [de_it 0x2010000, de_it 0x101010101000101000000000000000000000000000000000a000200010100010006, de_it 0x10000010401010300000001, de_it 0x2010000, de_it 0x101010101000101000000000000000000000000000100010a0000010007, de_it 0x10105010100000300000001, de_it 0x2010000, de_it 0x2, de_it 0x2, de_it 0x4010000, de_it 0x2, de_it 0x2, de_it 0x8010011, de_it 0x6010010, de_it 0x4010000, de_it 0x2, de_it 0x2, de_it 0x6010010, de_it 0x109010701020301010701020201010a01020201010901080201010901070201010b01010108010101070101010a010101090101010801020201010701020201010a0102020101020101010801010107010101090101010a0101000100010103010101020101000000000000000000000000000000041e000201010002020100000002000104080402030006, de_it 0x565452504e423a38363432302e2c161412100e060415000d, de_it 0x4010000, de_it 0x2, de_it 0x106010101030101010201010104010101050101000000000000000000000000000000000d000201010002020102080604030006, de_it 0x2010000, de_it 0x101010101000101000000000000000000000000000100010a0000010007]
set_option maxRecDepth 100000 in
theorem tR_17 : tf_go tV_17 tK_17.2.1.1 tK_17.2.1.2 none tH_17_0 [(tK_17.2.1, tK_17.2.2.2.1, 0, tc_args 0 tK_17.2.2.1, [], ([], 0), ([], 0))] = true := by decide +kernel
set_option maxRecDepth 100000 in
theorem tT_17 {RO : am_O} {sa : Nat → Nat} (h_9 : tc_true (aP sa) tp_G RO tp_T tp_Z tK_9) (h_15 : tc_true (aP sa) tp_G RO tp_T tp_Z tK_15) (h_16 : tc_true (aP sa) tp_G RO tp_T tp_Z tK_16) : tc_true (aP sa) tp_G RO tp_T tp_Z tK_17 := by
  have hC : ∀ c ∈ tC_17, tc_true (aP sa) tp_G RO tp_T tp_Z c := by
    intro c hc
    have hc : c ∈ ([tK_9, tK_15, tK_16] : List tc_Ct) := hc
    rcases List.mem_cons.mp hc with rfl | hc
    · exact h_9
    rcases List.mem_cons.mp hc with rfl | hc
    · exact h_15
    rcases List.mem_cons.mp hc with rfl | hc
    · exact h_16
    cases hc
  have hP : ∀ p ∈ tJ_17, ∃ hs, tc_plk (aP sa, tV_17.2) p hs = true := by
    intro p hp
    have hp : p ∈ ([] : List tc_Pl) := hp
    cases hp
  exact tc_main (mt := aM_15.1) (hs := tH_17_0) (PL := tJ_17) ⟨tp_G_ok, tMs_17 _, hC, tp_L_ok, tp_G_re⟩ (show am_meth (aP sa) 15 = some aM_15.1 from rfl) aX_15 (by decide +kernel) hP ((tc_go_sa (aP_sa sa _)).trans ((tf_go_s tHC_17).trans tR_17))
noncomputable def tK_18 : tc_Ct := (26, (1, 1), [(2, ([], 0), 0), (0, ([(0, 1)], 0), 0), (1, ([], 0), 0)], ([([(0, -1)], 2147483647), ([(0, 1)], 2147483648)], [(0, 167)], [], [], [], [], []), [(167, 0), (167, 1), (167, 2), (167, 3), (167, 5)], [((5, 1), ([([(0, -1)], 2147483647), ([(0, 1)], 2147483648), ([(1, -1)], 2147483647), ([(1, 1)], 2147483648), ([(2, -1)], 2147483647), ([(2, 1)], 2147483648), ([(3, -1)], 2147483647), ([(3, 1)], 2147483648), ([(4, -1)], 2147483647), ([(4, 1)], 2147483648)], [], [], [(0, 0, (0, ([(1, 1)], 0), 0)), (0, 1, (0, ([(2, 1)], 0), 0)), (0, 2, (0, ([(3, 1)], 0), 0)), (0, 3, (0, ([(4, 1)], 0), 0)), (0, 5, (0, ([], 8), 0))], [], [], []), none, ([], 0), ([], 0))])
noncomputable def tJ_18 : List tc_Pl := []
noncomputable def tC_18 : List tc_Ct := [tK_10, tK_11]
def tM_18 (z : Nat) : Option am_Meth := if z = 20 then some aM_20.1 else if z = 18 then some aM_18.1 else none
set_option maxRecDepth 100000 in
theorem tMs_18 (sa : Nat → Nat) : ∀ z mz, tM_18 z = some mz → am_meth (aP sa) z = some mz := by
  intro z mz h
  unfold tM_18 at h
  rcases de_m h with ⟨rfl, rfl⟩ | h
  · exact (show am_meth (aP sa) 20 = some aM_20.1 from rfl)
  rcases de_m h with ⟨rfl, rfl⟩ | h
  · exact (show am_meth (aP sa) 18 = some aM_18.1 from rfl)
  cases h
noncomputable def tV_18 : tc_Ev := (aQ, tp_T, tp_G.2, tp_Z, tM_18, tC_18, tp_L, tK_18.2.2.2.2.1, aM_26.1, aW_26, tK_18.2.1, tK_18.2.2.2.2.2, tJ_18)
theorem tE_18 : tK_18.2.2.2.2.2.all (tc_wex tK_18.2.1.1 tK_18.2.1.2) = true := by decide +kernel
theorem tSS_18 : tC_18.all (fun c => tw_mg tK_18.2.2.2.2.1 c.2.2.2.2.1) = true := by decide +kernel
theorem tHC_18 : ∀ c ∈ tC_18, c.2.2.2.2.1.all tK_18.2.2.2.2.1.contains = true ∧ c.2.2.2.2.2.all (tc_wex c.2.1.1 c.2.1.2) = true := tf_hc tSS_18 (by
  intro c hc
  have hc : c ∈ ([tK_10, tK_11] : List tc_Ct) := hc
  rcases List.mem_cons.mp hc with rfl | hc
  · exact tE_10
  rcases List.mem_cons.mp hc with rfl | hc
  · exact tE_11
  cases hc)
noncomputable def tH_18_0 : List tc_It := [de_it 0x4010000, de_it 0x101010101000101000000000000000000000000000000010a00020001010000020006, de_it 0x8010000, de_it 0x108000002020006, de_it 0x4010000, de_it 0x10001000000000400000003, de_it 0x10d0101010c0101010f0101010e01010111010101100101011301010112010101010101010001010000000000000000000000000001000112000205010002060100020701000208010400010007]
set_option maxRecDepth 100000 in
theorem tR_18 : tf_go tV_18 tK_18.2.1.1 tK_18.2.1.2 none tH_18_0 [(tK_18.2.1, tK_18.2.2.2.1, 0, tc_args 0 tK_18.2.2.1, [], ([], 0), ([], 0))] = true := by decide +kernel
set_option maxRecDepth 100000 in
theorem tT_18 {RO : am_O} {sa : Nat → Nat} (h_10 : tc_true (aP sa) tp_G RO tp_T tp_Z tK_10) (h_11 : tc_true (aP sa) tp_G RO tp_T tp_Z tK_11) : tc_true (aP sa) tp_G RO tp_T tp_Z tK_18 := by
  have hC : ∀ c ∈ tC_18, tc_true (aP sa) tp_G RO tp_T tp_Z c := by
    intro c hc
    have hc : c ∈ ([tK_10, tK_11] : List tc_Ct) := hc
    rcases List.mem_cons.mp hc with rfl | hc
    · exact h_10
    rcases List.mem_cons.mp hc with rfl | hc
    · exact h_11
    cases hc
  have hP : ∀ p ∈ tJ_18, ∃ hs, tc_plk (aP sa, tV_18.2) p hs = true := by
    intro p hp
    have hp : p ∈ ([] : List tc_Pl) := hp
    cases hp
  exact tc_main (mt := aM_26.1) (hs := tH_18_0) (PL := tJ_18) ⟨tp_G_ok, tMs_18 _, hC, tp_L_ok, tp_G_re⟩ (show am_meth (aP sa) 26 = some aM_26.1 from rfl) aX_26 (by decide +kernel) hP ((tc_go_sa (aP_sa sa _)).trans ((tf_go_s tHC_18).trans tR_18))
noncomputable def tK_19 : tc_Ct := (27, (1, 1), [(2, ([], 0), 0), (0, ([(0, 1)], 0), 0), (1, ([], 0), 0), (1, ([], 0), 0)], ([([(0, -1)], 2147483647), ([(0, 1)], 2147483648)], [(0, 167)], [], [], [], [], []), [(167, 0), (167, 1), (167, 2), (167, 3), (167, 5)], [((5, 1), ([([(0, -1)], 2147483647), ([(0, 1)], 2147483648), ([(1, -1)], 2147483647), ([(1, 1)], 2147483648), ([(2, -1)], 2147483647), ([(2, 1)], 2147483648), ([(3, -1)], 2147483647), ([(3, 1)], 2147483648), ([(4, -1)], 2147483647), ([(4, 1)], 2147483648)], [], [], [(0, 0, (0, ([(1, 1)], 0), 0)), (0, 1, (0, ([(2, 1)], 0), 0)), (0, 2, (0, ([(3, 1)], 0), 0)), (0, 3, (0, ([(4, 1)], 0), 0)), (0, 5, (0, ([], 0), 0))], [], [], []), some (1, ([], 0), 0), ([], 0), ([], 0))])
noncomputable def tJ_19 : List tc_Pl := []
noncomputable def tC_19 : List tc_Ct := [tK_10, tK_11, tK_13]
def tM_19 (z : Nat) : Option am_Meth := if z = 22 then some aM_22.1 else if z = 20 then some aM_20.1 else if z = 18 then some aM_18.1 else none
set_option maxRecDepth 100000 in
theorem tMs_19 (sa : Nat → Nat) : ∀ z mz, tM_19 z = some mz → am_meth (aP sa) z = some mz := by
  intro z mz h
  unfold tM_19 at h
  rcases de_m h with ⟨rfl, rfl⟩ | h
  · exact (show am_meth (aP sa) 22 = some aM_22.1 from rfl)
  rcases de_m h with ⟨rfl, rfl⟩ | h
  · exact (show am_meth (aP sa) 20 = some aM_20.1 from rfl)
  rcases de_m h with ⟨rfl, rfl⟩ | h
  · exact (show am_meth (aP sa) 18 = some aM_18.1 from rfl)
  cases h
noncomputable def tV_19 : tc_Ev := (aQ, tp_T, tp_G.2, tp_Z, tM_19, tC_19, tp_L, tK_19.2.2.2.2.1, aM_27.1, aW_27, tK_19.2.1, tK_19.2.2.2.2.2, tJ_19)
theorem tE_19 : tK_19.2.2.2.2.2.all (tc_wex tK_19.2.1.1 tK_19.2.1.2) = true := by decide +kernel
theorem tSS_19 : tC_19.all (fun c => tw_mg tK_19.2.2.2.2.1 c.2.2.2.2.1) = true := by decide +kernel
theorem tHC_19 : ∀ c ∈ tC_19, c.2.2.2.2.1.all tK_19.2.2.2.2.1.contains = true ∧ c.2.2.2.2.2.all (tc_wex c.2.1.1 c.2.1.2) = true := tf_hc tSS_19 (by
  intro c hc
  have hc : c ∈ ([tK_10, tK_11, tK_13] : List tc_Ct) := hc
  rcases List.mem_cons.mp hc with rfl | hc
  · exact tE_10
  rcases List.mem_cons.mp hc with rfl | hc
  · exact tE_11
  rcases List.mem_cons.mp hc with rfl | hc
  · exact tE_13
  cases hc)
noncomputable def tH_19_0 : List tc_It := [de_it 0x4010000, de_it 0x101010101000101000000000000000000000000000000010a00020001010000020006, de_it 0x8010000, de_it 0x108000002020006, de_it 0x4010000, de_it 0x108000002020006, de_it 0x4010000, de_it 0x108000002020006, de_it 0x4010000, de_it 0x2, de_it 0x2010000, de_it 0x101, de_it 0x125010101240101000000000400000003, de_it 0x4010000, de_it 0x108000002020006, de_it 0x5a58565452504e4c02000a000d, de_it 0x2010000, de_it 0x8000004020006, de_it 0x10301010102010101050101010401010107010101060101010901010108010101010101010001010000000000000000000000000001000112000212010002130100021401000215010400010007]
set_option maxRecDepth 100000 in
theorem tR_19 : tf_go tV_19 tK_19.2.1.1 tK_19.2.1.2 none tH_19_0 [(tK_19.2.1, tK_19.2.2.2.1, 0, tc_args 0 tK_19.2.2.1, [], ([], 0), ([], 0))] = true := by decide +kernel
set_option maxRecDepth 100000 in
theorem tT_19 {RO : am_O} {sa : Nat → Nat} (h_10 : tc_true (aP sa) tp_G RO tp_T tp_Z tK_10) (h_11 : tc_true (aP sa) tp_G RO tp_T tp_Z tK_11) (h_13 : tc_true (aP sa) tp_G RO tp_T tp_Z tK_13) : tc_true (aP sa) tp_G RO tp_T tp_Z tK_19 := by
  have hC : ∀ c ∈ tC_19, tc_true (aP sa) tp_G RO tp_T tp_Z c := by
    intro c hc
    have hc : c ∈ ([tK_10, tK_11, tK_13] : List tc_Ct) := hc
    rcases List.mem_cons.mp hc with rfl | hc
    · exact h_10
    rcases List.mem_cons.mp hc with rfl | hc
    · exact h_11
    rcases List.mem_cons.mp hc with rfl | hc
    · exact h_13
    cases hc
  have hP : ∀ p ∈ tJ_19, ∃ hs, tc_plk (aP sa, tV_19.2) p hs = true := by
    intro p hp
    have hp : p ∈ ([] : List tc_Pl) := hp
    cases hp
  exact tc_main (mt := aM_27.1) (hs := tH_19_0) (PL := tJ_19) ⟨tp_G_ok, tMs_19 _, hC, tp_L_ok, tp_G_re⟩ (show am_meth (aP sa) 27 = some aM_27.1 from rfl) aX_27 (by decide +kernel) hP ((tc_go_sa (aP_sa sa _)).trans ((tf_go_s tHC_19).trans tR_19))
noncomputable def tK_20 : tc_Ct := (25, (3, 2), [(2, ([], 0), 0), (0, ([(0, 1)], 0), 0), (1, ([], 0), 0), (2, ([], 0), 1), (0, ([], 0), 0), (0, ([(1, 1)], 0), 0)], ([([(0, -1)], 2147483647), ([(0, 1)], 2147483648), ([(1, -1)], 3661), ([(1, 1)], 0), ([(2, -1)], 8192), ([(2, 1)], -14), ([(1, -1), (2, 1)], 0), ([(1, 1), (2, -1)], 8183), ([(1, 1), (2, 1)], -28)], [(0, 167), (1, 193)], [(1, ([(2, 1)], 0))], [], [], [], []), [(167, 0), (167, 1), (167, 2), (167, 3), (167, 4), (167, 5)], [((7, 2), ([([(0, -1)], 2147483647), ([(0, 1)], 2147483648), ([(1, -1)], 3661), ([(1, 1)], 0), ([(2, -1)], 8192), ([(2, 1)], -14), ([(3, -1)], 2147483647), ([(3, 1)], 2147483648), ([(4, -1)], 2147483647), ([(4, 1)], 2147483648), ([(5, -1)], 2147483647), ([(5, 1)], 2147483648), ([(6, -1)], 2147483647), ([(6, 1)], 2147483648), ([(1, -1), (2, 1)], 0), ([(1, 1), (2, -1)], 8183), ([(1, 1), (2, 1)], -28)], [], [(1, ([(2, 1)], 0))], [(0, 0, (0, ([(3, 1)], 0), 0)), (0, 1, (0, ([(4, 1)], 0), 0)), (0, 2, (0, ([(5, 1)], 0), 0)), (0, 3, (0, ([(6, 1)], 0), 0)), (0, 5, (0, ([], 0), 0))], [], [], []), some (1, ([], 0), 0), ([], 0), ([], 0))])
noncomputable def tJ_20 : List tc_Pl := []
noncomputable def tC_20 : List tc_Ct := [tK_18, tK_12, tK_14, tK_19]
def tM_20 (z : Nat) : Option am_Meth := if z = 27 then some aM_27.1 else if z = 26 then some aM_26.1 else if z = 21 then some aM_21.1 else if z = 19 then some aM_19.1 else none
set_option maxRecDepth 100000 in
theorem tMs_20 (sa : Nat → Nat) : ∀ z mz, tM_20 z = some mz → am_meth (aP sa) z = some mz := by
  intro z mz h
  unfold tM_20 at h
  rcases de_m h with ⟨rfl, rfl⟩ | h
  · exact (show am_meth (aP sa) 27 = some aM_27.1 from rfl)
  rcases de_m h with ⟨rfl, rfl⟩ | h
  · exact (show am_meth (aP sa) 26 = some aM_26.1 from rfl)
  rcases de_m h with ⟨rfl, rfl⟩ | h
  · exact (show am_meth (aP sa) 21 = some aM_21.1 from rfl)
  rcases de_m h with ⟨rfl, rfl⟩ | h
  · exact (show am_meth (aP sa) 19 = some aM_19.1 from rfl)
  cases h
noncomputable def tV_20 : tc_Ev := (aQ, tp_T, tp_G.2, tp_Z, tM_20, tC_20, tp_L, tK_20.2.2.2.2.1, aM_25.1, aW_25, tK_20.2.1, tK_20.2.2.2.2.2, tJ_20)
theorem tE_20 : tK_20.2.2.2.2.2.all (tc_wex tK_20.2.1.1 tK_20.2.1.2) = true := by decide +kernel
theorem tSS_20 : tC_20.all (fun c => tw_mg tK_20.2.2.2.2.1 c.2.2.2.2.1) = true := by decide +kernel
theorem tHC_20 : ∀ c ∈ tC_20, c.2.2.2.2.1.all tK_20.2.2.2.2.1.contains = true ∧ c.2.2.2.2.2.all (tc_wex c.2.1.1 c.2.1.2) = true := tf_hc tSS_20 (by
  intro c hc
  have hc : c ∈ ([tK_18, tK_12, tK_14, tK_19] : List tc_Ct) := hc
  rcases List.mem_cons.mp hc with rfl | hc
  · exact tE_18
  rcases List.mem_cons.mp hc with rfl | hc
  · exact tE_12
  rcases List.mem_cons.mp hc with rfl | hc
  · exact tE_14
  rcases List.mem_cons.mp hc with rfl | hc
  · exact tE_19
  cases hc)
noncomputable def tH_20_0 : List tc_It := [de_it 0x6010000, de_it 0x101010101000101000000000000000000000000000000020a00020001010000020006, de_it 0x8010000, de_it 0x1070101010601010108010101070101010601010104010202010108010602020104010101030101010201010108010602020104010101030101010201010001000100000000000000000000000000000003180002020100020101000003020002030006, de_it 0x8010000, de_it 0x8000004020006, de_it 0x5452504e4c4a48463a100e0c0a080604020012000d, de_it 0x101010101000101000000000000000000000000000000030a00020001010006020006, de_it 0x10801010107010101060101011b0101011a01010119010101180101011701010116010101150101011401010108010602020104010101030101010201010101010101000101000000000000000000000000000100011900020e0100020d0100020c0100020b010400010007]
set_option maxRecDepth 100000 in
theorem tR_20 : tf_go tV_20 tK_20.2.1.1 tK_20.2.1.2 none tH_20_0 [(tK_20.2.1, tK_20.2.2.2.1, 0, tc_args 0 tK_20.2.2.1, [], ([], 0), ([], 0))] = true := by decide +kernel
set_option maxRecDepth 100000 in
theorem tT_20 {RO : am_O} {sa : Nat → Nat} (h_12 : tc_true (aP sa) tp_G RO tp_T tp_Z tK_12) (h_14 : tc_true (aP sa) tp_G RO tp_T tp_Z tK_14) (h_18 : tc_true (aP sa) tp_G RO tp_T tp_Z tK_18) (h_19 : tc_true (aP sa) tp_G RO tp_T tp_Z tK_19) : tc_true (aP sa) tp_G RO tp_T tp_Z tK_20 := by
  have hC : ∀ c ∈ tC_20, tc_true (aP sa) tp_G RO tp_T tp_Z c := by
    intro c hc
    have hc : c ∈ ([tK_18, tK_12, tK_14, tK_19] : List tc_Ct) := hc
    rcases List.mem_cons.mp hc with rfl | hc
    · exact h_18
    rcases List.mem_cons.mp hc with rfl | hc
    · exact h_12
    rcases List.mem_cons.mp hc with rfl | hc
    · exact h_14
    rcases List.mem_cons.mp hc with rfl | hc
    · exact h_19
    cases hc
  have hP : ∀ p ∈ tJ_20, ∃ hs, tc_plk (aP sa, tV_20.2) p hs = true := by
    intro p hp
    have hp : p ∈ ([] : List tc_Pl) := hp
    cases hp
  exact tc_main (mt := aM_25.1) (hs := tH_20_0) (PL := tJ_20) ⟨tp_G_ok, tMs_20 _, hC, tp_L_ok, tp_G_re⟩ (show am_meth (aP sa) 25 = some aM_25.1 from rfl) aX_25 (by decide +kernel) hP ((tc_go_sa (aP_sa sa _)).trans ((tf_go_s tHC_20).trans tR_20))
noncomputable def tK_21 : tc_Ct := (24, (1, 2), [(2, ([], 0), 0), (0, ([(0, 1)], 0), 0), (1, ([], 0), 0)], ([([(0, -1)], 2147483647), ([(0, 1)], 2147483648)], [(0, 165), (1, 166)], [], [(0, 0, (2, ([], 0), 1))], [], [], [(1016, [], []), (1024, [], []), (1088, [], []), (1096, [], []), (568, [1], [])]), [(167, 0), (167, 1), (167, 2), (167, 3), (167, 4), (167, 5), (177, 1)], [((1, 2), ([([(0, -1)], 2147483647), ([(0, 1)], 2147483648)], [], [], [], [], [], []), some (1, ([], 0), 0), ([], 0), ([], 0))])
noncomputable def tJ_21 : List tc_Pl := []
noncomputable def tC_21 : List tc_Ct := [tK_9, tK_20, tK_16]
def tM_21 (z : Nat) : Option am_Meth := if z = 25 then some aM_25.1 else if z = 23 then some aM_23.1 else if z = 16 then some aM_16.1 else none
set_option maxRecDepth 100000 in
theorem tMs_21 (sa : Nat → Nat) : ∀ z mz, tM_21 z = some mz → am_meth (aP sa) z = some mz := by
  intro z mz h
  unfold tM_21 at h
  rcases de_m h with ⟨rfl, rfl⟩ | h
  · exact (show am_meth (aP sa) 25 = some aM_25.1 from rfl)
  rcases de_m h with ⟨rfl, rfl⟩ | h
  · exact (show am_meth (aP sa) 23 = some aM_23.1 from rfl)
  rcases de_m h with ⟨rfl, rfl⟩ | h
  · exact (show am_meth (aP sa) 16 = some aM_16.1 from rfl)
  cases h
noncomputable def tV_21 : tc_Ev := (aQ, tp_T, tp_G.2, tp_Z, tM_21, tC_21, tp_L, tK_21.2.2.2.2.1, aM_24.1, aW_24, tK_21.2.1, tK_21.2.2.2.2.2, tJ_21)
theorem tE_21 : tK_21.2.2.2.2.2.all (tc_wex tK_21.2.1.1 tK_21.2.1.2) = true := by decide +kernel
theorem tSS_21 : tC_21.all (fun c => tw_mg tK_21.2.2.2.2.1 c.2.2.2.2.1) = true := by decide +kernel
theorem tHC_21 : ∀ c ∈ tC_21, c.2.2.2.2.1.all tK_21.2.2.2.2.1.contains = true ∧ c.2.2.2.2.2.all (tc_wex c.2.1.1 c.2.1.2) = true := tf_hc tSS_21 (by
  intro c hc
  have hc : c ∈ ([tK_9, tK_20, tK_16] : List tc_Ct) := hc
  rcases List.mem_cons.mp hc with rfl | hc
  · exact tE_9
  rcases List.mem_cons.mp hc with rfl | hc
  · exact tE_20
  rcases List.mem_cons.mp hc with rfl | hc
  · exact tE_16
  cases hc)
noncomputable def tH_21_0 : List tc_It := [de_it 0x2010000, de_it 0x101010101000101000000000000000000000000000000000a000200010100010006, de_it 0x10000010401010300000001, de_it 0x2010000, de_it 0x101010101000101000000000000000000000000000100010a0000010007, de_it 0x10105010100000300000001, de_it 0x2010000, de_it 0x2, de_it 0x2, de_it 0x6010000, de_it 0x2, de_it 0x2, de_it 0x8010011, de_it 0x6010010, de_it 0x4010000, de_it 0x2, de_it 0x2, de_it 0x6010010, de_it 0x10901080201010901070201010b0101010801010107010101090101010a01010103010101020101000000000000000000000000000000051100020101000202010002000103080402030006, de_it 0x4010000, de_it 0x2, de_it 0x10b0101010801010107010101090101010a0101000000000000000000000000000000000d000201010002020102080604030006, de_it 0x2010000, de_it 0x103010101020101000000000000000000000000000100010a0000010007]
set_option maxRecDepth 100000 in
theorem tR_21 : tf_go tV_21 tK_21.2.1.1 tK_21.2.1.2 none tH_21_0 [(tK_21.2.1, tK_21.2.2.2.1, 0, tc_args 0 tK_21.2.2.1, [], ([], 0), ([], 0))] = true := by decide +kernel
set_option maxRecDepth 100000 in
theorem tT_21 {RO : am_O} {sa : Nat → Nat} (h_9 : tc_true (aP sa) tp_G RO tp_T tp_Z tK_9) (h_16 : tc_true (aP sa) tp_G RO tp_T tp_Z tK_16) (h_20 : tc_true (aP sa) tp_G RO tp_T tp_Z tK_20) : tc_true (aP sa) tp_G RO tp_T tp_Z tK_21 := by
  have hC : ∀ c ∈ tC_21, tc_true (aP sa) tp_G RO tp_T tp_Z c := by
    intro c hc
    have hc : c ∈ ([tK_9, tK_20, tK_16] : List tc_Ct) := hc
    rcases List.mem_cons.mp hc with rfl | hc
    · exact h_9
    rcases List.mem_cons.mp hc with rfl | hc
    · exact h_20
    rcases List.mem_cons.mp hc with rfl | hc
    · exact h_16
    cases hc
  have hP : ∀ p ∈ tJ_21, ∃ hs, tc_plk (aP sa, tV_21.2) p hs = true := by
    intro p hp
    have hp : p ∈ ([] : List tc_Pl) := hp
    cases hp
  exact tc_main (mt := aM_24.1) (hs := tH_21_0) (PL := tJ_21) ⟨tp_G_ok, tMs_21 _, hC, tp_L_ok, tp_G_re⟩ (show am_meth (aP sa) 24 = some aM_24.1 from rfl) aX_24 (by decide +kernel) hP ((tc_go_sa (aP_sa sa _)).trans ((tf_go_s tHC_21).trans tR_21))
noncomputable def tK_22 : tc_Ct := (30, (1, 1), [(2, ([], 0), 0), (0, ([(0, 1)], 0), 0)], ([([(0, -1)], 2147483647), ([(0, 1)], 2147483648)], [(0, 167)], [], [], [], [], []), [(167, 0), (167, 1), (167, 2), (167, 3), (167, 4), (167, 5)], [((2, 1), ([([(0, -1)], 2147483647), ([(0, 1)], 2147483648), ([(1, -1)], 2147483647), ([(1, 1)], 2147483648)], [], [], [(0, 4, (1, ([], 0), 0)), (0, 5, (0, ([(1, 1)], 0), 0))], [], [], []), none, ([], 0), ([], 0))])
noncomputable def tJ_22 : List tc_Pl := []
noncomputable def tC_22 : List tc_Ct := [tK_11]
def tM_22 (z : Nat) : Option am_Meth := if z = 20 then some aM_20.1 else none
set_option maxRecDepth 100000 in
theorem tMs_22 (sa : Nat → Nat) : ∀ z mz, tM_22 z = some mz → am_meth (aP sa) z = some mz := by
  intro z mz h
  unfold tM_22 at h
  rcases de_m h with ⟨rfl, rfl⟩ | h
  · exact (show am_meth (aP sa) 20 = some aM_20.1 from rfl)
  cases h
noncomputable def tV_22 : tc_Ev := (aQ, tp_T, tp_G.2, tp_Z, tM_22, tC_22, tp_L, tK_22.2.2.2.2.1, aM_30.1, aW_30, tK_22.2.1, tK_22.2.2.2.2.2, tJ_22)
theorem tE_22 : tK_22.2.2.2.2.2.all (tc_wex tK_22.2.1.1 tK_22.2.1.2) = true := by decide +kernel
theorem tSS_22 : tC_22.all (fun c => tw_mg tK_22.2.2.2.2.1 c.2.2.2.2.1) = true := by decide +kernel
theorem tHC_22 : ∀ c ∈ tC_22, c.2.2.2.2.1.all tK_22.2.2.2.2.1.contains = true ∧ c.2.2.2.2.2.all (tc_wex c.2.1.1 c.2.1.2) = true := tf_hc tSS_22 (by
  intro c hc
  have hc : c ∈ ([tK_11] : List tc_Ct) := hc
  rcases List.mem_cons.mp hc with rfl | hc
  · exact tE_11
  cases hc)
noncomputable def tH_22_0 : List tc_It := [de_it 0x4010000, de_it 0x2, de_it 0xe010000, de_it 0x400000003, de_it 0x4010000, de_it 0x2, de_it 0x2010000, de_it 0x101, de_it 0x107010101060101000000000400000003, de_it 0x2010000, de_it 0x2, de_it 0x4010000, de_it 0x1080101000000000300000001, de_it 0x1060101010701010101010101000101000000000000000000000000000100010c000203010100010007, de_it 0x4010000, de_it 0x2, de_it 0x108000000020006, de_it 0x1060101010701010101010101000101000000000000000000000000000100010c000203010100010007]
set_option maxRecDepth 100000 in
theorem tR_22 : tf_go tV_22 tK_22.2.1.1 tK_22.2.1.2 none tH_22_0 [(tK_22.2.1, tK_22.2.2.2.1, 0, tc_args 0 tK_22.2.2.1, [], ([], 0), ([], 0))] = true := by decide +kernel
set_option maxRecDepth 100000 in
theorem tT_22 {RO : am_O} {sa : Nat → Nat} (h_11 : tc_true (aP sa) tp_G RO tp_T tp_Z tK_11) : tc_true (aP sa) tp_G RO tp_T tp_Z tK_22 := by
  have hC : ∀ c ∈ tC_22, tc_true (aP sa) tp_G RO tp_T tp_Z c := by
    intro c hc
    have hc : c ∈ ([tK_11] : List tc_Ct) := hc
    rcases List.mem_cons.mp hc with rfl | hc
    · exact h_11
    cases hc
  have hP : ∀ p ∈ tJ_22, ∃ hs, tc_plk (aP sa, tV_22.2) p hs = true := by
    intro p hp
    have hp : p ∈ ([] : List tc_Pl) := hp
    cases hp
  exact tc_main (mt := aM_30.1) (hs := tH_22_0) (PL := tJ_22) ⟨tp_G_ok, tMs_22 _, hC, tp_L_ok, tp_G_re⟩ (show am_meth (aP sa) 30 = some aM_30.1 from rfl) aX_30 (by decide +kernel) hP ((tc_go_sa (aP_sa sa _)).trans ((tf_go_s tHC_22).trans tR_22))
noncomputable def tK_23 : tc_Ct := (31, (0, 1), [(2, ([], 0), 0), (1, ([], 0), 0)], ([], [(0, 167)], [], [], [], [], []), [(167, 0), (167, 1), (167, 2), (167, 3), (167, 4), (167, 5)], [((5, 1), ([([(0, -1)], 2147483647), ([(0, 1)], 2147483648), ([(1, -1)], 2147483647), ([(1, 1)], 2147483648), ([(2, -1)], 2147483647), ([(2, 1)], 2147483648), ([(3, -1)], 2147483647), ([(3, 1)], 2147483648), ([(4, -1)], 2147483647), ([(4, 1)], 2147483648)], [], [], [(0, 0, (0, ([(1, 1)], 0), 0)), (0, 1, (0, ([(2, 1)], 0), 0)), (0, 2, (0, ([(3, 1)], 0), 0)), (0, 3, (0, ([(4, 1)], 0), 0)), (0, 4, (1, ([], 0), 0)), (0, 5, (0, ([(0, 1)], 0), 0))], [], [], []), none, ([], 0), ([], 0))])
noncomputable def tJ_23 : List tc_Pl := []
noncomputable def tC_23 : List tc_Ct := [tK_11]
def tM_23 (z : Nat) : Option am_Meth := if z = 20 then some aM_20.1 else none
set_option maxRecDepth 100000 in
theorem tMs_23 (sa : Nat → Nat) : ∀ z mz, tM_23 z = some mz → am_meth (aP sa) z = some mz := by
  intro z mz h
  unfold tM_23 at h
  rcases de_m h with ⟨rfl, rfl⟩ | h
  · exact (show am_meth (aP sa) 20 = some aM_20.1 from rfl)
  cases h
noncomputable def tV_23 : tc_Ev := (aQ, tp_T, tp_G.2, tp_Z, tM_23, tC_23, tp_L, tK_23.2.2.2.2.1, aM_31.1, aW_31, tK_23.2.1, tK_23.2.2.2.2.2, tJ_23)
theorem tE_23 : tK_23.2.2.2.2.2.all (tc_wex tK_23.2.1.1 tK_23.2.1.2) = true := by decide +kernel
theorem tSS_23 : tC_23.all (fun c => tw_mg tK_23.2.2.2.2.1 c.2.2.2.2.1) = true := by decide +kernel
theorem tHC_23 : ∀ c ∈ tC_23, c.2.2.2.2.1.all tK_23.2.2.2.2.1.contains = true ∧ c.2.2.2.2.2.all (tc_wex c.2.1.1 c.2.1.2) = true := tf_hc tSS_23 (by
  intro c hc
  have hc : c ∈ ([tK_11] : List tc_Ct) := hc
  rcases List.mem_cons.mp hc with rfl | hc
  · exact tE_11
  cases hc)
noncomputable def tH_23_0 : List tc_It := [de_it 0x4010000, de_it 0x2, de_it 0x4010000, de_it 0x8030101080201010200000001, de_it 0x6010000, de_it 0x8020101000000000300000001, de_it 0x104010801010201010100000e, de_it 0x2010000, de_it 0x2, de_it 0x4010000, de_it 0x8050101080301010200000001, de_it 0xa010000, de_it 0x108000000020006, de_it 0x4010000, de_it 0x400000003, de_it 0x4010000, de_it 0x2, de_it 0x2010000, de_it 0x101, de_it 0x10f0101010e0101000000000400000003, de_it 0x1070101010601010109010101080101010b0101010a0101010d0101010c0101010e0101010f0101000000000000000000000000000100011200020201000203010002040100020501000206010500010007, de_it 0x4010000, de_it 0x108000000020006, de_it 0x4010000, de_it 0x400000003, de_it 0x4010000, de_it 0x2, de_it 0x2010000, de_it 0x101, de_it 0x10f0101010e0101000000000400000003, de_it 0x1070101010601010109010101080101010b0101010a0101010d0101010c0101010e0101010f0101000000000000000000000000000100011200020201000203010002040100020501000206010500010007]
set_option maxRecDepth 100000 in
theorem tR_23 : tf_go tV_23 tK_23.2.1.1 tK_23.2.1.2 none tH_23_0 [(tK_23.2.1, tK_23.2.2.2.1, 0, tc_args 0 tK_23.2.2.1, [], ([], 0), ([], 0))] = true := by decide +kernel
set_option maxRecDepth 100000 in
theorem tT_23 {RO : am_O} {sa : Nat → Nat} (h_11 : tc_true (aP sa) tp_G RO tp_T tp_Z tK_11) : tc_true (aP sa) tp_G RO tp_T tp_Z tK_23 := by
  have hC : ∀ c ∈ tC_23, tc_true (aP sa) tp_G RO tp_T tp_Z c := by
    intro c hc
    have hc : c ∈ ([tK_11] : List tc_Ct) := hc
    rcases List.mem_cons.mp hc with rfl | hc
    · exact h_11
    cases hc
  have hP : ∀ p ∈ tJ_23, ∃ hs, tc_plk (aP sa, tV_23.2) p hs = true := by
    intro p hp
    have hp : p ∈ ([] : List tc_Pl) := hp
    cases hp
  exact tc_main (mt := aM_31.1) (hs := tH_23_0) (PL := tJ_23) ⟨tp_G_ok, tMs_23 _, hC, tp_L_ok, tp_G_re⟩ (show am_meth (aP sa) 31 = some aM_31.1 from rfl) aX_31 (by decide +kernel) hP ((tc_go_sa (aP_sa sa _)).trans ((tf_go_s tHC_23).trans tR_23))
noncomputable def tK_24 : tc_Ct := (29, (2, 1), [(2, ([], 0), 0), (0, ([(0, 1)], 0), 0), (1, ([], 0), 0), (0, ([(1, 1)], 0), 0), (1, ([], 0), 0)], ([([(0, -1)], 1), ([(0, 1)], 0), ([(1, -1)], 255), ([(1, 1)], 0)], [(0, 167)], [], [], [], [], []), [(167, 0), (167, 1), (167, 2), (167, 3), (167, 4), (167, 5)], [((6, 1), ([([(0, -1)], 1), ([(0, 1)], 0), ([(1, -1)], 255), ([(1, 1)], 0), ([(2, -1)], 2147483647), ([(2, 1)], 2147483648), ([(3, -1)], 2147483647), ([(3, 1)], 2147483648), ([(4, -1)], 2147483647), ([(4, 1)], 2147483648), ([(5, -1)], 2147483647), ([(5, 1)], 2147483648)], [], [], [(0, 0, (0, ([(2, 1)], 0), 0)), (0, 1, (0, ([(3, 1)], 0), 0)), (0, 2, (0, ([(4, 1)], 0), 0)), (0, 3, (0, ([(5, 1)], 0), 0)), (0, 4, (1, ([], 0), 0)), (0, 5, (0, ([], 0), 0))], [], [], []), some (1, ([], 0), 0), ([], 0), ([], 0))])
noncomputable def tJ_24 : List tc_Pl := []
noncomputable def tC_24 : List tc_Ct := [tK_18, tK_22, tK_23, tK_14, tK_19]
def tM_24 (z : Nat) : Option am_Meth := if z = 31 then some aM_31.1 else if z = 30 then some aM_30.1 else if z = 27 then some aM_27.1 else if z = 26 then some aM_26.1 else if z = 21 then some aM_21.1 else none
set_option maxRecDepth 100000 in
theorem tMs_24 (sa : Nat → Nat) : ∀ z mz, tM_24 z = some mz → am_meth (aP sa) z = some mz := by
  intro z mz h
  unfold tM_24 at h
  rcases de_m h with ⟨rfl, rfl⟩ | h
  · exact (show am_meth (aP sa) 31 = some aM_31.1 from rfl)
  rcases de_m h with ⟨rfl, rfl⟩ | h
  · exact (show am_meth (aP sa) 30 = some aM_30.1 from rfl)
  rcases de_m h with ⟨rfl, rfl⟩ | h
  · exact (show am_meth (aP sa) 27 = some aM_27.1 from rfl)
  rcases de_m h with ⟨rfl, rfl⟩ | h
  · exact (show am_meth (aP sa) 26 = some aM_26.1 from rfl)
  rcases de_m h with ⟨rfl, rfl⟩ | h
  · exact (show am_meth (aP sa) 21 = some aM_21.1 from rfl)
  cases h
noncomputable def tV_24 : tc_Ev := (aQ, tp_T, tp_G.2, tp_Z, tM_24, tC_24, tp_L, tK_24.2.2.2.2.1, aM_29.1, aW_29, tK_24.2.1, tK_24.2.2.2.2.2, tJ_24)
theorem tE_24 : tK_24.2.2.2.2.2.all (tc_wex tK_24.2.1.1 tK_24.2.1.2) = true := by decide +kernel
theorem tSS_24 : tC_24.all (fun c => tw_mg tK_24.2.2.2.2.1 c.2.2.2.2.1) = true := by decide +kernel
theorem tHC_24 : ∀ c ∈ tC_24, c.2.2.2.2.1.all tK_24.2.2.2.2.1.contains = true ∧ c.2.2.2.2.2.all (tc_wex c.2.1.1 c.2.1.2) = true := tf_hc tSS_24 (by
  intro c hc
  have hc : c ∈ ([tK_18, tK_22, tK_23, tK_14, tK_19] : List tc_Ct) := hc
  rcases List.mem_cons.mp hc with rfl | hc
  · exact tE_18
  rcases List.mem_cons.mp hc with rfl | hc
  · exact tE_22
  rcases List.mem_cons.mp hc with rfl | hc
  · exact tE_23
  rcases List.mem_cons.mp hc with rfl | hc
  · exact tE_14
  rcases List.mem_cons.mp hc with rfl | hc
  · exact tE_19
  cases hc)
noncomputable def tH_24_0 : List tc_It := [de_it 0x6010000, de_it 0x101010101000101000000000000000000000000000000020a00020001010000020006, de_it 0x4010000, de_it 0x103010101020101000000000000000000000000000000010a00020101010002020006, de_it 0x4010000, de_it 0x108000004020006, de_it 0x8010000, de_it 0x8000006020006, de_it 0x101010101000101000000000000000000000000000000030a00020001010008020006, de_it 0x5a58565452504e4c060402000c000d, de_it 0x10b0101010a0101010901010108010101070101010601010105010101040101010301010102010101010101010001010000000000000000000000000001000114000213010002120100021101000210010400010007]
set_option maxRecDepth 100000 in
theorem tR_24 : tf_go tV_24 tK_24.2.1.1 tK_24.2.1.2 none tH_24_0 [(tK_24.2.1, tK_24.2.2.2.1, 0, tc_args 0 tK_24.2.2.1, [], ([], 0), ([], 0))] = true := by decide +kernel
set_option maxRecDepth 100000 in
theorem tT_24 {RO : am_O} {sa : Nat → Nat} (h_14 : tc_true (aP sa) tp_G RO tp_T tp_Z tK_14) (h_18 : tc_true (aP sa) tp_G RO tp_T tp_Z tK_18) (h_19 : tc_true (aP sa) tp_G RO tp_T tp_Z tK_19) (h_22 : tc_true (aP sa) tp_G RO tp_T tp_Z tK_22) (h_23 : tc_true (aP sa) tp_G RO tp_T tp_Z tK_23) : tc_true (aP sa) tp_G RO tp_T tp_Z tK_24 := by
  have hC : ∀ c ∈ tC_24, tc_true (aP sa) tp_G RO tp_T tp_Z c := by
    intro c hc
    have hc : c ∈ ([tK_18, tK_22, tK_23, tK_14, tK_19] : List tc_Ct) := hc
    rcases List.mem_cons.mp hc with rfl | hc
    · exact h_18
    rcases List.mem_cons.mp hc with rfl | hc
    · exact h_22
    rcases List.mem_cons.mp hc with rfl | hc
    · exact h_23
    rcases List.mem_cons.mp hc with rfl | hc
    · exact h_14
    rcases List.mem_cons.mp hc with rfl | hc
    · exact h_19
    cases hc
  have hP : ∀ p ∈ tJ_24, ∃ hs, tc_plk (aP sa, tV_24.2) p hs = true := by
    intro p hp
    have hp : p ∈ ([] : List tc_Pl) := hp
    cases hp
  exact tc_main (mt := aM_29.1) (hs := tH_24_0) (PL := tJ_24) ⟨tp_G_ok, tMs_24 _, hC, tp_L_ok, tp_G_re⟩ (show am_meth (aP sa) 29 = some aM_29.1 from rfl) aX_29 (by decide +kernel) hP ((tc_go_sa (aP_sa sa _)).trans ((tf_go_s tHC_24).trans tR_24))
noncomputable def tK_25 : tc_Ct := (28, (2, 2), [(2, ([], 0), 0), (0, ([(0, 1)], 0), 0), (1, ([], 0), 0), (0, ([(1, 1)], 0), 0), (1, ([], 0), 0)], ([([(0, -1)], 2147483647), ([(0, 1)], 2147483648), ([(1, -1)], 2147483647), ([(1, 1)], 2147483648)], [(0, 165), (1, 166)], [], [(0, 0, (2, ([], 0), 1))], [], [], [(568, [1], [])]), [(167, 0), (167, 1), (167, 2), (167, 3), (167, 4), (167, 5)], [((2, 2), ([([(0, -1)], 2147483647), ([(0, 1)], 2147483648), ([(1, -1)], 2147483647), ([(1, 1)], 2147483648)], [], [], [], [], [], []), some (1, ([], 0), 0), ([], 0), ([], 0))])
noncomputable def tJ_25 : List tc_Pl := []
noncomputable def tC_25 : List tc_Ct := [tK_9, tK_24]
def tM_25 (z : Nat) : Option am_Meth := if z = 29 then some aM_29.1 else if z = 16 then some aM_16.1 else none
set_option maxRecDepth 100000 in
theorem tMs_25 (sa : Nat → Nat) : ∀ z mz, tM_25 z = some mz → am_meth (aP sa) z = some mz := by
  intro z mz h
  unfold tM_25 at h
  rcases de_m h with ⟨rfl, rfl⟩ | h
  · exact (show am_meth (aP sa) 29 = some aM_29.1 from rfl)
  rcases de_m h with ⟨rfl, rfl⟩ | h
  · exact (show am_meth (aP sa) 16 = some aM_16.1 from rfl)
  cases h
noncomputable def tV_25 : tc_Ev := (aQ, tp_T, tp_G.2, tp_Z, tM_25, tC_25, tp_L, tK_25.2.2.2.2.1, aM_28.1, aW_28, tK_25.2.1, tK_25.2.2.2.2.2, tJ_25)
theorem tE_25 : tK_25.2.2.2.2.2.all (tc_wex tK_25.2.1.1 tK_25.2.1.2) = true := by decide +kernel
theorem tSS_25 : tC_25.all (fun c => tw_mg tK_25.2.2.2.2.1 c.2.2.2.2.1) = true := by decide +kernel
theorem tHC_25 : ∀ c ∈ tC_25, c.2.2.2.2.1.all tK_25.2.2.2.2.1.contains = true ∧ c.2.2.2.2.2.all (tc_wex c.2.1.1 c.2.1.2) = true := tf_hc tSS_25 (by
  intro c hc
  have hc : c ∈ ([tK_9, tK_24] : List tc_Ct) := hc
  rcases List.mem_cons.mp hc with rfl | hc
  · exact tE_9
  rcases List.mem_cons.mp hc with rfl | hc
  · exact tE_24
  cases hc)
noncomputable def tH_25_0 : List tc_It := [de_it 0x2010000, de_it 0x101010101000101000000000000000000000000000000000a000200010100010006, de_it 0x10106010100000300000001, de_it 0x2010000, de_it 0x1030101010201010101010101000101000000000000000000000000000100010c0000010007, de_it 0x10000010701010300000001, de_it 0x2010000, de_it 0x300000001, de_it 0x2010000, de_it 0x1030101010701010105010101040101000000000000000000000000000100010c0000010007, de_it 0x4010000, de_it 0x300000001, de_it 0x2010000, de_it 0x2, de_it 0x2, de_it 0x8010000, de_it 0x1070101010801010105010101040101000000000000000000000000000000040c0002010100020001020402020006, de_it 0x1070101010801010105010101040101000000000000000000000000000100010c0000010007, de_it 0x2010000, de_it 0x1080101010201010105010101040101000000000000000000000000000100010c0000010007]
set_option maxRecDepth 100000 in
theorem tR_25 : tf_go tV_25 tK_25.2.1.1 tK_25.2.1.2 none tH_25_0 [(tK_25.2.1, tK_25.2.2.2.1, 0, tc_args 0 tK_25.2.2.1, [], ([], 0), ([], 0))] = true := by decide +kernel
set_option maxRecDepth 100000 in
theorem tT_25 {RO : am_O} {sa : Nat → Nat} (h_9 : tc_true (aP sa) tp_G RO tp_T tp_Z tK_9) (h_24 : tc_true (aP sa) tp_G RO tp_T tp_Z tK_24) : tc_true (aP sa) tp_G RO tp_T tp_Z tK_25 := by
  have hC : ∀ c ∈ tC_25, tc_true (aP sa) tp_G RO tp_T tp_Z c := by
    intro c hc
    have hc : c ∈ ([tK_9, tK_24] : List tc_Ct) := hc
    rcases List.mem_cons.mp hc with rfl | hc
    · exact h_9
    rcases List.mem_cons.mp hc with rfl | hc
    · exact h_24
    cases hc
  have hP : ∀ p ∈ tJ_25, ∃ hs, tc_plk (aP sa, tV_25.2) p hs = true := by
    intro p hp
    have hp : p ∈ ([] : List tc_Pl) := hp
    cases hp
  exact tc_main (mt := aM_28.1) (hs := tH_25_0) (PL := tJ_25) ⟨tp_G_ok, tMs_25 _, hC, tp_L_ok, tp_G_re⟩ (show am_meth (aP sa) 28 = some aM_28.1 from rfl) aX_28 (by decide +kernel) hP ((tc_go_sa (aP_sa sa _)).trans ((tf_go_s tHC_25).trans tR_25))
noncomputable def tK_26 : tc_Ct := (13, (5, 3), [(2, ([], 0), 0), (2, ([], 0), 1), (0, ([(0, 1)], 0), 0), (0, ([(1, 1)], 0), 0)], ([([(0, -1)], 800), ([(0, 1)], 0), ([(1, -1)], 800), ([(1, 1)], 0), ([(2, -1)], 93912), ([(2, 1)], -8), ([(3, -1)], 2000), ([(3, 1)], -8), ([(4, -1)], 8000000), ([(4, 1)], 0), ([(0, -1), (1, 1)], 0), ([(0, -1), (2, -1)], 93912), ([(0, -1), (2, 1)], 0), ([(1, -1), (2, 1)], 0)], [(0, 178), (1, 193), (2, 193)], [(1, ([(2, 1)], 0)), (2, ([(3, 1)], 0))], [(0, 0, (2, ([], 0), 2)), (0, 1, (0, ([], 0), 0))], [], [], [(1016, [], []), (1088, [], []), (1136, [], [([(4, 1)], 0)])]), [(178, 0), (178, 1), (193, 0), (193, 1000)], [((9, 3), ([([(0, -1)], 800), ([(0, 1)], 0), ([(1, -1)], 800), ([(1, 1)], 0), ([(2, -1)], 93912), ([(2, 1)], -8), ([(3, -1)], 2000), ([(3, 1)], -8), ([(4, -1)], 8000000), ([(4, 1)], 0), ([(5, -1)], 800), ([(5, 1)], 0), ([(6, -1)], 1), ([(6, 1)], 0), ([(7, -1)], 1598), ([(7, 1)], 0), ([(8, -1)], 8000000), ([(8, 1)], 1598), ([(0, -1), (1, 1)], 0), ([(0, -1), (2, -1)], 93912), ([(0, -1), (2, 1)], 0), ([(0, -1), (5, -1)], 800), ([(1, -1), (2, 1)], 0), ([(1, 1), (5, -1)], 0), ([(6, -16), (7, 1)], 0), ([(0, -1), (1, 1), (5, -1)], 0), ([(0, 1), (1, -1), (5, 1)], 0), ([(4, 1), (7, -1), (8, -1)], 0)], [], [(1, ([(2, 1)], 0)), (2, ([(3, 1)], 0))], [(0, 1, (0, ([(5, 1)], 0), 0))], [], [], [(1136, [], [([(8, 1)], 0)])]), none, ([(6, 1)], 0), ([(7, 1)], 0))])
noncomputable def tJ_26 : List tc_Pl := []
noncomputable def tC_26 : List tc_Ct := [tK_0]
def tM_26 (z : Nat) : Option am_Meth := if z = 8 then some aM_8.1 else none
set_option maxRecDepth 100000 in
theorem tMs_26 (sa : Nat → Nat) : ∀ z mz, tM_26 z = some mz → am_meth (aP sa) z = some mz := by
  intro z mz h
  unfold tM_26 at h
  rcases de_m h with ⟨rfl, rfl⟩ | h
  · exact (show am_meth (aP sa) 8 = some aM_8.1 from rfl)
  cases h
noncomputable def tV_26 : tc_Ev := (aQ, tp_T, tp_G.2, tp_Z, tM_26, tC_26, tp_L, tK_26.2.2.2.2.1, aM_13.1, aW_13, tK_26.2.1, tK_26.2.2.2.2.2, tJ_26)
theorem tE_26 : tK_26.2.2.2.2.2.all (tc_wex tK_26.2.1.1 tK_26.2.1.2) = true := by decide +kernel
theorem tSS_26 : tC_26.all (fun c => tw_mg tK_26.2.2.2.2.1 c.2.2.2.2.1) = true := by decide +kernel
theorem tHC_26 : ∀ c ∈ tC_26, c.2.2.2.2.1.all tK_26.2.2.2.2.1.contains = true ∧ c.2.2.2.2.2.all (tc_wex c.2.1.1 c.2.1.2) = true := tf_hc tSS_26 (by
  intro c hc
  have hc : c ∈ ([tK_0] : List tc_Ct) := hc
  rcases List.mem_cons.mp hc with rfl | hc
  · exact tE_0
  cases hc)
noncomputable def tH_26_0 : List tc_It := [de_it 0x2010000, de_it 0x10e010102010300000001, de_it 0x4010000, de_it 0x2, de_it 0x10f010d02010300000001, de_it 0x4010000, de_it 0x300000001, de_it 0x101100101010a0101000101030101010d010101000101010c0101010b0101010a01010109010101080101000100010001000100010001010901010108010101070101010601010105010101040101010301010102010101010101010001010000000000000000000000000001000124000204010000000000000400010007, de_it 0x2010000, de_it 0x2, de_it 0x4010000, de_it 0x10201010201011001010200000001, de_it 0x10201010201011001010200000001, de_it 0x2010000, de_it 0x11101020101030100000300000001, de_it 0x2010000, de_it 0x2, de_it 0x2010000, de_it 0x10201010101011002010200000001, de_it 0x2010000, de_it 0x10101020201011001010200000001, de_it 0x2010000, de_it 0x2, de_it 0x2, de_it 0x300000001, de_it 0x6010000, de_it 0x2, de_it 0x2010000, de_it 0x2, de_it 0x4010000, de_it 0x10101020201011001010200000001, de_it 0x1120101010d0101010101010001011001010500000005, de_it 0x4010000, de_it 0x2, de_it 0x4010000, de_it 0x10101020201011001010200000001, de_it 0x10101020201011001010200000001, de_it 0x1070101010601010112010101010102020101100101000000000700000003, de_it 0x100010001000101010101010d010101020101010d01100201010b01010110010101090101010801010001000100010001011001010101010202010109010101080101010701010106010101050101010401010110010102010102010101010101011001020201000000000000000000000000000100012400020401000000000002010100020400010007, de_it 0x4010000, de_it 0x2, de_it 0x4010000, de_it 0x2, de_it 0x2, de_it 0x212020102020301020701010200000001, de_it 0x2010000, de_it 0x2, de_it 0x2010000, de_it 0x102010101070101011203010200000001, de_it 0x2010000, de_it 0x101010202010107011202010200000001, de_it 0x200000005, de_it 0x113010702010101010701020301010701010113010101020302020701130201010101020201000000000000000000000000000000000e00020301000201010002020400020006, de_it 0x800020101000200020301000204010306040004040009, de_it 0x2070113020101010102020102070113020100000000000000000700000003, de_it 0x6010000, de_it 0x2, de_it 0x2010000, de_it 0x2, de_it 0x4010000, de_it 0x101010202010207011302010200000001, de_it 0x1010d01010101010100010207011302010500000005, de_it 0x4010000, de_it 0x2, de_it 0x4010000, de_it 0x101010202010207011302010200000001, de_it 0x101010202010207011302010200000001, de_it 0x207011302010101010202010001010101020201020701130201000000000700000003, de_it 0x113010100000000000000000000000000000000090002040101020003000204040303010400040202010009, de_it 0x10001000102070113020101010101010d010101020101010d020701130301010b010102070113020101010109010203010207010801130301020701130201010101020201000100010207011302010101010202010109010101080101010701010113010101020302010d0207010101130401010401010113020701010301010201010101010101020207011303010000000000000000000000000001000124000204010102000300020101000202000002010100020400010007, de_it 0x10701010112010101020301010701010112010101020301020701010212020102020301000000000000000000000000000000000e0002030100040301020400020006, de_it 0x80004030100020301000204010306040004040009, de_it 0x115010102120201020203010115010100000000000000000700000003, de_it 0x6010000, de_it 0x2, de_it 0x2010000, de_it 0x2, de_it 0x4010000, de_it 0x101010202010115021202020200000001, de_it 0x1130101010d01010101010100010115021202020500000005, de_it 0x4010000, de_it 0x2, de_it 0x4010000, de_it 0x101010202010115021202020200000001, de_it 0x101010202010115021202020200000001, de_it 0x1150101021202010202030101130101010101020201011502120202000000000700000003, de_it 0x1000100010115010101010101010d0101010201010115020d02120302010b01010115021202020212020101090202040101080115020101150101021202010202030100010001011502120202010101020201010901010108010101150102011201010102030101150201020d021204020104010101150201021203020102010101010101011502120202030200000000000000000000000000010001240002040303020004030102000002010100020400010007]
set_option maxRecDepth 100000 in
theorem tR_26 : tf_go tV_26 tK_26.2.1.1 tK_26.2.1.2 none tH_26_0 [(tK_26.2.1, tK_26.2.2.2.1, 0, tc_args 0 tK_26.2.2.1, [], ([], 0), ([], 0))] = true := by decide +kernel
set_option maxRecDepth 100000 in
theorem tT_26 {RO : am_O} {sa : Nat → Nat} (h_0 : tc_true (aP sa) tp_G RO tp_T tp_Z tK_0) : tc_true (aP sa) tp_G RO tp_T tp_Z tK_26 := by
  have hC : ∀ c ∈ tC_26, tc_true (aP sa) tp_G RO tp_T tp_Z c := by
    intro c hc
    have hc : c ∈ ([tK_0] : List tc_Ct) := hc
    rcases List.mem_cons.mp hc with rfl | hc
    · exact h_0
    cases hc
  have hP : ∀ p ∈ tJ_26, ∃ hs, tc_plk (aP sa, tV_26.2) p hs = true := by
    intro p hp
    have hp : p ∈ ([] : List tc_Pl) := hp
    cases hp
  exact tc_main (mt := aM_13.1) (hs := tH_26_0) (PL := tJ_26) ⟨tp_G_ok, tMs_26 _, hC, tp_L_ok, tp_G_re⟩ (show am_meth (aP sa) 13 = some aM_13.1 from rfl) aX_13 (by decide +kernel) hP ((tc_go_sa (aP_sa sa _)).trans ((tf_go_s tHC_26).trans tR_26))
noncomputable def tK_27 : tc_Ct := (23, (2, 2), [(2, ([], 0), 0)], ([([(0, -1)], 1000), ([(0, 1)], 0), ([(1, -1)], 2000), ([(1, 1)], -8), ([(0, -1), (1, 1)], 0)], [(0, 178), (1, 193)], [(1, ([(1, 1)], 0))], [(0, 0, (2, ([], 0), 1)), (0, 1, (0, ([(0, 1)], 0), 0))], [], [], [(1016, [], []), (1088, [], [])]), [(178, 1)], [((2, 2), ([([(0, -1)], 1000), ([(0, 1)], 0), ([(1, -1)], 2000), ([(1, 1)], -8), ([(0, -1), (1, 1)], 0)], [], [(1, ([(1, 1)], 0))], [(0, 1, (0, ([], 0), 0))], [], [], []), none, ([], 0), ([], 0))])
noncomputable def tJ_27 : List tc_Pl := []
noncomputable def tC_27 : List tc_Ct := []
def tM_27 (z : Nat) : Option am_Meth := none
set_option maxRecDepth 100000 in
theorem tMs_27 (sa : Nat → Nat) : ∀ z mz, tM_27 z = some mz → am_meth (aP sa) z = some mz := fun z mz h => by cases h
noncomputable def tV_27 : tc_Ev := (aQ, tp_T, tp_G.2, tp_Z, tM_27, tC_27, tp_L, tK_27.2.2.2.2.1, aM_23.1, aW_23, tK_27.2.1, tK_27.2.2.2.2.2, tJ_27)
theorem tE_27 : tK_27.2.2.2.2.2.all (tc_wex tK_27.2.1.1 tK_27.2.1.2) = true := by decide +kernel
theorem tSS_27 : tC_27.all (fun c => tw_mg tK_27.2.2.2.2.1 c.2.2.2.2.1) = true := by decide +kernel
theorem tHC_27 : ∀ c ∈ tC_27, c.2.2.2.2.1.all tK_27.2.2.2.2.1.contains = true ∧ c.2.2.2.2.2.all (tc_wex c.2.1.1 c.2.1.2) = true := tf_hc tSS_27 (by
  intro c hc
  have hc : c ∈ ([] : List tc_Ct) := hc
  cases hc)
noncomputable def tH_27_0 : List tc_It := [de_it 0x4010000, de_it 0x1030101010201010103010100010001000000000700000003, de_it 0x104010101030101010201010101010101000101000000000000000000000000000100010d0000010007]
set_option maxRecDepth 100000 in
theorem tR_27 : tf_go tV_27 tK_27.2.1.1 tK_27.2.1.2 none tH_27_0 [(tK_27.2.1, tK_27.2.2.2.1, 0, tc_args 0 tK_27.2.2.1, [], ([], 0), ([], 0))] = true := by decide +kernel
set_option maxRecDepth 100000 in
theorem tT_27 {RO : am_O} {sa : Nat → Nat} : tc_true (aP sa) tp_G RO tp_T tp_Z tK_27 := by
  have hC : ∀ c ∈ tC_27, tc_true (aP sa) tp_G RO tp_T tp_Z c := by
    intro c hc
    have hc : c ∈ ([] : List tc_Ct) := hc
    cases hc
  have hP : ∀ p ∈ tJ_27, ∃ hs, tc_plk (aP sa, tV_27.2) p hs = true := by
    intro p hp
    have hp : p ∈ ([] : List tc_Pl) := hp
    cases hp
  exact tc_main (mt := aM_23.1) (hs := tH_27_0) (PL := tJ_27) ⟨tp_G_ok, tMs_27 _, hC, tp_L_ok, tp_G_re⟩ (show am_meth (aP sa) 23 = some aM_23.1 from rfl) aX_23 (by decide +kernel) hP ((tc_go_sa (aP_sa sa _)).trans ((tf_go_s tHC_27).trans tR_27))
noncomputable def tK_28 : tc_Ct := (33, (1, 0), [(0, ([(0, 1)], 0), 0)], ([([(0, -1)], 2147483647), ([(0, 1)], 2147483648)], [], [], [], [], [], []), [], [((2, 0), ([([(0, -1)], 2147483647), ([(0, 1)], 2147483648), ([(1, -1)], 1), ([(1, 1)], 0)], [], [], [], [], [], []), some (0, ([(1, 1)], 0), 0), ([], 0), ([], 0))])
noncomputable def tJ_28 : List tc_Pl := []
noncomputable def tC_28 : List tc_Ct := []
def tM_28 (z : Nat) : Option am_Meth := none
set_option maxRecDepth 100000 in
theorem tMs_28 (sa : Nat → Nat) : ∀ z mz, tM_28 z = some mz → am_meth (aP sa) z = some mz := fun z mz h => by cases h
noncomputable def tV_28 : tc_Ev := (aQ, tp_T, tp_G.2, tp_Z, tM_28, tC_28, tp_L, tK_28.2.2.2.2.1, aM_33.1, aW_33, tK_28.2.1, tK_28.2.2.2.2.2, tJ_28)
theorem tE_28 : tK_28.2.2.2.2.2.all (tc_wex tK_28.2.1.1 tK_28.2.1.2) = true := by decide +kernel
theorem tSS_28 : tC_28.all (fun c => tw_mg tK_28.2.2.2.2.1 c.2.2.2.2.1) = true := by decide +kernel
theorem tHC_28 : ∀ c ∈ tC_28, c.2.2.2.2.1.all tK_28.2.2.2.2.1.contains = true ∧ c.2.2.2.2.2.all (tc_wex c.2.1.1 c.2.1.2) = true := tf_hc tSS_28 (by
  intro c hc
  have hc : c ∈ ([] : List tc_Ct) := hc
  cases hc)
noncomputable def tH_28_0 : List tc_It := [de_it 0x4010000, de_it 0x300000001, de_it 0x2010000, de_it 0x100010101010101000101000000000000000000000000000100010c00000100010007, de_it 0x4010000, de_it 0x100010102010101030101000000000000000000000000000100010c02000100010007]
set_option maxRecDepth 100000 in
theorem tR_28 : tf_go tV_28 tK_28.2.1.1 tK_28.2.1.2 none tH_28_0 [(tK_28.2.1, tK_28.2.2.2.1, 0, tc_args 0 tK_28.2.2.1, [], ([], 0), ([], 0))] = true := by decide +kernel
set_option maxRecDepth 100000 in
theorem tT_28 {RO : am_O} {sa : Nat → Nat} : tc_true (aP sa) tp_G RO tp_T tp_Z tK_28 := by
  have hC : ∀ c ∈ tC_28, tc_true (aP sa) tp_G RO tp_T tp_Z c := by
    intro c hc
    have hc : c ∈ ([] : List tc_Ct) := hc
    cases hc
  have hP : ∀ p ∈ tJ_28, ∃ hs, tc_plk (aP sa, tV_28.2) p hs = true := by
    intro p hp
    have hp : p ∈ ([] : List tc_Pl) := hp
    cases hp
  exact tc_main (mt := aM_33.1) (hs := tH_28_0) (PL := tJ_28) ⟨tp_G_ok, tMs_28 _, hC, tp_L_ok, tp_G_re⟩ (show am_meth (aP sa) 33 = some aM_33.1 from rfl) aX_33 (by decide +kernel) hP ((tc_go_sa (aP_sa sa _)).trans ((tf_go_s tHC_28).trans tR_28))
noncomputable def tK_29 : tc_Ct := (34, (3, 2), [(2, ([], 0), 0), (1, ([], 0), 0), (1, ([], 0), 0), (2, ([], 0), 1), (0, ([(0, 1)], 0), 0), (0, ([(1, 1)], 0), 0)], ([([(0, -1)], 800), ([(0, 1)], 0), ([(1, -1)], 800), ([(1, 1)], 0), ([(2, -1)], 8192), ([(2, 1)], -64), ([(0, -1), (1, 1)], 0), ([(0, -1), (2, -1)], 8195), ([(0, -1), (2, 1)], 0), ([(0, 1), (2, -1)], 8189), ([(1, -1), (2, -1)], 8396), ([(1, -1), (2, 1)], 0), ([(1, 1), (2, -1)], 8188), ([(0, 1), (1, -1), (2, -1)], 8393)], [(0, 167), (1, 193)], [(1, ([(2, 1)], 0))], [], [], [], [(1016, [], []), (1088, [], [])]), [(167, 0), (167, 1), (167, 2), (167, 3), (167, 4), (193, 0)], [((3, 2), ([([(0, -1)], 800), ([(0, 1)], 0), ([(1, -1)], 800), ([(1, 1)], 0), ([(2, -1)], 8192), ([(2, 1)], -64), ([(0, -1), (1, 1)], 0), ([(0, -1), (2, -1)], 8195), ([(0, -1), (2, 1)], 0), ([(0, 1), (2, -1)], 8189), ([(1, -1), (2, -1)], 8396), ([(1, -1), (2, 1)], 0), ([(1, 1), (2, -1)], 8188), ([(0, 1), (1, -1), (2, -1)], 8393)], [], [(1, ([(2, 1)], 0))], [], [], [], []), none, ([], 0), ([], 0))])
noncomputable def tL_29_0 : tc_Pl := de_pl 0x30d1cff000001030201020000000000030d1cff000300000000000000020301000800000201010007000002000100060100000205000000010300000001010000000200071200000000000000000440ff000000000000000003f8ff02000000000202010101c101a700020000000000004192ff010201010200030001030201020000000000003ff8ff01020201020002020101020000000000004198ff01020101020000000000003ffaff01020200020002030100020002020100020000000000004006ff0102010002000201010002000203010000000000000640ff0103017f0202010000000000004000ff010201000201010000000000000640ff010101000200010000000000000640ff0100010000000000004192ff010201010200030000000000003ff8ff01020201020002020101020000000000004198ff01020101020000000000003ffaff01020200020002020100020000000000004006ff01020100020002010100027f0202010000000000004000ff010201000201010000000000000640ff010101000200010000000000000640ff010001200204
noncomputable def tJ_29 : List tc_Pl := [tL_29_0]
noncomputable def tC_29 : List tc_Ct := [tK_11, tK_13]
def tM_29 (z : Nat) : Option am_Meth := if z = 22 then some aM_22.1 else if z = 20 then some aM_20.1 else none
set_option maxRecDepth 100000 in
theorem tMs_29 (sa : Nat → Nat) : ∀ z mz, tM_29 z = some mz → am_meth (aP sa) z = some mz := by
  intro z mz h
  unfold tM_29 at h
  rcases de_m h with ⟨rfl, rfl⟩ | h
  · exact (show am_meth (aP sa) 22 = some aM_22.1 from rfl)
  rcases de_m h with ⟨rfl, rfl⟩ | h
  · exact (show am_meth (aP sa) 20 = some aM_20.1 from rfl)
  cases h
noncomputable def tV_29 : tc_Ev := (aQ, tp_T, tp_G.2, tp_Z, tM_29, tC_29, tp_L, tK_29.2.2.2.2.1, aM_34.1, aW_34, tK_29.2.1, tK_29.2.2.2.2.2, tJ_29)
theorem tE_29 : tK_29.2.2.2.2.2.all (tc_wex tK_29.2.1.1 tK_29.2.1.2) = true := by decide +kernel
theorem tSS_29 : tC_29.all (fun c => tw_mg tK_29.2.2.2.2.1 c.2.2.2.2.1) = true := by decide +kernel
theorem tHC_29 : ∀ c ∈ tC_29, c.2.2.2.2.1.all tK_29.2.2.2.2.1.contains = true ∧ c.2.2.2.2.2.all (tc_wex c.2.1.1 c.2.1.2) = true := tf_hc tSS_29 (by
  intro c hc
  have hc : c ∈ ([tK_11, tK_13] : List tc_Ct) := hc
  rcases List.mem_cons.mp hc with rfl | hc
  · exact tE_11
  rcases List.mem_cons.mp hc with rfl | hc
  · exact tE_13
  cases hc)
noncomputable def tH_29_0 : List tc_It := [de_it 0x2010000, de_it 0x10e010102010300000001, de_it 0x4010000, de_it 0x2, de_it 0x10f010b020100000300000001, de_it 0x4010000, de_it 0x10d010101060101010c0101010b0101010a010101090101000101080101010701010106010101010101010001010105010101090107020201030101010201010101010101000101010d0101010c0101010b0101010a01010109010101080101010701010106010101050101010901070202010301010102010101010101010001010000000000000000000000000001000128000200010100010008]
set_option maxRecDepth 100000 in
theorem tR_29 : tf_go tV_29 tK_29.2.1.1 tK_29.2.1.2 none tH_29_0 [(tK_29.2.1, tK_29.2.2.2.1, 0, tc_args 0 tK_29.2.2.1, [], ([], 0), ([], 0))] = true := by decide +kernel
noncomputable def tH_29_1 : List tc_It := [de_it 0x4010000, de_it 0x300000001, de_it 0x10d0101010c0101010b0101010a010101090101010801010107010101060101010501010109010702020103010101020101010101010100010100000000000000000000000000010001160000010007, de_it 0x4010000, de_it 0x120010201010301011901010200000001, de_it 0x8010000, de_it 0x1210101000000000300000001, de_it 0x6010000, de_it 0x120010b02010115010102000203010100010002, de_it 0x2010000, de_it 0x2, de_it 0x6010000, de_it 0x8220101082301010200000001, de_it 0x8230101082201010200000001, de_it 0x2010000, de_it 0x101, de_it 0x4010000, de_it 0x12b010101270101012a010101260101040010010001, de_it 0x12d0101012c01010120010b02010115010104000203010100010003, de_it 0x12001020201011501010200000001, de_it 0x2010000, de_it 0x10d010101200101010c0101010b0101010a0101010901010119010101190120010b0301010701010119012002010115010101200102020101050101010901070202011901010120030101020101010101010119012001020301010d0101010c0101010b0101010a01010109010101190120010b0301010701010119012002010105010101090107020201190101012003010102010101010101011901200102030100000000012001010001000000010001000128020203010100010008, de_it 0x8010000, de_it 0x101, de_it 0x126010101250101000000000400000003, de_it 0x4010000, de_it 0x101, de_it 0x128010101270101000000000400000003, de_it 0x4010000, de_it 0x101, de_it 0x12a010101290101000000000400000003, de_it 0x6010000, de_it 0x120010201010301011901010200000001, de_it 0x2010000, de_it 0x11901010100000001, de_it 0x120012b010101020408012c01190208000000000400000003, de_it 0x4010000, de_it 0x108000000020006, de_it 0x68666462605e5c5a5856484240322a281a18161412100e0c0a08060402001e000d, de_it 0x4010000, de_it 0x8000002020006, de_it 0x400000003, de_it 0x6010000, de_it 0x111010b0201010f010102000203010100010002, de_it 0x2010000, de_it 0x2, de_it 0x6010000, de_it 0x8130101081201010200000001, de_it 0x8120101081301010200000001, de_it 0x2010000, de_it 0x101, de_it 0x4010000, de_it 0x1250101012101010124010101200101040010010001, de_it 0x1270101012601010111010b0201010f010104000203010100010003, de_it 0x10201110201010f01010200000001, de_it 0x2010000, de_it 0x10d010101110101010c0101010b0101010a0101010901010110010101100111010b030101070101011001110201010f010101020111020101050101010701090202011001010111030101020101010101010110011101020301010d0101010c0101010b0101010a01010109010101100111010b0301010701010110011102010105010101070109020201100101011103010102010101010101011001110102030100000000011101010001000000010001000128020203010100010008]
set_option maxRecDepth 100000 in
theorem tP_29_0 : tf_plk tV_29 tL_29_0 tH_29_1 = true := by decide +kernel
set_option maxRecDepth 100000 in
theorem tT_29 {RO : am_O} {sa : Nat → Nat} (h_11 : tc_true (aP sa) tp_G RO tp_T tp_Z tK_11) (h_13 : tc_true (aP sa) tp_G RO tp_T tp_Z tK_13) : tc_true (aP sa) tp_G RO tp_T tp_Z tK_29 := by
  have hC : ∀ c ∈ tC_29, tc_true (aP sa) tp_G RO tp_T tp_Z c := by
    intro c hc
    have hc : c ∈ ([tK_11, tK_13] : List tc_Ct) := hc
    rcases List.mem_cons.mp hc with rfl | hc
    · exact h_11
    rcases List.mem_cons.mp hc with rfl | hc
    · exact h_13
    cases hc
  have hP : ∀ p ∈ tJ_29, ∃ hs, tc_plk (aP sa, tV_29.2) p hs = true := by
    intro p hp
    have hp : p ∈ ([tL_29_0] : List tc_Pl) := hp
    rcases List.mem_cons.mp hp with rfl | hp
    · exact ⟨_, (tc_plk_sa (aP_sa sa _)).trans ((tf_plk_s tHC_29).trans tP_29_0)⟩
    cases hp
  exact tc_main (mt := aM_34.1) (hs := tH_29_0) (PL := tJ_29) ⟨tp_G_ok, tMs_29 _, hC, tp_L_ok, tp_G_re⟩ (show am_meth (aP sa) 34 = some aM_34.1 from rfl) aX_34 (by decide +kernel) hP ((tc_go_sa (aP_sa sa _)).trans ((tf_go_s tHC_29).trans tR_29))
noncomputable def tK_30 : tc_Ct := (35, (5, 3), [(2, ([], 0), 0), (0, ([(0, 1)], 0), 0), (1, ([], 0), 0), (2, ([], 0), 1), (0, ([(1, 1)], 0), 0), (0, ([(2, 1)], 0), 0)], ([([(0, -1)], 1), ([(0, 1)], 0), ([(1, -1)], 800), ([(1, 1)], 0), ([(2, -1)], 800), ([(2, 1)], 0), ([(3, -1)], 800), ([(3, 1)], 0), ([(4, -1)], 1600), ([(4, 1)], -64), ([(1, -1), (2, 1)], 0), ([(1, -1), (3, 1)], 0), ([(1, -1), (4, 1)], 0), ([(2, -1), (3, 1)], 0), ([(2, -1), (4, 1)], 0), ([(2, 1), (3, -1)], 8), ([(3, -1), (4, 1)], 0)], [(0, 167), (1, 177), (2, 193)], [(2, ([(4, 1)], 0))], [(1, 0, (2, ([], 0), 2)), (1, 1, (0, ([(3, 1)], 0), 0))], [], [], [(1016, [], []), (1088, [], [])]), [(167, 0), (167, 1), (167, 2), (167, 3), (167, 4), (167, 5)], [((9, 3), ([([(0, -1)], 1), ([(0, 1)], 0), ([(1, -1)], 800), ([(1, 1)], 0), ([(2, -1)], 800), ([(2, 1)], 0), ([(3, -1)], 800), ([(3, 1)], 0), ([(4, -1)], 1600), ([(4, 1)], -64), ([(5, -1)], 2147483647), ([(5, 1)], 2147483648), ([(6, -1)], 2147483647), ([(6, 1)], 2147483648), ([(7, -1)], 2147483647), ([(7, 1)], 2147483648), ([(8, -1)], 2147483647), ([(8, 1)], 2147483648), ([(1, -1), (2, 1)], 0), ([(1, -1), (3, 1)], 0), ([(1, -1), (4, 1)], 0), ([(2, -1), (3, 1)], 0), ([(2, -1), (4, 1)], 0), ([(2, 1), (3, -1)], 8), ([(3, -1), (4, 1)], 0)], [], [(2, ([(4, 1)], 0))], [(0, 0, (0, ([(5, 1)], 0), 0)), (0, 1, (0, ([(6, 1)], 0), 0)), (0, 2, (0, ([(7, 1)], 0), 0)), (0, 3, (0, ([(8, 1)], 0), 0)), (0, 5, (0, ([], 0), 0))], [], [], []), some (1, ([], 0), 0), ([], 0), ([], 0))])
noncomputable def tL_30_0 : tc_Pl := de_pl 0x30d14ff000402050100020000000000030d14ff0003000000000000000205010007000002010100050000000102000002000100010000000200051600000000000000000440ff000000000000000003f8ff020000000002030100010102000002000102000204010201c102b101a7000300020401030210010302020200020401020200020301020200020401010200020301010200020201010210020501300105017f0204010000000000000c80ff010401000203010000000000000640ff010301000202010000000000000640ff010201000201010000000000000640ff01010100020001020100010002040103021001030202020002040102020002030102020002040101020002030101020002020101027f0204010000000000000c80ff010401000203010000000000000640ff010301000202010000000000000640ff010201000201010000000000000640ff0101010002000102010001240306
noncomputable def tJ_30 : List tc_Pl := [tL_30_0]
noncomputable def tC_30 : List tc_Ct := [tK_18, tK_12, tK_14, tK_19, tK_22]
def tM_30 (z : Nat) : Option am_Meth := if z = 30 then some aM_30.1 else if z = 27 then some aM_27.1 else if z = 26 then some aM_26.1 else if z = 21 then some aM_21.1 else if z = 19 then some aM_19.1 else none
set_option maxRecDepth 100000 in
theorem tMs_30 (sa : Nat → Nat) : ∀ z mz, tM_30 z = some mz → am_meth (aP sa) z = some mz := by
  intro z mz h
  unfold tM_30 at h
  rcases de_m h with ⟨rfl, rfl⟩ | h
  · exact (show am_meth (aP sa) 30 = some aM_30.1 from rfl)
  rcases de_m h with ⟨rfl, rfl⟩ | h
  · exact (show am_meth (aP sa) 27 = some aM_27.1 from rfl)
  rcases de_m h with ⟨rfl, rfl⟩ | h
  · exact (show am_meth (aP sa) 26 = some aM_26.1 from rfl)
  rcases de_m h with ⟨rfl, rfl⟩ | h
  · exact (show am_meth (aP sa) 21 = some aM_21.1 from rfl)
  rcases de_m h with ⟨rfl, rfl⟩ | h
  · exact (show am_meth (aP sa) 19 = some aM_19.1 from rfl)
  cases h
noncomputable def tV_30 : tc_Ev := (aQ, tp_T, tp_G.2, tp_Z, tM_30, tC_30, tp_L, tK_30.2.2.2.2.1, aM_35.1, aW_35, tK_30.2.1, tK_30.2.2.2.2.2, tJ_30)
theorem tE_30 : tK_30.2.2.2.2.2.all (tc_wex tK_30.2.1.1 tK_30.2.1.2) = true := by decide +kernel
theorem tSS_30 : tC_30.all (fun c => tw_mg tK_30.2.2.2.2.1 c.2.2.2.2.1) = true := by decide +kernel
theorem tHC_30 : ∀ c ∈ tC_30, c.2.2.2.2.1.all tK_30.2.2.2.2.1.contains = true ∧ c.2.2.2.2.2.all (tc_wex c.2.1.1 c.2.1.2) = true := tf_hc tSS_30 (by
  intro c hc
  have hc : c ∈ ([tK_18, tK_12, tK_14, tK_19, tK_22] : List tc_Ct) := hc
  rcases List.mem_cons.mp hc with rfl | hc
  · exact tE_18
  rcases List.mem_cons.mp hc with rfl | hc
  · exact tE_12
  rcases List.mem_cons.mp hc with rfl | hc
  · exact tE_14
  rcases List.mem_cons.mp hc with rfl | hc
  · exact tE_19
  rcases List.mem_cons.mp hc with rfl | hc
  · exact tE_22
  cases hc)
noncomputable def tH_30_0 : List tc_It := [de_it 0x6010000, de_it 0x101010101000101000000000000000000000000000000020a00020001010000020006, de_it 0x4010000, de_it 0x2, de_it 0x4010000, de_it 0x10801050201010e0101010901050201010801050201010e010101080104020101090101010801010105010101040101010901010108010101050101010401010001000100000000000000000000000000000003180002040100020201000003040002030006, de_it 0x504e4a201e1c1a18161412100e0c0a080604020014000d, de_it 0x4010000, de_it 0x1100101010f0101010e0101010d0101010c0101010b0101010a0101000100010109010101080101010701010106010101050101010401010103010101020101010101010100010101100101010f0101010e0101010d0101010c0101010b0101010a010101090101010801010107010101060101010501010104010101030101010201010101010101000101000000000000000000000000000100012c30000100010008]
set_option maxRecDepth 100000 in
theorem tR_30 : tf_go tV_30 tK_30.2.1.1 tK_30.2.1.2 none tH_30_0 [(tK_30.2.1, tK_30.2.2.2.1, 0, tc_args 0 tK_30.2.2.1, [], ([], 0), ([], 0))] = true := by decide +kernel
noncomputable def tH_30_1 : List tc_It := [de_it 0x2010000, de_it 0x300000001, de_it 0x8010000, de_it 0x8000004020006, de_it 0x58565452504e4c4a4838201e1c1a18161412100e0c0a08060402001b000d, de_it 0x101010101000101000000000000000000000000000000030a00020001010006020006, de_it 0x1100101010f0101010e0101010d0101010c0101010b0101010a01010124010101230101012201010121010101200101011f0101011e0101011d010101090101010801010107010101060101010501010104010101030101010201010101010101000101000000000000000000000000000100012100020d0100020c0100020b0100020a010400010007, de_it 0x6010000, de_it 0x101, de_it 0x125010101260101000000000000000000000000000000010a00020601010008020006, de_it 0x54524836201e1c1a18161412100e0c0a080604020015000d, de_it 0x1110101011201010200000001, de_it 0x2010000, de_it 0x1100101010f0101010e0101010d0101010c0101010b0101010a010101120101011101010109010101080101010701010106010101050101010401010103010101020101010101010100010101100101010f0101010e0101010d0101010c0101010b0101010a01010109010101080101010701010106010101050101010401010103010101020101010101010100010100000000011201000201000100000001000100012c0f0205010100010008]
set_option maxRecDepth 100000 in
theorem tP_30_0 : tf_plk tV_30 tL_30_0 tH_30_1 = true := by decide +kernel
set_option maxRecDepth 100000 in
theorem tT_30 {RO : am_O} {sa : Nat → Nat} (h_12 : tc_true (aP sa) tp_G RO tp_T tp_Z tK_12) (h_14 : tc_true (aP sa) tp_G RO tp_T tp_Z tK_14) (h_18 : tc_true (aP sa) tp_G RO tp_T tp_Z tK_18) (h_19 : tc_true (aP sa) tp_G RO tp_T tp_Z tK_19) (h_22 : tc_true (aP sa) tp_G RO tp_T tp_Z tK_22) : tc_true (aP sa) tp_G RO tp_T tp_Z tK_30 := by
  have hC : ∀ c ∈ tC_30, tc_true (aP sa) tp_G RO tp_T tp_Z c := by
    intro c hc
    have hc : c ∈ ([tK_18, tK_12, tK_14, tK_19, tK_22] : List tc_Ct) := hc
    rcases List.mem_cons.mp hc with rfl | hc
    · exact h_18
    rcases List.mem_cons.mp hc with rfl | hc
    · exact h_12
    rcases List.mem_cons.mp hc with rfl | hc
    · exact h_14
    rcases List.mem_cons.mp hc with rfl | hc
    · exact h_19
    rcases List.mem_cons.mp hc with rfl | hc
    · exact h_22
    cases hc
  have hP : ∀ p ∈ tJ_30, ∃ hs, tc_plk (aP sa, tV_30.2) p hs = true := by
    intro p hp
    have hp : p ∈ ([tL_30_0] : List tc_Pl) := hp
    rcases List.mem_cons.mp hp with rfl | hp
    · exact ⟨_, (tc_plk_sa (aP_sa sa _)).trans ((tf_plk_s tHC_30).trans tP_30_0)⟩
    cases hp
  exact tc_main (mt := aM_35.1) (hs := tH_30_0) (PL := tJ_30) ⟨tp_G_ok, tMs_30 _, hC, tp_L_ok, tp_G_re⟩ (show am_meth (aP sa) 35 = some aM_35.1 from rfl) aX_35 (by decide +kernel) hP ((tc_go_sa (aP_sa sa _)).trans ((tf_go_s tHC_30).trans tR_30))
noncomputable def tK_31 : tc_Ct := (36, (1, 0), [(0, ([(0, 1)], 0), 0)], ([([(0, -1)], 2147483647), ([(0, 1)], 2147483648)], [], [], [], [], [], []), [], [((2, 0), ([([(0, -1)], 2147483647), ([(0, 1)], 2147483648), ([(1, -1)], 8), ([(1, 1)], -4)], [], [], [], [], [], []), some (0, ([(1, 1)], 0), 0), ([], 0), ([], 0))])
noncomputable def tJ_31 : List tc_Pl := []
noncomputable def tC_31 : List tc_Ct := []
def tM_31 (z : Nat) : Option am_Meth := none
set_option maxRecDepth 100000 in
theorem tMs_31 (sa : Nat → Nat) : ∀ z mz, tM_31 z = some mz → am_meth (aP sa) z = some mz := fun z mz h => by cases h
noncomputable def tV_31 : tc_Ev := (aQ, tp_T, tp_G.2, tp_Z, tM_31, tC_31, tp_L, tK_31.2.2.2.2.1, aM_36.1, aW_36, tK_31.2.1, tK_31.2.2.2.2.2, tJ_31)
theorem tE_31 : tK_31.2.2.2.2.2.all (tc_wex tK_31.2.1.1 tK_31.2.1.2) = true := by decide +kernel
theorem tSS_31 : tC_31.all (fun c => tw_mg tK_31.2.2.2.2.1 c.2.2.2.2.1) = true := by decide +kernel
theorem tHC_31 : ∀ c ∈ tC_31, c.2.2.2.2.1.all tK_31.2.2.2.2.1.contains = true ∧ c.2.2.2.2.2.all (tc_wex c.2.1.1 c.2.1.2) = true := tf_hc tSS_31 (by
  intro c hc
  have hc : c ∈ ([] : List tc_Ct) := hc
  cases hc)
noncomputable def tH_31_0 : List tc_It := [de_it 0x4010000, de_it 0x300000001, de_it 0x2010000, de_it 0x100010101010101000101000000000000000000000000000100010c10000100010007, de_it 0x4010000, de_it 0x100010102010101030101000000000000000000000000000100010c08000100010007]
set_option maxRecDepth 100000 in
theorem tR_31 : tf_go tV_31 tK_31.2.1.1 tK_31.2.1.2 none tH_31_0 [(tK_31.2.1, tK_31.2.2.2.1, 0, tc_args 0 tK_31.2.2.1, [], ([], 0), ([], 0))] = true := by decide +kernel
set_option maxRecDepth 100000 in
theorem tT_31 {RO : am_O} {sa : Nat → Nat} : tc_true (aP sa) tp_G RO tp_T tp_Z tK_31 := by
  have hC : ∀ c ∈ tC_31, tc_true (aP sa) tp_G RO tp_T tp_Z c := by
    intro c hc
    have hc : c ∈ ([] : List tc_Ct) := hc
    cases hc
  have hP : ∀ p ∈ tJ_31, ∃ hs, tc_plk (aP sa, tV_31.2) p hs = true := by
    intro p hp
    have hp : p ∈ ([] : List tc_Pl) := hp
    cases hp
  exact tc_main (mt := aM_36.1) (hs := tH_31_0) (PL := tJ_31) ⟨tp_G_ok, tMs_31 _, hC, tp_L_ok, tp_G_re⟩ (show am_meth (aP sa) 36 = some aM_36.1 from rfl) aX_36 (by decide +kernel) hP ((tc_go_sa (aP_sa sa _)).trans ((tf_go_s tHC_31).trans tR_31))
noncomputable def tK_32 : tc_Ct := (7, (4, 2), [(2, ([], 0), 0), (0, ([(0, 1)], 0), 0)], ([([(0, -1)], 2147483647), ([(0, 1)], 2147483648), ([(1, -1)], 807), ([(1, 1)], 0), ([(2, -1)], 2000), ([(2, 1)], -8), ([(3, -1)], 8000000)], [(0, 178), (1, 193)], [(1, ([(2, 1)], 0))], [(0, 0, (2, ([], 0), 1)), (0, 1, (0, ([(1, 1)], 0), 0))], [], [], [(1136, [], [([(3, 1)], 0)]), (1016, [], []), (1088, [], [])]), [(178, 0), (178, 1), (193, 0), (193, 1000)], [((7, 2), ([([(0, -1)], 2147483647), ([(0, 1)], 2147483648), ([(1, -1)], 807), ([(1, 1)], 0), ([(2, -1)], 2000), ([(2, 1)], -8), ([(3, -1)], 8000000), ([(4, -1)], 1), ([(4, 1)], 0), ([(5, -1)], 1614), ([(5, 1)], 0), ([(6, -1)], 8000000), ([(1, -1), (2, 1)], 0), ([(4, -16), (5, 1)], 0), ([(3, 1), (5, -1), (6, -1)], 0)], [], [(1, ([(2, 1)], 0))], [(0, 1, (0, ([(1, 1)], 1), 0))], [], [], [(1136, [], [([(6, 1)], 0)])]), none, ([(4, 1)], 0), ([(5, 1)], 0))])
noncomputable def tJ_32 : List tc_Pl := []
noncomputable def tC_32 : List tc_Ct := [tK_0]
def tM_32 (z : Nat) : Option am_Meth := if z = 8 then some aM_8.1 else none
set_option maxRecDepth 100000 in
theorem tMs_32 (sa : Nat → Nat) : ∀ z mz, tM_32 z = some mz → am_meth (aP sa) z = some mz := by
  intro z mz h
  unfold tM_32 at h
  rcases de_m h with ⟨rfl, rfl⟩ | h
  · exact (show am_meth (aP sa) 8 = some aM_8.1 from rfl)
  cases h
noncomputable def tV_32 : tc_Ev := (aQ, tp_T, tp_G.2, tp_Z, tM_32, tC_32, tp_L, tK_32.2.2.2.2.1, aM_7.1, aW_7, tK_32.2.1, tK_32.2.2.2.2.2, tJ_32)
theorem tE_32 : tK_32.2.2.2.2.2.all (tc_wex tK_32.2.1.1 tK_32.2.1.2) = true := by decide +kernel
theorem tSS_32 : tC_32.all (fun c => tw_mg tK_32.2.2.2.2.1 c.2.2.2.2.1) = true := by decide +kernel
theorem tHC_32 : ∀ c ∈ tC_32, c.2.2.2.2.1.all tK_32.2.2.2.2.1.contains = true ∧ c.2.2.2.2.2.all (tc_wex c.2.1.1 c.2.1.2) = true := tf_hc tSS_32 (by
  intro c hc
  have hc : c ∈ ([tK_0] : List tc_Ct) := hc
  rcases List.mem_cons.mp hc with rfl | hc
  · exact tE_0
  cases hc)
noncomputable def tH_32_0 : List tc_It := [de_it 0x2010000, de_it 0x2, de_it 0x10010, de_it 0x2010000, de_it 0x10a0102020100000300000001, de_it 0x2010000, de_it 0x2, de_it 0x2010000, de_it 0x2, de_it 0x2, de_it 0x300000001, de_it 0x2010000, de_it 0x2, de_it 0x2010000, de_it 0x2, de_it 0x6010000, de_it 0x10d0101010c0101010b01010103010104000201010100010003, de_it 0x4010000, de_it 0x2, de_it 0x2010000, de_it 0x1020101010301010200000001, de_it 0x105010101040101010b01010102010101030101000000000700000003, de_it 0x10001010b010101060101000100010001000101060101010501010104010101030101010201010101010101000101000000000000000000000000000100011700020301000000000300010007, de_it 0x4010000, de_it 0x2, de_it 0x4010000, de_it 0x2, de_it 0x2, de_it 0x20b02020201020501010200000001, de_it 0x1050101010b0102020101050101010b0102020102050101020b02020201000000000000000000000000000000000e0002020100040201020200020006, de_it 0x80004020100020201000203010304020004040009, de_it 0x10d0101020b02020201010d0207020200000000000000000700000003, de_it 0x2010000, de_it 0x2, de_it 0x2010000, de_it 0x2, de_it 0x6010000, de_it 0x113010101120101010d02070202010d020b020204000201010100010003, de_it 0x4010000, de_it 0x2, de_it 0x2010000, de_it 0x1020101010d020b02020200000001, de_it 0x10d0101020b02020201010d0207020201020101010d020b0202000000000700000003, de_it 0x1010d0101010701010106010d0201010d0101020b020202010001000101060101010d0102010b01020201010d020b020201020101010101010100010100000000000000000000000000010001170002030302020004020102000300010007]
set_option maxRecDepth 100000 in
theorem tR_32 : tf_go tV_32 tK_32.2.1.1 tK_32.2.1.2 none tH_32_0 [(tK_32.2.1, tK_32.2.2.2.1, 0, tc_args 0 tK_32.2.2.1, [], ([], 0), ([], 0))] = true := by decide +kernel
set_option maxRecDepth 100000 in
theorem tT_32 {RO : am_O} {sa : Nat → Nat} (h_0 : tc_true (aP sa) tp_G RO tp_T tp_Z tK_0) : tc_true (aP sa) tp_G RO tp_T tp_Z tK_32 := by
  have hC : ∀ c ∈ tC_32, tc_true (aP sa) tp_G RO tp_T tp_Z c := by
    intro c hc
    have hc : c ∈ ([tK_0] : List tc_Ct) := hc
    rcases List.mem_cons.mp hc with rfl | hc
    · exact h_0
    cases hc
  have hP : ∀ p ∈ tJ_32, ∃ hs, tc_plk (aP sa, tV_32.2) p hs = true := by
    intro p hp
    have hp : p ∈ ([] : List tc_Pl) := hp
    cases hp
  exact tc_main (mt := aM_7.1) (hs := tH_32_0) (PL := tJ_32) ⟨tp_G_ok, tMs_32 _, hC, tp_L_ok, tp_G_re⟩ (show am_meth (aP sa) 7 = some aM_7.1 from rfl) aX_7 (by decide +kernel) hP ((tc_go_sa (aP_sa sa _)).trans ((tf_go_s tHC_32).trans tR_32))
noncomputable def tK_33 : tc_Ct := (37, (4, 2), [(2, ([], 0), 0), (1, ([], 0), 0), (0, ([(0, 1)], 0), 0)], ([([(0, -1)], 8), ([(0, 1)], -4), ([(1, -1)], 800), ([(1, 1)], 0), ([(2, -1)], 2000), ([(2, 1)], -8), ([(3, -1)], 8000000), ([(3, 1)], 1598)], [(0, 178), (1, 193)], [(1, ([(2, 1)], 0))], [(0, 0, (2, ([], 0), 1)), (0, 1, (0, ([(1, 1)], 0), 0))], [], [], [(1136, [], [([(3, 1)], 0)]), (1016, [], []), (1088, [], [])]), [(178, 0), (178, 1), (193, 0), (193, 1000)], [((8, 2), ([([(0, -1)], 8), ([(0, 1)], -4), ([(1, -1)], 800), ([(1, 1)], 0), ([(2, -1)], 2000), ([(2, 1)], -8), ([(3, -1)], 8000000), ([(3, 1)], 1598), ([(4, -1)], 808), ([(4, 1)], 0), ([(5, 1)], 0), ([(6, 1)], 0), ([(7, -1)], 8000000), ([(5, -16), (6, 1)], 0), ([(0, 1), (1, 1), (4, -1)], 0), ([(3, 1), (6, -1), (7, -1)], 0)], [], [(1, ([(2, 1)], 0))], [(0, 1, (0, ([(4, 1)], 0), 0))], [], [], [(1136, [], [([(7, 1)], 0)])]), none, ([(5, 1)], 0), ([(6, 1)], 0))])
noncomputable def tL_33_0 : tc_Pl := de_pl 0x30d3aff000001040200020000000000030d3aff0003000207010002060100000002040100040000020001000300000001010000000200040300000000000000000440ff000000000000000003f8ff0002080101000000000000000470ff030000000002050100010001000202010101c101b20002000108010702030300010502040201030002071f06020001040200020000000000f42400ff0108010002070100020601000205010000000000000650ff01050100020401100104010000000000000c7cff0203010000000000f42400ff0103010f0202010000000000000fa0ff010201000201010000000000000640ff01010107020001100100010000000000000c7cff0203010000000000f42400ff0103010f0202010000000000000fa0ff010201000201010000000000000640ff01010107020001100100011b0209
noncomputable def tJ_33 : List tc_Pl := [tL_33_0]
noncomputable def tC_33 : List tc_Ct := [tK_32]
def tM_33 (z : Nat) : Option am_Meth := if z = 7 then some aM_7.1 else none
set_option maxRecDepth 100000 in
theorem tMs_33 (sa : Nat → Nat) : ∀ z mz, tM_33 z = some mz → am_meth (aP sa) z = some mz := by
  intro z mz h
  unfold tM_33 at h
  rcases de_m h with ⟨rfl, rfl⟩ | h
  · exact (show am_meth (aP sa) 7 = some aM_7.1 from rfl)
  cases h
noncomputable def tV_33 : tc_Ev := (aQ, tp_T, tp_G.2, tp_Z, tM_33, tC_33, tp_L, tK_33.2.2.2.2.1, aM_37.1, aW_37, tK_33.2.1, tK_33.2.2.2.2.2, tJ_33)
theorem tE_33 : tK_33.2.2.2.2.2.all (tc_wex tK_33.2.1.1 tK_33.2.1.2) = true := by decide +kernel
theorem tSS_33 : tC_33.all (fun c => tw_mg tK_33.2.2.2.2.1 c.2.2.2.2.1) = true := by decide +kernel
theorem tHC_33 : ∀ c ∈ tC_33, c.2.2.2.2.1.all tK_33.2.2.2.2.1.contains = true ∧ c.2.2.2.2.2.all (tc_wex c.2.1.1 c.2.1.2) = true := tf_hc tSS_33 (by
  intro c hc
  have hc : c ∈ ([tK_32] : List tc_Ct) := hc
  rcases List.mem_cons.mp hc with rfl | hc
  · exact tE_32
  cases hc)
noncomputable def tH_33_0 : List tc_It := [de_it 0x4010000, de_it 0x10001000101010101010601010001000101030101010201010001000101070101010601010105010101040101010301010102010101010101010001010107010101060101010501010104010101030101010201010101010101000101000000000000000000000000000100012300020301000000000002010100000500010008]
set_option maxRecDepth 100000 in
theorem tR_33 : tf_go tV_33 tK_33.2.1.1 tK_33.2.1.2 none tH_33_0 [(tK_33.2.1, tK_33.2.2.2.1, 0, tc_args 0 tK_33.2.2.1, [], ([], 0), ([], 0))] = true := by decide +kernel
noncomputable def tH_33_1 : List tc_It := [de_it 0x4010000, de_it 0x300000001, de_it 0x11a010101190117020101180101011601010115010101140101011301010112010101070101010601010105010101040101010301010102010101010101010001010000000000000000000000000001000118000208010002070100020601000205010400010007, de_it 0x4010000, de_it 0x11c011b010003010300000001, de_it 0xa010000, de_it 0x81c0101081101010200000001, de_it 0x8110101081c01010200000001, de_it 0x2010000, de_it 0x101, de_it 0x2000f, de_it 0x4010011, de_it 0x10010, de_it 0x116010101230101012201010113010101020119011c0301011d0101011e0101000000000000000000000000000000010f0002080100020a01000205010002090104040000030006, de_it 0x64625e5c5a58564c46444238363432302c2a2826220e0c0a08060402001d000d, de_it 0x1110101010801010200000001, de_it 0x2010000, de_it 0x11c010f0201010e0101011b010d020101100101011a01010119010b02010117010a020101090101011501010108010101110101010701010106010101050101010401010103010101020101010101010100010101070101010601010105010101040101010301010102010101010101010001010000000001100101000100000001000100012300020d0100020c02070200020b02060202020501020204010500010008]
set_option maxRecDepth 100000 in
theorem tP_33_0 : tf_plk tV_33 tL_33_0 tH_33_1 = true := by decide +kernel
set_option maxRecDepth 100000 in
theorem tT_33 {RO : am_O} {sa : Nat → Nat} (h_32 : tc_true (aP sa) tp_G RO tp_T tp_Z tK_32) : tc_true (aP sa) tp_G RO tp_T tp_Z tK_33 := by
  have hC : ∀ c ∈ tC_33, tc_true (aP sa) tp_G RO tp_T tp_Z c := by
    intro c hc
    have hc : c ∈ ([tK_32] : List tc_Ct) := hc
    rcases List.mem_cons.mp hc with rfl | hc
    · exact h_32
    cases hc
  have hP : ∀ p ∈ tJ_33, ∃ hs, tc_plk (aP sa, tV_33.2) p hs = true := by
    intro p hp
    have hp : p ∈ ([tL_33_0] : List tc_Pl) := hp
    rcases List.mem_cons.mp hp with rfl | hp
    · exact ⟨_, (tc_plk_sa (aP_sa sa _)).trans ((tf_plk_s tHC_33).trans tP_33_0)⟩
    cases hp
  exact tc_main (mt := aM_37.1) (hs := tH_33_0) (PL := tJ_33) ⟨tp_G_ok, tMs_33 _, hC, tp_L_ok, tp_G_re⟩ (show am_meth (aP sa) 37 = some aM_37.1 from rfl) aX_37 (by decide +kernel) hP ((tc_go_sa (aP_sa sa _)).trans ((tf_go_s tHC_33).trans tR_33))
