/-! contracts -/
noncomputable def tK_0 : tc_Ct := (8, (2, 1), [(2, ([], 0), 0), (0, ([(0, 1)], 0), 0)], ([([(0, -1)], 93910), ([(0, 1)], -16), ([(1, -1)], 46955), ([(1, 1)], -8), ([(0, -1), (1, 1)], 46955), ([(0, 1), (1, -1)], -8)], [(0, 193)], [(0, ([(1, 1)], 0))], [], [], [], [(1016, [], []), (1088, [], [])]), [(193, 0), (193, 1000)], [((2, 2), ([([(0, -1)], 93910), ([(0, 1)], -16), ([(1, -1)], 46955), ([(1, 1)], -8), ([(0, -1), (1, 1)], 46955), ([(0, 1), (1, -1)], -8)], [(1, 193)], [(0, ([(1, 1)], 0)), (1, ([(0, 1)], 0))], [], [], [], []), some (2, ([], 0), 1), ([], 1), ([(0, 1)], 0))])
noncomputable def tJ_0 : List tc_Pl := []
noncomputable def tC_0 : List tc_Ct := []
def tM_0 (z : Nat) : Option am_Meth := none
set_option maxRecDepth 100000 in
theorem tMs_0 (sa : Nat → Nat) : ∀ z mz, tM_0 z = some mz → am_meth (aP sa) z = some mz := fun z mz h => by cases h
noncomputable def tV_0 : tc_Ev := (aQ, tp_T, tp_G.2, tp_Z, tM_0, tC_0, tp_L, tK_0.2.2.2.2.1, aM_8.1, aW_8, tK_0.2.1, tK_0.2.2.2.2.2, tJ_0)
theorem tE_0 : tK_0.2.2.2.2.2.all (tc_wex tK_0.2.1.1 tK_0.2.1.2) = true := by decide +kernel
theorem tSS_0 : tC_0.all (fun c => tw_mg tK_0.2.2.2.2.1 c.2.2.2.2.1) = true := by decide +kernel
theorem tHC_0 : ∀ c ∈ tC_0, c.2.2.2.2.1.all tK_0.2.2.2.2.1.contains = true ∧ c.2.2.2.2.2.all (tc_wex c.2.1.1 c.2.1.2) = true := tf_hc tSS_0 (by
  intro c hc
  have hc : c ∈ ([] : List tc_Ct) := hc
  cases hc)
noncomputable def tH_0_0 : List tc_It := [de_it 0x4010000, de_it 0x2, de_it 0x105010101070105020100000300000001, de_it 0x2010000, de_it 0x100010101010101010001010101010104000000000000000182ff010004, de_it 0xc010000, de_it 0x2, de_it 0x2010000, de_it 0x107010502010200000005, de_it 0x1050101000100010001010301010500000005, de_it 0x2010000, de_it 0x10501010104010101030101010201010101010101000101000000000000000000000000000100010e000200020007]
set_option maxRecDepth 100000 in
theorem tR_0 : fw_go tV_0 tK_0.2.1.1 tK_0.2.1.2 none tH_0_0 [(tK_0.2.1, tK_0.2.2.2.1, 0, tc_args 0 tK_0.2.2.1, [], ([], 0), ([], 0))] = true := by decide +kernel
set_option maxRecDepth 100000 in
theorem tT_0 {RO : am_O} {sa : Nat → Nat} : tc_true (aP sa) tp_G RO tp_T tp_Z tK_0 := by
  have hC : ∀ c ∈ tC_0, tc_true (aP sa) tp_G RO tp_T tp_Z c := by
    intro c hc
    have hc : c ∈ ([] : List tc_Ct) := hc
    cases hc
  have hP : ∀ p ∈ tJ_0, ∃ hs, tc_plk (aP sa, tV_0.2) p hs = true := by
    intro p hp
    have hp : p ∈ ([] : List tc_Pl) := hp
    cases hp
  exact tc_main (mt := aM_8.1) (hs := tH_0_0) (PL := tJ_0) ⟨tp_G_ok, tMs_0 _, hC, tp_L_ok, tp_G_re⟩ (show am_meth (aP sa) 8 = some aM_8.1 from rfl) aX_8 (by decide +kernel) hP ((tc_go_sa (aP_sa sa _)).trans ((fw_go_s tHC_0).trans tR_0))
noncomputable def tK_1 : tc_Ct := (7, (4, 2), [(2, ([], 0), 0), (0, ([(0, 1)], 0), 0)], ([([(0, -1)], 2147483647), ([(0, 1)], 2147483648), ([(1, -1)], 799), ([(1, 1)], 0), ([(2, -1)], 1600), ([(2, 1)], -64), ([(3, -1)], 8000000)], [(0, 177), (1, 193)], [(1, ([(2, 1)], 0))], [(0, 0, (2, ([], 0), 1)), (0, 1, (0, ([(1, 1)], 0), 0))], [], [], [(1016, [], []), (1088, [], []), (1136, [], [([(3, 1)], 0)])]), [(177, 0), (177, 1), (193, 0), (193, 1000)], [((7, 2), ([([(0, -1)], 2147483647), ([(0, 1)], 2147483648), ([(1, -1)], 799), ([(1, 1)], 0), ([(2, -1)], 1600), ([(2, 1)], -64), ([(3, -1)], 8000000), ([(4, -1)], 1), ([(4, 1)], 0), ([(5, -1)], 1598), ([(5, 1)], 0), ([(6, -1)], 8000000), ([(1, -1), (2, 1)], 0), ([(4, -16), (5, 1)], 0), ([(3, 1), (5, -1), (6, -1)], 0)], [], [(1, ([(2, 1)], 0))], [(0, 1, (0, ([(1, 1)], 1), 0))], [], [], [(1136, [], [([(6, 1)], 0)])]), none, ([(4, 1)], 0), ([(5, 1)], 0))])
noncomputable def tJ_1 : List tc_Pl := []
noncomputable def tC_1 : List tc_Ct := [tK_0]
def tM_1 (z : Nat) : Option am_Meth := if z = 8 then some aM_8.1 else none
set_option maxRecDepth 100000 in
theorem tMs_1 (sa : Nat → Nat) : ∀ z mz, tM_1 z = some mz → am_meth (aP sa) z = some mz := by
  intro z mz h
  unfold tM_1 at h
  rcases de_m h with ⟨rfl, rfl⟩ | h
  · exact (show am_meth (aP sa) 8 = some aM_8.1 from rfl)
  cases h
noncomputable def tV_1 : tc_Ev := (aQ, tp_T, tp_G.2, tp_Z, tM_1, tC_1, tp_L, tK_1.2.2.2.2.1, aM_7.1, aW_7, tK_1.2.1, tK_1.2.2.2.2.2, tJ_1)
theorem tE_1 : tK_1.2.2.2.2.2.all (tc_wex tK_1.2.1.1 tK_1.2.1.2) = true := by decide +kernel
theorem tSS_1 : tC_1.all (fun c => tw_mg tK_1.2.2.2.2.1 c.2.2.2.2.1) = true := by decide +kernel
theorem tHC_1 : ∀ c ∈ tC_1, c.2.2.2.2.1.all tK_1.2.2.2.2.1.contains = true ∧ c.2.2.2.2.2.all (tc_wex c.2.1.1 c.2.1.2) = true := tf_hc tSS_1 (by
  intro c hc
  have hc : c ∈ ([tK_0] : List tc_Ct) := hc
  rcases List.mem_cons.mp hc with rfl | hc
  · exact tE_0
  cases hc)
noncomputable def tH_1_0 : List tc_It := [de_it 0x2010000, de_it 0x2, de_it 0x10010, de_it 0x2010000, de_it 0x10a0102020100000300000001, de_it 0x2010000, de_it 0x2, de_it 0x2010000, de_it 0x2, de_it 0x2, de_it 0x300000001, de_it 0x2010000, de_it 0x2, de_it 0x2010000, de_it 0x2, de_it 0x6010000, de_it 0x10d0101010c0101010b01010103010104000201010100010003, de_it 0x4010000, de_it 0x2, de_it 0x2010000, de_it 0x1020101010301010200000001, de_it 0x105010101040101010b01010102010101030101000000000700000003, de_it 0x10001010b010101060101000100010001000101060101010501010104010101030101010201010101010101000101000000000000000000000000000100011700020301000000000300010007, de_it 0x4010000, de_it 0x2, de_it 0x4010000, de_it 0x2, de_it 0x2, de_it 0x20b02020201020501010200000001, de_it 0x1050101010b0102020101050101010b0102020102050101020b02020201000000000000000000000000000000000e0002020100040201020200020006, de_it 0x800040201000202010002030103040200c8040009, de_it 0x2050101020b0202020101050107020100000000000000000700000003, de_it 0x2010000, de_it 0x2, de_it 0x2010000, de_it 0x2, de_it 0x6010000, de_it 0x1130101011201010105010702010105010b020104000201010100010003, de_it 0x4010000, de_it 0x2, de_it 0x2010000, de_it 0x10201010105010b02010200000001, de_it 0x2050101020b02020201010501070201010201010105010b0201000000000700000003, de_it 0x1020501010107010101060205020102050101020b02020201000100010106010101050101010b010202010105010b020101020101010101010100010100000000000000000000000000010001170002030302020004020102000300010007]
set_option maxRecDepth 100000 in
theorem tR_1 : fw_go tV_1 tK_1.2.1.1 tK_1.2.1.2 none tH_1_0 [(tK_1.2.1, tK_1.2.2.2.1, 0, tc_args 0 tK_1.2.2.1, [], ([], 0), ([], 0))] = true := by decide +kernel
set_option maxRecDepth 100000 in
theorem tT_1 {RO : am_O} {sa : Nat → Nat} (h_0 : tc_true (aP sa) tp_G RO tp_T tp_Z tK_0) : tc_true (aP sa) tp_G RO tp_T tp_Z tK_1 := by
  have hC : ∀ c ∈ tC_1, tc_true (aP sa) tp_G RO tp_T tp_Z c := by
    intro c hc
    have hc : c ∈ ([tK_0] : List tc_Ct) := hc
    rcases List.mem_cons.mp hc with rfl | hc
    · exact h_0
    cases hc
  have hP : ∀ p ∈ tJ_1, ∃ hs, tc_plk (aP sa, tV_1.2) p hs = true := by
    intro p hp
    have hp : p ∈ ([] : List tc_Pl) := hp
    cases hp
  exact tc_main (mt := aM_7.1) (hs := tH_1_0) (PL := tJ_1) ⟨tp_G_ok, tMs_1 _, hC, tp_L_ok, tp_G_re⟩ (show am_meth (aP sa) 7 = some aM_7.1 from rfl) aX_7 (by decide +kernel) hP ((tc_go_sa (aP_sa sa _)).trans ((fw_go_s tHC_1).trans tR_1))
noncomputable def tK_2 : tc_Ct := (6, (2, 1), [(2, ([], 0), 0), (0, ([(0, 1)], 0), 0), (1, ([], 0), 0)], ([([(0, -1)], 2147483647), ([(0, 1)], 2147483648), ([(1, -1)], 8000000), ([(1, 1)], 0)], [(0, 165)], [], [], [], [], [(1016, [], []), (1024, [], []), (1088, [], []), (1096, [], []), (1136, [], [([(1, 1)], 0)])]), [(177, 0), (177, 1), (193, 0), (193, 1000)], [((6, 1), ([([(0, -1)], 2147483647), ([(0, 1)], 2147483648), ([(1, -1)], 8000000), ([(1, 1)], 0), ([(2, -1)], 800), ([(2, 1)], 3), ([(3, 1)], 0), ([(4, 1)], 0), ([(5, -1)], 8000000), ([(3, -16), (4, 1)], 0), ([(1, 1), (4, -1), (5, -1)], 0)], [], [], [], [], [], [(1136, [], [([(5, 1)], 0)])]), some (0, ([(2, 1)], 0), 0), ([(3, 1)], 0), ([(4, 1)], 0))])
noncomputable def tL_2_0 : tc_Pl := de_pl 0x30cf8ff00020202010000000000030cf8ff0003000205010002040100000002020100040000000102000000020003240002060101000000000000000470ff00000000000000000448ff00000000000000000440ff00000000000000000400ff000000000000000003f8ff05000000000203010001010100000201000200b101a5000200010601050201030002051f0402000203020202000000000000063eff01030102020000000000f42400ff0106010002050100020401000203010000000000000640ff0103010e0102010102000110010001000201010000000000f42400ff0101010e0207
noncomputable def tJ_2 : List tc_Pl := [tL_2_0]
noncomputable def tC_2 : List tc_Ct := [tK_1]
def tM_2 (z : Nat) : Option am_Meth := if z = 7 then some aM_7.1 else none
set_option maxRecDepth 100000 in
theorem tMs_2 (sa : Nat → Nat) : ∀ z mz, tM_2 z = some mz → am_meth (aP sa) z = some mz := by
  intro z mz h
  unfold tM_2 at h
  rcases de_m h with ⟨rfl, rfl⟩ | h
  · exact (show am_meth (aP sa) 7 = some aM_7.1 from rfl)
  cases h
noncomputable def tV_2 : tc_Ev := (aQ, tp_T, tp_G.2, tp_Z, tM_2, tC_2, tp_L, tK_2.2.2.2.2.1, aM_6.1, aW_6, tK_2.2.1, tK_2.2.2.2.2.2, tJ_2)
theorem tE_2 : tK_2.2.2.2.2.2.all (tc_wex tK_2.2.1.1 tK_2.2.1.2) = true := by decide +kernel
theorem tSS_2 : tC_2.all (fun c => tw_mg tK_2.2.2.2.2.1 c.2.2.2.2.1) = true := by decide +kernel
theorem tHC_2 : ∀ c ∈ tC_2, c.2.2.2.2.1.all tK_2.2.2.2.2.1.contains = true ∧ c.2.2.2.2.2.all (tc_wex c.2.1.1 c.2.1.2) = true := tf_hc tSS_2 (by
  intro c hc
  have hc : c ∈ ([tK_1] : List tc_Ct) := hc
  rcases List.mem_cons.mp hc with rfl | hc
  · exact tE_1
  cases hc)
noncomputable def tH_2_0 : List tc_It := [de_it 0x4010000, de_it 0x300000001, de_it 0x2010000, de_it 0x10001010201010001000100010001010301010102010101010101010401010000000000000000000000000001000113000201010000000001000400010007, de_it 0x4010000, de_it 0x300000001, de_it 0x2010000, de_it 0x2, de_it 0x2, de_it 0x2010000, de_it 0x107010502010106010402010200000001, de_it 0x2010000, de_it 0x300000001, de_it 0x4010000, de_it 0x1050101010401010200000001, de_it 0x2010000, de_it 0x10001010601040201010801010102010100010001010601010104010802010105010101040101010501010103010101020101000000000000000000000000000100011600020101000000000002020101020001050200020008, de_it 0x2010000, de_it 0x10001010201010001000100010001010301010102010101040101010501010000000000000000000000000001000113000201010000000005000400010007, de_it 0x2010000, de_it 0x10001010201010001000100010001010301010102010101050101010001010000000000000000000000000001000113000201010000000001000400010007]
set_option maxRecDepth 100000 in
theorem tR_2 : fw_go tV_2 tK_2.2.1.1 tK_2.2.1.2 none tH_2_0 [(tK_2.2.1, tK_2.2.2.2.1, 0, tc_args 0 tK_2.2.2.1, [], ([], 0), ([], 0))] = true := by decide +kernel
noncomputable def tH_2_1 : List tc_It := [de_it 0x2010000, de_it 0x300000001, de_it 0x2010000, de_it 0x2, de_it 0x2, de_it 0x10d0101010c0101010901010108010101070101010b010e020101050101010101010100010101030101010201010000000000000000000000000001000113000206010002050100020401000203010400010007, de_it 0x2010000, de_it 0x2, de_it 0x6010000, de_it 0x8040101080e01010200000001, de_it 0x2010000, de_it 0x101, de_it 0x202000f, de_it 0x4010011, de_it 0x2010010, de_it 0x1090101011501010114010101060101010e010a0201010f010101100101000000000000000000000000000000010f0002060100020801000203010002070104040200030006, de_it 0x1040101010e01010200000001, de_it 0x2010000, de_it 0x124010d02010123010c0201010b0101010a010101210101012001080201011e010702010106010101180101010401010103010101020101010101010100010100000000010e0101000100000001000100011600020b0100020a0205020002090204020202030101020201050200020008]
set_option maxRecDepth 100000 in
theorem tP_2_0 : fw_plk tV_2 tL_2_0 tH_2_1 = true := by decide +kernel
set_option maxRecDepth 100000 in
theorem tT_2 {RO : am_O} {sa : Nat → Nat} (h_1 : tc_true (aP sa) tp_G RO tp_T tp_Z tK_1) : tc_true (aP sa) tp_G RO tp_T tp_Z tK_2 := by
  have hC : ∀ c ∈ tC_2, tc_true (aP sa) tp_G RO tp_T tp_Z c := by
    intro c hc
    have hc : c ∈ ([tK_1] : List tc_Ct) := hc
    rcases List.mem_cons.mp hc with rfl | hc
    · exact h_1
    cases hc
  have hP : ∀ p ∈ tJ_2, ∃ hs, tc_plk (aP sa, tV_2.2) p hs = true := by
    intro p hp
    have hp : p ∈ ([tL_2_0] : List tc_Pl) := hp
    rcases List.mem_cons.mp hp with rfl | hp
    · exact ⟨_, (tc_plk_sa (aP_sa sa _)).trans ((fw_plk_s tHC_2).trans tP_2_0)⟩
    cases hp
  exact tc_main (mt := aM_6.1) (hs := tH_2_0) (PL := tJ_2) ⟨tp_G_ok, tMs_2 _, hC, tp_L_ok, tp_G_re⟩ (show am_meth (aP sa) 6 = some aM_6.1 from rfl) aX_6 (by decide +kernel) hP ((tc_go_sa (aP_sa sa _)).trans ((fw_go_s tHC_2).trans tR_2))
noncomputable def tK_3 : tc_Ct := (9, (1, 1), [(2, ([], 0), 0), (0, ([(0, 1)], 0), 0)], ([([(0, -1)], 2147483647), ([(0, 1)], 2147483648)], [(0, 165)], [], [], [], [], [(1016, [], []), (1024, [], []), (1088, [], []), (1096, [], [])]), [(177, 1)], [((2, 1), ([([(0, -1)], 2147483647), ([(0, 1)], 2147483648), ([(1, -1)], 800), ([(1, 1)], 1)], [], [], [], [], [], []), some (0, ([(1, 1)], 0), 0), ([], 0), ([], 0))])
noncomputable def tJ_3 : List tc_Pl := []
noncomputable def tC_3 : List tc_Ct := []
def tM_3 (z : Nat) : Option am_Meth := none
set_option maxRecDepth 100000 in
theorem tMs_3 (sa : Nat → Nat) : ∀ z mz, tM_3 z = some mz → am_meth (aP sa) z = some mz := fun z mz h => by cases h
noncomputable def tV_3 : tc_Ev := (aQ, tp_T, tp_G.2, tp_Z, tM_3, tC_3, tp_L, tK_3.2.2.2.2.1, aM_9.1, aW_9, tK_3.2.1, tK_3.2.2.2.2.2, tJ_3)
theorem tE_3 : tK_3.2.2.2.2.2.all (tc_wex tK_3.2.1.1 tK_3.2.1.2) = true := by decide +kernel
theorem tSS_3 : tC_3.all (fun c => tw_mg tK_3.2.2.2.2.1 c.2.2.2.2.1) = true := by decide +kernel
theorem tHC_3 : ∀ c ∈ tC_3, c.2.2.2.2.1.all tK_3.2.2.2.2.1.contains = true ∧ c.2.2.2.2.2.all (tc_wex c.2.1.1 c.2.1.2) = true := tf_hc tSS_3 (by
  intro c hc
  have hc : c ∈ ([] : List tc_Ct) := hc
  cases hc)
noncomputable def tH_3_0 : List tc_It := [de_it 0x2010000, de_it 0x300000001, de_it 0x2010000, de_it 0x100010101010101020101000000000000000000000000000100010c01000100010007, de_it 0x4010000, de_it 0x2, de_it 0x2, de_it 0x300000001, de_it 0x2010000, de_it 0x2, de_it 0x2, de_it 0x2010000, de_it 0x10401020201010501010200000001, de_it 0x4010000, de_it 0x2, de_it 0x2010000, de_it 0x202000f, de_it 0x4010011, de_it 0x2010010, de_it 0x10a01010109010101050108020101050104020101020101000000000700000003, de_it 0x2010000, de_it 0x105010101040102020101020101010501040201000000000000000000000000000100010c0002010100020100010007, de_it 0x2010000, de_it 0x1000101030105020101000101000000000000000000000000000100010c01000100010007]
set_option maxRecDepth 100000 in
theorem tR_3 : fw_go tV_3 tK_3.2.1.1 tK_3.2.1.2 none tH_3_0 [(tK_3.2.1, tK_3.2.2.2.1, 0, tc_args 0 tK_3.2.2.1, [], ([], 0), ([], 0))] = true := by decide +kernel
set_option maxRecDepth 100000 in
theorem tT_3 {RO : am_O} {sa : Nat → Nat} : tc_true (aP sa) tp_G RO tp_T tp_Z tK_3 := by
  have hC : ∀ c ∈ tC_3, tc_true (aP sa) tp_G RO tp_T tp_Z c := by
    intro c hc
    have hc : c ∈ ([] : List tc_Ct) := hc
    cases hc
  have hP : ∀ p ∈ tJ_3, ∃ hs, tc_plk (aP sa, tV_3.2) p hs = true := by
    intro p hp
    have hp : p ∈ ([] : List tc_Pl) := hp
    cases hp
  exact tc_main (mt := aM_9.1) (hs := tH_3_0) (PL := tJ_3) ⟨tp_G_ok, tMs_3 _, hC, tp_L_ok, tp_G_re⟩ (show am_meth (aP sa) 9 = some aM_9.1 from rfl) aX_9 (by decide +kernel) hP ((tc_go_sa (aP_sa sa _)).trans ((fw_go_s tHC_3).trans tR_3))
noncomputable def tK_4 : tc_Ct := (11, (3, 2), [(2, ([], 0), 0), (0, ([(0, 1)], 0), 0)], ([([(0, -1)], 999), ([(0, 1)], 0), ([(1, -1)], 1000), ([(1, 1)], -1), ([(2, -1)], 2000), ([(2, 1)], -8), ([(0, -1), (1, 1)], -1), ([(0, -1), (2, 1)], -1), ([(1, -1), (2, 1)], 0)], [(0, 178), (1, 193)], [(1, ([(2, 1)], 0))], [(0, 0, (2, ([], 0), 1)), (0, 1, (0, ([(1, 1)], 0), 0))], [], [], [(1016, [], []), (1088, [], [])]), [], [((4, 2), ([([(0, -1)], 999), ([(0, 1)], 0), ([(1, -1)], 1000), ([(1, 1)], -1), ([(2, -1)], 2000), ([(2, 1)], -8), ([(3, -1)], 255), ([(3, 1)], 0), ([(0, -1), (1, 1)], -1), ([(0, -1), (2, 1)], -1), ([(1, -1), (2, 1)], 0)], [], [(1, ([(2, 1)], 0))], [], [], [], []), some (0, ([(3, 1)], 0), 0), ([], 0), ([], 0))])
noncomputable def tJ_4 : List tc_Pl := []
noncomputable def tC_4 : List tc_Ct := []
def tM_4 (z : Nat) : Option am_Meth := none
set_option maxRecDepth 100000 in
theorem tMs_4 (sa : Nat → Nat) : ∀ z mz, tM_4 z = some mz → am_meth (aP sa) z = some mz := fun z mz h => by cases h
noncomputable def tV_4 : tc_Ev := (aQ, tp_T, tp_G.2, tp_Z, tM_4, tC_4, tp_L, tK_4.2.2.2.2.1, aM_11.1, aW_11, tK_4.2.1, tK_4.2.2.2.2.2, tJ_4)
theorem tE_4 : tK_4.2.2.2.2.2.all (tc_wex tK_4.2.1.1 tK_4.2.1.2) = true := by decide +kernel
theorem tSS_4 : tC_4.all (fun c => tw_mg tK_4.2.2.2.2.1 c.2.2.2.2.1) = true := by decide +kernel
theorem tHC_4 : ∀ c ∈ tC_4, c.2.2.2.2.1.all tK_4.2.2.2.2.1.contains = true ∧ c.2.2.2.2.2.all (tc_wex c.2.1.1 c.2.1.2) = true := tf_hc tSS_4 (by
  intro c hc
  have hc : c ∈ ([] : List tc_Ct) := hc
  cases hc)
noncomputable def tH_4_0 : List tc_It := [de_it 0x2010000, de_it 0x109010102010300000001, de_it 0x4010000, de_it 0x2, de_it 0x10a010602010300000001, de_it 0x2010000, de_it 0x2, de_it 0x2010000, de_it 0x10701010101010102000200010100010002, de_it 0x2010000, de_it 0x10801010107010101060101010d0101010e01010105010101040101010301010102010101010101010001010000000000000000000000000001000113000203010100010007]
set_option maxRecDepth 100000 in
theorem tR_4 : fw_go tV_4 tK_4.2.1.1 tK_4.2.1.2 none tH_4_0 [(tK_4.2.1, tK_4.2.2.2.1, 0, tc_args 0 tK_4.2.2.1, [], ([], 0), ([], 0))] = true := by decide +kernel
set_option maxRecDepth 100000 in
theorem tT_4 {RO : am_O} {sa : Nat → Nat} : tc_true (aP sa) tp_G RO tp_T tp_Z tK_4 := by
  have hC : ∀ c ∈ tC_4, tc_true (aP sa) tp_G RO tp_T tp_Z c := by
    intro c hc
    have hc : c ∈ ([] : List tc_Ct) := hc
    cases hc
  have hP : ∀ p ∈ tJ_4, ∃ hs, tc_plk (aP sa, tV_4.2) p hs = true := by
    intro p hp
    have hp : p ∈ ([] : List tc_Pl) := hp
    cases hp
  exact tc_main (mt := aM_11.1) (hs := tH_4_0) (PL := tJ_4) ⟨tp_G_ok, tMs_4 _, hC, tp_L_ok, tp_G_re⟩ (show am_meth (aP sa) 11 = some aM_11.1 from rfl) aX_11 (by decide +kernel) hP ((tc_go_sa (aP_sa sa _)).trans ((fw_go_s tHC_4).trans tR_4))
noncomputable def tK_5 : tc_Ct := (10, (1, 1), [(2, ([], 0), 0), (0, ([(0, 1)], 0), 0)], ([([(0, -1)], 2147483647), ([(0, 1)], 2147483648)], [(0, 165)], [], [], [], [], [(1016, [], []), (1024, [], []), (1088, [], []), (1096, [], [])]), [], [((2, 1), ([([(0, -1)], 2147483647), ([(0, 1)], 2147483648), ([(1, -1)], 1000), ([(1, 1)], 1)], [], [], [], [], [], []), some (0, ([(1, 1)], 0), 0), ([], 0), ([], 0))])
noncomputable def tJ_5 : List tc_Pl := []
noncomputable def tC_5 : List tc_Ct := [tK_4]
def tM_5 (z : Nat) : Option am_Meth := if z = 11 then some aM_11.1 else none
set_option maxRecDepth 100000 in
theorem tMs_5 (sa : Nat → Nat) : ∀ z mz, tM_5 z = some mz → am_meth (aP sa) z = some mz := by
  intro z mz h
  unfold tM_5 at h
  rcases de_m h with ⟨rfl, rfl⟩ | h
  · exact (show am_meth (aP sa) 11 = some aM_11.1 from rfl)
  cases h
noncomputable def tV_5 : tc_Ev := (aQ, tp_T, tp_G.2, tp_Z, tM_5, tC_5, tp_L, tK_5.2.2.2.2.1, aM_10.1, aW_10, tK_5.2.1, tK_5.2.2.2.2.2, tJ_5)
theorem tE_5 : tK_5.2.2.2.2.2.all (tc_wex tK_5.2.1.1 tK_5.2.1.2) = true := by decide +kernel
theorem tSS_5 : tC_5.all (fun c => tw_mg tK_5.2.2.2.2.1 c.2.2.2.2.1) = true := by decide +kernel
theorem tHC_5 : ∀ c ∈ tC_5, c.2.2.2.2.1.all tK_5.2.2.2.2.1.contains = true ∧ c.2.2.2.2.2.all (tc_wex c.2.1.1 c.2.1.2) = true := tf_hc tSS_5 (by
  intro c hc
  have hc : c ∈ ([tK_4] : List tc_Ct) := hc
  rcases List.mem_cons.mp hc with rfl | hc
  · exact tE_4
  cases hc)
noncomputable def tH_5_0 : List tc_It := [de_it 0x4010000, de_it 0x300000001, de_it 0x2010000, de_it 0x100010101010101020101000000000000000000000000000100010c01000100010007, de_it 0x4010000, de_it 0x2, de_it 0x2, de_it 0x300000001, de_it 0x4010000, de_it 0x1020101000000000300000001, de_it 0x2010000, de_it 0x2, de_it 0x2010000, de_it 0x202000f, de_it 0x4010011, de_it 0x2010010, de_it 0x109010101050109020101050101010b0101010a01010106010502010104010101060101010501040201000000000000000000000000000000011100020201000201010002000103040200030006, de_it 0x11301010112010101060101010c0101000000000000000000000000000100010c000203010100010007, de_it 0x2010000, de_it 0x2, de_it 0x2, de_it 0x2010000, de_it 0x1030101010401010102010101070101000000000000000000000000000100010c000201010100010007, de_it 0x2010000, de_it 0x1000101030105020101000101000000000000000000000000000100010c01000100010007]
set_option maxRecDepth 100000 in
theorem tR_5 : fw_go tV_5 tK_5.2.1.1 tK_5.2.1.2 none tH_5_0 [(tK_5.2.1, tK_5.2.2.2.1, 0, tc_args 0 tK_5.2.2.1, [], ([], 0), ([], 0))] = true := by decide +kernel
set_option maxRecDepth 100000 in
theorem tT_5 {RO : am_O} {sa : Nat → Nat} (h_4 : tc_true (aP sa) tp_G RO tp_T tp_Z tK_4) : tc_true (aP sa) tp_G RO tp_T tp_Z tK_5 := by
  have hC : ∀ c ∈ tC_5, tc_true (aP sa) tp_G RO tp_T tp_Z c := by
    intro c hc
    have hc : c ∈ ([tK_4] : List tc_Ct) := hc
    rcases List.mem_cons.mp hc with rfl | hc
    · exact h_4
    cases hc
  have hP : ∀ p ∈ tJ_5, ∃ hs, tc_plk (aP sa, tV_5.2) p hs = true := by
    intro p hp
    have hp : p ∈ ([] : List tc_Pl) := hp
    cases hp
  exact tc_main (mt := aM_10.1) (hs := tH_5_0) (PL := tJ_5) ⟨tp_G_ok, tMs_5 _, hC, tp_L_ok, tp_G_re⟩ (show am_meth (aP sa) 10 = some aM_10.1 from rfl) aX_10 (by decide +kernel) hP ((tc_go_sa (aP_sa sa _)).trans ((fw_go_s tHC_5).trans tR_5))
noncomputable def tK_6 : tc_Ct := (13, (5, 3), [(2, ([], 0), 0), (2, ([], 0), 1), (0, ([], 0), 0), (0, ([(0, 1)], 0), 0)], ([([(0, -1)], 800), ([(0, 1)], 0), ([(1, -1)], 800), ([(1, 1)], 0), ([(2, -1)], 8192), ([(2, 1)], -8), ([(3, -1)], 1600), ([(3, 1)], -64), ([(4, -1)], 8000000), ([(0, -1), (1, -1)], 800), ([(0, -1), (2, 1)], 0), ([(0, 1), (2, -1)], 8180), ([(0, -1), (2, -1), (3, 1)], 8206)], [(0, 177), (1, 193), (2, 193)], [(1, ([(2, 1)], 0)), (2, ([(3, 1)], 0))], [(0, 0, (2, ([], 0), 2)), (0, 1, (0, ([(1, 1)], 0), 0))], [], [], [(1016, [], []), (1088, [], []), (1136, [], [([(4, 1)], 0)])]), [(177, 0), (177, 1), (193, 0), (193, 1000)], [((9, 3), ([([(0, -1)], 800), ([(0, 1)], 0), ([(1, -1)], 800), ([(1, 1)], 0), ([(2, -1)], 8192), ([(2, 1)], -8), ([(3, -1)], 1600), ([(3, 1)], -64), ([(4, -1)], 8000000), ([(5, -1)], 800), ([(5, 1)], 0), ([(6, -1)], 1), ([(6, 1)], 0), ([(7, -1)], 1598), ([(7, 1)], 0), ([(8, -1)], 8000000), ([(0, -1), (1, -1)], 800), ([(0, -1), (2, 1)], 0), ([(0, -1), (5, 1)], 0), ([(0, 1), (2, -1)], 8180), ([(1, -1), (5, 1)], 0), ([(6, -16), (7, 1)], 0), ([(0, -1), (1, -1), (5, 1)], 0), ([(0, -1), (2, -1), (3, 1)], 8206), ([(0, 1), (1, 1), (5, -1)], 0), ([(2, -1), (3, 1), (5, -1)], 8916), ([(4, 1), (7, -1), (8, -1)], 0)], [], [(1, ([(2, 1)], 0)), (2, ([(3, 1)], 0))], [(0, 1, (0, ([(5, 1)], 0), 0))], [], [], [(1136, [], [([(8, 1)], 0)])]), none, ([(6, 1)], 0), ([(7, 1)], 0))])
noncomputable def tJ_6 : List tc_Pl := []
noncomputable def tC_6 : List tc_Ct := [tK_0]
def tM_6 (z : Nat) : Option am_Meth := if z = 8 then some aM_8.1 else none
set_option maxRecDepth 100000 in
theorem tMs_6 (sa : Nat → Nat) : ∀ z mz, tM_6 z = some mz → am_meth (aP sa) z = some mz := by
  intro z mz h
  unfold tM_6 at h
  rcases de_m h with ⟨rfl, rfl⟩ | h
  · exact (show am_meth (aP sa) 8 = some aM_8.1 from rfl)
  cases h
noncomputable def tV_6 : tc_Ev := (aQ, tp_T, tp_G.2, tp_Z, tM_6, tC_6, tp_L, tK_6.2.2.2.2.1, aM_13.1, aW_13, tK_6.2.1, tK_6.2.2.2.2.2, tJ_6)
theorem tE_6 : tK_6.2.2.2.2.2.all (tc_wex tK_6.2.1.1 tK_6.2.1.2) = true := by decide +kernel
theorem tSS_6 : tC_6.all (fun c => tw_mg tK_6.2.2.2.2.1 c.2.2.2.2.1) = true := by decide +kernel
theorem tHC_6 : ∀ c ∈ tC_6, c.2.2.2.2.1.all tK_6.2.2.2.2.1.contains = true ∧ c.2.2.2.2.2.all (tc_wex c.2.1.1 c.2.1.2) = true := tf_hc tSS_6 (by
  intro c hc
  have hc : c ∈ ([tK_0] : List tc_Ct) := hc
  rcases List.mem_cons.mp hc with rfl | hc
  · exact tE_0
  cases hc)
noncomputable def tH_6_0 : List tc_It := [de_it 0x2010000, de_it 0x10d01010300000001, de_it 0x4010000, de_it 0x2, de_it 0x10e010a02010300000001, de_it 0x4010000, de_it 0x300000001, de_it 0x1010b010701090301010101010107010b020f0301010f010100010001010b0101010f01030201010f0105020101090101010801010001000100010001010301010102010101080101010701010106010101050101010f010b0201010301010102010101010101010f010100000000000000000000000000010001230002040100000000000201010400010007, de_it 0x2010000, de_it 0x2, de_it 0x10010, de_it 0x4010000, de_it 0x1000101010f01010200000001, de_it 0x10901010103010f02010200000001, de_it 0x2010000, de_it 0x1130109020100000300000001, de_it 0x2010000, de_it 0x2, de_it 0x2010000, de_it 0x10901010103010f02010200000001, de_it 0x2010000, de_it 0x10901010103010f02010200000001, de_it 0x2010000, de_it 0x2, de_it 0x2, de_it 0x300000001, de_it 0x6010000, de_it 0x2, de_it 0x2010000, de_it 0x2, de_it 0x4010000, de_it 0x1000101010f01010200000001, de_it 0x1140101010a0101000101030101010f01010500000005, de_it 0x4010000, de_it 0x2, de_it 0x4010000, de_it 0x1000101010f01010200000001, de_it 0x10901010103010f02010200000001, de_it 0x10701010106010101140101010901010103010f0201000000000700000003, de_it 0x10114010402010001010301040114030100010001010f0101010b010101030101010a0101010901010108010100010001000100010103010f020101090101010801010107010101060101010501010104010101030101010f01090201010f010101000101000000000000000000000000000100012300020401000000000002010200020400010007, de_it 0x4010000, de_it 0x2, de_it 0x4010000, de_it 0x2, de_it 0x2, de_it 0x21402090201020701010200000001, de_it 0x2010000, de_it 0x2, de_it 0x2010000, de_it 0x10901010107011402010200000001, de_it 0x2010000, de_it 0x10901010107011402010200000001, de_it 0x200000005, de_it 0x115010702010107010902010107010101150109020202070115020101090101000000000000000000000000000000000e00020301000201020002020400020006, de_it 0x8000201020002000203010002040103060400c8040009, de_it 0x2070115020101090101011001070115030100000000000000000700000003, de_it 0x6010000, de_it 0x2, de_it 0x2010000, de_it 0x2, de_it 0x4010000, de_it 0x100010101100107011503010200000001, de_it 0x1010a010100010103010101100107011503010500000005, de_it 0x4010000, de_it 0x2, de_it 0x4010000, de_it 0x100010101100107011503010200000001, de_it 0x10901010207011502010200000001, de_it 0x2070115020101090101000101090101020701150201000000000700000003, de_it 0x1150101000000000000000000000000000000000900020401010100030002040403030103000402ca010009, de_it 0x1011001040109010c04020001010c0101000102070115020101100107011503010110011501070104040101030101010a01010109010101080207011503010207011502010109010100010001020701150201010901010108010101070101011501090202010a0110010701150401010401010103010102100115010903020110010701150301010001010000000000000000000000000001000123000204010101000300020102000202000002010200020400010007, de_it 0x10701010114010902010107010101140109020102070101021402090201000000000000000000000000000000000e0002030100040301020400020006, de_it 0x800040301000203010002040103060400c8040009, de_it 0x207010102140209020101070110020100000000000000000700000003, de_it 0x6010000, de_it 0x2, de_it 0x2010000, de_it 0x2, de_it 0x4010000, de_it 0x1000101010f01010200000001, de_it 0x1150101010a0101000101030101010f01010500000005, de_it 0x4010000, de_it 0x2, de_it 0x4010000, de_it 0x1000101010f01010200000001, de_it 0x10901010107011402010200000001, de_it 0x20701010214020902010115010101090101010701140201000000000700000003, de_it 0x101150204010903020001010c0101000102070101010f0101010b010101030101010a01010109010101080207020102070101021402090201000100010107011402010109010101080101010701010114010902010105010101040101010301010110011401090301010f01010100010100000000000000000000000000010001230002040303020004030102000002010200020400010007]
set_option maxRecDepth 100000 in
theorem tR_6 : fw_go tV_6 tK_6.2.1.1 tK_6.2.1.2 none tH_6_0 [(tK_6.2.1, tK_6.2.2.2.1, 0, tc_args 0 tK_6.2.2.1, [], ([], 0), ([], 0))] = true := by decide +kernel
set_option maxRecDepth 100000 in
theorem tT_6 {RO : am_O} {sa : Nat → Nat} (h_0 : tc_true (aP sa) tp_G RO tp_T tp_Z tK_0) : tc_true (aP sa) tp_G RO tp_T tp_Z tK_6 := by
  have hC : ∀ c ∈ tC_6, tc_true (aP sa) tp_G RO tp_T tp_Z c := by
    intro c hc
    have hc : c ∈ ([tK_0] : List tc_Ct) := hc
    rcases List.mem_cons.mp hc with rfl | hc
    · exact h_0
    cases hc
  have hP : ∀ p ∈ tJ_6, ∃ hs, tc_plk (aP sa, tV_6.2) p hs = true := by
    intro p hp
    have hp : p ∈ ([] : List tc_Pl) := hp
    cases hp
  exact tc_main (mt := aM_13.1) (hs := tH_6_0) (PL := tJ_6) ⟨tp_G_ok, tMs_6 _, hC, tp_L_ok, tp_G_re⟩ (show am_meth (aP sa) 13 = some aM_13.1 from rfl) aX_13 (by decide +kernel) hP ((tc_go_sa (aP_sa sa _)).trans ((fw_go_s tHC_6).trans tR_6))
noncomputable def tK_7 : tc_Ct := (12, (1, 1), [(2, ([], 0), 0)], ([([(0, -1)], 8000000), ([(0, 1)], 0)], [(0, 165)], [], [], [], [], [(1016, [], []), (1024, [], []), (1088, [], []), (1096, [], []), (1136, [], [([(0, 1)], 0)])]), [(177, 0), (177, 1), (193, 0), (193, 1000)], [((5, 1), ([([(0, -1)], 8000000), ([(0, 1)], 0), ([(1, -1)], 800), ([(1, 1)], 3), ([(2, -1)], 1), ([(2, 1)], 0), ([(3, -1)], 1598), ([(3, 1)], 0), ([(4, -1)], 8000000), ([(2, -16), (3, 1)], 0), ([(0, 1), (3, -1), (4, -1)], 0)], [], [], [], [], [], [(1136, [], [([(4, 1)], 0)])]), some (0, ([(1, 1)], 0), 0), ([(2, 1)], 0), ([(3, 1)], 0))])
noncomputable def tJ_7 : List tc_Pl := []
noncomputable def tC_7 : List tc_Ct := [tK_6]
def tM_7 (z : Nat) : Option am_Meth := if z = 13 then some aM_13.1 else none
set_option maxRecDepth 100000 in
theorem tMs_7 (sa : Nat → Nat) : ∀ z mz, tM_7 z = some mz → am_meth (aP sa) z = some mz := by
  intro z mz h
  unfold tM_7 at h
  rcases de_m h with ⟨rfl, rfl⟩ | h
  · exact (show am_meth (aP sa) 13 = some aM_13.1 from rfl)
  cases h
noncomputable def tV_7 : tc_Ev := (aQ, tp_T, tp_G.2, tp_Z, tM_7, tC_7, tp_L, tK_7.2.2.2.2.1, aM_12.1, aW_12, tK_7.2.1, tK_7.2.2.2.2.2, tJ_7)
theorem tE_7 : tK_7.2.2.2.2.2.all (tc_wex tK_7.2.1.1 tK_7.2.1.2) = true := by decide +kernel
theorem tSS_7 : tC_7.all (fun c => tw_mg tK_7.2.2.2.2.1 c.2.2.2.2.1) = true := by decide +kernel
theorem tHC_7 : ∀ c ∈ tC_7, c.2.2.2.2.1.all tK_7.2.2.2.2.1.contains = true ∧ c.2.2.2.2.2.all (tc_wex c.2.1.1 c.2.1.2) = true := tf_hc tSS_7 (by
  intro c hc
  have hc : c ∈ ([tK_6] : List tc_Ct) := hc
  rcases List.mem_cons.mp hc with rfl | hc
  · exact tE_6
  cases hc)
noncomputable def tH_7_0 : List tc_It := [de_it 0x2010000, de_it 0x2, de_it 0x2, de_it 0x2010000, de_it 0x2, de_it 0x2, de_it 0x105010302010104010202010200000001, de_it 0x2010000, de_it 0x300000001, de_it 0x2010000, de_it 0x2, de_it 0x2010000, de_it 0x2, de_it 0x2, de_it 0x6010011, de_it 0x4010010, de_it 0x4010000, de_it 0x2, de_it 0x2, de_it 0x202000f, de_it 0x8010011, de_it 0x2010010, de_it 0x1020110010a01060401010a0104020101090101010601010100010101100101010f0101010b0101010a0101010201010103010101040101010201060201000000000000000000000000000000031500020001000204010002030100020101000202010508060200040006, de_it 0x565452504e4c4a4846403e3c3a38363422201e1c1614120c08060402001d000d, de_it 0x2010000, de_it 0x2, de_it 0x2, de_it 0x11c01010117010101130101011201010111010101100101010f0101010e0101010d010101010101010001010000000000000000000000000001000113000208010002070100020601000205010400010007, de_it 0x2010000, de_it 0x100010100010100010001000100010001000101010101010001010000000000000000000000000001000113000200010000000005000400010007]
set_option maxRecDepth 100000 in
theorem tR_7 : fw_go tV_7 tK_7.2.1.1 tK_7.2.1.2 none tH_7_0 [(tK_7.2.1, tK_7.2.2.2.1, 0, tc_args 0 tK_7.2.2.1, [], ([], 0), ([], 0))] = true := by decide +kernel
set_option maxRecDepth 100000 in
theorem tT_7 {RO : am_O} {sa : Nat → Nat} (h_6 : tc_true (aP sa) tp_G RO tp_T tp_Z tK_6) : tc_true (aP sa) tp_G RO tp_T tp_Z tK_7 := by
  have hC : ∀ c ∈ tC_7, tc_true (aP sa) tp_G RO tp_T tp_Z c := by
    intro c hc
    have hc : c ∈ ([tK_6] : List tc_Ct) := hc
    rcases List.mem_cons.mp hc with rfl | hc
    · exact h_6
    cases hc
  have hP : ∀ p ∈ tJ_7, ∃ hs, tc_plk (aP sa, tV_7.2) p hs = true := by
    intro p hp
    have hp : p ∈ ([] : List tc_Pl) := hp
    cases hp
  exact tc_main (mt := aM_12.1) (hs := tH_7_0) (PL := tJ_7) ⟨tp_G_ok, tMs_7 _, hC, tp_L_ok, tp_G_re⟩ (show am_meth (aP sa) 12 = some aM_12.1 from rfl) aX_12 (by decide +kernel) hP ((tc_go_sa (aP_sa sa _)).trans ((fw_go_s tHC_7).trans tR_7))
noncomputable def tK_8 : tc_Ct := (14, (2, 2), [(2, ([], 0), 0), (0, ([(0, 1)], 0), 0)], ([([(0, -1)], 2147483647), ([(0, 1)], 2147483648), ([(1, -1)], 2000000000), ([(1, 1)], 0)], [(0, 165), (1, 166)], [], [(0, 0, (2, ([], 0), 1)), (1, 0, (0, ([(1, 1)], 0), 0))], [], [], [(568, [1], [])]), [(166, 0)], [((2, 2), ([([(0, -1)], 2147483647), ([(0, 1)], 2147483648), ([(1, -1)], 2000000000), ([(1, 1)], 0)], [], [], [(1, 0, (0, ([(1, 1)], 0), 0))], [], [], []), some (0, ([], -1), 0), ([], 0), ([], 0)), ((2, 2), ([([(0, -1)], 1000000), ([(0, 1)], 0), ([(1, -1)], 2000000000), ([(1, 1)], -1999000001), ([(0, 1), (1, 1)], -2000000001)], [], [], [(1, 0, (0, ([(1, 1)], 0), 0))], [], [], []), some (0, ([], -2), 0), ([], 0), ([], 0)), ((2, 2), ([([(0, -1)], 1000000), ([(0, 1)], 0), ([(1, -1)], 2000000000), ([(1, 1)], 0), ([(0, -1), (1, -1)], 2000000000)], [], [], [(1, 0, (0, ([(0, 1), (1, 1)], 0), 0))], [], [], []), some (0, ([(0, 1), (1, 1)], 0), 0), ([], 0), ([], 0))])
noncomputable def tJ_8 : List tc_Pl := []
noncomputable def tC_8 : List tc_Ct := []
def tM_8 (z : Nat) : Option am_Meth := none
set_option maxRecDepth 100000 in
theorem tMs_8 (sa : Nat → Nat) : ∀ z mz, tM_8 z = some mz → am_meth (aP sa) z = some mz := fun z mz h => by cases h
noncomputable def tV_8 : tc_Ev := (aQ, tp_T, tp_G.2, tp_Z, tM_8, tC_8, tp_L, tK_8.2.2.2.2.1, aM_14.1, aW_14, tK_8.2.1, tK_8.2.2.2.2.2, tJ_8)
theorem tE_8 : tK_8.2.2.2.2.2.all (tc_wex tK_8.2.1.1 tK_8.2.1.2) = true := by decide +kernel
theorem tSS_8 : tC_8.all (fun c => tw_mg tK_8.2.2.2.2.1 c.2.2.2.2.1) = true := by decide +kernel
theorem tHC_8 : ∀ c ∈ tC_8, c.2.2.2.2.1.all tK_8.2.2.2.2.1.contains = true ∧ c.2.2.2.2.2.all (tc_wex c.2.1.1 c.2.1.2) = true := tf_hc tSS_8 (by
  intro c hc
  have hc : c ∈ ([] : List tc_Ct) := hc
  cases hc)
noncomputable def tH_8_0 : List tc_It := [de_it 0x2010000, de_it 0x300000001, de_it 0x2010000, de_it 0x1030101010201010101010101040101000000000000000000000000000100010c0000010007, de_it 0x4010000, de_it 0x300000001, de_it 0x2010000, de_it 0x2, de_it 0x2, de_it 0x4010000, de_it 0x1040101010501010200000001, de_it 0x300000001, de_it 0x2010000, de_it 0x2, de_it 0x2010000, de_it 0x2, de_it 0x2010000, de_it 0x10601010103010402010200000001, de_it 0x1060101010301040201000000000400000003, de_it 0x2010000, de_it 0x2, de_it 0x2, de_it 0x106010101030101010201010104010101050101000000000000000000000000000100010d0004010007, de_it 0x2010000, de_it 0x1060101010601050201010201010104010101050101000000000000000000000000000100010d0002010007, de_it 0x2010000, de_it 0x1030101010201010105010101000101000000000000000000000000000100010c0000010007]
set_option maxRecDepth 100000 in
theorem tR_8 : fw_go tV_8 tK_8.2.1.1 tK_8.2.1.2 none tH_8_0 [(tK_8.2.1, tK_8.2.2.2.1, 0, tc_args 0 tK_8.2.2.1, [], ([], 0), ([], 0))] = true := by decide +kernel
set_option maxRecDepth 100000 in
theorem tT_8 {RO : am_O} {sa : Nat → Nat} : tc_true (aP sa) tp_G RO tp_T tp_Z tK_8 := by
  have hC : ∀ c ∈ tC_8, tc_true (aP sa) tp_G RO tp_T tp_Z c := by
    intro c hc
    have hc : c ∈ ([] : List tc_Ct) := hc
    cases hc
  have hP : ∀ p ∈ tJ_8, ∃ hs, tc_plk (aP sa, tV_8.2) p hs = true := by
    intro p hp
    have hp : p ∈ ([] : List tc_Pl) := hp
    cases hp
  exact tc_main (mt := aM_14.1) (hs := tH_8_0) (PL := tJ_8) ⟨tp_G_ok, tMs_8 _, hC, tp_L_ok, tp_G_re⟩ (show am_meth (aP sa) 14 = some aM_14.1 from rfl) aX_14 (by decide +kernel) hP ((tc_go_sa (aP_sa sa _)).trans ((fw_go_s tHC_8).trans tR_8))
noncomputable def tK_9 : tc_Ct := (16, (1, 0), [(0, ([(0, 1)], 0), 0)], ([([(0, -1)], 2147483647), ([(0, 1)], 2147483648)], [], [], [], [], [], []), [], [((1, 0), ([([(0, -1)], 2147483647), ([(0, 1)], 2147483648)], [], [], [], [], [], []), some (0, ([], 0), 0), ([], 0), ([], 0)), ((1, 0), ([([(0, -1)], 1), ([(0, 1)], 0)], [], [], [], [], [], []), some (0, ([], 1), 0), ([], 0), ([], 0))])
noncomputable def tJ_9 : List tc_Pl := []
noncomputable def tC_9 : List tc_Ct := []
def tM_9 (z : Nat) : Option am_Meth := none
set_option maxRecDepth 100000 in
theorem tMs_9 (sa : Nat → Nat) : ∀ z mz, tM_9 z = some mz → am_meth (aP sa) z = some mz := fun z mz h => by cases h
noncomputable def tV_9 : tc_Ev := (aQ, tp_T, tp_G.2, tp_Z, tM_9, tC_9, tp_L, tK_9.2.2.2.2.1, aM_16.1, aW_16, tK_9.2.1, tK_9.2.2.2.2.2, tJ_9)
theorem tE_9 : tK_9.2.2.2.2.2.all (tc_wex tK_9.2.1.1 tK_9.2.1.2) = true := by decide +kernel
theorem tSS_9 : tC_9.all (fun c => tw_mg tK_9.2.2.2.2.1 c.2.2.2.2.1) = true := by decide +kernel
theorem tHC_9 : ∀ c ∈ tC_9, c.2.2.2.2.1.all tK_9.2.2.2.2.1.contains = true ∧ c.2.2.2.2.2.all (tc_wex c.2.1.1 c.2.1.2) = true := tf_hc tSS_9 (by
  intro c hc
  have hc : c ∈ ([] : List tc_Ct) := hc
  cases hc)
noncomputable def tH_9_0 : List tc_It := [de_it 0x2010000, de_it 0x300000001, de_it 0x4010000, de_it 0x102010101030101000000000000000000010001000100010a0002010007, de_it 0x4010000, de_it 0x300000001, de_it 0x2010000, de_it 0x101010101000101000000000000000000010001000100010a0000010007, de_it 0x4010000, de_it 0x102010101030101000000000000000000010001000100010a0002010007]
set_option maxRecDepth 100000 in
theorem tR_9 : fw_go tV_9 tK_9.2.1.1 tK_9.2.1.2 none tH_9_0 [(tK_9.2.1, tK_9.2.2.2.1, 0, tc_args 0 tK_9.2.2.1, [], ([], 0), ([], 0))] = true := by decide +kernel
set_option maxRecDepth 100000 in
theorem tT_9 {RO : am_O} {sa : Nat → Nat} : tc_true (aP sa) tp_G RO tp_T tp_Z tK_9 := by
  have hC : ∀ c ∈ tC_9, tc_true (aP sa) tp_G RO tp_T tp_Z c := by
    intro c hc
    have hc : c ∈ ([] : List tc_Ct) := hc
    cases hc
  have hP : ∀ p ∈ tJ_9, ∃ hs, tc_plk (aP sa, tV_9.2) p hs = true := by
    intro p hp
    have hp : p ∈ ([] : List tc_Pl) := hp
    cases hp
  exact tc_main (mt := aM_16.1) (hs := tH_9_0) (PL := tJ_9) ⟨tp_G_ok, tMs_9 _, hC, tp_L_ok, tp_G_re⟩ (show am_meth (aP sa) 16 = some aM_16.1 from rfl) aX_16 (by decide +kernel) hP ((tc_go_sa (aP_sa sa _)).trans ((fw_go_s tHC_9).trans tR_9))
noncomputable def tK_10 : tc_Ct := (18, (1, 1), [(2, ([], 0), 0), (0, ([(0, 1)], 0), 0)], ([([(0, -1)], 2147483647), ([(0, 1)], 2147483648)], [(0, 167)], [], [], [], [], []), [(167, 0), (167, 1), (167, 2), (167, 3), (167, 5)], [((5, 1), ([([(0, -1)], 2147483647), ([(0, 1)], 2147483648), ([(1, -1)], 2147483647), ([(1, 1)], 2147483648), ([(2, -1)], 2147483647), ([(2, 1)], 2147483648), ([(3, -1)], 2147483647), ([(3, 1)], 2147483648), ([(4, -1)], 2147483647), ([(4, 1)], 2147483648)], [], [], [(0, 0, (0, ([(4, 1)], 0), 0)), (0, 1, (0, ([(3, 1)], 0), 0)), (0, 2, (0, ([(2, 1)], 0), 0)), (0, 3, (0, ([(1, 1)], 0), 0)), (0, 5, (0, ([], 0), 0))], [], [], []), none, ([], 0), ([], 0))])
noncomputable def tJ_10 : List tc_Pl := []
noncomputable def tC_10 : List tc_Ct := []
def tM_10 (z : Nat) : Option am_Meth := none
set_option maxRecDepth 100000 in
theorem tMs_10 (sa : Nat → Nat) : ∀ z mz, tM_10 z = some mz → am_meth (aP sa) z = some mz := fun z mz h => by cases h
noncomputable def tV_10 : tc_Ev := (aQ, tp_T, tp_G.2, tp_Z, tM_10, tC_10, tp_L, tK_10.2.2.2.2.1, aM_18.1, aW_18, tK_10.2.1, tK_10.2.2.2.2.2, tJ_10)
theorem tE_10 : tK_10.2.2.2.2.2.all (tc_wex tK_10.2.1.1 tK_10.2.1.2) = true := by decide +kernel
theorem tSS_10 : tC_10.all (fun c => tw_mg tK_10.2.2.2.2.1 c.2.2.2.2.1) = true := by decide +kernel
theorem tHC_10 : ∀ c ∈ tC_10, c.2.2.2.2.1.all tK_10.2.2.2.2.1.contains = true ∧ c.2.2.2.2.2.all (tc_wex c.2.1.1 c.2.1.2) = true := tf_hc tSS_10 (by
  intro c hc
  have hc : c ∈ ([] : List tc_Ct) := hc
  cases hc)
noncomputable def tH_10_0 : List tc_It := [de_it 0x6010000, de_it 0x101, de_it 0x103010101020101000000000400000003, de_it 0x6010000, de_it 0x101, de_it 0x105010101040101000000000400000003, de_it 0x6010000, de_it 0x101, de_it 0x107010101060101000000000400000003, de_it 0x6010000, de_it 0x101, de_it 0x109010101080101000000000400000003, de_it 0x4010000, de_it 0x10001000000000400000003, de_it 0x10201010103010101040101010501010106010101070101010801010109010101010101010001010000000000000000000000000001000112000201010002020100020301000204010400010007]
set_option maxRecDepth 100000 in
theorem tR_10 : fw_go tV_10 tK_10.2.1.1 tK_10.2.1.2 none tH_10_0 [(tK_10.2.1, tK_10.2.2.2.1, 0, tc_args 0 tK_10.2.2.1, [], ([], 0), ([], 0))] = true := by decide +kernel
set_option maxRecDepth 100000 in
theorem tT_10 {RO : am_O} {sa : Nat → Nat} : tc_true (aP sa) tp_G RO tp_T tp_Z tK_10 := by
  have hC : ∀ c ∈ tC_10, tc_true (aP sa) tp_G RO tp_T tp_Z c := by
    intro c hc
    have hc : c ∈ ([] : List tc_Ct) := hc
    cases hc
  have hP : ∀ p ∈ tJ_10, ∃ hs, tc_plk (aP sa, tV_10.2) p hs = true := by
    intro p hp
    have hp : p ∈ ([] : List tc_Pl) := hp
    cases hp
  exact tc_main (mt := aM_18.1) (hs := tH_10_0) (PL := tJ_10) ⟨tp_G_ok, tMs_10 _, hC, tp_L_ok, tp_G_re⟩ (show am_meth (aP sa) 18 = some aM_18.1 from rfl) aX_18 (by decide +kernel) hP ((tc_go_sa (aP_sa sa _)).trans ((fw_go_s tHC_10).trans tR_10))
noncomputable def tK_11 : tc_Ct := (20, (0, 1), [(2, ([], 0), 0), (1, ([], 0), 0)], ([], [(0, 167)], [], [], [], [], []), [(167, 0), (167, 1), (167, 2), (167, 3)], [((4, 1), ([([(0, -1)], 2147483647), ([(0, 1)], 2147483648), ([(1, -1)], 2147483647), ([(1, 1)], 2147483648), ([(2, -1)], 2147483647), ([(2, 1)], 2147483648), ([(3, -1)], 2147483647), ([(3, 1)], 2147483648)], [], [], [(0, 0, (0, ([(3, 1)], 0), 0)), (0, 1, (0, ([(2, 1)], 0), 0)), (0, 2, (0, ([(1, 1)], 0), 0)), (0, 3, (0, ([(0, 1)], 0), 0))], [], [], []), none, ([], 0), ([], 0))])
noncomputable def tL_11_0 : tc_Pl := de_pl 0x30cfaff00120104010000000000030cfaff0003000000000000000204010007000002030100060000020201000500000201010004000002000100030000000200062300000000000208010003000000020701000200000002060100010000000205010000000400a70001010204010000000100000000ff02030100000000fffffffeff0103010000000100000000ff02020100000000fffffffeff0102010000000100000000ff02010100000000fffffffeff0101010000000100000000ff02000100000000fffffffeff010001090109
noncomputable def tJ_11 : List tc_Pl := [tL_11_0]
noncomputable def tC_11 : List tc_Ct := []
def tM_11 (z : Nat) : Option am_Meth := none
set_option maxRecDepth 100000 in
theorem tMs_11 (sa : Nat → Nat) : ∀ z mz, tM_11 z = some mz → am_meth (aP sa) z = some mz := fun z mz h => by cases h
noncomputable def tV_11 : tc_Ev := (aQ, tp_T, tp_G.2, tp_Z, tM_11, tC_11, tp_L, tK_11.2.2.2.2.1, aM_20.1, aW_20, tK_11.2.1, tK_11.2.2.2.2.2, tJ_11)
theorem tE_11 : tK_11.2.2.2.2.2.all (tc_wex tK_11.2.1.1 tK_11.2.1.2) = true := by decide +kernel
theorem tSS_11 : tC_11.all (fun c => tw_mg tK_11.2.2.2.2.1 c.2.2.2.2.1) = true := by decide +kernel
theorem tHC_11 : ∀ c ∈ tC_11, c.2.2.2.2.1.all tK_11.2.2.2.2.1.contains = true ∧ c.2.2.2.2.2.all (tc_wex c.2.1.1 c.2.1.2) = true := tf_hc tSS_11 (by
  intro c hc
  have hc : c ∈ ([] : List tc_Ct) := hc
  cases hc)
noncomputable def tH_11_0 : List tc_It := [de_it 0x2010000, de_it 0x2, de_it 0x6010000, de_it 0x101, de_it 0x101, de_it 0x4010000, de_it 0x2, de_it 0x2010000, de_it 0x101, de_it 0x101, de_it 0x4010000, de_it 0x2, de_it 0x4010000, de_it 0x2, de_it 0x6010000, de_it 0x1010e0101010f0101010c0101010d0101010a0101010b010101040101010501010000000000000000000000000001000111000207010002060100020301000200010200000207010002060100020501000202010900010008]
set_option maxRecDepth 100000 in
theorem tR_11 : fw_go tV_11 tK_11.2.1.1 tK_11.2.1.2 none tH_11_0 [(tK_11.2.1, tK_11.2.2.2.1, 0, tc_args 0 tK_11.2.2.1, [], ([], 0), ([], 0))] = true := by decide +kernel
noncomputable def tH_11_1 : List tc_It := [de_it 0x4010000, de_it 0x300000001, de_it 0x4010000, de_it 0x100010101010101000000000400000003, de_it 0x4010000, de_it 0x102010101030101000000000400000003, de_it 0x4010000, de_it 0x104010101050101000000000400000003, de_it 0x4010000, de_it 0x106010101070101000000000400000003, de_it 0x1010101010001010103010101020101010501010104010101070101010601010000000000000000000000000001000110000200010002010100020201000203010400010007, de_it 0x4010000, de_it 0x101, de_it 0x6010000, de_it 0x101, de_it 0x6010000, de_it 0x101, de_it 0x4010000, de_it 0x201, de_it 0x101, de_it 0x6010000, de_it 0x101, de_it 0x6010000, de_it 0x101, de_it 0x6010000, de_it 0x101, de_it 0x4010000, de_it 0x201, de_it 0x101, de_it 0x6010000, de_it 0x101, de_it 0x6010000, de_it 0x101, de_it 0x6010000, de_it 0x101, de_it 0x4010000, de_it 0x201, de_it 0x101, de_it 0x6010000, de_it 0x101, de_it 0x6010000, de_it 0x101, de_it 0x6010000, de_it 0x101, de_it 0x4010000, de_it 0x201, de_it 0x101, de_it 0x6010000, de_it 0x101, de_it 0x2010000, de_it 0x1090101010801010200000001, de_it 0x2010000, de_it 0x10801010126010101270101012801010129010101300101013101010132010101330101000000000109010100010000000100010001110002080100020701000206010002050102020401000217010002180100021c0100021d010900010008]
set_option maxRecDepth 100000 in
theorem tP_11_0 : fw_plk tV_11 tL_11_0 tH_11_1 = true := by decide +kernel
set_option maxRecDepth 100000 in
theorem tT_11 {RO : am_O} {sa : Nat → Nat} : tc_true (aP sa) tp_G RO tp_T tp_Z tK_11 := by
  have hC : ∀ c ∈ tC_11, tc_true (aP sa) tp_G RO tp_T tp_Z c := by
    intro c hc
    have hc : c ∈ ([] : List tc_Ct) := hc
    cases hc
  have hP : ∀ p ∈ tJ_11, ∃ hs, tc_plk (aP sa, tV_11.2) p hs = true := by
    intro p hp
    have hp : p ∈ ([tL_11_0] : List tc_Pl) := hp
    rcases List.mem_cons.mp hp with rfl | hp
    · exact ⟨_, (tc_plk_sa (aP_sa sa _)).trans ((fw_plk_s tHC_11).trans tP_11_0)⟩
    cases hp
  exact tc_main (mt := aM_20.1) (hs := tH_11_0) (PL := tJ_11) ⟨tp_G_ok, tMs_11 _, hC, tp_L_ok, tp_G_re⟩ (show am_meth (aP sa) 20 = some aM_20.1 from rfl) aX_20 (by decide +kernel) hP ((tc_go_sa (aP_sa sa _)).trans ((fw_go_s tHC_11).trans tR_11))
noncomputable def tK_12 : tc_Ct := (19, (3, 2), [(2, ([], 0), 0), (2, ([], 0), 1), (0, ([(0, 1)], 0), 0), (0, ([(1, 1)], 0), 0)], ([([(0, -1)], 3), ([(0, 1)], 0), ([(1, -1)], 4130), ([(1, 1)], 0), ([(2, -1)], 8192), ([(2, 1)], -8), ([(0, -1), (1, -1)], 4130), ([(0, -1), (1, 1)], 0), ([(0, -1), (2, -1)], 8192), ([(0, -1), (2, 1)], -8), ([(1, -1), (2, -1)], 11853), ([(1, -1), (2, 1)], 4119), ([(1, 1), (2, -1)], 8189), ([(1, 1), (2, 1)], -11), ([(0, -1), (1, -1), (2, 1)], 4119), ([(0, -1), (1, 1), (2, -1)], 8189)], [(0, 167), (1, 193)], [(1, ([(2, 1)], 0))], [], [], [], []), [(167, 0), (167, 1), (167, 2), (167, 3), (167, 4), (167, 5)], [((3, 2), ([([(0, -1)], 3), ([(0, 1)], 0), ([(1, -1)], 4130), ([(1, 1)], 0), ([(2, -1)], 8192), ([(2, 1)], -8), ([(0, -1), (1, -1)], 4130), ([(0, -1), (1, 1)], 0), ([(0, -1), (2, -1)], 8192), ([(0, -1), (2, 1)], -8), ([(1, -1), (2, -1)], 11853), ([(1, -1), (2, 1)], 4119), ([(1, 1), (2, -1)], 8189), ([(1, 1), (2, 1)], -11), ([(0, -1), (1, -1), (2, 1)], 4119), ([(0, -1), (1, 1), (2, -1)], 8189)], [], [(1, ([(2, 1)], 0))], [], [], [], []), none, ([], 0), ([], 0))])
noncomputable def tL_12_0 : tc_Pl := de_pl 0x30d24ff000001030201020000000000030d24ff00030000000000000002030100040000020101000301000002010000000200040e00000000000202010101c101a70002000202010102000203010002000203010000000000003ffaff010202010100031502020201020000000000003ffaff01020201020000000000005c9aff01020101020f02020100020000000000004000ff01020100020002010100020000000000002044ff01010100020f0202010000000000004000ff010201000201010000000000002044ff0101010002000106010001110204
noncomputable def tJ_12 : List tc_Pl := [tL_12_0]
noncomputable def tC_12 : List tc_Ct := [tK_11]
def tM_12 (z : Nat) : Option am_Meth := if z = 20 then some aM_20.1 else none
set_option maxRecDepth 100000 in
theorem tMs_12 (sa : Nat → Nat) : ∀ z mz, tM_12 z = some mz → am_meth (aP sa) z = some mz := by
  intro z mz h
  unfold tM_12 at h
  rcases de_m h with ⟨rfl, rfl⟩ | h
  · exact (show am_meth (aP sa) 20 = some aM_20.1 from rfl)
  cases h
noncomputable def tV_12 : tc_Ev := (aQ, tp_T, tp_G.2, tp_Z, tM_12, tC_12, tp_L, tK_12.2.2.2.2.1, aM_19.1, aW_19, tK_12.2.1, tK_12.2.2.2.2.2, tJ_12)
theorem tE_12 : tK_12.2.2.2.2.2.all (tc_wex tK_12.2.1.1 tK_12.2.1.2) = true := by decide +kernel
theorem tSS_12 : tC_12.all (fun c => tw_mg tK_12.2.2.2.2.1 c.2.2.2.2.1) = true := by decide +kernel
theorem tHC_12 : ∀ c ∈ tC_12, c.2.2.2.2.1.all tK_12.2.2.2.2.1.contains = true ∧ c.2.2.2.2.2.all (tc_wex c.2.1.1 c.2.1.2) = true := tf_hc tSS_12 (by
  intro c hc
  have hc : c ∈ ([tK_11] : List tc_Ct) := hc
  rcases List.mem_cons.mp hc with rfl | hc
  · exact tE_11
  cases hc)
noncomputable def tH_12_0 : List tc_It := [de_it 0x2010000, de_it 0x110010102010300000001, de_it 0x4010000, de_it 0x2, de_it 0x300000001, de_it 0x4010000, de_it 0x1110101000101010101010f0101010d0101010c0101010a0101010901010108010101070101010601010105010101040101010301010102010101010101010001010000000000000000000000000001000119000200010100010008, de_it 0x10001110201010e010102050111020101110101010b01010111020202010109010101110106020101090111020101060101010501010111010101060301010901010111030101020101010101010100010100000000000000000000000000010001180000010007]
set_option maxRecDepth 100000 in
theorem tR_12 : fw_go tV_12 tK_12.2.1.1 tK_12.2.1.2 none tH_12_0 [(tK_12.2.1, tK_12.2.2.2.1, 0, tc_args 0 tK_12.2.2.1, [], ([], 0), ([], 0))] = true := by decide +kernel
noncomputable def tH_12_1 : List tc_It := [de_it 0x4010000, de_it 0x300000001, de_it 0x10d0101011001000201010c0101010b010101100101010a01010109010101080101010701010106010101050101010401010103010101020101010101010100010100000000000000000000000000010001180000010007, de_it 0x4010000, de_it 0x2, de_it 0x8010000, de_it 0x11101100201010e010102000203010100010002, de_it 0x4010000, de_it 0x400000003, de_it 0x4010000, de_it 0x2, de_it 0x2010000, de_it 0x101, de_it 0x119010101180101000000000400000003, de_it 0x2010000, de_it 0x2, de_it 0x4010000, de_it 0x11a0101000000000300000001, de_it 0x111010101060301010e01010200000001, de_it 0x2010000, de_it 0x1100101010f0101010e0101010d0101010c0101010b0101010a01010109010101080101010f01110201010601010105010101040101010f01010111030101020101010101010100010100000000011101010001000000010001000119020203010100010008, de_it 0x4010000, de_it 0x2, de_it 0x108000000020006, de_it 0x111010101060301010e01010200000001, de_it 0x2010000, de_it 0x1100101010f0101010e0101010d0101010c0101010b0101010a01010109010101080101010f01110201010601010105010101040101010f01010111030101020101010101010100010100000000011101010001000000010001000119020203010100010008]
set_option maxRecDepth 100000 in
theorem tP_12_0 : fw_plk tV_12 tL_12_0 tH_12_1 = true := by decide +kernel
set_option maxRecDepth 100000 in
theorem tT_12 {RO : am_O} {sa : Nat → Nat} (h_11 : tc_true (aP sa) tp_G RO tp_T tp_Z tK_11) : tc_true (aP sa) tp_G RO tp_T tp_Z tK_12 := by
  have hC : ∀ c ∈ tC_12, tc_true (aP sa) tp_G RO tp_T tp_Z c := by
    intro c hc
    have hc : c ∈ ([tK_11] : List tc_Ct) := hc
    rcases List.mem_cons.mp hc with rfl | hc
    · exact h_11
    cases hc
  have hP : ∀ p ∈ tJ_12, ∃ hs, tc_plk (aP sa, tV_12.2) p hs = true := by
    intro p hp
    have hp : p ∈ ([tL_12_0] : List tc_Pl) := hp
    rcases List.mem_cons.mp hp with rfl | hp
    · exact ⟨_, (tc_plk_sa (aP_sa sa _)).trans ((fw_plk_s tHC_12).trans tP_12_0)⟩
    cases hp
  exact tc_main (mt := aM_19.1) (hs := tH_12_0) (PL := tJ_12) ⟨tp_G_ok, tMs_12 _, hC, tp_L_ok, tp_G_re⟩ (show am_meth (aP sa) 19 = some aM_19.1 from rfl) aX_19 (by decide +kernel) hP ((tc_go_sa (aP_sa sa _)).trans ((fw_go_s tHC_12).trans tR_12))
noncomputable def tK_13 : tc_Ct := (22, (0, 1), [(2, ([], 0), 0)], ([], [(0, 167)], [], [], [], [], []), [], [((0, 1), ([], [], [], [], [], [], []), some (1, ([], 0), 0), ([], 0), ([], 0))])
noncomputable def tJ_13 : List tc_Pl := []
noncomputable def tC_13 : List tc_Ct := []
def tM_13 (z : Nat) : Option am_Meth := none
set_option maxRecDepth 100000 in
theorem tMs_13 (sa : Nat → Nat) : ∀ z mz, tM_13 z = some mz → am_meth (aP sa) z = some mz := fun z mz h => by cases h
noncomputable def tV_13 : tc_Ev := (aQ, tp_T, tp_G.2, tp_Z, tM_13, tC_13, tp_L, tK_13.2.2.2.2.1, aM_22.1, aW_22, tK_13.2.1, tK_13.2.2.2.2.2, tJ_13)
theorem tE_13 : tK_13.2.2.2.2.2.all (tc_wex tK_13.2.1.1 tK_13.2.1.2) = true := by decide +kernel
theorem tSS_13 : tC_13.all (fun c => tw_mg tK_13.2.2.2.2.1 c.2.2.2.2.1) = true := by decide +kernel
theorem tHC_13 : ∀ c ∈ tC_13, c.2.2.2.2.1.all tK_13.2.2.2.2.1.contains = true ∧ c.2.2.2.2.2.all (tc_wex c.2.1.1 c.2.1.2) = true := tf_hc tSS_13 (by
  intro c hc
  have hc : c ∈ ([] : List tc_Ct) := hc
  cases hc)
noncomputable def tH_13_0 : List tc_It := [de_it 0x2010000, de_it 0x2, de_it 0x2010000, de_it 0x2, de_it 0x101, de_it 0x8010000, de_it 0x2, de_it 0x2010000, de_it 0x2, de_it 0x101, de_it 0x8010000, de_it 0x10001080000010007]
set_option maxRecDepth 100000 in
theorem tR_13 : fw_go tV_13 tK_13.2.1.1 tK_13.2.1.2 none tH_13_0 [(tK_13.2.1, tK_13.2.2.2.1, 0, tc_args 0 tK_13.2.2.1, [], ([], 0), ([], 0))] = true := by decide +kernel
set_option maxRecDepth 100000 in
theorem tT_13 {RO : am_O} {sa : Nat → Nat} : tc_true (aP sa) tp_G RO tp_T tp_Z tK_13 := by
  have hC : ∀ c ∈ tC_13, tc_true (aP sa) tp_G RO tp_T tp_Z c := by
    intro c hc
    have hc : c ∈ ([] : List tc_Ct) := hc
    cases hc
  have hP : ∀ p ∈ tJ_13, ∃ hs, tc_plk (aP sa, tV_13.2) p hs = true := by
    intro p hp
    have hp : p ∈ ([] : List tc_Pl) := hp
    cases hp
  exact tc_main (mt := aM_22.1) (hs := tH_13_0) (PL := tJ_13) ⟨tp_G_ok, tMs_13 _, hC, tp_L_ok, tp_G_re⟩ (show am_meth (aP sa) 22 = some aM_22.1 from rfl) aX_22 (by decide +kernel) hP ((tc_go_sa (aP_sa sa _)).trans ((fw_go_s tHC_13).trans tR_13))
noncomputable def tK_14 : tc_Ct := (21, (0, 1), [(2, ([], 0), 0)], ([], [(0, 167)], [], [], [], [], []), [(167, 0), (167, 1), (167, 2), (167, 3)], [((4, 1), ([([(0, -1)], 2147483647), ([(0, 1)], 2147483648), ([(1, -1)], 2147483647), ([(1, 1)], 2147483648), ([(2, -1)], 2147483647), ([(2, 1)], 2147483648), ([(3, -1)], 2147483647), ([(3, 1)], 2147483648)], [], [], [(0, 0, (0, ([(0, 1)], 0), 0)), (0, 1, (0, ([(1, 1)], 0), 0)), (0, 2, (0, ([(2, 1)], 0), 0)), (0, 3, (0, ([(3, 1)], 0), 0))], [], [], []), some (1, ([], 0), 0), ([], 0), ([], 0))])
noncomputable def tJ_14 : List tc_Pl := []
noncomputable def tC_14 : List tc_Ct := [tK_11, tK_13]
def tM_14 (z : Nat) : Option am_Meth := if z = 22 then some aM_22.1 else if z = 20 then some aM_20.1 else none
set_option maxRecDepth 100000 in
theorem tMs_14 (sa : Nat → Nat) : ∀ z mz, tM_14 z = some mz → am_meth (aP sa) z = some mz := by
  intro z mz h
  unfold tM_14 at h
  rcases de_m h with ⟨rfl, rfl⟩ | h
  · exact (show am_meth (aP sa) 22 = some aM_22.1 from rfl)
  rcases de_m h with ⟨rfl, rfl⟩ | h
  · exact (show am_meth (aP sa) 20 = some aM_20.1 from rfl)
  cases h
noncomputable def tV_14 : tc_Ev := (aQ, tp_T, tp_G.2, tp_Z, tM_14, tC_14, tp_L, tK_14.2.2.2.2.1, aM_21.1, aW_21, tK_14.2.1, tK_14.2.2.2.2.2, tJ_14)
theorem tE_14 : tK_14.2.2.2.2.2.all (tc_wex tK_14.2.1.1 tK_14.2.1.2) = true := by decide +kernel
theorem tSS_14 : tC_14.all (fun c => tw_mg tK_14.2.2.2.2.1 c.2.2.2.2.1) = true := by decide +kernel
theorem tHC_14 : ∀ c ∈ tC_14, c.2.2.2.2.1.all tK_14.2.2.2.2.1.contains = true ∧ c.2.2.2.2.2.all (tc_wex c.2.1.1 c.2.1.2) = true := tf_hc tSS_14 (by
  intro c hc
  have hc : c ∈ ([tK_11, tK_13] : List tc_Ct) := hc
  rcases List.mem_cons.mp hc with rfl | hc
  · exact tE_11
  rcases List.mem_cons.mp hc with rfl | hc
  · exact tE_13
  cases hc)
noncomputable def tH_14_0 : List tc_It := [de_it 0x4010000, de_it 0x2, de_it 0xe010000, de_it 0x2, de_it 0x4010000, de_it 0x1020101010301010200000001, de_it 0x8020101080301010200000001, de_it 0x2010000, de_it 0x108000000020006, de_it 0x4010000, de_it 0x2, de_it 0x2010000, de_it 0x2, de_it 0x101, de_it 0x10d0101010c0101000000000400000003, de_it 0x4010000, de_it 0x108000000020006, de_it 0x2010000, de_it 0x8000002020006, de_it 0x10f0101010e0101011101010110010101130101011201010115010101140101000000000000000000000000000100011000020701000208010002090100020a010400010007]
set_option maxRecDepth 100000 in
theorem tR_14 : fw_go tV_14 tK_14.2.1.1 tK_14.2.1.2 none tH_14_0 [(tK_14.2.1, tK_14.2.2.2.1, 0, tc_args 0 tK_14.2.2.1, [], ([], 0), ([], 0))] = true := by decide +kernel
set_option maxRecDepth 100000 in
theorem tT_14 {RO : am_O} {sa : Nat → Nat} (h_11 : tc_true (aP sa) tp_G RO tp_T tp_Z tK_11) (h_13 : tc_true (aP sa) tp_G RO tp_T tp_Z tK_13) : tc_true (aP sa) tp_G RO tp_T tp_Z tK_14 := by
  have hC : ∀ c ∈ tC_14, tc_true (aP sa) tp_G RO tp_T tp_Z c := by
    intro c hc
    have hc : c ∈ ([tK_11, tK_13] : List tc_Ct) := hc
    rcases List.mem_cons.mp hc with rfl | hc
    · exact h_11
    rcases List.mem_cons.mp hc with rfl | hc
    · exact h_13
    cases hc
  have hP : ∀ p ∈ tJ_14, ∃ hs, tc_plk (aP sa, tV_14.2) p hs = true := by
    intro p hp
    have hp : p ∈ ([] : List tc_Pl) := hp
    cases hp
  exact tc_main (mt := aM_21.1) (hs := tH_14_0) (PL := tJ_14) ⟨tp_G_ok, tMs_14 _, hC, tp_L_ok, tp_G_re⟩ (show am_meth (aP sa) 21 = some aM_21.1 from rfl) aX_21 (by decide +kernel) hP ((tc_go_sa (aP_sa sa _)).trans ((fw_go_s tHC_14).trans tR_14))
noncomputable def tK_15 : tc_Ct := (17, (4, 2), [(2, ([], 0), 0), (0, ([(0, 1)], 0), 0), (2, ([], 0), 1), (0, ([(1, 1)], 0), 0), (0, ([(2, 1)], 0), 0)], ([([(0, -1)], 1), ([(0, 1)], 0), ([(1, -1)], 3), ([(1, 1)], 0), ([(2, -1)], 2503), ([(2, 1)], 0), ([(3, -1)], 6000), ([(0, -1), (1, -1)], 3), ([(0, -1), (3, 1)], -11), ([(1, -1), (2, 1)], 0), ([(1, 1), (2, -1)], 2500), ([(1, 1), (3, -1)], 5997), ([(1, 1), (3, 1)], -14), ([(2, -1), (3, 1)], 0), ([(2, 1), (3, -1)], 5989), ([(2, 1), (3, 1)], -22), ([(0, -1), (1, 1), (2, -1)], 2500), ([(0, -1), (1, 1), (3, -1)], 5997), ([(0, -1), (2, 1), (3, -1)], 5989)], [(0, 167), (1, 193)], [(1, ([(3, 1)], 0))], [], [], [], []), [(167, 0), (167, 1), (167, 2), (167, 3), (167, 4), (167, 5)], [((8, 2), ([([(0, -1)], 1), ([(0, 1)], 0), ([(1, -1)], 3), ([(1, 1)], 0), ([(2, -1)], 2503), ([(2, 1)], 0), ([(3, -1)], 6000), ([(3, 1)], -11), ([(4, -1)], 2147483647), ([(4, 1)], 2147483648), ([(5, -1)], 2147483647), ([(5, 1)], 2147483648), ([(6, -1)], 2147483647), ([(6, 1)], 2147483648), ([(7, -1)], 2147483647), ([(7, 1)], 2147483648), ([(0, -1), (1, -1)], 3), ([(0, -1), (2, -1)], 2503), ([(0, -1), (3, -1)], 6000), ([(0, -1), (3, 1)], -11), ([(1, -1), (2, 1)], 0), ([(1, 1), (2, -1)], 2500), ([(1, 1), (3, -1)], 5997), ([(1, 1), (3, 1)], -14), ([(2, -1), (3, 1)], 0), ([(2, 1), (3, -1)], 5989), ([(2, 1), (3, 1)], -22), ([(0, -1), (1, 1), (2, -1)], 2500), ([(0, -1), (1, 1), (3, -1)], 5997), ([(0, -1), (2, 1), (3, -1)], 5989)], [], [(1, ([(3, 1)], 0))], [(0, 0, (0, ([(4, 1)], 0), 0)), (0, 1, (0, ([(5, 1)], 0), 0)), (0, 2, (0, ([(6, 1)], 0), 0)), (0, 3, (0, ([(7, 1)], 0), 0))], [], [], []), some (1, ([], 0), 0), ([], 0), ([], 0))])
noncomputable def tJ_15 : List tc_Pl := []
noncomputable def tC_15 : List tc_Ct := [tK_10, tK_12, tK_14]
def tM_15 (z : Nat) : Option am_Meth := if z = 21 then some aM_21.1 else if z = 19 then some aM_19.1 else if z = 18 then some aM_18.1 else none
set_option maxRecDepth 100000 in
theorem tMs_15 (sa : Nat → Nat) : ∀ z mz, tM_15 z = some mz → am_meth (aP sa) z = some mz := by
  intro z mz h
  unfold tM_15 at h
  rcases de_m h with ⟨rfl, rfl⟩ | h
  · exact (show am_meth (aP sa) 21 = some aM_21.1 from rfl)
  rcases de_m h with ⟨rfl, rfl⟩ | h
  · exact (show am_meth (aP sa) 19 = some aM_19.1 from rfl)
  rcases de_m h with ⟨rfl, rfl⟩ | h
  · exact (show am_meth (aP sa) 18 = some aM_18.1 from rfl)
  cases h
noncomputable def tV_15 : tc_Ev := (aQ, tp_T, tp_G.2, tp_Z, tM_15, tC_15, tp_L, tK_15.2.2.2.2.1, aM_17.1, aW_17, tK_15.2.1, tK_15.2.2.2.2.2, tJ_15)
theorem tE_15 : tK_15.2.2.2.2.2.all (tc_wex tK_15.2.1.1 tK_15.2.1.2) = true := by decide +kernel
theorem tSS_15 : tC_15.all (fun c => tw_mg tK_15.2.2.2.2.1 c.2.2.2.2.1) = true := by decide +kernel
theorem tHC_15 : ∀ c ∈ tC_15, c.2.2.2.2.1.all tK_15.2.2.2.2.1.contains = true ∧ c.2.2.2.2.2.all (tc_wex c.2.1.1 c.2.1.2) = true := tf_hc tSS_15 (by
  intro c hc
  have hc : c ∈ ([tK_10, tK_12, tK_14] : List tc_Ct) := hc
  rcases List.mem_cons.mp hc with rfl | hc
  · exact tE_10
  rcases List.mem_cons.mp hc with rfl | hc
  · exact tE_12
  rcases List.mem_cons.mp hc with rfl | hc
  · exact tE_14
  cases hc)
noncomputable def tH_15_0 : List tc_It := [de_it 0x4010000, de_it 0x101010101000101000000000000000000000000000000010a00020001010000020006, de_it 0x8010000, de_it 0x102010e0201010d01020201010f0101010e0101010d01010106010402010202010f010d0302010b0202020101090101010a02020201010f010d02020106010101050101010401010103010101020101000000000000000000000000000000031800020301000202010002010103020002030006, de_it 0x58564e4c4a46442422201e1c1a18161412100e0c0a08060402001a000d, de_it 0x2010000, de_it 0x8000004020006, de_it 0x11201010111010101100101010f0101010e0101010d0101010c0101010b0101010a0101010901010108010101060111010703020104011001070302010701010121010101200101011f0101011e0101011d0101011c0101011b0101011a0101010f010d020201060101010501010104010101030101010201010101010101000101000000000000000000000000000100012600020b0100020a0100020901000208010400010007]
set_option maxRecDepth 100000 in
theorem tR_15 : fw_go tV_15 tK_15.2.1.1 tK_15.2.1.2 none tH_15_0 [(tK_15.2.1, tK_15.2.2.2.1, 0, tc_args 0 tK_15.2.2.1, [], ([], 0), ([], 0))] = true := by decide +kernel
set_option maxRecDepth 100000 in
theorem tT_15 {RO : am_O} {sa : Nat → Nat} (h_10 : tc_true (aP sa) tp_G RO tp_T tp_Z tK_10) (h_12 : tc_true (aP sa) tp_G RO tp_T tp_Z tK_12) (h_14 : tc_true (aP sa) tp_G RO tp_T tp_Z tK_14) : tc_true (aP sa) tp_G RO tp_T tp_Z tK_15 := by
  have hC : ∀ c ∈ tC_15, tc_true (aP sa) tp_G RO tp_T tp_Z c := by
    intro c hc
    have hc : c ∈ ([tK_10, tK_12, tK_14] : List tc_Ct) := hc
    rcases List.mem_cons.mp hc with rfl | hc
    · exact h_10
    rcases List.mem_cons.mp hc with rfl | hc
    · exact h_12
    rcases List.mem_cons.mp hc with rfl | hc
    · exact h_14
    cases hc
  have hP : ∀ p ∈ tJ_15, ∃ hs, tc_plk (aP sa, tV_15.2) p hs = true := by
    intro p hp
    have hp : p ∈ ([] : List tc_Pl) := hp
    cases hp
  exact tc_main (mt := aM_17.1) (hs := tH_15_0) (PL := tJ_15) ⟨tp_G_ok, tMs_15 _, hC, tp_L_ok, tp_G_re⟩ (show am_meth (aP sa) 17 = some aM_17.1 from rfl) aX_17 (by decide +kernel) hP ((tc_go_sa (aP_sa sa _)).trans ((fw_go_s tHC_15).trans tR_15))
noncomputable def tK_16 : tc_Ct := (23, (2, 2), [(2, ([], 0), 0)], ([([(0, -1)], 800), ([(0, 1)], 0), ([(1, -1)], 1600), ([(1, 1)], -64), ([(0, -1), (1, 1)], 0)], [(0, 177), (1, 193)], [(1, ([(1, 1)], 0))], [(0, 0, (2, ([], 0), 1)), (0, 1, (0, ([(0, 1)], 0), 0))], [], [], [(1016, [], []), (1088, [], [])]), [(177, 1)], [((2, 2), ([([(0, -1)], 800), ([(0, 1)], 0), ([(1, -1)], 1600), ([(1, 1)], -64), ([(0, -1), (1, 1)], 0)], [], [(1, ([(1, 1)], 0))], [(0, 1, (0, ([], 0), 0))], [], [], []), none, ([], 0), ([], 0))])
noncomputable def tJ_16 : List tc_Pl := []
noncomputable def tC_16 : List tc_Ct := []
def tM_16 (z : Nat) : Option am_Meth := none
set_option maxRecDepth 100000 in
theorem tMs_16 (sa : Nat → Nat) : ∀ z mz, tM_16 z = some mz → am_meth (aP sa) z = some mz := fun z mz h => by cases h
noncomputable def tV_16 : tc_Ev := (aQ, tp_T, tp_G.2, tp_Z, tM_16, tC_16, tp_L, tK_16.2.2.2.2.1, aM_23.1, aW_23, tK_16.2.1, tK_16.2.2.2.2.2, tJ_16)
theorem tE_16 : tK_16.2.2.2.2.2.all (tc_wex tK_16.2.1.1 tK_16.2.1.2) = true := by decide +kernel
theorem tSS_16 : tC_16.all (fun c => tw_mg tK_16.2.2.2.2.1 c.2.2.2.2.1) = true := by decide +kernel
theorem tHC_16 : ∀ c ∈ tC_16, c.2.2.2.2.1.all tK_16.2.2.2.2.1.contains = true ∧ c.2.2.2.2.2.all (tc_wex c.2.1.1 c.2.1.2) = true := tf_hc tSS_16 (by
  intro c hc
  have hc : c ∈ ([] : List tc_Ct) := hc
  cases hc)
noncomputable def tH_16_0 : List tc_It := [de_it 0x4010000, de_it 0x1030101010201010103010100010001000000000700000003, de_it 0x104010101030101010201010101010101000101000000000000000000000000000100010d0000010007]
set_option maxRecDepth 100000 in
theorem tR_16 : fw_go tV_16 tK_16.2.1.1 tK_16.2.1.2 none tH_16_0 [(tK_16.2.1, tK_16.2.2.2.1, 0, tc_args 0 tK_16.2.2.1, [], ([], 0), ([], 0))] = true := by decide +kernel
set_option maxRecDepth 100000 in
theorem tT_16 {RO : am_O} {sa : Nat → Nat} : tc_true (aP sa) tp_G RO tp_T tp_Z tK_16 := by
  have hC : ∀ c ∈ tC_16, tc_true (aP sa) tp_G RO tp_T tp_Z c := by
    intro c hc
    have hc : c ∈ ([] : List tc_Ct) := hc
    cases hc
  have hP : ∀ p ∈ tJ_16, ∃ hs, tc_plk (aP sa, tV_16.2) p hs = true := by
    intro p hp
    have hp : p ∈ ([] : List tc_Pl) := hp
    cases hp
  exact tc_main (mt := aM_23.1) (hs := tH_16_0) (PL := tJ_16) ⟨tp_G_ok, tMs_16 _, hC, tp_L_ok, tp_G_re⟩ (show am_meth (aP sa) 23 = some aM_23.1 from rfl) aX_23 (by decide +kernel) hP ((tc_go_sa (aP_sa sa _)).trans ((fw_go_s tHC_16).trans tR_16))
noncomputable def tK_17 : tc_Ct := (15, (1, 2), [(2, ([], 0), 0), (0, ([(0, 1)], 0), 0)], ([([(0, -1)], 2147483647), ([(0, 1)], 2147483648)], [(0, 165), (1, 166)], [], [(0, 0, (2, ([], 0), 1))], [], [], [(1016, [], []), (1024, [], []), (1088, [], []), (1096, [], []), (568, [1], [])]), [(167, 0), (167, 1), (167, 2), (167, 3), (167, 4), (167, 5), (177, 1)], [((1, 2), ([([(0, -1)], 2147483647), ([(0, 1)], 2147483648)], [], [], [], [], [], []), some (1, ([], 0), 0), ([], 0), ([], 0))])
noncomputable def tJ_17 : List tc_Pl := []
noncomputable def tC_17 : List tc_Ct := [tK_9, tK_15, tK_16]
def tM_17 (z : Nat) : Option am_Meth := if z = 23 then some aM_23.1 else if z = 17 then some aM_17.1 else if z = 16 then some aM_16.1 else none
set_option maxRecDepth 100000 in
theorem tMs_17 (sa : Nat → Nat) : ∀ z mz, tM_17 z = some mz → am_meth (aP sa) z = some mz := by
  intro z mz h
  unfold tM_17 at h
  rcases de_m h with ⟨rfl, rfl⟩ | h
  · exact (show am_meth (aP sa) 23 = some aM_23.1 from rfl)
  rcases de_m h with ⟨rfl, rfl⟩ | h
  · exact (show am_meth (aP sa) 17 = some aM_17.1 from rfl)
  rcases de_m h with ⟨rfl, rfl⟩ | h
  · exact (show am_meth (aP sa) 16 = some aM_16.1 from rfl)
  cases h
noncomputable def tV_17 : tc_Ev := (aQ, tp_T, tp_G.2, tp_Z, tM_17, tC_17, tp_L, tK_17.2.2.2.2.1, aM_15.1, aW_15, tK_17.2.1, tK_17.2.2.2.2.2, tJ_17)
theorem tE_17 : tK_17.2.2.2.2.2.all (tc_wex tK_17.2.1.1 tK_17.2.1.2) = true := by decide +kernel
theorem tSS_17 : tC_17.all (fun c => tw_mg tK_17.2.2.2.2.1 c.2.2.2.2.1) = true := by decide +kernel
theorem tHC_17 : ∀ c ∈ tC_17, c.2.2.2.2.1.all tK_17.2.2.2.2.1.contains = true ∧ c.2.2.2.2.2.all (tc_wex c.2.1.1 c.2.1.2) = true := tf_hc tSS_17 (by
  intro c hc
  have hc : c ∈ ([tK_9, tK_15, tK_16] : List tc_Ct) := hc
  rcases List.mem_cons.mp hc with rfl | hc
  · exact tE_9
  rcases List.mem_cons.mp hc with rfl | hc
  · exact tE_15
  rcases List.mem_cons.mp hc with rfl | hc
  · exact tE_16
  cases hc)
noncomputable def tH_17_0 : List tc_It := [de_it 0x2010000, de_it 0x101010101000101000000000000000000000000000000000a000200010100010006, de_it 0x10000010401010300000001, de_it 0x2010000, de_it 0x101010101000101000000000000000000000000000100010a0000010007, de_it 0x10105010100000300000001, de_it 0x2010000, de_it 0x2, de_it 0x2, de_it 0x4010000, de_it 0x2, de_it 0x2, de_it 0x8010011, de_it 0x6010010, de_it 0x4010000, de_it 0x2, de_it 0x2, de_it 0x6010010, de_it 0x109010701020301010701020201010a01020201010901080201010901070201010b01010108010101070101010a010101090101010801020201010201010107010101090101010a0101000100010103010101020101000000000000000000000000000000041b000201010002020100000002000104080402030006, de_it 0x565452504e423a38363432302e2c161412100e060415000d, de_it 0x4010000, de_it 0x2, de_it 0x106010101030101010201010104010101050101000000000000000000000000000000000d000201010002020102080604030006, de_it 0x2010000, de_it 0x101010101000101000000000000000000000000000100010a0000010007]
set_option maxRecDepth 100000 in
theorem tR_17 : fw_go tV_17 tK_17.2.1.1 tK_17.2.1.2 none tH_17_0 [(tK_17.2.1, tK_17.2.2.2.1, 0, tc_args 0 tK_17.2.2.1, [], ([], 0), ([], 0))] = true := by decide +kernel
set_option maxRecDepth 100000 in
theorem tT_17 {RO : am_O} {sa : Nat → Nat} (h_9 : tc_true (aP sa) tp_G RO tp_T tp_Z tK_9) (h_15 : tc_true (aP sa) tp_G RO tp_T tp_Z tK_15) (h_16 : tc_true (aP sa) tp_G RO tp_T tp_Z tK_16) : tc_true (aP sa) tp_G RO tp_T tp_Z tK_17 := by
  have hC : ∀ c ∈ tC_17, tc_true (aP sa) tp_G RO tp_T tp_Z c := by
    intro c hc
    have hc : c ∈ ([tK_9, tK_15, tK_16] : List tc_Ct) := hc
    rcases List.mem_cons.mp hc with rfl | hc
    · exact h_9
    rcases List.mem_cons.mp hc with rfl | hc
    · exact h_15
    rcases List.mem_cons.mp hc with rfl | hc
    · exact h_16
    cases hc
  have hP : ∀ p ∈ tJ_17, ∃ hs, tc_plk (aP sa, tV_17.2) p hs = true := by
    intro p hp
    have hp : p ∈ ([] : List tc_Pl) := hp
    cases hp
  exact tc_main (mt := aM_15.1) (hs := tH_17_0) (PL := tJ_17) ⟨tp_G_ok, tMs_17 _, hC, tp_L_ok, tp_G_re⟩ (show am_meth (aP sa) 15 = some aM_15.1 from rfl) aX_15 (by decide +kernel) hP ((tc_go_sa (aP_sa sa _)).trans ((fw_go_s tHC_17).trans tR_17))
noncomputable def tK_18 : tc_Ct := (26, (1, 1), [(2, ([], 0), 0), (0, ([(0, 1)], 0), 0), (1, ([], 0), 0)], ([([(0, -1)], 2147483647), ([(0, 1)], 2147483648)], [(0, 167)], [], [], [], [], []), [(167, 0), (167, 1), (167, 2), (167, 3), (167, 5)], [((5, 1), ([([(0, -1)], 2147483647), ([(0, 1)], 2147483648), ([(1, -1)], 2147483647), ([(1, 1)], 2147483648), ([(2, -1)], 2147483647), ([(2, 1)], 2147483648), ([(3, -1)], 2147483647), ([(3, 1)], 2147483648), ([(4, -1)], 2147483647), ([(4, 1)], 2147483648)], [], [], [(0, 0, (0, ([(1, 1)], 0), 0)), (0, 1, (0, ([(2, 1)], 0), 0)), (0, 2, (0, ([(3, 1)], 0), 0)), (0, 3, (0, ([(4, 1)], 0), 0)), (0, 5, (0, ([], 8), 0))], [], [], []), none, ([], 0), ([], 0))])
noncomputable def tJ_18 : List tc_Pl := []
noncomputable def tC_18 : List tc_Ct := [tK_10, tK_11]
def tM_18 (z : Nat) : Option am_Meth := if z = 20 then some aM_20.1 else if z = 18 then some aM_18.1 else none
set_option maxRecDepth 100000 in
theorem tMs_18 (sa : Nat → Nat) : ∀ z mz, tM_18 z = some mz → am_meth (aP sa) z = some mz := by
  intro z mz h
  unfold tM_18 at h
  rcases de_m h with ⟨rfl, rfl⟩ | h
  · exact (show am_meth (aP sa) 20 = some aM_20.1 from rfl)
  rcases de_m h with ⟨rfl, rfl⟩ | h
  · exact (show am_meth (aP sa) 18 = some aM_18.1 from rfl)
  cases h
noncomputable def tV_18 : tc_Ev := (aQ, tp_T, tp_G.2, tp_Z, tM_18, tC_18, tp_L, tK_18.2.2.2.2.1, aM_26.1, aW_26, tK_18.2.1, tK_18.2.2.2.2.2, tJ_18)
theorem tE_18 : tK_18.2.2.2.2.2.all (tc_wex tK_18.2.1.1 tK_18.2.1.2) = true := by decide +kernel
theorem tSS_18 : tC_18.all (fun c => tw_mg tK_18.2.2.2.2.1 c.2.2.2.2.1) = true := by decide +kernel
theorem tHC_18 : ∀ c ∈ tC_18, c.2.2.2.2.1.all tK_18.2.2.2.2.1.contains = true ∧ c.2.2.2.2.2.all (tc_wex c.2.1.1 c.2.1.2) = true := tf_hc tSS_18 (by
  intro c hc
  have hc : c ∈ ([tK_10, tK_11] : List tc_Ct) := hc
  rcases List.mem_cons.mp hc with rfl | hc
  · exact tE_10
  rcases List.mem_cons.mp hc with rfl | hc
  · exact tE_11
  cases hc)
noncomputable def tH_18_0 : List tc_It := [de_it 0x4010000, de_it 0x101010101000101000000000000000000000000000000010a00020001010000020006, de_it 0x8010000, de_it 0x108000002020006, de_it 0x4010000, de_it 0x10001000000000400000003, de_it 0x10d0101010c0101010f0101010e01010111010101100101011301010112010101010101010001010000000000000000000000000001000112000205010002060100020701000208010400010007]
set_option maxRecDepth 100000 in
theorem tR_18 : fw_go tV_18 tK_18.2.1.1 tK_18.2.1.2 none tH_18_0 [(tK_18.2.1, tK_18.2.2.2.1, 0, tc_args 0 tK_18.2.2.1, [], ([], 0), ([], 0))] = true := by decide +kernel
set_option maxRecDepth 100000 in
theorem tT_18 {RO : am_O} {sa : Nat → Nat} (h_10 : tc_true (aP sa) tp_G RO tp_T tp_Z tK_10) (h_11 : tc_true (aP sa) tp_G RO tp_T tp_Z tK_11) : tc_true (aP sa) tp_G RO tp_T tp_Z tK_18 := by
  have hC : ∀ c ∈ tC_18, tc_true (aP sa) tp_G RO tp_T tp_Z c := by
    intro c hc
    have hc : c ∈ ([tK_10, tK_11] : List tc_Ct) := hc
    rcases List.mem_cons.mp hc with rfl | hc
    · exact h_10
    rcases List.mem_cons.mp hc with rfl | hc
    · exact h_11
    cases hc
  have hP : ∀ p ∈ tJ_18, ∃ hs, tc_plk (aP sa, tV_18.2) p hs = true := by
    intro p hp
    have hp : p ∈ ([] : List tc_Pl) := hp
    cases hp
  exact tc_main (mt := aM_26.1) (hs := tH_18_0) (PL := tJ_18) ⟨tp_G_ok, tMs_18 _, hC, tp_L_ok, tp_G_re⟩ (show am_meth (aP sa) 26 = some aM_26.1 from rfl) aX_26 (by decide +kernel) hP ((tc_go_sa (aP_sa sa _)).trans ((fw_go_s tHC_18).trans tR_18))
noncomputable def tK_19 : tc_Ct := (27, (1, 1), [(2, ([], 0), 0), (0, ([(0, 1)], 0), 0), (1, ([], 0), 0), (1, ([], 0), 0)], ([([(0, -1)], 2147483647), ([(0, 1)], 2147483648)], [(0, 167)], [], [], [], [], []), [(167, 0), (167, 1), (167, 2), (167, 3), (167, 5)], [((5, 1), ([([(0, -1)], 2147483647), ([(0, 1)], 2147483648), ([(1, -1)], 2147483647), ([(1, 1)], 2147483648), ([(2, -1)], 2147483647), ([(2, 1)], 2147483648), ([(3, -1)], 2147483647), ([(3, 1)], 2147483648), ([(4, -1)], 2147483647), ([(4, 1)], 2147483648)], [], [], [(0, 0, (0, ([(1, 1)], 0), 0)), (0, 1, (0, ([(2, 1)], 0), 0)), (0, 2, (0, ([(3, 1)], 0), 0)), (0, 3, (0, ([(4, 1)], 0), 0)), (0, 5, (0, ([], 0), 0))], [], [], []), some (1, ([], 0), 0), ([], 0), ([], 0))])
noncomputable def tJ_19 : List tc_Pl := []
noncomputable def tC_19 : List tc_Ct := [tK_10, tK_11, tK_13]
def tM_19 (z : Nat) : Option am_Meth := if z = 22 then some aM_22.1 else if z = 20 then some aM_20.1 else if z = 18 then some aM_18.1 else none
set_option maxRecDepth 100000 in
theorem tMs_19 (sa : Nat → Nat) : ∀ z mz, tM_19 z = some mz → am_meth (aP sa) z = some mz := by
  intro z mz h
  unfold tM_19 at h
  rcases de_m h with ⟨rfl, rfl⟩ | h
  · exact (show am_meth (aP sa) 22 = some aM_22.1 from rfl)
  rcases de_m h with ⟨rfl, rfl⟩ | h
  · exact (show am_meth (aP sa) 20 = some aM_20.1 from rfl)
  rcases de_m h with ⟨rfl, rfl⟩ | h
  · exact (show am_meth (aP sa) 18 = some aM_18.1 from rfl)
  cases h
noncomputable def tV_19 : tc_Ev := (aQ, tp_T, tp_G.2, tp_Z, tM_19, tC_19, tp_L, tK_19.2.2.2.2.1, aM_27.1, aW_27, tK_19.2.1, tK_19.2.2.2.2.2, tJ_19)
theorem tE_19 : tK_19.2.2.2.2.2.all (tc_wex tK_19.2.1.1 tK_19.2.1.2) = true := by decide +kernel
theorem tSS_19 : tC_19.all (fun c => tw_mg tK_19.2.2.2.2.1 c.2.2.2.2.1) = true := by decide +kernel
theorem tHC_19 : ∀ c ∈ tC_19, c.2.2.2.2.1.all tK_19.2.2.2.2.1.contains = true ∧ c.2.2.2.2.2.all (tc_wex c.2.1.1 c.2.1.2) = true := tf_hc tSS_19 (by
  intro c hc
  have hc : c ∈ ([tK_10, tK_11, tK_13] : List tc_Ct) := hc
  rcases List.mem_cons.mp hc with rfl | hc
  · exact tE_10
  rcases List.mem_cons.mp hc with rfl | hc
  · exact tE_11
  rcases List.mem_cons.mp hc with rfl | hc
  · exact tE_13
  cases hc)
noncomputable def tH_19_0 : List tc_It := [de_it 0x4010000, de_it 0x101010101000101000000000000000000000000000000010a00020001010000020006, de_it 0x8010000, de_it 0x108000002020006, de_it 0x4010000, de_it 0x108000002020006, de_it 0x4010000, de_it 0x108000002020006, de_it 0x4010000, de_it 0x2, de_it 0x2010000, de_it 0x101, de_it 0x125010101240101000000000400000003, de_it 0x4010000, de_it 0x108000002020006, de_it 0x5a58565452504e4c02000a000d, de_it 0x2010000, de_it 0x8000004020006, de_it 0x10301010102010101050101010401010107010101060101010901010108010101010101010001010000000000000000000000000001000112000212010002130100021401000215010400010007]
set_option maxRecDepth 100000 in
theorem tR_19 : fw_go tV_19 tK_19.2.1.1 tK_19.2.1.2 none tH_19_0 [(tK_19.2.1, tK_19.2.2.2.1, 0, tc_args 0 tK_19.2.2.1, [], ([], 0), ([], 0))] = true := by decide +kernel
set_option maxRecDepth 100000 in
theorem tT_19 {RO : am_O} {sa : Nat → Nat} (h_10 : tc_true (aP sa) tp_G RO tp_T tp_Z tK_10) (h_11 : tc_true (aP sa) tp_G RO tp_T tp_Z tK_11) (h_13 : tc_true (aP sa) tp_G RO tp_T tp_Z tK_13) : tc_true (aP sa) tp_G RO tp_T tp_Z tK_19 := by
  have hC : ∀ c ∈ tC_19, tc_true (aP sa) tp_G RO tp_T tp_Z c := by
    intro c hc
    have hc : c ∈ ([tK_10, tK_11, tK_13] : List tc_Ct) := hc
    rcases List.mem_cons.mp hc with rfl | hc
    · exact h_10
    rcases List.mem_cons.mp hc with rfl | hc
    · exact h_11
    rcases List.mem_cons.mp hc with rfl | hc
    · exact h_13
    cases hc
  have hP : ∀ p ∈ tJ_19, ∃ hs, tc_plk (aP sa, tV_19.2) p hs = true := by
    intro p hp
    have hp : p ∈ ([] : List tc_Pl) := hp
    cases hp
  exact tc_main (mt := aM_27.1) (hs := tH_19_0) (PL := tJ_19) ⟨tp_G_ok, tMs_19 _, hC, tp_L_ok, tp_G_re⟩ (show am_meth (aP sa) 27 = some aM_27.1 from rfl) aX_27 (by decide +kernel) hP ((tc_go_sa (aP_sa sa _)).trans ((fw_go_s tHC_19).trans tR_19))
noncomputable def tK_20 : tc_Ct := (25, (3, 2), [(2, ([], 0), 0), (0, ([(0, 1)], 0), 0), (1, ([], 0), 0), (2, ([], 0), 1), (0, ([], 0), 0), (0, ([(1, 1)], 0), 0)], ([([(0, -1)], 2147483647), ([(0, 1)], 2147483648), ([(1, -1)], 3661), ([(1, 1)], 0), ([(2, -1)], 8192), ([(1, -1), (2, 1)], 0), ([(1, 1), (2, -1)], 8183), ([(1, 1), (2, 1)], -28)], [(0, 167), (1, 193)], [(1, ([(2, 1)], 0))], [], [], [], []), [(167, 0), (167, 1), (167, 2), (167, 3), (167, 4), (167, 5)], [((7, 2), ([([(0, -1)], 2147483647), ([(0, 1)], 2147483648), ([(1, -1)], 3661), ([(1, 1)], 0), ([(2, -1)], 8192), ([(2, 1)], -14), ([(3, -1)], 2147483647), ([(3, 1)], 2147483648), ([(4, -1)], 2147483647), ([(4, 1)], 2147483648), ([(5, -1)], 2147483647), ([(5, 1)], 2147483648), ([(6, -1)], 2147483647), ([(6, 1)], 2147483648), ([(1, -1), (2, 1)], 0), ([(1, 1), (2, -1)], 8183), ([(1, 1), (2, 1)], -28)], [], [(1, ([(2, 1)], 0))], [(0, 0, (0, ([(3, 1)], 0), 0)), (0, 1, (0, ([(4, 1)], 0), 0)), (0, 2, (0, ([(5, 1)], 0), 0)), (0, 3, (0, ([(6, 1)], 0), 0)), (0, 5, (0, ([], 0), 0))], [], [], []), some (1, ([], 0), 0), ([], 0), ([], 0))])
noncomputable def tJ_20 : List tc_Pl := []
noncomputable def tC_20 : List tc_Ct := [tK_18, tK_12, tK_14, tK_19]
def tM_20 (z : Nat) : Option am_Meth := if z = 27 then some aM_27.1 else if z = 26 then some aM_26.1 else if z = 21 then some aM_21.1 else if z = 19 then some aM_19.1 else none
set_option maxRecDepth 100000 in
theorem tMs_20 (sa : Nat → Nat) : ∀ z mz, tM_20 z = some mz → am_meth (aP sa) z = some mz := by
  intro z mz h
  unfold tM_20 at h
  rcases de_m h with ⟨rfl, rfl⟩ | h
  · exact (show am_meth (aP sa) 27 = some aM_27.1 from rfl)
  rcases de_m h with ⟨rfl, rfl⟩ | h
  · exact (show am_meth (aP sa) 26 = some aM_26.1 from rfl)
  rcases de_m h with ⟨rfl, rfl⟩ | h
  · exact (show am_meth (aP sa) 21 = some aM_21.1 from rfl)
  rcases de_m h with ⟨rfl, rfl⟩ | h
  · exact (show am_meth (aP sa) 19 = some aM_19.1 from rfl)
  cases h
noncomputable def tV_20 : tc_Ev := (aQ, tp_T, tp_G.2, tp_Z, tM_20, tC_20, tp_L, tK_20.2.2.2.2.1, aM_25.1, aW_25, tK_20.2.1, tK_20.2.2.2.2.2, tJ_20)
theorem tE_20 : tK_20.2.2.2.2.2.all (tc_wex tK_20.2.1.1 tK_20.2.1.2) = true := by decide +kernel
theorem tSS_20 : tC_20.all (fun c => tw_mg tK_20.2.2.2.2.1 c.2.2.2.2.1) = true := by decide +kernel
theorem tHC_20 : ∀ c ∈ tC_20, c.2.2.2.2.1.all tK_20.2.2.2.2.1.contains = true ∧ c.2.2.2.2.2.all (tc_wex c.2.1.1 c.2.1.2) = true := tf_hc tSS_20 (by
  intro c hc
  have hc : c ∈ ([tK_18, tK_12, tK_14, tK_19] : List tc_Ct) := hc
  rcases List.mem_cons.mp hc with rfl | hc
  · exact tE_18
  rcases List.mem_cons.mp hc with rfl | hc
  · exact tE_12
  rcases List.mem_cons.mp hc with rfl | hc
  · exact tE_14
  rcases List.mem_cons.mp hc with rfl | hc
  · exact tE_19
  cases hc)
noncomputable def tH_20_0 : List tc_It := [de_it 0x6010000, de_it 0x101010101000101000000000000000000000000000000020a00020001010000020006, de_it 0x8010000, de_it 0x1060101010501010107010101060101010501010104010202010107010502020104010101030101010201010107010502020104010101030101010201010001000100000000000000000000000000000003180002020100020101000003020002030006, de_it 0x8010000, de_it 0x8000004020006, de_it 0x52504e4c4a484644382e0e0c0a080604020012000d, de_it 0x101010101000101000000000000000000000000000000030a00020001010006020006, de_it 0x10701010106010101050101011b0101011a01010119010101180101011701010116010101150101011401010107010502020104010101030101010201010101010101000101000000000000000000000000000100011900020e0100020d0100020c0100020b010400010007]
set_option maxRecDepth 100000 in
theorem tR_20 : fw_go tV_20 tK_20.2.1.1 tK_20.2.1.2 none tH_20_0 [(tK_20.2.1, tK_20.2.2.2.1, 0, tc_args 0 tK_20.2.2.1, [], ([], 0), ([], 0))] = true := by decide +kernel
set_option maxRecDepth 100000 in
theorem tT_20 {RO : am_O} {sa : Nat → Nat} (h_12 : tc_true (aP sa) tp_G RO tp_T tp_Z tK_12) (h_14 : tc_true (aP sa) tp_G RO tp_T tp_Z tK_14) (h_18 : tc_true (aP sa) tp_G RO tp_T tp_Z tK_18) (h_19 : tc_true (aP sa) tp_G RO tp_T tp_Z tK_19) : tc_true (aP sa) tp_G RO tp_T tp_Z tK_20 := by
  have hC : ∀ c ∈ tC_20, tc_true (aP sa) tp_G RO tp_T tp_Z c := by
    intro c hc
    have hc : c ∈ ([tK_18, tK_12, tK_14, tK_19] : List tc_Ct) := hc
    rcases List.mem_cons.mp hc with rfl | hc
    · exact h_18
    rcases List.mem_cons.mp hc with rfl | hc
    · exact h_12
    rcases List.mem_cons.mp hc with rfl | hc
    · exact h_14
    rcases List.mem_cons.mp hc with rfl | hc
    · exact h_19
    cases hc
  have hP : ∀ p ∈ tJ_20, ∃ hs, tc_plk (aP sa, tV_20.2) p hs = true := by
    intro p hp
    have hp : p ∈ ([] : List tc_Pl) := hp
    cases hp
  exact tc_main (mt := aM_25.1) (hs := tH_20_0) (PL := tJ_20) ⟨tp_G_ok, tMs_20 _, hC, tp_L_ok, tp_G_re⟩ (show am_meth (aP sa) 25 = some aM_25.1 from rfl) aX_25 (by decide +kernel) hP ((tc_go_sa (aP_sa sa _)).trans ((fw_go_s tHC_20).trans tR_20))
noncomputable def tK_21 : tc_Ct := (24, (1, 2), [(2, ([], 0), 0), (0, ([(0, 1)], 0), 0), (1, ([], 0), 0)], ([([(0, -1)], 2147483647), ([(0, 1)], 2147483648)], [(0, 165), (1, 166)], [], [(0, 0, (2, ([], 0), 1))], [], [], [(1016, [], []), (1024, [], []), (1088, [], []), (1096, [], []), (568, [1], [])]), [(167, 0), (167, 1), (167, 2), (167, 3), (167, 4), (167, 5), (177, 1)], [((1, 2), ([([(0, -1)], 2147483647), ([(0, 1)], 2147483648)], [], [], [], [], [], []), some (1, ([], 0), 0), ([], 0), ([], 0))])
noncomputable def tJ_21 : List tc_Pl := []
noncomputable def tC_21 : List tc_Ct := [tK_9, tK_20, tK_16]
def tM_21 (z : Nat) : Option am_Meth := if z = 25 then some aM_25.1 else if z = 23 then some aM_23.1 else if z = 16 then some aM_16.1 else none
set_option maxRecDepth 100000 in
theorem tMs_21 (sa : Nat → Nat) : ∀ z mz, tM_21 z = some mz → am_meth (aP sa) z = some mz := by
  intro z mz h
  unfold tM_21 at h
  rcases de_m h with ⟨rfl, rfl⟩ | h
  · exact (show am_meth (aP sa) 25 = some aM_25.1 from rfl)
  rcases de_m h with ⟨rfl, rfl⟩ | h
  · exact (show am_meth (aP sa) 23 = some aM_23.1 from rfl)
  rcases de_m h with ⟨rfl, rfl⟩ | h
  · exact (show am_meth (aP sa) 16 = some aM_16.1 from rfl)
  cases h
noncomputable def tV_21 : tc_Ev := (aQ, tp_T, tp_G.2, tp_Z, tM_21, tC_21, tp_L, tK_21.2.2.2.2.1, aM_24.1, aW_24, tK_21.2.1, tK_21.2.2.2.2.2, tJ_21)
theorem tE_21 : tK_21.2.2.2.2.2.all (tc_wex tK_21.2.1.1 tK_21.2.1.2) = true := by decide +kernel
theorem tSS_21 : tC_21.all (fun c => tw_mg tK_21.2.2.2.2.1 c.2.2.2.2.1) = true := by decide +kernel
theorem tHC_21 : ∀ c ∈ tC_21, c.2.2.2.2.1.all tK_21.2.2.2.2.1.contains = true ∧ c.2.2.2.2.2.all (tc_wex c.2.1.1 c.2.1.2) = true := tf_hc tSS_21 (by
  intro c hc
  have hc : c ∈ ([tK_9, tK_20, tK_16] : List tc_Ct) := hc
  rcases List.mem_cons.mp hc with rfl | hc
  · exact tE_9
  rcases List.mem_cons.mp hc with rfl | hc
  · exact tE_20
  rcases List.mem_cons.mp hc with rfl | hc
  · exact tE_16
  cases hc)
noncomputable def tH_21_0 : List tc_It := [de_it 0x2010000, de_it 0x101010101000101000000000000000000000000000000000a000200010100010006, de_it 0x10000010401010300000001, de_it 0x2010000, de_it 0x101010101000101000000000000000000000000000100010a0000010007, de_it 0x10105010100000300000001, de_it 0x2010000, de_it 0x2, de_it 0x2, de_it 0x6010000, de_it 0x2, de_it 0x2, de_it 0x8010011, de_it 0x6010010, de_it 0x4010000, de_it 0x2, de_it 0x2, de_it 0x6010010, de_it 0x10901080201010901070201010b01010107010101090101010a01010103010101020101000000000000000000000000000000051000020101000202010002000103080402030006, de_it 0x4010000, de_it 0x2, de_it 0x10b0101010801010107010101090101010a0101000000000000000000000000000000000d000201010002020102080604030006, de_it 0x2010000, de_it 0x103010101020101000000000000000000000000000100010a0000010007]
set_option maxRecDepth 100000 in
theorem tR_21 : fw_go tV_21 tK_21.2.1.1 tK_21.2.1.2 none tH_21_0 [(tK_21.2.1, tK_21.2.2.2.1, 0, tc_args 0 tK_21.2.2.1, [], ([], 0), ([], 0))] = true := by decide +kernel
set_option maxRecDepth 100000 in
theorem tT_21 {RO : am_O} {sa : Nat → Nat} (h_9 : tc_true (aP sa) tp_G RO tp_T tp_Z tK_9) (h_16 : tc_true (aP sa) tp_G RO tp_T tp_Z tK_16) (h_20 : tc_true (aP sa) tp_G RO tp_T tp_Z tK_20) : tc_true (aP sa) tp_G RO tp_T tp_Z tK_21 := by
  have hC : ∀ c ∈ tC_21, tc_true (aP sa) tp_G RO tp_T tp_Z c := by
    intro c hc
    have hc : c ∈ ([tK_9, tK_20, tK_16] : List tc_Ct) := hc
    rcases List.mem_cons.mp hc with rfl | hc
    · exact h_9
    rcases List.mem_cons.mp hc with rfl | hc
    · exact h_20
    rcases List.mem_cons.mp hc with rfl | hc
    · exact h_16
    cases hc
  have hP : ∀ p ∈ tJ_21, ∃ hs, tc_plk (aP sa, tV_21.2) p hs = true := by
    intro p hp
    have hp : p ∈ ([] : List tc_Pl) := hp
    cases hp
  exact tc_main (mt := aM_24.1) (hs := tH_21_0) (PL := tJ_21) ⟨tp_G_ok, tMs_21 _, hC, tp_L_ok, tp_G_re⟩ (show am_meth (aP sa) 24 = some aM_24.1 from rfl) aX_24 (by decide +kernel) hP ((tc_go_sa (aP_sa sa _)).trans ((fw_go_s tHC_21).trans tR_21))
noncomputable def tK_22 : tc_Ct := (30, (1, 1), [(2, ([], 0), 0), (0, ([(0, 1)], 0), 0)], ([([(0, -1)], 2147483647), ([(0, 1)], 2147483648)], [(0, 167)], [], [], [], [], []), [(167, 0), (167, 1), (167, 2), (167, 3), (167, 4), (167, 5)], [((2, 1), ([([(0, -1)], 2147483647), ([(0, 1)], 2147483648), ([(1, -1)], 2147483647), ([(1, 1)], 2147483648)], [], [], [(0, 4, (1, ([], 0), 0)), (0, 5, (0, ([(1, 1)], 0), 0))], [], [], []), none, ([], 0), ([], 0))])
noncomputable def tJ_22 : List tc_Pl := []
noncomputable def tC_22 : List tc_Ct := [tK_11]
def tM_22 (z : Nat) : Option am_Meth := if z = 20 then some aM_20.1 else none
set_option maxRecDepth 100000 in
theorem tMs_22 (sa : Nat → Nat) : ∀ z mz, tM_22 z = some mz → am_meth (aP sa) z = some mz := by
  intro z mz h
  unfold tM_22 at h
  rcases de_m h with ⟨rfl, rfl⟩ | h
  · exact (show am_meth (aP sa) 20 = some aM_20.1 from rfl)
  cases h
noncomputable def tV_22 : tc_Ev := (aQ, tp_T, tp_G.2, tp_Z, tM_22, tC_22, tp_L, tK_22.2.2.2.2.1, aM_30.1, aW_30, tK_22.2.1, tK_22.2.2.2.2.2, tJ_22)
theorem tE_22 : tK_22.2.2.2.2.2.all (tc_wex tK_22.2.1.1 tK_22.2.1.2) = true := by decide +kernel
theorem tSS_22 : tC_22.all (fun c => tw_mg tK_22.2.2.2.2.1 c.2.2.2.2.1) = true := by decide +kernel
theorem tHC_22 : ∀ c ∈ tC_22, c.2.2.2.2.1.all tK_22.2.2.2.2.1.contains = true ∧ c.2.2.2.2.2.all (tc_wex c.2.1.1 c.2.1.2) = true := tf_hc tSS_22 (by
  intro c hc
  have hc : c ∈ ([tK_11] : List tc_Ct) := hc
  rcases List.mem_cons.mp hc with rfl | hc
  · exact tE_11
  cases hc)
noncomputable def tH_22_0 : List tc_It := [de_it 0x4010000, de_it 0x2, de_it 0xe010000, de_it 0x400000003, de_it 0x4010000, de_it 0x2, de_it 0x2010000, de_it 0x101, de_it 0x107010101060101000000000400000003, de_it 0x2010000, de_it 0x2, de_it 0x4010000, de_it 0x1080101000000000300000001, de_it 0x1060101010701010101010101000101000000000000000000000000000100010c000203010100010007, de_it 0x4010000, de_it 0x2, de_it 0x108000000020006, de_it 0x1060101010701010101010101000101000000000000000000000000000100010c000203010100010007]
set_option maxRecDepth 100000 in
theorem tR_22 : fw_go tV_22 tK_22.2.1.1 tK_22.2.1.2 none tH_22_0 [(tK_22.2.1, tK_22.2.2.2.1, 0, tc_args 0 tK_22.2.2.1, [], ([], 0), ([], 0))] = true := by decide +kernel
set_option maxRecDepth 100000 in
theorem tT_22 {RO : am_O} {sa : Nat → Nat} (h_11 : tc_true (aP sa) tp_G RO tp_T tp_Z tK_11) : tc_true (aP sa) tp_G RO tp_T tp_Z tK_22 := by
  have hC : ∀ c ∈ tC_22, tc_true (aP sa) tp_G RO tp_T tp_Z c := by
    intro c hc
    have hc : c ∈ ([tK_11] : List tc_Ct) := hc
    rcases List.mem_cons.mp hc with rfl | hc
    · exact h_11
    cases hc
  have hP : ∀ p ∈ tJ_22, ∃ hs, tc_plk (aP sa, tV_22.2) p hs = true := by
    intro p hp
    have hp : p ∈ ([] : List tc_Pl) := hp
    cases hp
  exact tc_main (mt := aM_30.1) (hs := tH_22_0) (PL := tJ_22) ⟨tp_G_ok, tMs_22 _, hC, tp_L_ok, tp_G_re⟩ (show am_meth (aP sa) 30 = some aM_30.1 from rfl) aX_30 (by decide +kernel) hP ((tc_go_sa (aP_sa sa _)).trans ((fw_go_s tHC_22).trans tR_22))
noncomputable def tK_23 : tc_Ct := (31, (0, 1), [(2, ([], 0), 0), (1, ([], 0), 0)], ([], [(0, 167)], [], [], [], [], []), [(167, 0), (167, 1), (167, 2), (167, 3), (167, 4), (167, 5)], [((5, 1), ([([(0, -1)], 2147483647), ([(0, 1)], 2147483648), ([(1, -1)], 2147483647), ([(1, 1)], 2147483648), ([(2, -1)], 2147483647), ([(2, 1)], 2147483648), ([(3, -1)], 2147483647), ([(3, 1)], 2147483648), ([(4, -1)], 2147483647), ([(4, 1)], 2147483648)], [], [], [(0, 0, (0, ([(1, 1)], 0), 0)), (0, 1, (0, ([(2, 1)], 0), 0)), (0, 2, (0, ([(3, 1)], 0), 0)), (0, 3, (0, ([(4, 1)], 0), 0)), (0, 4, (1, ([], 0), 0)), (0, 5, (0, ([(0, 1)], 0), 0))], [], [], []), none, ([], 0), ([], 0))])
noncomputable def tJ_23 : List tc_Pl := []
noncomputable def tC_23 : List tc_Ct := [tK_11]
def tM_23 (z : Nat) : Option am_Meth := if z = 20 then some aM_20.1 else none
set_option maxRecDepth 100000 in
theorem tMs_23 (sa : Nat → Nat) : ∀ z mz, tM_23 z = some mz → am_meth (aP sa) z = some mz := by
  intro z mz h
  unfold tM_23 at h
  rcases de_m h with ⟨rfl, rfl⟩ | h
  · exact (show am_meth (aP sa) 20 = some aM_20.1 from rfl)
  cases h
noncomputable def tV_23 : tc_Ev := (aQ, tp_T, tp_G.2, tp_Z, tM_23, tC_23, tp_L, tK_23.2.2.2.2.1, aM_31.1, aW_31, tK_23.2.1, tK_23.2.2.2.2.2, tJ_23)
theorem tE_23 : tK_23.2.2.2.2.2.all (tc_wex tK_23.2.1.1 tK_23.2.1.2) = true := by decide +kernel
theorem tSS_23 : tC_23.all (fun c => tw_mg tK_23.2.2.2.2.1 c.2.2.2.2.1) = true := by decide +kernel
theorem tHC_23 : ∀ c ∈ tC_23, c.2.2.2.2.1.all tK_23.2.2.2.2.1.contains = true ∧ c.2.2.2.2.2.all (tc_wex c.2.1.1 c.2.1.2) = true := tf_hc tSS_23 (by
  intro c hc
  have hc : c ∈ ([tK_11] : List tc_Ct) := hc
  rcases List.mem_cons.mp hc with rfl | hc
  · exact tE_11
  cases hc)
noncomputable def tH_23_0 : List tc_It := [de_it 0x4010000, de_it 0x2, de_it 0x4010000, de_it 0x8030101080201010200000001, de_it 0x6010000, de_it 0x8020101000000000300000001, de_it 0x104010801010201010100000e, de_it 0x2010000, de_it 0x2, de_it 0x4010000, de_it 0x8050101080301010200000001, de_it 0xa010000, de_it 0x108000000020006, de_it 0x4010000, de_it 0x400000003, de_it 0x4010000, de_it 0x2, de_it 0x2010000, de_it 0x101, de_it 0x10f0101010e0101000000000400000003, de_it 0x1070101010601010109010101080101010b0101010a0101010d0101010c0101010e0101010f0101000000000000000000000000000100011200020201000203010002040100020501000206010500010007, de_it 0x4010000, de_it 0x108000000020006, de_it 0x4010000, de_it 0x400000003, de_it 0x4010000, de_it 0x2, de_it 0x2010000, de_it 0x101, de_it 0x10f0101010e0101000000000400000003, de_it 0x1070101010601010109010101080101010b0101010a0101010d0101010c0101010e0101010f0101000000000000000000000000000100011200020201000203010002040100020501000206010500010007]
set_option maxRecDepth 100000 in
theorem tR_23 : fw_go tV_23 tK_23.2.1.1 tK_23.2.1.2 none tH_23_0 [(tK_23.2.1, tK_23.2.2.2.1, 0, tc_args 0 tK_23.2.2.1, [], ([], 0), ([], 0))] = true := by decide +kernel
set_option maxRecDepth 100000 in
theorem tT_23 {RO : am_O} {sa : Nat → Nat} (h_11 : tc_true (aP sa) tp_G RO tp_T tp_Z tK_11) : tc_true (aP sa) tp_G RO tp_T tp_Z tK_23 := by
  have hC : ∀ c ∈ tC_23, tc_true (aP sa) tp_G RO tp_T tp_Z c := by
    intro c hc
    have hc : c ∈ ([tK_11] : List tc_Ct) := hc
    rcases List.mem_cons.mp hc with rfl | hc
    · exact h_11
    cases hc
  have hP : ∀ p ∈ tJ_23, ∃ hs, tc_plk (aP sa, tV_23.2) p hs = true := by
    intro p hp
    have hp : p ∈ ([] : List tc_Pl) := hp
    cases hp
  exact tc_main (mt := aM_31.1) (hs := tH_23_0) (PL := tJ_23) ⟨tp_G_ok, tMs_23 _, hC, tp_L_ok, tp_G_re⟩ (show am_meth (aP sa) 31 = some aM_31.1 from rfl) aX_31 (by decide +kernel) hP ((tc_go_sa (aP_sa sa _)).trans ((fw_go_s tHC_23).trans tR_23))
noncomputable def tK_24 : tc_Ct := (29, (2, 1), [(2, ([], 0), 0), (0, ([(0, 1)], 0), 0), (1, ([], 0), 0), (0, ([(1, 1)], 0), 0), (1, ([], 0), 0)], ([([(0, -1)], 1), ([(0, 1)], 0), ([(1, -1)], 255), ([(1, 1)], 0)], [(0, 167)], [], [], [], [], []), [(167, 0), (167, 1), (167, 2), (167, 3), (167, 4), (167, 5)], [((6, 1), ([([(0, -1)], 1), ([(0, 1)], 0), ([(1, -1)], 255), ([(1, 1)], 0), ([(2, -1)], 2147483647), ([(2, 1)], 2147483648), ([(3, -1)], 2147483647), ([(3, 1)], 2147483648), ([(4, -1)], 2147483647), ([(4, 1)], 2147483648), ([(5, -1)], 2147483647), ([(5, 1)], 2147483648)], [], [], [(0, 0, (0, ([(2, 1)], 0), 0)), (0, 1, (0, ([(3, 1)], 0), 0)), (0, 2, (0, ([(4, 1)], 0), 0)), (0, 3, (0, ([(5, 1)], 0), 0)), (0, 4, (1, ([], 0), 0)), (0, 5, (0, ([], 0), 0))], [], [], []), some (1, ([], 0), 0), ([], 0), ([], 0))])
noncomputable def tJ_24 : List tc_Pl := []
noncomputable def tC_24 : List tc_Ct := [tK_18, tK_22, tK_23, tK_14, tK_19]
def tM_24 (z : Nat) : Option am_Meth := if z = 31 then some aM_31.1 else if z = 30 then some aM_30.1 else if z = 27 then some aM_27.1 else if z = 26 then some aM_26.1 else if z = 21 then some aM_21.1 else none
set_option maxRecDepth 100000 in
theorem tMs_24 (sa : Nat → Nat) : ∀ z mz, tM_24 z = some mz → am_meth (aP sa) z = some mz := by
  intro z mz h
  unfold tM_24 at h
  rcases de_m h with ⟨rfl, rfl⟩ | h
  · exact (show am_meth (aP sa) 31 = some aM_31.1 from rfl)
  rcases de_m h with ⟨rfl, rfl⟩ | h
  · exact (show am_meth (aP sa) 30 = some aM_30.1 from rfl)
  rcases de_m h with ⟨rfl, rfl⟩ | h
  · exact (show am_meth (aP sa) 27 = some aM_27.1 from rfl)
  rcases de_m h with ⟨rfl, rfl⟩ | h
  · exact (show am_meth (aP sa) 26 = some aM_26.1 from rfl)
  rcases de_m h with ⟨rfl, rfl⟩ | h
  · exact (show am_meth (aP sa) 21 = some aM_21.1 from rfl)
  cases h
noncomputable def tV_24 : tc_Ev := (aQ, tp_T, tp_G.2, tp_Z, tM_24, tC_24, tp_L, tK_24.2.2.2.2.1, aM_29.1, aW_29, tK_24.2.1, tK_24.2.2.2.2.2, tJ_24)
theorem tE_24 : tK_24.2.2.2.2.2.all (tc_wex tK_24.2.1.1 tK_24.2.1.2) = true := by decide +kernel
theorem tSS_24 : tC_24.all (fun c => tw_mg tK_24.2.2.2.2.1 c.2.2.2.2.1) = true := by decide +kernel
theorem tHC_24 : ∀ c ∈ tC_24, c.2.2.2.2.1.all tK_24.2.2.2.2.1.contains = true ∧ c.2.2.2.2.2.all (tc_wex c.2.1.1 c.2.1.2) = true := tf_hc tSS_24 (by
  intro c hc
  have hc : c ∈ ([tK_18, tK_22, tK_23, tK_14, tK_19] : List tc_Ct) := hc
  rcases List.mem_cons.mp hc with rfl | hc
  · exact tE_18
  rcases List.mem_cons.mp hc with rfl | hc
  · exact tE_22
  rcases List.mem_cons.mp hc with rfl | hc
  · exact tE_23
  rcases List.mem_cons.mp hc with rfl | hc
  · exact tE_14
  rcases List.mem_cons.mp hc with rfl | hc
  · exact tE_19
  cases hc)
noncomputable def tH_24_0 : List tc_It := [de_it 0x6010000, de_it 0x101010101000101000000000000000000000000000000020a00020001010000020006, de_it 0x4010000, de_it 0x103010101020101000000000000000000000000000000010a00020101010002020006, de_it 0x4010000, de_it 0x108000004020006, de_it 0x8010000, de_it 0x8000006020006, de_it 0x101010101000101000000000000000000000000000000030a00020001010008020006, de_it 0x5a58565452504e4c060402000c000d, de_it 0x10b0101010a0101010901010108010101070101010601010105010101040101010301010102010101010101010001010000000000000000000000000001000114000213010002120100021101000210010400010007]
set_option maxRecDepth 100000 in
theorem tR_24 : fw_go tV_24 tK_24.2.1.1 tK_24.2.1.2 none tH_24_0 [(tK_24.2.1, tK_24.2.2.2.1, 0, tc_args 0 tK_24.2.2.1, [], ([], 0), ([], 0))] = true := by decide +kernel
set_option maxRecDepth 100000 in
theorem tT_24 {RO : am_O} {sa : Nat → Nat} (h_14 : tc_true (aP sa) tp_G RO tp_T tp_Z tK_14) (h_18 : tc_true (aP sa) tp_G RO tp_T tp_Z tK_18) (h_19 : tc_true (aP sa) tp_G RO tp_T tp_Z tK_19) (h_22 : tc_true (aP sa) tp_G RO tp_T tp_Z tK_22) (h_23 : tc_true (aP sa) tp_G RO tp_T tp_Z tK_23) : tc_true (aP sa) tp_G RO tp_T tp_Z tK_24 := by
  have hC : ∀ c ∈ tC_24, tc_true (aP sa) tp_G RO tp_T tp_Z c := by
    intro c hc
    have hc : c ∈ ([tK_18, tK_22, tK_23, tK_14, tK_19] : List tc_Ct) := hc
    rcases List.mem_cons.mp hc with rfl | hc
    · exact h_18
    rcases List.mem_cons.mp hc with rfl | hc
    · exact h_22
    rcases List.mem_cons.mp hc with rfl | hc
    · exact h_23
    rcases List.mem_cons.mp hc with rfl | hc
    · exact h_14
    rcases List.mem_cons.mp hc with rfl | hc
    · exact h_19
    cases hc
  have hP : ∀ p ∈ tJ_24, ∃ hs, tc_plk (aP sa, tV_24.2) p hs = true := by
    intro p hp
    have hp : p ∈ ([] : List tc_Pl) := hp
    cases hp
  exact tc_main (mt := aM_29.1) (hs := tH_24_0) (PL := tJ_24) ⟨tp_G_ok, tMs_24 _, hC, tp_L_ok, tp_G_re⟩ (show am_meth (aP sa) 29 = some aM_29.1 from rfl) aX_29 (by decide +kernel) hP ((tc_go_sa (aP_sa sa _)).trans ((fw_go_s tHC_24).trans tR_24))
noncomputable def tK_25 : tc_Ct := (28, (2, 2), [(2, ([], 0), 0), (0, ([(0, 1)], 0), 0), (1, ([], 0), 0), (0, ([(1, 1)], 0), 0), (1, ([], 0), 0)], ([([(0, -1)], 2147483647), ([(0, 1)], 2147483648), ([(1, -1)], 2147483647), ([(1, 1)], 2147483648)], [(0, 165), (1, 166)], [], [(0, 0, (2, ([], 0), 1))], [], [], [(568, [1], [])]), [(167, 0), (167, 1), (167, 2), (167, 3), (167, 4), (167, 5)], [((2, 2), ([([(0, -1)], 2147483647), ([(0, 1)], 2147483648), ([(1, -1)], 2147483647), ([(1, 1)], 2147483648)], [], [], [], [], [], []), some (1, ([], 0), 0), ([], 0), ([], 0))])
noncomputable def tJ_25 : List tc_Pl := []
noncomputable def tC_25 : List tc_Ct := [tK_9, tK_24]
def tM_25 (z : Nat) : Option am_Meth := if z = 29 then some aM_29.1 else if z = 16 then some aM_16.1 else none
set_option maxRecDepth 100000 in
theorem tMs_25 (sa : Nat → Nat) : ∀ z mz, tM_25 z = some mz → am_meth (aP sa) z = some mz := by
  intro z mz h
  unfold tM_25 at h
  rcases de_m h with ⟨rfl, rfl⟩ | h
  · exact (show am_meth (aP sa) 29 = some aM_29.1 from rfl)
  rcases de_m h with ⟨rfl, rfl⟩ | h
  · exact (show am_meth (aP sa) 16 = some aM_16.1 from rfl)
  cases h
noncomputable def tV_25 : tc_Ev := (aQ, tp_T, tp_G.2, tp_Z, tM_25, tC_25, tp_L, tK_25.2.2.2.2.1, aM_28.1, aW_28, tK_25.2.1, tK_25.2.2.2.2.2, tJ_25)
theorem tE_25 : tK_25.2.2.2.2.2.all (tc_wex tK_25.2.1.1 tK_25.2.1.2) = true := by decide +kernel
theorem tSS_25 : tC_25.all (fun c => tw_mg tK_25.2.2.2.2.1 c.2.2.2.2.1) = true := by decide +kernel
theorem tHC_25 : ∀ c ∈ tC_25, c.2.2.2.2.1.all tK_25.2.2.2.2.1.contains = true ∧ c.2.2.2.2.2.all (tc_wex c.2.1.1 c.2.1.2) = true := tf_hc tSS_25 (by
  intro c hc
  have hc : c ∈ ([tK_9, tK_24] : List tc_Ct) := hc
  rcases List.mem_cons.mp hc with rfl | hc
  · exact tE_9
  rcases List.mem_cons.mp hc with rfl | hc
  · exact tE_24
  cases hc)
noncomputable def tH_25_0 : List tc_It := [de_it 0x2010000, de_it 0x101010101000101000000000000000000000000000000000a000200010100010006, de_it 0x10106010100000300000001, de_it 0x2010000, de_it 0x1030101010201010101010101000101000000000000000000000000000100010c0000010007, de_it 0x10000010701010300000001, de_it 0x2010000, de_it 0x300000001, de_it 0x2010000, de_it 0x1030101010701010105010101040101000000000000000000000000000100010c0000010007, de_it 0x4010000, de_it 0x300000001, de_it 0x2010000, de_it 0x2, de_it 0x2, de_it 0x8010000, de_it 0x1070101010801010105010101040101000000000000000000000000000000040c0002010100020001020402020006, de_it 0x1070101010801010105010101040101000000000000000000000000000100010c0000010007, de_it 0x2010000, de_it 0x1080101010201010105010101040101000000000000000000000000000100010c0000010007]
set_option maxRecDepth 100000 in
theorem tR_25 : fw_go tV_25 tK_25.2.1.1 tK_25.2.1.2 none tH_25_0 [(tK_25.2.1, tK_25.2.2.2.1, 0, tc_args 0 tK_25.2.2.1, [], ([], 0), ([], 0))] = true := by decide +kernel
set_option maxRecDepth 100000 in
theorem tT_25 {RO : am_O} {sa : Nat → Nat} (h_9 : tc_true (aP sa) tp_G RO tp_T tp_Z tK_9) (h_24 : tc_true (aP sa) tp_G RO tp_T tp_Z tK_24) : tc_true (aP sa) tp_G RO tp_T tp_Z tK_25 := by
  have hC : ∀ c ∈ tC_25, tc_true (aP sa) tp_G RO tp_T tp_Z c := by
    intro c hc
    have hc : c ∈ ([tK_9, tK_24] : List tc_Ct) := hc
    rcases List.mem_cons.mp hc with rfl | hc
    · exact h_9
    rcases List.mem_cons.mp hc with rfl | hc
    · exact h_24
    cases hc
  have hP : ∀ p ∈ tJ_25, ∃ hs, tc_plk (aP sa, tV_25.2) p hs = true := by
    intro p hp
    have hp : p ∈ ([] : List tc_Pl) := hp
    cases hp
  exact tc_main (mt := aM_28.1) (hs := tH_25_0) (PL := tJ_25) ⟨tp_G_ok, tMs_25 _, hC, tp_L_ok, tp_G_re⟩ (show am_meth (aP sa) 28 = some aM_28.1 from rfl) aX_28 (by decide +kernel) hP ((tc_go_sa (aP_sa sa _)).trans ((fw_go_s tHC_25).trans tR_25))
noncomputable def tK_26 : tc_Ct := (13, (5, 3), [(2, ([], 0), 0), (2, ([], 0), 1), (0, ([(0, 1)], 0), 0), (0, ([(1, 1)], 0), 0)], ([([(0, -1)], 800), ([(0, 1)], 0), ([(1, -1)], 800), ([(1, 1)], 0), ([(2, -1)], 93912), ([(2, 1)], -8), ([(3, -1)], 2000), ([(3, 1)], -8), ([(4, -1)], 8000000), ([(4, 1)], 0), ([(0, -1), (1, 1)], 0), ([(0, -1), (2, -1)], 93912), ([(0, -1), (2, 1)], 0), ([(1, -1), (2, 1)], 0)], [(0, 178), (1, 193), (2, 193)], [(1, ([(2, 1)], 0)), (2, ([(3, 1)], 0))], [(0, 0, (2, ([], 0), 2)), (0, 1, (0, ([], 0), 0))], [], [], [(1016, [], []), (1088, [], []), (1136, [], [([(4, 1)], 0)])]), [(178, 0), (178, 1), (193, 0), (193, 1000)], [((9, 3), ([([(0, -1)], 800), ([(0, 1)], 0), ([(1, -1)], 800), ([(1, 1)], 0), ([(2, -1)], 93912), ([(2, 1)], -8), ([(3, -1)], 2000), ([(3, 1)], -8), ([(4, -1)], 8000000), ([(4, 1)], 0), ([(5, -1)], 800), ([(5, 1)], 0), ([(6, -1)], 1), ([(6, 1)], 0), ([(7, -1)], 1598), ([(7, 1)], 0), ([(8, -1)], 8000000), ([(8, 1)], 1598), ([(0, -1), (1, 1)], 0), ([(0, -1), (2, -1)], 93912), ([(0, -1), (2, 1)], 0), ([(0, -1), (5, -1)], 800), ([(1, -1), (2, 1)], 0), ([(1, 1), (5, -1)], 0), ([(6, -16), (7, 1)], 0), ([(0, -1), (1, 1), (5, -1)], 0), ([(0, 1), (1, -1), (5, 1)], 0), ([(4, 1), (7, -1), (8, -1)], 0)], [], [(1, ([(2, 1)], 0)), (2, ([(3, 1)], 0))], [(0, 1, (0, ([(5, 1)], 0), 0))], [], [], [(1136, [], [([(8, 1)], 0)])]), none, ([(6, 1)], 0), ([(7, 1)], 0))])
noncomputable def tJ_26 : List tc_Pl := []
noncomputable def tC_26 : List tc_Ct := [tK_0]
def tM_26 (z : Nat) : Option am_Meth := if z = 8 then some aM_8.1 else none
set_option maxRecDepth 100000 in
theorem tMs_26 (sa : Nat → Nat) : ∀ z mz, tM_26 z = some mz → am_meth (aP sa) z = some mz := by
  intro z mz h
  unfold tM_26 at h
  rcases de_m h with ⟨rfl, rfl⟩ | h
  · exact (show am_meth (aP sa) 8 = some aM_8.1 from rfl)
  cases h
noncomputable def tV_26 : tc_Ev := (aQ, tp_T, tp_G.2, tp_Z, tM_26, tC_26, tp_L, tK_26.2.2.2.2.1, aM_13.1, aW_13, tK_26.2.1, tK_26.2.2.2.2.2, tJ_26)
theorem tE_26 : tK_26.2.2.2.2.2.all (tc_wex tK_26.2.1.1 tK_26.2.1.2) = true := by decide +kernel
theorem tSS_26 : tC_26.all (fun c => tw_mg tK_26.2.2.2.2.1 c.2.2.2.2.1) = true := by decide +kernel
theorem tHC_26 : ∀ c ∈ tC_26, c.2.2.2.2.1.all tK_26.2.2.2.2.1.contains = true ∧ c.2.2.2.2.2.all (tc_wex c.2.1.1 c.2.1.2) = true := tf_hc tSS_26 (by
  intro c hc
  have hc : c ∈ ([tK_0] : List tc_Ct) := hc
  rcases List.mem_cons.mp hc with rfl | hc
  · exact tE_0
  cases hc)
noncomputable def tH_26_0 : List tc_It := [de_it 0x2010000, de_it 0x10e010102010300000001, de_it 0x4010000, de_it 0x2, de_it 0x10f010d02010300000001, de_it 0x4010000, de_it 0x300000001, de_it 0x101100101010a0101000101030101010d010101000101010c0101010b0101010a01010109010101080101000100010001000100010001010901010108010101070101010601010105010101040101010301010102010101010101010001010000000000000000000000000001000124000204010000000000000400010007, de_it 0x2010000, de_it 0x2, de_it 0x4010000, de_it 0x10201010201011001010200000001, de_it 0x10201010201011001010200000001, de_it 0x2010000, de_it 0x11101020101030100000300000001, de_it 0x2010000, de_it 0x2, de_it 0x2010000, de_it 0x10201010101011002010200000001, de_it 0x2010000, de_it 0x10101020201011001010200000001, de_it 0x2010000, de_it 0x2, de_it 0x2, de_it 0x300000001, de_it 0x6010000, de_it 0x2, de_it 0x2010000, de_it 0x2, de_it 0x4010000, de_it 0x10101020201011001010200000001, de_it 0x1120101010d0101010101010001011001010500000005, de_it 0x4010000, de_it 0x2, de_it 0x4010000, de_it 0x10101020201011001010200000001, de_it 0x10101020201011001010200000001, de_it 0x1070101010601010112010101010102020101100101000000000700000003, de_it 0x100010001000101010101010d010101020101010d01100201010b01010110010101090101010801010001000100010001011001010101010202010109010101080101010701010106010101050101010401010110010102010102010101010101011001020201000000000000000000000000000100012400020401000000000002010100020400010007, de_it 0x4010000, de_it 0x2, de_it 0x4010000, de_it 0x2, de_it 0x2, de_it 0x212020102020301020701010200000001, de_it 0x2010000, de_it 0x2, de_it 0x2010000, de_it 0x102010101070101011203010200000001, de_it 0x2010000, de_it 0x101010202010107011202010200000001, de_it 0x200000005, de_it 0x113010702010101010701020301010701010113010101020302020701130201010101020201000000000000000000000000000000000e00020301000201010002020400020006, de_it 0x8000201010002000203010002040103060400cc040009, de_it 0x2070113020101010102020102070113020100000000000000000700000003, de_it 0x6010000, de_it 0x2, de_it 0x2010000, de_it 0x2, de_it 0x4010000, de_it 0x101010202010207011302010200000001, de_it 0x1010d01010101010100010207011302010500000005, de_it 0x4010000, de_it 0x2, de_it 0x4010000, de_it 0x101010202010207011302010200000001, de_it 0x101010202010207011302010200000001, de_it 0x207011302010101010202010001010101020201020701130201000000000700000003, de_it 0x1130101000000000000000000000000000000000900020401010200030002040403030104000402ca010009, de_it 0x10001000102070113020101010101010d010101020101010d020701130301010b010102070113020101010109010203010207010801130301020701130201010101020201000100010207011302010101010202010109010101080101010701010113010101020302010d0207010101130401010401010113020701010301010201010101010101020207011303010000000000000000000000000001000124000204010102000300020101000202000002010100020400010007, de_it 0x10701010112010101020301010701010112010101020301020701010212020102020301000000000000000000000000000000000e0002030100040301020400020006, de_it 0x800040301000203010002040103060400cc040009, de_it 0x115010102120201020203010115010100000000000000000700000003, de_it 0x6010000, de_it 0x2, de_it 0x2010000, de_it 0x2, de_it 0x4010000, de_it 0x101010202010115021202020200000001, de_it 0x1130101010d01010101010100010115021202020500000005, de_it 0x4010000, de_it 0x2, de_it 0x4010000, de_it 0x101010202010115021202020200000001, de_it 0x101010202010115021202020200000001, de_it 0x1150101021202010202030101130101010101020201011502120202000000000700000003, de_it 0x1000100010115010101010101010d0101010201010115020d02120302010b01010115021202020212020101090202040101080115020101150101021202010202030100010001011502120202010101020201010901010108010101150102011201010102030101150201020d021204020104010101150201021203020102010101010101011502120202030200000000000000000000000000010001240002040303020004030102000002010100020400010007]
set_option maxRecDepth 100000 in
theorem tR_26 : fw_go tV_26 tK_26.2.1.1 tK_26.2.1.2 none tH_26_0 [(tK_26.2.1, tK_26.2.2.2.1, 0, tc_args 0 tK_26.2.2.1, [], ([], 0), ([], 0))] = true := by decide +kernel
set_option maxRecDepth 100000 in
theorem tT_26 {RO : am_O} {sa : Nat → Nat} (h_0 : tc_true (aP sa) tp_G RO tp_T tp_Z tK_0) : tc_true (aP sa) tp_G RO tp_T tp_Z tK_26 := by
  have hC : ∀ c ∈ tC_26, tc_true (aP sa) tp_G RO tp_T tp_Z c := by
    intro c hc
    have hc : c ∈ ([tK_0] : List tc_Ct) := hc
    rcases List.mem_cons.mp hc with rfl | hc
    · exact h_0
    cases hc
  have hP : ∀ p ∈ tJ_26, ∃ hs, tc_plk (aP sa, tV_26.2) p hs = true := by
    intro p hp
    have hp : p ∈ ([] : List tc_Pl) := hp
    cases hp
  exact tc_main (mt := aM_13.1) (hs := tH_26_0) (PL := tJ_26) ⟨tp_G_ok, tMs_26 _, hC, tp_L_ok, tp_G_re⟩ (show am_meth (aP sa) 13 = some aM_13.1 from rfl) aX_13 (by decide +kernel) hP ((tc_go_sa (aP_sa sa _)).trans ((fw_go_s tHC_26).trans tR_26))
noncomputable def tK_27 : tc_Ct := (23, (2, 2), [(2, ([], 0), 0)], ([([(0, -1)], 1000), ([(0, 1)], 0), ([(1, -1)], 2000), ([(1, 1)], -8), ([(0, -1), (1, 1)], 0)], [(0, 178), (1, 193)], [(1, ([(1, 1)], 0))], [(0, 0, (2, ([], 0), 1)), (0, 1, (0, ([(0, 1)], 0), 0))], [], [], [(1016, [], []), (1088, [], [])]), [(178, 1)], [((2, 2), ([([(0, -1)], 1000), ([(0, 1)], 0), ([(1, -1)], 2000), ([(1, 1)], -8), ([(0, -1), (1, 1)], 0)], [], [(1, ([(1, 1)], 0))], [(0, 1, (0, ([], 0), 0))], [], [], []), none, ([], 0), ([], 0))])
noncomputable def tJ_27 : List tc_Pl := []
noncomputable def tC_27 : List tc_Ct := []
def tM_27 (z : Nat) : Option am_Meth := none
set_option maxRecDepth 100000 in
theorem tMs_27 (sa : Nat → Nat) : ∀ z mz, tM_27 z = some mz → am_meth (aP sa) z = some mz := fun z mz h => by cases h
noncomputable def tV_27 : tc_Ev := (aQ, tp_T, tp_G.2, tp_Z, tM_27, tC_27, tp_L, tK_27.2.2.2.2.1, aM_23.1, aW_23, tK_27.2.1, tK_27.2.2.2.2.2, tJ_27)
theorem tE_27 : tK_27.2.2.2.2.2.all (tc_wex tK_27.2.1.1 tK_27.2.1.2) = true := by decide +kernel
theorem tSS_27 : tC_27.all (fun c => tw_mg tK_27.2.2.2.2.1 c.2.2.2.2.1) = true := by decide +kernel
theorem tHC_27 : ∀ c ∈ tC_27, c.2.2.2.2.1.all tK_27.2.2.2.2.1.contains = true ∧ c.2.2.2.2.2.all (tc_wex c.2.1.1 c.2.1.2) = true := tf_hc tSS_27 (by
  intro c hc
  have hc : c ∈ ([] : List tc_Ct) := hc
  cases hc)
noncomputable def tH_27_0 : List tc_It := [de_it 0x4010000, de_it 0x1030101010201010103010100010001000000000700000003, de_it 0x104010101030101010201010101010101000101000000000000000000000000000100010d0000010007]
set_option maxRecDepth 100000 in
theorem tR_27 : fw_go tV_27 tK_27.2.1.1 tK_27.2.1.2 none tH_27_0 [(tK_27.2.1, tK_27.2.2.2.1, 0, tc_args 0 tK_27.2.2.1, [], ([], 0), ([], 0))] = true := by decide +kernel
set_option maxRecDepth 100000 in
theorem tT_27 {RO : am_O} {sa : Nat → Nat} : tc_true (aP sa) tp_G RO tp_T tp_Z tK_27 := by
  have hC : ∀ c ∈ tC_27, tc_true (aP sa) tp_G RO tp_T tp_Z c := by
    intro c hc
    have hc : c ∈ ([] : List tc_Ct) := hc
    cases hc
  have hP : ∀ p ∈ tJ_27, ∃ hs, tc_plk (aP sa, tV_27.2) p hs = true := by
    intro p hp
    have hp : p ∈ ([] : List tc_Pl) := hp
    cases hp
  exact tc_main (mt := aM_23.1) (hs := tH_27_0) (PL := tJ_27) ⟨tp_G_ok, tMs_27 _, hC, tp_L_ok, tp_G_re⟩ (show am_meth (aP sa) 23 = some aM_23.1 from rfl) aX_23 (by decide +kernel) hP ((tc_go_sa (aP_sa sa _)).trans ((fw_go_s tHC_27).trans tR_27))
noncomputable def tK_28 : tc_Ct := (33, (1, 0), [(0, ([(0, 1)], 0), 0)], ([([(0, -1)], 2147483647), ([(0, 1)], 2147483648)], [], [], [], [], [], []), [], [((2, 0), ([([(0, -1)], 2147483647), ([(0, 1)], 2147483648), ([(1, -1)], 1), ([(1, 1)], 0)], [], [], [], [], [], []), some (0, ([(1, 1)], 0), 0), ([], 0), ([], 0))])
noncomputable def tJ_28 : List tc_Pl := []
noncomputable def tC_28 : List tc_Ct := []
def tM_28 (z : Nat) : Option am_Meth := none
set_option maxRecDepth 100000 in
theorem tMs_28 (sa : Nat → Nat) : ∀ z mz, tM_28 z = some mz → am_meth (aP sa) z = some mz := fun z mz h => by cases h
noncomputable def tV_28 : tc_Ev := (aQ, tp_T, tp_G.2, tp_Z, tM_28, tC_28, tp_L, tK_28.2.2.2.2.1, aM_33.1, aW_33, tK_28.2.1, tK_28.2.2.2.2.2, tJ_28)
theorem tE_28 : tK_28.2.2.2.2.2.all (tc_wex tK_28.2.1.1 tK_28.2.1.2) = true := by decide +kernel
theorem tSS_28 : tC_28.all (fun c => tw_mg tK_28.2.2.2.2.1 c.2.2.2.2.1) = true := by decide +kernel
theorem tHC_28 : ∀ c ∈ tC_28, c.2.2.2.2.1.all tK_28.2.2.2.2.1.contains = true ∧ c.2.2.2.2.2.all (tc_wex c.2.1.1 c.2.1.2) = true := tf_hc tSS_28 (by
  intro c hc
  have hc : c ∈ ([] : List tc_Ct) := hc
  cases hc)
noncomputable def tH_28_0 : List tc_It := [de_it 0x4010000, de_it 0x300000001, de_it 0x2010000, de_it 0x100010101010101000101000000000000000000000000000100010c00000100010007, de_it 0x4010000, de_it 0x100010102010101030101000000000000000000000000000100010c02000100010007]
set_option maxRecDepth 100000 in
theorem tR_28 : fw_go tV_28 tK_28.2.1.1 tK_28.2.1.2 none tH_28_0 [(tK_28.2.1, tK_28.2.2.2.1, 0, tc_args 0 tK_28.2.2.1, [], ([], 0), ([], 0))] = true := by decide +kernel
set_option maxRecDepth 100000 in
theorem tT_28 {RO : am_O} {sa : Nat → Nat} : tc_true (aP sa) tp_G RO tp_T tp_Z tK_28 := by
  have hC : ∀ c ∈ tC_28, tc_true (aP sa) tp_G RO tp_T tp_Z c := by
    intro c hc
    have hc : c ∈ ([] : List tc_Ct) := hc
    cases hc
  have hP : ∀ p ∈ tJ_28, ∃ hs, tc_plk (aP sa, tV_28.2) p hs = true := by
    intro p hp
    have hp : p ∈ ([] : List tc_Pl) := hp
    cases hp
  exact tc_main (mt := aM_33.1) (hs := tH_28_0) (PL := tJ_28) ⟨tp_G_ok, tMs_28 _, hC, tp_L_ok, tp_G_re⟩ (show am_meth (aP sa) 33 = some aM_33.1 from rfl) aX_33 (by decide +kernel) hP ((tc_go_sa (aP_sa sa _)).trans ((fw_go_s tHC_28).trans tR_28))
noncomputable def tK_29 : tc_Ct := (34, (3, 2), [(2, ([], 0), 0), (1, ([], 0), 0), (1, ([], 0), 0), (2, ([], 0), 1), (0, ([(0, 1)], 0), 0), (0, ([(1, 1)], 0), 0)], ([([(0, -1)], 800), ([(0, 1)], 0), ([(1, -1)], 800), ([(1, 1)], 0), ([(2, 1)], -64), ([(0, -1), (1, 1)], 0), ([(0, -1), (2, -1)], 8195), ([(0, -1), (2, 1)], 0), ([(0, 1), (2, -1)], 8189), ([(1, -1), (2, -1)], 8396), ([(1, -1), (2, 1)], 0), ([(1, 1), (2, -1)], 8188), ([(0, 1), (1, -1), (2, -1)], 8393)], [(0, 167), (1, 193)], [(1, ([(2, 1)], 0))], [], [], [], [(1016, [], []), (1088, [], [])]), [(167, 0), (167, 1), (167, 2), (167, 3), (167, 4), (193, 0)], [((3, 2), ([([(0, -1)], 800), ([(0, 1)], 0), ([(1, -1)], 800), ([(1, 1)], 0), ([(2, -1)], 8192), ([(2, 1)], -64), ([(0, -1), (1, 1)], 0), ([(0, -1), (2, -1)], 8195), ([(0, -1), (2, 1)], 0), ([(0, 1), (2, -1)], 8189), ([(1, -1), (2, -1)], 8396), ([(1, -1), (2, 1)], 0), ([(1, 1), (2, -1)], 8188), ([(0, 1), (1, -1), (2, -1)], 8393)], [], [(1, ([(2, 1)], 0))], [], [], [], []), none, ([], 0), ([], 0))])
noncomputable def tL_29_0 : tc_Pl := de_pl 0x30d1cff000001030201020000000000030d1cff000300000000000000020301000800000201010007000002000100060100000205000000010300000001010000000200071200000000000000000440ff000000000000000003f8ff02000000000202010101c101a70002000203010002000203010000000000004192ff010201010200030000000000003ff8ff01020201020002020101020000000000004198ff01020101020000000000003ffaff01020200020002020100020000000000004006ff01020100020002010100027f020201000201010000000000000640ff010101000200010000000000000640ff0100010f0204
noncomputable def tJ_29 : List tc_Pl := [tL_29_0]
noncomputable def tC_29 : List tc_Ct := [tK_11, tK_13]
def tM_29 (z : Nat) : Option am_Meth := if z = 22 then some aM_22.1 else if z = 20 then some aM_20.1 else none
set_option maxRecDepth 100000 in
theorem tMs_29 (sa : Nat → Nat) : ∀ z mz, tM_29 z = some mz → am_meth (aP sa) z = some mz := by
  intro z mz h
  unfold tM_29 at h
  rcases de_m h with ⟨rfl, rfl⟩ | h
  · exact (show am_meth (aP sa) 22 = some aM_22.1 from rfl)
  rcases de_m h with ⟨rfl, rfl⟩ | h
  · exact (show am_meth (aP sa) 20 = some aM_20.1 from rfl)
  cases h
noncomputable def tV_29 : tc_Ev := (aQ, tp_T, tp_G.2, tp_Z, tM_29, tC_29, tp_L, tK_29.2.2.2.2.1, aM_34.1, aW_34, tK_29.2.1, tK_29.2.2.2.2.2, tJ_29)
theorem tE_29 : tK_29.2.2.2.2.2.all (tc_wex tK_29.2.1.1 tK_29.2.1.2) = true := by decide +kernel
theorem tSS_29 : tC_29.all (fun c => tw_mg tK_29.2.2.2.2.1 c.2.2.2.2.1) = true := by decide +kernel
theorem tHC_29 : ∀ c ∈ tC_29, c.2.2.2.2.1.all tK_29.2.2.2.2.1.contains = true ∧ c.2.2.2.2.2.all (tc_wex c.2.1.1 c.2.1.2) = true := tf_hc tSS_29 (by
  intro c hc
  have hc : c ∈ ([tK_11, tK_13] : List tc_Ct) := hc
  rcases List.mem_cons.mp hc with rfl | hc
  · exact tE_11
  rcases List.mem_cons.mp hc with rfl | hc
  · exact tE_13
  cases hc)
noncomputable def tH_29_0 : List tc_It := [de_it 0x2010000, de_it 0x10d010102010300000001, de_it 0x4010000, de_it 0x2, de_it 0x10e010a020100000300000001, de_it 0x4010000, de_it 0x101010101010c0101010b0101010a0101010901010108010101070101010601010105010101040101010301010102010101010101010001010000000000000000000000000001000117000200010100010008]
set_option maxRecDepth 100000 in
theorem tR_29 : fw_go tV_29 tK_29.2.1.1 tK_29.2.1.2 none tH_29_0 [(tK_29.2.1, tK_29.2.2.2.1, 0, tc_args 0 tK_29.2.2.1, [], ([], 0), ([], 0))] = true := by decide +kernel
noncomputable def tH_29_1 : List tc_It := [de_it 0x4010000, de_it 0x300000001, de_it 0x10c0101010b0101010a01010109010101080101010701010106010101050101010401010108010602020103010101020101010101010100010100000000000000000000000000010001160000010007, de_it 0x4010000, de_it 0x10f010201010301010e01010200000001, de_it 0x8010000, de_it 0x1100101000000000300000001, de_it 0x6010000, de_it 0x10f010a0201010d010102000203010100010002, de_it 0x2010000, de_it 0x2, de_it 0x6010000, de_it 0x8110101081201010200000001, de_it 0x8120101081101010200000001, de_it 0x2010000, de_it 0x101, de_it 0x4010000, de_it 0x11a0101011601010119010101150101040010010001, de_it 0x11c0101011b0101010f010a0201010d010104000203010100010003, de_it 0x10f01020201010d01010200000001, de_it 0x2010000, de_it 0x10e0101010d0101010c0101010b0101010a01010109010101080101010e010f010a030101060101010e010f020101040101010e0101010f03010102010101010101010e010f0102030100000000010f01010001000000010001000117020203010100010008, de_it 0x8010000, de_it 0x101, de_it 0x115010101140101000000000400000003, de_it 0x4010000, de_it 0x101, de_it 0x117010101160101000000000400000003, de_it 0x4010000, de_it 0x101, de_it 0x119010101180101000000000400000003, de_it 0x6010000, de_it 0x10f010201010301010e01010200000001, de_it 0x2010000, de_it 0x10e01010100000001, de_it 0x10f011a010101020408011b010e0208000000000400000003, de_it 0x4010000, de_it 0x108000000020006, de_it 0x4010000, de_it 0x8000002020006, de_it 0x400000003, de_it 0x6010000, de_it 0x10f010a0201010d010102000203010100010002, de_it 0x2010000, de_it 0x2, de_it 0x6010000, de_it 0x8130101081001010200000001, de_it 0x8100101081301010200000001, de_it 0x2010000, de_it 0x101, de_it 0x4010000, de_it 0x12b010101270101012a010101260101040010010001, de_it 0x12d0101012c0101010f010a0201010d010104000203010100010003, de_it 0x102010f0201010d01010200000001, de_it 0x2010000, de_it 0x10e0101010d0101010c0101010b0101010a01010109010101080101010e010f010a030101060101010e010f020101040101010e0101010f03010102010101010101010e010f0102030100000000010f01010001000000010001000117020203010100010008]
set_option maxRecDepth 100000 in
theorem tP_29_0 : fw_plk tV_29 tL_29_0 tH_29_1 = true := by decide +kernel
set_option maxRecDepth 100000 in
theorem tT_29 {RO : am_O} {sa : Nat → Nat} (h_11 : tc_true (aP sa) tp_G RO tp_T tp_Z tK_11) (h_13 : tc_true (aP sa) tp_G RO tp_T tp_Z tK_13) : tc_true (aP sa) tp_G RO tp_T tp_Z tK_29 := by
  have hC : ∀ c ∈ tC_29, tc_true (aP sa) tp_G RO tp_T tp_Z c := by
    intro c hc
    have hc : c ∈ ([tK_11, tK_13] : List tc_Ct) := hc
    rcases List.mem_cons.mp hc with rfl | hc
    · exact h_11
    rcases List.mem_cons.mp hc with rfl | hc
    · exact h_13
    cases hc
  have hP : ∀ p ∈ tJ_29, ∃ hs, tc_plk (aP sa, tV_29.2) p hs = true := by
    intro p hp
    have hp : p ∈ ([tL_29_0] : List tc_Pl) := hp
    rcases List.mem_cons.mp hp with rfl | hp
    · exact ⟨_, (tc_plk_sa (aP_sa sa _)).trans ((fw_plk_s tHC_29).trans tP_29_0)⟩
    cases hp
  exact tc_main (mt := aM_34.1) (hs := tH_29_0) (PL := tJ_29) ⟨tp_G_ok, tMs_29 _, hC, tp_L_ok, tp_G_re⟩ (show am_meth (aP sa) 34 = some aM_34.1 from rfl) aX_34 (by decide +kernel) hP ((tc_go_sa (aP_sa sa _)).trans ((fw_go_s tHC_29).trans tR_29))
noncomputable def tK_30 : tc_Ct := (35, (5, 3), [(2, ([], 0), 0), (0, ([(0, 1)], 0), 0), (1, ([], 0), 0), (2, ([], 0), 1), (0, ([(1, 1)], 0), 0), (0, ([(2, 1)], 0), 0)], ([([(0, -1)], 1), ([(0, 1)], 0), ([(1, -1)], 800), ([(1, 1)], 0), ([(2, -1)], 800), ([(2, 1)], 0), ([(3, -1)], 800), ([(3, 1)], 0), ([(4, -1)], 1600), ([(4, 1)], -64), ([(1, -1), (2, 1)], 0), ([(1, -1), (3, 1)], 0), ([(1, -1), (4, 1)], 0), ([(2, -1), (3, 1)], 0), ([(2, -1), (4, 1)], 0), ([(2, 1), (3, -1)], 8), ([(3, -1), (4, 1)], 0)], [(0, 167), (1, 177), (2, 193)], [(2, ([(4, 1)], 0))], [(1, 0, (2, ([], 0), 2)), (1, 1, (0, ([(3, 1)], 0), 0))], [], [], [(1016, [], []), (1088, [], [])]), [(167, 0), (167, 1), (167, 2), (167, 3), (167, 4), (167, 5)], [((9, 3), ([([(0, -1)], 1), ([(0, 1)], 0), ([(1, -1)], 800), ([(1, 1)], 0), ([(2, -1)], 800), ([(2, 1)], 0), ([(3, -1)], 800), ([(3, 1)], 0), ([(4, -1)], 1600), ([(4, 1)], -64), ([(5, -1)], 2147483647), ([(5, 1)], 2147483648), ([(6, -1)], 2147483647), ([(6, 1)], 2147483648), ([(7, -1)], 2147483647), ([(7, 1)], 2147483648), ([(8, -1)], 2147483647), ([(8, 1)], 2147483648), ([(1, -1), (2, 1)], 0), ([(1, -1), (3, 1)], 0), ([(1, -1), (4, 1)], 0), ([(2, -1), (3, 1)], 0), ([(2, -1), (4, 1)], 0), ([(2, 1), (3, -1)], 8), ([(3, -1), (4, 1)], 0)], [], [(2, ([(4, 1)], 0))], [(0, 0, (0, ([(5, 1)], 0), 0)), (0, 1, (0, ([(6, 1)], 0), 0)), (0, 2, (0, ([(7, 1)], 0), 0)), (0, 3, (0, ([(8, 1)], 0), 0)), (0, 5, (0, ([], 0), 0))], [], [], []), some (1, ([], 0), 0), ([], 0), ([], 0))])
noncomputable def tL_30_0 : tc_Pl := de_pl 0x30d14ff000402050100020000000000030d14ff0003000000000000000205010007000002010100050000000102000002000100010000000200051600000000000000000440ff000000000000000003f8ff020000000002030100010102000002000102000204010201c102b101a70003300105010002040103021001030202020002040102020002030102020002040101020002030101020002020101027f0204010000000000000c80ff010401000203010000000000000640ff010301000202010000000000000640ff010201000201010000000000000640ff0101010002000102010001120306
noncomputable def tJ_30 : List tc_Pl := [tL_30_0]
noncomputable def tC_30 : List tc_Ct := [tK_18, tK_12, tK_14, tK_19, tK_22]
def tM_30 (z : Nat) : Option am_Meth := if z = 30 then some aM_30.1 else if z = 27 then some aM_27.1 else if z = 26 then some aM_26.1 else if z = 21 then some aM_21.1 else if z = 19 then some aM_19.1 else none
set_option maxRecDepth 100000 in
theorem tMs_30 (sa : Nat → Nat) : ∀ z mz, tM_30 z = some mz → am_meth (aP sa) z = some mz := by
  intro z mz h
  unfold tM_30 at h
  rcases de_m h with ⟨rfl, rfl⟩ | h
  · exact (show am_meth (aP sa) 30 = some aM_30.1 from rfl)
  rcases de_m h with ⟨rfl, rfl⟩ | h
  · exact (show am_meth (aP sa) 27 = some aM_27.1 from rfl)
  rcases de_m h with ⟨rfl, rfl⟩ | h
  · exact (show am_meth (aP sa) 26 = some aM_26.1 from rfl)
  rcases de_m h with ⟨rfl, rfl⟩ | h
  · exact (show am_meth (aP sa) 21 = some aM_21.1 from rfl)
  rcases de_m h with ⟨rfl, rfl⟩ | h
  · exact (show am_meth (aP sa) 19 = some aM_19.1 from rfl)
  cases h
noncomputable def tV_30 : tc_Ev := (aQ, tp_T, tp_G.2, tp_Z, tM_30, tC_30, tp_L, tK_30.2.2.2.2.1, aM_35.1, aW_35, tK_30.2.1, tK_30.2.2.2.2.2, tJ_30)
theorem tE_30 : tK_30.2.2.2.2.2.all (tc_wex tK_30.2.1.1 tK_30.2.1.2) = true := by decide +kernel
theorem tSS_30 : tC_30.all (fun c => tw_mg tK_30.2.2.2.2.1 c.2.2.2.2.1) = true := by decide +kernel
theorem tHC_30 : ∀ c ∈ tC_30, c.2.2.2.2.1.all tK_30.2.2.2.2.1.contains = true ∧ c.2.2.2.2.2.all (tc_wex c.2.1.1 c.2.1.2) = true := tf_hc tSS_30 (by
  intro c hc
  have hc : c ∈ ([tK_18, tK_12, tK_14, tK_19, tK_22] : List tc_Ct) := hc
  rcases List.mem_cons.mp hc with rfl | hc
  · exact tE_18
  rcases List.mem_cons.mp hc with rfl | hc
  · exact tE_12
  rcases List.mem_cons.mp hc with rfl | hc
  · exact tE_14
  rcases List.mem_cons.mp hc with rfl | hc
  · exact tE_19
  rcases List.mem_cons.mp hc with rfl | hc
  · exact tE_22
  cases hc)
noncomputable def tH_30_0 : List tc_It := [de_it 0x6010000, de_it 0x101010101000101000000000000000000000000000000020a00020001010000020006, de_it 0x4010000, de_it 0x2, de_it 0x4010000, de_it 0x10801050201010e0101010901050201010801050201010e010101080104020101090101010801010105010101040101010901010108010101050101010401010001000100000000000000000000000000000003180002040100020201000003040002030006, de_it 0x504e4a201e1c1a18161412100e0c0a080604020014000d, de_it 0x4010000, de_it 0x101100101010f0101010e0101010d0101010c0101010b0101010a010101090101010801010107010101060101010501010104010101030101010201010101010101000101000000000000000000000000000100011a30000100010008]
set_option maxRecDepth 100000 in
theorem tR_30 : fw_go tV_30 tK_30.2.1.1 tK_30.2.1.2 none tH_30_0 [(tK_30.2.1, tK_30.2.2.2.1, 0, tc_args 0 tK_30.2.2.1, [], ([], 0), ([], 0))] = true := by decide +kernel
noncomputable def tH_30_1 : List tc_It := [de_it 0x2010000, de_it 0x300000001, de_it 0x8010000, de_it 0x8000004020006, de_it 0x101010101000101000000000000000000000000000000030a00020001010006020006, de_it 0x1100101010f0101010e0101010d0101010c0101010b0101010a01010124010101230101012201010121010101200101011f0101011e0101011d010101090101010801010107010101060101010501010104010101030101010201010101010101000101000000000000000000000000000100012100020d0100020c0100020b0100020a010400010007, de_it 0x6010000, de_it 0x101, de_it 0x113010101140101000000000000000000000000000000010a00020601010008020006, de_it 0x1110101011201010200000001, de_it 0x2010000, de_it 0x111010101100101010f0101010e0101010d0101010c0101010b0101010a01010109010101080101010701010106010101050101010401010103010101020101010101010100010100000000011201000201000100000001000100011a0f0205010100010008]
set_option maxRecDepth 100000 in
theorem tP_30_0 : fw_plk tV_30 tL_30_0 tH_30_1 = true := by decide +kernel
set_option maxRecDepth 100000 in
theorem tT_30 {RO : am_O} {sa : Nat → Nat} (h_12 : tc_true (aP sa) tp_G RO tp_T tp_Z tK_12) (h_14 : tc_true (aP sa) tp_G RO tp_T tp_Z tK_14) (h_18 : tc_true (aP sa) tp_G RO tp_T tp_Z tK_18) (h_19 : tc_true (aP sa) tp_G RO tp_T tp_Z tK_19) (h_22 : tc_true (aP sa) tp_G RO tp_T tp_Z tK_22) : tc_true (aP sa) tp_G RO tp_T tp_Z tK_30 := by
  have hC : ∀ c ∈ tC_30, tc_true (aP sa) tp_G RO tp_T tp_Z c := by
    intro c hc
    have hc : c ∈ ([tK_18, tK_12, tK_14, tK_19, tK_22] : List tc_Ct) := hc
    rcases List.mem_cons.mp hc with rfl | hc
    · exact h_18
    rcases List.mem_cons.mp hc with rfl | hc
    · exact h_12
    rcases List.mem_cons.mp hc with rfl | hc
    · exact h_14
    rcases List.mem_cons.mp hc with rfl | hc
    · exact h_19
    rcases List.mem_cons.mp hc with rfl | hc
    · exact h_22
    cases hc
  have hP : ∀ p ∈ tJ_30, ∃ hs, tc_plk (aP sa, tV_30.2) p hs = true := by
    intro p hp
    have hp : p ∈ ([tL_30_0] : List tc_Pl) := hp
    rcases List.mem_cons.mp hp with rfl | hp
    · exact ⟨_, (tc_plk_sa (aP_sa sa _)).trans ((fw_plk_s tHC_30).trans tP_30_0)⟩
    cases hp
  exact tc_main (mt := aM_35.1) (hs := tH_30_0) (PL := tJ_30) ⟨tp_G_ok, tMs_30 _, hC, tp_L_ok, tp_G_re⟩ (show am_meth (aP sa) 35 = some aM_35.1 from rfl) aX_35 (by decide +kernel) hP ((tc_go_sa (aP_sa sa _)).trans ((fw_go_s tHC_30).trans tR_30))
noncomputable def tK_31 : tc_Ct := (36, (1, 0), [(0, ([(0, 1)], 0), 0)], ([([(0, -1)], 2147483647), ([(0, 1)], 2147483648)], [], [], [], [], [], []), [], [((2, 0), ([([(0, -1)], 2147483647), ([(0, 1)], 2147483648), ([(1, -1)], 8), ([(1, 1)], -4)], [], [], [], [], [], []), some (0, ([(1, 1)], 0), 0), ([], 0), ([], 0))])
noncomputable def tJ_31 : List tc_Pl := []
noncomputable def tC_31 : List tc_Ct := []
def tM_31 (z : Nat) : Option am_Meth := none
set_option maxRecDepth 100000 in
theorem tMs_31 (sa : Nat → Nat) : ∀ z mz, tM_31 z = some mz → am_meth (aP sa) z = some mz := fun z mz h => by cases h
noncomputable def tV_31 : tc_Ev := (aQ, tp_T, tp_G.2, tp_Z, tM_31, tC_31, tp_L, tK_31.2.2.2.2.1, aM_36.1, aW_36, tK_31.2.1, tK_31.2.2.2.2.2, tJ_31)
theorem tE_31 : tK_31.2.2.2.2.2.all (tc_wex tK_31.2.1.1 tK_31.2.1.2) = true := by decide +kernel
theorem tSS_31 : tC_31.all (fun c => tw_mg tK_31.2.2.2.2.1 c.2.2.2.2.1) = true := by decide +kernel
theorem tHC_31 : ∀ c ∈ tC_31, c.2.2.2.2.1.all tK_31.2.2.2.2.1.contains = true ∧ c.2.2.2.2.2.all (tc_wex c.2.1.1 c.2.1.2) = true := tf_hc tSS_31 (by
  intro c hc
  have hc : c ∈ ([] : List tc_Ct) := hc
  cases hc)
noncomputable def tH_31_0 : List tc_It := [de_it 0x4010000, de_it 0x300000001, de_it 0x2010000, de_it 0x100010101010101000101000000000000000000000000000100010c10000100010007, de_it 0x4010000, de_it 0x100010102010101030101000000000000000000000000000100010c08000100010007]
set_option maxRecDepth 100000 in
theorem tR_31 : fw_go tV_31 tK_31.2.1.1 tK_31.2.1.2 none tH_31_0 [(tK_31.2.1, tK_31.2.2.2.1, 0, tc_args 0 tK_31.2.2.1, [], ([], 0), ([], 0))] = true := by decide +kernel
set_option maxRecDepth 100000 in
theorem tT_31 {RO : am_O} {sa : Nat → Nat} : tc_true (aP sa) tp_G RO tp_T tp_Z tK_31 := by
  have hC : ∀ c ∈ tC_31, tc_true (aP sa) tp_G RO tp_T tp_Z c := by
    intro c hc
    have hc : c ∈ ([] : List tc_Ct) := hc
    cases hc
  have hP : ∀ p ∈ tJ_31, ∃ hs, tc_plk (aP sa, tV_31.2) p hs = true := by
    intro p hp
    have hp : p ∈ ([] : List tc_Pl) := hp
    cases hp
  exact tc_main (mt := aM_36.1) (hs := tH_31_0) (PL := tJ_31) ⟨tp_G_ok, tMs_31 _, hC, tp_L_ok, tp_G_re⟩ (show am_meth (aP sa) 36 = some aM_36.1 from rfl) aX_36 (by decide +kernel) hP ((tc_go_sa (aP_sa sa _)).trans ((fw_go_s tHC_31).trans tR_31))
noncomputable def tK_32 : tc_Ct := (7, (4, 2), [(2, ([], 0), 0), (0, ([(0, 1)], 0), 0)], ([([(0, -1)], 2147483647), ([(0, 1)], 2147483648), ([(1, -1)], 807), ([(1, 1)], 0), ([(2, -1)], 2000), ([(2, 1)], -8), ([(3, -1)], 8000000)], [(0, 178), (1, 193)], [(1, ([(2, 1)], 0))], [(0, 0, (2, ([], 0), 1)), (0, 1, (0, ([(1, 1)], 0), 0))], [], [], [(1136, [], [([(3, 1)], 0)]), (1016, [], []), (1088, [], [])]), [(178, 0), (178, 1), (193, 0), (193, 1000)], [((7, 2), ([([(0, -1)], 2147483647), ([(0, 1)], 2147483648), ([(1, -1)], 807), ([(1, 1)], 0), ([(2, -1)], 2000), ([(2, 1)], -8), ([(3, -1)], 8000000), ([(4, -1)], 1), ([(4, 1)], 0), ([(5, -1)], 1614), ([(5, 1)], 0), ([(6, -1)], 8000000), ([(1, -1), (2, 1)], 0), ([(4, -16), (5, 1)], 0), ([(3, 1), (5, -1), (6, -1)], 0)], [], [(1, ([(2, 1)], 0))], [(0, 1, (0, ([(1, 1)], 1), 0))], [], [], [(1136, [], [([(6, 1)], 0)])]), none, ([(4, 1)], 0), ([(5, 1)], 0))])
noncomputable def tJ_32 : List tc_Pl := []
noncomputable def tC_32 : List tc_Ct := [tK_0]
def tM_32 (z : Nat) : Option am_Meth := if z = 8 then some aM_8.1 else none
set_option maxRecDepth 100000 in
theorem tMs_32 (sa : Nat → Nat) : ∀ z mz, tM_32 z = some mz → am_meth (aP sa) z = some mz := by
  intro z mz h
  unfold tM_32 at h
  rcases de_m h with ⟨rfl, rfl⟩ | h
  · exact (show am_meth (aP sa) 8 = some aM_8.1 from rfl)
  cases h
noncomputable def tV_32 : tc_Ev := (aQ, tp_T, tp_G.2, tp_Z, tM_32, tC_32, tp_L, tK_32.2.2.2.2.1, aM_7.1, aW_7, tK_32.2.1, tK_32.2.2.2.2.2, tJ_32)
theorem tE_32 : tK_32.2.2.2.2.2.all (tc_wex tK_32.2.1.1 tK_32.2.1.2) = true := by decide +kernel
theorem tSS_32 : tC_32.all (fun c => tw_mg tK_32.2.2.2.2.1 c.2.2.2.2.1) = true := by decide +kernel
theorem tHC_32 : ∀ c ∈ tC_32, c.2.2.2.2.1.all tK_32.2.2.2.2.1.contains = true ∧ c.2.2.2.2.2.all (tc_wex c.2.1.1 c.2.1.2) = true := tf_hc tSS_32 (by
  intro c hc
  have hc : c ∈ ([tK_0] : List tc_Ct) := hc
  rcases List.mem_cons.mp hc with rfl | hc
  · exact tE_0
  cases hc)
noncomputable def tH_32_0 : List tc_It := [de_it 0x2010000, de_it 0x2, de_it 0x10010, de_it 0x2010000, de_it 0x10a0102020100000300000001, de_it 0x2010000, de_it 0x2, de_it 0x2010000, de_it 0x2, de_it 0x2, de_it 0x300000001, de_it 0x2010000, de_it 0x2, de_it 0x2010000, de_it 0x2, de_it 0x6010000, de_it 0x10d0101010c0101010b01010103010104000201010100010003, de_it 0x4010000, de_it 0x2, de_it 0x2010000, de_it 0x1020101010301010200000001, de_it 0x105010101040101010b01010102010101030101000000000700000003, de_it 0x10001010b010101060101000100010001000101060101010501010104010101030101010201010101010101000101000000000000000000000000000100011700020301000000000300010007, de_it 0x4010000, de_it 0x2, de_it 0x4010000, de_it 0x2, de_it 0x2, de_it 0x20b02020201020501010200000001, de_it 0x1050101010b0102020101050101010b0102020102050101020b02020201000000000000000000000000000000000e0002020100040201020200020006, de_it 0x800040201000202010002030103040200cc040009, de_it 0x10d0101020b02020201010d0207020200000000000000000700000003, de_it 0x2010000, de_it 0x2, de_it 0x2010000, de_it 0x2, de_it 0x6010000, de_it 0x113010101120101010d02070202010d020b020204000201010100010003, de_it 0x4010000, de_it 0x2, de_it 0x2010000, de_it 0x1020101010d020b02020200000001, de_it 0x10d0101020b02020201010d0207020201020101010d020b0202000000000700000003, de_it 0x1010d0101010701010106010d0201010d0101020b020202010001000101060101010d0102010b01020201010d020b020201020101010101010100010100000000000000000000000000010001170002030302020004020102000300010007]
set_option maxRecDepth 100000 in
theorem tR_32 : fw_go tV_32 tK_32.2.1.1 tK_32.2.1.2 none tH_32_0 [(tK_32.2.1, tK_32.2.2.2.1, 0, tc_args 0 tK_32.2.2.1, [], ([], 0), ([], 0))] = true := by decide +kernel
set_option maxRecDepth 100000 in
theorem tT_32 {RO : am_O} {sa : Nat → Nat} (h_0 : tc_true (aP sa) tp_G RO tp_T tp_Z tK_0) : tc_true (aP sa) tp_G RO tp_T tp_Z tK_32 := by
  have hC : ∀ c ∈ tC_32, tc_true (aP sa) tp_G RO tp_T tp_Z c := by
    intro c hc
    have hc : c ∈ ([tK_0] : List tc_Ct) := hc
    rcases List.mem_cons.mp hc with rfl | hc
    · exact h_0
    cases hc
  have hP : ∀ p ∈ tJ_32, ∃ hs, tc_plk (aP sa, tV_32.2) p hs = true := by
    intro p hp
    have hp : p ∈ ([] : List tc_Pl) := hp
    cases hp
  exact tc_main (mt := aM_7.1) (hs := tH_32_0) (PL := tJ_32) ⟨tp_G_ok, tMs_32 _, hC, tp_L_ok, tp_G_re⟩ (show am_meth (aP sa) 7 = some aM_7.1 from rfl) aX_7 (by decide +kernel) hP ((tc_go_sa (aP_sa sa _)).trans ((fw_go_s tHC_32).trans tR_32))
noncomputable def tK_33 : tc_Ct := (37, (4, 2), [(2, ([], 0), 0), (1, ([], 0), 0), (0, ([(0, 1)], 0), 0)], ([([(0, -1)], 8), ([(0, 1)], -4), ([(1, -1)], 800), ([(1, 1)], 0), ([(2, -1)], 2000), ([(2, 1)], -8), ([(3, -1)], 8000000), ([(3, 1)], 1598)], [(0, 178), (1, 193)], [(1, ([(2, 1)], 0))], [(0, 0, (2, ([], 0), 1)), (0, 1, (0, ([(1, 1)], 0), 0))], [], [], [(1136, [], [([(3, 1)], 0)]), (1016, [], []), (1088, [], [])]), [(178, 0), (178, 1), (193, 0), (193, 1000)], [((8, 2), ([([(0, -1)], 8), ([(0, 1)], -4), ([(1, -1)], 800), ([(1, 1)], 0), ([(2, -1)], 2000), ([(2, 1)], -8), ([(3, -1)], 8000000), ([(3, 1)], 1598), ([(4, -1)], 808), ([(4, 1)], 0), ([(5, 1)], 0), ([(6, 1)], 0), ([(7, -1)], 8000000), ([(5, -16), (6, 1)], 0), ([(0, 1), (1, 1), (4, -1)], 0), ([(3, 1), (6, -1), (7, -1)], 0)], [], [(1, ([(2, 1)], 0))], [(0, 1, (0, ([(4, 1)], 0), 0))], [], [], [(1136, [], [([(7, 1)], 0)])]), none, ([(5, 1)], 0), ([(6, 1)], 0))])
noncomputable def tL_33_0 : tc_Pl := de_pl 0x30d3aff000001040200020000000000030d3aff0003000207010002060100000002040100040000020001000300000001010000000200040300000000000000000440ff000000000000000003f8ff0002080101000000000000000470ff030000000002050100010001000202010101c101b20002000108010702030300010502040201030002071f06020001040200020000000000f42400ff0108010002070100020601000205010000000000000650ff010501000204010000000000000c7cff0203010000000000f42400ff0103010f0202010000000000000fa0ff010201000201010000000000000640ff0101010702000110010001120209
noncomputable def tJ_33 : List tc_Pl := [tL_33_0]
noncomputable def tC_33 : List tc_Ct := [tK_32]
def tM_33 (z : Nat) : Option am_Meth := if z = 7 then some aM_7.1 else none
set_option maxRecDepth 100000 in
theorem tMs_33 (sa : Nat → Nat) : ∀ z mz, tM_33 z = some mz → am_meth (aP sa) z = some mz := by
  intro z mz h
  unfold tM_33 at h
  rcases de_m h with ⟨rfl, rfl⟩ | h
  · exact (show am_meth (aP sa) 7 = some aM_7.1 from rfl)
  cases h
noncomputable def tV_33 : tc_Ev := (aQ, tp_T, tp_G.2, tp_Z, tM_33, tC_33, tp_L, tK_33.2.2.2.2.1, aM_37.1, aW_37, tK_33.2.1, tK_33.2.2.2.2.2, tJ_33)
theorem tE_33 : tK_33.2.2.2.2.2.all (tc_wex tK_33.2.1.1 tK_33.2.1.2) = true := by decide +kernel
theorem tSS_33 : tC_33.all (fun c => tw_mg tK_33.2.2.2.2.1 c.2.2.2.2.1) = true := by decide +kernel
theorem tHC_33 : ∀ c ∈ tC_33, c.2.2.2.2.1.all tK_33.2.2.2.2.1.contains = true ∧ c.2.2.2.2.2.all (tc_wex c.2.1.1 c.2.1.2) = true := tf_hc tSS_33 (by
  intro c hc
  have hc : c ∈ ([tK_32] : List tc_Ct) := hc
  rcases List.mem_cons.mp hc with rfl | hc
  · exact tE_32
  cases hc)
noncomputable def tH_33_0 : List tc_It := [de_it 0x4010000, de_it 0x100010001010101010106010100010001010301010102010100010107010101060101010501010104010101030101010201010101010101000101000000000000000000000000000100011a00020301000000000002010100000500010008]
set_option maxRecDepth 100000 in
theorem tR_33 : fw_go tV_33 tK_33.2.1.1 tK_33.2.1.2 none tH_33_0 [(tK_33.2.1, tK_33.2.2.2.1, 0, tc_args 0 tK_33.2.2.1, [], ([], 0), ([], 0))] = true := by decide +kernel
noncomputable def tH_33_1 : List tc_It := [de_it 0x4010000, de_it 0x300000001, de_it 0x11101010110010e0201010f0101010d0101010c0101010b0101010a01010109010101070101010601010105010101040101010301010102010101010101010001010000000000000000000000000001000118000208010002070100020601000205010400010007, de_it 0x4010000, de_it 0x1130112010003010300000001, de_it 0xa010000, de_it 0x8130101080801010200000001, de_it 0x8080101081301010200000001, de_it 0x2010000, de_it 0x101, de_it 0x2000f, de_it 0x4010011, de_it 0x10010, de_it 0x10d0101011a010101190101010a010101020110011303010114010101150101000000000000000000000000000000010f0002080100020a01000205010002090104040000030006, de_it 0x52504c4a4846443a343230262422201e1a181614100e0c0a08060402001d000d, de_it 0x1110101010801010200000001, de_it 0x2010000, de_it 0x11c010f0201010e0101011b010d020101100101011a01010119010b02010117010a020101090101011501010108010101070101010601010105010101040101010301010102010101010101010001010000000001100101000100000001000100011a00020d0100020c02070200020b02060202020501020204010500010008]
set_option maxRecDepth 100000 in
theorem tP_33_0 : fw_plk tV_33 tL_33_0 tH_33_1 = true := by decide +kernel
set_option maxRecDepth 100000 in
theorem tT_33 {RO : am_O} {sa : Nat → Nat} (h_32 : tc_true (aP sa) tp_G RO tp_T tp_Z tK_32) : tc_true (aP sa) tp_G RO tp_T tp_Z tK_33 := by
  have hC : ∀ c ∈ tC_33, tc_true (aP sa) tp_G RO tp_T tp_Z c := by
    intro c hc
    have hc : c ∈ ([tK_32] : List tc_Ct) := hc
    rcases List.mem_cons.mp hc with rfl | hc
    · exact h_32
    cases hc
  have hP : ∀ p ∈ tJ_33, ∃ hs, tc_plk (aP sa, tV_33.2) p hs = true := by
    intro p hp
    have hp : p ∈ ([tL_33_0] : List tc_Pl) := hp
    rcases List.mem_cons.mp hp with rfl | hp
    · exact ⟨_, (tc_plk_sa (aP_sa sa _)).trans ((fw_plk_s tHC_33).trans tP_33_0)⟩
    cases hp
  exact tc_main (mt := aM_37.1) (hs := tH_33_0) (PL := tJ_33) ⟨tp_G_ok, tMs_33 _, hC, tp_L_ok, tp_G_re⟩ (show am_meth (aP sa) 37 = some aM_37.1 from rfl) aX_37 (by decide +kernel) hP ((tc_go_sa (aP_sa sa _)).trans ((fw_go_s tHC_33).trans tR_33))
noncomputable def tK_34 : tc_Ct := (32, (3, 2), [(2, ([], 0), 0), (0, ([(0, 1)], 0), 0), (1, ([], 0), 0), (1, ([], 0), 0), (0, ([(1, 1)], 0), 0)], ([([(0, -1)], 2147483647), ([(0, 1)], 2147483648), ([(1, -1)], 2147483647), ([(1, 1)], 2147483648), ([(2, -1)], 8000000), ([(2, 1)], 0)], [(0, 165), (1, 166)], [], [(0, 0, (2, ([], 0), 1))], [], [], [(1016, [], []), (1024, [], []), (1088, [], []), (1096, [], []), (1136, [], [([(2, 1)], 0)]), (568, [1], [])]), [(167, 0), (167, 1), (167, 2), (167, 3), (167, 4), (167, 5), (177, 1), (178, 0), (178, 1), (193, 0), (193, 1000)], [((7, 2), ([([(0, -1)], 2147483647), ([(0, 1)], 2147483648), ([(1, -1)], 2147483647), ([(1, 1)], 2147483648), ([(2, -1)], 8000000), ([(2, 1)], 0), ([(3, -1)], 808), ([(3, 1)], 1), ([(4, 1)], 0), ([(5, 1)], 0), ([(6, -1)], 8000000), ([(4, -16), (5, 1)], 0), ([(2, 1), (5, -1), (6, -1)], 0)], [], [], [], [], [], [(1136, [], [([(6, 1)], 0)])]), some (0, ([(3, 1)], 0), 0), ([(4, 1)], 0), ([(5, 1)], 0))])
noncomputable def tJ_34 : List tc_Pl := []
noncomputable def tC_34 : List tc_Ct := [tK_28, tK_29, tK_24, tK_30, tK_27, tK_26, tK_31, tK_33, tK_16]
def tM_34 (z : Nat) : Option am_Meth := if z = 37 then some aM_37.1 else if z = 36 then some aM_36.1 else if z = 35 then some aM_35.1 else if z = 34 then some aM_34.1 else if z = 33 then some aM_33.1 else if z = 29 then some aM_29.1 else if z = 23 then some aM_23.1 else if z = 13 then some aM_13.1 else none
set_option maxRecDepth 100000 in
theorem tMs_34 (sa : Nat → Nat) : ∀ z mz, tM_34 z = some mz → am_meth (aP sa) z = some mz := by
  intro z mz h
  unfold tM_34 at h
  rcases de_m h with ⟨rfl, rfl⟩ | h
  · exact (show am_meth (aP sa) 37 = some aM_37.1 from rfl)
  rcases de_m h with ⟨rfl, rfl⟩ | h
  · exact (show am_meth (aP sa) 36 = some aM_36.1 from rfl)
  rcases de_m h with ⟨rfl, rfl⟩ | h
  · exact (show am_meth (aP sa) 35 = some aM_35.1 from rfl)
  rcases de_m h with ⟨rfl, rfl⟩ | h
  · exact (show am_meth (aP sa) 34 = some aM_34.1 from rfl)
  rcases de_m h with ⟨rfl, rfl⟩ | h
  · exact (show am_meth (aP sa) 33 = some aM_33.1 from rfl)
  rcases de_m h with ⟨rfl, rfl⟩ | h
  · exact (show am_meth (aP sa) 29 = some aM_29.1 from rfl)
  rcases de_m h with ⟨rfl, rfl⟩ | h
  · exact (show am_meth (aP sa) 23 = some aM_23.1 from rfl)
  rcases de_m h with ⟨rfl, rfl⟩ | h
  · exact (show am_meth (aP sa) 13 = some aM_13.1 from rfl)
  cases h
noncomputable def tV_34 : tc_Ev := (aQ, tp_T, tp_G.2, tp_Z, tM_34, tC_34, tp_L, tK_34.2.2.2.2.1, aM_32.1, aW_32, tK_34.2.1, tK_34.2.2.2.2.2, tJ_34)
theorem tE_34 : tK_34.2.2.2.2.2.all (tc_wex tK_34.2.1.1 tK_34.2.1.2) = true := by decide +kernel
theorem tSS_34 : tC_34.all (fun c => tw_mg tK_34.2.2.2.2.1 c.2.2.2.2.1) = true := by decide +kernel
theorem tHC_34 : ∀ c ∈ tC_34, c.2.2.2.2.1.all tK_34.2.2.2.2.1.contains = true ∧ c.2.2.2.2.2.all (tc_wex c.2.1.1 c.2.1.2) = true := tf_hc tSS_34 (by
  intro c hc
  have hc : c ∈ ([tK_28, tK_29, tK_24, tK_30, tK_27, tK_26, tK_31, tK_33, tK_16] : List tc_Ct) := hc
  rcases List.mem_cons.mp hc with rfl | hc
  · exact tE_28
  rcases List.mem_cons.mp hc with rfl | hc
  · exact tE_29
  rcases List.mem_cons.mp hc with rfl | hc
  · exact tE_24
  rcases List.mem_cons.mp hc with rfl | hc
  · exact tE_30
  rcases List.mem_cons.mp hc with rfl | hc
  · exact tE_27
  rcases List.mem_cons.mp hc with rfl | hc
  · exact tE_26
  rcases List.mem_cons.mp hc with rfl | hc
  · exact tE_31
  rcases List.mem_cons.mp hc with rfl | hc
  · exact tE_33
  rcases List.mem_cons.mp hc with rfl | hc
  · exact tE_16
  cases hc)
noncomputable def tH_34_0 : List tc_It := [de_it 0x4010000, de_it 0x300000001, de_it 0x2010000, de_it 0x100010104010100010001000100010105010101040101010301010102010101010101010601010000000000000000000000000001000115000202010000000001000400010007, de_it 0x4010000, de_it 0x300000001, de_it 0x2010000, de_it 0x100010104010100010001000100010105010101040101010301010102010101070101010001010000000000000000000000000001000115000202010000000001000400010007, de_it 0x2010000, de_it 0x300000001, de_it 0x2010000, de_it 0x100010104010100010001000100010105010101040101010301010108010101060101010701010000000000000000000000000001000115000202010000000001000400010007, de_it 0x4010000, de_it 0x2, de_it 0x2, de_it 0x300000001, de_it 0x2010000, de_it 0x106010101070101000000000000000000000000000000000a000200010100010006, de_it 0x4010000, de_it 0x2, de_it 0x2, de_it 0x6010000, de_it 0x2, de_it 0x2, de_it 0x8010011, de_it 0x4010010, de_it 0x4010000, de_it 0x2, de_it 0x2, de_it 0x113010a01080301011301090201011201010113010a0201011301080201010b01120201010b0113010a0301010b01010114010101090101010a010101080101010b010a0201000000000000000000000000000000051500020501000203010002010103080602030006, de_it 0x2010000, de_it 0x2, de_it 0x2, de_it 0x4010000, de_it 0x2, de_it 0x2, de_it 0x8010000, de_it 0x10001010f0101010e0101000000000000000000000000000000040ce80000020401020604020006, de_it 0x5c5a58565452504e44423e3c3a382a2826241e1c161412100e0c0a081c000d, de_it 0x2010000, de_it 0x2, de_it 0x4010000, de_it 0x2, de_it 0x2, de_it 0x10a01010001010a01010001010f01010107010101070101010c0101010b01010105010101060101010501010106010101040101010d01010109010101080101000000000000000000000000000000051900020501000203010002030100020101000204010508040606040006, de_it 0x5a58565452504e4c262422201e1c1a18161412100e0c0a08060402001c000d, de_it 0x4010000, de_it 0x2, de_it 0xa02000f, de_it 0xc010011, de_it 0xa010010, de_it 0x20a02000f, de_it 0xa010010, de_it 0x1220101011f0101011e01010120010101210101000000000000000000000000000000000d00020e0100020f01020c0a08030006, de_it 0x4442403e3c363432302e2c2a28262422201e1c1a18161412100e0c0a080604020021000d, de_it 0x2010000, de_it 0x2, de_it 0x2010000, de_it 0x2, de_it 0x2, de_it 0x4010000, de_it 0x2, de_it 0x2, de_it 0x10a0101010f0101010b010d0201010701010101010101000101011d0101011c0101010c0101010b0101010501010106010101040101010d010100000000000000000000000000000003160002020100020e01000205010002030100020101050c080a0a040006, de_it 0x78767472706c6462605e5c5a5856403e3c3a38363432302e2c2a28262422201e1c1a18161412100e0c0a08060402002f000d, de_it 0x2010000, de_it 0x2, de_it 0x4010000, de_it 0x102010101030101000000000000000000000000000000000a00020001010c010006, de_it 0xa02000f, de_it 0xe010011, de_it 0xa010010, de_it 0x128010101270101013701010136010101220101012a012d012903010132010101310101000000000000000000000000000000021000021301000215010002100100021401040e0a0e030006, de_it 0x8e8c8a88868482806e6c6a64625c5a58565452504e4c4a48464442403e3c3a38363432302e2c2a28262422201e1c1a18161412100e0c0a08060402003c000d, de_it 0x2010000, de_it 0x2, de_it 0x10a0101010c0101010b01010105010101060101000000000000000000000000000000000d000205010002030102080410030006, de_it 0x2010000, de_it 0x2, de_it 0x2, de_it 0x13b012e02010139012b02010138010101370126020101360124020101350101012f012d012a013a01290501010101010100010101040101010d01010102010101030101000000000000000000000000000100011500021901000218021202000217021102000216010400010007, de_it 0x2010000, de_it 0x1000101040101000100010001000101050101010401010109010b02010102010101060101010701010000000000000000000000000001000115000202010000000001000400010007]
set_option maxRecDepth 100000 in
theorem tR_34 : fw_go tV_34 tK_34.2.1.1 tK_34.2.1.2 none tH_34_0 [(tK_34.2.1, tK_34.2.2.2.1, 0, tc_args 0 tK_34.2.2.1, [], ([], 0), ([], 0))] = true := by decide +kernel
set_option maxRecDepth 100000 in
theorem tT_34 {RO : am_O} {sa : Nat → Nat} (h_16 : tc_true (aP sa) tp_G RO tp_T tp_Z tK_16) (h_24 : tc_true (aP sa) tp_G RO tp_T tp_Z tK_24) (h_26 : tc_true (aP sa) tp_G RO tp_T tp_Z tK_26) (h_27 : tc_true (aP sa) tp_G RO tp_T tp_Z tK_27) (h_28 : tc_true (aP sa) tp_G RO tp_T tp_Z tK_28) (h_29 : tc_true (aP sa) tp_G RO tp_T tp_Z tK_29) (h_30 : tc_true (aP sa) tp_G RO tp_T tp_Z tK_30) (h_31 : tc_true (aP sa) tp_G RO tp_T tp_Z tK_31) (h_33 : tc_true (aP sa) tp_G RO tp_T tp_Z tK_33) : tc_true (aP sa) tp_G RO tp_T tp_Z tK_34 := by
  have hC : ∀ c ∈ tC_34, tc_true (aP sa) tp_G RO tp_T tp_Z c := by
    intro c hc
    have hc : c ∈ ([tK_28, tK_29, tK_24, tK_30, tK_27, tK_26, tK_31, tK_33, tK_16] : List tc_Ct) := hc
    rcases List.mem_cons.mp hc with rfl | hc
    · exact h_28
    rcases List.mem_cons.mp hc with rfl | hc
    · exact h_29
    rcases List.mem_cons.mp hc with rfl | hc
    · exact h_24
    rcases List.mem_cons.mp hc with rfl | hc
    · exact h_30
    rcases List.mem_cons.mp hc with rfl | hc
    · exact h_27
    rcases List.mem_cons.mp hc with rfl | hc
    · exact h_26
    rcases List.mem_cons.mp hc with rfl | hc
    · exact h_31
    rcases List.mem_cons.mp hc with rfl | hc
    · exact h_33
    rcases List.mem_cons.mp hc with rfl | hc
    · exact h_16
    cases hc
  have hP : ∀ p ∈ tJ_34, ∃ hs, tc_plk (aP sa, tV_34.2) p hs = true := by
    intro p hp
    have hp : p ∈ ([] : List tc_Pl) := hp
    cases hp
  exact tc_main (mt := aM_32.1) (hs := tH_34_0) (PL := tJ_34) ⟨tp_G_ok, tMs_34 _, hC, tp_L_ok, tp_G_re⟩ (show am_meth (aP sa) 32 = some aM_32.1 from rfl) aX_32 (by decide +kernel) hP ((tc_go_sa (aP_sa sa _)).trans ((fw_go_s tHC_34).trans tR_34))
noncomputable def tK_35 : tc_Ct := (11, (3, 2), [(2, ([], 0), 0), (0, ([(0, 1)], 0), 0)], ([([(0, -1)], 799), ([(0, 1)], 0), ([(1, -1)], 800), ([(1, 1)], 0), ([(2, -1)], 1600), ([(2, 1)], -64), ([(0, -1), (1, 1)], 62), ([(0, -1), (2, 1)], -1), ([(1, -1), (2, 1)], 0)], [(0, 177), (1, 193)], [(1, ([(2, 1)], 0))], [(0, 0, (2, ([], 0), 1)), (0, 1, (0, ([(1, 1)], 0), 0))], [], [], [(1016, [], []), (1088, [], [])]), [], [((4, 2), ([([(0, -1)], 799), ([(0, 1)], 0), ([(1, -1)], 800), ([(1, 1)], 0), ([(2, -1)], 1600), ([(2, 1)], -64), ([(3, -1)], 255), ([(3, 1)], 0), ([(0, -1), (1, 1)], 62), ([(0, -1), (2, 1)], -1), ([(1, -1), (2, 1)], 0), ([(1, 1), (3, -1)], 254), ([(0, -1), (1, 1), (3, -1)], 254)], [], [(1, ([(2, 1)], 0))], [], [], [], []), some (0, ([(3, 1)], 0), 0), ([], 0), ([], 0))])
noncomputable def tJ_35 : List tc_Pl := []
noncomputable def tC_35 : List tc_Ct := []
def tM_35 (z : Nat) : Option am_Meth := none
set_option maxRecDepth 100000 in
theorem tMs_35 (sa : Nat → Nat) : ∀ z mz, tM_35 z = some mz → am_meth (aP sa) z = some mz := fun z mz h => by cases h
noncomputable def tV_35 : tc_Ev := (aQ, tp_T, tp_G.2, tp_Z, tM_35, tC_35, tp_L, tK_35.2.2.2.2.1, aM_11.1, aW_11, tK_35.2.1, tK_35.2.2.2.2.2, tJ_35)
theorem tE_35 : tK_35.2.2.2.2.2.all (tc_wex tK_35.2.1.1 tK_35.2.1.2) = true := by decide +kernel
theorem tSS_35 : tC_35.all (fun c => tw_mg tK_35.2.2.2.2.1 c.2.2.2.2.1) = true := by decide +kernel
theorem tHC_35 : ∀ c ∈ tC_35, c.2.2.2.2.1.all tK_35.2.2.2.2.1.contains = true ∧ c.2.2.2.2.2.all (tc_wex c.2.1.1 c.2.1.2) = true := tf_hc tSS_35 (by
  intro c hc
  have hc : c ∈ ([] : List tc_Ct) := hc
  cases hc)
noncomputable def tH_35_0 : List tc_It := [de_it 0x2010000, de_it 0x109010102010300000001, de_it 0x4010000, de_it 0x2, de_it 0x300000001, de_it 0x2010000, de_it 0x106010101030101010a01070201010701010106010100010001010501010104010101030101010a010002010101010101000101000000000000000000000000000100011500000100010007, de_it 0x2010000, de_it 0x2, de_it 0x2010000, de_it 0x10701010101010102000200010100010002, de_it 0x2010000, de_it 0x10e010a02010101010e010a03010108010101070101010a0101010d0101010e010101050101010401010101010a02010102010101010101010001010000000000000000000000000001000115000203010100010007]
set_option maxRecDepth 100000 in
theorem tR_35 : fw_go tV_35 tK_35.2.1.1 tK_35.2.1.2 none tH_35_0 [(tK_35.2.1, tK_35.2.2.2.1, 0, tc_args 0 tK_35.2.2.1, [], ([], 0), ([], 0))] = true := by decide +kernel
set_option maxRecDepth 100000 in
theorem tT_35 {RO : am_O} {sa : Nat → Nat} : tc_true (aP sa) tp_G RO tp_T tp_Z tK_35 := by
  have hC : ∀ c ∈ tC_35, tc_true (aP sa) tp_G RO tp_T tp_Z c := by
    intro c hc
    have hc : c ∈ ([] : List tc_Ct) := hc
    cases hc
  have hP : ∀ p ∈ tJ_35, ∃ hs, tc_plk (aP sa, tV_35.2) p hs = true := by
    intro p hp
    have hp : p ∈ ([] : List tc_Pl) := hp
    cases hp
  exact tc_main (mt := aM_11.1) (hs := tH_35_0) (PL := tJ_35) ⟨tp_G_ok, tMs_35 _, hC, tp_L_ok, tp_G_re⟩ (show am_meth (aP sa) 11 = some aM_11.1 from rfl) aX_11 (by decide +kernel) hP ((tc_go_sa (aP_sa sa _)).trans ((fw_go_s tHC_35).trans tR_35))
noncomputable def tK_36 : tc_Ct := (39, (4, 3), [(2, ([], 0), 0), (0, ([(0, 1)], 0), 0), (1, ([], 0), 0), (1, ([], 0), 0), (2, ([], 0), 1), (0, ([(1, 1)], 0), 0)], ([([(0, -1)], 3), ([(0, 1)], -1), ([(1, -1)], 800), ([(1, 1)], 0), ([(2, -1)], 800), ([(2, 1)], 0), ([(3, -1)], 1600), ([(3, 1)], -64), ([(1, -1), (2, 1)], 0), ([(1, -1), (3, 1)], 0), ([(2, -1), (3, 1)], 0)], [(0, 167), (1, 177), (2, 193)], [(2, ([(3, 1)], 0))], [(1, 0, (2, ([], 0), 2)), (1, 1, (0, ([(2, 1)], 0), 0))], [], [], [(1016, [], []), (1088, [], [])]), [(167, 0), (167, 1), (167, 2), (167, 3), (167, 4), (167, 5), (177, 1), (193, 0)], [((4, 3), ([([(0, -1)], 3), ([(0, 1)], -1), ([(1, -1)], 800), ([(1, 1)], 0), ([(2, -1)], 800), ([(2, 1)], 0), ([(3, -1)], 1600), ([(3, 1)], -64), ([(1, -1), (2, 1)], 0), ([(1, -1), (3, 1)], 0), ([(2, -1), (3, 1)], 0)], [], [(2, ([(3, 1)], 0))], [(1, 1, (0, ([(2, 1)], 0), 0))], [], [], []), some (0, ([], 0), 0), ([], 0), ([], 0)), ((5, 3), ([([(0, -1)], 3), ([(0, 1)], -1), ([(1, -1)], 796), ([(1, 1)], 0), ([(2, -1)], 800), ([(2, 1)], -4), ([(3, -1)], 1600), ([(3, 1)], -64), ([(4, -1)], 796), ([(4, 1)], 0), ([(1, -1), (2, 1)], -4), ([(1, -1), (3, 1)], -4), ([(1, -1), (4, 1)], 0), ([(2, -1), (3, 1)], 0), ([(2, -1), (4, 1)], 8), ([(2, 1), (4, -1)], -4)], [], [(2, ([(3, 1)], 0))], [(0, 5, (0, ([], 0), 0)), (1, 1, (0, ([(4, 1)], 0), 0))], [], [], []), some (0, ([], 1), 0), ([], 0), ([], 0))])
noncomputable def tL_36_0 : tc_Pl := de_pl 0x30cc0ff000001050204020000000000030cc0ff000300000000000000020501000d000000010b00000104020202000900000204010008000002010100070100000206000000010400000001020000000200094000000000000000000440ff000000000000000003f8ff0200000000020201000101020000020001000000000500000002090100030000000208010002000000020701000100000002060100000007000203010201c102b101a700030001040202010103000104020202070203010102070202010102000205010702040110010401070202010000000000000638ff0101010002030102027f0203010000000000000c80ff0103010000000000000640ff01020100020101010200010601000110030a
noncomputable def tJ_36 : List tc_Pl := [tL_36_0]
noncomputable def tC_36 : List tc_Ct := [tK_31, tK_28, tK_24, tK_30, tK_29, tK_35]
def tM_36 (z : Nat) : Option am_Meth := if z = 36 then some aM_36.1 else if z = 35 then some aM_35.1 else if z = 34 then some aM_34.1 else if z = 33 then some aM_33.1 else if z = 29 then some aM_29.1 else if z = 11 then some aM_11.1 else none
set_option maxRecDepth 100000 in
theorem tMs_36 (sa : Nat → Nat) : ∀ z mz, tM_36 z = some mz → am_meth (aP sa) z = some mz := by
  intro z mz h
  unfold tM_36 at h
  rcases de_m h with ⟨rfl, rfl⟩ | h
  · exact (show am_meth (aP sa) 36 = some aM_36.1 from rfl)
  rcases de_m h with ⟨rfl, rfl⟩ | h
  · exact (show am_meth (aP sa) 35 = some aM_35.1 from rfl)
  rcases de_m h with ⟨rfl, rfl⟩ | h
  · exact (show am_meth (aP sa) 34 = some aM_34.1 from rfl)
  rcases de_m h with ⟨rfl, rfl⟩ | h
  · exact (show am_meth (aP sa) 33 = some aM_33.1 from rfl)
  rcases de_m h with ⟨rfl, rfl⟩ | h
  · exact (show am_meth (aP sa) 29 = some aM_29.1 from rfl)
  rcases de_m h with ⟨rfl, rfl⟩ | h
  · exact (show am_meth (aP sa) 11 = some aM_11.1 from rfl)
  cases h
noncomputable def tV_36 : tc_Ev := (aQ, tp_T, tp_G.2, tp_Z, tM_36, tC_36, tp_L, tK_36.2.2.2.2.1, aM_39.1, aW_39, tK_36.2.1, tK_36.2.2.2.2.2, tJ_36)
theorem tE_36 : tK_36.2.2.2.2.2.all (tc_wex tK_36.2.1.1 tK_36.2.1.2) = true := by decide +kernel
theorem tSS_36 : tC_36.all (fun c => tw_mg tK_36.2.2.2.2.1 c.2.2.2.2.1) = true := by decide +kernel
theorem tHC_36 : ∀ c ∈ tC_36, c.2.2.2.2.1.all tK_36.2.2.2.2.1.contains = true ∧ c.2.2.2.2.2.all (tc_wex c.2.1.1 c.2.1.2) = true := tf_hc tSS_36 (by
  intro c hc
  have hc : c ∈ ([tK_31, tK_28, tK_24, tK_30, tK_29, tK_35] : List tc_Ct) := hc
  rcases List.mem_cons.mp hc with rfl | hc
  · exact tE_31
  rcases List.mem_cons.mp hc with rfl | hc
  · exact tE_28
  rcases List.mem_cons.mp hc with rfl | hc
  · exact tE_24
  rcases List.mem_cons.mp hc with rfl | hc
  · exact tE_30
  rcases List.mem_cons.mp hc with rfl | hc
  · exact tE_29
  rcases List.mem_cons.mp hc with rfl | hc
  · exact tE_35
  cases hc)
noncomputable def tH_36_0 : List tc_It := [de_it 0x2010000, de_it 0x101010101000101000000000000000000000000000000000a000200010100010006, de_it 0x4010000, de_it 0x2, de_it 0x2010000, de_it 0x10e01040201010d010502010200000001, de_it 0x4010000, de_it 0x10f010302010300000001, de_it 0x4010000, de_it 0x300000001, de_it 0x2010000, de_it 0x101010101000101000000000000000000000000000000000a000200010102010006, de_it 0x10010000, de_it 0x100010114010101130101000000000000000000000000000000040ce80000020501020004020006, de_it 0x6010000, de_it 0x10a0101010d0101010e010a0201010e0101010e0110010a0301010e01100201011001010107010101060101010e01030110030101040101010301100201010e0104020101030101010e01100104030101140101011301010000000000000000000000000000000519000203010002020100010402020200020101000205010504020006040006, de_it 0x6e6462605e5c5a58564c4a2826201c1a1412100e0c0a08060402001b000d, de_it 0x6010000, de_it 0x10d010101110101010a010c010d0301010c010d02010001010c0101010b0101010c0103010d03010104010c010d0301010a0101010701010106010101040101010301010101010101000101000000000000000000000000000100011800020d0100020c0100020b0100020a010000000204010600010008, de_it 0x2010000, de_it 0x10a01010109010101080101010701010106010101050101010401010103010101020101010101010100010100000000000000000001000100010001130000010007]
set_option maxRecDepth 100000 in
theorem tR_36 : fw_go tV_36 tK_36.2.1.1 tK_36.2.1.2 none tH_36_0 [(tK_36.2.1, tK_36.2.2.2.1, 0, tc_args 0 tK_36.2.2.1, [], ([], 0), ([], 0))] = true := by decide +kernel
noncomputable def tH_36_1 : List tc_It := [de_it 0x4010000, de_it 0x300000001, de_it 0x4010000, de_it 0x105010101040101010a01060201010a01030201010e0101000000000700000003, de_it 0x8010000, de_it 0x2, de_it 0x4010000, de_it 0x10a01040103010204010104010e0201010a01060201010a010401030301010401020201010d0101010401070201010f010101050101010e0101010a0103020101020101010701010000000000000000000000000000000515000203010001040202020002010103040008030006, de_it 0x2010000, de_it 0x10a01010109010101060101010f0101010d0101010c0101010e01010103010a0201010501010104010101080101010301010102010101070101010101010100010100000000000000000001000100010001180001040202020102010007, de_it 0x6010000, de_it 0x11001030201010b010e02010200000001, de_it 0x10601010110010602010110010101050101010401010108010101030101010b010e02010110010302010000000000000000000000000000000111000203010002020100020501040202030304020a030006, de_it 0x8010000, de_it 0x81008090201080b01010200000001, de_it 0x80b01010810080902010200000001, de_it 0x2010000, de_it 0x101, de_it 0x4010000, de_it 0x300000001, de_it 0x11001090201010b01010200000001, de_it 0x2010000, de_it 0x10f0101010e0101010d0101010c0101010b0101010a010101090101010801010107010101060101010501010104010101030101010201010101010101000101000000000110010100010000000100010001180002090100020801000207010002060102020501000204010600010008, de_it 0x2010000, de_it 0x1060101010d0101010c0101010501010104010101080101010301010102010101070101010101010100010100000000000000000001000100010001130000010007]
set_option maxRecDepth 100000 in
theorem tP_36_0 : fw_plk tV_36 tL_36_0 tH_36_1 = true := by decide +kernel
set_option maxRecDepth 100000 in
theorem tT_36 {RO : am_O} {sa : Nat → Nat} (h_24 : tc_true (aP sa) tp_G RO tp_T tp_Z tK_24) (h_28 : tc_true (aP sa) tp_G RO tp_T tp_Z tK_28) (h_29 : tc_true (aP sa) tp_G RO tp_T tp_Z tK_29) (h_30 : tc_true (aP sa) tp_G RO tp_T tp_Z tK_30) (h_31 : tc_true (aP sa) tp_G RO tp_T tp_Z tK_31) (h_35 : tc_true (aP sa) tp_G RO tp_T tp_Z tK_35) : tc_true (aP sa) tp_G RO tp_T tp_Z tK_36 := by
  have hC : ∀ c ∈ tC_36, tc_true (aP sa) tp_G RO tp_T tp_Z c := by
    intro c hc
    have hc : c ∈ ([tK_31, tK_28, tK_24, tK_30, tK_29, tK_35] : List tc_Ct) := hc
    rcases List.mem_cons.mp hc with rfl | hc
    · exact h_31
    rcases List.mem_cons.mp hc with rfl | hc
    · exact h_28
    rcases List.mem_cons.mp hc with rfl | hc
    · exact h_24
    rcases List.mem_cons.mp hc with rfl | hc
    · exact h_30
    rcases List.mem_cons.mp hc with rfl | hc
    · exact h_29
    rcases List.mem_cons.mp hc with rfl | hc
    · exact h_35
    cases hc
  have hP : ∀ p ∈ tJ_36, ∃ hs, tc_plk (aP sa, tV_36.2) p hs = true := by
    intro p hp
    have hp : p ∈ ([tL_36_0] : List tc_Pl) := hp
    rcases List.mem_cons.mp hp with rfl | hp
    · exact ⟨_, (tc_plk_sa (aP_sa sa _)).trans ((fw_plk_s tHC_36).trans tP_36_0)⟩
    cases hp
  exact tc_main (mt := aM_39.1) (hs := tH_36_0) (PL := tJ_36) ⟨tp_G_ok, tMs_36 _, hC, tp_L_ok, tp_G_re⟩ (show am_meth (aP sa) 39 = some aM_39.1 from rfl) aX_39 (by decide +kernel) hP ((tc_go_sa (aP_sa sa _)).trans ((fw_go_s tHC_36).trans tR_36))
noncomputable def tK_37 : tc_Ct := (38, (3, 2), [(2, ([], 0), 0), (0, ([(0, 1)], 0), 0), (1, ([], 0), 0), (1, ([], 0), 0), (0, ([(1, 1)], 0), 0)], ([([(0, -1)], 2147483647), ([(0, 1)], 2147483648), ([(1, -1)], 2147483647), ([(1, 1)], 2147483648), ([(2, -1)], 8000000), ([(2, 1)], 0)], [(0, 165), (1, 166)], [], [(0, 0, (2, ([], 0), 1))], [], [], [(1016, [], []), (1024, [], []), (1088, [], []), (1096, [], []), (1136, [], [([(2, 1)], 0)]), (568, [1], [])]), [(167, 0), (167, 1), (167, 2), (167, 3), (167, 4), (167, 5), (177, 1), (178, 0), (178, 1), (193, 0), (193, 1000)], [((7, 2), ([([(0, -1)], 2147483647), ([(0, 1)], 2147483648), ([(1, -1)], 2147483647), ([(1, 1)], 2147483648), ([(2, -1)], 8000000), ([(2, 1)], 0), ([(3, -1)], 1), ([(3, 1)], 1), ([(4, -1)], 1), ([(4, 1)], 0), ([(5, -1)], 1598), ([(5, 1)], 0), ([(6, -1)], 8000000), ([(6, 1)], 1598), ([(4, -16), (5, 1)], 0), ([(2, 1), (5, -1), (6, -1)], 0)], [], [], [], [], [], [(1136, [], [([(6, 1)], 0)])]), some (0, ([(3, 1)], 0), 0), ([(4, 1)], 0), ([(5, 1)], 0))])
noncomputable def tJ_37 : List tc_Pl := []
noncomputable def tC_37 : List tc_Ct := [tK_36, tK_16, tK_27, tK_26]
def tM_37 (z : Nat) : Option am_Meth := if z = 39 then some aM_39.1 else if z = 23 then some aM_23.1 else if z = 13 then some aM_13.1 else none
set_option maxRecDepth 100000 in
theorem tMs_37 (sa : Nat → Nat) : ∀ z mz, tM_37 z = some mz → am_meth (aP sa) z = some mz := by
  intro z mz h
  unfold tM_37 at h
  rcases de_m h with ⟨rfl, rfl⟩ | h
  · exact (show am_meth (aP sa) 39 = some aM_39.1 from rfl)
  rcases de_m h with ⟨rfl, rfl⟩ | h
  · exact (show am_meth (aP sa) 23 = some aM_23.1 from rfl)
  rcases de_m h with ⟨rfl, rfl⟩ | h
  · exact (show am_meth (aP sa) 13 = some aM_13.1 from rfl)
  cases h
noncomputable def tV_37 : tc_Ev := (aQ, tp_T, tp_G.2, tp_Z, tM_37, tC_37, tp_L, tK_37.2.2.2.2.1, aM_38.1, aW_38, tK_37.2.1, tK_37.2.2.2.2.2, tJ_37)
theorem tE_37 : tK_37.2.2.2.2.2.all (tc_wex tK_37.2.1.1 tK_37.2.1.2) = true := by decide +kernel
theorem tSS_37 : tC_37.all (fun c => tw_mg tK_37.2.2.2.2.1 c.2.2.2.2.1) = true := by decide +kernel
theorem tHC_37 : ∀ c ∈ tC_37, c.2.2.2.2.1.all tK_37.2.2.2.2.1.contains = true ∧ c.2.2.2.2.2.all (tc_wex c.2.1.1 c.2.1.2) = true := tf_hc tSS_37 (by
  intro c hc
  have hc : c ∈ ([tK_36, tK_16, tK_27, tK_26] : List tc_Ct) := hc
  rcases List.mem_cons.mp hc with rfl | hc
  · exact tE_36
  rcases List.mem_cons.mp hc with rfl | hc
  · exact tE_16
  rcases List.mem_cons.mp hc with rfl | hc
  · exact tE_27
  rcases List.mem_cons.mp hc with rfl | hc
  · exact tE_26
  cases hc)
noncomputable def tH_37_0 : List tc_It := [de_it 0x4010000, de_it 0x300000001, de_it 0x2010000, de_it 0x1000101050101010401010001000100010001000100010105010101040101010301010102010101010101010601010000000000000000000000000001000118000202010000000001000400010007, de_it 0x4010000, de_it 0x300000001, de_it 0x2010000, de_it 0x1000101050101010401010001000100010001000100010105010101040101010301010102010101070101010001010000000000000000000000000001000118000202010000000001000400010007, de_it 0x2010000, de_it 0x300000001, de_it 0x2010000, de_it 0x1000101050101010401010001000100010001000100010105010101040101010301010108010101060101010701010000000000000000000000000001000118000202010000000001000400010007, de_it 0x4010000, de_it 0x2, de_it 0x2, de_it 0x300000001, de_it 0x2010000, de_it 0x2, de_it 0x2, de_it 0x8010000, de_it 0x2, de_it 0x2010000, de_it 0x402000f, de_it 0x8010011, de_it 0x4010010, de_it 0x10e0101010b010e0201010b010101100101010f010101090101010a010101080101010b010a020101060101010701010000000000000000000000000000000513000204010002030100020101000200010408040600040006, de_it 0x4010000, de_it 0x1011c010100000300000001, de_it 0x2010000, de_it 0x2, de_it 0x10e010101100101010f010101090101010a0101000000000000000000000000000000000d000204010002030102080402030006, de_it 0x2010000, de_it 0x10123010100000300000001, de_it 0x2010000, de_it 0x1000101050101010401010001000100010001000100010105010101040101010801010113010101060101010701010000000000000000000000000001000118000202010000000000000400010007, de_it 0x4010000, de_it 0x10000012201010300000001, de_it 0x2010000, de_it 0x2, de_it 0xa02000f, de_it 0xc010011, de_it 0xa010010, de_it 0x20a02000f, de_it 0xa010010, de_it 0x128010101250101012401010126010101270101000000000000000000000000000000000d0002060100020701020c0a04030006, de_it 0x504e4c4a48403e3a383634322c26201e1c14100e0c0a0817000d, de_it 0x2010000, de_it 0x2, de_it 0x2010000, de_it 0x2, de_it 0x2, de_it 0x4010000, de_it 0x2, de_it 0x2, de_it 0x11101060201010e0101010701090201010f0101010101010100010101130101011201010108010101070101010c0101010b0101010401010109010100000000000000000000000000000003160002020100020601000204010002050100020101050c080a06040006, de_it 0x6462605e5c5a5854504e4c4a484644422c2a28262422201e1c1a18161412100e0c0a080604020027000d, de_it 0x2010000, de_it 0x2, de_it 0x111010602010108010101070101010c0101010b0101000000000000000000000000000000000d000204010002050102080402030006, de_it 0x2010000, de_it 0x10000012d01010300000001, de_it 0x4010000, de_it 0x126010101230101011e0101011d0101011c0101011b0101011a01010119010100010001010101010100010101040101010901010102010101030101000000000000000000000000000100011800020b0100020a010002090102000400010007, de_it 0x2010000, de_it 0x10001010501010104010100010001000100010001000101050101010401010109010b02010102010101060101010701010000000000000000000000000001000118000202010000000001000400010007]
set_option maxRecDepth 100000 in
theorem tR_37 : fw_go tV_37 tK_37.2.1.1 tK_37.2.1.2 none tH_37_0 [(tK_37.2.1, tK_37.2.2.2.1, 0, tc_args 0 tK_37.2.2.1, [], ([], 0), ([], 0))] = true := by decide +kernel
set_option maxRecDepth 100000 in
theorem tT_37 {RO : am_O} {sa : Nat → Nat} (h_16 : tc_true (aP sa) tp_G RO tp_T tp_Z tK_16) (h_26 : tc_true (aP sa) tp_G RO tp_T tp_Z tK_26) (h_27 : tc_true (aP sa) tp_G RO tp_T tp_Z tK_27) (h_36 : tc_true (aP sa) tp_G RO tp_T tp_Z tK_36) : tc_true (aP sa) tp_G RO tp_T tp_Z tK_37 := by
  have hC : ∀ c ∈ tC_37, tc_true (aP sa) tp_G RO tp_T tp_Z c := by
    intro c hc
    have hc : c ∈ ([tK_36, tK_16, tK_27, tK_26] : List tc_Ct) := hc
    rcases List.mem_cons.mp hc with rfl | hc
    · exact h_36
    rcases List.mem_cons.mp hc with rfl | hc
    · exact h_16
    rcases List.mem_cons.mp hc with rfl | hc
    · exact h_27
    rcases List.mem_cons.mp hc with rfl | hc
    · exact h_26
    cases hc
  have hP : ∀ p ∈ tJ_37, ∃ hs, tc_plk (aP sa, tV_37.2) p hs = true := by
    intro p hp
    have hp : p ∈ ([] : List tc_Pl) := hp
    cases hp
  exact tc_main (mt := aM_38.1) (hs := tH_37_0) (PL := tJ_37) ⟨tp_G_ok, tMs_37 _, hC, tp_L_ok, tp_G_re⟩ (show am_meth (aP sa) 38 = some aM_38.1 from rfl) aX_38 (by decide +kernel) hP ((tc_go_sa (aP_sa sa _)).trans ((fw_go_s tHC_37).trans tR_37))
noncomputable def tK_38 : tc_Ct := (42, (1, 0), [(0, ([(0, 1)], 0), 0)], ([([(0, -1)], 2147483647), ([(0, 1)], 2147483648)], [], [], [], [], [], []), [], [((1, 0), ([([(0, -1)], 2147483647), ([(0, 1)], 2147483648)], [], [], [], [], [], []), some (0, ([], 0), 0), ([], 0), ([], 0)), ((1, 0), ([([(0, -1)], 3), ([(0, 1)], -1)], [], [], [], [], [], []), some (0, ([], 1), 0), ([], 0), ([], 0))])
noncomputable def tJ_38 : List tc_Pl := []
noncomputable def tC_38 : List tc_Ct := []
def tM_38 (z : Nat) : Option am_Meth := none
set_option maxRecDepth 100000 in
theorem tMs_38 (sa : Nat → Nat) : ∀ z mz, tM_38 z = some mz → am_meth (aP sa) z = some mz := fun z mz h => by cases h
noncomputable def tV_38 : tc_Ev := (aQ, tp_T, tp_G.2, tp_Z, tM_38, tC_38, tp_L, tK_38.2.2.2.2.1, aM_42.1, aW_42, tK_38.2.1, tK_38.2.2.2.2.2, tJ_38)
theorem tE_38 : tK_38.2.2.2.2.2.all (tc_wex tK_38.2.1.1 tK_38.2.1.2) = true := by decide +kernel
theorem tSS_38 : tC_38.all (fun c => tw_mg tK_38.2.2.2.2.1 c.2.2.2.2.1) = true := by decide +kernel
theorem tHC_38 : ∀ c ∈ tC_38, c.2.2.2.2.1.all tK_38.2.2.2.2.1.contains = true ∧ c.2.2.2.2.2.all (tc_wex c.2.1.1 c.2.1.2) = true := tf_hc tSS_38 (by
  intro c hc
  have hc : c ∈ ([] : List tc_Ct) := hc
  cases hc)
noncomputable def tH_38_0 : List tc_It := [de_it 0x4010000, de_it 0x300000001, de_it 0x2010000, de_it 0x101010101020101000000000000000000010001000100010a0000010007, de_it 0x4010000, de_it 0x300000001, de_it 0x2010000, de_it 0x103010101000101000000000000000000010001000100010a0000010007, de_it 0x4010000, de_it 0x102010101030101000000000000000000010001000100010a0002010007]
set_option maxRecDepth 100000 in
theorem tR_38 : fw_go tV_38 tK_38.2.1.1 tK_38.2.1.2 none tH_38_0 [(tK_38.2.1, tK_38.2.2.2.1, 0, tc_args 0 tK_38.2.2.1, [], ([], 0), ([], 0))] = true := by decide +kernel
set_option maxRecDepth 100000 in
theorem tT_38 {RO : am_O} {sa : Nat → Nat} : tc_true (aP sa) tp_G RO tp_T tp_Z tK_38 := by
  have hC : ∀ c ∈ tC_38, tc_true (aP sa) tp_G RO tp_T tp_Z c := by
    intro c hc
    have hc : c ∈ ([] : List tc_Ct) := hc
    cases hc
  have hP : ∀ p ∈ tJ_38, ∃ hs, tc_plk (aP sa, tV_38.2) p hs = true := by
    intro p hp
    have hp : p ∈ ([] : List tc_Pl) := hp
    cases hp
  exact tc_main (mt := aM_42.1) (hs := tH_38_0) (PL := tJ_38) ⟨tp_G_ok, tMs_38 _, hC, tp_L_ok, tp_G_re⟩ (show am_meth (aP sa) 42 = some aM_42.1 from rfl) aX_42 (by decide +kernel) hP ((tc_go_sa (aP_sa sa _)).trans ((fw_go_s tHC_38).trans tR_38))
noncomputable def tK_39 : tc_Ct := (43, (2, 0), [(1, ([], 0), 0), (0, ([(0, 1)], 0), 0), (0, ([(1, 1)], 0), 0)], ([([(0, -1)], 2147483647), ([(0, 1)], 2147483648), ([(1, -1)], 2147483647), ([(1, 1)], -2147483579)], [], [], [], [], [], []), [], [((3, 0), ([([(0, -1)], 2147483647), ([(0, 1)], 2147483648), ([(1, -1)], 2147483647), ([(1, 1)], -2147483579), ([(2, -1)], 2147483647), ([(2, 1)], 2147483648)], [], [], [], [], [], []), some (0, ([(2, 1)], 0), 0), ([], 0), ([], 0))])
noncomputable def tL_39_0 : tc_Pl := de_pl 0x30d20ff000001020201020000000000030d20ff000300000000000000020201000900000001070000000105000002010100040000020001000205100000000000000002020100000000ffffff75ff02010100000000fffffffeff0101010000000100000000ff02000100000000fffffffeff010001050003
noncomputable def tJ_39 : List tc_Pl := [tL_39_0]
noncomputable def tC_39 : List tc_Ct := []
def tM_39 (z : Nat) : Option am_Meth := none
set_option maxRecDepth 100000 in
theorem tMs_39 (sa : Nat → Nat) : ∀ z mz, tM_39 z = some mz → am_meth (aP sa) z = some mz := fun z mz h => by cases h
noncomputable def tV_39 : tc_Ev := (aQ, tp_T, tp_G.2, tp_Z, tM_39, tC_39, tp_L, tK_39.2.2.2.2.1, aM_43.1, aW_43, tK_39.2.1, tK_39.2.2.2.2.2, tJ_39)
theorem tE_39 : tK_39.2.2.2.2.2.all (tc_wex tK_39.2.1.1 tK_39.2.1.2) = true := by decide +kernel
theorem tSS_39 : tC_39.all (fun c => tw_mg tK_39.2.2.2.2.1 c.2.2.2.2.1) = true := by decide +kernel
theorem tHC_39 : ∀ c ∈ tC_39, c.2.2.2.2.1.all tK_39.2.2.2.2.1.contains = true ∧ c.2.2.2.2.2.all (tc_wex c.2.1.1 c.2.1.2) = true := tf_hc tSS_39 (by
  intro c hc
  have hc : c ∈ ([] : List tc_Ct) := hc
  cases hc)
noncomputable def tH_39_0 : List tc_It := [de_it 0x4010000, de_it 0x104010302010200000005, de_it 0xe010000, de_it 0x101030101010201010101010101000101000000000000000000000000000100010d00000100010008]
set_option maxRecDepth 100000 in
theorem tR_39 : fw_go tV_39 tK_39.2.1.1 tK_39.2.1.2 none tH_39_0 [(tK_39.2.1, tK_39.2.2.2.1, 0, tc_args 0 tK_39.2.2.1, [], ([], 0), ([], 0))] = true := by decide +kernel
noncomputable def tH_39_1 : List tc_It := [de_it 0x4010000, de_it 0x300000001, de_it 0x2010000, de_it 0x101, de_it 0x10601010107010101030101010201010101010101000101000000000000000000000000000100010e000203010100010007, de_it 0x4010000, de_it 0x101, de_it 0x300000001, de_it 0x2010000, de_it 0x101, de_it 0x10a0101010b010101030101010201010101010101000101000000000000000000000000000100010e000204010100010007, de_it 0x4010000, de_it 0x101, de_it 0x6010000, de_it 0x10b0101000000000300000001, de_it 0xa010000, de_it 0x10301010100000001, de_it 0x2010000, de_it 0x1050101010401010200000001, de_it 0x2010000, de_it 0x10401010103010101020101010101010100010100000000010501030201000100000001000100010d020202010100010008, de_it 0xa010000, de_it 0x10301010100000001, de_it 0xc010000, de_it 0x10301010100000001, de_it 0x2010000, de_it 0x1050101010401010200000001, de_it 0x2010000, de_it 0x10401010103010101020101010101010100010100000000010501030201000100000001000100010d020202010100010008]
set_option maxRecDepth 100000 in
theorem tP_39_0 : fw_plk tV_39 tL_39_0 tH_39_1 = true := by decide +kernel
set_option maxRecDepth 100000 in
theorem tT_39 {RO : am_O} {sa : Nat → Nat} : tc_true (aP sa) tp_G RO tp_T tp_Z tK_39 := by
  have hC : ∀ c ∈ tC_39, tc_true (aP sa) tp_G RO tp_T tp_Z c := by
    intro c hc
    have hc : c ∈ ([] : List tc_Ct) := hc
    cases hc
  have hP : ∀ p ∈ tJ_39, ∃ hs, tc_plk (aP sa, tV_39.2) p hs = true := by
    intro p hp
    have hp : p ∈ ([tL_39_0] : List tc_Pl) := hp
    rcases List.mem_cons.mp hp with rfl | hp
    · exact ⟨_, (tc_plk_sa (aP_sa sa _)).trans ((fw_plk_s tHC_39).trans tP_39_0)⟩
    cases hp
  exact tc_main (mt := aM_43.1) (hs := tH_39_0) (PL := tJ_39) ⟨tp_G_ok, tMs_39 _, hC, tp_L_ok, tp_G_re⟩ (show am_meth (aP sa) 43 = some aM_43.1 from rfl) aX_43 (by decide +kernel) hP ((tc_go_sa (aP_sa sa _)).trans ((fw_go_s tHC_39).trans tR_39))
noncomputable def tK_40 : tc_Ct := (41, (2, 1), [(2, ([], 0), 0), (0, ([(0, 1)], 0), 0), (0, ([(1, 1)], 0), 0)], ([([(0, -1)], 2147483647), ([(0, 1)], 2147483648), ([(1, -1)], 2147483647), ([(1, 1)], 2147483648)], [(0, 167)], [], [], [], [], []), [], [((3, 1), ([([(0, -1)], 2147483647), ([(0, 1)], 2147483648), ([(1, -1)], 2147483647), ([(1, 1)], 2147483648), ([(2, -1)], 2147483647), ([(2, 1)], 2147483648)], [], [], [], [], [], []), some (0, ([(2, 1)], 0), 0), ([], 0), ([], 0))])
noncomputable def tJ_40 : List tc_Pl := []
noncomputable def tC_40 : List tc_Ct := [tK_38, tK_39]
def tM_40 (z : Nat) : Option am_Meth := if z = 43 then some aM_43.1 else if z = 42 then some aM_42.1 else none
set_option maxRecDepth 100000 in
theorem tMs_40 (sa : Nat → Nat) : ∀ z mz, tM_40 z = some mz → am_meth (aP sa) z = some mz := by
  intro z mz h
  unfold tM_40 at h
  rcases de_m h with ⟨rfl, rfl⟩ | h
  · exact (show am_meth (aP sa) 43 = some aM_43.1 from rfl)
  rcases de_m h with ⟨rfl, rfl⟩ | h
  · exact (show am_meth (aP sa) 42 = some aM_42.1 from rfl)
  cases h
noncomputable def tV_40 : tc_Ev := (aQ, tp_T, tp_G.2, tp_Z, tM_40, tC_40, tp_L, tK_40.2.2.2.2.1, aM_41.1, aW_41, tK_40.2.1, tK_40.2.2.2.2.2, tJ_40)
theorem tE_40 : tK_40.2.2.2.2.2.all (tc_wex tK_40.2.1.1 tK_40.2.1.2) = true := by decide +kernel
theorem tSS_40 : tC_40.all (fun c => tw_mg tK_40.2.2.2.2.1 c.2.2.2.2.1) = true := by decide +kernel
theorem tHC_40 : ∀ c ∈ tC_40, c.2.2.2.2.1.all tK_40.2.2.2.2.1.contains = true ∧ c.2.2.2.2.2.all (tc_wex c.2.1.1 c.2.1.2) = true := tf_hc tSS_40 (by
  intro c hc
  have hc : c ∈ ([tK_38, tK_39] : List tc_Ct) := hc
  rcases List.mem_cons.mp hc with rfl | hc
  · exact tE_38
  rcases List.mem_cons.mp hc with rfl | hc
  · exact tE_39
  cases hc)
noncomputable def tH_40_0 : List tc_It := [de_it 0x2010000, de_it 0x101010101000101000000000000000000000000000000000a000200010100010006, de_it 0x10106010100000300000001, de_it 0x2010000, de_it 0x1000101030101010201010101010101000101000000000000000000000000000100010e00000100010007, de_it 0x10000010701010300000001, de_it 0x2, de_it 0x4010000, de_it 0x1040101010501010200000001, de_it 0x2010011, de_it 0x107010402010105010102010200010100010002, de_it 0x4010000, de_it 0x2, de_it 0x4010000, de_it 0x1040101010501010200000001, de_it 0x4010011, de_it 0x10d010402010105010102010200010100010002, de_it 0x1110101011001010103010101020101000000000000000000000000000000000c00020501000201010202010006, de_it 0x2010000, de_it 0x11801010117010101030101010201010105010101040101000000000000000000000000000100010e000206010100010007]
set_option maxRecDepth 100000 in
theorem tR_40 : fw_go tV_40 tK_40.2.1.1 tK_40.2.1.2 none tH_40_0 [(tK_40.2.1, tK_40.2.2.2.1, 0, tc_args 0 tK_40.2.2.1, [], ([], 0), ([], 0))] = true := by decide +kernel
set_option maxRecDepth 100000 in
theorem tT_40 {RO : am_O} {sa : Nat → Nat} (h_38 : tc_true (aP sa) tp_G RO tp_T tp_Z tK_38) (h_39 : tc_true (aP sa) tp_G RO tp_T tp_Z tK_39) : tc_true (aP sa) tp_G RO tp_T tp_Z tK_40 := by
  have hC : ∀ c ∈ tC_40, tc_true (aP sa) tp_G RO tp_T tp_Z c := by
    intro c hc
    have hc : c ∈ ([tK_38, tK_39] : List tc_Ct) := hc
    rcases List.mem_cons.mp hc with rfl | hc
    · exact h_38
    rcases List.mem_cons.mp hc with rfl | hc
    · exact h_39
    cases hc
  have hP : ∀ p ∈ tJ_40, ∃ hs, tc_plk (aP sa, tV_40.2) p hs = true := by
    intro p hp
    have hp : p ∈ ([] : List tc_Pl) := hp
    cases hp
  exact tc_main (mt := aM_41.1) (hs := tH_40_0) (PL := tJ_40) ⟨tp_G_ok, tMs_40 _, hC, tp_L_ok, tp_G_re⟩ (show am_meth (aP sa) 41 = some aM_41.1 from rfl) aX_41 (by decide +kernel) hP ((tc_go_sa (aP_sa sa _)).trans ((fw_go_s tHC_40).trans tR_40))
noncomputable def tK_41 : tc_Ct := (40, (2, 2), [(2, ([], 0), 0), (0, ([(0, 1)], 0), 0), (0, ([(1, 1)], 0), 0)], ([([(0, -1)], 2147483647), ([(0, 1)], 2147483648), ([(1, -1)], 2147483647), ([(1, 1)], 2147483648)], [(0, 165), (1, 166)], [], [(0, 0, (2, ([], 0), 1))], [], [], [(568, [1], [])]), [], [((3, 2), ([([(0, -1)], 2147483647), ([(0, 1)], 2147483648), ([(1, -1)], 2147483647), ([(1, 1)], 2147483648), ([(2, -1)], 2147483647), ([(2, 1)], 2147483648)], [], [], [], [], [], []), some (0, ([(2, 1)], 0), 0), ([], 0), ([], 0))])
noncomputable def tJ_41 : List tc_Pl := []
noncomputable def tC_41 : List tc_Ct := [tK_40]
def tM_41 (z : Nat) : Option am_Meth := if z = 41 then some aM_41.1 else none
set_option maxRecDepth 100000 in
theorem tMs_41 (sa : Nat → Nat) : ∀ z mz, tM_41 z = some mz → am_meth (aP sa) z = some mz := by
  intro z mz h
  unfold tM_41 at h
  rcases de_m h with ⟨rfl, rfl⟩ | h
  · exact (show am_meth (aP sa) 41 = some aM_41.1 from rfl)
  cases h
noncomputable def tV_41 : tc_Ev := (aQ, tp_T, tp_G.2, tp_Z, tM_41, tC_41, tp_L, tK_41.2.2.2.2.1, aM_40.1, aW_40, tK_41.2.1, tK_41.2.2.2.2.2, tJ_41)
theorem tE_41 : tK_41.2.2.2.2.2.all (tc_wex tK_41.2.1.1 tK_41.2.1.2) = true := by decide +kernel
theorem tSS_41 : tC_41.all (fun c => tw_mg tK_41.2.2.2.2.1 c.2.2.2.2.1) = true := by decide +kernel
theorem tHC_41 : ∀ c ∈ tC_41, c.2.2.2.2.1.all tK_41.2.2.2.2.1.contains = true ∧ c.2.2.2.2.2.all (tc_wex c.2.1.1 c.2.1.2) = true := tf_hc tSS_41 (by
  intro c hc
  have hc : c ∈ ([tK_40] : List tc_Ct) := hc
  rcases List.mem_cons.mp hc with rfl | hc
  · exact tE_40
  cases hc)
noncomputable def tH_41_0 : List tc_It := [de_it 0x4010000, de_it 0x300000001, de_it 0x2010000, de_it 0x1000101030101010201010101010101040101000000000000000000000000000100010e01000100010007, de_it 0x4010000, de_it 0x300000001, de_it 0x2010000, de_it 0x1000101030101010201010105010101000101000000000000000000000000000100010e01000100010007, de_it 0x2010000, de_it 0x300000001, de_it 0x2010000, de_it 0x2, de_it 0x2, de_it 0x4010000, de_it 0x1060101010201010104010101050101000000000000000000000000000000020c0002010100020001020400020006, de_it 0x10c0101010b010101060101010201010104010101050101000000000000000000000000000100010e000202010100010007, de_it 0x2010000, de_it 0x1000101030101010601010104010101050101000000000000000000000000000100010e01000100010007]
set_option maxRecDepth 100000 in
theorem tR_41 : fw_go tV_41 tK_41.2.1.1 tK_41.2.1.2 none tH_41_0 [(tK_41.2.1, tK_41.2.2.2.1, 0, tc_args 0 tK_41.2.2.1, [], ([], 0), ([], 0))] = true := by decide +kernel
set_option maxRecDepth 100000 in
theorem tT_41 {RO : am_O} {sa : Nat → Nat} (h_40 : tc_true (aP sa) tp_G RO tp_T tp_Z tK_40) : tc_true (aP sa) tp_G RO tp_T tp_Z tK_41 := by
  have hC : ∀ c ∈ tC_41, tc_true (aP sa) tp_G RO tp_T tp_Z c := by
    intro c hc
    have hc : c ∈ ([tK_40] : List tc_Ct) := hc
    rcases List.mem_cons.mp hc with rfl | hc
    · exact h_40
    cases hc
  have hP : ∀ p ∈ tJ_41, ∃ hs, tc_plk (aP sa, tV_41.2) p hs = true := by
    intro p hp
    have hp : p ∈ ([] : List tc_Pl) := hp
    cases hp
  exact tc_main (mt := aM_40.1) (hs := tH_41_0) (PL := tJ_41) ⟨tp_G_ok, tMs_41 _, hC, tp_L_ok, tp_G_re⟩ (show am_meth (aP sa) 40 = some aM_40.1 from rfl) aX_40 (by decide +kernel) hP ((tc_go_sa (aP_sa sa _)).trans ((fw_go_s tHC_41).trans tR_41))
noncomputable def tK_42 : tc_Ct := (45, (3, 1), [(2, ([], 0), 0), (0, ([(0, 1)], 0), 0), (0, ([(1, 1)], 0), 0), (0, ([(2, 1)], 0), 0)], ([([(0, -1)], 255), ([(0, 1)], 0), ([(1, -1)], 2147483647), ([(1, 1)], 2147483648), ([(2, -1)], 2147483647), ([(2, 1)], 2147483648)], [(0, 167)], [], [], [], [], []), [], [((3, 1), ([([(0, -1)], 255), ([(0, 1)], 0), ([(1, -1)], 2147483647), ([(1, 1)], 2147483648), ([(2, -1)], 2147483647), ([(2, 1)], 2147483648)], [], [], [], [], [], []), some (1, ([], 0), 0), ([], 0), ([], 0))])
noncomputable def tJ_42 : List tc_Pl := []
noncomputable def tC_42 : List tc_Ct := [tK_38, tK_39]
def tM_42 (z : Nat) : Option am_Meth := if z = 43 then some aM_43.1 else if z = 42 then some aM_42.1 else none
set_option maxRecDepth 100000 in
theorem tMs_42 (sa : Nat → Nat) : ∀ z mz, tM_42 z = some mz → am_meth (aP sa) z = some mz := by
  intro z mz h
  unfold tM_42 at h
  rcases de_m h with ⟨rfl, rfl⟩ | h
  · exact (show am_meth (aP sa) 43 = some aM_43.1 from rfl)
  rcases de_m h with ⟨rfl, rfl⟩ | h
  · exact (show am_meth (aP sa) 42 = some aM_42.1 from rfl)
  cases h
noncomputable def tV_42 : tc_Ev := (aQ, tp_T, tp_G.2, tp_Z, tM_42, tC_42, tp_L, tK_42.2.2.2.2.1, aM_45.1, aW_45, tK_42.2.1, tK_42.2.2.2.2.2, tJ_42)
theorem tE_42 : tK_42.2.2.2.2.2.all (tc_wex tK_42.2.1.1 tK_42.2.1.2) = true := by decide +kernel
theorem tSS_42 : tC_42.all (fun c => tw_mg tK_42.2.2.2.2.1 c.2.2.2.2.1) = true := by decide +kernel
theorem tHC_42 : ∀ c ∈ tC_42, c.2.2.2.2.1.all tK_42.2.2.2.2.1.contains = true ∧ c.2.2.2.2.2.all (tc_wex c.2.1.1 c.2.1.2) = true := tf_hc tSS_42 (by
  intro c hc
  have hc : c ∈ ([tK_38, tK_39] : List tc_Ct) := hc
  rcases List.mem_cons.mp hc with rfl | hc
  · exact tE_38
  rcases List.mem_cons.mp hc with rfl | hc
  · exact tE_39
  cases hc)
noncomputable def tH_42_0 : List tc_It := [de_it 0x2010000, de_it 0x101010101000101000000000000000000000000000000000a000200010100010006, de_it 0x10000010801010300000001, de_it 0x2010000, de_it 0x10501010104010101030101010201010101010101000101000000000000000000000000000100010e0000010007, de_it 0x10109010100000300000001, de_it 0x2, de_it 0x4010000, de_it 0x1060101010701010200000001, de_it 0x2010011, de_it 0x109010602010107010102010200010100010002, de_it 0x6010000, de_it 0x300000001, de_it 0x2010000, de_it 0x1050101010f010101030101010201010107010101060101000000000000000000000000000100010e0000010007, de_it 0x6010000, de_it 0x10c0101010d01010200000001, de_it 0x300000001, de_it 0x8010000, de_it 0x10d0101010c01010103010101020101000000000000000000000000000000000c00020401000201010202010006, de_it 0x6010000, de_it 0x300000001, de_it 0x4010000, de_it 0x10f01010110010c020101030101010201010107010101060101000000000000000000000000000100010e0000010007, de_it 0x6010000, de_it 0x10c0101010d01010200000001, de_it 0x300000001, de_it 0x4010000, de_it 0x10f01010110010c020101030101010201010107010101060101000000000000000000000000000100010e0000010007, de_it 0x4010000, de_it 0x10f01010110010c020101030101010201010107010101060101000000000000000000000000000100010e0000010007, de_it 0x2010000, de_it 0x10d011002010104010101030101010201010107010101060101000000000000000000000000000100010e0000010007]
set_option maxRecDepth 100000 in
theorem tR_42 : fw_go tV_42 tK_42.2.1.1 tK_42.2.1.2 none tH_42_0 [(tK_42.2.1, tK_42.2.2.2.1, 0, tc_args 0 tK_42.2.2.1, [], ([], 0), ([], 0))] = true := by decide +kernel
set_option maxRecDepth 100000 in
theorem tT_42 {RO : am_O} {sa : Nat → Nat} (h_38 : tc_true (aP sa) tp_G RO tp_T tp_Z tK_38) (h_39 : tc_true (aP sa) tp_G RO tp_T tp_Z tK_39) : tc_true (aP sa) tp_G RO tp_T tp_Z tK_42 := by
  have hC : ∀ c ∈ tC_42, tc_true (aP sa) tp_G RO tp_T tp_Z c := by
    intro c hc
    have hc : c ∈ ([tK_38, tK_39] : List tc_Ct) := hc
    rcases List.mem_cons.mp hc with rfl | hc
    · exact h_38
    rcases List.mem_cons.mp hc with rfl | hc
    · exact h_39
    cases hc
  have hP : ∀ p ∈ tJ_42, ∃ hs, tc_plk (aP sa, tV_42.2) p hs = true := by
    intro p hp
    have hp : p ∈ ([] : List tc_Pl) := hp
    cases hp
  exact tc_main (mt := aM_45.1) (hs := tH_42_0) (PL := tJ_42) ⟨tp_G_ok, tMs_42 _, hC, tp_L_ok, tp_G_re⟩ (show am_meth (aP sa) 45 = some aM_45.1 from rfl) aX_45 (by decide +kernel) hP ((tc_go_sa (aP_sa sa _)).trans ((fw_go_s tHC_42).trans tR_42))
noncomputable def tK_43 : tc_Ct := (44, (3, 2), [(2, ([], 0), 0), (0, ([(0, 1)], 0), 0), (0, ([(1, 1)], 0), 0), (0, ([(2, 1)], 0), 0)], ([([(0, -1)], 2147483647), ([(0, 1)], 2147483648), ([(1, -1)], 2147483647), ([(1, 1)], 2147483648), ([(2, -1)], 2147483647), ([(2, 1)], 2147483648)], [(0, 165), (1, 166)], [], [(0, 0, (2, ([], 0), 1))], [], [], [(568, [1], [])]), [], [((3, 2), ([([(0, -1)], 2147483647), ([(0, 1)], 2147483648), ([(1, -1)], 2147483647), ([(1, 1)], 2147483648), ([(2, -1)], 2147483647), ([(2, 1)], 2147483648)], [], [], [], [], [], []), some (1, ([], 0), 0), ([], 0), ([], 0))])
noncomputable def tJ_43 : List tc_Pl := []
noncomputable def tC_43 : List tc_Ct := [tK_42]
def tM_43 (z : Nat) : Option am_Meth := if z = 45 then some aM_45.1 else none
set_option maxRecDepth 100000 in
theorem tMs_43 (sa : Nat → Nat) : ∀ z mz, tM_43 z = some mz → am_meth (aP sa) z = some mz := by
  intro z mz h
  unfold tM_43 at h
  rcases de_m h with ⟨rfl, rfl⟩ | h
  · exact (show am_meth (aP sa) 45 = some aM_45.1 from rfl)
  cases h
noncomputable def tV_43 : tc_Ev := (aQ, tp_T, tp_G.2, tp_Z, tM_43, tC_43, tp_L, tK_43.2.2.2.2.1, aM_44.1, aW_44, tK_43.2.1, tK_43.2.2.2.2.2, tJ_43)
theorem tE_43 : tK_43.2.2.2.2.2.all (tc_wex tK_43.2.1.1 tK_43.2.1.2) = true := by decide +kernel
theorem tSS_43 : tC_43.all (fun c => tw_mg tK_43.2.2.2.2.1 c.2.2.2.2.1) = true := by decide +kernel
theorem tHC_43 : ∀ c ∈ tC_43, c.2.2.2.2.1.all tK_43.2.2.2.2.1.contains = true ∧ c.2.2.2.2.2.all (tc_wex c.2.1.1 c.2.1.2) = true := tf_hc tSS_43 (by
  intro c hc
  have hc : c ∈ ([tK_42] : List tc_Ct) := hc
  rcases List.mem_cons.mp hc with rfl | hc
  · exact tE_42
  cases hc)
noncomputable def tH_43_0 : List tc_It := [de_it 0x4010000, de_it 0x300000001, de_it 0x2010000, de_it 0x10501010104010101030101010201010101010101060101000000000000000000000000000100010e0000010007, de_it 0x4010000, de_it 0x300000001, de_it 0x2010000, de_it 0x10501010104010101030101010201010107010101000101000000000000000000000000000100010e0000010007, de_it 0x2010000, de_it 0x300000001, de_it 0x2010000, de_it 0x2, de_it 0x2, de_it 0x6010000, de_it 0x10501010104010101080101010201010106010101070101000000000000000000000000000000030e000202010002010100020001030400020006, de_it 0x10501010104010101080101010201010106010101070101000000000000000000000000000100010e0000010007, de_it 0x2010000, de_it 0x10501010104010101030101010801010106010101070101000000000000000000000000000100010e0000010007]
set_option maxRecDepth 100000 in
theorem tR_43 : fw_go tV_43 tK_43.2.1.1 tK_43.2.1.2 none tH_43_0 [(tK_43.2.1, tK_43.2.2.2.1, 0, tc_args 0 tK_43.2.2.1, [], ([], 0), ([], 0))] = true := by decide +kernel
set_option maxRecDepth 100000 in
theorem tT_43 {RO : am_O} {sa : Nat → Nat} (h_42 : tc_true (aP sa) tp_G RO tp_T tp_Z tK_42) : tc_true (aP sa) tp_G RO tp_T tp_Z tK_43 := by
  have hC : ∀ c ∈ tC_43, tc_true (aP sa) tp_G RO tp_T tp_Z c := by
    intro c hc
    have hc : c ∈ ([tK_42] : List tc_Ct) := hc
    rcases List.mem_cons.mp hc with rfl | hc
    · exact h_42
    cases hc
  have hP : ∀ p ∈ tJ_43, ∃ hs, tc_plk (aP sa, tV_43.2) p hs = true := by
    intro p hp
    have hp : p ∈ ([] : List tc_Pl) := hp
    cases hp
  exact tc_main (mt := aM_44.1) (hs := tH_43_0) (PL := tJ_43) ⟨tp_G_ok, tMs_43 _, hC, tp_L_ok, tp_G_re⟩ (show am_meth (aP sa) 44 = some aM_44.1 from rfl) aX_44 (by decide +kernel) hP ((tc_go_sa (aP_sa sa _)).trans ((fw_go_s tHC_43).trans tR_43))
noncomputable def tK_44 : tc_Ct := (47, (1, 0), [(0, ([(0, 1)], 0), 0)], ([([(0, -1)], 2147483647), ([(0, 1)], 2147483648)], [], [], [], [], [], []), [], [((1, 0), ([([(0, -1)], 2147483647), ([(0, 1)], 2147483648)], [], [], [], [], [], []), some (0, ([], 0), 0), ([], 0), ([], 0)), ((1, 0), ([([(0, -1)], 1073741788), ([(0, 1)], -1)], [], [], [], [], [], []), some (0, ([], 1), 0), ([], 0), ([], 0))])
noncomputable def tJ_44 : List tc_Pl := []
noncomputable def tC_44 : List tc_Ct := []
def tM_44 (z : Nat) : Option am_Meth := none
set_option maxRecDepth 100000 in
theorem tMs_44 (sa : Nat → Nat) : ∀ z mz, tM_44 z = some mz → am_meth (aP sa) z = some mz := fun z mz h => by cases h
noncomputable def tV_44 : tc_Ev := (aQ, tp_T, tp_G.2, tp_Z, tM_44, tC_44, tp_L, tK_44.2.2.2.2.1, aM_47.1, aW_47, tK_44.2.1, tK_44.2.2.2.2.2, tJ_44)
theorem tE_44 : tK_44.2.2.2.2.2.all (tc_wex tK_44.2.1.1 tK_44.2.1.2) = true := by decide +kernel
theorem tSS_44 : tC_44.all (fun c => tw_mg tK_44.2.2.2.2.1 c.2.2.2.2.1) = true := by decide +kernel
theorem tHC_44 : ∀ c ∈ tC_44, c.2.2.2.2.1.all tK_44.2.2.2.2.1.contains = true ∧ c.2.2.2.2.2.all (tc_wex c.2.1.1 c.2.1.2) = true := tf_hc tSS_44 (by
  intro c hc
  have hc : c ∈ ([] : List tc_Ct) := hc
  cases hc)
noncomputable def tH_44_0 : List tc_It := [de_it 0x4010000, de_it 0x300000001, de_it 0x2010000, de_it 0x101010101020101000000000000000000010001000100010a0000010007, de_it 0x4010000, de_it 0x300000001, de_it 0x2010000, de_it 0x103010101000101000000000000000000010001000100010a0000010007, de_it 0x4010000, de_it 0x102010101030101000000000000000000010001000100010a0002010007]
set_option maxRecDepth 100000 in
theorem tR_44 : fw_go tV_44 tK_44.2.1.1 tK_44.2.1.2 none tH_44_0 [(tK_44.2.1, tK_44.2.2.2.1, 0, tc_args 0 tK_44.2.2.1, [], ([], 0), ([], 0))] = true := by decide +kernel
set_option maxRecDepth 100000 in
theorem tT_44 {RO : am_O} {sa : Nat → Nat} : tc_true (aP sa) tp_G RO tp_T tp_Z tK_44 := by
  have hC : ∀ c ∈ tC_44, tc_true (aP sa) tp_G RO tp_T tp_Z c := by
    intro c hc
    have hc : c ∈ ([] : List tc_Ct) := hc
    cases hc
  have hP : ∀ p ∈ tJ_44, ∃ hs, tc_plk (aP sa, tV_44.2) p hs = true := by
    intro p hp
    have hp : p ∈ ([] : List tc_Pl) := hp
    cases hp
  exact tc_main (mt := aM_47.1) (hs := tH_44_0) (PL := tJ_44) ⟨tp_G_ok, tMs_44 _, hC, tp_L_ok, tp_G_re⟩ (show am_meth (aP sa) 47 = some aM_47.1 from rfl) aX_47 (by decide +kernel) hP ((tc_go_sa (aP_sa sa _)).trans ((fw_go_s tHC_44).trans tR_44))
noncomputable def tK_45 : tc_Ct := (48, (1, 1), [(2, ([], 0), 0), (0, ([(0, 1)], 0), 0)], ([([(0, -1)], 2147483647), ([(0, 1)], 2147483648)], [(0, 167)], [], [], [], [], []), [], [((2, 1), ([([(0, -1)], 2147483647), ([(0, 1)], 2147483648), ([(1, -1)], 2147483647), ([(1, 1)], 2147483648)], [], [], [], [], [], []), some (0, ([(1, 1)], 0), 0), ([], 0), ([], 0))])
noncomputable def tJ_45 : List tc_Pl := []
noncomputable def tC_45 : List tc_Ct := [tK_39]
def tM_45 (z : Nat) : Option am_Meth := if z = 43 then some aM_43.1 else none
set_option maxRecDepth 100000 in
theorem tMs_45 (sa : Nat → Nat) : ∀ z mz, tM_45 z = some mz → am_meth (aP sa) z = some mz := by
  intro z mz h
  unfold tM_45 at h
  rcases de_m h with ⟨rfl, rfl⟩ | h
  · exact (show am_meth (aP sa) 43 = some aM_43.1 from rfl)
  cases h
noncomputable def tV_45 : tc_Ev := (aQ, tp_T, tp_G.2, tp_Z, tM_45, tC_45, tp_L, tK_45.2.2.2.2.1, aM_48.1, aW_48, tK_45.2.1, tK_45.2.2.2.2.2, tJ_45)
theorem tE_45 : tK_45.2.2.2.2.2.all (tc_wex tK_45.2.1.1 tK_45.2.1.2) = true := by decide +kernel
theorem tSS_45 : tC_45.all (fun c => tw_mg tK_45.2.2.2.2.1 c.2.2.2.2.1) = true := by decide +kernel
theorem tHC_45 : ∀ c ∈ tC_45, c.2.2.2.2.1.all tK_45.2.2.2.2.1.contains = true ∧ c.2.2.2.2.2.all (tc_wex c.2.1.1 c.2.1.2) = true := tf_hc tSS_45 (by
  intro c hc
  have hc : c ∈ ([tK_39] : List tc_Ct) := hc
  rcases List.mem_cons.mp hc with rfl | hc
  · exact tE_39
  cases hc)
noncomputable def tH_45_0 : List tc_It := [de_it 0x6010000, de_it 0x100010101010101000101000000000000000000000000000000000c00000000ffffff76ff00000200010200010006, de_it 0x1070101010601010101010101000101000000000000000000000000000100010c000201010100010007]
set_option maxRecDepth 100000 in
theorem tR_45 : fw_go tV_45 tK_45.2.1.1 tK_45.2.1.2 none tH_45_0 [(tK_45.2.1, tK_45.2.2.2.1, 0, tc_args 0 tK_45.2.2.1, [], ([], 0), ([], 0))] = true := by decide +kernel
set_option maxRecDepth 100000 in
theorem tT_45 {RO : am_O} {sa : Nat → Nat} (h_39 : tc_true (aP sa) tp_G RO tp_T tp_Z tK_39) : tc_true (aP sa) tp_G RO tp_T tp_Z tK_45 := by
  have hC : ∀ c ∈ tC_45, tc_true (aP sa) tp_G RO tp_T tp_Z c := by
    intro c hc
    have hc : c ∈ ([tK_39] : List tc_Ct) := hc
    rcases List.mem_cons.mp hc with rfl | hc
    · exact h_39
    cases hc
  have hP : ∀ p ∈ tJ_45, ∃ hs, tc_plk (aP sa, tV_45.2) p hs = true := by
    intro p hp
    have hp : p ∈ ([] : List tc_Pl) := hp
    cases hp
  exact tc_main (mt := aM_48.1) (hs := tH_45_0) (PL := tJ_45) ⟨tp_G_ok, tMs_45 _, hC, tp_L_ok, tp_G_re⟩ (show am_meth (aP sa) 48 = some aM_48.1 from rfl) aX_48 (by decide +kernel) hP ((tc_go_sa (aP_sa sa _)).trans ((fw_go_s tHC_45).trans tR_45))
noncomputable def tK_46 : tc_Ct := (46, (1, 2), [(2, ([], 0), 0), (0, ([(0, 1)], 0), 0)], ([([(0, -1)], 2147483647), ([(0, 1)], 2147483648)], [(0, 165), (1, 166)], [], [(0, 0, (2, ([], 0), 1))], [], [], [(568, [1], [])]), [], [((2, 2), ([([(0, -1)], 2147483647), ([(0, 1)], 2147483648), ([(1, -1)], 2147483647), ([(1, 1)], 2147483648)], [], [], [], [], [], []), some (0, ([(1, 1)], 0), 0), ([], 0), ([], 0))])
noncomputable def tJ_46 : List tc_Pl := []
noncomputable def tC_46 : List tc_Ct := [tK_44, tK_45]
def tM_46 (z : Nat) : Option am_Meth := if z = 48 then some aM_48.1 else if z = 47 then some aM_47.1 else none
set_option maxRecDepth 100000 in
theorem tMs_46 (sa : Nat → Nat) : ∀ z mz, tM_46 z = some mz → am_meth (aP sa) z = some mz := by
  intro z mz h
  unfold tM_46 at h
  rcases de_m h with ⟨rfl, rfl⟩ | h
  · exact (show am_meth (aP sa) 48 = some aM_48.1 from rfl)
  rcases de_m h with ⟨rfl, rfl⟩ | h
  · exact (show am_meth (aP sa) 47 = some aM_47.1 from rfl)
  cases h
noncomputable def tV_46 : tc_Ev := (aQ, tp_T, tp_G.2, tp_Z, tM_46, tC_46, tp_L, tK_46.2.2.2.2.1, aM_46.1, aW_46, tK_46.2.1, tK_46.2.2.2.2.2, tJ_46)
theorem tE_46 : tK_46.2.2.2.2.2.all (tc_wex tK_46.2.1.1 tK_46.2.1.2) = true := by decide +kernel
theorem tSS_46 : tC_46.all (fun c => tw_mg tK_46.2.2.2.2.1 c.2.2.2.2.1) = true := by decide +kernel
theorem tHC_46 : ∀ c ∈ tC_46, c.2.2.2.2.1.all tK_46.2.2.2.2.1.contains = true ∧ c.2.2.2.2.2.all (tc_wex c.2.1.1 c.2.1.2) = true := tf_hc tSS_46 (by
  intro c hc
  have hc : c ∈ ([tK_44, tK_45] : List tc_Ct) := hc
  rcases List.mem_cons.mp hc with rfl | hc
  · exact tE_44
  rcases List.mem_cons.mp hc with rfl | hc
  · exact tE_45
  cases hc)
noncomputable def tH_46_0 : List tc_It := [de_it 0x2010000, de_it 0x101010101000101000000000000000000000000000000000a000200010100010006, de_it 0x10104010100000300000001, de_it 0x2010000, de_it 0x100010101010101000101000000000000000000000000000100010c01000100010007, de_it 0x10000010501010300000001, de_it 0x2010000, de_it 0x2, de_it 0x2, de_it 0x2010000, de_it 0x103010101020101000000000000000000000000000000010a00020001010402020006, de_it 0x2010000, de_it 0x1080101010701010103010101020101000000000000000000000000000100010c000201010100010007]
set_option maxRecDepth 100000 in
theorem tR_46 : fw_go tV_46 tK_46.2.1.1 tK_46.2.1.2 none tH_46_0 [(tK_46.2.1, tK_46.2.2.2.1, 0, tc_args 0 tK_46.2.2.1, [], ([], 0), ([], 0))] = true := by decide +kernel
set_option maxRecDepth 100000 in
theorem tT_46 {RO : am_O} {sa : Nat → Nat} (h_44 : tc_true (aP sa) tp_G RO tp_T tp_Z tK_44) (h_45 : tc_true (aP sa) tp_G RO tp_T tp_Z tK_45) : tc_true (aP sa) tp_G RO tp_T tp_Z tK_46 := by
  have hC : ∀ c ∈ tC_46, tc_true (aP sa) tp_G RO tp_T tp_Z c := by
    intro c hc
    have hc : c ∈ ([tK_44, tK_45] : List tc_Ct) := hc
    rcases List.mem_cons.mp hc with rfl | hc
    · exact h_44
    rcases List.mem_cons.mp hc with rfl | hc
    · exact h_45
    cases hc
  have hP : ∀ p ∈ tJ_46, ∃ hs, tc_plk (aP sa, tV_46.2) p hs = true := by
    intro p hp
    have hp : p ∈ ([] : List tc_Pl) := hp
    cases hp
  exact tc_main (mt := aM_46.1) (hs := tH_46_0) (PL := tJ_46) ⟨tp_G_ok, tMs_46 _, hC, tp_L_ok, tp_G_re⟩ (show am_meth (aP sa) 46 = some aM_46.1 from rfl) aX_46 (by decide +kernel) hP ((tc_go_sa (aP_sa sa _)).trans ((fw_go_s tHC_46).trans tR_46))
noncomputable def tK_47 : tc_Ct := (50, (1, 0), [(0, ([(0, 1)], 0), 0)], ([([(0, -1)], 2147483647), ([(0, 1)], 2147483648)], [], [], [], [], [], []), [], [((1, 0), ([([(0, -1)], 2147483647), ([(0, 1)], 2147483648)], [], [], [], [], [], []), some (0, ([], 0), 0), ([], 0), ([], 0)), ((1, 0), ([([(0, -1)], 2), ([(0, 1)], -1)], [], [], [], [], [], []), some (0, ([], 1), 0), ([], 0), ([], 0))])
noncomputable def tJ_47 : List tc_Pl := []
noncomputable def tC_47 : List tc_Ct := []
def tM_47 (z : Nat) : Option am_Meth := none
set_option maxRecDepth 100000 in
theorem tMs_47 (sa : Nat → Nat) : ∀ z mz, tM_47 z = some mz → am_meth (aP sa) z = some mz := fun z mz h => by cases h
noncomputable def tV_47 : tc_Ev := (aQ, tp_T, tp_G.2, tp_Z, tM_47, tC_47, tp_L, tK_47.2.2.2.2.1, aM_50.1, aW_50, tK_47.2.1, tK_47.2.2.2.2.2, tJ_47)
theorem tE_47 : tK_47.2.2.2.2.2.all (tc_wex tK_47.2.1.1 tK_47.2.1.2) = true := by decide +kernel
theorem tSS_47 : tC_47.all (fun c => tw_mg tK_47.2.2.2.2.1 c.2.2.2.2.1) = true := by decide +kernel
theorem tHC_47 : ∀ c ∈ tC_47, c.2.2.2.2.1.all tK_47.2.2.2.2.1.contains = true ∧ c.2.2.2.2.2.all (tc_wex c.2.1.1 c.2.1.2) = true := tf_hc tSS_47 (by
  intro c hc
  have hc : c ∈ ([] : List tc_Ct) := hc
  cases hc)
noncomputable def tH_47_0 : List tc_It := [de_it 0x4010000, de_it 0x300000001, de_it 0x4010000, de_it 0x102010101030101000000000000000000010001000100010a0002010007, de_it 0x4010000, de_it 0x300000001, de_it 0x2010000, de_it 0x101010101000101000000000000000000010001000100010a0000010007, de_it 0x4010000, de_it 0x102010101030101000000000000000000010001000100010a0002010007]
set_option maxRecDepth 100000 in
theorem tR_47 : fw_go tV_47 tK_47.2.1.1 tK_47.2.1.2 none tH_47_0 [(tK_47.2.1, tK_47.2.2.2.1, 0, tc_args 0 tK_47.2.2.1, [], ([], 0), ([], 0))] = true := by decide +kernel
set_option maxRecDepth 100000 in
theorem tT_47 {RO : am_O} {sa : Nat → Nat} : tc_true (aP sa) tp_G RO tp_T tp_Z tK_47 := by
  have hC : ∀ c ∈ tC_47, tc_true (aP sa) tp_G RO tp_T tp_Z c := by
    intro c hc
    have hc : c ∈ ([] : List tc_Ct) := hc
    cases hc
  have hP : ∀ p ∈ tJ_47, ∃ hs, tc_plk (aP sa, tV_47.2) p hs = true := by
    intro p hp
    have hp : p ∈ ([] : List tc_Pl) := hp
    cases hp
  exact tc_main (mt := aM_50.1) (hs := tH_47_0) (PL := tJ_47) ⟨tp_G_ok, tMs_47 _, hC, tp_L_ok, tp_G_re⟩ (show am_meth (aP sa) 50 = some aM_50.1 from rfl) aX_50 (by decide +kernel) hP ((tc_go_sa (aP_sa sa _)).trans ((fw_go_s tHC_47).trans tR_47))
noncomputable def tK_48 : tc_Ct := (52, (0, 0), [(1, ([], 0), 0)], ([], [], [], [], [], [], []), [], [((1, 0), ([([(0, -1)], 2147483647), ([(0, 1)], 0)], [], [], [], [], [], []), some (0, ([(0, 1)], 0), 0), ([], 0), ([], 0))])
noncomputable def tJ_48 : List tc_Pl := []
noncomputable def tC_48 : List tc_Ct := []
def tM_48 (z : Nat) : Option am_Meth := none
set_option maxRecDepth 100000 in
theorem tMs_48 (sa : Nat → Nat) : ∀ z mz, tM_48 z = some mz → am_meth (aP sa) z = some mz := fun z mz h => by cases h
noncomputable def tV_48 : tc_Ev := (aQ, tp_T, tp_G.2, tp_Z, tM_48, tC_48, tp_L, tK_48.2.2.2.2.1, aM_52.1, aW_52, tK_48.2.1, tK_48.2.2.2.2.2, tJ_48)
theorem tE_48 : tK_48.2.2.2.2.2.all (tc_wex tK_48.2.1.1 tK_48.2.1.2) = true := by decide +kernel
theorem tSS_48 : tC_48.all (fun c => tw_mg tK_48.2.2.2.2.1 c.2.2.2.2.1) = true := by decide +kernel
theorem tHC_48 : ∀ c ∈ tC_48, c.2.2.2.2.1.all tK_48.2.2.2.2.1.contains = true ∧ c.2.2.2.2.2.all (tc_wex c.2.1.1 c.2.1.2) = true := tf_hc tSS_48 (by
  intro c hc
  have hc : c ∈ ([] : List tc_Ct) := hc
  cases hc)
noncomputable def tH_48_0 : List tc_It := [de_it 0x6010000, de_it 0x101, de_it 0x4010000, de_it 0x102010101030101000000000000000000000000000100010a000201010100010007]
set_option maxRecDepth 100000 in
theorem tR_48 : fw_go tV_48 tK_48.2.1.1 tK_48.2.1.2 none tH_48_0 [(tK_48.2.1, tK_48.2.2.2.1, 0, tc_args 0 tK_48.2.2.1, [], ([], 0), ([], 0))] = true := by decide +kernel
set_option maxRecDepth 100000 in
theorem tT_48 {RO : am_O} {sa : Nat → Nat} : tc_true (aP sa) tp_G RO tp_T tp_Z tK_48 := by
  have hC : ∀ c ∈ tC_48, tc_true (aP sa) tp_G RO tp_T tp_Z c := by
    intro c hc
    have hc : c ∈ ([] : List tc_Ct) := hc
    cases hc
  have hP : ∀ p ∈ tJ_48, ∃ hs, tc_plk (aP sa, tV_48.2) p hs = true := by
    intro p hp
    have hp : p ∈ ([] : List tc_Pl) := hp
    cases hp
  exact tc_main (mt := aM_52.1) (hs := tH_48_0) (PL := tJ_48) ⟨tp_G_ok, tMs_48 _, hC, tp_L_ok, tp_G_re⟩ (show am_meth (aP sa) 52 = some aM_52.1 from rfl) aX_52 (by decide +kernel) hP ((tc_go_sa (aP_sa sa _)).trans ((fw_go_s tHC_48).trans tR_48))
noncomputable def tK_49 : tc_Ct := (51, (4, 2), [(2, ([], 0), 0), (0, ([(0, 1)], 0), 0), (0, ([(1, 1)], 0), 0), (2, ([], 0), 1), (0, ([], 0), 0), (0, ([(2, 1)], 0), 0)], ([([(0, -1)], 2147483647), ([(0, 1)], 2147483648), ([(1, -1)], 2147483647), ([(1, 1)], 2147483648), ([(2, -1)], 3661), ([(2, 1)], 0), ([(3, -1)], 8192), ([(2, -1), (3, 1)], 0), ([(2, 1), (3, -1)], 8183), ([(2, 1), (3, 1)], -28)], [(0, 167), (1, 193)], [(1, ([(3, 1)], 0))], [], [], [], []), [(167, 0), (167, 1), (167, 2), (167, 3), (167, 4), (167, 5)], [((8, 2), ([([(0, -1)], 2147483647), ([(0, 1)], 2147483648), ([(1, -1)], 2147483647), ([(1, 1)], 2147483648), ([(2, -1)], 3661), ([(2, 1)], 0), ([(3, -1)], 8192), ([(3, 1)], -14), ([(4, -1)], 2147483647), ([(4, 1)], 2147483648), ([(5, -1)], 2147483647), ([(5, 1)], 2147483648), ([(6, -1)], 2147483647), ([(6, 1)], 2147483648), ([(7, -1)], 2147483647), ([(7, 1)], 2147483648), ([(2, -1), (3, 1)], 0), ([(2, 1), (3, -1)], 8183), ([(2, 1), (3, 1)], -28)], [], [(1, ([(3, 1)], 0))], [(0, 0, (0, ([(4, 1)], 0), 0)), (0, 1, (0, ([(5, 1)], 0), 0)), (0, 2, (0, ([(6, 1)], 0), 0)), (0, 3, (0, ([(7, 1)], 0), 0))], [], [], []), some (1, ([], 0), 0), ([], 0), ([], 0))])
noncomputable def tJ_49 : List tc_Pl := []
noncomputable def tC_49 : List tc_Ct := [tK_20, tK_48, tK_10, tK_39, tK_45, tK_23, tK_12, tK_14]
def tM_49 (z : Nat) : Option am_Meth := if z = 52 then some aM_52.1 else if z = 48 then some aM_48.1 else if z = 43 then some aM_43.1 else if z = 31 then some aM_31.1 else if z = 25 then some aM_25.1 else if z = 21 then some aM_21.1 else if z = 19 then some aM_19.1 else if z = 18 then some aM_18.1 else none
set_option maxRecDepth 100000 in
theorem tMs_49 (sa : Nat → Nat) : ∀ z mz, tM_49 z = some mz → am_meth (aP sa) z = some mz := by
  intro z mz h
  unfold tM_49 at h
  rcases de_m h with ⟨rfl, rfl⟩ | h
  · exact (show am_meth (aP sa) 52 = some aM_52.1 from rfl)
  rcases de_m h with ⟨rfl, rfl⟩ | h
  · exact (show am_meth (aP sa) 48 = some aM_48.1 from rfl)
  rcases de_m h with ⟨rfl, rfl⟩ | h
  · exact (show am_meth (aP sa) 43 = some aM_43.1 from rfl)
  rcases de_m h with ⟨rfl, rfl⟩ | h
  · exact (show am_meth (aP sa) 31 = some aM_31.1 from rfl)
  rcases de_m h with ⟨rfl, rfl⟩ | h
  · exact (show am_meth (aP sa) 25 = some aM_25.1 from rfl)
  rcases de_m h with ⟨rfl, rfl⟩ | h
  · exact (show am_meth (aP sa) 21 = some aM_21.1 from rfl)
  rcases de_m h with ⟨rfl, rfl⟩ | h
  · exact (show am_meth (aP sa) 19 = some aM_19.1 from rfl)
  rcases de_m h with ⟨rfl, rfl⟩ | h
  · exact (show am_meth (aP sa) 18 = some aM_18.1 from rfl)
  cases h
noncomputable def tV_49 : tc_Ev := (aQ, tp_T, tp_G.2, tp_Z, tM_49, tC_49, tp_L, tK_49.2.2.2.2.1, aM_51.1, aW_51, tK_49.2.1, tK_49.2.2.2.2.2, tJ_49)
theorem tE_49 : tK_49.2.2.2.2.2.all (tc_wex tK_49.2.1.1 tK_49.2.1.2) = true := by decide +kernel
theorem tSS_49 : tC_49.all (fun c => tw_mg tK_49.2.2.2.2.1 c.2.2.2.2.1) = true := by decide +kernel
theorem tHC_49 : ∀ c ∈ tC_49, c.2.2.2.2.1.all tK_49.2.2.2.2.1.contains = true ∧ c.2.2.2.2.2.all (tc_wex c.2.1.1 c.2.1.2) = true := tf_hc tSS_49 (by
  intro c hc
  have hc : c ∈ ([tK_20, tK_48, tK_10, tK_39, tK_45, tK_23, tK_12, tK_14] : List tc_Ct) := hc
  rcases List.mem_cons.mp hc with rfl | hc
  · exact tE_20
  rcases List.mem_cons.mp hc with rfl | hc
  · exact tE_48
  rcases List.mem_cons.mp hc with rfl | hc
  · exact tE_10
  rcases List.mem_cons.mp hc with rfl | hc
  · exact tE_39
  rcases List.mem_cons.mp hc with rfl | hc
  · exact tE_45
  rcases List.mem_cons.mp hc with rfl | hc
  · exact tE_23
  rcases List.mem_cons.mp hc with rfl | hc
  · exact tE_12
  rcases List.mem_cons.mp hc with rfl | hc
  · exact tE_14
  cases hc)
noncomputable def tH_49_0 : List tc_It := [de_it 0x6010000, de_it 0x101, de_it 0xa010000, de_it 0x10901010108010101070101010601010105010101040101010a0101010b0101000000000000000000000000000000051000020301000202010002040103020000030006, de_it 0x80002010006, de_it 0x8010000, de_it 0x11e01010100000201, de_it 0x1200101011f01010200000001, de_it 0x8010000, de_it 0x101, de_it 0x121010101220101000000000000000000000000000000010a00020b01010004020006, de_it 0x58565452504e4c4a403e3c3a2212100e0c0a080604020017000d, de_it 0x8010000, de_it 0x10001010d0101010e0101000000000000000000000000000000000c00000000ffffff76ff0002000000007fffffb7ff0a0209020206010006, de_it 0xa010000, de_it 0x103010101020101000000000000000000000000000000010a00020101010008020006, de_it 0x4010000, de_it 0x10800000a020006, de_it 0x5452504e4c4a484644421c1a18161412100e0c0a080604020019000d, de_it 0x8010000, de_it 0x108010101070101010901010108010101070101010601040201010901070202010601010105010101040101010901070202010601010105010101040101000100010000000000000000000000000000000318000203010002020100000302000c030006, de_it 0x461c1a18161412100e0c0a080604020010000d, de_it 0x2010000, de_it 0x800000e020006, de_it 0x80002010006, de_it 0x2010000, de_it 0x11901010100000201, de_it 0x10010000, de_it 0x101, de_it 0x12010000, de_it 0x10901010108010101070101011701010116010101150101011401010113010101120101011101010110010101090107020201060101010501010104010101030101010201010101010101000101000000000000000000000000000100011b00021a010002190100021801000217010400010007]
set_option maxRecDepth 100000 in
theorem tR_49 : fw_go tV_49 tK_49.2.1.1 tK_49.2.1.2 none tH_49_0 [(tK_49.2.1, tK_49.2.2.2.1, 0, tc_args 0 tK_49.2.2.1, [], ([], 0), ([], 0))] = true := by decide +kernel
set_option maxRecDepth 100000 in
theorem tT_49 {RO : am_O} {sa : Nat → Nat} (h_10 : tc_true (aP sa) tp_G RO tp_T tp_Z tK_10) (h_12 : tc_true (aP sa) tp_G RO tp_T tp_Z tK_12) (h_14 : tc_true (aP sa) tp_G RO tp_T tp_Z tK_14) (h_20 : tc_true (aP sa) tp_G RO tp_T tp_Z tK_20) (h_23 : tc_true (aP sa) tp_G RO tp_T tp_Z tK_23) (h_39 : tc_true (aP sa) tp_G RO tp_T tp_Z tK_39) (h_45 : tc_true (aP sa) tp_G RO tp_T tp_Z tK_45) (h_48 : tc_true (aP sa) tp_G RO tp_T tp_Z tK_48) : tc_true (aP sa) tp_G RO tp_T tp_Z tK_49 := by
  have hC : ∀ c ∈ tC_49, tc_true (aP sa) tp_G RO tp_T tp_Z c := by
    intro c hc
    have hc : c ∈ ([tK_20, tK_48, tK_10, tK_39, tK_45, tK_23, tK_12, tK_14] : List tc_Ct) := hc
    rcases List.mem_cons.mp hc with rfl | hc
    · exact h_20
    rcases List.mem_cons.mp hc with rfl | hc
    · exact h_48
    rcases List.mem_cons.mp hc with rfl | hc
    · exact h_10
    rcases List.mem_cons.mp hc with rfl | hc
    · exact h_39
    rcases List.mem_cons.mp hc with rfl | hc
    · exact h_45
    rcases List.mem_cons.mp hc with rfl | hc
    · exact h_23
    rcases List.mem_cons.mp hc with rfl | hc
    · exact h_12
    rcases List.mem_cons.mp hc with rfl | hc
    · exact h_14
    cases hc
  have hP : ∀ p ∈ tJ_49, ∃ hs, tc_plk (aP sa, tV_49.2) p hs = true := by
    intro p hp
    have hp : p ∈ ([] : List tc_Pl) := hp
    cases hp
  exact tc_main (mt := aM_51.1) (hs := tH_49_0) (PL := tJ_49) ⟨tp_G_ok, tMs_49 _, hC, tp_L_ok, tp_G_re⟩ (show am_meth (aP sa) 51 = some aM_51.1 from rfl) aX_51 (by decide +kernel) hP ((tc_go_sa (aP_sa sa _)).trans ((fw_go_s tHC_49).trans tR_49))
noncomputable def tK_50 : tc_Ct := (49, (2, 2), [(2, ([], 0), 0), (0, ([(0, 1)], 0), 0), (0, ([(1, 1)], 0), 0)], ([([(0, -1)], 2147483647), ([(0, 1)], 2147483648), ([(1, -1)], 2147483647), ([(1, 1)], 2147483648)], [(0, 165), (1, 166)], [], [(0, 0, (2, ([], 0), 1))], [], [], [(1016, [], []), (1024, [], []), (1088, [], []), (1096, [], []), (568, [1], [])]), [(167, 0), (167, 1), (167, 2), (167, 3), (167, 4), (167, 5), (177, 1)], [((2, 2), ([([(0, -1)], 2147483647), ([(0, 1)], 2147483648), ([(1, -1)], 2147483647), ([(1, 1)], 2147483648)], [], [], [], [], [], []), some (1, ([], 0), 0), ([], 0), ([], 0))])
noncomputable def tJ_50 : List tc_Pl := []
noncomputable def tC_50 : List tc_Ct := [tK_47, tK_44, tK_49, tK_16]
def tM_50 (z : Nat) : Option am_Meth := if z = 51 then some aM_51.1 else if z = 50 then some aM_50.1 else if z = 47 then some aM_47.1 else if z = 23 then some aM_23.1 else none
set_option maxRecDepth 100000 in
theorem tMs_50 (sa : Nat → Nat) : ∀ z mz, tM_50 z = some mz → am_meth (aP sa) z = some mz := by
  intro z mz h
  unfold tM_50 at h
  rcases de_m h with ⟨rfl, rfl⟩ | h
  · exact (show am_meth (aP sa) 51 = some aM_51.1 from rfl)
  rcases de_m h with ⟨rfl, rfl⟩ | h
  · exact (show am_meth (aP sa) 50 = some aM_50.1 from rfl)
  rcases de_m h with ⟨rfl, rfl⟩ | h
  · exact (show am_meth (aP sa) 47 = some aM_47.1 from rfl)
  rcases de_m h with ⟨rfl, rfl⟩ | h
  · exact (show am_meth (aP sa) 23 = some aM_23.1 from rfl)
  cases h
noncomputable def tV_50 : tc_Ev := (aQ, tp_T, tp_G.2, tp_Z, tM_50, tC_50, tp_L, tK_50.2.2.2.2.1, aM_49.1, aW_49, tK_50.2.1, tK_50.2.2.2.2.2, tJ_50)
theorem tE_50 : tK_50.2.2.2.2.2.all (tc_wex tK_50.2.1.1 tK_50.2.1.2) = true := by decide +kernel
theorem tSS_50 : tC_50.all (fun c => tw_mg tK_50.2.2.2.2.1 c.2.2.2.2.1) = true := by decide +kernel
theorem tHC_50 : ∀ c ∈ tC_50, c.2.2.2.2.1.all tK_50.2.2.2.2.1.contains = true ∧ c.2.2.2.2.2.all (tc_wex c.2.1.1 c.2.1.2) = true := tf_hc tSS_50 (by
  intro c hc
  have hc : c ∈ ([tK_47, tK_44, tK_49, tK_16] : List tc_Ct) := hc
  rcases List.mem_cons.mp hc with rfl | hc
  · exact tE_47
  rcases List.mem_cons.mp hc with rfl | hc
  · exact tE_44
  rcases List.mem_cons.mp hc with rfl | hc
  · exact tE_49
  rcases List.mem_cons.mp hc with rfl | hc
  · exact tE_16
  cases hc)
noncomputable def tH_50_0 : List tc_It := [de_it 0x2010000, de_it 0x101010101000101000000000000000000000000000000000a000200010100010006, de_it 0x10106010100000300000001, de_it 0x2010000, de_it 0x1030101010201010101010101000101000000000000000000000000000100010c0000010007, de_it 0x10000010701010300000001, de_it 0x2010000, de_it 0x103010101020101000000000000000000000000000000000a000201010102010006, de_it 0x10000010901010300000001, de_it 0x2010000, de_it 0x1030101010201010105010101040101000000000000000000000000000100010c0000010007, de_it 0x1010a010100000300000001, de_it 0x2010000, de_it 0x2, de_it 0x2, de_it 0x6010000, de_it 0x2, de_it 0x2, de_it 0x8010011, de_it 0x6010010, de_it 0x4010000, de_it 0x2, de_it 0x2, de_it 0x6010010, de_it 0x10e010d0201010e010c020101100101010c0101010e0101010f01010108010101070101010501010104010100000000000000000000000000000005120002020100020301000201010002000104080404030006, de_it 0x4010000, de_it 0x2, de_it 0x1100101010d0101010c0101010e0101010f0101000000000000000000000000000000000d000202010002030102080606030006, de_it 0x4a484442403e3c3a3836201e1c1a18100e0a0813000d, de_it 0x2010000, de_it 0x1030101010201010101010101000101000000000000000000000000000100010c0000010007]
set_option maxRecDepth 100000 in
theorem tR_50 : fw_go tV_50 tK_50.2.1.1 tK_50.2.1.2 none tH_50_0 [(tK_50.2.1, tK_50.2.2.2.1, 0, tc_args 0 tK_50.2.2.1, [], ([], 0), ([], 0))] = true := by decide +kernel
set_option maxRecDepth 100000 in
theorem tT_50 {RO : am_O} {sa : Nat → Nat} (h_16 : tc_true (aP sa) tp_G RO tp_T tp_Z tK_16) (h_44 : tc_true (aP sa) tp_G RO tp_T tp_Z tK_44) (h_47 : tc_true (aP sa) tp_G RO tp_T tp_Z tK_47) (h_49 : tc_true (aP sa) tp_G RO tp_T tp_Z tK_49) : tc_true (aP sa) tp_G RO tp_T tp_Z tK_50 := by
  have hC : ∀ c ∈ tC_50, tc_true (aP sa) tp_G RO tp_T tp_Z c := by
    intro c hc
    have hc : c ∈ ([tK_47, tK_44, tK_49, tK_16] : List tc_Ct) := hc
    rcases List.mem_cons.mp hc with rfl | hc
    · exact h_47
    rcases List.mem_cons.mp hc with rfl | hc
    · exact h_44
    rcases List.mem_cons.mp hc with rfl | hc
    · exact h_49
    rcases List.mem_cons.mp hc with rfl | hc
    · exact h_16
    cases hc
  have hP : ∀ p ∈ tJ_50, ∃ hs, tc_plk (aP sa, tV_50.2) p hs = true := by
    intro p hp
    have hp : p ∈ ([] : List tc_Pl) := hp
    cases hp
  exact tc_main (mt := aM_49.1) (hs := tH_50_0) (PL := tJ_50) ⟨tp_G_ok, tMs_50 _, hC, tp_L_ok, tp_G_re⟩ (show am_meth (aP sa) 49 = some aM_49.1 from rfl) aX_49 (by decide +kernel) hP ((tc_go_sa (aP_sa sa _)).trans ((fw_go_s tHC_50).trans tR_50))
noncomputable def tK_51 : tc_Ct := (54, (4, 2), [(2, ([], 0), 0), (0, ([(0, 1)], 0), 0), (0, ([(1, 1)], 0), 0), (1, ([], 0), 0), (2, ([], 0), 1), (0, ([], 0), 0), (0, ([(2, 1)], 0), 0)], ([([(0, -1)], 255), ([(0, 1)], -1), ([(1, -1)], 2147483647), ([(1, 1)], 2147483648), ([(2, -1)], 800), ([(2, 1)], 0), ([(3, 1)], -64), ([(0, -1), (2, -1)], 802), ([(0, -1), (2, 1)], 246), ([(0, -1), (3, 1)], 55), ([(2, -1), (3, -1)], 8201), ([(2, -1), (3, 1)], 0), ([(2, 1), (3, -1)], 8183), ([(0, -1), (2, -1), (3, 1)], 64)], [(0, 167), (1, 193)], [(1, ([(3, 1)], 0))], [], [], [], []), [(167, 0), (167, 1), (167, 2), (167, 3), (167, 4), (167, 5)], [((4, 2), ([([(0, -1)], 255), ([(0, 1)], -1), ([(1, -1)], 2147483647), ([(1, 1)], 2147483648), ([(2, -1)], 800), ([(2, 1)], 0), ([(3, -1)], 8192), ([(3, 1)], -64), ([(0, -1), (2, -1)], 802), ([(0, -1), (2, 1)], 246), ([(0, -1), (3, 1)], 55), ([(2, -1), (3, -1)], 8201), ([(2, -1), (3, 1)], 0), ([(2, 1), (3, -1)], 8183), ([(0, -1), (2, -1), (3, 1)], 64)], [], [(1, ([(3, 1)], 0))], [], [], [], []), some (0, ([], 0), 0), ([], 0), ([], 0)), ((8, 2), ([([(0, -1)], 255), ([(0, 1)], -1), ([(1, -1)], 2147483577), ([(1, 1)], -2), ([(2, -1)], 800), ([(2, 1)], 0), ([(3, -1)], 8192), ([(3, 1)], -64), ([(4, -1)], 2147483647), ([(4, 1)], 2147483648), ([(5, -1)], 2147483647), ([(5, 1)], 2147483648), ([(6, -1)], 2147483647), ([(6, 1)], 2147483648), ([(7, -1)], 2147483647), ([(7, 1)], 2147483648), ([(0, -1), (2, -1)], 802), ([(0, -1), (2, 1)], 246), ([(0, -1), (3, 1)], 55), ([(2, -1), (3, -1)], 8201), ([(2, -1), (3, 1)], 0), ([(2, 1), (3, -1)], 8183), ([(0, -1), (2, -1), (3, 1)], 64)], [], [(1, ([(3, 1)], 0))], [(0, 0, (0, ([(4, 1)], 0), 0)), (0, 1, (0, ([(5, 1)], 0), 0)), (0, 2, (0, ([(6, 1)], 0), 0)), (0, 3, (0, ([(7, 1)], 0), 0))], [], [], []), some (0, ([], 1), 0), ([], 0), ([], 0))])
noncomputable def tJ_51 : List tc_Pl := []
noncomputable def tC_51 : List tc_Ct := [tK_39, tK_10, tK_23, tK_12, tK_14, tK_48]
def tM_51 (z : Nat) : Option am_Meth := if z = 52 then some aM_52.1 else if z = 43 then some aM_43.1 else if z = 31 then some aM_31.1 else if z = 21 then some aM_21.1 else if z = 19 then some aM_19.1 else if z = 18 then some aM_18.1 else none
set_option maxRecDepth 100000 in
theorem tMs_51 (sa : Nat → Nat) : ∀ z mz, tM_51 z = some mz → am_meth (aP sa) z = some mz := by
  intro z mz h
  unfold tM_51 at h
  rcases de_m h with ⟨rfl, rfl⟩ | h
  · exact (show am_meth (aP sa) 52 = some aM_52.1 from rfl)
  rcases de_m h with ⟨rfl, rfl⟩ | h
  · exact (show am_meth (aP sa) 43 = some aM_43.1 from rfl)
  rcases de_m h with ⟨rfl, rfl⟩ | h
  · exact (show am_meth (aP sa) 31 = some aM_31.1 from rfl)
  rcases de_m h with ⟨rfl, rfl⟩ | h
  · exact (show am_meth (aP sa) 21 = some aM_21.1 from rfl)
  rcases de_m h with ⟨rfl, rfl⟩ | h
  · exact (show am_meth (aP sa) 19 = some aM_19.1 from rfl)
  rcases de_m h with ⟨rfl, rfl⟩ | h
  · exact (show am_meth (aP sa) 18 = some aM_18.1 from rfl)
  cases h
noncomputable def tV_51 : tc_Ev := (aQ, tp_T, tp_G.2, tp_Z, tM_51, tC_51, tp_L, tK_51.2.2.2.2.1, aM_54.1, aW_54, tK_51.2.1, tK_51.2.2.2.2.2, tJ_51)
theorem tE_51 : tK_51.2.2.2.2.2.all (tc_wex tK_51.2.1.1 tK_51.2.1.2) = true := by decide +kernel
theorem tSS_51 : tC_51.all (fun c => tw_mg tK_51.2.2.2.2.1 c.2.2.2.2.1) = true := by decide +kernel
theorem tHC_51 : ∀ c ∈ tC_51, c.2.2.2.2.1.all tK_51.2.2.2.2.1.contains = true ∧ c.2.2.2.2.2.all (tc_wex c.2.1.1 c.2.1.2) = true := tf_hc tSS_51 (by
  intro c hc
  have hc : c ∈ ([tK_39, tK_10, tK_23, tK_12, tK_14, tK_48] : List tc_Ct) := hc
  rcases List.mem_cons.mp hc with rfl | hc
  · exact tE_39
  rcases List.mem_cons.mp hc with rfl | hc
  · exact tE_10
  rcases List.mem_cons.mp hc with rfl | hc
  · exact tE_23
  rcases List.mem_cons.mp hc with rfl | hc
  · exact tE_12
  rcases List.mem_cons.mp hc with rfl | hc
  · exact tE_14
  rcases List.mem_cons.mp hc with rfl | hc
  · exact tE_48
  cases hc)
noncomputable def tH_51_0 : List tc_It := [de_it 0x6010000, de_it 0x101, de_it 0x4010000, de_it 0x101, de_it 0x6010000, de_it 0x300000001, de_it 0x2010000, de_it 0x10d0101010c0101010b0101010a010101090101010801010107010101060101010c010a020201050101010401010103010101120101010101010100010100000000000000000001000100010001170000010007, de_it 0x4010000, de_it 0x300000001, de_it 0x2010000, de_it 0x10d0101010c0101010b0101010a010101090101010801010107010101060101010c010a020201050101010401010113010101020101010101010100010100000000000000000001000100010001170000010007, de_it 0x2010000, de_it 0x300000001, de_it 0x2010000, de_it 0x10d0101010c0101010b0101010a010101090101010801010107010101060101010c010a020201050101010401010112010101130101010101010100010100000000000000000001000100010001170000010007, de_it 0x4010000, de_it 0x300000001, de_it 0x2010000, de_it 0x10d0101010c0101010b0101010a010101090101010801010107010101060101010c010a020201050101010401010112010101130101010101010100010100000000000000000001000100010001170000010007, de_it 0x2010000, de_it 0x300000001, de_it 0x2010000, de_it 0x10d0101010c0101010b0101010a010101090101010801010107010101060101010c010a020201050101010401010112010101130101010101010100010100000000000000000001000100010001170000010007, de_it 0x4010000, de_it 0x300000001, de_it 0x2010000, de_it 0x10d0101010c0101010b0101010a010101090101010801010107010101060101010c010a020201050101010401010112010101130101010101010100010100000000000000000001000100010001170000010007, de_it 0x8010000, de_it 0x1000100010001000000000000000000000000000000000c00000000ffffff76ff00000000007fffffbaff000200010006, de_it 0x2010000, de_it 0x300000001, de_it 0x6010000, de_it 0x100010116010101170101000000000000000000000000000000000c00000000ffffff76ff00000205010200010006, de_it 0xa010000, de_it 0x1140101011501010200000001, de_it 0x2010000, de_it 0x100010115010101140101000000000000000000000000000000000c00000000ffffff76ff00000000007fffffbaff0104010200010006, de_it 0x56544a482e2c2a2826241a18161412100e0c0a08020016000d, de_it 0x8010000, de_it 0x101, de_it 0x8010000, de_it 0x1000101010101010200000001, de_it 0x101010101000101000000000000000000000000000000010a01020001010002020006, de_it 0x10010000, de_it 0x108000004020006, de_it 0x565452504e4c4a4846442e2c22201e1c1a18161412100e0c0a08060402001e000d, de_it 0x8010000, de_it 0x10a010101090101010401030201010a0101010901010108010101040101010a01080202010301010102010101040101010a0108020201030101010201010001000100000000000000000000000000000003180002030100020201000003020006030006, de_it 0x5644262422201e1c1a18161412100e0c0a080604020016000d, de_it 0x2010000, de_it 0x8000008020006, de_it 0x8000a010006, de_it 0x2010000, de_it 0x11f01010100000201, de_it 0x2010000, de_it 0x300000001, de_it 0x2010000, de_it 0x10b0101010a0101010901010108010101070101010601010105010101040101010a010802020103010101020101010c0101010d0101010101010100010100000000000000000001000100010001170000010007, de_it 0x4010000, de_it 0x10b0101010a01010109010101080101010701010106010101050101011d0101011c0101011b0101011a01010119010101180101011701010116010101040101010a010802020103010101020101010c0101010d01010101010101000101000000000000000000010001000100011f000216010002150100021401000213010402010007, de_it 0x2010000, de_it 0x10d0101010c0101010b0101010a010101090101010801010107010101060101010c010a020201050101010401010112010101130101010101010100010100000000000000000001000100010001170000010007]
set_option maxRecDepth 100000 in
theorem tR_51 : fw_go tV_51 tK_51.2.1.1 tK_51.2.1.2 none tH_51_0 [(tK_51.2.1, tK_51.2.2.2.1, 0, tc_args 0 tK_51.2.2.1, [], ([], 0), ([], 0))] = true := by decide +kernel
set_option maxRecDepth 100000 in
theorem tT_51 {RO : am_O} {sa : Nat → Nat} (h_10 : tc_true (aP sa) tp_G RO tp_T tp_Z tK_10) (h_12 : tc_true (aP sa) tp_G RO tp_T tp_Z tK_12) (h_14 : tc_true (aP sa) tp_G RO tp_T tp_Z tK_14) (h_23 : tc_true (aP sa) tp_G RO tp_T tp_Z tK_23) (h_39 : tc_true (aP sa) tp_G RO tp_T tp_Z tK_39) (h_48 : tc_true (aP sa) tp_G RO tp_T tp_Z tK_48) : tc_true (aP sa) tp_G RO tp_T tp_Z tK_51 := by
  have hC : ∀ c ∈ tC_51, tc_true (aP sa) tp_G RO tp_T tp_Z c := by
    intro c hc
    have hc : c ∈ ([tK_39, tK_10, tK_23, tK_12, tK_14, tK_48] : List tc_Ct) := hc
    rcases List.mem_cons.mp hc with rfl | hc
    · exact h_39
    rcases List.mem_cons.mp hc with rfl | hc
    · exact h_10
    rcases List.mem_cons.mp hc with rfl | hc
    · exact h_23
    rcases List.mem_cons.mp hc with rfl | hc
    · exact h_12
    rcases List.mem_cons.mp hc with rfl | hc
    · exact h_14
    rcases List.mem_cons.mp hc with rfl | hc
    · exact h_48
    cases hc
  have hP : ∀ p ∈ tJ_51, ∃ hs, tc_plk (aP sa, tV_51.2) p hs = true := by
    intro p hp
    have hp : p ∈ ([] : List tc_Pl) := hp
    cases hp
  exact tc_main (mt := aM_54.1) (hs := tH_51_0) (PL := tJ_51) ⟨tp_G_ok, tMs_51 _, hC, tp_L_ok, tp_G_re⟩ (show am_meth (aP sa) 54 = some aM_54.1 from rfl) aX_54 (by decide +kernel) hP ((tc_go_sa (aP_sa sa _)).trans ((fw_go_s tHC_51).trans tR_51))
noncomputable def tK_52 : tc_Ct := (53, (2, 2), [(2, ([], 0), 0), (0, ([(0, 1)], 0), 0), (0, ([(1, 1)], 0), 0), (1, ([], 0), 0)], ([([(0, -1)], 2147483647), ([(0, 1)], 2147483648), ([(1, -1)], 2147483647), ([(1, 1)], 2147483648)], [(0, 165), (1, 166)], [], [(0, 0, (2, ([], 0), 1))], [], [], [(1016, [], []), (1024, [], []), (1088, [], []), (1096, [], []), (568, [1], [])]), [(167, 0), (167, 1), (167, 2), (167, 3), (167, 4), (167, 5), (177, 1)], [((3, 2), ([([(0, -1)], 2147483647), ([(0, 1)], 2147483648), ([(1, -1)], 2147483647), ([(1, 1)], 2147483648), ([(2, -1)], 1), ([(2, 1)], 1)], [], [], [], [], [], []), some (0, ([(2, 1)], 0), 0), ([], 0), ([], 0))])
noncomputable def tJ_52 : List tc_Pl := []
noncomputable def tC_52 : List tc_Ct := [tK_47, tK_51, tK_16]
def tM_52 (z : Nat) : Option am_Meth := if z = 54 then some aM_54.1 else if z = 50 then some aM_50.1 else if z = 23 then some aM_23.1 else none
set_option maxRecDepth 100000 in
theorem tMs_52 (sa : Nat → Nat) : ∀ z mz, tM_52 z = some mz → am_meth (aP sa) z = some mz := by
  intro z mz h
  unfold tM_52 at h
  rcases de_m h with ⟨rfl, rfl⟩ | h
  · exact (show am_meth (aP sa) 54 = some aM_54.1 from rfl)
  rcases de_m h with ⟨rfl, rfl⟩ | h
  · exact (show am_meth (aP sa) 50 = some aM_50.1 from rfl)
  rcases de_m h with ⟨rfl, rfl⟩ | h
  · exact (show am_meth (aP sa) 23 = some aM_23.1 from rfl)
  cases h
noncomputable def tV_52 : tc_Ev := (aQ, tp_T, tp_G.2, tp_Z, tM_52, tC_52, tp_L, tK_52.2.2.2.2.1, aM_53.1, aW_53, tK_52.2.1, tK_52.2.2.2.2.2, tJ_52)
theorem tE_52 : tK_52.2.2.2.2.2.all (tc_wex tK_52.2.1.1 tK_52.2.1.2) = true := by decide +kernel
theorem tSS_52 : tC_52.all (fun c => tw_mg tK_52.2.2.2.2.1 c.2.2.2.2.1) = true := by decide +kernel
theorem tHC_52 : ∀ c ∈ tC_52, c.2.2.2.2.1.all tK_52.2.2.2.2.1.contains = true ∧ c.2.2.2.2.2.all (tc_wex c.2.1.1 c.2.1.2) = true := tf_hc tSS_52 (by
  intro c hc
  have hc : c ∈ ([tK_47, tK_51, tK_16] : List tc_Ct) := hc
  rcases List.mem_cons.mp hc with rfl | hc
  · exact tE_47
  rcases List.mem_cons.mp hc with rfl | hc
  · exact tE_51
  rcases List.mem_cons.mp hc with rfl | hc
  · exact tE_16
  cases hc)
noncomputable def tH_52_0 : List tc_It := [de_it 0x2010000, de_it 0x101010101000101000000000000000000000000000000000a000200010100010006, de_it 0x10000010601010300000001, de_it 0x2010000, de_it 0x1000101030101010201010101010101000101000000000000000000000000000100010e01000100010007, de_it 0x10107010100000300000001, de_it 0x2010000, de_it 0x2, de_it 0x2, de_it 0x8010000, de_it 0x2, de_it 0x2, de_it 0x8010011, de_it 0x6010010, de_it 0x4010000, de_it 0x2, de_it 0x2, de_it 0x6010010, de_it 0x10d01040201010b01090201010d0101010c01090201010a01040201010b01040201010c01040201010a0101010b0101010c01010103010101020101010501010104010100000000000000000000000000000006160002020100020301000201010002000104080402030006, de_it 0x4010000, de_it 0x2, de_it 0x10d0101010a010101090101010b0101010c0101000000000000000000000000000000000d000202010002030102080604030006, de_it 0x2010000, de_it 0x10124010100000300000001, de_it 0x2010000, de_it 0x1000101030101010201010105010101040101000000000000000000000000000100010e00000100010007, de_it 0x4010000, de_it 0x2, de_it 0x10d0101010a010101090101010b0101010c0101000000000000000000000000000000000d000202010002030102080604030006, de_it 0x4c4a464442403e3c3a383634323026241a181614120a0817000d, de_it 0x2010000, de_it 0x10000011801010300000001, de_it 0x4010000, de_it 0x1000101080101010701010101010101000101000000000000000000000000000100010e02000100010007]
set_option maxRecDepth 100000 in
theorem tR_52 : fw_go tV_52 tK_52.2.1.1 tK_52.2.1.2 none tH_52_0 [(tK_52.2.1, tK_52.2.2.2.1, 0, tc_args 0 tK_52.2.2.1, [], ([], 0), ([], 0))] = true := by decide +kernel
set_option maxRecDepth 100000 in
theorem tT_52 {RO : am_O} {sa : Nat → Nat} (h_16 : tc_true (aP sa) tp_G RO tp_T tp_Z tK_16) (h_47 : tc_true (aP sa) tp_G RO tp_T tp_Z tK_47) (h_51 : tc_true (aP sa) tp_G RO tp_T tp_Z tK_51) : tc_true (aP sa) tp_G RO tp_T tp_Z tK_52 := by
  have hC : ∀ c ∈ tC_52, tc_true (aP sa) tp_G RO tp_T tp_Z c := by
    intro c hc
    have hc : c ∈ ([tK_47, tK_51, tK_16] : List tc_Ct) := hc
    rcases List.mem_cons.mp hc with rfl | hc
    · exact h_47
    rcases List.mem_cons.mp hc with rfl | hc
    · exact h_51
    rcases List.mem_cons.mp hc with rfl | hc
    · exact h_16
    cases hc
  have hP : ∀ p ∈ tJ_52, ∃ hs, tc_plk (aP sa, tV_52.2) p hs = true := by
    intro p hp
    have hp : p ∈ ([] : List tc_Pl) := hp
    cases hp
  exact tc_main (mt := aM_53.1) (hs := tH_52_0) (PL := tJ_52) ⟨tp_G_ok, tMs_52 _, hC, tp_L_ok, tp_G_re⟩ (show am_meth (aP sa) 53 = some aM_53.1 from rfl) aX_53 (by decide +kernel) hP ((tc_go_sa (aP_sa sa _)).trans ((fw_go_s tHC_52).trans tR_52))
noncomputable def tK_53 : tc_Ct := (306, (0, 1), [(2, ([], 0), 0)], ([], [(0, 165)], [], [], [], [], []), [(165, 16)], [((2, 1), ([([(0, -1)], 3), ([(0, 1)], 3), ([(1, -1)], 4), ([(1, 1)], -1), ([(0, -1), (1, 1)], -1), ([(0, 1), (1, 1)], -1)], [], [], [(0, 16, (0, ([(1, 1)], 0), 0))], [], [], []), some (0, ([(0, 1)], 0), 0), ([], 0), ([], 0))])
noncomputable def tJ_53 : List tc_Pl := []
noncomputable def tC_53 : List tc_Ct := []
def tM_53 (z : Nat) : Option am_Meth := none
set_option maxRecDepth 100000 in
theorem tMs_53 (sa : Nat → Nat) : ∀ z mz, tM_53 z = some mz → am_meth (aP sa) z = some mz := fun z mz h => by cases h
noncomputable def tV_53 : tc_Ev := (aQ, tp_T, tp_G.2, tp_Z, tM_53, tC_53, tp_L, tK_53.2.2.2.2.1, aM_306.1, aW_306, tK_53.2.1, tK_53.2.2.2.2.2, tJ_53)
theorem tE_53 : tK_53.2.2.2.2.2.all (tc_wex tK_53.2.1.1 tK_53.2.1.2) = true := by decide +kernel
theorem tSS_53 : tC_53.all (fun c => tw_mg tK_53.2.2.2.2.1 c.2.2.2.2.1) = true := by decide +kernel
theorem tHC_53 : ∀ c ∈ tC_53, c.2.2.2.2.1.all tK_53.2.2.2.2.1.contains = true ∧ c.2.2.2.2.2.all (tc_wex c.2.1.1 c.2.1.2) = true := tf_hc tSS_53 (by
  intro c hc
  have hc : c ∈ ([] : List tc_Ct) := hc
  cases hc)
noncomputable def tH_53_0 : List tc_It := [de_it 0x2010000, de_it 0x2, de_it 0x2010000, de_it 0x300000001, de_it 0x4010000, de_it 0x2, de_it 0x2010000, de_it 0x1020101010001010200000001, de_it 0x102010101000101000000000400000003, de_it 0x2010000, de_it 0x2, de_it 0x2010000, de_it 0x1020101010001010200000001, de_it 0x2000101000101000101010201010100010101020101000000000000000000000000000100010e02020001000200010200010007, de_it 0x2010000, de_it 0x102010101020101010201010101010100010001000000000000000000000000000100010e0002000105000200010007]
set_option maxRecDepth 100000 in
theorem tR_53 : fw_go tV_53 tK_53.2.1.1 tK_53.2.1.2 none tH_53_0 [(tK_53.2.1, tK_53.2.2.2.1, 0, tc_args 0 tK_53.2.2.1, [], ([], 0), ([], 0))] = true := by decide +kernel
set_option maxRecDepth 100000 in
theorem tT_53 {RO : am_O} {sa : Nat → Nat} : tc_true (aP sa) tp_G RO tp_T tp_Z tK_53 := by
  have hC : ∀ c ∈ tC_53, tc_true (aP sa) tp_G RO tp_T tp_Z c := by
    intro c hc
    have hc : c ∈ ([] : List tc_Ct) := hc
    cases hc
  have hP : ∀ p ∈ tJ_53, ∃ hs, tc_plk (aP sa, tV_53.2) p hs = true := by
    intro p hp
    have hp : p ∈ ([] : List tc_Pl) := hp
    cases hp
  exact tc_main (mt := aM_306.1) (hs := tH_53_0) (PL := tJ_53) ⟨tp_G_ok, tMs_53 _, hC, tp_L_ok, tp_G_re⟩ (show am_meth (aP sa) 306 = some aM_306.1 from rfl) aX_306 (by decide +kernel) hP ((tc_go_sa (aP_sa sa _)).trans ((fw_go_s tHC_53).trans tR_53))
noncomputable def tK_54 : tc_Ct := (308, (1, 1), [(2, ([], 0), 0), (0, ([(0, 1)], 0), 0)], ([([(0, -1)], 2147483647), ([(0, 1)], 2147483648)], [(0, 165)], [], [], [], [], []), [], [((1, 1), ([([(0, -1)], 2147483647), ([(0, 1)], 2147483648)], [], [], [], [], [], []), some (0, ([], 0), 0), ([], 0), ([], 0)), ((1, 1), ([([(0, -1)], 3), ([(0, 1)], 0)], [], [], [], [], [], []), some (0, ([], 1), 0), ([], 0), ([], 0))])
noncomputable def tJ_54 : List tc_Pl := []
noncomputable def tC_54 : List tc_Ct := []
def tM_54 (z : Nat) : Option am_Meth := none
set_option maxRecDepth 100000 in
theorem tMs_54 (sa : Nat → Nat) : ∀ z mz, tM_54 z = some mz → am_meth (aP sa) z = some mz := fun z mz h => by cases h
noncomputable def tV_54 : tc_Ev := (aQ, tp_T, tp_G.2, tp_Z, tM_54, tC_54, tp_L, tK_54.2.2.2.2.1, aM_308.1, aW_308, tK_54.2.1, tK_54.2.2.2.2.2, tJ_54)
theorem tE_54 : tK_54.2.2.2.2.2.all (tc_wex tK_54.2.1.1 tK_54.2.1.2) = true := by decide +kernel
theorem tSS_54 : tC_54.all (fun c => tw_mg tK_54.2.2.2.2.1 c.2.2.2.2.1) = true := by decide +kernel
theorem tHC_54 : ∀ c ∈ tC_54, c.2.2.2.2.1.all tK_54.2.2.2.2.1.contains = true ∧ c.2.2.2.2.2.all (tc_wex c.2.1.1 c.2.1.2) = true := tf_hc tSS_54 (by
  intro c hc
  have hc : c ∈ ([] : List tc_Ct) := hc
  cases hc)
noncomputable def tH_54_0 : List tc_It := [de_it 0x2010000, de_it 0x300000001, de_it 0x2010000, de_it 0x101010101020101000000000000000000010001000100010a0000010007, de_it 0x4010000, de_it 0x2, de_it 0x300000001, de_it 0x2010000, de_it 0x102010101000101000000000000000000010001000100010a0000010007, de_it 0x4010000, de_it 0x1020101010501040201000000000000000000010001000100010a0002010007]
set_option maxRecDepth 100000 in
theorem tR_54 : fw_go tV_54 tK_54.2.1.1 tK_54.2.1.2 none tH_54_0 [(tK_54.2.1, tK_54.2.2.2.1, 0, tc_args 0 tK_54.2.2.1, [], ([], 0), ([], 0))] = true := by decide +kernel
set_option maxRecDepth 100000 in
theorem tT_54 {RO : am_O} {sa : Nat → Nat} : tc_true (aP sa) tp_G RO tp_T tp_Z tK_54 := by
  have hC : ∀ c ∈ tC_54, tc_true (aP sa) tp_G RO tp_T tp_Z c := by
    intro c hc
    have hc : c ∈ ([] : List tc_Ct) := hc
    cases hc
  have hP : ∀ p ∈ tJ_54, ∃ hs, tc_plk (aP sa, tV_54.2) p hs = true := by
    intro p hp
    have hp : p ∈ ([] : List tc_Pl) := hp
    cases hp
  exact tc_main (mt := aM_308.1) (hs := tH_54_0) (PL := tJ_54) ⟨tp_G_ok, tMs_54 _, hC, tp_L_ok, tp_G_re⟩ (show am_meth (aP sa) 308 = some aM_308.1 from rfl) aX_308 (by decide +kernel) hP ((tc_go_sa (aP_sa sa _)).trans ((fw_go_s tHC_54).trans tR_54))
noncomputable def tK_55 : tc_Ct := (307, (1, 1), [(2, ([], 0), 0), (0, ([(0, 1)], 0), 0), (1, ([], 0), 0)], ([([(0, -1)], 2147483647), ([(0, 1)], 2147483648)], [(0, 165)], [], [], [], [], []), [(208, 0), (210, 0)], [((2, 1), ([([(0, -1)], 2147483647), ([(0, 1)], 2147483648), ([(1, -1)], 64), ([(1, 1)], 3)], [], [], [], [], [], []), some (0, ([(1, 1)], 0), 0), ([], 0), ([], 0))])
noncomputable def tJ_55 : List tc_Pl := []
noncomputable def tC_55 : List tc_Ct := [tK_54]
def tM_55 (z : Nat) : Option am_Meth := if z = 308 then some aM_308.1 else none
set_option maxRecDepth 100000 in
theorem tMs_55 (sa : Nat → Nat) : ∀ z mz, tM_55 z = some mz → am_meth (aP sa) z = some mz := by
  intro z mz h
  unfold tM_55 at h
  rcases de_m h with ⟨rfl, rfl⟩ | h
  · exact (show am_meth (aP sa) 308 = some aM_308.1 from rfl)
  cases h
noncomputable def tV_55 : tc_Ev := (aQ, tp_T, tp_G.2, tp_Z, tM_55, tC_55, tp_L, tK_55.2.2.2.2.1, aM_307.1, aW_307, tK_55.2.1, tK_55.2.2.2.2.2, tJ_55)
theorem tE_55 : tK_55.2.2.2.2.2.all (tc_wex tK_55.2.1.1 tK_55.2.1.2) = true := by decide +kernel
theorem tSS_55 : tC_55.all (fun c => tw_mg tK_55.2.2.2.2.1 c.2.2.2.2.1) = true := by decide +kernel
theorem tHC_55 : ∀ c ∈ tC_55, c.2.2.2.2.1.all tK_55.2.2.2.2.1.contains = true ∧ c.2.2.2.2.2.all (tc_wex c.2.1.1 c.2.1.2) = true := tf_hc tSS_55 (by
  intro c hc
  have hc : c ∈ ([tK_54] : List tc_Ct) := hc
  rcases List.mem_cons.mp hc with rfl | hc
  · exact tE_54
  cases hc)
noncomputable def tH_55_0 : List tc_It := [de_it 0x4010000, de_it 0x101010101000101000000000000000000000000000000010a00020001010000020006, de_it 0x10000010401010300000001, de_it 0x2010000, de_it 0x100010101010101000101000000000000000000000000000100010c01000100010007, de_it 0x10105010100000300000001, de_it 0x2010000, de_it 0x2, de_it 0x2010000, de_it 0x2010011, de_it 0x105010202010103010102000200010100010002, de_it 0x2010000, de_it 0x300000001, de_it 0x2010000, de_it 0x2, de_it 0x2010000, de_it 0x4010011, de_it 0x10c01020201010301010200000002, de_it 0x2010000, de_it 0x2, de_it 0x2010000, de_it 0x10501020201010301010200000002, de_it 0x2010000, de_it 0x6010011, de_it 0x10e010b0201010901010200000003, de_it 0x2010000, de_it 0x2, de_it 0x4010000, de_it 0x10501020201010301010200000002, de_it 0x2010000, de_it 0x10b0101010901010200000001, de_it 0x10b0101010901010105010202010103010104000200010100010003, de_it 0x2010000, de_it 0x2, de_it 0x2010000, de_it 0x10501020201010301010200000002, de_it 0x1090101010b01010103010101020101000000000000000000000000000100010c020202010100010007, de_it 0x2010000, de_it 0x100010103010101020101000000000000000000000000000100010c05000100010007]
set_option maxRecDepth 100000 in
theorem tR_55 : fw_go tV_55 tK_55.2.1.1 tK_55.2.1.2 none tH_55_0 [(tK_55.2.1, tK_55.2.2.2.1, 0, tc_args 0 tK_55.2.2.1, [], ([], 0), ([], 0))] = true := by decide +kernel
set_option maxRecDepth 100000 in
theorem tT_55 {RO : am_O} {sa : Nat → Nat} (h_54 : tc_true (aP sa) tp_G RO tp_T tp_Z tK_54) : tc_true (aP sa) tp_G RO tp_T tp_Z tK_55 := by
  have hC : ∀ c ∈ tC_55, tc_true (aP sa) tp_G RO tp_T tp_Z c := by
    intro c hc
    have hc : c ∈ ([tK_54] : List tc_Ct) := hc
    rcases List.mem_cons.mp hc with rfl | hc
    · exact h_54
    cases hc
  have hP : ∀ p ∈ tJ_55, ∃ hs, tc_plk (aP sa, tV_55.2) p hs = true := by
    intro p hp
    have hp : p ∈ ([] : List tc_Pl) := hp
    cases hp
  exact tc_main (mt := aM_307.1) (hs := tH_55_0) (PL := tJ_55) ⟨tp_G_ok, tMs_55 _, hC, tp_L_ok, tp_G_re⟩ (show am_meth (aP sa) 307 = some aM_307.1 from rfl) aX_307 (by decide +kernel) hP ((tc_go_sa (aP_sa sa _)).trans ((fw_go_s tHC_55).trans tR_55))
noncomputable def tK_56 : tc_Ct := (311, (0, 2), [(2, ([], 0), 0), (1, ([], 0), 0)], ([], [(0, 165), (1, 166)], [], [(0, 0, (2, ([], 0), 1))], [], [], [(568, [1], [])]), [(167, 0), (167, 1), (167, 2), (167, 3), (167, 4), (167, 5)], [((0, 2), ([], [], [], [], [], [], []), some (1, ([], 0), 0), ([], 0), ([], 0))])
noncomputable def tJ_56 : List tc_Pl := []
noncomputable def tC_56 : List tc_Ct := [tK_10, tK_22, tK_23, tK_14]
def tM_56 (z : Nat) : Option am_Meth := if z = 31 then some aM_31.1 else if z = 30 then some aM_30.1 else if z = 21 then some aM_21.1 else if z = 18 then some aM_18.1 else none
set_option maxRecDepth 100000 in
theorem tMs_56 (sa : Nat → Nat) : ∀ z mz, tM_56 z = some mz → am_meth (aP sa) z = some mz := by
  intro z mz h
  unfold tM_56 at h
  rcases de_m h with ⟨rfl, rfl⟩ | h
  · exact (show am_meth (aP sa) 31 = some aM_31.1 from rfl)
  rcases de_m h with ⟨rfl, rfl⟩ | h
  · exact (show am_meth (aP sa) 30 = some aM_30.1 from rfl)
  rcases de_m h with ⟨rfl, rfl⟩ | h
  · exact (show am_meth (aP sa) 21 = some aM_21.1 from rfl)
  rcases de_m h with ⟨rfl, rfl⟩ | h
  · exact (show am_meth (aP sa) 18 = some aM_18.1 from rfl)
  cases h
noncomputable def tV_56 : tc_Ev := (aQ, tp_T, tp_G.2, tp_Z, tM_56, tC_56, tp_L, tK_56.2.2.2.2.1, aM_311.1, aW_311, tK_56.2.1, tK_56.2.2.2.2.2, tJ_56)
theorem tE_56 : tK_56.2.2.2.2.2.all (tc_wex tK_56.2.1.1 tK_56.2.1.2) = true := by decide +kernel
theorem tSS_56 : tC_56.all (fun c => tw_mg tK_56.2.2.2.2.1 c.2.2.2.2.1) = true := by decide +kernel
theorem tHC_56 : ∀ c ∈ tC_56, c.2.2.2.2.1.all tK_56.2.2.2.2.1.contains = true ∧ c.2.2.2.2.2.all (tc_wex c.2.1.1 c.2.1.2) = true := tf_hc tSS_56 (by
  intro c hc
  have hc : c ∈ ([tK_10, tK_22, tK_23, tK_14] : List tc_Ct) := hc
  rcases List.mem_cons.mp hc with rfl | hc
  · exact tE_10
  rcases List.mem_cons.mp hc with rfl | hc
  · exact tE_22
  rcases List.mem_cons.mp hc with rfl | hc
  · exact tE_23
  rcases List.mem_cons.mp hc with rfl | hc
  · exact tE_14
  cases hc)
noncomputable def tH_56_0 : List tc_It := [de_it 0x2010000, de_it 0x2, de_it 0x2, de_it 0x6010000, de_it 0x10001000000000000000000000000000000010a0000010400020006, de_it 0x4010000, de_it 0x10001000000000000000000000000000000010a0000010402020006, de_it 0x4010000, de_it 0x108000404020006, de_it 0x2010000, de_it 0x8000406020006, de_it 0x10001080000010007]
set_option maxRecDepth 100000 in
theorem tR_56 : fw_go tV_56 tK_56.2.1.1 tK_56.2.1.2 none tH_56_0 [(tK_56.2.1, tK_56.2.2.2.1, 0, tc_args 0 tK_56.2.2.1, [], ([], 0), ([], 0))] = true := by decide +kernel
set_option maxRecDepth 100000 in
theorem tT_56 {RO : am_O} {sa : Nat → Nat} (h_10 : tc_true (aP sa) tp_G RO tp_T tp_Z tK_10) (h_14 : tc_true (aP sa) tp_G RO tp_T tp_Z tK_14) (h_22 : tc_true (aP sa) tp_G RO tp_T tp_Z tK_22) (h_23 : tc_true (aP sa) tp_G RO tp_T tp_Z tK_23) : tc_true (aP sa) tp_G RO tp_T tp_Z tK_56 := by
  have hC : ∀ c ∈ tC_56, tc_true (aP sa) tp_G RO tp_T tp_Z c := by
    intro c hc
    have hc : c ∈ ([tK_10, tK_22, tK_23, tK_14] : List tc_Ct) := hc
    rcases List.mem_cons.mp hc with rfl | hc
    · exact h_10
    rcases List.mem_cons.mp hc with rfl | hc
    · exact h_22
    rcases List.mem_cons.mp hc with rfl | hc
    · exact h_23
    rcases List.mem_cons.mp hc with rfl | hc
    · exact h_14
    cases hc
  have hP : ∀ p ∈ tJ_56, ∃ hs, tc_plk (aP sa, tV_56.2) p hs = true := by
    intro p hp
    have hp : p ∈ ([] : List tc_Pl) := hp
    cases hp
  exact tc_main (mt := aM_311.1) (hs := tH_56_0) (PL := tJ_56) ⟨tp_G_ok, tMs_56 _, hC, tp_L_ok, tp_G_re⟩ (show am_meth (aP sa) 311 = some aM_311.1 from rfl) aX_311 (by decide +kernel) hP ((tc_go_sa (aP_sa sa _)).trans ((fw_go_s tHC_56).trans tR_56))
noncomputable def tK_57 : tc_Ct := (312, (0, 2), [(2, ([], 0), 0), (1, ([], 0), 0), (1, ([], 0), 0)], ([], [(0, 165), (1, 166)], [], [(0, 0, (2, ([], 0), 1))], [], [], [(568, [1], [])]), [(167, 0), (167, 1), (167, 2), (167, 3), (167, 4), (167, 5)], [((0, 2), ([], [], [], [], [], [], []), some (1, ([], 0), 0), ([], 0), ([], 0))])
noncomputable def tJ_57 : List tc_Pl := []
noncomputable def tC_57 : List tc_Ct := [tK_10, tK_22, tK_23, tK_14]
def tM_57 (z : Nat) : Option am_Meth := if z = 31 then some aM_31.1 else if z = 30 then some aM_30.1 else if z = 21 then some aM_21.1 else if z = 18 then some aM_18.1 else none
set_option maxRecDepth 100000 in
theorem tMs_57 (sa : Nat → Nat) : ∀ z mz, tM_57 z = some mz → am_meth (aP sa) z = some mz := by
  intro z mz h
  unfold tM_57 at h
  rcases de_m h with ⟨rfl, rfl⟩ | h
  · exact (show am_meth (aP sa) 31 = some aM_31.1 from rfl)
  rcases de_m h with ⟨rfl, rfl⟩ | h
  · exact (show am_meth (aP sa) 30 = some aM_30.1 from rfl)
  rcases de_m h with ⟨rfl, rfl⟩ | h
  · exact (show am_meth (aP sa) 21 = some aM_21.1 from rfl)
  rcases de_m h with ⟨rfl, rfl⟩ | h
  · exact (show am_meth (aP sa) 18 = some aM_18.1 from rfl)
  cases h
noncomputable def tV_57 : tc_Ev := (aQ, tp_T, tp_G.2, tp_Z, tM_57, tC_57, tp_L, tK_57.2.2.2.2.1, aM_312.1, aW_312, tK_57.2.1, tK_57.2.2.2.2.2, tJ_57)
theorem tE_57 : tK_57.2.2.2.2.2.all (tc_wex tK_57.2.1.1 tK_57.2.1.2) = true := by decide +kernel
theorem tSS_57 : tC_57.all (fun c => tw_mg tK_57.2.2.2.2.1 c.2.2.2.2.1) = true := by decide +kernel
theorem tHC_57 : ∀ c ∈ tC_57, c.2.2.2.2.1.all tK_57.2.2.2.2.1.contains = true ∧ c.2.2.2.2.2.all (tc_wex c.2.1.1 c.2.1.2) = true := tf_hc tSS_57 (by
  intro c hc
  have hc : c ∈ ([tK_10, tK_22, tK_23, tK_14] : List tc_Ct) := hc
  rcases List.mem_cons.mp hc with rfl | hc
  · exact tE_10
  rcases List.mem_cons.mp hc with rfl | hc
  · exact tE_22
  rcases List.mem_cons.mp hc with rfl | hc
  · exact tE_23
  rcases List.mem_cons.mp hc with rfl | hc
  · exact tE_14
  cases hc)
noncomputable def tH_57_0 : List tc_It := [de_it 0x2010000, de_it 0x2, de_it 0x2, de_it 0x6010000, de_it 0x10001000000000000000000000000000000010a0000010400020006, de_it 0x4010000, de_it 0x10001000000000000000000000000000000010a0200010402020006, de_it 0x4010000, de_it 0x108000404020006, de_it 0x4010000, de_it 0x108000404020006, de_it 0x2010000, de_it 0x8000406020006, de_it 0x52504e4c4a48464432300a000d, de_it 0x10001080000010007]
set_option maxRecDepth 100000 in
theorem tR_57 : fw_go tV_57 tK_57.2.1.1 tK_57.2.1.2 none tH_57_0 [(tK_57.2.1, tK_57.2.2.2.1, 0, tc_args 0 tK_57.2.2.1, [], ([], 0), ([], 0))] = true := by decide +kernel
set_option maxRecDepth 100000 in
theorem tT_57 {RO : am_O} {sa : Nat → Nat} (h_10 : tc_true (aP sa) tp_G RO tp_T tp_Z tK_10) (h_14 : tc_true (aP sa) tp_G RO tp_T tp_Z tK_14) (h_22 : tc_true (aP sa) tp_G RO tp_T tp_Z tK_22) (h_23 : tc_true (aP sa) tp_G RO tp_T tp_Z tK_23) : tc_true (aP sa) tp_G RO tp_T tp_Z tK_57 := by
  have hC : ∀ c ∈ tC_57, tc_true (aP sa) tp_G RO tp_T tp_Z c := by
    intro c hc
    have hc : c ∈ ([tK_10, tK_22, tK_23, tK_14] : List tc_Ct) := hc
    rcases List.mem_cons.mp hc with rfl | hc
    · exact h_10
    rcases List.mem_cons.mp hc with rfl | hc
    · exact h_22
    rcases List.mem_cons.mp hc with rfl | hc
    · exact h_23
    rcases List.mem_cons.mp hc with rfl | hc
    · exact h_14
    cases hc
  have hP : ∀ p ∈ tJ_57, ∃ hs, tc_plk (aP sa, tV_57.2) p hs = true := by
    intro p hp
    have hp : p ∈ ([] : List tc_Pl) := hp
    cases hp
  exact tc_main (mt := aM_312.1) (hs := tH_57_0) (PL := tJ_57) ⟨tp_G_ok, tMs_57 _, hC, tp_L_ok, tp_G_re⟩ (show am_meth (aP sa) 312 = some aM_312.1 from rfl) aX_312 (by decide +kernel) hP ((tc_go_sa (aP_sa sa _)).trans ((fw_go_s tHC_57).trans tR_57))
