/-! contracts -/
noncomputable def tK_226 : tc_Ct := (115, (4, 3), [(2, ([], 0), 0), (0, ([(0, 1)], 0), 0)], ([([(0, -1)], 2147483647), ([(0, 1)], 2147483648), ([(1, -1)], 8), ([(1, 1)], 0), ([(2, -1)], 30), ([(2, 1)], 0), ([(3, -1)], 8000000), ([(3, 1)], 0)], [(0, 165), (1, 166), (2, 201)], [], [(0, 0, (2, ([], 0), 1)), (0, 5, (2, ([], 0), 2)), (0, 6, (0, ([(1, 1)], 0), 0)), (1, 9, (0, ([(2, 1)], 0), 0))], [], [], [(576, [], []), (584, [], []), (616, [], []), (632, [], [([(2, 1)], 0)]), (648, [], [([(2, 1)], 0)]), (808, [], []), (1016, [], []), (1024, [], []), (1088, [], []), (1096, [], []), (1136, [], [([(3, 1)], 0)]), (456, [2], [([], 0), ([(1, 1)], 0), ([], -1)])]), [(165, 6), (170, 1000), (181, 1000), (182, 1000), (183, 1000), (193, 1000), (201, 0), (219, 0), (219, 1000), (220, 0), (220, 1000), (221, 0), (221, 1000), (222, 1000), (223, 1000), (224, 1000), (225, 1000)], [((9, 3), ([([(0, -1)], 2147483647), ([(0, 1)], 2147483648), ([(1, -1)], 8), ([(1, 1)], 0), ([(2, -1)], 30), ([(2, 1)], 0), ([(3, -1)], 8000000), ([(3, 1)], 0), ([(4, -1)], 7), ([(4, 1)], 3), ([(5, -1)], 8), ([(5, 1)], 0), ([(6, -1)], 16), ([(6, 1)], 0), ([(7, -1)], 154), ([(7, 1)], 0), ([(8, -1)], 8002560), ([(8, 1)], 0), ([(1, -1), (4, -1)], 14), ([(1, -1), (5, 1)], 0), ([(1, 1), (4, -1)], 0), ([(1, 1), (4, 1)], 1), ([(1, 1), (5, -1)], 1), ([(4, -1), (5, 1)], -1), ([(6, -16), (7, 1)], 102), ([(3, 1), (7, -1), (8, -1)], 2714)], [], [], [(0, 6, (0, ([(5, 1)], 0), 0))], [], [], [(632, [], [([(2, 1)], 0)]), (648, [], [([(2, 1)], 0)]), (456, [2], [([], 0), ([(5, 1)], 0), ([], -1)]), (616, [], []), (576, [], []), (584, [], []), (808, [], []), (1136, [], [([(8, 1)], 0)])]), some (0, ([(4, 1)], 0), 0), ([(6, 1)], 0), ([(7, 1)], 0))])
noncomputable def tJ_226 : List tc_Pl := []
noncomputable def tC_226 : List tc_Ct := [tK_225]
def tM_226 (z : Nat) : Option am_Meth := if z = 116 then some aM_116.1 else none
set_option maxRecDepth 100000 in
theorem tMs_226 (sa : Nat → Nat) : ∀ z mz, tM_226 z = some mz → am_meth (aP sa) z = some mz := by
  intro z mz h
  unfold tM_226 at h
  rcases de_m h with ⟨rfl, rfl⟩ | h
  · exact (show am_meth (aP sa) 116 = some aM_116.1 from rfl)
  cases h
noncomputable def tV_226 : tc_Ev := (aQ, tp_T, tp_G.2, tp_Z, tM_226, tC_226, tp_L, tK_226.2.2.2.2.1, aM_115.1, aW_115, tK_226.2.1, tK_226.2.2.2.2.2, tJ_226)
theorem tE_226 : tK_226.2.2.2.2.2.all (tc_wex tK_226.2.1.1 tK_226.2.1.2) = true := by decide +kernel
theorem tSS_226 : tC_226.all (fun c => tw_mg tK_226.2.2.2.2.1 c.2.2.2.2.1) = true := by decide +kernel
theorem tHC_226 : ∀ c ∈ tC_226, c.2.2.2.2.1.all tK_226.2.2.2.2.1.contains = true ∧ c.2.2.2.2.2.all (tc_wex c.2.1.1 c.2.1.2) = true := tf_hc tSS_226 (by
  intro c hc
  have hc : c ∈ ([tK_225] : List tc_Ct) := hc
  rcases List.mem_cons.mp hc with rfl | hc
  · exact tE_225
  cases hc)
noncomputable def tH_226_0 : List tc_It := [de_it 0x2010000, de_it 0x300000001, de_it 0x2010000, de_it 0x2, de_it 0x2010000, de_it 0x300000001, de_it 0x2010000, de_it 0x2, de_it 0x2010000, de_it 0x2, de_it 0x4, de_it 0x6010000, de_it 0x1090101010b0109020100000300000001, de_it 0x2010000, de_it 0x107010101060101010501010104010100010001000000000000000000000000000000000e00020301000202010000030600020006, de_it 0x800000000000000011aff010009, de_it 0x80014000000000000011cff020009, de_it 0x800000000000000011eff010009, de_it 0x8000000000000000120ff010009, de_it 0x800020201010000000000000122ff010009, de_it 0x800020201010000000000000124ff010009, de_it 0x8000000000000000126ff010009, de_it 0x100010000000000010001000000000000000000010001000000000000000000010001000100010000000000010001000000000000000000000000000000000001000122000000000000000154ff0602000a, de_it 0x80014060000000000000128ff030009, de_it 0x10000000000000000000000000000000009000202010100000000000410000000000000012aff020009, de_it 0x800020201000000000000040606061006000000000000012cff060009, de_it 0x1000000000000000000000000000000000900020201010000000000040e000000000000012eff020009, de_it 0x800020201000000000000040606060e060000000000000130ff060009, de_it 0x100000000000000000000000000000000090000000002180000000000000132ff020009, de_it 0x80000000000000306060618060000000000000134ff060009, de_it 0x100000000000000000000000000000000090000000002140000000000000136ff020009, de_it 0x80000000000000306060614060000000000000138ff060009, de_it 0x8000000000000030606060806000000000000013aff060009, de_it 0x4010011, de_it 0x112010a020101030101000000000000000000000000000000000a0002040100020101020604000000000000013cff030009, de_it 0x1000101030101000000000000000000000000000000000b00020101010000020101000004060404000000000000013eff040009, de_it 0x112010a0201010301010200000003, de_it 0x4010000, de_it 0x2, de_it 0x2010000, de_it 0x10a0101010301010200000001, de_it 0x10a010101030101000000000400000003, de_it 0x2010000, de_it 0x2, de_it 0x2010000, de_it 0x10a0101010301010200000001, de_it 0x10001000100010203010100010001020a01010107010101060101000100010001000101030101010a010101030101010a01010107010101060101010501010104010101030101010a0101010801010109010100000000000000000000000000010001220000000000001400ff0203010000000000000134ff00200002020101000201010500010007, de_it 0x2010000, de_it 0x10001010a01010001010a0101010a010100010102010101070101010601010001000100010001010a0101010201010001000101070101010601010105010101040101010a0101010201010108010101090101000000000000000000000000000100012200020301000000000002010105000500010007, de_it 0x4010000, de_it 0x300000001, de_it 0x2010000, de_it 0x2, de_it 0x2010000, de_it 0x300000001, de_it 0x2010000, de_it 0x2, de_it 0x2010000, de_it 0x2, de_it 0x4, de_it 0x6010000, de_it 0x10801010000010b010902010300000001, de_it 0x4010000, de_it 0x107010101060101010501010104010100010001000000000000000000000000000000000e00020301000202010200030600020006, de_it 0x800000000000000011aff010009, de_it 0x80014000000000000011cff020009, de_it 0x800000000000000011eff010009, de_it 0x8000000000000000120ff010009, de_it 0x800020201010000000000000122ff010009, de_it 0x800020201010000000000000124ff010009, de_it 0x8000000000000000126ff010009, de_it 0x100010000000000010001000000000000000000010001000000000000000000010001000100010000000000010001000000000000000000000000000000000001000122000000000000000154ff0602000a, de_it 0x80014060000000000000128ff030009, de_it 0x10000000000000000000000000000000009000202010100000000000410000000000000012aff020009, de_it 0x800020201000000000000040606061006000000000000012cff060009, de_it 0x1000000000000000000000000000000000900020201010000000000040e000000000000012eff020009, de_it 0x800020201000000000000040606060e060000000000000130ff060009, de_it 0x100000000000000000000000000000000090000000002180000000000000132ff020009, de_it 0x80000000000000306060618060000000000000134ff060009, de_it 0x100000000000000000000000000000000090000000002140000000000000136ff020009, de_it 0x80000000000000306060614060000000000000138ff060009, de_it 0x8000000000000030606060806000000000000013aff060009, de_it 0x4010011, de_it 0x113010a020101030101000000000000000000000000000000000a0002040100020101020604000000000000013cff030009, de_it 0x1000101030101000000000000000000000000000000000b00020101010000020101000004060404000000000000013eff040009, de_it 0x113010a0201010301010200000003, de_it 0x4010000, de_it 0x2, de_it 0x2010000, de_it 0x10a0101010301010200000001, de_it 0x10a010101030101000000000400000003, de_it 0x2010000, de_it 0x2, de_it 0x2010000, de_it 0x10a0101010301010200000001, de_it 0x10001000100010203010100010001020a01010107010101060101000100010001000101030101010a010101030101010a01010107010101060101010501010104010101030101010a0101010801010109010100000000000000000000000000010001220000000000001400ff0203010000000000000134ff00200002020101000201010500010007, de_it 0x2010000, de_it 0x10001010a01010001010a0101010a010100010102010101070101010601010001000100010001010a0101010201010001000101070101010601010105010101040101010a0101010201010108010101090101000000000000000000000000000100012200020301000000000002010105000500010007, de_it 0x2010000, de_it 0x100010103010100010103010101030101000101020101010701010106010100010001000100010103010101020101000100010107010101060101010501010104010101030101010201010101010101000101000000000000000000000000000100012200020301000000000002010101000500010007]
set_option maxRecDepth 100000 in
theorem tR_226 : tf_go tV_226 tK_226.2.1.1 tK_226.2.1.2 none tH_226_0 [(tK_226.2.1, tK_226.2.2.2.1, 0, tc_args 0 tK_226.2.2.1, [], ([], 0), ([], 0))] = true := by decide +kernel
set_option maxRecDepth 100000 in
theorem tT_226 {RO : am_O} {sa : Nat → Nat} (h_225 : tc_true (aP sa) tp_G RO tp_T tp_Z tK_225) : tc_true (aP sa) tp_G RO tp_T tp_Z tK_226 := by
  have hC : ∀ c ∈ tC_226, tc_true (aP sa) tp_G RO tp_T tp_Z c := by
    intro c hc
    have hc : c ∈ ([tK_225] : List tc_Ct) := hc
    rcases List.mem_cons.mp hc with rfl | hc
    · exact h_225
    cases hc
  have hP : ∀ p ∈ tJ_226, ∃ hs, tc_plk (aP sa, tV_226.2) p hs = true := by
    intro p hp
    have hp : p ∈ ([] : List tc_Pl) := hp
    cases hp
  exact tc_main (mt := aM_115.1) (hs := tH_226_0) (PL := tJ_226) ⟨tp_G_ok, tMs_226 _, hC, tp_L_ok, tp_G_re⟩ (show am_meth (aP sa) 115 = some aM_115.1 from rfl) aX_115 (by decide +kernel) hP ((tc_go_sa (aP_sa sa _)).trans ((tf_go_s tHC_226).trans tR_226))
noncomputable def tK_227 : tc_Ct := (118, (2, 0), [(0, ([(0, 1)], 0), 0), (0, ([(1, 1)], 0), 0)], ([([(0, -1)], 2147483647), ([(0, 1)], 2147483648), ([(1, -1)], 3), ([(1, 1)], -2)], [], [], [], [], [], []), [], [((3, 0), ([([(0, -1)], 2147483647), ([(0, 1)], 2147483648), ([(1, -1)], 3), ([(1, 1)], -2), ([(2, -1)], 25), ([(2, 1)], 0)], [], [], [], [], [], []), some (0, ([(2, 1)], 0), 0), ([], 0), ([], 0))])
noncomputable def tL_227_0 : tc_Pl := de_pl 0x30d30ff00020204010000000000030d30ff000300000000000000020401000400000203010003000002020100020000020101000100000200010000050800000000000030010401020210020401300104010000000100000000ff02030100000000fffffffeff010301000202013201020103020101060101010000000100000000ff02000100000000fffffffeff01000103020101060101010000000100000000ff02000100000000fffffffeff0100010f0005
noncomputable def tJ_227 : List tc_Pl := [tL_227_0]
noncomputable def tC_227 : List tc_Ct := []
def tM_227 (z : Nat) : Option am_Meth := none
set_option maxRecDepth 100000 in
theorem tMs_227 (sa : Nat → Nat) : ∀ z mz, tM_227 z = some mz → am_meth (aP sa) z = some mz := fun z mz h => by cases h
noncomputable def tV_227 : tc_Ev := (aQ, tp_T, tp_G.2, tp_Z, tM_227, tC_227, tp_L, tK_227.2.2.2.2.1, aM_118.1, aW_118, tK_227.2.1, tK_227.2.2.2.2.2, tJ_227)
theorem tE_227 : tK_227.2.2.2.2.2.all (tc_wex tK_227.2.1.1 tK_227.2.1.2) = true := by decide +kernel
theorem tSS_227 : tC_227.all (fun c => tw_mg tK_227.2.2.2.2.1 c.2.2.2.2.1) = true := by decide +kernel
theorem tHC_227 : ∀ c ∈ tC_227, c.2.2.2.2.1.all tK_227.2.2.2.2.1.contains = true ∧ c.2.2.2.2.2.all (tc_wex c.2.1.1 c.2.1.2) = true := tf_hc tSS_227 (by
  intro c hc
  have hc : c ∈ ([] : List tc_Ct) := hc
  cases hc)
noncomputable def tH_227_0 : List tc_It := [de_it 0xc010000, de_it 0x1000100010001000100010001010301010102010101010101010001010103010101020101010101010100010100000000000000000000000000010001173000000000000300010008]
set_option maxRecDepth 100000 in
theorem tR_227 : tf_go tV_227 tK_227.2.1.1 tK_227.2.1.2 none tH_227_0 [(tK_227.2.1, tK_227.2.2.2.1, 0, tc_args 0 tK_227.2.2.1, [], ([], 0), ([], 0))] = true := by decide +kernel
noncomputable def tH_227_1 : List tc_It := [de_it 0x2010000, de_it 0x300000001, de_it 0x2010000, de_it 0x10901010108010101030101010201010101010101000101000000000000000000000000000100010e000202010100010007, de_it 0x4010000, de_it 0x101, de_it 0xa010000, de_it 0x300000001, de_it 0x2010000, de_it 0x1000101030101010201010101010101000101000000000000000000000000000100010e00000100010007, de_it 0x2010000, de_it 0x300000001, de_it 0x6010000, de_it 0x101, de_it 0x101, de_it 0x6010000, de_it 0x11a0115020100000300000001, de_it 0x2010000, de_it 0x10f010e0201010901010200000001, de_it 0x2010000, de_it 0x10c0101010f01010200000001, de_it 0x2010000, de_it 0x10e0101010f0101010c0101011801010119010101090101010f010e0201010301010102010101010101010001010103010101020101010101010100010100000000010f010100010000000100010001170f02040100020801000202010300010008, de_it 0x4010000, de_it 0x101, de_it 0x6010000, de_it 0x1190101000000000300000001, de_it 0x6010000, de_it 0x101, de_it 0x101, de_it 0x6010000, de_it 0x11f011502010300000001, de_it 0x4010000, de_it 0x10f010e0201010901010200000001, de_it 0x2010000, de_it 0x10c0101010f01010200000001, de_it 0x2010000, de_it 0x10e0101010f0101010c0101011d0101011e010101090101010f010e0201010301010102010101010101010001010103010101020101010101010100010100000000010f010100010000000100010001170f02040100020a01020202010300010008, de_it 0x2010000, de_it 0x1000101030101010201010101010101000101000000000000000000000000000100010e00000100010007]
set_option maxRecDepth 100000 in
theorem tP_227_0 : tf_plk tV_227 tL_227_0 tH_227_1 = true := by decide +kernel
set_option maxRecDepth 100000 in
theorem tT_227 {RO : am_O} {sa : Nat → Nat} : tc_true (aP sa) tp_G RO tp_T tp_Z tK_227 := by
  have hC : ∀ c ∈ tC_227, tc_true (aP sa) tp_G RO tp_T tp_Z c := by
    intro c hc
    have hc : c ∈ ([] : List tc_Ct) := hc
    cases hc
  have hP : ∀ p ∈ tJ_227, ∃ hs, tc_plk (aP sa, tV_227.2) p hs = true := by
    intro p hp
    have hp : p ∈ ([tL_227_0] : List tc_Pl) := hp
    rcases List.mem_cons.mp hp with rfl | hp
    · exact ⟨_, (tc_plk_sa (aP_sa sa _)).trans ((tf_plk_s tHC_227).trans tP_227_0)⟩
    cases hp
  exact tc_main (mt := aM_118.1) (hs := tH_227_0) (PL := tJ_227) ⟨tp_G_ok, tMs_227 _, hC, tp_L_ok, tp_G_re⟩ (show am_meth (aP sa) 118 = some aM_118.1 from rfl) aX_118 (by decide +kernel) hP ((tc_go_sa (aP_sa sa _)).trans ((tf_go_s tHC_227).trans tR_227))
noncomputable def tK_228 : tc_Ct := (71, (0, 1), [(2, ([], 0), 0), (0, ([], 0), 0)], ([], [(0, 220)], [], [], [], [], []), [(220, 0)], [((0, 1), ([], [], [], [], [], [], []), none, ([], 0), ([], 0))])
noncomputable def tL_228_0 : tc_Pl := de_pl 0x30d36ff00000200010000000000030d36ff000300000000000000020001000300000000020000000001000000020004050000000000dc00010702000108010001020101
noncomputable def tL_228_1 : tc_Pl := de_pl 0x30d36ff00010200010000000000030d36ff0003000000000000000200010003000200000200000000010000000200040500000000000000010000dc00010702000108010001020101
noncomputable def tL_228_2 : tc_Pl := de_pl 0x30d36ff00030200010000000000030d36ff00030000000000000002000100030004000002000000000100000002000405000000000200000000000000020000dc00010702000108010001020101
noncomputable def tL_228_3 : tc_Pl := de_pl 0x30d36ff00050200010000000000030d36ff000300000000000000020001000300060000020000000001000000020004050000000004000000000200000000000000030000dc00010702000108010001020101
noncomputable def tL_228_4 : tc_Pl := de_pl 0x30d36ff00070200010000000000030d36ff0003000000000000000200010003000800000200000000010000000200040500000000060000000004000000000200000000000000040000dc00010702000108010001020101
noncomputable def tJ_228 : List tc_Pl := [tL_228_0, tL_228_1, tL_228_2, tL_228_3, tL_228_4]
noncomputable def tC_228 : List tc_Ct := []
def tM_228 (z : Nat) : Option am_Meth := none
set_option maxRecDepth 100000 in
theorem tMs_228 (sa : Nat → Nat) : ∀ z mz, tM_228 z = some mz → am_meth (aP sa) z = some mz := fun z mz h => by cases h
noncomputable def tV_228 : tc_Ev := (aQ, tp_T, tp_G.2, tp_Z, tM_228, tC_228, tp_L, tK_228.2.2.2.2.1, aM_71.1, aW_71, tK_228.2.1, tK_228.2.2.2.2.2, tJ_228)
theorem tE_228 : tK_228.2.2.2.2.2.all (tc_wex tK_228.2.1.1 tK_228.2.1.2) = true := by decide +kernel
theorem tSS_228 : tC_228.all (fun c => tw_mg tK_228.2.2.2.2.1 c.2.2.2.2.1) = true := by decide +kernel
theorem tHC_228 : ∀ c ∈ tC_228, c.2.2.2.2.1.all tK_228.2.2.2.2.1.contains = true ∧ c.2.2.2.2.2.all (tc_wex c.2.1.1 c.2.1.2) = true := tf_hc tSS_228 (by
  intro c hc
  have hc : c ∈ ([] : List tc_Ct) := hc
  cases hc)
noncomputable def tH_228_0 : List tc_It := [de_it 0x6010000, de_it 0x2, de_it 0x2010000, de_it 0x100010101010101000000000000000000000000000100010a000200010100010008]
set_option maxRecDepth 100000 in
theorem tR_228 : tf_go tV_228 tK_228.2.1.1 tK_228.2.1.2 none tH_228_0 [(tK_228.2.1, tK_228.2.2.2.1, 0, tc_args 0 tK_228.2.2.1, [], ([], 0), ([], 0))] = true := by decide +kernel
noncomputable def tH_228_1 : List tc_It := [de_it 0x4010000, de_it 0x102010102010300000001, de_it 0x6010000, de_it 0x10011, de_it 0x100010103010100010400000100010003, de_it 0x4010000, de_it 0x1010101010001010000000001010101000100000001000100010a000200010102010008]
set_option maxRecDepth 100000 in
theorem tP_228_0 : tf_plk tV_228 tL_228_0 tH_228_1 = true := by decide +kernel
noncomputable def tH_228_2 : List tc_It := [de_it 0x4010000, de_it 0x102010102010300000001, de_it 0x6010000, de_it 0x10011, de_it 0x100010103010100010402000100010003, de_it 0x4010000, de_it 0x1010101010001010000000001010101000100000001000100010a000200010104010008]
set_option maxRecDepth 100000 in
theorem tP_228_1 : tf_plk tV_228 tL_228_1 tH_228_2 = true := by decide +kernel
noncomputable def tH_228_3 : List tc_It := [de_it 0x4010000, de_it 0x102010102010300000001, de_it 0x6010000, de_it 0x10011, de_it 0x100010103010100010404000100010003, de_it 0x4010000, de_it 0x1010101010001010000000001010101000100000001000100010a000200010106010008]
set_option maxRecDepth 100000 in
theorem tP_228_2 : tf_plk tV_228 tL_228_2 tH_228_3 = true := by decide +kernel
noncomputable def tH_228_4 : List tc_It := [de_it 0x4010000, de_it 0x102010102010300000001, de_it 0x6010000, de_it 0x10011, de_it 0x100010103010100010406000100010003, de_it 0x4010000, de_it 0x1010101010001010000000001010101000100000001000100010a000200010108010008]
set_option maxRecDepth 100000 in
theorem tP_228_3 : tf_plk tV_228 tL_228_3 tH_228_4 = true := by decide +kernel
noncomputable def tH_228_5 : List tc_It := [de_it 0x4010000, de_it 0x1020100020100000300000001, de_it 0x10001080000010007]
set_option maxRecDepth 100000 in
theorem tP_228_4 : tf_plk tV_228 tL_228_4 tH_228_5 = true := by decide +kernel
set_option maxRecDepth 100000 in
theorem tT_228 {RO : am_O} {sa : Nat → Nat} : tc_true (aP sa) tp_G RO tp_T tp_Z tK_228 := by
  have hC : ∀ c ∈ tC_228, tc_true (aP sa) tp_G RO tp_T tp_Z c := by
    intro c hc
    have hc : c ∈ ([] : List tc_Ct) := hc
    cases hc
  have hP : ∀ p ∈ tJ_228, ∃ hs, tc_plk (aP sa, tV_228.2) p hs = true := by
    intro p hp
    have hp : p ∈ ([tL_228_0, tL_228_1, tL_228_2, tL_228_3, tL_228_4] : List tc_Pl) := hp
    rcases List.mem_cons.mp hp with rfl | hp
    · exact ⟨_, (tc_plk_sa (aP_sa sa _)).trans ((tf_plk_s tHC_228).trans tP_228_0)⟩
    rcases List.mem_cons.mp hp with rfl | hp
    · exact ⟨_, (tc_plk_sa (aP_sa sa _)).trans ((tf_plk_s tHC_228).trans tP_228_1)⟩
    rcases List.mem_cons.mp hp with rfl | hp
    · exact ⟨_, (tc_plk_sa (aP_sa sa _)).trans ((tf_plk_s tHC_228).trans tP_228_2)⟩
    rcases List.mem_cons.mp hp with rfl | hp
    · exact ⟨_, (tc_plk_sa (aP_sa sa _)).trans ((tf_plk_s tHC_228).trans tP_228_3)⟩
    rcases List.mem_cons.mp hp with rfl | hp
    · exact ⟨_, (tc_plk_sa (aP_sa sa _)).trans ((tf_plk_s tHC_228).trans tP_228_4)⟩
    cases hp
  exact tc_main (mt := aM_71.1) (hs := tH_228_0) (PL := tJ_228) ⟨tp_G_ok, tMs_228 _, hC, tp_L_ok, tp_G_re⟩ (show am_meth (aP sa) 71 = some aM_71.1 from rfl) aX_71 (by decide +kernel) hP ((tc_go_sa (aP_sa sa _)).trans ((tf_go_s tHC_228).trans tR_228))
noncomputable def tK_229 : tc_Ct := (119, (2, 1), [(2, ([], 0), 0), (0, ([(0, 1)], 0), 0), (0, ([(1, 1)], 0), 0)], ([([(0, -1)], 2), ([(0, 1)], 0), ([(1, -1)], 2147483647), ([(1, 1)], 2147483648)], [(0, 170)], [], [], [], [], [(616, [], [])]), [(220, 0)], [((2, 1), ([([(0, -1)], 2), ([(0, 1)], 0), ([(1, -1)], 2147483647), ([(1, 1)], 2147483648)], [], [], [], [], [], []), none, ([], 0), ([], 0))])
noncomputable def tL_229_0 : tc_Pl := de_pl 0x30d20ff00020203010000000000030d20ff00030000000000000002030100040000020201000300000201010002000002000100010000000200051000000000000000000268ff01000600000003010100000000000001c0ff0200000100000201000100db01aa00023001030f0202300103010202100203013001030100020201080102010000000100000000ff02010100000000fffffffeff01010100020001040100010000000100000000ff02010100000000fffffffeff01010100020001040100010e0204
noncomputable def tJ_229 : List tc_Pl := [tL_229_0]
noncomputable def tC_229 : List tc_Ct := [tK_228]
def tM_229 (z : Nat) : Option am_Meth := if z = 71 then some aM_71.1 else none
set_option maxRecDepth 100000 in
theorem tMs_229 (sa : Nat → Nat) : ∀ z mz, tM_229 z = some mz → am_meth (aP sa) z = some mz := by
  intro z mz h
  unfold tM_229 at h
  rcases de_m h with ⟨rfl, rfl⟩ | h
  · exact (show am_meth (aP sa) 71 = some aM_71.1 from rfl)
  cases h
noncomputable def tV_229 : tc_Ev := (aQ, tp_T, tp_G.2, tp_Z, tM_229, tC_229, tp_L, tK_229.2.2.2.2.1, aM_119.1, aW_119, tK_229.2.1, tK_229.2.2.2.2.2, tJ_229)
theorem tE_229 : tK_229.2.2.2.2.2.all (tc_wex tK_229.2.1.1 tK_229.2.1.2) = true := by decide +kernel
theorem tSS_229 : tC_229.all (fun c => tw_mg tK_229.2.2.2.2.1 c.2.2.2.2.1) = true := by decide +kernel
theorem tHC_229 : ∀ c ∈ tC_229, c.2.2.2.2.1.all tK_229.2.2.2.2.1.contains = true ∧ c.2.2.2.2.2.all (tc_wex c.2.1.1 c.2.1.2) = true := tf_hc tSS_229 (by
  intro c hc
  have hc : c ∈ ([tK_228] : List tc_Ct) := hc
  rcases List.mem_cons.mp hc with rfl | hc
  · exact tE_228
  cases hc)
noncomputable def tH_229_0 : List tc_It := [de_it 0x2010000, de_it 0x2, de_it 0x2010000, de_it 0x2010011, de_it 0x80000000000000300000002000000000000000140ff060009, de_it 0x1040100020101010101010001010101010101010101000000000000000000000000000000000d000202010002000101000600000005020000000000000142ff020009, de_it 0x54010015, de_it 0x2010000, de_it 0x8000400020006, de_it 0x8010000, de_it 0x1000100010001000100010103010101020101010101010100010101030101010201010101010101000101000000000000000000000000000100011630000000020200020008]
set_option maxRecDepth 100000 in
theorem tR_229 : tf_go tV_229 tK_229.2.1.1 tK_229.2.1.2 none tH_229_0 [(tK_229.2.1, tK_229.2.2.2.1, 0, tc_args 0 tK_229.2.2.1, [], ([], 0), ([], 0))] = true := by decide +kernel
noncomputable def tH_229_1 : List tc_It := [de_it 0x2010000, de_it 0x300000001, de_it 0x1030101010201010101010101000101000000000000000000000000000100010c0000010007, de_it 0x4010000, de_it 0x101, de_it 0x8010000, de_it 0x300000001, de_it 0x10a0101010e01010200000001, de_it 0x2010000, de_it 0x10d0101070a010d0208010e0101010a010101090101010e010d0208010301010102010101010101010001010103010101020101010101010100010100000000010e010100010000000100010001160f02030100020201020200020008, de_it 0x2010000, de_it 0x2, de_it 0x2010000, de_it 0x2010011, de_it 0x1140100020101010101010001010101010101010101000000000000000000000000000000000d000206010002000101000600000005020000000000000142ff020009, de_it 0x54010015, de_it 0x4010000, de_it 0x4010011, de_it 0x112010101130101010e0816010d03080109010104000202010100010003, de_it 0x10e010d0208010901010200000001, de_it 0x10a0101010e01010200000001, de_it 0x2010000, de_it 0x10d0101070a010d0208010e0101010a010101090101010e010d0208010301010102010101010101010001010103010101020101010101010100010100000000010e010100010000000100010001160f02030102020201020200020008]
set_option maxRecDepth 100000 in
theorem tP_229_0 : tf_plk tV_229 tL_229_0 tH_229_1 = true := by decide +kernel
set_option maxRecDepth 100000 in
theorem tT_229 {RO : am_O} {sa : Nat → Nat} (h_228 : tc_true (aP sa) tp_G RO tp_T tp_Z tK_228) : tc_true (aP sa) tp_G RO tp_T tp_Z tK_229 := by
  have hC : ∀ c ∈ tC_229, tc_true (aP sa) tp_G RO tp_T tp_Z c := by
    intro c hc
    have hc : c ∈ ([tK_228] : List tc_Ct) := hc
    rcases List.mem_cons.mp hc with rfl | hc
    · exact h_228
    cases hc
  have hP : ∀ p ∈ tJ_229, ∃ hs, tc_plk (aP sa, tV_229.2) p hs = true := by
    intro p hp
    have hp : p ∈ ([tL_229_0] : List tc_Pl) := hp
    rcases List.mem_cons.mp hp with rfl | hp
    · exact ⟨_, (tc_plk_sa (aP_sa sa _)).trans ((tf_plk_s tHC_229).trans tP_229_0)⟩
    cases hp
  exact tc_main (mt := aM_119.1) (hs := tH_229_0) (PL := tJ_229) ⟨tp_G_ok, tMs_229 _, hC, tp_L_ok, tp_G_re⟩ (show am_meth (aP sa) 119 = some aM_119.1 from rfl) aX_119 (by decide +kernel) hP ((tc_go_sa (aP_sa sa _)).trans ((tf_go_s tHC_229).trans tR_229))
noncomputable def tK_230 : tc_Ct := (117, (4, 2), [(2, ([], 0), 0), (0, ([(0, 1)], 0), 0), (0, ([(1, 1)], 0), 0), (0, ([(2, 1)], 0), 0)], ([([(0, -1)], 2147483647), ([(0, 1)], 2147483648), ([(1, -1)], 2147483647), ([(1, 1)], 2147483648), ([(2, -1)], 2147483647), ([(2, 1)], 2147483648), ([(3, -1)], 8), ([(3, 1)], 0)], [(0, 165), (1, 201)], [], [(0, 5, (2, ([], 0), 1)), (0, 6, (0, ([(3, 1)], 0), 0))], [], [], [(616, [], []), (456, [1], [([], 0), ([(3, 1)], 0), ([], -1)])]), [(220, 0)], [((5, 2), ([([(0, -1)], 2147483647), ([(0, 1)], 2147483648), ([(1, -1)], 2147483647), ([(1, 1)], 2147483648), ([(2, -1)], 2147483647), ([(2, 1)], 2147483648), ([(3, -1)], 8), ([(3, 1)], 0), ([(4, -1)], 25), ([(4, 1)], 1), ([(3, 1), (4, -1)], 24)], [], [], [], [], [], []), some (0, ([(4, 1)], 0), 0), ([], 0), ([], 0))])
noncomputable def tJ_230 : List tc_Pl := []
noncomputable def tC_230 : List tc_Ct := [tK_207, tK_227, tK_229]
def tM_230 (z : Nat) : Option am_Meth := if z = 119 then some aM_119.1 else if z = 118 then some aM_118.1 else if z = 96 then some aM_96.1 else none
set_option maxRecDepth 100000 in
theorem tMs_230 (sa : Nat → Nat) : ∀ z mz, tM_230 z = some mz → am_meth (aP sa) z = some mz := by
  intro z mz h
  unfold tM_230 at h
  rcases de_m h with ⟨rfl, rfl⟩ | h
  · exact (show am_meth (aP sa) 119 = some aM_119.1 from rfl)
  rcases de_m h with ⟨rfl, rfl⟩ | h
  · exact (show am_meth (aP sa) 118 = some aM_118.1 from rfl)
  rcases de_m h with ⟨rfl, rfl⟩ | h
  · exact (show am_meth (aP sa) 96 = some aM_96.1 from rfl)
  cases h
noncomputable def tV_230 : tc_Ev := (aQ, tp_T, tp_G.2, tp_Z, tM_230, tC_230, tp_L, tK_230.2.2.2.2.1, aM_117.1, aW_117, tK_230.2.1, tK_230.2.2.2.2.2, tJ_230)
theorem tE_230 : tK_230.2.2.2.2.2.all (tc_wex tK_230.2.1.1 tK_230.2.1.2) = true := by decide +kernel
theorem tSS_230 : tC_230.all (fun c => tw_mg tK_230.2.2.2.2.1 c.2.2.2.2.1) = true := by decide +kernel
theorem tHC_230 : ∀ c ∈ tC_230, c.2.2.2.2.1.all tK_230.2.2.2.2.1.contains = true ∧ c.2.2.2.2.2.all (tc_wex c.2.1.1 c.2.1.2) = true := tf_hc tSS_230 (by
  intro c hc
  have hc : c ∈ ([tK_207, tK_227, tK_229] : List tc_Ct) := hc
  rcases List.mem_cons.mp hc with rfl | hc
  · exact tE_207
  rcases List.mem_cons.mp hc with rfl | hc
  · exact tE_227
  rcases List.mem_cons.mp hc with rfl | hc
  · exact tE_229
  cases hc)
noncomputable def tH_230_0 : List tc_It := [de_it 0x4010000, de_it 0x1070101010601010101010101000101000000000000000000000000000000010c000203010002000102020000030006, de_it 0x1010c010100000300000001, de_it 0x2010000, de_it 0x1070101000100010107010101060101010501010104010101030101010201010101010101000101000000000000000000000000000100011301000100010007, de_it 0x10000010e01010300000001, de_it 0x2010000, de_it 0x300000001, de_it 0x2010000, de_it 0x10b010100010001010b010101060101010501010104010101030101010e01010109010101080101000000000000000000000000000100011301000100010007, de_it 0x4010000, de_it 0x300000001, de_it 0x6010000, de_it 0x10f0101000000000300000001, de_it 0x2010000, de_it 0x100010105010101040101000000000000000000000000000000000c0600000202010202010006, de_it 0x4010000, de_it 0x1160101000000000300000001, de_it 0x2010000, de_it 0x2, de_it 0x2010000, de_it 0x2010011, de_it 0x1180108020101090101010c01010109010101090101000000000000000000000000000000000d000205010002000101000002030100000502e2020009, de_it 0x56010015, de_it 0x4010000, de_it 0x105010101040101010e010101100101000000000000000000000000000000020c0002020100020101020404020006, de_it 0x2010000, de_it 0x115010b02010117010101150101010b0101010601010105010101040101010e01010110010101090101010801010000000000000000000000000001000113000204010100010007, de_it 0x2010000, de_it 0x10b010100010001010b0101010601010105010101040101010e0101011001010109010101080101000000000000000000000000000100011301000100010007, de_it 0x4010000, de_it 0x100010105010101040101000000000000000000000000000000000c0400000202010202010006, de_it 0x4010000, de_it 0x1170101000000000300000001, de_it 0x2010000, de_it 0x2, de_it 0x2010000, de_it 0x2010011, de_it 0x1190108020101090101010c01010109010101090101000000000000000000000000000000000d000205010002000101000002030100000502e2020009, de_it 0x56010015, de_it 0x4010000, de_it 0x10501010104010101100101010f0101000000000000000000000000000000020c0002020100020101020404020006, de_it 0x2010000, de_it 0x116010b02010118010101160101010b010101060101010501010104010101100101010f010101090101010801010000000000000000000000000001000113000204010100010007, de_it 0x2010000, de_it 0x10b010100010001010b010101060101010501010104010101100101010f01010109010101080101000000000000000000000000000100011301000100010007, de_it 0x2010000, de_it 0x10b010100010001010b0101010601010105010101040101010f0101010201010109010101080101000000000000000000000000000100011301000100010007]
set_option maxRecDepth 100000 in
theorem tR_230 : tf_go tV_230 tK_230.2.1.1 tK_230.2.1.2 none tH_230_0 [(tK_230.2.1, tK_230.2.2.2.1, 0, tc_args 0 tK_230.2.2.1, [], ([], 0), ([], 0))] = true := by decide +kernel
set_option maxRecDepth 100000 in
theorem tT_230 {RO : am_O} {sa : Nat → Nat} (h_207 : tc_true (aP sa) tp_G RO tp_T tp_Z tK_207) (h_227 : tc_true (aP sa) tp_G RO tp_T tp_Z tK_227) (h_229 : tc_true (aP sa) tp_G RO tp_T tp_Z tK_229) : tc_true (aP sa) tp_G RO tp_T tp_Z tK_230 := by
  have hC : ∀ c ∈ tC_230, tc_true (aP sa) tp_G RO tp_T tp_Z c := by
    intro c hc
    have hc : c ∈ ([tK_207, tK_227, tK_229] : List tc_Ct) := hc
    rcases List.mem_cons.mp hc with rfl | hc
    · exact h_207
    rcases List.mem_cons.mp hc with rfl | hc
    · exact h_227
    rcases List.mem_cons.mp hc with rfl | hc
    · exact h_229
    cases hc
  have hP : ∀ p ∈ tJ_230, ∃ hs, tc_plk (aP sa, tV_230.2) p hs = true := by
    intro p hp
    have hp : p ∈ ([] : List tc_Pl) := hp
    cases hp
  exact tc_main (mt := aM_117.1) (hs := tH_230_0) (PL := tJ_230) ⟨tp_G_ok, tMs_230 _, hC, tp_L_ok, tp_G_re⟩ (show am_meth (aP sa) 117 = some aM_117.1 from rfl) aX_117 (by decide +kernel) hP ((tc_go_sa (aP_sa sa _)).trans ((tf_go_s tHC_230).trans tR_230))
noncomputable def tK_231 : tc_Ct := (121, (1, 1), [(2, ([], 0), 0), (0, ([], 0), 0), (0, ([(0, 1)], 0), 0)], ([([(0, -1)], 2147483647), ([(0, 1)], 2147483648)], [(0, 170)], [], [], [], [], []), [], [((1, 1), ([([(0, -1)], 2147483647), ([(0, 1)], 2147483648)], [], [], [], [], [], []), some (0, ([], 0), 0), ([], 0), ([], 0)), ((1, 1), ([([(0, -1)], 1), ([(0, 1)], 0)], [], [], [], [], [], []), some (0, ([], 1), 0), ([], 0), ([], 0))])
noncomputable def tJ_231 : List tc_Pl := []
noncomputable def tC_231 : List tc_Ct := []
def tM_231 (z : Nat) : Option am_Meth := none
set_option maxRecDepth 100000 in
theorem tMs_231 (sa : Nat → Nat) : ∀ z mz, tM_231 z = some mz → am_meth (aP sa) z = some mz := fun z mz h => by cases h
noncomputable def tV_231 : tc_Ev := (aQ, tp_T, tp_G.2, tp_Z, tM_231, tC_231, tp_L, tK_231.2.2.2.2.1, aM_121.1, aW_121, tK_231.2.1, tK_231.2.2.2.2.2, tJ_231)
theorem tE_231 : tK_231.2.2.2.2.2.all (tc_wex tK_231.2.1.1 tK_231.2.1.2) = true := by decide +kernel
theorem tSS_231 : tC_231.all (fun c => tw_mg tK_231.2.2.2.2.1 c.2.2.2.2.1) = true := by decide +kernel
theorem tHC_231 : ∀ c ∈ tC_231, c.2.2.2.2.1.all tK_231.2.2.2.2.1.contains = true ∧ c.2.2.2.2.2.all (tc_wex c.2.1.1 c.2.1.2) = true := tf_hc tSS_231 (by
  intro c hc
  have hc : c ∈ ([] : List tc_Ct) := hc
  cases hc)
noncomputable def tH_231_0 : List tc_It := [de_it 0x2010000, de_it 0x10201010300000001, de_it 0x4010000, de_it 0x2, de_it 0x2, de_it 0x105010302010300000001, de_it 0x2010000, de_it 0x300000001, de_it 0x2010000, de_it 0x101010101060101000000000000000000010001000100010a0000010007, de_it 0x2010000, de_it 0x2, de_it 0x2010000, de_it 0x4010011, de_it 0x107010100010200000100010002, de_it 0x300000001, de_it 0x2010000, de_it 0x1010e010100000300000001, de_it 0x4010000, de_it 0x1060101010d010c0201000000000000000000010001000100010a0002010007, de_it 0x2010000, de_it 0x10b010d020101000101000000000000000000010001000100010a0000010007]
set_option maxRecDepth 100000 in
theorem tR_231 : tf_go tV_231 tK_231.2.1.1 tK_231.2.1.2 none tH_231_0 [(tK_231.2.1, tK_231.2.2.2.1, 0, tc_args 0 tK_231.2.2.1, [], ([], 0), ([], 0))] = true := by decide +kernel
set_option maxRecDepth 100000 in
theorem tT_231 {RO : am_O} {sa : Nat → Nat} : tc_true (aP sa) tp_G RO tp_T tp_Z tK_231 := by
  have hC : ∀ c ∈ tC_231, tc_true (aP sa) tp_G RO tp_T tp_Z c := by
    intro c hc
    have hc : c ∈ ([] : List tc_Ct) := hc
    cases hc
  have hP : ∀ p ∈ tJ_231, ∃ hs, tc_plk (aP sa, tV_231.2) p hs = true := by
    intro p hp
    have hp : p ∈ ([] : List tc_Pl) := hp
    cases hp
  exact tc_main (mt := aM_121.1) (hs := tH_231_0) (PL := tJ_231) ⟨tp_G_ok, tMs_231 _, hC, tp_L_ok, tp_G_re⟩ (show am_meth (aP sa) 121 = some aM_121.1 from rfl) aX_121 (by decide +kernel) hP ((tc_go_sa (aP_sa sa _)).trans ((tf_go_s tHC_231).trans tR_231))
noncomputable def tK_232 : tc_Ct := (121, (1, 1), [(2, ([], 0), 0), (0, ([], 1), 0), (0, ([(0, 1)], 0), 0)], ([([(0, -1)], 2147483647), ([(0, 1)], 2147483648)], [(0, 170)], [], [], [], [], []), [], [((1, 1), ([([(0, -1)], 2147483647), ([(0, 1)], 2147483648)], [], [], [], [], [], []), some (0, ([], 0), 0), ([], 0), ([], 0)), ((1, 1), ([([(0, -1)], 2), ([(0, 1)], 0)], [], [], [], [], [], []), some (0, ([], 1), 0), ([], 0), ([], 0))])
noncomputable def tJ_232 : List tc_Pl := []
noncomputable def tC_232 : List tc_Ct := []
def tM_232 (z : Nat) : Option am_Meth := none
set_option maxRecDepth 100000 in
theorem tMs_232 (sa : Nat → Nat) : ∀ z mz, tM_232 z = some mz → am_meth (aP sa) z = some mz := fun z mz h => by cases h
noncomputable def tV_232 : tc_Ev := (aQ, tp_T, tp_G.2, tp_Z, tM_232, tC_232, tp_L, tK_232.2.2.2.2.1, aM_121.1, aW_121, tK_232.2.1, tK_232.2.2.2.2.2, tJ_232)
theorem tE_232 : tK_232.2.2.2.2.2.all (tc_wex tK_232.2.1.1 tK_232.2.1.2) = true := by decide +kernel
theorem tSS_232 : tC_232.all (fun c => tw_mg tK_232.2.2.2.2.1 c.2.2.2.2.1) = true := by decide +kernel
theorem tHC_232 : ∀ c ∈ tC_232, c.2.2.2.2.1.all tK_232.2.2.2.2.1.contains = true ∧ c.2.2.2.2.2.all (tc_wex c.2.1.1 c.2.1.2) = true := tf_hc tSS_232 (by
  intro c hc
  have hc : c ∈ ([] : List tc_Ct) := hc
  cases hc)
noncomputable def tH_232_0 : List tc_It := [de_it 0x2010000, de_it 0x10201010300000001, de_it 0x4010000, de_it 0x2, de_it 0x2, de_it 0x105010302010300000001, de_it 0x2010000, de_it 0x300000001, de_it 0x2010000, de_it 0x101010101060101000000000000000000010001000100010a0000010007, de_it 0x2010000, de_it 0x2, de_it 0x2010000, de_it 0x4010011, de_it 0x107010100010200000102010002, de_it 0x300000001, de_it 0x2010000, de_it 0x10000010f01010300000001, de_it 0x4010000, de_it 0x10000010f01010300000001, de_it 0x2010000, de_it 0x2, de_it 0x4010000, de_it 0x10112010100000300000001, de_it 0x2010000, de_it 0x1100101000000000300000001, de_it 0x2010000, de_it 0x1060101010d010c0201000000000000000000010001000100010a0000010007, de_it 0x4010000, de_it 0x1060101010d010c0201000000000000000000010001000100010a0002010007, de_it 0x2010000, de_it 0x10b010d020101000101000000000000000000010001000100010a0000010007]
set_option maxRecDepth 100000 in
theorem tR_232 : tf_go tV_232 tK_232.2.1.1 tK_232.2.1.2 none tH_232_0 [(tK_232.2.1, tK_232.2.2.2.1, 0, tc_args 0 tK_232.2.2.1, [], ([], 0), ([], 0))] = true := by decide +kernel
set_option maxRecDepth 100000 in
theorem tT_232 {RO : am_O} {sa : Nat → Nat} : tc_true (aP sa) tp_G RO tp_T tp_Z tK_232 := by
  have hC : ∀ c ∈ tC_232, tc_true (aP sa) tp_G RO tp_T tp_Z c := by
    intro c hc
    have hc : c ∈ ([] : List tc_Ct) := hc
    cases hc
  have hP : ∀ p ∈ tJ_232, ∃ hs, tc_plk (aP sa, tV_232.2) p hs = true := by
    intro p hp
    have hp : p ∈ ([] : List tc_Pl) := hp
    cases hp
  exact tc_main (mt := aM_121.1) (hs := tH_232_0) (PL := tJ_232) ⟨tp_G_ok, tMs_232 _, hC, tp_L_ok, tp_G_re⟩ (show am_meth (aP sa) 121 = some aM_121.1 from rfl) aX_121 (by decide +kernel) hP ((tc_go_sa (aP_sa sa _)).trans ((tf_go_s tHC_232).trans tR_232))
noncomputable def tK_233 : tc_Ct := (121, (1, 1), [(2, ([], 0), 0), (0, ([], 2), 0), (0, ([(0, 1)], 0), 0)], ([([(0, -1)], 2147483647), ([(0, 1)], 2147483648)], [(0, 170)], [], [], [], [], []), [], [((1, 1), ([([(0, -1)], 2147483647), ([(0, 1)], 2147483648)], [], [], [], [], [], []), some (0, ([], 0), 0), ([], 0), ([], 0)), ((1, 1), ([([(0, -1)], 3), ([(0, 1)], 0)], [], [], [], [], [], []), some (0, ([], 1), 0), ([], 0), ([], 0))])
noncomputable def tJ_233 : List tc_Pl := []
noncomputable def tC_233 : List tc_Ct := []
def tM_233 (z : Nat) : Option am_Meth := none
set_option maxRecDepth 100000 in
theorem tMs_233 (sa : Nat → Nat) : ∀ z mz, tM_233 z = some mz → am_meth (aP sa) z = some mz := fun z mz h => by cases h
noncomputable def tV_233 : tc_Ev := (aQ, tp_T, tp_G.2, tp_Z, tM_233, tC_233, tp_L, tK_233.2.2.2.2.1, aM_121.1, aW_121, tK_233.2.1, tK_233.2.2.2.2.2, tJ_233)
theorem tE_233 : tK_233.2.2.2.2.2.all (tc_wex tK_233.2.1.1 tK_233.2.1.2) = true := by decide +kernel
theorem tSS_233 : tC_233.all (fun c => tw_mg tK_233.2.2.2.2.1 c.2.2.2.2.1) = true := by decide +kernel
theorem tHC_233 : ∀ c ∈ tC_233, c.2.2.2.2.1.all tK_233.2.2.2.2.1.contains = true ∧ c.2.2.2.2.2.all (tc_wex c.2.1.1 c.2.1.2) = true := tf_hc tSS_233 (by
  intro c hc
  have hc : c ∈ ([] : List tc_Ct) := hc
  cases hc)
noncomputable def tH_233_0 : List tc_It := [de_it 0x2010000, de_it 0x10201010300000001, de_it 0x4010000, de_it 0x2, de_it 0x2, de_it 0x105010302010300000001, de_it 0x2010000, de_it 0x300000001, de_it 0x2010000, de_it 0x101010101060101000000000000000000010001000100010a0000010007, de_it 0x2010000, de_it 0x2, de_it 0x2010000, de_it 0x4010011, de_it 0x107010100010200000104010002, de_it 0x300000001, de_it 0x2010000, de_it 0x10000010f01010300000001, de_it 0x4010000, de_it 0x10000010f01010300000001, de_it 0x2010000, de_it 0x2, de_it 0x4010000, de_it 0x10112010100000300000001, de_it 0x2010000, de_it 0x1100101000000000300000001, de_it 0x2010000, de_it 0x1060101010d010c0201000000000000000000010001000100010a0000010007, de_it 0x4010000, de_it 0x1060101010d010c0201000000000000000000010001000100010a0002010007, de_it 0x2010000, de_it 0x10b010d020101000101000000000000000000010001000100010a0000010007]
set_option maxRecDepth 100000 in
theorem tR_233 : tf_go tV_233 tK_233.2.1.1 tK_233.2.1.2 none tH_233_0 [(tK_233.2.1, tK_233.2.2.2.1, 0, tc_args 0 tK_233.2.2.1, [], ([], 0), ([], 0))] = true := by decide +kernel
set_option maxRecDepth 100000 in
theorem tT_233 {RO : am_O} {sa : Nat → Nat} : tc_true (aP sa) tp_G RO tp_T tp_Z tK_233 := by
  have hC : ∀ c ∈ tC_233, tc_true (aP sa) tp_G RO tp_T tp_Z c := by
    intro c hc
    have hc : c ∈ ([] : List tc_Ct) := hc
    cases hc
  have hP : ∀ p ∈ tJ_233, ∃ hs, tc_plk (aP sa, tV_233.2) p hs = true := by
    intro p hp
    have hp : p ∈ ([] : List tc_Pl) := hp
    cases hp
  exact tc_main (mt := aM_121.1) (hs := tH_233_0) (PL := tJ_233) ⟨tp_G_ok, tMs_233 _, hC, tp_L_ok, tp_G_re⟩ (show am_meth (aP sa) 121 = some aM_121.1 from rfl) aX_121 (by decide +kernel) hP ((tc_go_sa (aP_sa sa _)).trans ((tf_go_s tHC_233).trans tR_233))
noncomputable def tK_234 : tc_Ct := (121, (1, 1), [(2, ([], 0), 0), (0, ([], 3), 0), (0, ([(0, 1)], 0), 0)], ([([(0, -1)], 2147483647), ([(0, 1)], 2147483648)], [(0, 170)], [], [], [], [], []), [], [((1, 1), ([([(0, -1)], 2147483647), ([(0, 1)], 2147483648)], [], [], [], [], [], []), some (0, ([], 0), 0), ([], 0), ([], 0)), ((1, 1), ([([(0, -1)], 10000), ([(0, 1)], 0)], [], [], [], [], [], []), some (0, ([], 1), 0), ([], 0), ([], 0))])
noncomputable def tJ_234 : List tc_Pl := []
noncomputable def tC_234 : List tc_Ct := []
def tM_234 (z : Nat) : Option am_Meth := none
set_option maxRecDepth 100000 in
theorem tMs_234 (sa : Nat → Nat) : ∀ z mz, tM_234 z = some mz → am_meth (aP sa) z = some mz := fun z mz h => by cases h
noncomputable def tV_234 : tc_Ev := (aQ, tp_T, tp_G.2, tp_Z, tM_234, tC_234, tp_L, tK_234.2.2.2.2.1, aM_121.1, aW_121, tK_234.2.1, tK_234.2.2.2.2.2, tJ_234)
theorem tE_234 : tK_234.2.2.2.2.2.all (tc_wex tK_234.2.1.1 tK_234.2.1.2) = true := by decide +kernel
theorem tSS_234 : tC_234.all (fun c => tw_mg tK_234.2.2.2.2.1 c.2.2.2.2.1) = true := by decide +kernel
theorem tHC_234 : ∀ c ∈ tC_234, c.2.2.2.2.1.all tK_234.2.2.2.2.1.contains = true ∧ c.2.2.2.2.2.all (tc_wex c.2.1.1 c.2.1.2) = true := tf_hc tSS_234 (by
  intro c hc
  have hc : c ∈ ([] : List tc_Ct) := hc
  cases hc)
noncomputable def tH_234_0 : List tc_It := [de_it 0x2010000, de_it 0x10201010300000001, de_it 0x4010000, de_it 0x2, de_it 0x2, de_it 0x105010302010300000001, de_it 0x2010000, de_it 0x300000001, de_it 0x2010000, de_it 0x101010101060101000000000000000000010001000100010a0000010007, de_it 0x2010000, de_it 0x2, de_it 0x2010000, de_it 0x4010011, de_it 0x107010100010200000106010002, de_it 0x300000001, de_it 0x2010000, de_it 0x10000010f01010300000001, de_it 0x4010000, de_it 0x10000010f01010300000001, de_it 0x2010000, de_it 0x2, de_it 0x4010000, de_it 0x10112010100000300000001, de_it 0x2010000, de_it 0x1100101000000000300000001, de_it 0x2010000, de_it 0x1060101010d010c0201000000000000000000010001000100010a0000010007, de_it 0x4010000, de_it 0x1060101010d010c0201000000000000000000010001000100010a0002010007, de_it 0x2010000, de_it 0x10b010d020101000101000000000000000000010001000100010a0000010007]
set_option maxRecDepth 100000 in
theorem tR_234 : tf_go tV_234 tK_234.2.1.1 tK_234.2.1.2 none tH_234_0 [(tK_234.2.1, tK_234.2.2.2.1, 0, tc_args 0 tK_234.2.2.1, [], ([], 0), ([], 0))] = true := by decide +kernel
set_option maxRecDepth 100000 in
theorem tT_234 {RO : am_O} {sa : Nat → Nat} : tc_true (aP sa) tp_G RO tp_T tp_Z tK_234 := by
  have hC : ∀ c ∈ tC_234, tc_true (aP sa) tp_G RO tp_T tp_Z c := by
    intro c hc
    have hc : c ∈ ([] : List tc_Ct) := hc
    cases hc
  have hP : ∀ p ∈ tJ_234, ∃ hs, tc_plk (aP sa, tV_234.2) p hs = true := by
    intro p hp
    have hp : p ∈ ([] : List tc_Pl) := hp
    cases hp
  exact tc_main (mt := aM_121.1) (hs := tH_234_0) (PL := tJ_234) ⟨tp_G_ok, tMs_234 _, hC, tp_L_ok, tp_G_re⟩ (show am_meth (aP sa) 121 = some aM_121.1 from rfl) aX_121 (by decide +kernel) hP ((tc_go_sa (aP_sa sa _)).trans ((tf_go_s tHC_234).trans tR_234))
noncomputable def tK_235 : tc_Ct := (121, (1, 1), [(2, ([], 0), 0), (0, ([], 4), 0), (0, ([(0, 1)], 0), 0)], ([([(0, -1)], 2147483647), ([(0, 1)], 2147483648)], [(0, 170)], [], [], [], [], []), [], [((1, 1), ([([(0, -1)], 2147483647), ([(0, 1)], 2147483648)], [], [], [], [], [], []), some (0, ([], 0), 0), ([], 0), ([], 0)), ((1, 1), ([([(0, -1)], 400), ([(0, 1)], 0)], [], [], [], [], [], []), some (0, ([], 1), 0), ([], 0), ([], 0))])
noncomputable def tJ_235 : List tc_Pl := []
noncomputable def tC_235 : List tc_Ct := []
def tM_235 (z : Nat) : Option am_Meth := none
set_option maxRecDepth 100000 in
theorem tMs_235 (sa : Nat → Nat) : ∀ z mz, tM_235 z = some mz → am_meth (aP sa) z = some mz := fun z mz h => by cases h
noncomputable def tV_235 : tc_Ev := (aQ, tp_T, tp_G.2, tp_Z, tM_235, tC_235, tp_L, tK_235.2.2.2.2.1, aM_121.1, aW_121, tK_235.2.1, tK_235.2.2.2.2.2, tJ_235)
theorem tE_235 : tK_235.2.2.2.2.2.all (tc_wex tK_235.2.1.1 tK_235.2.1.2) = true := by decide +kernel
theorem tSS_235 : tC_235.all (fun c => tw_mg tK_235.2.2.2.2.1 c.2.2.2.2.1) = true := by decide +kernel
theorem tHC_235 : ∀ c ∈ tC_235, c.2.2.2.2.1.all tK_235.2.2.2.2.1.contains = true ∧ c.2.2.2.2.2.all (tc_wex c.2.1.1 c.2.1.2) = true := tf_hc tSS_235 (by
  intro c hc
  have hc : c ∈ ([] : List tc_Ct) := hc
  cases hc)
noncomputable def tH_235_0 : List tc_It := [de_it 0x2010000, de_it 0x10201010300000001, de_it 0x4010000, de_it 0x2, de_it 0x2, de_it 0x105010302010300000001, de_it 0x2010000, de_it 0x300000001, de_it 0x2010000, de_it 0x101010101060101000000000000000000010001000100010a0000010007, de_it 0x2010000, de_it 0x2, de_it 0x2010000, de_it 0x4010011, de_it 0x107010100010200000108010002, de_it 0x300000001, de_it 0x2010000, de_it 0x10000010f01010300000001, de_it 0x4010000, de_it 0x10000010f01010300000001, de_it 0x2010000, de_it 0x2, de_it 0x4010000, de_it 0x10112010100000300000001, de_it 0x2010000, de_it 0x1100101000000000300000001, de_it 0x2010000, de_it 0x1060101010d010c0201000000000000000000010001000100010a0000010007, de_it 0x4010000, de_it 0x1060101010d010c0201000000000000000000010001000100010a0002010007, de_it 0x2010000, de_it 0x10b010d020101000101000000000000000000010001000100010a0000010007]
set_option maxRecDepth 100000 in
theorem tR_235 : tf_go tV_235 tK_235.2.1.1 tK_235.2.1.2 none tH_235_0 [(tK_235.2.1, tK_235.2.2.2.1, 0, tc_args 0 tK_235.2.2.1, [], ([], 0), ([], 0))] = true := by decide +kernel
set_option maxRecDepth 100000 in
theorem tT_235 {RO : am_O} {sa : Nat → Nat} : tc_true (aP sa) tp_G RO tp_T tp_Z tK_235 := by
  have hC : ∀ c ∈ tC_235, tc_true (aP sa) tp_G RO tp_T tp_Z c := by
    intro c hc
    have hc : c ∈ ([] : List tc_Ct) := hc
    cases hc
  have hP : ∀ p ∈ tJ_235, ∃ hs, tc_plk (aP sa, tV_235.2) p hs = true := by
    intro p hp
    have hp : p ∈ ([] : List tc_Pl) := hp
    cases hp
  exact tc_main (mt := aM_121.1) (hs := tH_235_0) (PL := tJ_235) ⟨tp_G_ok, tMs_235 _, hC, tp_L_ok, tp_G_re⟩ (show am_meth (aP sa) 121 = some aM_121.1 from rfl) aX_121 (by decide +kernel) hP ((tc_go_sa (aP_sa sa _)).trans ((tf_go_s tHC_235).trans tR_235))
noncomputable def tK_236 : tc_Ct := (121, (1, 1), [(2, ([], 0), 0), (0, ([], 5), 0), (0, ([(0, 1)], 0), 0)], ([([(0, -1)], 2147483647), ([(0, 1)], 2147483648)], [(0, 170)], [], [], [], [], []), [], [((1, 1), ([([(0, -1)], 2147483647), ([(0, 1)], 2147483648)], [], [], [], [], [], []), some (0, ([], 0), 0), ([], 0), ([], 0)), ((1, 1), ([([(0, -1)], 1), ([(0, 1)], 0)], [], [], [], [], [], []), some (0, ([], 1), 0), ([], 0), ([], 0))])
noncomputable def tJ_236 : List tc_Pl := []
noncomputable def tC_236 : List tc_Ct := []
def tM_236 (z : Nat) : Option am_Meth := none
set_option maxRecDepth 100000 in
theorem tMs_236 (sa : Nat → Nat) : ∀ z mz, tM_236 z = some mz → am_meth (aP sa) z = some mz := fun z mz h => by cases h
noncomputable def tV_236 : tc_Ev := (aQ, tp_T, tp_G.2, tp_Z, tM_236, tC_236, tp_L, tK_236.2.2.2.2.1, aM_121.1, aW_121, tK_236.2.1, tK_236.2.2.2.2.2, tJ_236)
theorem tE_236 : tK_236.2.2.2.2.2.all (tc_wex tK_236.2.1.1 tK_236.2.1.2) = true := by decide +kernel
theorem tSS_236 : tC_236.all (fun c => tw_mg tK_236.2.2.2.2.1 c.2.2.2.2.1) = true := by decide +kernel
theorem tHC_236 : ∀ c ∈ tC_236, c.2.2.2.2.1.all tK_236.2.2.2.2.1.contains = true ∧ c.2.2.2.2.2.all (tc_wex c.2.1.1 c.2.1.2) = true := tf_hc tSS_236 (by
  intro c hc
  have hc : c ∈ ([] : List tc_Ct) := hc
  cases hc)
noncomputable def tH_236_0 : List tc_It := [de_it 0x2010000, de_it 0x10201010300000001, de_it 0x4010000, de_it 0x2, de_it 0x2, de_it 0x105010302010300000001, de_it 0x2010000, de_it 0x300000001, de_it 0x2010000, de_it 0x101010101060101000000000000000000010001000100010a0000010007, de_it 0x2010000, de_it 0x2, de_it 0x2010000, de_it 0x4010011, de_it 0x10701010001020000010a010002, de_it 0x300000001, de_it 0x2010000, de_it 0x10000010f01010300000001, de_it 0x4010000, de_it 0x10000010f01010300000001, de_it 0x2010000, de_it 0x2, de_it 0x4010000, de_it 0x10000011201010300000001, de_it 0x4010000, de_it 0x1110101000000000300000001, de_it 0x2010000, de_it 0x1060101010d010c0201000000000000000000010001000100010a0000010007, de_it 0x4010000, de_it 0x1060101010d010c0201000000000000000000010001000100010a0002010007, de_it 0x2010000, de_it 0x10b010d020101000101000000000000000000010001000100010a0000010007]
set_option maxRecDepth 100000 in
theorem tR_236 : tf_go tV_236 tK_236.2.1.1 tK_236.2.1.2 none tH_236_0 [(tK_236.2.1, tK_236.2.2.2.1, 0, tc_args 0 tK_236.2.2.1, [], ([], 0), ([], 0))] = true := by decide +kernel
set_option maxRecDepth 100000 in
theorem tT_236 {RO : am_O} {sa : Nat → Nat} : tc_true (aP sa) tp_G RO tp_T tp_Z tK_236 := by
  have hC : ∀ c ∈ tC_236, tc_true (aP sa) tp_G RO tp_T tp_Z c := by
    intro c hc
    have hc : c ∈ ([] : List tc_Ct) := hc
    cases hc
  have hP : ∀ p ∈ tJ_236, ∃ hs, tc_plk (aP sa, tV_236.2) p hs = true := by
    intro p hp
    have hp : p ∈ ([] : List tc_Pl) := hp
    cases hp
  exact tc_main (mt := aM_121.1) (hs := tH_236_0) (PL := tJ_236) ⟨tp_G_ok, tMs_236 _, hC, tp_L_ok, tp_G_re⟩ (show am_meth (aP sa) 121 = some aM_121.1 from rfl) aX_121 (by decide +kernel) hP ((tc_go_sa (aP_sa sa _)).trans ((tf_go_s tHC_236).trans tR_236))
noncomputable def tK_237 : tc_Ct := (121, (1, 1), [(2, ([], 0), 0), (0, ([], 6), 0), (0, ([(0, 1)], 0), 0)], ([([(0, -1)], 2147483647), ([(0, 1)], 2147483648)], [(0, 170)], [], [], [], [], []), [], [((1, 1), ([([(0, -1)], 2147483647), ([(0, 1)], 2147483648)], [], [], [], [], [], []), some (0, ([], 0), 0), ([], 0), ([], 0)), ((1, 1), ([([(0, -1)], 1), ([(0, 1)], 0)], [], [], [], [], [], []), some (0, ([], 1), 0), ([], 0), ([], 0))])
noncomputable def tJ_237 : List tc_Pl := []
noncomputable def tC_237 : List tc_Ct := []
def tM_237 (z : Nat) : Option am_Meth := none
set_option maxRecDepth 100000 in
theorem tMs_237 (sa : Nat → Nat) : ∀ z mz, tM_237 z = some mz → am_meth (aP sa) z = some mz := fun z mz h => by cases h
noncomputable def tV_237 : tc_Ev := (aQ, tp_T, tp_G.2, tp_Z, tM_237, tC_237, tp_L, tK_237.2.2.2.2.1, aM_121.1, aW_121, tK_237.2.1, tK_237.2.2.2.2.2, tJ_237)
theorem tE_237 : tK_237.2.2.2.2.2.all (tc_wex tK_237.2.1.1 tK_237.2.1.2) = true := by decide +kernel
theorem tSS_237 : tC_237.all (fun c => tw_mg tK_237.2.2.2.2.1 c.2.2.2.2.1) = true := by decide +kernel
theorem tHC_237 : ∀ c ∈ tC_237, c.2.2.2.2.1.all tK_237.2.2.2.2.1.contains = true ∧ c.2.2.2.2.2.all (tc_wex c.2.1.1 c.2.1.2) = true := tf_hc tSS_237 (by
  intro c hc
  have hc : c ∈ ([] : List tc_Ct) := hc
  cases hc)
noncomputable def tH_237_0 : List tc_It := [de_it 0x2010000, de_it 0x10201010300000001, de_it 0x4010000, de_it 0x2, de_it 0x2, de_it 0x105010302010300000001, de_it 0x2010000, de_it 0x300000001, de_it 0x2010000, de_it 0x101010101060101000000000000000000010001000100010a0000010007, de_it 0x2010000, de_it 0x2, de_it 0x2010000, de_it 0x4010011, de_it 0x10701010001020000010c010002, de_it 0x300000001, de_it 0x2010000, de_it 0x10000010f01010300000001, de_it 0x4010000, de_it 0x1010f010100000300000001, de_it 0x4010000, de_it 0x1060101010d010c0201000000000000000000010001000100010a0002010007, de_it 0x2010000, de_it 0x10b010d020101000101000000000000000000010001000100010a0000010007]
set_option maxRecDepth 100000 in
theorem tR_237 : tf_go tV_237 tK_237.2.1.1 tK_237.2.1.2 none tH_237_0 [(tK_237.2.1, tK_237.2.2.2.1, 0, tc_args 0 tK_237.2.2.1, [], ([], 0), ([], 0))] = true := by decide +kernel
set_option maxRecDepth 100000 in
theorem tT_237 {RO : am_O} {sa : Nat → Nat} : tc_true (aP sa) tp_G RO tp_T tp_Z tK_237 := by
  have hC : ∀ c ∈ tC_237, tc_true (aP sa) tp_G RO tp_T tp_Z c := by
    intro c hc
    have hc : c ∈ ([] : List tc_Ct) := hc
    cases hc
  have hP : ∀ p ∈ tJ_237, ∃ hs, tc_plk (aP sa, tV_237.2) p hs = true := by
    intro p hp
    have hp : p ∈ ([] : List tc_Pl) := hp
    cases hp
  exact tc_main (mt := aM_121.1) (hs := tH_237_0) (PL := tJ_237) ⟨tp_G_ok, tMs_237 _, hC, tp_L_ok, tp_G_re⟩ (show am_meth (aP sa) 121 = some aM_121.1 from rfl) aX_121 (by decide +kernel) hP ((tc_go_sa (aP_sa sa _)).trans ((tf_go_s tHC_237).trans tR_237))
noncomputable def tK_238 : tc_Ct := (121, (1, 1), [(2, ([], 0), 0), (0, ([], 7), 0), (0, ([(0, 1)], 0), 0)], ([([(0, -1)], 2147483647), ([(0, 1)], 2147483648)], [(0, 170)], [], [], [], [], []), [], [((1, 1), ([([(0, -1)], 2147483647), ([(0, 1)], 2147483648)], [], [], [], [], [], []), some (0, ([], 0), 0), ([], 0), ([], 0)), ((1, 1), ([([(0, -1)], 100), ([(0, 1)], 0)], [], [], [], [], [], []), some (0, ([], 1), 0), ([], 0), ([], 0))])
noncomputable def tJ_238 : List tc_Pl := []
noncomputable def tC_238 : List tc_Ct := []
def tM_238 (z : Nat) : Option am_Meth := none
set_option maxRecDepth 100000 in
theorem tMs_238 (sa : Nat → Nat) : ∀ z mz, tM_238 z = some mz → am_meth (aP sa) z = some mz := fun z mz h => by cases h
noncomputable def tV_238 : tc_Ev := (aQ, tp_T, tp_G.2, tp_Z, tM_238, tC_238, tp_L, tK_238.2.2.2.2.1, aM_121.1, aW_121, tK_238.2.1, tK_238.2.2.2.2.2, tJ_238)
theorem tE_238 : tK_238.2.2.2.2.2.all (tc_wex tK_238.2.1.1 tK_238.2.1.2) = true := by decide +kernel
theorem tSS_238 : tC_238.all (fun c => tw_mg tK_238.2.2.2.2.1 c.2.2.2.2.1) = true := by decide +kernel
theorem tHC_238 : ∀ c ∈ tC_238, c.2.2.2.2.1.all tK_238.2.2.2.2.1.contains = true ∧ c.2.2.2.2.2.all (tc_wex c.2.1.1 c.2.1.2) = true := tf_hc tSS_238 (by
  intro c hc
  have hc : c ∈ ([] : List tc_Ct) := hc
  cases hc)
noncomputable def tH_238_0 : List tc_It := [de_it 0x2010000, de_it 0x10201010300000001, de_it 0x4010000, de_it 0x2, de_it 0x2, de_it 0x105010302010300000001, de_it 0x2010000, de_it 0x300000001, de_it 0x2010000, de_it 0x101010101060101000000000000000000010001000100010a0000010007, de_it 0x2010000, de_it 0x2, de_it 0x2010000, de_it 0x4010011, de_it 0x10701010001020000010e010002, de_it 0x300000001, de_it 0x2010000, de_it 0x10000010f01010300000001, de_it 0x4010000, de_it 0x10000011001010300000001, de_it 0x2010000, de_it 0x2, de_it 0x4010000, de_it 0x10113010100000300000001, de_it 0x2010000, de_it 0x1100101000000000300000001, de_it 0x2010000, de_it 0x1060101010d010c0201000000000000000000010001000100010a0000010007, de_it 0x4010000, de_it 0x1060101010d010c0201000000000000000000010001000100010a0002010007, de_it 0x2010000, de_it 0x10b010d020101000101000000000000000000010001000100010a0000010007]
set_option maxRecDepth 100000 in
theorem tR_238 : tf_go tV_238 tK_238.2.1.1 tK_238.2.1.2 none tH_238_0 [(tK_238.2.1, tK_238.2.2.2.1, 0, tc_args 0 tK_238.2.2.1, [], ([], 0), ([], 0))] = true := by decide +kernel
set_option maxRecDepth 100000 in
theorem tT_238 {RO : am_O} {sa : Nat → Nat} : tc_true (aP sa) tp_G RO tp_T tp_Z tK_238 := by
  have hC : ∀ c ∈ tC_238, tc_true (aP sa) tp_G RO tp_T tp_Z c := by
    intro c hc
    have hc : c ∈ ([] : List tc_Ct) := hc
    cases hc
  have hP : ∀ p ∈ tJ_238, ∃ hs, tc_plk (aP sa, tV_238.2) p hs = true := by
    intro p hp
    have hp : p ∈ ([] : List tc_Pl) := hp
    cases hp
  exact tc_main (mt := aM_121.1) (hs := tH_238_0) (PL := tJ_238) ⟨tp_G_ok, tMs_238 _, hC, tp_L_ok, tp_G_re⟩ (show am_meth (aP sa) 121 = some aM_121.1 from rfl) aX_121 (by decide +kernel) hP ((tc_go_sa (aP_sa sa _)).trans ((tf_go_s tHC_238).trans tR_238))
noncomputable def tK_239 : tc_Ct := (121, (2, 1), [(2, ([], 0), 0), (0, ([(0, 1)], 0), 0), (0, ([(1, 1)], 0), 0)], ([([(0, -1)], 2147483647), ([(0, 1)], 2147483648), ([(1, -1)], 2147483647), ([(1, 1)], 2147483648)], [(0, 170)], [], [], [], [], []), [], [((2, 1), ([([(0, -1)], 2147483647), ([(0, 1)], 2147483648), ([(1, -1)], 2147483647), ([(1, 1)], 2147483648)], [], [], [], [], [], []), some (0, ([], 0), 0), ([], 0), ([], 0)), ((2, 1), ([([(0, -1)], 7), ([(0, 1)], 0), ([(1, -1)], 2147483647), ([(1, 1)], 0)], [], [], [], [], [], []), some (0, ([], 1), 0), ([], 0), ([], 0))])
noncomputable def tJ_239 : List tc_Pl := []
noncomputable def tC_239 : List tc_Ct := []
def tM_239 (z : Nat) : Option am_Meth := none
set_option maxRecDepth 100000 in
theorem tMs_239 (sa : Nat → Nat) : ∀ z mz, tM_239 z = some mz → am_meth (aP sa) z = some mz := fun z mz h => by cases h
noncomputable def tV_239 : tc_Ev := (aQ, tp_T, tp_G.2, tp_Z, tM_239, tC_239, tp_L, tK_239.2.2.2.2.1, aM_121.1, aW_121, tK_239.2.1, tK_239.2.2.2.2.2, tJ_239)
theorem tE_239 : tK_239.2.2.2.2.2.all (tc_wex tK_239.2.1.1 tK_239.2.1.2) = true := by decide +kernel
theorem tSS_239 : tC_239.all (fun c => tw_mg tK_239.2.2.2.2.1 c.2.2.2.2.1) = true := by decide +kernel
theorem tHC_239 : ∀ c ∈ tC_239, c.2.2.2.2.1.all tK_239.2.2.2.2.1.contains = true ∧ c.2.2.2.2.2.all (tc_wex c.2.1.1 c.2.1.2) = true := tf_hc tSS_239 (by
  intro c hc
  have hc : c ∈ ([] : List tc_Ct) := hc
  cases hc)
noncomputable def tH_239_0 : List tc_It := [de_it 0x2010000, de_it 0x300000001, de_it 0x2010000, de_it 0x1030101010201010101010101040101000000000000000000010001000100010c0000010007, de_it 0x4010000, de_it 0x2, de_it 0x2, de_it 0x300000001, de_it 0x2010000, de_it 0x10301010102010101050107020101000101000000000000000000010001000100010c0000010007, de_it 0x2010000, de_it 0x300000001, de_it 0x2010000, de_it 0x10301010108010101040101010701060201000000000000000000010001000100010c0000010007, de_it 0x2010000, de_it 0x2, de_it 0x2010000, de_it 0x4010011, de_it 0x107010901060301010401010200000002, de_it 0x300000001, de_it 0x2010000, de_it 0x1040101000000000300000001, de_it 0x4010000, de_it 0x10801010102010101040101010f0101000000000000000000010001000100010c0002010007, de_it 0x4010000, de_it 0x300000001, de_it 0x4010000, de_it 0x108010101020101010f010101100101000000000000000000010001000100010c0002010007, de_it 0x2010000, de_it 0x2, de_it 0x4010000, de_it 0x300000001, de_it 0x2010000, de_it 0x10f0101000000000300000001, de_it 0x2010000, de_it 0x108010101020101010e0101010701060201000000000000000000010001000100010c0000010007, de_it 0x4010000, de_it 0x108010101020101010e0101010701060201000000000000000000010001000100010c0002010007, de_it 0x4010000, de_it 0x1100101000000000300000001, de_it 0x2010000, de_it 0x1080101010201010111010101120101000000000000000000010001000100010c0000010007, de_it 0x4010000, de_it 0x1080101010201010111010101120101000000000000000000010001000100010c0002010007, de_it 0x2010000, de_it 0x10801010102010101040101010701060201000000000000000000010001000100010c0000010007]
set_option maxRecDepth 100000 in
theorem tR_239 : tf_go tV_239 tK_239.2.1.1 tK_239.2.1.2 none tH_239_0 [(tK_239.2.1, tK_239.2.2.2.1, 0, tc_args 0 tK_239.2.2.1, [], ([], 0), ([], 0))] = true := by decide +kernel
set_option maxRecDepth 100000 in
theorem tT_239 {RO : am_O} {sa : Nat → Nat} : tc_true (aP sa) tp_G RO tp_T tp_Z tK_239 := by
  have hC : ∀ c ∈ tC_239, tc_true (aP sa) tp_G RO tp_T tp_Z c := by
    intro c hc
    have hc : c ∈ ([] : List tc_Ct) := hc
    cases hc
  have hP : ∀ p ∈ tJ_239, ∃ hs, tc_plk (aP sa, tV_239.2) p hs = true := by
    intro p hp
    have hp : p ∈ ([] : List tc_Pl) := hp
    cases hp
  exact tc_main (mt := aM_121.1) (hs := tH_239_0) (PL := tJ_239) ⟨tp_G_ok, tMs_239 _, hC, tp_L_ok, tp_G_re⟩ (show am_meth (aP sa) 121 = some aM_121.1 from rfl) aX_121 (by decide +kernel) hP ((tc_go_sa (aP_sa sa _)).trans ((tf_go_s tHC_239).trans tR_239))
noncomputable def tK_240 : tc_Ct := (120, (4, 2), [(2, ([], 0), 0), (0, ([(0, 1)], 0), 0), (0, ([(1, 1)], 0), 0), (0, ([(2, 1)], 0), 0)], ([([(0, -1)], 2147483647), ([(0, 1)], 2147483648), ([(1, -1)], 2147483647), ([(1, 1)], 2147483648), ([(2, -1)], 2147483647), ([(2, 1)], 2147483648), ([(3, -1)], 8), ([(3, 1)], 0)], [(0, 165), (1, 201)], [], [(0, 5, (2, ([], 0), 1)), (0, 6, (0, ([(3, 1)], 0), 0))], [], [], [(456, [1], [([], 0), ([(3, 1)], 0), ([], -1)])]), [(221, 0)], [((5, 2), ([([(0, -1)], 2147483647), ([(0, 1)], 2147483648), ([(1, -1)], 2147483647), ([(1, 1)], 2147483648), ([(2, -1)], 2147483647), ([(2, 1)], 2147483648), ([(3, -1)], 8), ([(3, 1)], 0), ([(4, -1)], 10000), ([(4, 1)], 1), ([(3, 1), (4, -1)], 9999)], [], [], [], [], [], []), some (0, ([(4, 1)], 0), 0), ([], 0), ([], 0))])
noncomputable def tJ_240 : List tc_Pl := []
noncomputable def tC_240 : List tc_Ct := [tK_207, tK_239, tK_238, tK_237, tK_236, tK_235, tK_234, tK_233, tK_232, tK_231]
def tM_240 (z : Nat) : Option am_Meth := if z = 121 then some aM_121.1 else if z = 96 then some aM_96.1 else none
set_option maxRecDepth 100000 in
theorem tMs_240 (sa : Nat → Nat) : ∀ z mz, tM_240 z = some mz → am_meth (aP sa) z = some mz := by
  intro z mz h
  unfold tM_240 at h
  rcases de_m h with ⟨rfl, rfl⟩ | h
  · exact (show am_meth (aP sa) 121 = some aM_121.1 from rfl)
  rcases de_m h with ⟨rfl, rfl⟩ | h
  · exact (show am_meth (aP sa) 96 = some aM_96.1 from rfl)
  cases h
noncomputable def tV_240 : tc_Ev := (aQ, tp_T, tp_G.2, tp_Z, tM_240, tC_240, tp_L, tK_240.2.2.2.2.1, aM_120.1, aW_120, tK_240.2.1, tK_240.2.2.2.2.2, tJ_240)
theorem tE_240 : tK_240.2.2.2.2.2.all (tc_wex tK_240.2.1.1 tK_240.2.1.2) = true := by decide +kernel
theorem tSS_240 : tC_240.all (fun c => tw_mg tK_240.2.2.2.2.1 c.2.2.2.2.1) = true := by decide +kernel
theorem tHC_240 : ∀ c ∈ tC_240, c.2.2.2.2.1.all tK_240.2.2.2.2.1.contains = true ∧ c.2.2.2.2.2.all (tc_wex c.2.1.1 c.2.1.2) = true := tf_hc tSS_240 (by
  intro c hc
  have hc : c ∈ ([tK_207, tK_239, tK_238, tK_237, tK_236, tK_235, tK_234, tK_233, tK_232, tK_231] : List tc_Ct) := hc
  rcases List.mem_cons.mp hc with rfl | hc
  · exact tE_207
  rcases List.mem_cons.mp hc with rfl | hc
  · exact tE_239
  rcases List.mem_cons.mp hc with rfl | hc
  · exact tE_238
  rcases List.mem_cons.mp hc with rfl | hc
  · exact tE_237
  rcases List.mem_cons.mp hc with rfl | hc
  · exact tE_236
  rcases List.mem_cons.mp hc with rfl | hc
  · exact tE_235
  rcases List.mem_cons.mp hc with rfl | hc
  · exact tE_234
  rcases List.mem_cons.mp hc with rfl | hc
  · exact tE_233
  rcases List.mem_cons.mp hc with rfl | hc
  · exact tE_232
  rcases List.mem_cons.mp hc with rfl | hc
  · exact tE_231
  cases hc)
noncomputable def tH_240_0 : List tc_It := [de_it 0x4010000, de_it 0x1070101010601010101010101000101000000000000000000000000000000010c000203010002000102020000030006, de_it 0x1010c010100000300000001, de_it 0x2010000, de_it 0x1070101000100010107010101060101010501010104010101030101010201010101010101000101000000000000000000000000000100011301000100010007, de_it 0x10000010e01010300000001, de_it 0x2010000, de_it 0x2, de_it 0x2010000, de_it 0x2010011, de_it 0x10e0108020101090101010c01010109010101090101000000000000000000000000000000000d000204010002000101000002030100000502e2020009, de_it 0x56010015, de_it 0x4010000, de_it 0x201010100000c, de_it 0x10201010100000c, de_it 0x30201010100000c, de_it 0x50201010100000c, de_it 0x70201010100000c, de_it 0x90201010100000c, de_it 0xb0201010100000c, de_it 0xd0201010100000c, de_it 0xf0201010100000c, de_it 0x1050101010401010118010101020101000000000000000000000000000000020c0002020100020101020402020006, de_it 0x10000011d01010300000001, de_it 0x2010000, de_it 0x10b010100010001010b010101060101010501010104010101180101010201010109010101080101000000000000000000000000000100011301000100010007, de_it 0x11901180201010000000b, de_it 0x117010101180101020e000104010014, de_it 0x117010101180101020e000102010013, de_it 0x105010101040101000000000000000000000000000000020a00020201010404020006, de_it 0x10000011b01010300000001, de_it 0x2010000, de_it 0x10b010100010001010b010101060101010501010104010101170101011801010109010101080101000000000000000000000000000100011301000100010007, de_it 0x1011c010100000300000001, de_it 0x2010000, de_it 0x2, de_it 0x2010000, de_it 0x56010015, de_it 0x2, de_it 0x2010000, de_it 0x6010011, de_it 0x11c01010001020000010e010002, de_it 0x4010000, de_it 0x2, de_it 0x2010000, de_it 0x56010015, de_it 0x2, de_it 0x4010000, de_it 0x1190101011a0101011c01010001040000010e010003, de_it 0x2010000, de_it 0x121010b02010120010101210101010b010101060101011a010101190101011701010118010101090101010801010000000000000000000000000001000113000206010100010007, de_it 0x116010101170101020c000104010014, de_it 0x116010101170101020c000102010013, de_it 0x105010101040101000000000000000000000000000000020a00020201010406020006, de_it 0x10000011a01010300000001, de_it 0x2010000, de_it 0x10b010100010001010b010101060101010501010104010101160101011701010109010101080101000000000000000000000000000100011301000100010007, de_it 0x1011b010100000300000001, de_it 0x2010000, de_it 0x2, de_it 0x2010000, de_it 0x56010015, de_it 0x2, de_it 0x2010000, de_it 0x6010011, de_it 0x11b01010001020000010c010002, de_it 0x4010000, de_it 0x2, de_it 0x2010000, de_it 0x56010015, de_it 0x2, de_it 0x4010000, de_it 0x118010101190101011b01010001040000010c010003, de_it 0x2010000, de_it 0x120010b0201011f010101200101010b0101010601010119010101180101011601010117010101090101010801010000000000000000000000000001000113000206010100010007, de_it 0x115010101160101020a000104010014, de_it 0x115010101160101020a000102010013, de_it 0x105010101040101000000000000000000000000000000020a00020201010408020006, de_it 0x10000011901010300000001, de_it 0x2010000, de_it 0x10b010100010001010b010101060101010501010104010101150101011601010109010101080101000000000000000000000000000100011301000100010007, de_it 0x1011a010100000300000001, de_it 0x2010000, de_it 0x2, de_it 0x2010000, de_it 0x56010015, de_it 0x2, de_it 0x2010000, de_it 0x6010011, de_it 0x11a01010001020000010a010002, de_it 0x4010000, de_it 0x2, de_it 0x2010000, de_it 0x56010015, de_it 0x2, de_it 0x4010000, de_it 0x117010101180101011a01010001040000010a010003, de_it 0x2010000, de_it 0x11f010b0201011e0101011f0101010b0101010601010118010101170101011501010116010101090101010801010000000000000000000000000001000113000206010100010007, de_it 0x1140101011501010208000104010014, de_it 0x1140101011501010208000102010013, de_it 0x105010101040101000000000000000000000000000000020a0002020101040a020006, de_it 0x10000011801010300000001, de_it 0x2010000, de_it 0x10b010100010001010b010101060101010501010104010101140101011501010109010101080101000000000000000000000000000100011301000100010007, de_it 0x10119010100000300000001, de_it 0x2010000, de_it 0x2, de_it 0x2010000, de_it 0x56010015, de_it 0x2, de_it 0x2010000, de_it 0x6010011, de_it 0x119010100010200000108010002, de_it 0x4010000, de_it 0x2, de_it 0x2010000, de_it 0x56010015, de_it 0x2, de_it 0x4010000, de_it 0x1160101011701010119010100010400000108010003, de_it 0x2010000, de_it 0x11e010b0201011d0101011e0101010b0101010601010117010101160101011401010115010101090101010801010000000000000000000000000001000113000206010100010007, de_it 0x1130101011401010206000104010014, de_it 0x1130101011401010206000102010013, de_it 0x105010101040101000000000000000000000000000000020a0002020101040c020006, de_it 0x10000011701010300000001, de_it 0x2010000, de_it 0x10b010100010001010b010101060101010501010104010101130101011401010109010101080101000000000000000000000000000100011301000100010007, de_it 0x10118010100000300000001, de_it 0x2010000, de_it 0x2, de_it 0x2010000, de_it 0x56010015, de_it 0x2, de_it 0x2010000, de_it 0x6010011, de_it 0x118010100010200000106010002, de_it 0x4010000, de_it 0x2, de_it 0x2010000, de_it 0x56010015, de_it 0x2, de_it 0x4010000, de_it 0x1150101011601010118010100010400000106010003, de_it 0x2010000, de_it 0x11d010b0201011c0101011d0101010b0101010601010116010101150101011301010114010101090101010801010000000000000000000000000001000113000206010100010007, de_it 0x1120101011301010204000104010014, de_it 0x1120101011301010204000102010013, de_it 0x105010101040101000000000000000000000000000000020a0002020101040e020006, de_it 0x10000011601010300000001, de_it 0x2010000, de_it 0x10b010100010001010b010101060101010501010104010101120101011301010109010101080101000000000000000000000000000100011301000100010007, de_it 0x10117010100000300000001, de_it 0x2010000, de_it 0x2, de_it 0x2010000, de_it 0x56010015, de_it 0x2, de_it 0x2010000, de_it 0x6010011, de_it 0x117010100010200000104010002, de_it 0x4010000, de_it 0x2, de_it 0x2010000, de_it 0x56010015, de_it 0x2, de_it 0x4010000, de_it 0x1140101011501010117010100010400000104010003, de_it 0x2010000, de_it 0x11c010b0201011b0101011c0101010b0101010601010115010101140101011201010113010101090101010801010000000000000000000000000001000113000206010100010007, de_it 0x1110101011201010202000104010014, de_it 0x1110101011201010202000102010013, de_it 0x105010101040101000000000000000000000000000000020a00020201010410020006, de_it 0x10000011501010300000001, de_it 0x2010000, de_it 0x10b010100010001010b010101060101010501010104010101110101011201010109010101080101000000000000000000000000000100011301000100010007, de_it 0x10116010100000300000001, de_it 0x2010000, de_it 0x2, de_it 0x2010000, de_it 0x56010015, de_it 0x2, de_it 0x2010000, de_it 0x6010011, de_it 0x116010100010200000102010002, de_it 0x4010000, de_it 0x2, de_it 0x2010000, de_it 0x56010015, de_it 0x2, de_it 0x4010000, de_it 0x1130101011401010116010100010400000102010003, de_it 0x2010000, de_it 0x11b010b0201011a0101011b0101010b0101010601010114010101130101011101010112010101090101010801010000000000000000000000000001000113000206010100010007, de_it 0x1100101011101010200000104010014, de_it 0x1100101011101010200000102010013, de_it 0x105010101040101000000000000000000000000000000020a00020201010412020006, de_it 0x10000011401010300000001, de_it 0x2010000, de_it 0x10b010100010001010b010101060101010501010104010101100101011101010109010101080101000000000000000000000000000100011301000100010007, de_it 0x10115010100000300000001, de_it 0x2010000, de_it 0x2, de_it 0x2010000, de_it 0x56010015, de_it 0x2, de_it 0x2010000, de_it 0x6010011, de_it 0x115010100010200000100010002, de_it 0x4010000, de_it 0x2, de_it 0x2010000, de_it 0x56010015, de_it 0x2, de_it 0x4010000, de_it 0x1120101011301010115010100010400000100010003, de_it 0x2010000, de_it 0x11a010b020101190101011a0101010b0101010601010113010101120101011001010111010101090101010801010000000000000000000000000001000113000206010100010007, de_it 0x1050101010401010103010101100101000000000000000000000000000000020c0002020100020101020402020006, de_it 0x10000011501010300000001, de_it 0x2010000, de_it 0x10b010100010001010b010101060101010501010104010101030101011001010109010101080101000000000000000000000000000100011301000100010007, de_it 0x11201100201010000000b]
set_option maxRecDepth 100000 in
theorem tR_240 : tf_go tV_240 tK_240.2.1.1 tK_240.2.1.2 none tH_240_0 [(tK_240.2.1, tK_240.2.2.2.1, 0, tc_args 0 tK_240.2.2.1, [], ([], 0), ([], 0))] = true := by decide +kernel
set_option maxRecDepth 100000 in
theorem tT_240 {RO : am_O} {sa : Nat → Nat} (h_207 : tc_true (aP sa) tp_G RO tp_T tp_Z tK_207) (h_231 : tc_true (aP sa) tp_G RO tp_T tp_Z tK_231) (h_232 : tc_true (aP sa) tp_G RO tp_T tp_Z tK_232) (h_233 : tc_true (aP sa) tp_G RO tp_T tp_Z tK_233) (h_234 : tc_true (aP sa) tp_G RO tp_T tp_Z tK_234) (h_235 : tc_true (aP sa) tp_G RO tp_T tp_Z tK_235) (h_236 : tc_true (aP sa) tp_G RO tp_T tp_Z tK_236) (h_237 : tc_true (aP sa) tp_G RO tp_T tp_Z tK_237) (h_238 : tc_true (aP sa) tp_G RO tp_T tp_Z tK_238) (h_239 : tc_true (aP sa) tp_G RO tp_T tp_Z tK_239) : tc_true (aP sa) tp_G RO tp_T tp_Z tK_240 := by
  have hC : ∀ c ∈ tC_240, tc_true (aP sa) tp_G RO tp_T tp_Z c := by
    intro c hc
    have hc : c ∈ ([tK_207, tK_239, tK_238, tK_237, tK_236, tK_235, tK_234, tK_233, tK_232, tK_231] : List tc_Ct) := hc
    rcases List.mem_cons.mp hc with rfl | hc
    · exact h_207
    rcases List.mem_cons.mp hc with rfl | hc
    · exact h_239
    rcases List.mem_cons.mp hc with rfl | hc
    · exact h_238
    rcases List.mem_cons.mp hc with rfl | hc
    · exact h_237
    rcases List.mem_cons.mp hc with rfl | hc
    · exact h_236
    rcases List.mem_cons.mp hc with rfl | hc
    · exact h_235
    rcases List.mem_cons.mp hc with rfl | hc
    · exact h_234
    rcases List.mem_cons.mp hc with rfl | hc
    · exact h_233
    rcases List.mem_cons.mp hc with rfl | hc
    · exact h_232
    rcases List.mem_cons.mp hc with rfl | hc
    · exact h_231
    cases hc
  have hP : ∀ p ∈ tJ_240, ∃ hs, tc_plk (aP sa, tV_240.2) p hs = true := by
    intro p hp
    have hp : p ∈ ([] : List tc_Pl) := hp
    cases hp
  exact tc_main (mt := aM_120.1) (hs := tH_240_0) (PL := tJ_240) ⟨tp_G_ok, tMs_240 _, hC, tp_L_ok, tp_G_re⟩ (show am_meth (aP sa) 120 = some aM_120.1 from rfl) aX_120 (by decide +kernel) hP ((tc_go_sa (aP_sa sa _)).trans ((tf_go_s tHC_240).trans tR_240))
noncomputable def tK_241 : tc_Ct := (13, (5, 3), [(2, ([], 0), 0), (2, ([], 0), 1), (0, ([], 0), 0), (0, ([(0, 1)], 0), 0)], ([([(0, -1)], 200), ([(0, 1)], 0), ([(1, -1)], 200), ([(1, 1)], 0), ([(2, -1)], 1600), ([(2, 1)], -64), ([(3, -1)], 400), ([(3, 1)], -8), ([(4, -1)], 8000000), ([(4, 1)], 0), ([(0, -1), (1, -1)], 200), ([(0, -1), (2, 1)], 0)], [(0, 181), (1, 193), (2, 193)], [(1, ([(2, 1)], 0)), (2, ([(3, 1)], 0))], [(0, 0, (2, ([], 0), 2)), (0, 1, (0, ([(1, 1)], 0), 0))], [], [], [(1016, [], []), (1088, [], []), (1136, [], [([(4, 1)], 0)])]), [(181, 0), (181, 1), (193, 0), (193, 1000)], [((9, 3), ([([(0, -1)], 200), ([(0, 1)], 0), ([(1, -1)], 200), ([(1, 1)], 0), ([(2, -1)], 1600), ([(2, 1)], -64), ([(3, -1)], 400), ([(3, 1)], -8), ([(4, -1)], 8000000), ([(4, 1)], 0), ([(5, -1)], 200), ([(5, 1)], 0), ([(6, -1)], 1), ([(6, 1)], 0), ([(7, -1)], 398), ([(7, 1)], 0), ([(8, -1)], 8000000), ([(8, 1)], 398), ([(0, -1), (1, -1)], 200), ([(0, -1), (2, 1)], 0), ([(0, -1), (5, 1)], 0), ([(1, -1), (5, 1)], 0), ([(6, -16), (7, 1)], 0), ([(0, -1), (1, -1), (5, 1)], 0), ([(0, 1), (1, 1), (5, -1)], 0), ([(4, 1), (7, -1), (8, -1)], 0)], [], [(1, ([(2, 1)], 0)), (2, ([(3, 1)], 0))], [(0, 1, (0, ([(5, 1)], 0), 0))], [], [], [(1136, [], [([(8, 1)], 0)])]), none, ([(6, 1)], 0), ([(7, 1)], 0))])
noncomputable def tJ_241 : List tc_Pl := []
noncomputable def tC_241 : List tc_Ct := [tK_0]
def tM_241 (z : Nat) : Option am_Meth := if z = 8 then some aM_8.1 else none
set_option maxRecDepth 100000 in
theorem tMs_241 (sa : Nat → Nat) : ∀ z mz, tM_241 z = some mz → am_meth (aP sa) z = some mz := by
  intro z mz h
  unfold tM_241 at h
  rcases de_m h with ⟨rfl, rfl⟩ | h
  · exact (show am_meth (aP sa) 8 = some aM_8.1 from rfl)
  cases h
noncomputable def tV_241 : tc_Ev := (aQ, tp_T, tp_G.2, tp_Z, tM_241, tC_241, tp_L, tK_241.2.2.2.2.1, aM_13.1, aW_13, tK_241.2.1, tK_241.2.2.2.2.2, tJ_241)
theorem tE_241 : tK_241.2.2.2.2.2.all (tc_wex tK_241.2.1.1 tK_241.2.1.2) = true := by decide +kernel
theorem tSS_241 : tC_241.all (fun c => tw_mg tK_241.2.2.2.2.1 c.2.2.2.2.1) = true := by decide +kernel
theorem tHC_241 : ∀ c ∈ tC_241, c.2.2.2.2.1.all tK_241.2.2.2.2.1.contains = true ∧ c.2.2.2.2.2.all (tc_wex c.2.1.1 c.2.1.2) = true := tf_hc tSS_241 (by
  intro c hc
  have hc : c ∈ ([tK_0] : List tc_Ct) := hc
  rcases List.mem_cons.mp hc with rfl | hc
  · exact tE_0
  cases hc)
noncomputable def tH_241_0 : List tc_It := [de_it 0x2010000, de_it 0x10c01010300000001, de_it 0x4010000, de_it 0x2, de_it 0x10d010b02010300000001, de_it 0x4010000, de_it 0x300000001, de_it 0x101010101010e0101000100010103010e02010105010e0201010a0101010901010108010100010001000100010103010101020101010901010108010101070101010601010105010101040101010301010102010101010101010e010100000000000000000000000000010001220002040100000000000201010400010007, de_it 0x2010000, de_it 0x2, de_it 0x10010, de_it 0x4010000, de_it 0x1000101010e01010200000001, de_it 0x10a01010103010e02010200000001, de_it 0x2010000, de_it 0x112010a020100000300000001, de_it 0x2010000, de_it 0x2, de_it 0x2010000, de_it 0x10a01010103010e02010200000001, de_it 0x2010000, de_it 0x10a01010103010e02010200000001, de_it 0x2010000, de_it 0x2, de_it 0x2, de_it 0x300000001, de_it 0x6010000, de_it 0x2, de_it 0x2010000, de_it 0x2, de_it 0x4010000, de_it 0x1000101010e01010200000001, de_it 0x1130101010b0101000101030101010e01010500000005, de_it 0x4010000, de_it 0x2, de_it 0x4010000, de_it 0x1000101010e01010200000001, de_it 0x10a01010103010e02010200000001, de_it 0x10701010106010101130101010a01010103010e0201000000000700000003, de_it 0x1000100010001010e010101030101010b0101010a0101010901010108010100010001000100010103010e0201010a010101090101010801010107010101060101010501010104010101030101010e010a0201010e010101000101000000000000000000000000000100012200020401000000000002010200020400010007, de_it 0x4010000, de_it 0x2, de_it 0x4010000, de_it 0x2, de_it 0x2, de_it 0x213020a0201020701010200000001, de_it 0x2010000, de_it 0x2, de_it 0x2010000, de_it 0x10a01010107011302010200000001, de_it 0x2010000, de_it 0x10a01010107011302010200000001, de_it 0x200000005, de_it 0x114010702010107010a0201010701010114010a0202020701140201010a0101000000000000000000000000000000000e00020301000201020002020400020006, de_it 0x80002010200020002030100020401030604000000000000000144ff040009, de_it 0x20701140201010a0101010f01070114030100000000000000000700000003, de_it 0x6010000, de_it 0x2, de_it 0x2010000, de_it 0x2, de_it 0x4010000, de_it 0x1000101010f0107011403010200000001, de_it 0x1010b0101000101030101010f0107011403010500000005, de_it 0x4010000, de_it 0x2, de_it 0x4010000, de_it 0x1000101010f0107011403010200000001, de_it 0x10a01010207011402010200000001, de_it 0x20701140201010a01010001010a0101020701140201000000000700000003, de_it 0x114010100000000000000000000000000000000090002040101010003000204040303010300040202010009, de_it 0x100010001020701140201010f01070114030101030101010b0101010a01010109010a02010207010801140301020701140201010a010100010001020701140201010a01010109010101080101010701010114010a0202010501010104010101030101020f0114010a0302010f010701140301010001010000000000000000000000000001000122000204010101000300020102000202000002010200020400010007, de_it 0x10701010113010a0201010701010113010a0201020701010213020a0201000000000000000000000000000000000e0002030100040301020400020006, de_it 0x8000403010002030100020401030604000000000000000144ff040009, de_it 0x11601010213020a02010116020f020200000000000000000700000003, de_it 0x6010000, de_it 0x2, de_it 0x2010000, de_it 0x2, de_it 0x4010000, de_it 0x1000101010e01010200000001, de_it 0x1140101010b0101000101030101010e01010500000005, de_it 0x4010000, de_it 0x2, de_it 0x4010000, de_it 0x1000101010e01010200000001, de_it 0x10a01010116021302020200000001, de_it 0x11601010213020a020101140101010a0101011602130202000000000700000003, de_it 0x10001000101160101010e010101030101010b0101010a010102130109020a0301010801160201011601010213020a020100010001011602130202010a01010109010101080101011601020113010a0201010501010104010101030101010f0113010a0301010e01010100010100000000000000000000000000010001220002040303020004030102000002010200020400010007]
set_option maxRecDepth 100000 in
theorem tR_241 : tf_go tV_241 tK_241.2.1.1 tK_241.2.1.2 none tH_241_0 [(tK_241.2.1, tK_241.2.2.2.1, 0, tc_args 0 tK_241.2.2.1, [], ([], 0), ([], 0))] = true := by decide +kernel
set_option maxRecDepth 100000 in
theorem tT_241 {RO : am_O} {sa : Nat → Nat} (h_0 : tc_true (aP sa) tp_G RO tp_T tp_Z tK_0) : tc_true (aP sa) tp_G RO tp_T tp_Z tK_241 := by
  have hC : ∀ c ∈ tC_241, tc_true (aP sa) tp_G RO tp_T tp_Z c := by
    intro c hc
    have hc : c ∈ ([tK_0] : List tc_Ct) := hc
    rcases List.mem_cons.mp hc with rfl | hc
    · exact h_0
    cases hc
  have hP : ∀ p ∈ tJ_241, ∃ hs, tc_plk (aP sa, tV_241.2) p hs = true := by
    intro p hp
    have hp : p ∈ ([] : List tc_Pl) := hp
    cases hp
  exact tc_main (mt := aM_13.1) (hs := tH_241_0) (PL := tJ_241) ⟨tp_G_ok, tMs_241 _, hC, tp_L_ok, tp_G_re⟩ (show am_meth (aP sa) 13 = some aM_13.1 from rfl) aX_13 (by decide +kernel) hP ((tc_go_sa (aP_sa sa _)).trans ((tf_go_s tHC_241).trans tR_241))
noncomputable def tK_242 : tc_Ct := (122, (3, 2), [(2, ([], 0), 0), (0, ([(0, 1)], 0), 0)], ([([(0, -1)], 2147483647), ([(0, 1)], 2147483648), ([(1, -1)], 8), ([(1, 1)], 0), ([(2, -1)], 8000000), ([(2, 1)], 0)], [(0, 165), (1, 201)], [], [(0, 5, (2, ([], 0), 1)), (0, 6, (0, ([(1, 1)], 0), 0))], [], [], [(1016, [], []), (1024, [], []), (1088, [], []), (1096, [], []), (1136, [], [([(2, 1)], 0)]), (456, [1], [([], 0), ([(1, 1)], 0), ([], -1)])]), [(177, 1), (181, 0), (181, 1), (193, 0), (193, 1000)], [((7, 2), ([([(0, -1)], 2147483647), ([(0, 1)], 2147483648), ([(1, -1)], 8), ([(1, 1)], 0), ([(2, -1)], 8000000), ([(2, 1)], 0), ([(3, -1)], 200), ([(3, 1)], 3), ([(4, -1)], 1), ([(4, 1)], 0), ([(5, -1)], 398), ([(5, 1)], 0), ([(6, -1)], 8000000), ([(6, 1)], 398), ([(1, 1), (3, -1)], 199), ([(1, 1), (3, 1)], 2), ([(4, -16), (5, 1)], 0), ([(2, 1), (5, -1), (6, -1)], 0)], [], [], [], [], [], [(1136, [], [([(6, 1)], 0)])]), some (0, ([(3, 1)], 0), 0), ([(4, 1)], 0), ([(5, 1)], 0))])
noncomputable def tJ_242 : List tc_Pl := []
noncomputable def tC_242 : List tc_Ct := [tK_207, tK_241, tK_16]
def tM_242 (z : Nat) : Option am_Meth := if z = 96 then some aM_96.1 else if z = 23 then some aM_23.1 else if z = 13 then some aM_13.1 else none
set_option maxRecDepth 100000 in
theorem tMs_242 (sa : Nat → Nat) : ∀ z mz, tM_242 z = some mz → am_meth (aP sa) z = some mz := by
  intro z mz h
  unfold tM_242 at h
  rcases de_m h with ⟨rfl, rfl⟩ | h
  · exact (show am_meth (aP sa) 96 = some aM_96.1 from rfl)
  rcases de_m h with ⟨rfl, rfl⟩ | h
  · exact (show am_meth (aP sa) 23 = some aM_23.1 from rfl)
  rcases de_m h with ⟨rfl, rfl⟩ | h
  · exact (show am_meth (aP sa) 13 = some aM_13.1 from rfl)
  cases h
noncomputable def tV_242 : tc_Ev := (aQ, tp_T, tp_G.2, tp_Z, tM_242, tC_242, tp_L, tK_242.2.2.2.2.1, aM_122.1, aW_122, tK_242.2.1, tK_242.2.2.2.2.2, tJ_242)
theorem tE_242 : tK_242.2.2.2.2.2.all (tc_wex tK_242.2.1.1 tK_242.2.1.2) = true := by decide +kernel
theorem tSS_242 : tC_242.all (fun c => tw_mg tK_242.2.2.2.2.1 c.2.2.2.2.1) = true := by decide +kernel
theorem tHC_242 : ∀ c ∈ tC_242, c.2.2.2.2.1.all tK_242.2.2.2.2.1.contains = true ∧ c.2.2.2.2.2.all (tc_wex c.2.1.1 c.2.1.2) = true := tf_hc tSS_242 (by
  intro c hc
  have hc : c ∈ ([tK_207, tK_241, tK_16] : List tc_Ct) := hc
  rcases List.mem_cons.mp hc with rfl | hc
  · exact tE_207
  rcases List.mem_cons.mp hc with rfl | hc
  · exact tE_241
  rcases List.mem_cons.mp hc with rfl | hc
  · exact tE_16
  cases hc)
noncomputable def tH_242_0 : List tc_It := [de_it 0x4010000, de_it 0x1030101010201010101010101000101000000000000000000000000000000010c000201010002000102020000030006, de_it 0x10000010a01010300000001, de_it 0x2010000, de_it 0x1000101030101010301010105010101040101000100010001000100010001010501010104010101030101010201010101010101000101000000000000000000000000000100011a000202010000000001000400010007, de_it 0x1010c010100000300000001, de_it 0x2010000, de_it 0x2, de_it 0x2010000, de_it 0x2010011, de_it 0x10c0106020101070101010a01010107010101070101000000000000000000000000000000000d000203010002000101000002010100000502e2020009, de_it 0x56010015, de_it 0x2, de_it 0x4010000, de_it 0x2, de_it 0x2010000, de_it 0x2, de_it 0x2, de_it 0x111010f02010110010e02010200000001, de_it 0x2010000, de_it 0x300000001, de_it 0x4010000, de_it 0x2, de_it 0x2, de_it 0xa010011, de_it 0x8010010, de_it 0x4010000, de_it 0x2, de_it 0x2, de_it 0x602000f, de_it 0xc010011, de_it 0x6010010, de_it 0x1150101011201010105010101040101011c0101011b01010117010101160101010e0101010f010101100101010e0112020100000000000000000000000000000003140002020100020701000206010002040100020501050c0a0602040006, de_it 0x6c6a686664625c5a58565452504e3a3836342e2c2a24201e1c1a1814120e0c0a080422000d, de_it 0x2010000, de_it 0x2, de_it 0x10d0101010f0101010e0101010b010101130101000000000000000000000000000000000d0002060100020501020a0804030006, de_it 0x2010000, de_it 0x2, de_it 0x1210101011e0101011501050201011401050201011b0101011a0101011901010118010101170101011601010115010101140101010201010101010101050101010001010104010101030101000000000000000000000000000100011a00020b0100020a0100020901000208010400010007, de_it 0x2010000, de_it 0x1000101090101010901010105010101040101000100010001000100010001010501010104010101090101010201010107010101060101000000000000000000000000000100011a000202010000000005000400010007]
set_option maxRecDepth 100000 in
theorem tR_242 : tf_go tV_242 tK_242.2.1.1 tK_242.2.1.2 none tH_242_0 [(tK_242.2.1, tK_242.2.2.2.1, 0, tc_args 0 tK_242.2.2.1, [], ([], 0), ([], 0))] = true := by decide +kernel
set_option maxRecDepth 100000 in
theorem tT_242 {RO : am_O} {sa : Nat → Nat} (h_16 : tc_true (aP sa) tp_G RO tp_T tp_Z tK_16) (h_207 : tc_true (aP sa) tp_G RO tp_T tp_Z tK_207) (h_241 : tc_true (aP sa) tp_G RO tp_T tp_Z tK_241) : tc_true (aP sa) tp_G RO tp_T tp_Z tK_242 := by
  have hC : ∀ c ∈ tC_242, tc_true (aP sa) tp_G RO tp_T tp_Z c := by
    intro c hc
    have hc : c ∈ ([tK_207, tK_241, tK_16] : List tc_Ct) := hc
    rcases List.mem_cons.mp hc with rfl | hc
    · exact h_207
    rcases List.mem_cons.mp hc with rfl | hc
    · exact h_241
    rcases List.mem_cons.mp hc with rfl | hc
    · exact h_16
    cases hc
  have hP : ∀ p ∈ tJ_242, ∃ hs, tc_plk (aP sa, tV_242.2) p hs = true := by
    intro p hp
    have hp : p ∈ ([] : List tc_Pl) := hp
    cases hp
  exact tc_main (mt := aM_122.1) (hs := tH_242_0) (PL := tJ_242) ⟨tp_G_ok, tMs_242 _, hC, tp_L_ok, tp_G_re⟩ (show am_meth (aP sa) 122 = some aM_122.1 from rfl) aX_122 (by decide +kernel) hP ((tc_go_sa (aP_sa sa _)).trans ((tf_go_s tHC_242).trans tR_242))
